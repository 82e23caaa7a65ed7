/-! THE PURE PART: the reading of a text: conditions -/
section COND
variable {b : Nat → Nat} {len : Nat} {M0 N0 : lu_M} {us co : Nat}
theorem FA.st {M N : lu_M} (F : FA b len M0 N0 co M N) (v : Int32) : FA b len M0 N0 co M (lu_st N 0 27 v) := by
  obtain ⟨a1, a2, a3, a4, a5, T, f, a6, A, a7⟩ := F
  refine ⟨a1, a2, fun r h1 h2 => by rw [lu_st_row h1]; exact a3 r h1 h2, fun i hi => by rw [lu_st_ne (by omega)]; exact a4 i hi, fun k hk => by rw [lu_st_row (by omega)]; exact a5 k hk, ⟨T.1, by rw [lu_st_ne (by omega)]; exact T.2.1, fun i hi => by rw [lu_st_row (by omega)]; exact T.2.2.1 i hi, T.2.2.2⟩, f, a6, ⟨A.1, by rw [lu_st_ne (by omega)]; exact A.2.1, by rw [lu_st_ne (by omega)]; exact A.2.2⟩, by rw [lu_st_ne (by omega)]; exact a7⟩
theorem ST.st {M N : lu_M} {o f : Nat} {l : List Tk} {x : List Int32} (S : ST b len M0 N0 us co o f l x M N) (o' : Nat) : ST b len M0 N0 us co o' f l x M (lu_st N 0 27 (nI o')) := by
  rw [p_st]
  exact S.n0 (fun i h1 h2 => upd_ne h2) (p_us ..)
theorem ST.nm {M N : lu_M} {o f : Nat} {l : List Tk} {x : List Int32} (S : ST b len M0 N0 us co o f l x M N) {j : Nat} (hj : j < 18) : f8_isNamed j M = some (p_b (g_is b len f j), M) ∧ f12_word N = some (g_wd b len f false, N) ∧ ((lg_cmp (g_wd b len f false) (lN (g_cd j)) = 0) ↔ g_is b len f j = true) :=
  ⟨k_isNamed S.tc S.at' hj, t_word S.tn S.an (wr := false) S.w0, g_wd_is S.tn.1 S.tn.2.2.2 S.fl hj⟩
theorem g_is_lt {f j : Nat} (h : g_is b len f j = true) : f < len := by
  unfold g_is at h
  rw [Bool.and_eq_true] at h
  exact g_Ll b len f h.1
/-- pieces joined by one name -/
theorem ST.loop {o f H j : Nat} (hj : j < 18) {l : List Tk} {c code : Int32} {t : Tk} (ht : e_M t = [code]) (hc : e_C t = c) (hh : ∀ h, o_h t (h + 2) = some (h + 1)) (hok : o_ok t) (XC : lu_M → Option (Int32 × lu_M)) (XN : lu_M → Option lu_M) (HX : ∀ (M N : lu_M) (f : Nat) (l : List Tk), ST b len M0 N0 us co o f l [] M N → OU b len M0 N0 us co o f l (H + 1) (XC M) (XN N)) (LC : Nat → Int32 → lu_M → Option (Int32 × lu_M)) (LN : Nat → lu_M → Option lu_M) (hLC : ∀ q v z, LC (q + 1) v z = if (200 : Int32) ≤ v then some (1, z) else lu_bi (f8_isNamed j z) fun x3 m4 => if x3 = 0 then some (1, m4) else lu_bv (f8_advance m4) fun m5 => lu_bi (XC m5) fun x6 m7 => if x6 = 0 then some (0, m7) else lu_bv (f6_add 85 c m7) fun m8 => LC q (v + 1) m8) (hLN : ∀ q z, LN (q + 1) z = lu_bi (f12_word z) fun x2 m3 => if lg_cmp x2 (lN (g_cd j)) = 0 then lu_bv (f12_wants (1 : Int32) m3) fun m4 => lu_bv (XN m4) fun m5 => lu_bv (f12_writes code m5) fun m6 => LN q m6 else some m3) : ∀ (n k q1 q2 f1 : Nat) (lx : List Tk) (M N : lu_M), len ≤ f1 + n → k ≤ f1 → n < q1 → n < q2 → ST b len M0 N0 us co o f1 (l ++ lx) [] M N → f < f1 → (e_Ms lx).length + f ≤ f1 → (∀ h, h ≤ H → o_hs lx h = some (h + 1)) → (∀ t ∈ lx, o_ok t) → OU b len M0 N0 us co o f l H (LC q1 (nI k) M) (LN q2 N)
  | n, k, q1, q2, f1, lx, M, N, hn, hk, hq1, hq2, S, h1, h2, h3, h4 => by
    obtain ⟨q1, rfl⟩ : ∃ r, q1 = r + 1 := ⟨q1 - 1, by omega⟩
    obtain ⟨q2, rfl⟩ : ∃ r, q2 = r + 1 := ⟨q2 - 1, by omega⟩
    have hl := S.l2
    have hf1 := S.fl
    have hbd := S.bd
    obtain ⟨w1, w2, w3⟩ := S.nm hj
    rw [hLC, hLN, w2, p_bi, show (200 : Int32) = nI 200 from rfl, q_le (by omega) (by omega)]
    cases hb : g_is b len f1 j
    · have hw : ¬ lg_cmp (g_wd b len f1 false) (lN (g_cd j)) = 0 := fun q => by rw [w3, hb] at q; exact p_ff q
      rw [if_neg hw, w1, p_bi, p_if, hb, if_neg p_ff]
      refine Or.inl ⟨M, N, f1, lx, ?_, rfl, S, h1, h2, h3, h4⟩
      split <;> rfl
    · have hlt := g_is_lt hb
      obtain ⟨n, rfl⟩ : ∃ r, n = r + 1 := ⟨n - 1, by omega⟩
      obtain ⟨M2, N2, f2, c1, c2, S2, r1, r2, -⟩ := S.go
      have hf12 := r2 hlt
      rw [if_neg (by omega), if_pos (w3.mpr hb), w1, p_bi, p_if, hb, if_pos rfl, c1, p_bv, c2, p_bv]
      rcases HX M2 N2 f2 (l ++ lx) S2 with ⟨M3, N3, f3, ly, d1, d2, S3, s1, s2, s3, s4⟩ | ⟨M3, N3, d1, d2, F⟩
      · rw [d1, p_bi, if_neg (by decide), d2, p_bv]
        have hlen : (e_Ms (l ++ lx ++ ly)).length = (e_Ms (l ++ lx)).length + (e_Ms ly).length := by rw [e_Ms_app, List.length_append]
        have h0 : ([] : List Int32).length = 0 := rfl
        obtain ⟨N4, w4, S4⟩ := S3.wr code (by rw [hlen, h0]; rw [h0] at hbd; omega)
        obtain ⟨M5, w5, S5⟩ := S4.ad (t := t) (by rw [ht]; rfl) (by simp)
        rw [hc] at w5
        have S5' : ST b len M0 N0 us co o f3 (l ++ (lx ++ ly ++ [t])) [] M5 N4 := by
          have e : l ++ (lx ++ ly ++ [t]) = l ++ lx ++ ly ++ [t] := by simp
          rw [e]
          exact S5
        have hl1 : (e_Ms (lx ++ ly ++ [t])).length = (e_Ms lx).length + (e_Ms ly).length + 1 := by
          rw [e_Ms_app, e_Ms_app, List.length_append, List.length_append]
          have : (e_Ms [t]).length = 1 := by
            show (e_M t ++ []).length = 1
            rw [ht]; rfl
          rw [this]
        rw [w5, p_bv, w4, p_bv, p_next]
        exact ST.loop hj ht hc hh hok XC XN HX LC LN hLC hLN n (k + 1) q1 q2 f3 (lx ++ ly ++ [t]) M5 N4 (by omega) (by omega) (by omega) (by omega) S5' (by omega) (by rw [hl1]; omega) (fun h hH => by
          rw [o_hs_app, o_hs_app, h3 h hH]
          show ((o_hs ly (h + 1)).bind (o_hs [t])) = _
          rw [s3 (h + 1) (by omega)]
          show (o_h t (h + 2)).bind (o_hs []) = _
          rw [hh h]; rfl) (fun u hu => by
          rw [List.mem_append, List.mem_append] at hu
          rcases hu with (hu | hu) | hu
          · exact h4 u hu
          · exact s4 u hu
          · have e : u = t := by simpa using hu
            rw [e]; exact hok)
      · obtain ⟨-, -, -, -, -, T2, f', -, A2, h29⟩ := id F
        rw [d1, p_bi, if_pos rfl, d2, p_bv, st_writes h29, p_bv]
        refine Or.inr ⟨M3, N3, rfl, ?_, F⟩
        obtain ⟨q2, rfl⟩ : ∃ r, q2 = r + 1 := ⟨q2 - 1, by omega⟩
        rw [hLN, st_word T2 A2 h29, p_bi, if_neg (g_wd_1 b len f' hj)]
/-- NOTs -/
theorem ST.nots {o : Nat} {l : List Tk} (rcC : Int32 → lu_M → Option (Int32 × lu_M)) (rcN : lu_M → Option lu_M) : ∀ (n c q1 q2 f : Nat) (M N : lu_M), len ≤ f + n → c ≤ f → n < q1 → n < q2 → ST b len M0 N0 us co o f l [] M N → ∃ M' N' f' c', f8_tellOne_b4 (f8_tellOne_b33 rcC (nI o)) rcC (nI o) q1 (nI c) (nI c) M = f8_tellOne_b33 rcC (nI o) (nI c') M' ∧ f12_one_b2 (f12_one_b31 rcN) rcN q2 (p_b (decide (c % 2 = 1))) N = f12_one_b31 rcN (p_b (decide (c' % 2 = 1))) N' ∧ ST b len M0 N0 us co o f' l [] M' N' ∧ f ≤ f' ∧ c' ≤ 300 ∧ (c' = c ∨ f < f')
  | n, c, q1, q2, f, M, N, hn, hc, hq1, hq2, S => by
    obtain ⟨q1, rfl⟩ : ∃ r, q1 = r + 1 := ⟨q1 - 1, by omega⟩
    obtain ⟨q2, rfl⟩ : ∃ r, q2 = r + 1 := ⟨q2 - 1, by omega⟩
    have hl := S.l2
    have hf := S.fl
    obtain ⟨w1, w2, w3⟩ := S.nm (j := 7) (by omega)
    show ∃ M' N' f' c', f8_tellOne_b4B _ _ _ _ _ _ _ = _ ∧ f12_one_b2B _ _ _ _ _ = _ ∧ _
    unfold f8_tellOne_b4B f12_one_b2B
    rw [w2, p_bi, gc7, show (200 : Int32) = nI 200 from rfl, q_le (by omega) (by omega)]
    cases hb : g_is b len f 7
    · have hw : ¬ lg_cmp (g_wd b len f false) (lN (g_cd 7)) = 0 := fun q => by rw [w3, hb] at q; exact p_ff q
      rw [if_neg hw, w1, p_bi, p_if, hb, if_neg p_ff]
      refine ⟨M, N, f, c, ?_, rfl, S, Nat.le_refl _, by omega, Or.inl rfl⟩
      split <;> rfl
    · have hlt := g_is_lt hb
      obtain ⟨n, rfl⟩ : ∃ r, n = r + 1 := ⟨n - 1, by omega⟩
      obtain ⟨M2, N2, f2, c1, c2, S2, r1, r2, -⟩ := S.go
      have hf2 := r2 hlt
      rw [if_neg (by omega), if_pos (w3.mpr hb), w1, p_bi, p_if, hb, if_pos rfl, c1, p_bv, p_next]
      unfold f12_one_b22
      rw [c2, p_bv, p_bv, p_if]
      obtain ⟨M', N', f', c', d1, d2, d3, d4, d5, d6⟩ := ST.nots rcC rcN n (c + 1) q1 q2 f2 M2 N2 (by omega) (by omega) (by omega) (by omega) S2
      refine ⟨M', N', f', c', d1, ?_, d3, by omega, d5, Or.inr (by omega)⟩
      rw [← d2]
      by_cases h2 : c % 2 = 1
      · rw [decide_eq_true h2, if_pos rfl, decide_eq_false (show ¬ (c + 1) % 2 = 1 by omega)]; rfl
      · rw [decide_eq_false h2, if_neg p_ff, decide_eq_true (show (c + 1) % 2 = 1 by omega)]; rfl
theorem ST.one {o f : Nat} {l : List Tk} {M N : lu_M} (ho : o ≤ 3) (rcC : Int32 → lu_M → Option (Int32 × lu_M)) (rcN : lu_M → Option lu_M) (HR : o < 3 → ∀ (M N : lu_M) (f : Nat) (l : List Tk), ST b len M0 N0 us co (o + 1) f l [] M N → OU b len M0 N0 us co (o + 1) f l (5 + 2 * o) (rcC (nI (o + 1)) M) (rcN N)) (HW : ∀ (N : lu_M) (f : Nat), TPn b len N → ATn b len f N → N 0 29 = 1 → rcN N = some N) (S : ST b len M0 N0 us co o f l [] M N) : OU b len M0 N0 us co o f l (5 + 2 * o) (f8_tellOne rcC (nI o) M) (f12_one rcN N) := by
  have hl := S.l2
  have hf := S.fl
  have hbd := S.bd
  obtain ⟨M1, N1, f1, c, e1, e2, S1, h1, h2, h3⟩ := ST.nots rcC rcN (len - f) 0 lu_fu lu_fu f M N (by omega) (by omega) (p_fu (by omega)) (p_fu (by omega)) S
  have hf1 := S1.fl
  have e1' : f8_tellOne rcC (nI o) M = f8_tellOne_b33 rcC (nI o) (nI c) M1 := e1
  have e2' : f12_one rcN N = f12_one_b31 rcN (p_b (decide (c % 2 = 1))) N1 := e2
  rw [e1', e2']
  have fin : ∀ (M2 N2 : lu_M) (f2 : Nat) (lx : List Tk), ST b len M0 N0 us co o f2 (l ++ lx) [] M2 N2 → f1 < f2 → (e_Ms lx).length + f1 ≤ f2 → (∀ h, h ≤ 5 + 2 * o → o_hs lx h = some (h + 1)) → (∀ t ∈ lx, o_ok t) → OU b len M0 N0 us co o f l (5 + 2 * o) (f8_tellOne_b90 rcC (nI o) (nI c) M2) (f12_one_b128 rcN (p_b (decide (c % 2 = 1))) N2) := fun M2 N2 f2 lx S2 a1 a2 a3 a4 => by
    unfold f8_tellOne_b90 f8_tellOne_b105 f12_one_b128 f12_one_b138
    rw [show (2 : Int32) = nI 2 from rfl, pk_rem (by omega) (by omega) (by omega), show (1 : Int32) = nI 1 from rfl, q_eq (by omega) (by omega), p_if]
    by_cases hc : c % 2 = 1
    · rw [if_pos hc, decide_eq_true hc, if_pos rfl]
      have hlen : (e_Ms (l ++ lx)).length = (e_Ms l).length + (e_Ms lx).length := by rw [e_Ms_app, List.length_append]
      have h0 : ([] : List Int32).length = 0 := rfl
      have hff : f < f1 := h3.resolve_left (fun q => by omega)
      obtain ⟨N3, w1, S3⟩ := S2.wr (-20) (by rw [hlen, h0]; rw [h0] at hbd; omega)
      obtain ⟨M3, w2, S4⟩ := S3.ad (t := (1, 0, 0, 0)) rfl (by simp)
      have w2' : f6_add 85 (0 : Int32) M2 = some M3 := w2
      rw [w2', p_bv, w1, p_bv]
      have hl1 : (e_Ms (lx ++ [(1, 0, 0, 0)])).length = (e_Ms lx).length + 1 := by
        rw [e_Ms_app, List.length_append]; rfl
      refine Or.inl ⟨M3, N3, f2, lx ++ [(1, 0, 0, 0)], rfl, rfl, ?_, by omega, by rw [hl1]; omega, fun h hh => ?_, fun t ht => ?_⟩
      · rw [← List.append_assoc]; exact S4
      · rw [o_hs_app, a3 h hh]
        show (o_h (1, 0, 0, 0) (h + 1)).bind (o_hs []) = _
        have : o_h (1, 0, 0, 0) (h + 1) = some (h + 1) := by
          show (if (1 : Nat) = 0 then _ else if (1 : Nat) = 1 then (if 1 ≤ h + 1 then some (h + 1) else none) else _) = _
          rw [if_neg (by omega), if_pos rfl, if_pos (by omega)]
        rw [this]; rfl
      · rw [List.mem_append] at ht
        rcases ht with ht | ht
        · exact a4 t ht
        · have e : t = (1, 0, 0, 0) := by simpa using ht
          rw [e]
          exact ⟨show 1 ≤ 3 by omega, fun q => absurd q (show ¬ (1 : Nat) = 0 by omega)⟩
    · rw [if_neg hc, decide_eq_false hc, if_neg p_ff]
      exact Or.inl ⟨M2, N2, f2, lx, rfl, rfl, S2, by omega, by omega, a3, a4⟩
  have bad : ∀ (M2 N2 : lu_M), FA b len M0 N0 co M2 N2 → OU b len M0 N0 us co o f l (5 + 2 * o) (some (0, M2)) (f12_one_b128 rcN (p_b (decide (c % 2 = 1))) N2) := fun M2 N2 F => by
    obtain ⟨-, -, -, -, -, T2, f', -, A2, h29⟩ := id F
    refine Or.inr ⟨M2, N2, rfl, ?_, F⟩
    unfold f12_one_b128 f12_one_b138
    rw [st_writes h29, p_bv]
    split <;> rfl
  have bad2 : ∀ (M2 N2 : lu_M) (s0 : Int32), FA b len M0 N0 co M2 N2 → OU b len M0 N0 us co o f l (5 + 2 * o) (some (0, M2)) (f12_one_b118 rcN (p_b (decide (c % 2 = 1))) s0 N2) := fun M2 N2 s0 F => by
    obtain ⟨-, -, -, -, -, T2, f', -, A2, h29⟩ := id F
    unfold f12_one_b118
    rw [st_wants h29, p_bv]
    exact bad M2 N2 F
  have hb40 := g_by_32 (b := b) (len := len) (a := f1) S1.tn.2.2.2 40 (by omega)
  unfold f8_tellOne_b33 f12_one_b31 f8_tellOne_b72
  rw [S1.w0, if_pos rfl, S1.an.2.1, t_byteAt S1.tn (by omega), p_bi, show (40 : Int32) = nI 40 from rfl, show (41 : Int32) = nI 41 from rfl, k_isByte S1.tc S1.at' (by omega) (by omega) (by omega), p_bi, p_if, S1.op, show (3 : Int32) = nI 3 from rfl, q_lt (by omega) (by omega), q_le (by omega) (by omega), p_next]
  by_cases hp : f1 < len ∧ b f1 = 40
  · rw [decide_eq_true hp, if_pos rfl, if_pos (hb40.mpr hp)]
    by_cases h03 : o < 3
    · obtain ⟨M2, N2, f2, c1, c2, S2, r1, r2, -⟩ := S1.go
      have hf2 := r2 hp.1
      have S3 := S2.st (o + 1)
      have hfl2 := S2.fl
      rw [if_pos h03, if_neg (by omega), c1, p_bv]
      unfold f12_one_b65 f12_one_b117
      rw [c2, p_bv, p_nm, S2.op, p_next]
      rcases HR h03 _ _ f2 l S3 with ⟨M4, N4, f4, lx, d1, d2, S4, s1, s2, s3, s4⟩ | ⟨M4, N4, d1, d2, F⟩
      · have S5 := S4.st o
        have hfl4 := S4.fl
        have hb41 := g_by_32 (b := b) (len := len) (a := f4) S5.tn.2.2.2 41 (by omega)
        rw [d1, p_bi, if_neg (by decide), d2, p_bv, p_nm, S4.op, show nI (o + 1) - (1 : Int32) = nI o by rw [show (1 : Int32) = nI 1 from rfl, pk_sub (by omega)]; rfl, S5.w0, if_pos rfl, S5.an.2.1, t_byteAt S5.tn (by omega), p_bi, k_isByte S5.tc S5.at' (by omega) (by omega) (by omega), p_bi, p_if]
        by_cases hq : f4 < len ∧ b f4 = 41
        · obtain ⟨M6, N6, f6, v1, v2, S6, u1, u2, -⟩ := S5.go
          have hf6 := u2 hq.1
          rw [decide_eq_true hq, if_pos rfl, if_pos (show g_by b len f4 = (41 : Int32) from hb41.mpr hq), v1, p_bv]
          unfold f12_one_b118
          rw [v2, p_bv]
          exact fin M6 N6 f6 lx S6 (by omega) (by omega) s3 s4
        · rw [decide_eq_false hq, if_neg p_ff, if_neg (show ¬ g_by b len f4 = (41 : Int32) from fun q => hq (hb41.mp q))]
          obtain ⟨N6, v2, F, -⟩ := S5.no
          unfold f12_one_b118
          rw [v2, p_bv]
          exact bad M4 N6 F
      · have F2 := F.st (N4 0 27 - 1)
        obtain ⟨-, -, -, -, -, T2, f', -, A2, h29⟩ := id F2
        rw [d1, p_bi, if_pos rfl, d2, p_bv, p_nm, h29, if_neg (by decide)]
        exact bad2 M4 _ 0 F2
    · rw [if_neg h03, if_pos (by omega)]
      obtain ⟨N2, v2, F, -⟩ := S1.no
      unfold f12_one_b65 f12_one_b117
      have F1 := F.st (N2 0 27 + 1)
      obtain ⟨-, -, -, -, -, T2, f', -, A2, h29⟩ := id F1
      rw [v2, p_bv, p_nm, HW _ f' T2 A2 h29, p_bv, p_nm]
      have F2 := F1.st (lu_st N2 0 27 (N2 0 27 + 1) 0 27 - 1)
      obtain ⟨-, -, -, -, -, T3, f3, -, A3, h293⟩ := id F2
      rw [h293, if_neg (by decide)]
      exact bad2 M1 _ 0 F2
  · rw [decide_eq_false hp, if_neg p_ff, if_neg (fun q => hp (hb40.mp q))]
    unfold f12_one_b124
    rcases S1.comp with ⟨M2, N2, f2, lx, d1, d2, S2, s1, s2, s3, s4⟩ | ⟨M2, N2, d1, d2, F⟩
    · rw [d1, p_bi, if_neg (by decide), d2, p_bv]
      exact fin M2 N2 f2 lx S2 s1 s2 (fun h hh => s3 h (by omega)) s4
    · rw [d1, p_bi, if_pos rfl, d2, p_bv]
      exact bad M2 N2 F
theorem ST.all {o f : Nat} {l : List Tk} {M N : lu_M} (ho : o ≤ 3) (rcC : Int32 → lu_M → Option (Int32 × lu_M)) (rcN : lu_M → Option lu_M) (HR : o < 3 → ∀ (M N : lu_M) (f : Nat) (l : List Tk), ST b len M0 N0 us co (o + 1) f l [] M N → OU b len M0 N0 us co (o + 1) f l (5 + 2 * o) (rcC (nI (o + 1)) M) (rcN N)) (HW : ∀ (N : lu_M) (f : Nat), TPn b len N → ATn b len f N → N 0 29 = 1 → rcN N = some N) (S : ST b len M0 N0 us co o f l [] M N) : OU b len M0 N0 us co o f l (4 + 2 * o) (f8_tellAllOf rcC (nI o) M) (f12_all rcN N) := by
  have hl := S.l2
  unfold f8_tellAllOf f12_all
  rcases S.one ho rcC rcN HR HW with ⟨M1, N1, f1, lx, d1, d2, S1, s1, s2, s3, s4⟩ | ⟨M1, N1, d1, d2, F⟩
  · rw [d1, p_bi, if_neg (by decide), d2, p_bv]
    exact ST.loop (j := 13) (by omega) (t := (2, 0, 0, 0)) (c := 1) (code := -21) rfl rfl (fun h => rfl) ⟨show 2 ≤ 3 by omega, fun q => absurd q (show ¬ (2 : Nat) = 0 by omega)⟩ (f8_tellOne rcC (nI o)) (f12_one rcN) (fun M N f l S => by
      have := S.one ho rcC rcN HR HW
      rw [show 5 + 2 * o = 4 + 2 * o + 1 by omega] at this
      exact this) (f8_tellAllOf_b12 (f8_tellAllOf_b40 rcC (nI o)) (f8_tellAllOf_b56 rcC (nI o)) rcC (nI o)) (f12_all_b4 (f12_all_b33 rcN) rcN) (fun q v z => rfl) (fun q z => by
      rw [← gc13]; rfl) len 0 lu_fu lu_fu f1 lx M1 N1 (by omega) (by omega) (p_fu (by omega)) (p_fu (by omega)) S1 s1 s2 (fun h hh => s3 h (by omega)) s4
  · obtain ⟨-, -, -, -, -, T2, f', -, A2, h29⟩ := id F
    rw [d1, p_bi, if_pos rfl, d2, p_bv]
    exact Or.inr ⟨M1, N1, rfl, st_all4 T2 A2 h29 rcN (p_fu (by omega)), F⟩
theorem ST.cond : ∀ (d o e1 e2 f : Nat) (l : List Tk) (M N : lu_M), o + d = 3 → d < e1 → d + 1 < e2 → ST b len M0 N0 us co o f l [] M N → OU b len M0 N0 us co o f l (3 + 2 * o) (f8_tellCondition e1 (nI o) M) (f12_condition e2 N)
  | d, o, e1, e2, f, l, M, N, hd, h1, h2, S => by
    obtain ⟨e1, rfl⟩ : ∃ r, e1 = r + 1 := ⟨e1 - 1, by omega⟩
    obtain ⟨e2, rfl⟩ : ∃ r, e2 = r + 1 := ⟨e2 - 1, by omega⟩
    have hl := S.l2
    have HW : ∀ (N : lu_M) (f : Nat), TPn b len N → ATn b len f N → N 0 29 = 1 → f12_condition e2 N = some N := fun N f _ _ h29 => by
      obtain ⟨e2, rfl⟩ : ∃ r, e2 = r + 1 := ⟨e2 - 1, by omega⟩
      show f12_conditionO _ N = some N
      unfold f12_conditionO
      rw [h29, if_neg (by decide)]
    have HR : o < 3 → ∀ (M N : lu_M) (f : Nat) (l : List Tk), ST b len M0 N0 us co (o + 1) f l [] M N → OU b len M0 N0 us co (o + 1) f l (5 + 2 * o) (f8_tellCondition e1 (nI (o + 1)) M) (f12_condition e2 N) := fun ho M N f l S => by
      obtain ⟨d, rfl⟩ : ∃ r, d = r + 1 := ⟨d - 1, by omega⟩
      have := ST.cond d (o + 1) e1 e2 f l M N (by omega) (by omega) (by omega) S
      rw [show 3 + 2 * (o + 1) = 5 + 2 * o by omega] at this
      exact this
    have hall : ∀ (M N : lu_M) (f : Nat) (l : List Tk), ST b len M0 N0 us co o f l [] M N → OU b len M0 N0 us co o f l (3 + 2 * o + 1) (f8_tellAllOf (f8_tellCondition e1) (nI o) M) (f12_all (f12_condition e2) N) := fun M N f l S => by
      have := S.all (by omega) (f8_tellCondition e1) (f12_condition e2) HR HW
      rw [show 4 + 2 * o = 3 + 2 * o + 1 by omega] at this
      exact this
    show OU b len M0 N0 us co o f l (3 + 2 * o) (f8_tellConditionO _ _ _) (f12_conditionO _ _)
    unfold f8_tellConditionO f12_conditionO
    rw [S.w0, if_pos rfl]
    rcases hall M N f l S with ⟨M1, N1, f1, lx, d1, d2, S1, s1, s2, s3, s4⟩ | ⟨M1, N1, d1, d2, F⟩
    · rw [d1, p_bi, if_neg (by decide), d2, p_bv]
      exact ST.loop (j := 14) (by omega) (t := (3, 0, 0, 0)) (c := 2) (code := -22) rfl rfl (fun h => rfl) ⟨show 3 ≤ 3 by omega, fun q => absurd q (show ¬ (3 : Nat) = 0 by omega)⟩ (f8_tellAllOf (f8_tellCondition e1) (nI o)) (f12_all (f12_condition e2)) hall (f8_tellCondition_b12 (f8_tellCondition_b40 (f8_tellCondition e1) (nI o)) (f8_tellCondition_b56 (f8_tellCondition e1) (nI o)) (f8_tellCondition e1) (nI o)) (f12_condition_b12 (f12_condition_b41 (f12_condition e2)) (f12_condition e2)) (fun q v z => rfl) (fun q z => by
        rw [← gc14]; rfl) len 0 lu_fu lu_fu f1 lx M1 N1 (by omega) (by omega) (p_fu (by omega)) (p_fu (by omega)) S1 s1 s2 (fun h hh => s3 h (by omega)) s4
    · obtain ⟨-, -, -, -, -, T2, f', -, A2, h29⟩ := id F
      rw [d1, p_bi, if_pos rfl, d2, p_bv]
      exact Or.inr ⟨M1, N1, rfl, st_cond12 T2 A2 h29 (f12_condition e2) (p_fu (by omega)), F⟩
end COND

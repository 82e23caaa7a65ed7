/-! THE PURE PART: rules -/
theorem g_so_0 (b : Nat → Nat) (len f : Nat) : g_so b len f = 0 ↔ len ≤ f := by
  unfold g_so
  by_cases h : len ≤ f
  · rw [if_pos h]
    exact ⟨fun _ => h, fun _ => rfl⟩
  · rw [if_neg h]
    refine ⟨fun q => ?_, fun q => absurd q h⟩
    split at q
    · omega
    · split at q <;> omega
theorem rules_run {b : Nat → Nat} {len : Nat} {m n : lu_M} : ∀ (j : Nat) (L : List Ru) (f q1 q2 : Nat) (M N : lu_M), L.length + j = 9 → j + 1 < q1 → j + 1 < q2 → RV b len m n L f M N → (∃ M' N' L' f', f8_tellAll_b20 f8_tellAll_b48 q1 1 (nI L.length) M = f8_tellAll_b48 1 M' ∧ f12_rules_b35 f12_rules_b60 q2 N = f12_rules_b60 N' ∧ RV b len m n L' f' M' N') ∨ ∃ M' N', f8_tellAll_b20 f8_tellAll_b48 q1 1 (nI L.length) M = f8_tellAll_b48 0 M' ∧ f12_rules_b35 f12_rules_b60 q2 N = f12_rules_b60 N' ∧ RX b len m n M' N'
  | j, L, f, q1, q2, M, N, h, hq1, hq2, V => by
    obtain ⟨q1, rfl⟩ : ∃ r, q1 = r + 1 := ⟨q1 - 1, by omega⟩
    obtain ⟨q2, rfl⟩ : ∃ r, q2 = r + 1 := ⟨q2 - 1, by omega⟩
    have S := V.st
    have hl := S.l2
    have hfl := S.fl
    have hs := g_so_le b len f
    have h8 : L.length ≤ 8 := V.2.2.2.2.2.2.2.2.2.1
    have hC : f8_tellAll_b20 f8_tellAll_b48 (q1 + 1) 1 (nI L.length) M = (if len ≤ f then f8_tellAll_b48 1 M else lu_bi (f8_tellRule M) fun x4 m5 => f8_tellAll_b20 f8_tellAll_b48 q1 x4 (nI (L.length + 1)) m5) := by
      show f8_tellAll_b20B _ _ _ _ _ = _
      unfold f8_tellAll_b20B
      rw [show (8 : Int32) = nI 8 from rfl, q_lt (by omega) (by omega), if_neg (by omega), if_neg (by decide), S.at'.2.1, show (0 : Int32) = nI 0 from rfl, q_eq (by omega) (by omega), p_next]
      by_cases hc : len ≤ f
      · rw [if_pos hc, if_pos ((g_so_0 b len f).mpr hc)]
      · rw [if_neg hc, if_neg (fun q => hc ((g_so_0 b len f).mp q))]
    have hN : f12_rules_b35 f12_rules_b60 (q2 + 1) N = (if len ≤ f then f12_rules_b60 N else lu_bv (f12_rule N) fun m8 => f12_rules_b35 f12_rules_b60 q2 m8) := by
      show f12_rules_b35B _ _ _ = _
      unfold f12_rules_b35B
      rw [S.w0, if_pos rfl, S.tn.2.1, S.an.2.1, q_le (by omega) (by omega)]
    rw [hC, hN]
    by_cases hc : len ≤ f
    · rw [if_pos hc, if_pos hc]
      exact Or.inl ⟨M, N, L, f, rfl, rfl, V⟩
    rw [if_neg hc, if_neg hc]
    rcases RU.rule V with ⟨M1, N1, f1, x, d1, d2, V1, h1⟩ | ⟨M1, N1, d1, d2, X⟩
    · rw [d1, p_bi, d2, p_bv]
      have hl1 : (L ++ [x]).length = L.length + 1 := by simp
      have h81 : (L ++ [x]).length ≤ 8 := V1.2.2.2.2.2.2.2.2.2.1
      obtain ⟨j, rfl⟩ : ∃ r, j = r + 1 := ⟨j - 1, by omega⟩
      have ih := rules_run j (L ++ [x]) f1 q1 q2 M1 N1 (by omega) (by omega) (by omega) V1
      rw [hl1] at ih
      exact ih
    · rw [d1, p_bi, d2, p_bv]
      obtain ⟨q1, rfl⟩ : ∃ r, q1 = r + 1 := ⟨q1 - 1, by omega⟩
      obtain ⟨q2, rfl⟩ : ∃ r, q2 = r + 1 := ⟨q2 - 1, by omega⟩
      refine Or.inr ⟨M1, N1, ?_, ?_, X⟩
      · show f8_tellAll_b20B _ _ _ _ _ = _
        unfold f8_tellAll_b20B
        rw [if_pos (show (0 : Int32) = 0 from rfl)]
        split <;> rfl
      · obtain ⟨-, f', -, -, -, h29⟩ := X
        show f12_rules_b35B _ _ _ = _
        unfold f12_rules_b35B
        rw [h29, if_neg (by decide)]
/-- rules anew -/
theorem k_copyR {M : lu_M} {r0 r1 cnt used : Nat} (hd : r0 + 7 ≤ r1 ∨ r1 + 7 ≤ r0) (h8 : cnt ≤ 8) (h200 : used ≤ 200) (hc : M r1 0 = nI cnt) (hu : M r1 6 = nI used) : ∃ M', f6_copy r0 r1 M = some M' ∧ (∀ r, (r < r0 ∨ r0 + 5 < r) → M' r = M r) ∧ M' r0 0 = nI cnt ∧ M' r0 6 = nI used ∧ (∀ i k, 1 ≤ i → i ≤ 4 → k < cnt → M' (r0 + i) k = M (r1 + i) k) ∧ ∀ k, k < used → M' (r0 + 5) k = M (r1 + 5) k := by
  have h0 : lu_st (lu_st M r0 0 (M r1 0)) r0 6 (lu_st M r0 0 (M r1 0) r1 6) = lu_st (lu_st M r0 0 (nI cnt)) r0 6 (nI used) := by rw [hc, lu_st_row (by omega), hu]
  obtain ⟨x, e, f1, f2, f3, f4⟩ := p_loopR (σ := Unit) (fun q i x => f6_copy_b18 (f6_copy_b80 r0 r1) r0 r1 q i x) (fun x => f6_copy_b80 r0 r1 x) cnt (fun _ u => u) (fun i x _ => (∀ r, (r < r0 ∨ r0 + 5 ≤ r) → x r = M r) ∧ x r0 0 = nI cnt ∧ x r0 6 = nI used ∧ ∀ j k, 1 ≤ j → j ≤ 4 → k < i → x (r0 + j) k = M (r1 + j) k)
    (fun q x _ ⟨f1, f2, f3, f4⟩ => by
      show f6_copy_b18B _ _ _ _ _ _ = _
      unfold f6_copy_b18B
      rw [f2, if_pos (Int32.le_refl _)])
    (fun q i x _ hi ⟨f1, f2, f3, f4⟩ => by
      refine ⟨lu_st (lu_st (lu_st (lu_st x (r0 + 1) i (M (r1 + 1) i)) (r0 + 2) i (M (r1 + 2) i)) (r0 + 3) i (M (r1 + 3) i)) (r0 + 4) i (M (r1 + 4) i), ?_, fun r hr => ?_, ?_, ?_, fun j k hj1 hj4 hk => ?_⟩
      · show f6_copy_b18B _ _ _ _ _ _ = _
        unfold f6_copy_b18B
        rw [f2, q_le (by omega) (by omega), if_neg (by omega)]
        simp only [p_gd (show i < 8 by omega) (show 8 < 2 ^ 31 by omega), p_nm, nI_clamp (show i < 2 ^ 31 by omega), p_next]
        rw [lu_st_row (a := r1 + 2) (by omega), lu_st_row (a := r1 + 3) (by omega), lu_st_row (a := r1 + 3) (by omega), lu_st_row (a := r1 + 4) (by omega), lu_st_row (a := r1 + 4) (by omega), lu_st_row (a := r1 + 4) (by omega), f1 (r1 + 1) (by omega), f1 (r1 + 2) (by omega), f1 (r1 + 3) (by omega), f1 (r1 + 4) (by omega)]
      · rw [lu_st_row (by omega), lu_st_row (by omega), lu_st_row (by omega), lu_st_row (by omega)]; exact f1 r hr
      · rw [lu_st_row (by omega), lu_st_row (by omega), lu_st_row (by omega), lu_st_row (by omega)]; exact f2
      · rw [lu_st_row (by omega), lu_st_row (by omega), lu_st_row (by omega), lu_st_row (by omega)]; exact f3
      · have hj : j = 1 ∨ j = 2 ∨ j = 3 ∨ j = 4 := by omega
        by_cases e : k = i
        · subst e
          rcases hj with e | e | e | e <;> subst e
          · rw [lu_st_row (by omega), lu_st_row (by omega), lu_st_row (by omega), lu_st_self]
          · rw [lu_st_row (by omega), lu_st_row (by omega), lu_st_self]
          · rw [lu_st_row (by omega), lu_st_self]
          · rw [lu_st_self]
        · rcases hj with e | e | e | e <;> subst e
          · rw [lu_st_row (by omega), lu_st_row (by omega), lu_st_row (by omega), lu_st_ne (by omega)]; exact f4 1 k (by omega) (by omega) (by omega)
          · rw [lu_st_row (by omega), lu_st_row (by omega), lu_st_ne (by omega), lu_st_row (by omega)]; exact f4 2 k (by omega) (by omega) (by omega)
          · rw [lu_st_row (by omega), lu_st_ne (by omega), lu_st_row (by omega), lu_st_row (by omega)]; exact f4 3 k (by omega) (by omega) (by omega)
          · rw [lu_st_ne (by omega), lu_st_row (by omega), lu_st_row (by omega), lu_st_row (by omega)]; exact f4 4 k (by omega) (by omega) (by omega)) cnt 0 lu_fu (lu_st (lu_st M r0 0 (nI cnt)) r0 6 (nI used)) () (by omega) (p_fu (by omega)) ⟨fun r hr => by rw [lu_st_row (by omega), lu_st_row (by omega)], by rw [lu_st_ne (by omega), lu_st_self], lu_st_self .., fun j k _ _ hk => absurd hk (by omega)⟩
  obtain ⟨z, e2, g1, g2⟩ := p_loopR (σ := Unit) (fun q i z => f6_copy_b82 (f6_copy_b108 r0 r1) r0 r1 q i (p_rw x (r0 + 5) z)) (fun z => some (p_rw x (r0 + 5) z)) used (fun _ u => u) (fun i z _ => (∀ k, k < i → z k = M (r1 + 5) k) ∧ True)
    (fun q z _ _ => by
      show f6_copy_b82B _ _ _ _ _ _ = _
      unfold f6_copy_b82B f6_copy_b108
      rw [p_rw_n (by omega), f3, if_pos (Int32.le_refl _)])
    (fun q i z _ hi ⟨g1, g2⟩ => by
      refine ⟨upd z i (M (r1 + 5) i), ?_, fun k hk => ?_, trivial⟩
      · show f6_copy_b82B _ _ _ _ _ _ = _
        unfold f6_copy_b82B
        rw [p_rw_n (by omega), f3, q_le (by omega) (by omega), if_neg (by omega), p_gd (by omega) (by omega), p_gd (by omega) (by omega), p_nm, nI_clamp (by omega), p_rw_n (by omega), f1 (r1 + 5) (by omega), p_stc, p_next]
      · by_cases e : k = i
        · subst e; exact p_us ..
        · rw [upd_ne e]; exact g1 k (by omega)) used 0 lu_fu (x (r0 + 5)) () (by omega) (p_fu (by omega)) ⟨fun k hk => absurd hk (by omega), trivial⟩
  rw [p_rw_id] at e2
  refine ⟨p_rw x (r0 + 5) z, ?_, fun r hr => ?_, ?_, ?_, fun i k h1 h4 hk => ?_, fun k hk => ?_⟩
  · unfold f6_copy
    rw [p_nm, p_nm, h0]
    refine e.trans ?_
    unfold f6_copy_b80
    exact e2
  · rw [p_rw_n (by omega)]; exact f1 r (by omega)
  · rw [p_rw_n (by omega)]; exact f2
  · rw [p_rw_n (by omega)]; exact f3
  · rw [p_rw_n (by omega)]; exact f4 i k h1 h4 hk
  · rw [p_rw_s]; exact g1 k hk
theorem RLc.mv {M M' : lu_M} {r0 r1 : Nat} : ∀ (L : List Ru) (k e : Nat), (∀ i j, 1 ≤ i → i ≤ 4 → j < k + L.length → M' (r0 + i) j = M (r1 + i) j) → (∀ j, j < e + r_C L → M' (r0 + 5) j = M (r1 + 5) j) → RLc M r1 k e L → RLc M' r0 k e L
  | [], _, _, _, _, _ => trivial
  | x :: L, k, e, h1, h2, ⟨a1, a2, a3, a4, a5, a6⟩ => by
    have hl : (x :: L).length = L.length + 1 := rfl
    have hC : r_C (x :: L) = x.2.2.2.length + r_C L := rfl
    refine ⟨?_, ?_, ?_, ?_, seg_eq _ _ (fun i h3 h4 => h2 i (by rw [List.length_map] at h4; omega)) a5, RLc.mv L _ _ (fun i j h3 h4 h5 => h1 i j h3 h4 (by omega)) (fun j hj => h2 j (by omega)) a6⟩
    · rw [h1 1 k (by omega) (by omega) (by omega)]; exact a1
    · rw [h1 2 k (by omega) (by omega) (by omega)]; exact a2
    · rw [h1 3 k (by omega) (by omega) (by omega)]; exact a3
    · rw [h1 4 k (by omega) (by omega) (by omega)]; exact a4
theorem p_fault : ∀ f, f < 201 → (-100 : Int32) - nI f < 0 := by decide +kernel
theorem WX.up {m m' : lu_M} {w : Nat} {s u : Nat → Int32} (X : WX m w s) (F : ∀ a, a = w ∨ (w + 14 ≤ a ∧ a < w + 28) → m' a = m a) (h : ∀ i, i ≠ 1 → i < 136 → u i = s i) : WX m' w u := by
  obtain ⟨a1, a2, a3, a4, a5⟩ := X
  have h6 : u 6 = s 6 := h 6 (by omega) (by omega)
  refine ⟨?_, ?_, s_ok_of h6 a3, fun r h6' hr => ?_, fun p q hp hq => ?_⟩
  · rw [F w (by omega), h 7 (by omega) (by omega)]; exact a1
  · rw [F w (by omega), h6]; exact a2
  · rw [s_v_of h6] at hr
    obtain ⟨b1, b2, b3, b4, b5⟩ := a4 r h6' hr
    refine ⟨fun k hk => ?_, s_ok_of (h _ (by omega) (by omega)) b2, s_ok_of (h _ (by omega) (by omega)) b3, s_ok_of (h _ (by omega) (by omega)) b4, s_ok_of (h _ (by omega) (by omega)) b5⟩
    rw [F (w + 14 + 1 + r) (by omega), h _ (by omega) (by omega)]; exact b1 k hk
  · obtain ⟨b1, b2, b3⟩ := a5 p q hp hq
    rw [F (w + 21 + 1 + p) (by omega), h _ (by omega) (by omega)]
    refine ⟨b1, s_ok_of (h _ (by omega) (by omega)) b2, ?_⟩
    rw [show s_P u = s_P s from s_v_of (h 0 (by omega) (by omega))]
    exact b3
theorem y_rules : Me f11_rules f12_rules := Me.mk fun m n L R W => by
  obtain ⟨l, hl, hm, hn, ht⟩ := R.2.t
  have hb : ∀ i, i < l → n 11 i = nI (s_v (n 11) i) ∧ s_v (n 11) i ≤ 255 := fun i hi => ⟨(ht i hi).2.1, (ht i hi).2.2.2⟩
  generalize hbd : s_v (n 11) = b at *
  obtain ⟨o, eo, ho⟩ := t_puts n
  -- the class's start
  have hm2 : ∀ r, r ≠ 83 → r ≠ 85 → lu_st (lu_st (lu_st m 85 0 0) 85 6 0) 83 5 0 r = m r := fun r h1 h2 => by rw [lu_st_row h1, lu_st_row h2, lu_st_row h2]
  have T1 : TPc b l (lu_st (lu_st (lu_st m 85 0 0) 85 6 0) 83 5 0) := ⟨hl, by rw [lu_st_ne (by omega), lu_st_row (by omega), lu_st_row (by omega)]; exact hm, fun i hi => by rw [hm2 84 (by omega) (by omega), (ht i hi).1]; exact (hb i hi).1, fun i hi => (hb i hi).2⟩
  obtain ⟨y, e1, y1, y3, y4, y5, y6⟩ := k_adv T1 (e := 0) (lu_st_self ..) (by omega)
  -- the reference's
  have hn6 : ∀ r, r ≠ 0 → r ≠ 1 → lu_st (lu_st (lu_st (lu_st (lu_st (p_rw n 3 o) 1 1 0) 0 28 0) 0 27 0) 0 25 0) 0 29 0 r = p_rw n 3 o r := fun r h1 h2 => by rw [lu_st_row h1, lu_st_row h1, lu_st_row h1, lu_st_row h1, lu_st_row h2]
  have hn60 : ∀ i, (i < 24 ∨ 29 < i) → lu_st (lu_st (lu_st (lu_st (lu_st (p_rw n 3 o) 1 1 0) 0 28 0) 0 27 0) 0 25 0) 0 29 0 0 i = n 0 i := fun i hi => by rw [lu_st_ne (by omega), lu_st_ne (by omega), lu_st_ne (by omega), lu_st_ne (by omega), lu_st_row (by omega), p_rw_n (by omega)]
  have T2 : TPn b l (lu_st (lu_st (lu_st (lu_st (lu_st (p_rw n 3 o) 1 1 0) 0 28 0) 0 27 0) 0 25 0) 0 29 0) := ⟨hl, by rw [hn60 23 (by omega)]; exact hn, fun i hi => by rw [hn6 11 (by omega) (by omega), p_rw_n (by omega)]; exact (hb i hi).1, fun i hi => (hb i hi).2⟩
  obtain ⟨z, e2, z0, z4, z5⟩ := t_tok T2 (e := 0) (by rw [lu_st_ne (by omega), lu_st_self]; rfl) (by omega)
  obtain ⟨p1, p2, -, -⟩ := g_to_p (g_Bl b l) hl (i := 0) (by omega)
  have hfl := p2 (by omega)
  generalize g_to (g_B b l) 0 = f at *
  have V : RV b l m (p_rw n 3 o) [] f (p_rw (lu_st (lu_st (lu_st m 85 0 0) 85 6 0) 83 5 0) 83 y) (p_rw (lu_st (lu_st (lu_st (lu_st (lu_st (p_rw n 3 o) 1 1 0) 0 28 0) 0 27 0) 0 25 0) 0 29 0) 0 z) := by
    refine ⟨⟨fun r h1 h2 => ?_, ?_, fun r h1 h2 => ?_, fun i hi => ?_, fun k h1 h2 => ?_⟩, ⟨hfl, ?_, ?_, ?_, fun q => ?_⟩, ⟨hfl, ?_, ?_⟩, ?_, ?_, T1.rw y1, T2.rw (z0 23 (by omega) (by omega)), ?_, ?_, Nat.zero_le _, ?_, ?_, trivial, trivial, fun x hx => absurd hx (by simp), Nat.zero_le _⟩
    · rw [p_rw_n h1, hm2 r h1 (by omega)]
    · rw [p_rw_s, y1, lu_st_ne (by omega), lu_st_row (by omega), lu_st_row (by omega)]
    · rw [p_rw_n h1, hn6 r h1 h2]
    · rw [p_rw_s, z0 i (by omega) (by omega), hn60 i hi, p_rw_n (by omega)]
    · rw [p_rw_n (by omega), lu_st_row (by omega), lu_st_row (by omega), lu_st_row (by omega), lu_st_row (by omega), lu_st_ne h1]
    · rw [p_rw_s]; exact y3
    · rw [p_rw_s]; exact y4
    · rw [p_rw_s]; exact y5
    · rw [p_rw_s]; exact y6 q
    · rw [p_rw_s]; exact z4
    · rw [p_rw_s]; exact z5
    · rw [p_rw_s, z0 29 (by omega) (by omega), lu_st_self]
    · rw [p_rw_s, z0 27 (by omega) (by omega), lu_st_ne (by omega), lu_st_ne (by omega), lu_st_self]
    · rw [p_rw_n (by omega), lu_st_row (by omega), lu_st_ne (by omega), lu_st_self]; rfl
    · rw [p_rw_n (by omega), lu_st_row (by omega), lu_st_row (by omega), lu_st_row (by omega), lu_st_row (by omega), lu_st_self]; rfl
    · rw [p_rw_n (by omega), lu_st_row (by omega), lu_st_self]; rfl
    · rw [p_rw_s, z0 28 (by omega) (by omega), lu_st_ne (by omega), lu_st_ne (by omega), lu_st_ne (by omega), lu_st_self]; rfl
  have hrun := rules_run 9 [] f lu_fu lu_fu _ _ rfl (p_fu (by omega)) (p_fu (by omega)) V
  have hC : f11_rules m = lu_bi (f8_tellAll_b20 f8_tellAll_b48 lu_fu 1 (nI ([] : List Ru).length) (p_rw (lu_st (lu_st (lu_st m 85 0 0) 85 6 0) 83 5 0) 83 y)) fun x1 m2 => if x1 < 0 then (f11_rules_b29 x1 m2) else (lu_bv (f6_copy 30 85 m2) fun m3 => f11_rules_b29 x1 m3) := by
    unfold f11_rules f8_tellAll f6_clear
    rw [p_nm, p_nm, p_bv, p_nm, e1, p_bv]
    rfl
  have hN : f12_rules n = f12_rules_b35 f12_rules_b60 lu_fu (p_rw (lu_st (lu_st (lu_st (lu_st (lu_st (p_rw n 3 o) 1 1 0) 0 28 0) 0 27 0) 0 25 0) 0 29 0) 0 z) := by
    unfold f12_rules
    rw [eo, p_bv, p_nm, p_nm, p_nm, p_nm, p_nm, e2, p_bv]
  rw [hC, hN]
  have hT0 : ∀ (M N : lu_M), lu_st M 83 1 0 83 1 = 0 → lu_st N 0 23 0 0 23 = 0 → RT (lu_st M 83 1 0) (lu_st N 0 23 0) := fun M N h1 h2 => ⟨0, by omega, h1, h2, fun i hi => absurd hi (by omega)⟩
  rcases hrun with ⟨M1, N1, L1, f1, d1, d2, V1⟩ | ⟨M1, N1, d1, d2, X⟩
  · have hfl1 := V1.st.fl
    obtain ⟨⟨B1, B2, B3, B4, B5⟩, -, -, w, -, -, -, a0, a1, a8, a6, a28, c1, c2, c3, bd⟩ := V1
    have hf200 : f1 ≤ 200 := by omega
    have hCM := r_CM L1
    obtain ⟨M2, e3, g1, g2, g3, g4, g5⟩ := k_copyR (M := lu_st M1 83 1 0) (r0 := 30) (r1 := 85) (cnt := L1.length) (used := r_C L1) (by omega) a8 (by omega) (by rw [lu_st_row (by omega)]; exact a0) (by rw [lu_st_row (by omega)]; exact a6)
    have hM2 : ∀ r, (r < 30 ∨ 35 < r) → r ≠ 83 → (r < 85 ∨ 90 < r) → M2 r = m r := fun r h1 h2 h3 => by rw [g1 r (by omega), lu_st_row h2, B1 r h2 h3]
    have hN2 : ∀ r, r ≠ 0 → r ≠ 1 → r ≠ 3 → lu_st N1 0 23 0 r = n r := fun r h1 h2 h3 => by rw [lu_st_row h1, B3 r h1 h2, p_rw_n h3]
    have hu : ∀ i, i ≠ 1 → (i < 136 ∨ 368 ≤ i) → N1 1 i = n 1 i := fun i h1 h2 => by rw [B5 i h1 h2, p_rw_n (by omega)]
    have hN0 : ∀ i, (i < 23 ∨ 29 < i) → lu_st N1 0 23 0 0 i = n 0 i := fun i hi => by rw [lu_st_ne (by omega), B4 i (by omega), p_rw_n (by omega)]
    have h831 : M2 83 1 = 0 := by rw [g1 83 (by omega), lu_st_self]
    have hb48 : f8_tellAll_b48 1 M1 = some (nI L1.length, lu_st M1 83 1 0) := by
      unfold f8_tellAll_b48 f8_tellAll_b69
      rw [if_neg (by decide), p_nm, a0]
    refine ⟨nI L1.length, M2, lu_st N1 0 23 0, ?_, ?_, ⟨L1, ?_⟩, R.2.k.fr (by rw [hM2 0 (by omega) (by omega) (by omega)]) (fun r h1 h2 => hM2 r (by omega) (by omega) (by omega)) (hN0 3 (by omega)) (hN2 2 (by omega) (by omega) (by omega)), R.2.r.fr (by rw [hM2 0 (by omega) (by omega) (by omega)]) (hN0 21 (by omega)) (fun r h1 h2 => hM2 r (by omega) (by omega) (by omega)) (hN2 10 (by omega) (by omega) (by omega)), ⟨0, by omega, h831, lu_st_self .., fun i hi => absurd hi (by omega)⟩, R.2.h.fr (fun r h1 h2 => hM2 r (by omega) (by omega) (by omega)) (fun r h1 h2 => hN2 r (by omega) (by omega) (by omega)), R.2.f.fr (fun r h1 h2 => hM2 r (by omega) (by omega) (by omega)) (fun r h1 h2 => hN2 r (by omega) (by omega) (by omega)), R.2.n.fr (hN0 37 (by omega)) (hM2 114 (by omega) (by omega) (by omega)) (hN2 18 (by omega) (by omega) (by omega)), R.2.g.fr (fun k hk => by rw [hM2 _ (by omega) (by omega) (by omega)])⟩
    · rw [d1, hb48, p_bi, if_neg (nI_pos (by omega)), e3, p_bv]
      rfl
    · rw [d2]
      unfold f12_rules_b60
      rw [p_nm, lu_st_ne (by omega), w, if_pos rfl, lu_st_row (by omega), a1]
    · have hN1r : lu_st N1 0 23 0 1 = N1 1 := lu_st_row (by omega)
      rw [hN1r]
      refine W.ag (fun i hi => hu i (by omega) (by omega)) (hu 4 (by omega) (by omega)) (W.b.fr2 (fun a h1 h2 => hM2 a (by omega) (by omega) (by omega))) (hM2 29 (by omega) (by omega) (by omega)) ⟨a8, by omega, c3⟩ ⟨a1, c2⟩ ⟨a8, g2, ?_, by omega, c3, g3⟩ (W.x.up (fun a ha => hM2 a (by omega) (by omega) (by omega)) (fun i h1 h2 => hu i h1 (by omega)))
      refine RLc.mv (M := M1) (r1 := 85) L1 0 0 (fun i j h1 h2 h3 => ?_) (fun j hj => ?_) c1
      · rw [show 1 + 29 + i = 30 + i by omega, g4 i j h1 h2 (by omega), lu_st_row (by omega)]
      · rw [show 1 + 29 + 5 = 30 + 5 by omega, g5 j (by omega), lu_st_row (by omega)]
  · obtain ⟨⟨B1, B2, B3, B4, B5⟩, f1, hf1, q4, q24, q29⟩ := X
    have hM2 : ∀ r, r ≠ 83 → (r < 85 ∨ 90 < r) → lu_st M1 83 1 0 r = m r := fun r h2 h3 => by rw [lu_st_row h2, B1 r h2 h3]
    have hb48 : f8_tellAll_b48 0 M1 = some (-100 - nI f1, lu_st M1 83 1 0) := by
      unfold f8_tellAll_b48 f8_tellAll_b69
      rw [if_pos rfl, p_nm, q4]
    have eb : f12_putsBack (lu_st N1 0 23 0) = some (p_rw (lu_st N1 0 23 0) 1 (n 1)) := t_putsBack (fun k hk => by
      rw [lu_st_row (by omega), B3 3 (by omega) (by omega), p_rw_s]; exact ho k hk) (fun k hk => by
      rw [lu_st_row (by omega), B5 k (by omega) (by omega), p_rw_n (by omega)])
    have hN2 : ∀ r, r ≠ 0 → r ≠ 1 → r ≠ 3 → p_rw (lu_st N1 0 23 0) 1 (n 1) r = n r := fun r h1 h2 h3 => by rw [p_rw_n h2, lu_st_row h1, B3 r h1 h2, p_rw_n h3]
    have hN0 : ∀ i, (i < 23 ∨ 29 < i) → p_rw (lu_st N1 0 23 0) 1 (n 1) 0 i = n 0 i := fun i hi => by rw [p_rw_n (by omega), lu_st_ne (by omega), B4 i (by omega), p_rw_n (by omega)]
    refine ⟨-100 - nI f1, lu_st M1 83 1 0, p_rw (lu_st N1 0 23 0) 1 (n 1), ?_, ?_, ⟨L, ?_⟩, R.2.k.fr (by rw [hM2 0 (by omega) (by omega)]) (fun r h1 h2 => hM2 r (by omega) (by omega)) (hN0 3 (by omega)) (hN2 2 (by omega) (by omega) (by omega)), R.2.r.fr (by rw [hM2 0 (by omega) (by omega)]) (hN0 21 (by omega)) (fun r h1 h2 => hM2 r (by omega) (by omega)) (hN2 10 (by omega) (by omega) (by omega)), ⟨0, by omega, lu_st_self .., by rw [p_rw_n (by omega), lu_st_self]; rfl, fun i hi => absurd hi (by omega)⟩, R.2.h.fr (fun r h1 h2 => hM2 r (by omega) (by omega)) (fun r h1 h2 => hN2 r (by omega) (by omega) (by omega)), R.2.f.fr (fun r h1 h2 => hM2 r (by omega) (by omega)) (fun r h1 h2 => hN2 r (by omega) (by omega) (by omega)), R.2.n.fr (hN0 37 (by omega)) (hM2 114 (by omega) (by omega)) (hN2 18 (by omega) (by omega) (by omega)), R.2.g.fr (fun k hk => by rw [hM2 _ (by omega) (by omega)])⟩
    · rw [d1, hb48, p_bi, if_pos (p_fault f1 (by omega))]
      rfl
    · rw [d2]
      unfold f12_rules_b60
      rw [p_nm, lu_st_ne (by omega), q29, if_neg (by decide), eb, p_bv, p_rw_n (by omega), lu_st_ne (by omega), q24]
    · rw [p_rw_s]
      exact W.tr (fun r h1 h2 => hM2 r (by omega) (by omega))

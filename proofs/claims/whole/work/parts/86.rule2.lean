/-! THE PURE PART: the reading of a text: a rule, to its end -/
section RULE2
variable {b : Nat → Nat} {len : Nat} {m n M N : lu_M}
/-- a rule is told whole, or it is wrong in both -/
def RU (b : Nat → Nat) (len : Nat) (m n : lu_M) (L : List Ru) (f : Nat) (fc : Option (Int32 × lu_M)) (fn : Option lu_M) : Prop :=
  (∃ M' N' f' x, fc = some (1, M') ∧ fn = some N' ∧ RV b len m n (L ++ [x]) f' M' N' ∧ f < f') ∨ ∃ M' N', fc = some (0, M') ∧ fn = some N' ∧ RX b len m n M' N'
theorem RU.end {L : List Ru} {f f1 k d y : Nat} {l : List Tk} {M1 N1 : lu_M} (V : RV b len m n L f M N) (h8 : L.length < 8) (hk : k ≤ 5) (hd : d ≤ 2) (hy : y ≤ 99) (hl0 : l = [] ∨ o_hs l 0 = some 1) (hok : ∀ t ∈ l, o_ok t) (hf : f < f1) (S : ST b len M N (r_C L) (r_M L) 0 f1 l [] M1 N1) (h26 : N1 0 26 = nI y) : RU b len m n L f (f8_tellRule_b104 (nI k) (nI (d + 1)) (nI y) M1) (f12_rule_b136 (nI k) (nI d) N1) := by
  have hl := S.l2
  have hfl := S.fl
  have hb59 := g_by_32 (b := b) (len := len) (a := f1) S.tn.2.2.2 59 (by omega)
  obtain ⟨B, A, An, w, o, tc, tn, a0, a1, a8, a6, a28, c1, c2, c3, bd⟩ := V
  unfold f8_tellRule_b104 f12_rule_b136 f12_rule_b167
  rw [p_nm, S.w0, if_pos rfl, S.an.2.1, t_byteAt S.tn (by omega), p_bi, h26, show (59 : Int32) = nI 59 from rfl, k_isByte S.tc S.at' (by omega) (by omega) (by omega), p_bi, p_if]
  by_cases hp : f1 < len ∧ b f1 = 59
  · obtain ⟨M2, N2, f2, v1, v2, S2, u1, u2, -⟩ := S.go
    have hf2 := u2 hp.1
    rw [decide_eq_true hp, if_pos rfl, if_pos (hb59.mpr hp), v1, p_bv]
    unfold f12_rule_b168 f12_rule_b247
    rw [v2, p_bv, S2.w0, if_pos rfl]
    have hbd2 := S2.bd
    have hfl2 := S2.fl
    have h0 : ([] : List Int32).length = 0 := rfl
    rw [h0] at hbd2
    obtain ⟨p1, p2, p3, p4, p5, p6, p7, p8, p9, p10, p11⟩ := S2.pc
    rw [h0, Nat.add_zero] at p10
    rw [List.append_nil] at p11
    have m0 : M2 85 0 = nI L.length := (p3 0 (by omega)).trans a0
    have n1 : N2 1 1 = nI L.length := (p7 1 (by omega)).trans a1
    have eC : f6_close 85 (nI k) (nI (d + 1)) (nI y) M2 = some (lu_st (lu_st (lu_st (lu_st (lu_st M2 86 L.length (nI k)) 87 L.length (nI (d + 1))) 88 L.length (nI y)) 89 L.length (nI (r_C L + l.length))) 85 0 (nI (L.length + 1))) := by
      unfold f6_close
      rw [m0, show (8 : Int32) = nI 8 from rfl, q_lt (by omega) (by omega), if_pos h8, p_gd h8 (by omega), p_nm, nI_clamp (by omega), lu_st_row (a := 85) (by omega), m0, p_gd h8 (by omega), p_nm, nI_clamp (by omega), lu_st_row (a := 85) (by omega), lu_st_row (a := 85) (by omega), m0, p_gd h8 (by omega), p_nm, nI_clamp (by omega), lu_st_row (a := 85) (by omega), lu_st_row (a := 85) (by omega), lu_st_row (a := 85) (by omega), m0, p8, p_gd h8 (by omega), p_nm, nI_clamp (by omega), p_nm, lu_st_row (a := 85) (by omega), lu_st_row (a := 85) (by omega), lu_st_row (a := 85) (by omega), lu_st_row (a := 85) (by omega), m0, p_next]
    rw [eC, p_bv, n1, show (136 : Int32) + ((4 : Int32) * nI L.length) = nI (136 + 4 * L.length) by rw [show (136 : Int32) = nI 136 from rfl, show (4 : Int32) = nI 4 from rfl, pk_mul, nI_add], p_nm, show (0 : Int32) = nI 0 from rfl, show (1 : Int32) = nI 1 from rfl, show (2 : Int32) = nI 2 from rfl, show (3 : Int32) = nI 3 from rfl, nI_add, nI_add, nI_add, nI_add, p_gd (by omega) (by omega), p_nm, p_gd (by omega) (by omega), p_nm, p_gd (by omega) (by omega), p_nm, p_gd (by omega) (by omega), p_nm, nI_clamp (by omega), nI_clamp (by omega), nI_clamp (by omega), nI_clamp (by omega), p_nm, Nat.add_zero (136 + 4 * L.length)]
    rw [show lu_st (lu_st (lu_st N2 1 (136 + 4 * L.length) (nI k)) 1 (136 + 4 * L.length + 1) (nI d)) 1 (136 + 4 * L.length + 2) (nI y) 0 28 = nI (r_M L + (e_Ms l).length) by rw [lu_st_row (by omega), lu_st_row (by omega), lu_st_row (by omega)]; exact p10]
    rw [show lu_st (lu_st (lu_st (lu_st N2 1 (136 + 4 * L.length) (nI k)) 1 (136 + 4 * L.length + 1) (nI d)) 1 (136 + 4 * L.length + 2) (nI y)) 1 (136 + 4 * L.length + 3) (nI (r_M L + (e_Ms l).length)) 1 1 + nI 1 = nI (L.length + 1) by rw [lu_st_ne (by omega), lu_st_ne (by omega), lu_st_ne (by omega), lu_st_ne (by omega), n1, nI_add]]
    have hrC : r_C (L ++ [(k, d, y, l)]) = r_C L + l.length := r_C_app (k, d, y, l) L
    have hrM : r_M (L ++ [(k, d, y, l)]) = r_M L + (e_Ms l).length := r_M_app (k, d, y, l) L
    have hll : (L ++ [(k, d, y, l)]).length = L.length + 1 := by simp
    have hMr : ∀ r, r ≠ 85 → r ≠ 86 → r ≠ 87 → r ≠ 88 → r ≠ 89 → lu_st (lu_st (lu_st (lu_st (lu_st M2 86 L.length (nI k)) 87 L.length (nI (d + 1))) 88 L.length (nI y)) 89 L.length (nI (r_C L + l.length))) 85 0 (nI (L.length + 1)) r = M2 r := fun r h1 h2 h3 h4 h5 => by
      rw [lu_st_row h1, lu_st_row h5, lu_st_row h4, lu_st_row h3, lu_st_row h2]
    have hNr : ∀ r, r ≠ 1 → lu_st (lu_st (lu_st (lu_st (lu_st N2 1 (136 + 4 * L.length) (nI k)) 1 (136 + 4 * L.length + 1) (nI d)) 1 (136 + 4 * L.length + 2) (nI y)) 1 (136 + 4 * L.length + 3) (nI (r_M L + (e_Ms l).length))) 1 1 (nI (L.length + 1)) r = N2 r := fun r h1 => by
      rw [lu_st_row h1, lu_st_row h1, lu_st_row h1, lu_st_row h1, lu_st_row h1]
    have hN1 : ∀ i, i ≠ 1 → (i < 136 + 4 * L.length ∨ 140 + 4 * L.length ≤ i) → lu_st (lu_st (lu_st (lu_st (lu_st N2 1 (136 + 4 * L.length) (nI k)) 1 (136 + 4 * L.length + 1) (nI d)) 1 (136 + 4 * L.length + 2) (nI y)) 1 (136 + 4 * L.length + 3) (nI (r_M L + (e_Ms l).length))) 1 1 (nI (L.length + 1)) 1 i = N2 1 i := fun i h1 h2 => by
      rw [lu_st_ne h1, lu_st_ne (by omega), lu_st_ne (by omega), lu_st_ne (by omega), lu_st_ne (by omega)]
    have hM8 : ∀ r, (r = 86 ∨ r = 87 ∨ r = 88 ∨ r = 89) → M2 r = M r := fun r hr => p1 r (by omega) (by omega) (by omega)
    obtain ⟨B1, B2, B3, B4, B5⟩ := B
    refine Or.inl ⟨_, _, f2, (k, d, y, l), rfl, rfl, ⟨⟨fun r h1 h2 => ?_, ?_, fun r h1 h2 => ?_, fun i hi => ?_, fun i h1 h2 => ?_⟩, ⟨S2.fl, ?_, ?_, ?_, fun q => ?_⟩, ⟨S2.fl, ?_, ?_⟩, ?_, ?_, ⟨S2.tc.1, ?_, fun i hi => ?_, S2.tc.2.2.2⟩, ⟨S2.tn.1, ?_, fun i hi => ?_, S2.tn.2.2.2⟩, ?_, ?_, by rw [hll]; omega, ?_, ?_, ?_, ?_, fun z hz => ?_, by rw [hrM]; omega⟩, by omega⟩
    · rw [hMr r (by omega) (by omega) (by omega) (by omega) (by omega), p1 r h1 (by omega) (by omega)]; exact B1 r h1 h2
    · rw [hMr 83 (by omega) (by omega) (by omega) (by omega) (by omega), p2]; exact B2
    · rw [hNr r h2, p5 r h1 h2]; exact B3 r h1 h2
    · rw [hNr 0 (by omega), p6 i hi]; exact B4 i hi
    · rw [hN1 i h1 (by omega), p7 i (by omega)]; exact B5 i h1 h2
    · rw [hMr 83 (by omega) (by omega) (by omega) (by omega) (by omega)]; exact S2.at'.2.1
    · rw [hMr 83 (by omega) (by omega) (by omega) (by omega) (by omega)]; exact S2.at'.2.2.1
    · rw [hMr 83 (by omega) (by omega) (by omega) (by omega) (by omega)]; exact S2.at'.2.2.2.1
    · rw [hMr 83 (by omega) (by omega) (by omega) (by omega) (by omega)]; exact S2.at'.2.2.2.2 q
    · rw [hNr 0 (by omega)]; exact S2.an.2.1
    · rw [hNr 0 (by omega)]; exact S2.an.2.2
    · rw [hNr 0 (by omega)]; exact S2.w0
    · rw [hNr 0 (by omega)]; exact S2.op
    · rw [hMr 83 (by omega) (by omega) (by omega) (by omega) (by omega)]; exact S2.tc.2.1
    · rw [hMr 84 (by omega) (by omega) (by omega) (by omega) (by omega)]; exact S2.tc.2.2.1 i hi
    · rw [hNr 0 (by omega)]; exact S2.tn.2.1
    · rw [hNr 11 (by omega)]; exact S2.tn.2.2.1 i hi
    · rw [lu_st_self, hll]
    · rw [lu_st_self, hll]
    · rw [lu_st_ne (by omega), lu_st_row (by omega), lu_st_row (by omega), lu_st_row (by omega), lu_st_row (by omega), p8, hrC]
    · rw [hNr 0 (by omega), p10, hrM]
    · refine RLc.app L 0 0 (RLc.ix (m := M) L 0 0 (fun i j h1 h2 h3 => ?_) (fun j hj => ?_) c1) ?_
      · rw [Nat.zero_add] at h3
        have h4 : i = 1 ∨ i = 2 ∨ i = 3 ∨ i = 4 := by omega
        rcases h4 with e | e | e | e <;> subst e
        · rw [lu_st_row (by omega), lu_st_row (by omega), lu_st_row (by omega), lu_st_row (by omega), lu_st_ne (by omega), hM8 86 (by omega)]
        · rw [lu_st_row (by omega), lu_st_row (by omega), lu_st_row (by omega), lu_st_ne (by omega), lu_st_row (by omega), hM8 87 (by omega)]
        · rw [lu_st_row (by omega), lu_st_row (by omega), lu_st_ne (by omega), lu_st_row (by omega), lu_st_row (by omega), hM8 88 (by omega)]
        · rw [lu_st_row (by omega), lu_st_ne (by omega), lu_st_row (by omega), lu_st_row (by omega), lu_st_row (by omega), hM8 89 (by omega)]
      · rw [hMr 90 (by omega) (by omega) (by omega) (by omega) (by omega)]
        exact p4 j (by omega)
      · rw [Nat.zero_add, Nat.zero_add]
        refine ⟨?_, ?_, ?_, ?_, ?_, trivial⟩
        · rw [lu_st_row (by omega), lu_st_row (by omega), lu_st_row (by omega), lu_st_row (by omega), lu_st_self]
        · rw [lu_st_row (by omega), lu_st_row (by omega), lu_st_row (by omega), lu_st_self]
        · rw [lu_st_row (by omega), lu_st_row (by omega), lu_st_self]
        · rw [lu_st_row (by omega), lu_st_self]
        · rw [hMr 90 (by omega) (by omega) (by omega) (by omega) (by omega)]; exact p9
    · refine RLs.app L 0 0 (RLs.ix (s := N 1) L 0 0 (fun i h1 h2 => ?_) (fun i h1 h2 => ?_) c2) ?_
      · rw [hN1 i (by omega) (by omega), p7 i (by omega)]
      · rw [hN1 i (by omega) (by omega), p7 i (by omega)]
      · rw [Nat.zero_add, Nat.zero_add]
        refine ⟨?_, ?_, ?_, ?_, ?_, trivial⟩
        · rw [lu_st_ne (by omega), lu_st_ne (by omega), lu_st_ne (by omega), lu_st_ne (by omega), lu_st_self]
        · rw [show 137 + 4 * L.length = 136 + 4 * L.length + 1 by omega, lu_st_ne (by omega), lu_st_ne (by omega), lu_st_ne (by omega), lu_st_self]
        · rw [show 138 + 4 * L.length = 136 + 4 * L.length + 2 by omega, lu_st_ne (by omega), lu_st_ne (by omega), lu_st_self]
        · rw [show 139 + 4 * L.length = 136 + 4 * L.length + 3 by omega, lu_st_ne (by omega), lu_st_self]
        · exact seg_eq _ _ (fun i h1 h2 => hN1 i (by omega) (by omega)) p11
    · rw [List.mem_append] at hz
      rcases hz with hz | hz
      · exact c3 z hz
      · have e : z = (k, d, y, l) := by simpa using hz
        subst e
        exact ⟨hk, hd, hy, hl0, hok⟩
  · rw [decide_eq_false hp, if_neg p_ff, if_neg (fun q => hp (hb59.mp q))]
    obtain ⟨N2, v2, F, -⟩ := S.no
    obtain ⟨-, -, -, -, -, T2, f', -, A2, h29⟩ := id F
    refine Or.inr ⟨M1, N2, rfl, ?_, B.fa (us := 0) (o := 0) F⟩
    unfold f12_rule_b168 f12_rule_b247
    rw [v2, p_bv, h29, if_neg (by decide)]
theorem RU.b50 {L : List Ru} {f f1 k : Nat} {l : List Tk} {M1 N1 : lu_M} (V : RV b len m n L f M N) (h8 : L.length < 8) (hk : k ≤ 5) (hl0 : l = [] ∨ o_hs l 0 = some 1) (hok : ∀ t ∈ l, o_ok t) (hf : f < f1) (S : ST b len M N (r_C L) (r_M L) 0 f1 l [] M1 N1) : RU b len m n L f (f8_tellRule_b50 (nI k) M1) (f12_rule_b49 (nI k) N1) := by
  have hl := S.l2
  have B := V.1
  rw [t_dn S.tn S.an S.w0]
  unfold f8_tellRule_b50 f8_tellRule_b93 f12_rule_b91
  rw [k_dn S.tc S.at', p_bi]
  by_cases hd : g_do b len f1 = 3
  · rw [if_pos hd, if_pos hd, if_pos rfl, if_pos (show (-1 : Int32) < 0 by decide)]
    obtain ⟨N2, v2, F, -⟩ := S.no
    have F1 := F.s26 0
    obtain ⟨-, -, -, -, -, T2, f', -, A2, h29⟩ := id F1
    refine Or.inr ⟨M1, _, rfl, ?_, B.fa (us := 0) (o := 0) F1⟩
    unfold f12_rule_b104
    rw [v2, p_bv, p_nm, if_pos (show (-1 : Int32) < 0 by decide), st_rule136 h29]
  · obtain ⟨hd2, hlt⟩ := g_do_lt hd
    rw [if_neg hd, if_neg hd, if_neg (p_ne0 (by omega) (by omega)), if_neg (nI_pos (by omega))]
    generalize g_do b len f1 = d at *
    obtain ⟨M2, N2, f2, v1, v2, S2, u1, u2, -⟩ := S.go
    have hf2 := u2 hlt
    have S3 : ST b len M N (r_C L) (r_M L) 0 f2 l [] M2 (lu_st N2 0 26 0) := by
      rw [p_st]
      exact S2.n0 (fun i h1 h2 => upd_ne h1) (by rw [upd_ne (by omega)]; exact S2.op)
    have hfl := S3.fl
    rw [v1, p_bv]
    unfold f12_rule_b104
    rw [v2, p_bv, p_nm, if_neg (nI_pos (by omega)), S3.w0, if_pos rfl, show (3 : Int32) = nI 3 from rfl, show (2 : Int32) = nI 2 from rfl, q_eq (by omega) (by omega), q_eq (by omega) (by omega)]
    by_cases h2 : d = 2
    · subst h2
      rw [if_pos rfl, if_pos rfl]
      exact RU.end V h8 hk (by omega) (y := 0) (by omega) hl0 hok (by omega) S3 (lu_st_self ..)
    · rw [if_neg (by omega), if_neg h2, S3.at'.2.1, q_eq (by have := g_so_le b len f2; omega) (by omega)]
      obtain ⟨num1, num2⟩ := t_num S3.tn S3.an (high := 99) (by omega)
      have k99 : ∀ v : Int32, f11_isWithin v (0 : Int32) (99 : Int32) M2 = some (p_b (p_in v.toInt 0 99), M2) := fun v => k_in v 0 99 M2
      by_cases hn : g_D b len f2 = true ∧ g_nx b len f2 - f2 ≤ 4 ∧ g_nm b (g_nx b len f2 - f2) f2 0 ≤ 99
      · have hs := (g_so_2 b len f2).mpr hn.1
        have hv : M2 83 6 = nI (g_nm b (g_nx b len f2 - f2) f2 0) := by
          rw [S3.at'.2.2.2.2 hs]
          unfold g_val
          rw [if_pos hn.2.1]
        have hin : p_in (nI (g_nm b (g_nx b len f2 - f2) f2 0)).toInt 0 99 = true := by
          unfold p_in
          rw [nI_toInt (by omega)]
          exact decide_eq_true (by omega)
        have S4 := S3.n0 (z := upd (lu_st N2 0 26 0 0) 26 (nI (g_nm b (g_nx b len f2 - f2) f2 0))) (fun i h1 h2 => upd_ne h1) (o' := 0) (by rw [upd_ne (by omega)]; exact S3.op)
        obtain ⟨M5, N5, f5, x1, x2, S5, y1, y2, y3⟩ := S4.go
        have hf5 := y2 (g_Dl b len f2 hn.1)
        rw [if_pos hs, k99, p_bi, p_if, hv, hin, if_pos rfl, p_nm, x1, p_bv, show (99 : Int32) = nI 99 from rfl, num1 hn, x2, p_bv]
        exact RU.end V h8 hk hd2 hn.2.2 hl0 hok (by omega) S5 (by rw [y3, p_rw_s, p_us])
      · obtain ⟨v, ev⟩ := num2 hn
        have S4 := S3.n0 (z := upd (lu_st N2 0 26 0 0) 26 v) (fun i h1 h2 => upd_ne h1) (o' := 0) (by rw [upd_ne (by omega)]; exact S3.op)
        obtain ⟨N5, x2, F, -⟩ := S4.no
        obtain ⟨-, -, -, -, -, T2, f', -, A2, h29⟩ := id F
        rw [show (99 : Int32) = nI 99 from rfl, ev, x2, p_bv, st_rule136 h29]
        refine Or.inr ⟨M2, N5, ?_, rfl, B.fa (us := 0) (o := 0) F⟩
        by_cases hs : g_so b len f2 = 2
        · have hout : p_in (M2 83 6).toInt 0 99 = false := by
            rw [S3.at'.2.2.2.2 hs]
            unfold g_val p_in
            by_cases h4 : g_nx b len f2 - f2 ≤ 4
            · have hlt2 := g_num_lt hl ((g_so_2 b len f2).mp hs) h4
              rw [if_pos h4, nI_toInt (by omega)]
              exact decide_eq_false (fun q => hn ⟨(g_so_2 b len f2).mp hs, h4, by omega⟩)
            · rw [if_neg h4]
              decide
          rw [if_pos hs, show nI 99 = (99 : Int32) from rfl, k99, p_bi, p_if, hout, if_neg p_ff]
        · rw [if_neg hs]
theorem RU.rule {L : List Ru} {f : Nat} (V : RV b len m n L f M N) : RU b len m n L f (f8_tellRule M) (f12_rule N) := by
  have S := V.st
  have hl := S.l2
  have B := V.1
  have h85 : M 85 0 = nI L.length := V.2.2.2.2.2.2.2.1
  have h11 : N 1 1 = nI L.length := V.2.2.2.2.2.2.2.2.1
  have h8 : L.length ≤ 8 := V.2.2.2.2.2.2.2.2.2.1
  have fin : ∀ (M' N' : lu_M) (v : Int32), FA b len M N (r_M L) M' N' → RU b len m n L f (some (0, M')) (f12_rule_b49 v N') := fun M' N' v F => by
    obtain ⟨-, -, -, -, -, T2, f', -, A2, h29⟩ := id F
    exact Or.inr ⟨M', _, rfl, st_rule49 T2 A2 h29 v, B.fa (us := 0) (o := 0) (F.s26 0)⟩
  have bad : ∀ v : Int32, RU b len m n L f (some (0, M)) (f12_rule_b25 v N) := fun v => by
    obtain ⟨N2, v2, F, -⟩ := S.no
    obtain ⟨-, -, -, -, -, T2, f', -, A2, h29⟩ := id F
    unfold f12_rule_b25 f12_rule_b26
    rw [v2, p_bv, st_word T2 A2 h29, p_bi, gc6, if_neg (g_wd_1 b len f' (j := 6) (by omega))]
    exact fin M N2 v F
  unfold f8_tellRule f8_tellRule_b21 f12_rule
  rw [k_kind S.tc S.at', p_bi, t_kind S.tn S.an S.w0, p_bi, h85, h11, show (8 : Int32) = nI 8 from rfl, q_lt (by omega) (by omega), q_le (by omega) (by omega)]
  rcases g_kd_ok b len f with e | ⟨k, hk, e, hlt⟩
  · rw [e, if_pos (show (-1 : Int32) < 0 by decide), if_pos (show (-1 : Int32) < 0 by decide)]
    exact bad (-1)
  rw [e, if_neg (nI_pos (by omega)), if_neg (nI_pos (by omega))]
  by_cases h : L.length < 8
  · obtain ⟨M1, N1, f1, v1, v2, S1, u1, u2, -⟩ := S.go
    have hf1 := u2 hlt
    rw [if_pos h, if_neg (by omega), v1, p_bv]
    unfold f12_rule_b26
    rw [v2, p_bv, k_isNamed S1.tc S1.at' (j := 6) (by omega), p_bi, p_if, t_word S1.tn S1.an (wr := false) S1.w0, p_bi, gc6, g_wq (j := 6) S1.tn S1.an.1 (by omega)]
    cases hif : g_is b len f1 6
    · rw [if_neg p_ff, if_neg p_ff]
      exact RU.b50 V h hk (Or.inl rfl) (fun t ht => absurd ht (by simp)) hf1 S1
    · obtain ⟨M2, N2, f2, x1, x2, S2, y1, y2, -⟩ := S1.go
      have hf2 := y2 (g_is_lt hif)
      rw [if_pos rfl, if_pos rfl, x1, p_bv, x2, p_bv]
      have hc := ST.cond 3 0 6 8 f2 [] M2 N2 (by omega) (by omega) (by omega) S2
      have hc' : OU b len M N (r_C L) (r_M L) 0 f2 [] (3 + 2 * 0) (f8_tellCondition 6 (0 : Int32) M2) (f12_condition 8 N2) := hc
      rcases hc' with ⟨M3, N3, f3, lx, d1, d2, S3, s1, s2, s3, s4⟩ | ⟨M3, N3, d1, d2, F⟩
      · rw [d1, p_bi, if_neg (by decide), d2, p_bv]
        exact RU.b50 V h hk (Or.inr (s3 0 (by omega))) s4 (by omega) S3
      · rw [d1, p_bi, if_pos rfl, d2, p_bv]
        exact fin M3 N3 _ F
  · rw [if_neg h, if_pos (by omega)]
    exact bad _
end RULE2

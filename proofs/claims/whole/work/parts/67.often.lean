/-! THE PURE PART: often -/
def s_lotU (L : List Ru) : Nat → (Nat → Int32) → (Nat → Int32)
  | 0, u => u
  | k + 1, u => if s_ov u then u else s_lotU L k (s_goes L (s_act (s_z (u 7)) (s_P u)) (upd u 7 (s_z (u 7))))
def s_lotW (L : List Ru) : Nat → (Nat → Int32) → Int32
  | 0, _ => 0
  | k + 1, u => if s_ov u then 0 else s_w L (s_act (s_z (u 7)) (s_P u)) (upd u 7 (s_z (u 7))) + s_lotW L k (s_goes L (s_act (s_z (u 7)) (s_P u)) (upd u 7 (s_z (u 7))))
/-- one YEAR by lot: what stays -/
theorem s_lot_step {s u : Nat → Int32} (E : SE (upd s 7 (u 7)) u) (J : SI u) (h : s_ov u = false) (L : List Ru) : SE (upd s 7 (s_goes L (s_act (s_z (u 7)) (s_P u)) (upd u 7 (s_z (u 7))) 7)) (s_goes L (s_act (s_z (u 7)) (s_P u)) (upd u 7 (s_z (u 7)))) ∧ SI (s_goes L (s_act (s_z (u 7)) (s_P u)) (upd u 7 (s_z (u 7)))) ∧ s_goes L (s_act (s_z (u 7)) (s_P u)) (upd u 7 (s_z (u 7))) 7 = s_z (u 7) ∧ SE (upd u 7 (s_z (u 7))) (s_goes L (s_act (s_z (u 7)) (s_P u)) (upd u 7 (s_z (u 7)))) ∧ SE (upd s 7 (s_z (u 7))) (upd u 7 (s_z (u 7))) ∧ SI (upd u 7 (s_z (u 7))) := by
  have h2 : s_v (upd u 7 (s_z (u 7))) 3 < s_v (upd u 7 (s_z (u 7))) 2 := by
    rw [s_v_of (u := upd u 7 (s_z (u 7))) (s := u) (i := 3) (upd_ne (by omega)), s_v_of (u := upd u 7 (s_z (u 7))) (s := u) (i := 2) (upd_ne (by omega))]
    exact s_ov_f h
  have I2 : SI (upd u 7 (s_z (u 7))) := J.ag ((SA.rf u).up _ (by omega))
  obtain ⟨E3, J3⟩ := s_goes_I I2 L (s_act (s_z (u 7)) (s_P u)) h2
  have e7 : s_goes L (s_act (s_z (u 7)) (s_P u)) (upd u 7 (s_z (u 7))) 7 = s_z (u 7) := (E3.lo (by omega) (by omega) (by omega)).trans (p_us ..)
  have E2 : SE (upd s 7 (s_z (u 7))) (upd u 7 (s_z (u 7))) := fun i a b c => by
    by_cases e : i = 7
    · subst e; rw [p_us, p_us]
    · rw [upd_ne e, upd_ne e, E i a b c, upd_ne e]
  refine ⟨?_, J3, e7, E3, E2, I2⟩
  rw [e7]
  exact E2.tr E3
theorem s_lotU_E {s : Nat → Int32} (L : List Ru) : ∀ (j : Nat) (u : Nat → Int32), SE (upd s 7 (u 7)) u → SI u → SE (upd s 7 (s_lotU L j u 7)) (s_lotU L j u)
  | 0, u, E, J => E
  | j + 1, u, E, J => by
    unfold s_lotU
    cases h : s_ov u
    · rw [if_neg p_ff]
      obtain ⟨E1, J1, -⟩ := s_lot_step E J h L
      exact s_lotU_E L j _ E1 J1
    · rw [if_pos rfl]
      exact E
def oM (m : lu_M) (z : Int32) (f x : Nat → Int32) : lu_M := zM (p_rw m 1 (upd (m 1) 10 z)) f x
theorem oM1 (m : lu_M) (z : Int32) (f x : Nat → Int32) : oM m z f x 1 = upd (m 1) 10 z := by
  unfold oM
  rw [zM_n _ _ _ (by omega) (by omega), p_rw_s]
theorem oM_n (m : lu_M) (z : Int32) (f x : Nat → Int32) {a : Nat} (h1 : a ≠ 1) (h2 : a ≠ 36) (h3 : a ≠ 73) : oM m z f x a = m a := by
  unfold oM
  rw [zM_n _ _ _ h2 h3, p_rw_n h1]
theorem oM_z (m : lu_M) (z z' : Int32) (f x : Nat → Int32) : p_rw (oM m z f x) 1 (upd (oM m z f x 1) 10 z') = oM m z' f x := by
  rw [oM1, upd_upd]
  unfold oM zM
  rw [p_rw_sw (a := 73) (by omega), p_rw_sw (a := 1 + 35) (by omega), p_rw_rw]
theorem oM_x (m : lu_M) (z : Int32) (f x x' : Nat → Int32) : p_rw (oM m z f x) 73 x' = oM m z f x' := by
  unfold oM zM
  rw [p_rw_rw]
theorem oM73 (m : lu_M) (z : Int32) (f x : Nat → Int32) : oM m z f x 73 = x := zM73 ..
theorem oM_fx (m : lu_M) (z : Int32) (f x : Nat → Int32) : p_rw (p_rw (p_rw m 1 (upd (m 1) 10 z)) (1 + 35) f) 73 x = oM m z f x := rfl
theorem k_oftN {m n : lu_M} {L : List Ru} (W : WR m 1 (n 1) L) (K : Int32 → Int32 → Int32 → lu_M → Option (Int32 × lu_M)) (a1 a2 v3 v4 v5 : Int32) : ∀ (j i q : Nat) (u f x : Nat → Int32), i + j = 16 → j < q → SE (upd (n 1) 7 (u 7)) u → SI u → CR (s_D u) x u → ∃ f' x', f11_often_b60 K a1 a2 q v3 v4 v5 (nI i) (oM m (u 7) f x) = K v3 v4 v5 (oM m (s_lotU L j u 7) f' x') ∧ x' 5 = x 5 + s_lotW L j u
  | 0, i, q, u, f, x, h1, h2, E, J, C => by
    obtain ⟨q, rfl⟩ : ∃ r, q = r + 1 := ⟨q - 1, by omega⟩
    rw [Nat.add_zero] at h1
    subst h1
    refine ⟨f, x, ?_, (Int32.add_zero _).symm⟩
    show f11_often_b60B _ _ _ _ _ _ _ _ _ = _
    unfold f11_often_b60B
    rw [if_pos (by decide)]
    rfl
  | j + 1, i, q, u, f, x, h1, h2, E, J, C => by
    obtain ⟨q, rfl⟩ : ∃ r, q = r + 1 := ⟨q - 1, by omega⟩
    have Wz := W.z (u 7)
    have W2 : WR (oM m (u 7) f x) 1 (upd (n 1) 7 (u 7)) L := Wz.tr (fun a h1 h2 => zM_n _ _ _ (by omega) (by omega))
    have ho : f10_isOver 1 73 (oM m (u 7) f x) = some (p_b (s_ov u), oM m (u 7) f x) := k_isOver J (by
      rw [oM1, upd_ne (by omega), W.b.en, E.lo (by omega) (by omega) (by omega), upd_ne (by omega)]) (by
      rw [oM73]; exact C.1)
    show ∃ f' x', f11_often_b60B _ _ _ _ _ _ _ _ _ = _ ∧ _
    unfold f11_often_b60B s_lotU s_lotW
    rw [show (16 : Int32) = nI 16 from rfl, q_le (by omega) (by omega), if_neg (by omega), ho, p_bi, p_if]
    cases h : s_ov u
    · rw [if_neg p_ff, if_neg p_ff, if_neg p_ff]
      obtain ⟨E1, J1, e7, E3, E2, I2⟩ := s_lot_step E J h L
      have hd := k_drawn W2
      rw [p_us, oM_z, ← E.P] at hd
      have Wz' := W.z (s_z (u 7))
      have C2 : CR (s_D (upd u 7 (s_z (u 7)))) x (upd u 7 (s_z (u 7))) := C.ag J ((SA.rf u).up _ (by omega))
      obtain ⟨f1, x1, ep, C1, h5⟩ := k_pass I2 (Wz'.b.se Wz'.i E2) LN73 Wz'.w (s_act (s_z (u 7)) (s_P u)) f C2
      rw [oM_fx, oM_fx] at ep
      rw [hd, p_bi, ep, p_bi, p_next]
      rw [← E3.D] at C1
      obtain ⟨f2, x2, e2, h52⟩ := k_oftN W K a1 a2 v3 v4 v5 j (i + 1) q _ f1 x1 (by omega) (by omega) E1 J1 C1
      rw [e7] at e2
      refine ⟨f2, x2, e2, ?_⟩
      rw [h52, h5, Int32.add_assoc]
    · rw [if_pos rfl, if_pos rfl, if_pos rfl]
      exact ⟨f, x, rfl, (Int32.add_zero _).symm⟩
theorem zN_set (n : lu_M) (o u t u' t' : Nat → Int32) : p_rw (p_rw (zN n o u t) 1 u') 4 t' = zN n o u' t' := by
  unfold zN
  rw [p_rw_sw (a := 4) (b := 1) (by omega), p_rw_rw, p_rw_rw]
theorem zN_set1 (n : lu_M) (o u t u' : Nat → Int32) : p_rw (zN n o u t) 1 u' = zN n o u' t := by
  unfold zN
  rw [p_rw_sw (a := 4) (b := 1) (by omega), p_rw_rw]
theorem t_oftN {n : lu_M} {L : List Ru} (hL : LV L) (o : Nat → Int32) (K : Int32 → Int32 → Int32 → lu_M → Option (Int32 × lu_M)) (a1 a2 v3 v4 : Int32) : ∀ (j q : Nat) (u t : Nat → Int32) (v : Int32), s_v u 2 ≤ s_v u 3 + j → j < q → SE (upd (n 1) 7 (u 7)) u → SI u → RS' u L → ∃ t', f12_often_b44 K a1 a2 q v3 v4 v (zN n o u t) = K v3 v4 (v + s_lotW L j u) (zN n o (s_lotU L j u) t')
  | j, q, u, t, v, h1, h2, E, J, hr => by
    obtain ⟨q, rfl⟩ : ∃ r, q = r + 1 := ⟨q - 1, by omega⟩
    have ho := t_isOver (n := zN n o u t) (by rw [zN1]; exact J)
    rw [zN1] at ho
    show ∃ t', f12_often_b44B _ _ _ _ _ _ _ _ = _
    unfold f12_often_b44B
    rw [ho, p_bi, p_if]
    cases h : s_ov u
    · obtain ⟨j, rfl⟩ : ∃ i, j = i + 1 := ⟨j - 1, by have := s_ov_f h; omega⟩
      unfold s_lotU s_lotW
      rw [h, if_neg p_ff, if_neg p_ff, if_neg p_ff]
      obtain ⟨E1, J1, e7, E3, E2, I2⟩ := s_lot_step E J h L
      obtain ⟨t1, e1⟩ := t_byLot (n := zN n o u t) (zN1 ..) J hL hr
      rw [zN_set] at e1
      have hlt : s_v (upd u 7 (s_z (u 7))) 3 < s_v (upd u 7 (s_z (u 7))) 2 := by
        rw [s_v_of (u := upd u 7 (s_z (u 7))) (s := u) (i := 3) (upd_ne (by omega)), s_v_of (u := upd u 7 (s_z (u 7))) (s := u) (i := 2) (upd_ne (by omega))]
        exact s_ov_f h
      obtain ⟨g3, g2, -⟩ := s_goes_23 I2 L (s_act (s_z (u 7)) (s_P u)) hlt
      rw [s_v_of (u := upd u 7 (s_z (u 7))) (s := u) (i := 3) (upd_ne (by omega))] at g3
      rw [s_v_of (u := upd u 7 (s_z (u 7))) (s := u) (i := 2) (upd_ne (by omega))] at g2
      have hr1 : RS' (s_goes L (s_act (s_z (u 7)) (s_P u)) (upd u 7 (s_z (u 7)))) L := (hr.up hL (s_z (u 7)) (k := 7) (by omega) (by omega)).se E3 hL.1 hL.2.1
      obtain ⟨t2, e2⟩ := t_oftN hL o K a1 a2 v3 v4 j q _ t1 (v + s_w L (s_act (s_z (u 7)) (s_P u)) (upd u 7 (s_z (u 7)))) (by omega) (by omega) E1 J1 hr1
      refine ⟨t2, ?_⟩
      rw [e1, p_bi, p_nm, e2, Int32.add_assoc]
    · rw [if_pos rfl]
      refine ⟨t, ?_⟩
      cases j with
      | zero =>
        unfold s_lotW s_lotU
        rw [Int32.add_zero]
      | succ j =>
        unfold s_lotW s_lotU
        rw [h, if_pos rfl, if_pos rfl, Int32.add_zero]
theorem often_run {m n : lu_M} {L : List Ru} (R : Rel m n) (W : WR m 1 (n 1) L) {N : Nat} (hN : N ≤ 40) (b : Int32) {o : Nat → Int32} (ho : ∀ k, k < 368 → o k = n 1 k) : ∀ (j k q : Nat) (z : Int32) (f x t : Nat → Int32) (mn : Int32), k + j = N → j < q → ∃ a m' n', f11_often_b37 (f11_often_b126 (nI N) b) (nI N) b q (m 1 10) mn (nI k) (oM m z f x) = some (a, m') ∧ f12_often_b35 (f12_often_b105 (nI N) b) (nI N) b q mn (nI k) (zN n o (upd (n 1) 7 z) t) = some (a, n') ∧ Rel m' n'
  | 0, k, q, z, f, x, t, mn, h1, h2 => by
    obtain ⟨q, rfl⟩ : ∃ r, q = r + 1 := ⟨q - 1, by omega⟩
    rw [Nat.add_zero] at h1
    subst h1
    have eb : f12_putsBack (zN n o (upd (n 1) 7 z) t) = some (p_rw (zN n o (upd (n 1) 7 z) t) 1 (n 1)) :=
      t_putsBack (fun k hk => by
        show (p_rw (p_rw (p_rw n 3 o) 1 _) 4 t) 3 k = _
        rw [p_rw_n (by omega), p_rw_n (by omega), p_rw_s]; exact ho k hk) (fun k hk => by rw [zN1, upd_ne (by omega)])
    refine ⟨mn, zM m f x, p_rw (zN n o (upd (n 1) 7 z) t) 1 (n 1), ?_, ?_, R.line f x o _ t⟩
    · show f11_often_b37B _ _ _ _ _ _ _ _ = _
      unfold f11_often_b37B f11_often_b126
      rw [if_pos (Int32.le_refl _), p_nm, p_st, oM_z]
      unfold oM
      rw [p_uid, p_rw_id]
    · show f12_often_b35B _ _ _ _ _ _ _ = _
      unfold f12_often_b35B f12_often_b105
      rw [if_pos (Int32.le_refl _), eb, p_bv]
  | j + 1, k, q, z, f, x, t, mn, h1, h2 => by
    obtain ⟨q, rfl⟩ : ∃ r, q = r + 1 := ⟨q - 1, by omega⟩
    have hE := W.i.E16
    obtain ⟨x1, e1, hx, h5⟩ := k_begin (oM m z f x) (c := 73) (b := 29) (by omega)
    rw [oM_x] at e1
    have hsa : SA (n 1) (upd (n 1) 7 z) := (SA.rf _).up _ (by omega)
    have hc29 : ∀ i, i < 5 → x1 i = m 29 i := fun i hi => by rw [hx i hi, oM_n _ _ _ _ (by omega) (by omega) (by omega)]
    have C1 : CR (s_D (upd (n 1) 7 z)) x1 (upd (n 1) 7 z) := CR.cp hc29 (W.c.ag W.i hsa)
    have J1 := W.i.ag hsa
    have E1 : SE (upd (n 1) 7 (upd (n 1) 7 z 7)) (upd (n 1) 7 z) := by rw [p_us]; exact SE.rf _
    obtain ⟨f2, x2, e2, h52⟩ := k_oftN W (f11_often_b106 (f11_often_b37 (f11_often_b126 (nI N) b) (nI N) b q) (f11_often_b126 (nI N) b) (nI N) b) (nI N) b (m 1 10) mn (nI k) 16 0 lu_fu (upd (n 1) 7 z) f x1 (by omega) (p_fu (by omega)) E1 J1 C1
    rw [p_us] at e2
    obtain ⟨t2, e3⟩ := t_oftN W.l (n := n) o (f12_often_b63 (f12_often_b35 (f12_often_b105 (nI N) b) (nI N) b q) (f12_often_b105 (nI N) b) (nI N) b) (nI N) b mn (nI k) 16 lu_fu (upd (n 1) 7 z) t 0 (by
      rw [s_v_of (u := upd (n 1) 7 z) (s := n 1) (i := 2) (upd_ne (by omega))]; omega) (p_fu (by omega)) E1 J1 (W.r.up W.l _ (by omega) (by omega))
    have E4 := s_lotU_E (s := n 1) L 16 _ E1 J1
    rw [Int32.zero_add] at e3
    rw [h5, Int32.zero_add] at h52
    generalize s_lotW L 16 (upd (n 1) 7 z) = w at *
    generalize s_lotU L 16 (upd (n 1) 7 z) = U at *
    have eb : f12_putsBack (zN n o U t2) = some (p_rw (zN n o U t2) 1 (n 1)) :=
      t_putsBack (fun k hk => by
        show (p_rw (p_rw (p_rw n 3 o) 1 _) 4 t2) 3 k = _
        rw [p_rw_n (by omega), p_rw_n (by omega), p_rw_s]; exact ho k hk) (fun k hk => by rw [zN1, E4.hi (by omega), upd_ne (by omega)])
    have hx2 : oM m (U 7) f2 x2 73 5 = w := by
      rw [oM73]; exact h52
    have hn : ∀ s0 s1 : Int32, f12_often_b75 (f12_often_b35 (f12_often_b105 (nI N) b) (nI N) b q) (f12_often_b105 (nI N) b) (nI N) b (nI k) s0 s1 (zN n o U t2) = f12_often_b35 (f12_often_b105 (nI N) b) (nI N) b q (s1 + s0) (nI (k + 1)) (zN n o (upd (n 1) 7 (U 7)) t2) := fun s0 s1 => by
      unfold f12_often_b75
      rw [p_nm, p_nm, eb, p_bv, p_nm, p_next, zN1, p_st, p_rw_s, p_rw_rw, zN_set1]
    show ∃ a m' n', f11_often_b37B _ _ _ _ _ _ _ _ = _ ∧ f12_often_b35B _ _ _ _ _ _ _ = _ ∧ _
    unfold f11_often_b37B f12_often_b35B
    rw [q_le (by omega) (by omega), q_le (by omega) (by omega), if_neg (by omega), if_neg (by omega), e1, p_bv, show (0 : Int32) = nI 0 from rfl, e2]
    rw [show (nI 0 : Int32) = 0 from rfl, e3]
    unfold f11_often_b106 f11_often_b120 f12_often_b63
    rw [hx2, p_next]
    by_cases hw : w < b
    · rw [if_pos hw, if_pos hw, hn, Int32.add_zero]
      exact often_run R W hN b ho j (k + 1) q (U 7) f2 x2 t2 mn (by omega) (by omega)
    · rw [if_neg hw, if_neg hw, hn]
      exact often_run R W hN b ho j (k + 1) q (U 7) f2 x2 t2 (mn + 1) (by omega) (by omega)
theorem y_often (a b : Int32) : Me (f11_often a b) (f12_often a b) := Me.mk fun m n L R W => by
  unfold f11_often f12_often f11_often_b21 f12_often_b24
  rw [show (0 : Int64) = (0 : Int32).toInt64 from rfl, show (1 : Int64) = (1 : Int32).toInt64 from rfl, show (40 : Int64) = (40 : Int32).toInt64 from rfl, show (999 : Int64) = (999 : Int32).toInt64 from rfl, k_in, t_in32, p_bi, p_bi, p_if, p_if]
  cases h1 : p_in a.toInt (1 : Int32).toInt (40 : Int32).toInt
  · rw [if_neg p_ff, if_neg p_ff]
    exact ⟨_, _, _, rfl, rfl, R⟩
  rw [if_pos rfl, if_pos rfl, k_in, t_in32, p_bi, p_bi, p_if, p_if]
  cases h2 : p_in b.toInt (0 : Int32).toInt (999 : Int32).toInt
  · rw [if_neg p_ff, if_neg p_ff]
    exact ⟨_, _, _, rfl, rfl, R⟩
  obtain ⟨N, rfl, l1, hN⟩ := p_in_ex (lo := 1) (hi := 40) h1 (by omega)
  obtain ⟨o, eo, ho⟩ := t_puts n
  rw [if_pos rfl, if_pos rfl, p_nm, eo, p_bv, ← zN_start]
  have hz : m 1 10 = n 1 7 := W.x.1
  have hm : m = oM m (m 1 10) (m 36) (m 73) := by
    unfold oM zM
    rw [p_uid, p_rw_id, p_rw_id, p_rw_id]
  have hs : n 1 = upd (n 1) 7 (m 1 10) := by rw [hz, p_uid]
  have e := often_run R W hN b ho N 0 lu_fu (m 1 10) (m 36) (m 73) (n 4) 0 (by omega) (p_fu (by omega))
  rw [← hm, ← hs] at e
  exact e

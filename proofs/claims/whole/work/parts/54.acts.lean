/-! THE PURE PART: goAll, wouldBe -/
theorem Rel.go {m n : lu_M} {L : List Ru} (R : Rel m n) (W : WR m 1 (n 1) L) (a : Int32) (h : s_ov (n 1) = false) : ∃ v m' n', f10_pass 1 29 a m = some (v, m') ∧ f12_goes a n = some (v, n') ∧ Rel m' n' := by
  obtain ⟨E, J⟩ := s_goes_I W.i L a (s_ov_f h)
  obtain ⟨f, x, e1, C, h5⟩ := k_pass W.i W.b LN29 W.w a (m 36) W.c
  have hm : p_rw (p_rw m (1 + 35) (m 36)) 29 (m 29) = m := by rw [p_rw_id, p_rw_id]
  obtain ⟨t, e2⟩ := t_goes (n := n) rfl W.i W.l W.r a (n 4)
  rw [p_rw_id] at e2
  have e1' : f10_pass 1 29 a m = some (s_w L a (n 1), p_rw (p_rw m (1 + 35) f) 29 x) := by
    have := e1
    rw [hm] at this
    exact this
  refine ⟨_, _, _, e1', e2, ⟨L, ?_⟩, R.2.fr (((FM.rf m).rw _ _ (by omega)).rw _ _ (by omega)) (((FN.rf n).rw _ _ (by omega)).rw _ _ (by omega))⟩
  rw [p_rw_n (by omega), p_rw_s]
  refine W.go ((((FR.rf 1 m).fa f)).ln LN29 x) E J (by rw [p_rw_s]; exact C) ?_
  rw [p_rw_s, h5, W.y, s_goes_4 W.i]
theorem k_isAct {m : lu_M} {P : Nat} (h : m 1 0 = nI P) (hP : P ≤ 6) (a : Int32) : f10_isAct 1 a m = some (p_b (p_in a.toInt 0 P), m) := by
  unfold f10_isAct
  rw [h, k_in, p_bi, p_gb, nI_toInt (by omega)]
  rfl
theorem t_isAct {n : lu_M} (I : SI (n 1)) (a : Int32) : f12_isAct a n = some (p_b (p_in a.toInt 0 (s_P (n 1)) && !s_ov (n 1)), n) := by
  have hP := I.P6
  unfold f12_isAct f12_isAct_b27 f12_isAct_b28
  rw [I.eP, show (0 : Int64) = (0 : Int32).toInt64 from rfl, t_in32, p_bi, p_if, t_isOver I, p_bi, p_if, nI_toInt (by omega)]
  show (if p_in a.toInt 0 (s_P (n 1)) = true then _ else _) = _
  cases p_in a.toInt 0 (s_P (n 1))
  · rfl
  · cases s_ov (n 1) <;> rfl
/-- where i + k stands -/
theorem p_at (a : Int32) {k z : Nat} (hk : k ≤ 20) (hz : z ≤ 40) : p_in (a + nI k).toInt 0 ((z : Int) - 1) = p_in (a.toInt + k) 0 ((z : Int) - 1) := by
  have h1 := Int32.le_toInt a
  have h2 := Int32.toInt_lt a
  rw [Int32.toInt_add, nI_toInt (by omega)]
  unfold p_in
  by_cases h : a.toInt + k < 2 ^ 31
  · have : (a.toInt + (k : Int)).bmod (2 ^ 32) = a.toInt + k := by
      rw [Int.bmod_def]
      split <;> omega
    rw [this]
  · have : (a.toInt + (k : Int)).bmod (2 ^ 32) = a.toInt + k - 2 ^ 32 := by
      rw [Int.bmod_def]
      split <;> omega
    rw [this, decide_eq_false (by omega), decide_eq_false (by omega)]
theorem t_isItem {n : lu_M} {h z k : Nat} (hh : h < 4) (hz : z ≤ 40) (nz : n 13 h = nI z) (a : Int32) (hk : k ≤ 20) : f12_isItem (nI h) (a.toInt64 + (nI k).toInt64) n = some (p_b (p_in (a.toInt + k) 0 ((z : Int) - 1)), n) := by
  have h1 := Int32.le_toInt a
  have h2 := Int32.toInt_lt a
  have e : (a.toInt64 + (nI k).toInt64).toInt = a.toInt + k := by
    rw [Int64.toInt_add, Int32.toInt_toInt64, Int32.toInt_toInt64, nI_toInt (by omega), Int.bmod_def]
    split <;> omega
  unfold f12_isItem
  rw [p_gd hh (by omega), nI_clamp (by omega), nz, t_in, p_bi, p_gb, e, Int32.toInt_toInt64, p_szI hz]
  rfl
theorem p_at_ex {a : Int32} {k z : Nat} (hk : k ≤ 20) (hz : z ≤ 40) (h : p_in (a.toInt + k) 0 ((z : Int) - 1) = true) : ∃ i, i < z ∧ a + nI k = nI i ∧ ∀ g : Nat, ((40 : Int32) * nI g + a) + nI k = nI (40 * g + i) := by
  obtain ⟨i, e, hi⟩ := p_in_m1 (a := a + nI k) (by rw [p_at a hk hz]; exact h) (by omega)
  refine ⟨i, hi, e, fun g => ?_⟩
  rw [Int32.add_assoc, e, p_40]
theorem goAll_run {h N : Nat} (hh : h < 4) (hN : N ≤ 20) (b : Int32) : ∀ (j k q : Nat) (v : Int32) (m n : lu_M), k + j = N → j < q → Rel m n → ∃ a m' n', f11_goAll_b22 (f11_goAll_b51 (nI h) b (nI N)) (f11_goAll_b121 (nI h) b (nI N)) (nI h) b (nI N) q v (nI k) m = some (a, m') ∧ f12_goAll_b33 (f12_goAll_b53 (nI h) b (nI N)) (f12_goAll_b102 (nI h) b (nI N)) (nI h) b (nI N) q v (nI k) n = some (a, n') ∧ Rel m' n'
  | 0, k, q, v, m, n, h1, h2, R => by
    obtain ⟨q, rfl⟩ : ∃ r, q = r + 1 := ⟨q - 1, by omega⟩
    rw [Nat.add_zero] at h1
    subst h1
    refine ⟨v, m, n, ?_, ?_, R⟩
    · show f11_goAll_b22B _ _ _ _ _ _ _ _ _ = _
      unfold f11_goAll_b22B f11_goAll_b121
      rw [if_pos (Int32.le_refl _)]
    · show f12_goAll_b33B _ _ _ _ _ _ _ _ _ = _
      unfold f12_goAll_b33B f12_goAll_b102
      rw [if_pos (Int32.le_refl _)]
  | j + 1, k, q, v, m, n, h1, h2, R => by
    obtain ⟨q, rfl⟩ : ∃ r, q = r + 1 := ⟨q - 1, by omega⟩
    obtain ⟨L, W⟩ := R.1
    have hP := W.i.P6
    obtain ⟨z, hz, mz, nz⟩ := R.2.h.sz hh
    have rest := fun v m n R => goAll_run hh hN b j (k + 1) q v m n (by omega) (by omega) R
    show ∃ a m' n', f11_goAll_b22B _ _ _ _ _ _ _ _ _ = _ ∧ f12_goAll_b33B _ _ _ _ _ _ _ _ _ = _ ∧ _
    unfold f11_goAll_b22B f12_goAll_b33B f11_goAll_b115 f12_goAll_b93
    rw [q_le (by omega) (by omega), q_le (by omega) (by omega), if_neg (by omega), if_neg (by omega), p_nm, p_gd hh (by omega), nI_clamp (by omega), mz, k_in, p_bi, p_if, p_szI hz, t_isItem hh hz nz b (by omega), p_bi, p_if]
    rw [show ((0 : Int32)).toInt = 0 from rfl, p_at b (k := k) (by omega) hz]
    cases h3 : p_in (b.toInt + k) 0 ((z : Int) - 1)
    · rw [if_neg p_ff, if_neg p_ff]
      exact ⟨_, _, _, rfl, rfl, R⟩
    rw [if_pos rfl, if_pos rfl]
    obtain ⟨i, hi, e1, e2⟩ := p_at_ex (by omega) hz h3
    rw [e2, e1, p_gd hh (by omega), p_gd (by omega) (by omega), p_nm, p_gd (by omega) (by omega), p_nm, nI_clamp (by omega), nI_clamp (by omega), (R.2.h h hh).2.2.2.2 i (by omega), k_isAct (W.b.cnt.trans W.i.eP) hP, p_bi, p_if, t_isAct W.i, p_bi, p_if, k_isOver W.i W.b.en W.c.1, p_bi, p_if]
    cases h4 : p_in (n 14 (40 * h + i)).toInt 0 (s_P (n 1))
    · rw [if_neg p_ff, Bool.false_and, if_neg p_ff, p_nm, p_next, Int32.add_zero]
      exact rest v m n R
    rw [if_pos rfl, Bool.true_and]
    cases h5 : s_ov (n 1)
    · rw [if_neg p_ff, if_pos (show (!false) = true from rfl)]
      obtain ⟨v', m', n', g1, g2, R'⟩ := R.go W (n 14 (40 * h + i)) h5
      rw [g1, g2, p_bi, p_bi, p_nm, p_nm, p_next]
      exact rest _ _ _ R'
    · rw [if_pos rfl, if_neg (by decide), p_nm, p_next, Int32.add_zero]
      exact rest v m n R
theorem t_isSpan (a c : Int32) (n : lu_M) : f12_isSpan a c n = some (p_b (p_in a.toInt 0 3 && p_in c.toInt 0 20), n) := by
  unfold f12_isSpan f12_isSpan_b23 f12_isSpan_b24
  rw [t_isOne, p_bi, p_if, show (0 : Int64) = (0 : Int32).toInt64 from rfl, show (20 : Int64) = (20 : Int32).toInt64 from rfl, t_in32, p_bi, p_if]
  show (if p_in a.toInt 0 3 = true then (if p_in c.toInt 0 20 = true then _ else _) else _) = _
  cases p_in a.toInt 0 3
  · rfl
  · cases p_in c.toInt 0 20 <;> rfl
/-- both refuse alike, or go on -/
theorem refuse (a c : Int32) {m n : lu_M} (R : Rel m n) : ∃ x y, f11_actsRefused a c m = some (x, m) ∧ f12_isSpan a c n = some (y, n) ∧ ((y = 0 ∧ x = -1) ∨ (y = 1 ∧ ∃ h N, a = nI h ∧ h < 4 ∧ c = nI N ∧ N ≤ 20 ∧ f12_whyNot a (0 : Int32) n = some (x, n))) := by
  unfold f11_actsRefused f11_actsRefused_b19 f11_actsRefused_b49
  rw [k_isOne, t_isSpan, p_bi, p_if, k_in, p_bi, p_if]
  cases h1 : p_in a.toInt 0 3
  · rw [if_neg p_ff]
    exact ⟨_, _, rfl, rfl, Or.inl ⟨rfl, rfl⟩⟩
  rw [if_pos rfl]
  show ∃ x y, (if p_in c.toInt 0 20 = true then _ else _) = _ ∧ _
  cases h2 : p_in c.toInt 0 20
  · rw [if_neg p_ff]
    exact ⟨_, _, rfl, rfl, Or.inl ⟨rfl, rfl⟩⟩
  rw [if_pos rfl]
  obtain ⟨h, rfl, -, hh'⟩ := p_in_ex (lo := 0) (hi := 3) h1 (by omega)
  obtain ⟨N, rfl, -, hN⟩ := p_in_ex (lo := 0) (hi := 20) h2 (by omega)
  have hh : h < 4 := by omega
  have hw := t_whyNot R.2.h hh (b := 0) (by omega)
  rw [p_gd hh (by omega), p_gd hh (by omega), nI_clamp (by omega)]
  refine ⟨if n 12 h = -1 then -11 else if n 12 h = nI 0 then 0 else -13, _, ?_, rfl, Or.inr ⟨rfl, h, N, rfl, hh, rfl, hN, hw⟩⟩
  rcases R.2.h.so hh with ⟨e1, e2⟩ | ⟨v, hv, e1, e2⟩
  · rw [e1, e2, if_pos rfl, if_pos rfl]
  · rw [e1, e2, if_neg (p_m1n (by omega)), if_neg (p_m1n (by omega))]
    show (if nI v = nI 0 then _ else _) = _
    split <;> rfl
theorem y_goAll (a b c : Int32) : Me (f11_goAll a b c) (f12_goAll a b c) := Me.mk fun m n L R W => by
  obtain ⟨x, y, e1, e2, h⟩ := refuse a c R
  unfold f11_goAll f12_goAll
  rw [e1, e2, p_bi, p_bi]
  rcases h with ⟨rfl, rfl⟩ | ⟨rfl, h, N, rfl, hh, rfl, hN, e3⟩
  · rw [if_neg (by decide), if_pos rfl]
    exact ⟨_, _, _, rfl, rfl, R⟩
  · rw [if_neg (show ¬ (1 : Int32) = 0 by decide), e3, p_bi]
    by_cases hx : x = 0
    · rw [if_pos hx, if_pos hx]
      exact goAll_run hh hN b N 0 lu_fu 0 m n (by omega) (p_fu (by omega)) R
    · rw [if_neg hx, if_neg hx]
      exact ⟨_, _, _, rfl, rfl, R⟩

/-! THE PURE PART: wouldBe, judge -/
def zM (m : lu_M) (f x : Nat → Int32) : lu_M := p_rw (p_rw m (1 + 35) f) 73 x
def zN (n : lu_M) (o u t : Nat → Int32) : lu_M := p_rw (p_rw (p_rw n 3 o) 1 u) 4 t
theorem zN1 (n : lu_M) (o u t : Nat → Int32) : zN n o u t 1 = u := by unfold zN; rw [p_rw_n (by omega), p_rw_s]
theorem zN_n (n : lu_M) (o u t : Nat → Int32) {a : Nat} (h1 : a ≠ 1) (h3 : a ≠ 3) (h4 : a ≠ 4) : zN n o u t a = n a := by unfold zN; rw [p_rw_n h4, p_rw_n h1, p_rw_n h3]
theorem zM73 (m : lu_M) (f x : Nat → Int32) : zM m f x 73 = x := p_rw_s ..
theorem zM_n (m : lu_M) (f x : Nat → Int32) {a : Nat} (h1 : a ≠ 36) (h3 : a ≠ 73) : zM m f x a = m a := by unfold zM; rw [p_rw_n h3, p_rw_n h1]
theorem line_go {m n : lu_M} {L : List Ru} (W : WR m 1 (n 1) L) {u x : Nat → Int32} (f o t : Nat → Int32) (E : SE (n 1) u) (J : SI u) (C : CR (s_D (n 1)) x u) (a : Int32) (h : s_ov u = false) : ∃ f' x' t', f10_pass 1 73 a (zM m f x) = some (s_w L a u, zM m f' x') ∧ f12_goes a (zN n o u t) = some (s_w L a u, zN n o (s_goes L a u) t') ∧ SE (n 1) (s_goes L a u) ∧ SI (s_goes L a u) ∧ CR (s_D (n 1)) x' (s_goes L a u) ∧ x' 5 = x 5 + s_w L a u := by
  obtain ⟨E2, J2⟩ := s_goes_I J L a (s_ov_f h)
  obtain ⟨f', x', e1, C', h5⟩ := k_pass J (W.b.se W.i E) LN73 W.w a f (by rw [E.D]; exact C)
  obtain ⟨t', e2⟩ := t_goes (n := p_rw (p_rw n 3 o) 1 u) (p_rw_s ..) J W.l (W.r.se E W.l.1 W.l.2.1) a t
  rw [p_rw_rw] at e2
  exact ⟨f', x', t', e1, e2, E.tr E2, J2, by rw [← E.D]; exact C', h5⟩
theorem line_end {m n : lu_M} (R : Rel m n) {u o : Nat → Int32} (f x t : Nat → Int32) (E : SE (n 1) u) (ho : ∀ k, k < 368 → o k = n 1 k) : ∃ n', f12_putsBack (zN n o u t) = some n' ∧ Rel (zM m f x) n' := ⟨_, t_back E ho, R.line f x o u t⟩
theorem line_over {m n : lu_M} {L : List Ru} (W : WR m 1 (n 1) L) {u x : Nat → Int32} (f : Nat → Int32) (E : SE (n 1) u) (J : SI u) (C : CR (s_D (n 1)) x u) : f10_isOver 1 73 (zM m f x) = some (p_b (s_ov u), zM m f x) :=
  k_isOver J (by rw [zM_n m f x (by omega) (by omega)]; rw [E.lo (by omega) (by omega) (by omega)]; exact W.b.en) (by rw [zM73]; exact C.1)
theorem line_act {m n : lu_M} {L : List Ru} (W : WR m 1 (n 1) L) (f x : Nat → Int32) (a : Int32) : f10_isAct 1 a (zM m f x) = some (p_b (p_in a.toInt 0 (s_P (n 1))), zM m f x) :=
  k_isAct (by rw [zM_n m f x (by omega) (by omega)]; exact W.b.cnt.trans W.i.eP) W.i.P6 a
theorem line_act2 {n : lu_M} {u : Nat → Int32} (o t : Nat → Int32) (E : SE (n 1) u) (J : SI u) (a : Int32) : f12_isAct a (zN n o u t) = some (p_b (p_in a.toInt 0 (s_P (n 1)) && !s_ov u), zN n o u t) := by
  have h := t_isAct (n := zN n o u t) (by rw [zN1]; exact J) a
  rw [zN1, E.P] at h
  exact h
theorem wouldBe_run {m n : lu_M} {L : List Ru} (R : Rel m n) (W : WR m 1 (n 1) L) {h N : Nat} (hh : h < 4) (hN : N ≤ 20) (b : Int32) {o : Nat → Int32} (ho : ∀ k, k < 368 → o k = n 1 k) : ∀ (j k q : Nat) (f x u t : Nat → Int32), k + j = N → j + 1 < q → SE (n 1) u → SI u → CR (s_D (n 1)) x u → ∃ a m' n', f11_wouldBe_b33 (f11_wouldBe_b62 (nI h) b (nI N)) (f11_wouldBe_b102 (nI h) b (nI N)) (f11_wouldBe_b125 (nI h) b (nI N)) (nI h) b (nI N) q (nI k) (zM m f x) = some (a, m') ∧ f12_wouldBe_b37 (f12_wouldBe_b138 (nI h) b (nI N)) (nI h) b (nI N) q 0 (x 5) (nI k) (zN n o u t) = some (a, n') ∧ Rel m' n'
  | 0, k, q, f, x, u, t, h1, h2, E, J, C => by
    obtain ⟨q, rfl⟩ : ∃ r, q = r + 1 := ⟨q - 1, by omega⟩
    rw [Nat.add_zero] at h1
    subst h1
    obtain ⟨n', e, R'⟩ := line_end R f x t E ho
    refine ⟨x 5, _, n', ?_, ?_, R'⟩
    · show f11_wouldBe_b33B _ _ _ _ _ _ _ _ _ = _
      unfold f11_wouldBe_b33B f11_wouldBe_b125
      rw [if_pos (Int32.le_refl _), zM73]
    · show f12_wouldBe_b37B _ _ _ _ _ _ _ _ _ = _
      unfold f12_wouldBe_b37B f12_wouldBe_b138 f12_wouldBe_b154
      rw [if_pos (Int32.le_refl _), e, p_bv, if_pos rfl]
  | j + 1, k, q, f, x, u, t, h1, h2, E, J, C => by
    obtain ⟨q, rfl⟩ : ∃ r, q = r + 1 := ⟨q - 1, by omega⟩
    have hP := W.i.P6
    obtain ⟨z, hz, mz, nz⟩ := R.2.h.sz hh
    have hend : ∀ (c : Int32) (v5 : Int32), ¬ c = 0 → ∃ n', f12_wouldBe_b98 (f12_wouldBe_b37 (f12_wouldBe_b138 (nI h) b (nI N)) (nI h) b (nI N) q) (f12_wouldBe_b138 (nI h) b (nI N)) (nI h) b (nI N) v5 (nI k) c (zN n o u t) = some (c, n') ∧ Rel (zM m f x) n' := fun c v5 hc => by
      obtain ⟨q, rfl⟩ : ∃ r, q = r + 1 := ⟨q - 1, by omega⟩
      obtain ⟨n', e, R'⟩ := line_end R f x t E ho
      refine ⟨n', ?_, R'⟩
      unfold f12_wouldBe_b98 f12_wouldBe_b129
      rw [if_neg hc, p_nm]
      show f12_wouldBe_b37B _ _ _ _ _ _ _ _ _ = _
      unfold f12_wouldBe_b37B f12_wouldBe_b138 f12_wouldBe_b154
      rw [if_neg hc, e, p_bv, if_neg hc]
      split <;> rfl
    show ∃ a m' n', f11_wouldBe_b33B _ _ _ _ _ _ _ _ _ = _ ∧ f12_wouldBe_b37B _ _ _ _ _ _ _ _ _ = _ ∧ _
    unfold f11_wouldBe_b33B f12_wouldBe_b37B f11_wouldBe_b62 f11_wouldBe_b102
    rw [q_le (by omega) (by omega), q_le (by omega) (by omega), if_neg (by omega), if_neg (by omega), p_nm, p_gd hh (by omega), nI_clamp (by omega), zM_n m f x (a := 105) (by omega) (by omega), mz, k_in, p_bi, p_if, p_szI hz, if_pos (show (0 : Int32) = 0 from rfl), t_isItem (n := zN n o u t) hh hz (by rw [zN_n n o u t (by omega) (by omega) (by omega)]; exact nz) b (by omega), p_bi, p_if]
    rw [show ((0 : Int32)).toInt = 0 from rfl, p_at b (k := k) (by omega) hz]
    cases h3 : p_in (b.toInt + k) 0 ((z : Int) - 1)
    · rw [if_neg p_ff, if_neg p_ff]
      obtain ⟨n', e, R'⟩ := hend (-12) (x 5) (by decide)
      exact ⟨_, _, _, rfl, e, R'⟩
    rw [if_pos rfl, if_pos rfl]
    obtain ⟨i, hi, e1, e2⟩ := p_at_ex (by omega) hz h3
    rw [e2, e1, p_gd hh (by omega), p_gd (by omega) (by omega), p_nm, p_gd (by omega) (by omega), nI_clamp (by omega), nI_clamp (by omega), zM_n m f x (a := 106 + 1 + h) (by omega) (by omega), zN_n n o u t (a := 14) (by omega) (by omega) (by omega), (R.2.h h hh).2.2.2.2 i (by omega), line_act W, p_bi, p_if, line_act2 o t E J, p_bi, p_if, line_over W f E J C, p_bi, p_if]
    cases h4 : p_in (n 14 (40 * h + i)).toInt 0 (s_P (n 1))
    · rw [if_neg p_ff, Bool.false_and, if_neg p_ff]
      obtain ⟨n', e, R'⟩ := hend (-4) (x 5) (by decide)
      exact ⟨_, _, _, rfl, e, R'⟩
    rw [if_pos rfl, Bool.true_and]
    cases h5 : s_ov u
    · rw [if_neg p_ff, if_pos (show (!false) = true from rfl)]
      obtain ⟨f', x', t', g1, g2, E', J', C', hx5⟩ := line_go W f o t E J C (n 14 (40 * h + i)) h5
      rw [g1, p_bi, p_next]
      unfold f12_wouldBe_b98 f12_wouldBe_b129
      rw [if_pos rfl, e2, p_gd (by omega) (by omega), nI_clamp (by omega), zN_n n o u t (a := 14) (by omega) (by omega) (by omega), g2, p_bi, p_nm, p_next, ← hx5]
      exact wouldBe_run R W hh hN b ho j (k + 1) q f' x' _ t' (by omega) (by omega) E' J' C'
    · rw [if_pos rfl, if_neg (show ¬ (!true) = true by decide)]
      obtain ⟨n', e, R'⟩ := hend (-4) (x 5) (by decide)
      exact ⟨_, _, _, rfl, e, R'⟩
theorem zN_start (n : lu_M) (o : Nat → Int32) : zN n o (n 1) (n 4) = p_rw n 3 o := by
  unfold zN
  have h1 : p_rw (p_rw n 3 o) 1 (n 1) = p_rw n 3 o := by
    rw [p_rw_sw (by omega), p_rw_id]
  rw [h1, p_rw_sw (by omega), p_rw_id]
theorem zM_start (m : lu_M) (x : Nat → Int32) : zM m (m 36) x = p_rw m 73 x := by
  unfold zM
  rw [p_rw_id]
theorem y_wouldBe (a b c : Int32) : Me (f11_wouldBe a b c) (f12_wouldBe a b c) := Me.mk fun m n L R W => by
  obtain ⟨x, y, e1, e2, h⟩ := refuse a c R
  unfold f11_wouldBe f12_wouldBe
  rw [e1, e2, p_bi, p_bi]
  rcases h with ⟨rfl, rfl⟩ | ⟨rfl, h, N, rfl, hh, rfl, hN, e3⟩
  · rw [if_neg (by decide), if_pos rfl]
    exact ⟨_, _, _, rfl, rfl, R⟩
  · rw [if_neg (show ¬ (1 : Int32) = 0 by decide), e3, p_bi]
    by_cases hx : x = 0
    · rw [if_pos hx, if_pos hx, hx]
      obtain ⟨x0, e0, hx0, h50⟩ := k_begin m (c := 73) (b := 29) (by omega)
      obtain ⟨o, eo, ho⟩ := t_puts n
      rw [e0, p_bv, eo, p_bv, ← zN_start, ← zM_start]
      have := wouldBe_run R W hh hN b ho N 0 lu_fu (m 36) x0 (n 1) (n 4) (by omega) (p_fu (by omega)) (SE.rf _) W.i (W.c.cp hx0)
      rw [h50] at this
      exact this
    · rw [if_neg hx, if_neg hx]
      exact ⟨_, _, _, rfl, rfl, R⟩

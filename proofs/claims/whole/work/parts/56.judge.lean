/-! THE PURE PART: judge, often -/
theorem judge_run {m n : lu_M} {L : List Ru} (R : Rel m n) (W : WR m 1 (n 1) L) {c : Nat} (c4 : c ≤ 4) (hm : m 0 9 = nI c) (hn : n 0 21 = nI c) (hr : ∀ k, k < c → ∀ j, j < 3 → m (99 + 1 + k) j = n 10 (3 * k + j)) {o : Nat → Int32} (ho : ∀ k, k < 368 → o k = n 1 k) : ∀ (j k q : Nat) (f x u t : Nat → Int32), k + j = c → j + 1 < q → SE (n 1) u → SI u → CR (s_D (n 1)) x u → ∃ a m' n', f11_judge_b16 f11_judge_b56 f11_judge_b110 f11_judge_b120 q (nI k) (zM m f x) = some (a, m') ∧ f12_judge_b8 f12_judge_b102 q 0 (nI k) (zN n o u t) = some (a, n') ∧ Rel m' n'
  | 0, k, q, f, x, u, t, h1, h2, E, J, C => by
    obtain ⟨q, rfl⟩ : ∃ r, q = r + 1 := ⟨q - 1, by omega⟩
    rw [Nat.add_zero] at h1
    subst h1
    obtain ⟨n', e, R'⟩ := line_end R f x t E ho
    refine ⟨0, _, n', ?_, ?_, R'⟩
    · show f11_judge_b16B _ _ _ _ _ _ = _
      unfold f11_judge_b16B f11_judge_b120
      rw [zM_n m f x (a := 0) (by omega) (by omega), hm, if_pos (Int32.le_refl _)]
    · show f12_judge_b8B _ _ _ _ _ = _
      unfold f12_judge_b8B f12_judge_b102
      rw [zN_n n o u t (a := 0) (by omega) (by omega) (by omega), hn, if_pos (Int32.le_refl _), e, p_bv]
  | j + 1, k, q, f, x, u, t, h1, h2, E, J, C => by
    obtain ⟨q, rfl⟩ : ∃ r, q = r + 1 := ⟨q - 1, by omega⟩
    have hP := W.i.P6
    have hD := W.i.D10
    have hend : ∀ (f x u t : Nat → Int32), SE (n 1) u → ∃ n', f12_judge_b82 (f12_judge_b8 f12_judge_b102 q) f12_judge_b102 (nI k) (zN n o u t) = some (nI k + 1, n') ∧ Rel (zM m f x) n' := fun f x u t E => by
      obtain ⟨q, rfl⟩ : ∃ r, q = r + 1 := ⟨q - 1, by omega⟩
      obtain ⟨n', e, R'⟩ := line_end R f x t E ho
      refine ⟨n', ?_, R'⟩
      unfold f12_judge_b82 f12_judge_b83 f12_judge_b95
      rw [if_pos rfl, p_next]
      show f12_judge_b8B _ _ _ _ _ = _
      unfold f12_judge_b8B f12_judge_b102
      rw [e, p_bv, if_neg (p_ne0 (N := k + 1) (by omega) (by omega))]
      split <;> rfl
    have e3 : ∀ i, ((3 : Int32) * nI k) + nI i = nI (3 * k + i) := fun i => by rw [show (3 : Int32) = nI 3 from rfl, pk_mul, nI_add]
    have e30 : (3 : Int32) * nI k = nI (3 * k) := by rw [show (3 : Int32) = nI 3 from rfl, pk_mul]
    show ∃ a m' n', f11_judge_b16B _ _ _ _ _ _ = _ ∧ f12_judge_b8B _ _ _ _ _ = _ ∧ _
    unfold f11_judge_b16B f12_judge_b8B
    rw [zM_n m f x (a := 0) (by omega) (by omega), hm, zN_n n o u t (a := 0) (by omega) (by omega) (by omega), hn, q_le (by omega) (by omega), q_le (by omega) (by omega), if_neg (by omega), if_neg (by omega), p_gd (by omega) (by omega), nI_clamp (by omega), zM_n m f x (a := 99 + 1 + k) (by omega) (by omega), hr k (by omega) 0 (by omega), if_pos (show (0 : Int32) = 0 from rfl), show (1 : Int32) = nI 1 from rfl, show (2 : Int32) = nI 2 from rfl, e3, e3, e30, p_gd (by omega) (by omega), nI_clamp (by omega), zN_n n o u t (a := 10) (by omega) (by omega) (by omega), line_act W, p_bi, p_if, line_act2 o t E J, p_bi, p_if, line_over W f E J C, p_bi, p_if, show 3 * k + 0 = 3 * k by omega]
    cases h4 : p_in (n 10 (3 * k)).toInt 0 (s_P (n 1))
    · rw [if_neg p_ff, Bool.false_and, if_neg p_ff]
      obtain ⟨n', e, R'⟩ := hend f x u t E
      exact ⟨_, _, _, rfl, e, R'⟩
    rw [if_pos rfl, Bool.true_and]
    cases h5 : s_ov u
    · rw [if_neg p_ff, if_pos (show (!false) = true from rfl)]
      obtain ⟨f', x', t', g1, g2, E', J', C', hx5⟩ := line_go W f o t E J C (n 10 (3 * k)) h5
      have ht := t_those (n := zN n o (s_goes L (n 10 (3 * k)) u) t') (by rw [zN1]; exact J') 1
      rw [zN1] at ht
      have hth := (C'.th E'.D hD).1
      rw [p_gd (by omega) (by omega), zM_n m f x (a := 99 + 1 + k) (by omega) (by omega), hr k (by omega) 0 (by omega), show 3 * k + 0 = 3 * k by omega, g1, p_bi, p_gd (by omega) (by omega), p_gd (by omega) (by omega), zM_n m f' x' (a := 99 + 1 + k) (by omega) (by omega), hr k (by omega) 1 (by omega), hr k (by omega) 2 (by omega), zM73, hth, zN_n n o u t (a := 10) (by omega) (by omega) (by omega), g2, p_bi, p_gd (by omega) (by omega), p_gd (by omega) (by omega), nI_clamp (by omega), zN_n n o _ t' (a := 10) (by omega) (by omega) (by omega)]
      by_cases h6 : s_w L (n 10 (3 * k)) u = n 10 (3 * k + 1)
      · rw [if_pos h6, if_pos h6, show nI 1 = (1 : Int32) from rfl, ht, p_bi, p_gd (by omega) (by omega), nI_clamp (by omega), zN_n n o _ t' (a := 10) (by omega) (by omega) (by omega)]
        by_cases h7 : s_those (s_goes L (n 10 (3 * k)) u) 1 = n 10 (3 * k + 2)
        · rw [if_pos h7, if_pos h7, p_next]
          unfold f12_judge_b83 f12_judge_b95
          rw [if_neg (by decide), p_next]
          exact judge_run R W c4 hm hn hr ho j (k + 1) q f' x' _ t' (by omega) (by omega) E' J' C'
        · rw [if_neg h7, if_neg h7]
          obtain ⟨n', e, R'⟩ := hend f' x' _ t' E'
          exact ⟨_, _, _, rfl, e, R'⟩
      · rw [if_neg h6, if_neg h6]
        obtain ⟨n', e, R'⟩ := hend f' x' _ t' E'
        exact ⟨_, _, _, rfl, e, R'⟩
    · rw [if_pos rfl, if_neg (show ¬ (!true) = true by decide)]
      obtain ⟨n', e, R'⟩ := hend f x u t E
      exact ⟨_, _, _, rfl, e, R'⟩
theorem y_judge : Me f11_judge f12_judge := Me.mk fun m n L R W => by
  obtain ⟨c, c4, hm, hn, hr⟩ := R.2.r
  obtain ⟨x0, e0, hx0, h50⟩ := k_begin m (c := 73) (b := 29) (by omega)
  obtain ⟨o, eo, ho⟩ := t_puts n
  unfold f11_judge f12_judge
  rw [e0, p_bv, eo, p_bv, ← zN_start, ← zM_start]
  exact judge_run R W c4 hm hn hr ho c 0 lu_fu (m 36) x0 (n 1) (n 4) (by omega) (p_fu (by omega)) (SE.rf _) W.i (W.c.cp hx0)

/-! THE PURE PART: remake -/
theorem y_remake (a b : Int32) : Me (f11_remake a b) (f12_remake a b) := Me.mk fun m n L R W => by
  have hP := W.i.P6
  have hD := W.i.D10
  unfold f11_remake f12_remake f12_remake_b28 f12_remake_b29
  rw [k_per W, t_per W, p_bi, p_bi, p_if, p_if]
  cases h1 : p_in a.toInt 0 ((s_P (n 1) : Int) - 1)
  · rw [if_neg p_ff, if_neg p_ff]
    exact ⟨_, _, _, rfl, rfl, R⟩
  rw [if_pos rfl, if_pos rfl, k_in, t_isKind, p_bi, p_bi, p_if, p_if]
  cases h2 : p_in b.toInt (1 : Int32).toInt (5 : Int32).toInt
  · rw [if_neg p_ff, if_neg p_ff]
    exact ⟨_, _, _, rfl, rfl, R⟩
  rw [if_pos rfl, if_pos rfl]
  obtain ⟨p, rfl, hp⟩ := p_in_m1 h1 (by omega)
  obtain ⟨k, rfl, k1, k5⟩ := p_in_ex (lo := 1) (hi := 5) h2 (by omega)
  obtain ⟨q0, q2, q3⟩ := W.b.per (by omega) hp
  have q0' : m (2 + 1 + p) 0 = n 1 (8 + 3 * p) := q0
  have q2' : m (2 + 1 + p) 2 = n 1 (9 + 3 * p) := q2
  have q3' : m (2 + 1 + p) 3 = n 1 (10 + 3 * p) := q3
  have hu' : ∀ i, (i < 8 ∨ 26 ≤ i) → upd (n 1) (8 + 3 * p) (nI k) i = n 1 i := fun i hi => upd_ne (by omega)
  have J := W.i.per2 (lo := 0) (k := 8 + 3 * p) (v := k) hp (Or.inl ⟨rfl, k5⟩) k1 (by omega)
  have hDu : s_D (upd (n 1) (8 + 3 * p) (nI k)) = s_D (n 1) := s_v_of (hu' 5 (by omega))
  have hPu : s_P (upd (n 1) (8 + 3 * p) (nI k)) = s_P (n 1) := s_v_of (hu' 0 (by omega))
  have B0 : RB0 (p_rw m (2 + 1 + p) (lu_hv (nI k) (nI p) (n 1 (9 + 3 * p)) (n 1 (10 + 3 * p)))) 1 (upd (n 1) (8 + 3 * p) (nI k)) := by
    refine ⟨?_, ?_, ?_, fun r hr => ?_, fun r h6 hr => ?_, fun d hd => ?_⟩
    · rw [p_rw_n (by omega), hu' 0 (by omega)]; exact W.b.cnt
    · rw [p_rw_n (by omega), hu' 5 (by omega)]; exact W.b.ded
    · rw [p_rw_n (by omega), hu' 2 (by omega)]; exact W.b.en
    · by_cases e : r = p
      · subst e
        rw [show 1 + 1 + 1 + r = 2 + 1 + r by omega, p_rw_s]; rfl
      · rw [p_rw_n (by omega)]; exact W.b.num hr
    · rw [hPu] at hr
      by_cases e : r = p
      · subst e
        rw [show 1 + 1 + 1 + r = 2 + 1 + r by omega, p_rw_s, p_us, upd_ne (by omega), upd_ne (by omega)]
        exact ⟨rfl, rfl, rfl⟩
      · rw [p_rw_n (by omega), upd_ne (by omega), upd_ne (by omega), upd_ne (by omega)]
        exact W.b.per h6 hr
    · rw [hDu] at hd
      rw [p_rw_n (by omega), p_rw_n (by omega), p_rw_n (by omega), p_rw_n (by omega), hu' _ (by omega), hu' _ (by omega), hu' _ (by omega), hu' _ (by omega)]
      obtain ⟨a1, a2, a3, a4, -⟩ := W.b.dd hd
      exact ⟨a1, a2, a3, a4⟩
  obtain ⟨x, y, es, B⟩ := k_settle J B0
  rw [p_gd (by omega) (by omega), p_gd (by omega) (by omega), p_nm, nI_clamp (by omega), lu_kd_in k k1 k5, lu_hm_rw, q2', q3', es, p_bv, q0', show (0 : Int32) = nI 0 from rfl, t_at, p_bi, show 8 + 3 * p + 0 = 8 + 3 * p by omega, t_becomes _ (by omega), p_bi]
  refine ⟨_, _, _, rfl, rfl, R.now ((((FM.rf m).rw _ _ (by omega)).rw _ _ (by omega)).rw _ _ (by omega)) ((FN.rf n).rw _ _ (by omega)) (L' := L) ?_⟩
  rw [p_rw_s]
  exact W.pe J hu' B (fun a ha => by rw [p_rw_n (by omega), p_rw_n (by omega), p_rw_n (by omega)])

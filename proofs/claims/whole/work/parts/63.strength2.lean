/-! THE PURE PART: strengthFor in the reference -/
theorem t_strN {n : lu_M} {L : List Ru} {s : Nat → Int32} (I : SI s) (hL : LV L) (hr : RS' s L) {p : Nat} (hp : p < s_P s) (h6 : p < 6) : ∀ (j v q : Nat) (o u t : Nat → Int32), v + j = 10 → 1 ≤ v → j < q → ∃ o' u' t', f12_strengthFor_b12 (f12_strengthFor_b67 (nI p)) (f12_strengthFor_b75 (nI p)) (nI p) q (nI v) (p_rw (p_rw (p_rw (p_rw n 3 o) 1 u) 4 t) 1 s) = some (s_str L s p v j, p_rw (p_rw (p_rw (p_rw n 3 o') 1 u') 4 t') 1 s)
  | 0, v, q, o, u, t, h, hv, hq => by
    obtain ⟨q, rfl⟩ : ∃ r, q = r + 1 := ⟨q - 1, by omega⟩
    refine ⟨o, u, t, ?_⟩
    show f12_strengthFor_b12B _ _ _ _ _ _ = _
    unfold f12_strengthFor_b12B f12_strengthFor_b75
    rw [show (10 : Int32) = nI 10 from rfl, q_le (by omega) (by omega), if_pos (by omega)]
    rfl
  | j + 1, v, q, o, u, t, h, hv, hq => by
    obtain ⟨q, rfl⟩ : ∃ r, q = r + 1 := ⟨q - 1, by omega⟩
    have J := I.per2 (lo := 0) (k := 10 + 3 * p) (v := v) hp (Or.inr (Or.inr rfl)) hv (by omega)
    obtain ⟨o1, eo, ho⟩ := t_puts (p_rw (p_rw (p_rw (p_rw n 3 o) 1 u) 4 t) 1 s)
    have ho' : ∀ k, k < 368 → o1 k = s k := fun k hk => by rw [ho k hk, p_rw_s]
    have hm : p_rw (p_rw (p_rw (p_rw (p_rw n 3 o) 1 u) 4 t) 1 s) 3 o1 = p_rw (p_rw (p_rw n 3 o1) 1 s) 4 t := by
      rw [p_rw_sw (a := 1) (b := 3) (by omega), p_rw_sw (a := 4) (b := 3) (by omega), p_rw_sw (a := 1) (b := 3) (by omega), p_rw_rw, p_rw_sw (a := 4) (b := 1) (by omega), p_rw_rw]
    rw [hm] at eo
    have hst : lu_st (p_rw (p_rw (p_rw n 3 o1) 1 s) 4 t) 1 (10 + 3 * p) (nI v) = p_rw (p_rw (p_rw n 3 o1) 1 (upd s (10 + 3 * p) (nI v))) 4 t := p_st2 (by omega) s t _ _
    obtain ⟨t2, e2⟩ := t_rest hL (n := p_rw (p_rw (p_rw n 3 o1) 1 (upd s (10 + 3 * p) (nI v))) 4 t) (s := upd s (10 + 3 * p) (nI v)) (by rw [p_rw_n (by omega), p_rw_s]) (N := 16) (by omega) J (hr.up hL _ (by omega) (by omega))
    obtain ⟨E, J2⟩ := s_rest_I L 16 _ J
    have hm2 : p_rw (p_rw (p_rw (p_rw (p_rw n 3 o1) 1 (upd s (10 + 3 * p) (nI v))) 4 t) 1 (s_rest L (upd s (10 + 3 * p) (nI v)) 16)) 4 t2 = p_rw (p_rw (p_rw n 3 o1) 1 (s_rest L (upd s (10 + 3 * p) (nI v)) 16)) 4 t2 := by
      rw [p_rw_sw (a := 4) (b := 1) (by omega), p_rw_rw, p_rw_rw]
    rw [hm2] at e2
    have h1 : (p_rw (p_rw (p_rw n 3 o1) 1 (s_rest L (upd s (10 + 3 * p) (nI v)) 16)) 4 t2) 1 = s_rest L (upd s (10 + 3 * p) (nI v)) 16 := by rw [p_rw_n (by omega), p_rw_s]
    have e3 := t_late (n := p_rw (p_rw (p_rw n 3 o1) 1 (s_rest L (upd s (10 + 3 * p) (nI v)) 16)) 4 t2) (by rw [h1]; exact J2)
    rw [h1] at e3
    have hb : f12_putsBack (p_rw (p_rw (p_rw n 3 o1) 1 (s_rest L (upd s (10 + 3 * p) (nI v)) 16)) 4 t2) = some (p_rw (p_rw (p_rw (p_rw n 3 o1) 1 (s_rest L (upd s (10 + 3 * p) (nI v)) 16)) 4 t2) 1 s) :=
      t_putsBack (fun k hk => by rw [p_rw_n (by omega), p_rw_n (by omega), p_rw_s]; exact ho' k hk) (fun k hk => by rw [h1, E.hi (by omega), upd_ne (by omega)])
    show ∃ o' u' t', f12_strengthFor_b12B _ _ _ _ _ _ = _
    unfold f12_strengthFor_b12B f12_strengthFor_b56 s_str
    rw [show (10 : Int32) = nI 10 from rfl, q_le (by omega) (by omega), if_neg (by omega), eo, p_bv, show (2 : Int32) = nI 2 from rfl, t_at, p_bi, p_gd (by omega) (by omega), p_nm, nI_clamp (by omega), show 8 + 3 * p + 2 = 10 + 3 * p by omega, hst, show (16 : Int32) = nI 16 from rfl, e2, p_bi, e3, p_bi, p_bit _ (by omega), p_if, hb, p_bv, p_bv, p_next]
    show ∃ o' u' t', (if s_late1 L s p v = true then _ else _) = _
    cases hbb : s_late1 L s p v
    · rw [if_neg p_ff, if_neg p_ff, if_neg (by decide)]
      exact ⟨o1, _, t2, rfl⟩
    · rw [if_pos rfl, if_pos rfl, if_pos rfl]
      exact t_strN I hL hr hp h6 j (v + 1) q o1 _ t2 (by omega) (by omega) (by omega)
theorem y_strengthFor (a : Int32) : Me (f11_strengthFor a) (f12_strengthFor a) := Me.mk fun m n L R W => by
  have hP := W.i.P6
  unfold f11_strengthFor f12_strengthFor
  rw [k_per W, t_per W, p_bi, p_bi, p_if, p_if]
  cases h : p_in a.toInt 0 ((s_P (n 1) : Int) - 1)
  · rw [if_neg p_ff, if_neg p_ff]
    exact ⟨_, _, _, rfl, rfl, R⟩
  rw [if_pos rfl, if_pos rfl]
  obtain ⟨p, rfl, hp⟩ := p_in_m1 h (by omega)
  rw [p_gd (by omega) (by omega), p_nm, nI_clamp (by omega)]
  obtain ⟨f, x, e1⟩ := k_strN W hp (by omega) 9 1 lu_fu (m (2 + 1 + p)) (m (1 + 35)) (m 73) (by omega) (by omega) (p_fu (by omega)) (p_uid _ _)
  rw [p_rw_id, p_rw_id, p_rw_id] at e1
  obtain ⟨o, u, t, e2⟩ := t_strN (n := n) W.i W.l W.r hp (by omega) 9 1 lu_fu (n 3) (n 1) (n 4) (by omega) (by omega) (p_fu (by omega))
  rw [p_rw_id, p_rw_id, p_rw_id, p_rw_id] at e2
  exact ⟨_, _, _, e1, e2, R.line f x o u t⟩

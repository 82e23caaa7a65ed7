/-! THE PURE PART: what is asked of the years to come -/
theorem t_back {n : lu_M} {s u o t : Nat → Int32} (E : SE s u) (ho : ∀ k, k < 368 → o k = s k) : f12_putsBack (p_rw (p_rw (p_rw n 3 o) 1 u) 4 t) = some (p_rw (p_rw (p_rw (p_rw n 3 o) 1 u) 4 t) 1 s) :=
  t_putsBack (fun k hk => by rw [p_rw_n (by omega), p_rw_n (by omega), p_rw_s]; exact ho k hk) (fun k hk => by rw [p_rw_n (by omega), p_rw_s]; exact E.hi (by omega))
theorem Rel.line {m n : lu_M} (R : Rel m n) (f x o u t : Nat → Int32) : Rel (p_rw (p_rw m (1 + 35) f) 73 x) (p_rw (p_rw (p_rw (p_rw n 3 o) 1 u) 4 t) 1 (n 1)) :=
  R.same (((FM.rf m).rw _ _ (by omega)).rw _ _ (by omega)) (fun a h1 h2 => by rw [p_rw_n (by omega), p_rw_n (by omega)]) (((((FN.rf n).rw _ _ (by omega)).rw _ _ (by omega)).rw _ _ (by omega)).rw _ _ (by omega)) (p_rw_s ..)
theorem k_per {m n : lu_M} {L : List Ru} (W : WR m 1 (n 1) L) (a : Int32) : f10_isPerson 1 a m = some (p_b (p_in a.toInt 0 ((s_P (n 1) : Int) - 1)), m) := k_isPerson (W.b.cnt.trans W.i.eP) (by have := W.i.P6; omega) a
theorem t_per {m n : lu_M} {L : List Ru} (W : WR m 1 (n 1) L) (a : Int32) : f12_isPerson a n = some (p_b (p_in a.toInt 0 ((s_P (n 1) : Int) - 1)), n) := t_isPerson W.i.eP (by have := W.i.P6; omega) a
theorem k_dee {m n : lu_M} {L : List Ru} (W : WR m 1 (n 1) L) (a : Int32) : f10_isDeed 1 a m = some (p_b (p_in a.toInt 0 ((s_D (n 1) : Int) - 1)), m) := k_isDeed (W.b.ded.trans W.i.eD) (by have := W.i.D10; omega) a
theorem t_dee {m n : lu_M} {L : List Ru} (W : WR m 1 (n 1) L) (a : Int32) : f12_isDeed a n = some (p_b (p_in a.toInt 0 ((s_D (n 1) : Int) - 1)), n) := t_isDeed W.i.eD (by have := W.i.D10; omega) a
theorem y_leaves (a : Int32) : Me (f11_leaves a) (f12_leaves a) := Me.mk fun m n L R W => by
  have hP := W.i.P6
  have hD := W.i.D10
  unfold f11_leaves f12_leaves
  rw [k_per W, t_per W, p_bi, p_bi, p_if, p_if]
  cases h : p_in a.toInt 0 ((s_P (n 1) : Int) - 1)
  · rw [if_neg (by decide), if_neg (by decide)]
    exact ⟨_, _, _, rfl, rfl, R⟩
  rw [if_pos rfl, if_pos rfl]
  obtain ⟨p, rfl, hp⟩ := p_in_m1 h (by omega)
  obtain ⟨f, x, e1, C, h5⟩ := k_rest W.i W.b LN73 (by omega) W.w W.c
  obtain ⟨o, e2, ho⟩ := t_puts n
  obtain ⟨t, e3⟩ := t_rest W.l (n := p_rw n 3 o) (s := n 1) (p_rw_n (by omega)) (N := 16) (by omega) W.i W.r
  obtain ⟨E, J⟩ := s_rest_I L 16 (n 1) W.i
  have Bx : RB (p_rw (p_rw m (1 + 35) f) 73 x) 1 (n 1) := W.b.tr (((FR.rf 1 m).fa f).ln LN73 x)
  have hu : (p_rw (p_rw (p_rw n 3 o) 1 (s_rest L (n 1) 16)) 4 t) 1 = s_rest L (n 1) 16 := by rw [p_rw_n (by omega), p_rw_s]
  have e4 := t_standWeight (n := p_rw (p_rw (p_rw n 3 o) 1 (s_rest L (n 1) 16)) 4 t) (by rw [hu]; exact J) (nI p)
  rw [hu] at e4
  rw [e1, p_bv, k_borne W.i E Bx (by rw [p_rw_s]; exact C) (by omega), p_bi, e2, p_bv, show (16 : Int32) = nI 16 from rfl, e3, p_bi, e4, p_bi, t_back E ho, p_bv]
  exact ⟨_, _, _, rfl, rfl, R.line ..⟩
theorem y_on (a : Int32) : Me (f11_on a) (f12_on a) := Me.mk fun m n L R W => by
  unfold f11_on f12_on
  rw [k_in, show (0 : Int64) = (0 : Int32).toInt64 from rfl, show (16 : Int64) = (16 : Int32).toInt64 from rfl, t_in32, p_bi, p_bi, p_if, p_if]
  cases h : p_in a.toInt (0 : Int32).toInt (16 : Int32).toInt
  · rw [if_neg (by decide), if_neg (by decide)]
    exact ⟨_, _, _, rfl, rfl, R⟩
  rw [if_pos rfl, if_pos rfl]
  obtain ⟨N, rfl, -, hN⟩ := p_in_ex (lo := 0) (hi := 16) h (by omega)
  obtain ⟨x0, e0, hx0, h50⟩ := k_begin m (c := 73) (b := 29) (by omega)
  obtain ⟨f, x, e1, C, h5⟩ := k_restN W.b LN73 W.w N hN (f11_on_b28 (f11_on_b66 (nI N)) (nI N)) (f11_on_b66 (nI N)) (fun q i z => rfl) N 0 lu_fu (n 1) (m 36) x0 (by omega) (p_fu (by omega)) W.i W.i (SE.rf _) (W.c.cp hx0)
  obtain ⟨o, e2, ho⟩ := t_puts n
  obtain ⟨t, e3⟩ := t_rest W.l (n := p_rw n 3 o) (s := n 1) (p_rw_n (by omega)) (N := N) hN W.i W.r
  obtain ⟨E, J⟩ := s_rest_I L N (n 1) W.i
  have hm : p_rw (p_rw m (1 + 35) (m 36)) 73 x0 = p_rw m 73 x0 := by rw [p_rw_id]
  rw [hm] at e1
  have e1' : f11_on_b28 (f11_on_b66 (nI N)) (nI N) lu_fu 0 (p_rw m 73 x0) = some (s_restW L (n 1) N, p_rw (p_rw m (1 + 35) f) 73 x) := by
    refine e1.trans ?_
    unfold f11_on_b66
    rw [p_rw_s, h5, h50, Int32.zero_add]
  rw [e0, p_bv, e1', e2, p_bv, e3, p_bi, t_back E ho, p_bv]
  exact ⟨_, _, _, rfl, rfl, R.line ..⟩
/-- of whom a deed is overdue in the end -/
def s_late (u : Nat → Int32) : Int32 := p_it (fun i x => x ||| (if u (30 + 5 * i) = 1 ∧ ¬ (u 2 - 1 ≤ nI (s_due u i)) then (1 : Int32) <<< (u (26 + 5 * i) &&& 31) else 0)) 0 (s_D u) 0
theorem t_late {n : lu_M} (I : SI (n 1)) : f12_late n = some (s_late (n 1), n) := by
  have hD := I.D10
  have hl := (p_loop (fun q i (x : Int32) => f12_late_b4 f12_late_b61 q x i n) (fun x => some (x, n)) (s_D (n 1)) (fun i x => x ||| (if n 1 (30 + 5 * i) = 1 ∧ ¬ (n 1 2 - 1 ≤ nI (s_due (n 1) i)) then (1 : Int32) <<< (n 1 (26 + 5 * i) &&& 31) else 0)) (fun _ _ => True)
    (fun q x _ => by
      show f12_late_b4B _ _ _ _ _ = _
      unfold f12_late_b4B f12_late_b61
      rw [I.eD, if_pos (Int32.le_refl _)])
    (fun q i x hi _ => by
      show f12_late_b4B _ _ _ _ _ = _
      unfold f12_late_b4B f12_late_b52 f12_late_b53
      rw [I.eD, q_le (by omega) (by omega), if_neg (by omega), t_dSo _ (by omega), p_bi, t_due I hi, p_bi, t_dOf _ (by omega), p_bi, p_nm, p_nm, p_next]
      by_cases g : n 1 (30 + 5 * i) = 1
      · rw [if_pos g]
        by_cases g2 : n 1 2 - 1 ≤ nI (s_due (n 1) i)
        · rw [if_pos g2, if_neg (fun q => q.2 g2)]
        · rw [if_neg g2, if_pos ⟨g, g2⟩]
      · rw [if_neg g, if_neg (fun q => g q.1)])
    (fun _ _ _ _ => trivial) (s_D (n 1)) 0 lu_fu 0 (by omega) (p_fu (by omega)) trivial).1
  exact hl
theorem k_late {m : lu_M} {w c : Nat} {s : Nat → Int32} {L : List Ru} (I : SI s) (B : RB m w s) (hc : LN w c) (hc2 : c ≠ w + 28) (R : RW m w L) (C : CR (s_D s) (m (w + 28)) s) : ∃ f x, f10_overdueInTheEnd w c m = some (s_late (s_rest L s 16), p_rw (p_rw m (w + 35) f) c x) := by
  have hD := I.D10
  obtain ⟨f, x, e1, C1, -⟩ := k_rest I B hc hc2 R C
  obtain ⟨E, J⟩ := s_rest_I L 16 s I
  refine ⟨f, x, ?_⟩
  generalize s_rest L s 16 = u at *
  have B1 : RB (p_rw (p_rw m (w + 35) f) c x) w s := B.tr (((FR.rf w m).fa f).ln hc x)
  have C2 : CR (s_D s) ((p_rw (p_rw m (w + 35) f) c x) c) u := by rw [p_rw_s]; exact C1
  generalize p_rw (p_rw m (w + 35) f) c x = m1 at *
  have e2 : u 2 = s 2 := E.lo (by omega) (by omega) (by omega)
  have hl := (p_loop (fun q i (x : Int32) => f10_overdueInTheEnd_b9 (f10_overdueInTheEnd_b57 w c) w c q x i m1) (fun x => some (x, m1)) (s_D s) (fun i x => x ||| (if u (30 + 5 * i) = 1 ∧ ¬ (u 2 - 1 ≤ nI (s_due u i)) then (1 : Int32) <<< (u (26 + 5 * i) &&& 31) else 0)) (fun _ _ => True)
    (fun q x _ => by
      show f10_overdueInTheEnd_b9B _ _ _ _ _ _ _ = _
      unfold f10_overdueInTheEnd_b9B f10_overdueInTheEnd_b57
      rw [B1.ded, I.eD, if_pos (Int32.le_refl _)])
    (fun q i x hi _ => by
      have h26 : u (26 + 5 * i) = s (26 + 5 * i) := E.de (w := 0) (by omega)
      show f10_overdueInTheEnd_b9B _ _ _ _ _ _ _ = _
      unfold f10_overdueInTheEnd_b9B f10_overdueInTheEnd_b51
      rw [B1.ded, I.eD, q_le (by omega) (by omega), if_neg (by omega), k_isStanding C2 hi hD, p_bi, p_if, p_gd (by omega) (by omega), p_gd (by omega) (by omega), p_nm, nI_clamp (by omega), (B1.dd hi).1, (B1.dd hi).2.2.2.2, B1.en, p_next, ← h26, ← s_due_of I E hi, ← e2]
      by_cases g : u (30 + 5 * i) = 1
      · rw [decide_eq_true g, if_pos rfl]
        by_cases g2 : u 2 - 1 ≤ nI (s_due u i)
        · rw [if_pos g2, if_neg (fun q => q.2 g2), Int32.or_zero]
        · rw [if_neg g2, if_pos ⟨g, g2⟩]
      · rw [decide_eq_false g, if_neg (by decide), if_neg (fun q => g q.1), Int32.or_zero])
    (fun _ _ _ _ => trivial) (s_D s) 0 lu_fu 0 (by omega) (p_fu (by omega)) trivial).1
  unfold f10_overdueInTheEnd s_late
  rw [e1, p_bv, E.D]
  exact hl
theorem y_overdue : Me f11_overdue f12_overdue := Me.mk fun m n L R W => by
  obtain ⟨f, x, e1⟩ := k_late W.i W.b LN73 (by omega) W.w W.c
  obtain ⟨o, e2, ho⟩ := t_puts n
  obtain ⟨t, e3⟩ := t_rest W.l (n := p_rw n 3 o) (s := n 1) (p_rw_n (by omega)) (N := 16) (by omega) W.i W.r
  obtain ⟨E, J⟩ := s_rest_I L 16 (n 1) W.i
  have hu : (p_rw (p_rw (p_rw n 3 o) 1 (s_rest L (n 1) 16)) 4 t) 1 = s_rest L (n 1) 16 := by rw [p_rw_n (by omega), p_rw_s]
  have e4 := t_late (n := p_rw (p_rw (p_rw n 3 o) 1 (s_rest L (n 1) 16)) 4 t) (by rw [hu]; exact J)
  rw [hu] at e4
  unfold f11_overdue f12_overdue
  rw [e1, p_bi, e2, p_bv, show (16 : Int32) = nI 16 from rfl, e3, p_bi, e4, p_bi, t_back E ho, p_bv]
  exact ⟨_, _, _, rfl, rfl, R.line ..⟩
theorem those_bit {u : Nat → Int32} (h : s_D u ≤ 10) (a : Int32) {j : Nat} (hj : j < 32) : bt (s_those u a) j = (decide (j < s_D u) && decide (u (30 + 5 * j) = a)) := by
  have e := p_it_inv (f := fun i x => x ||| (if u (30 + 5 * i) = a then (1 : Int32) <<< (nI i &&& 31) else 0)) (I := fun i x => bt x j = (decide (j < i) && decide (u (30 + 5 * j) = a))) (s_D u) 0 0 (by rw [b_0, decide_eq_false (by omega)]; rfl) (fun i x h1 h2 h3 => by
    show bt (x ||| _) j = _
    by_cases g : u (30 + 5 * i) = a
    · rw [if_pos g, p_set x (by omega) hj, h3]
      by_cases hji : j = i
      · subst hji
        rw [decide_eq_true (p := j < j + 1) (by omega), decide_eq_true g]; simp
      · by_cases hl : j < i
        · rw [decide_eq_true hl, decide_eq_true (p := j < i + 1) (by omega), decide_eq_false hji, Bool.or_false]
        · rw [decide_eq_false hl, decide_eq_false (p := j < i + 1) (by omega), decide_eq_false hji, Bool.or_false]
    · rw [if_neg g, Int32.or_zero, h3]
      by_cases hji : j = i
      · subst hji
        rw [decide_eq_false g, Bool.and_false, Bool.and_false]
      · by_cases hl : j < i
        · rw [decide_eq_true hl, decide_eq_true (p := j < i + 1) (by omega)]
        · rw [decide_eq_false hl, decide_eq_false (p := j < i + 1) (by omega)])
  rw [Nat.zero_add] at e
  exact e
/-- a line's set is the set of those deeds -/
theorem CR.th {D : Nat} {x u : Nat → Int32} (C : CR D x u) (hD : s_D u = D) (h10 : D ≤ 10) : x 1 = s_those u 1 ∧ x 3 = s_those u 3 := by
  refine ⟨b_ext fun i hi => ?_, b_ext fun i hi => ?_⟩
  · rw [(C.2 i hi).1, those_bit (by omega) 1 hi, hD]
  · rw [(C.2 i hi).2.2.1, those_bit (by omega) 3 hi, hD]
theorem y_falls (a : Int32) : Me (f11_falls a) (f12_falls a) := Me.mk fun m n L R W => by
  have hD := W.i.D10
  unfold f11_falls f12_falls
  rw [k_dee W, t_dee W, p_bi, p_bi, p_if, p_if]
  cases h : p_in a.toInt 0 ((s_D (n 1) : Int) - 1)
  · rw [if_neg (by decide), if_neg (by decide)]
    exact ⟨_, _, _, rfl, rfl, R⟩
  rw [if_pos rfl, if_pos rfl]
  obtain ⟨d, rfl, hd⟩ := p_in_m1 h (by omega)
  rw [k_isStanding W.c hd hD, t_dSo _ (by omega), p_bi, p_bi, p_if]
  by_cases g : n 1 (30 + 5 * d) = 1
  · rw [decide_eq_true g, if_pos rfl, if_pos g]
    obtain ⟨x0, e0, hx0, h50⟩ := k_begin m (c := 73) (b := 29) (by omega)
    obtain ⟨x, e1, C, -⟩ := k_undo W.i W.b LN73 (W.c.cp hx0) hd g
    obtain ⟨o, e2, ho⟩ := t_puts n
    obtain ⟨E, -, J⟩ := s_undo_I W.i hd
    have hn : p_rw n 3 o = p_rw (p_rw n 3 o) 1 (n 1) := by
      rw [p_rw_sw (by omega), p_rw_id]
    have e3 := t_those (n := p_rw n 3 o) (by rw [p_rw_n (by omega)]; exact W.i) 3
    have e4 := t_undo (n := p_rw n 3 o) W.i (SE.rf _) hd
    rw [← hn] at e4
    have e5 := t_those (n := p_rw (p_rw n 3 o) 1 (s_undo (n 1) d)) (by rw [p_rw_s]; exact J) 3
    rw [p_rw_n (by omega)] at e3
    rw [p_rw_s] at e5
    have e6 := t_back (n := n) (t := n 4) E ho
    have h4 : p_rw (p_rw (p_rw n 3 o) 1 (s_undo (n 1) d)) 4 (n 4) = p_rw (p_rw n 3 o) 1 (s_undo (n 1) d) := by
      have : n 4 = (p_rw (p_rw n 3 o) 1 (s_undo (n 1) d)) 4 := by rw [p_rw_n (by omega), p_rw_n (by omega)]
      rw [this, p_rw_id]
    rw [h4] at e6
    rw [e0, p_bv, e1, p_bv, e2, p_bv, e3, p_bi, e4, p_bv, e5, p_bi, p_nm, e6, p_bv, p_rw_s, p_rw_n (by omega), (C.th E.D hD).2, (W.c.th rfl hD).2]
    have hR := R.line (m 36) x o (s_undo (n 1) d) (n 4)
    rw [h4, p_rw_id] at hR
    exact ⟨_, _, _, rfl, rfl, hR⟩
  · rw [decide_eq_false g, if_neg (by decide), if_neg g]
    exact ⟨_, _, _, rfl, rfl, R⟩

/-! THE PURE PART: until, lot -/
theorem s_goes_23 {s : Nat → Int32} (I : SI s) (L : List Ru) (a : Int32) (hy : s_v s 3 < s_v s 2) : s_v (s_goes L a s) 3 = s_v s 3 + 1 ∧ s_v (s_goes L a s) 2 = s_v s 2 ∧ s_goes L a s 3 = s 3 + 1 := by
  have hE := I.E16
  have h3 : s_goes L a s 3 = s 3 + 1 := p_us ..
  refine ⟨?_, s_v_of ((s_goes_I I L a hy).1.lo (by omega) (by omega) (by omega)), h3⟩
  unfold s_v
  rw [h3, I.eY, p_next, nI_clamp (by omega), nI_clamp (by omega)]
def s_gone (u : Nat → Int32) (d : Nat) : Bool := decide (u (30 + 5 * d) = 2) || decide (u (30 + 5 * d) = 3)
def s_until (L : List Ru) (d : Nat) (s : Nat → Int32) : Nat → Int32
  | 0 => -3
  | k + 1 => if s_ov s then -3 else if s_gone (s_goes L 0 s) d then s 3 else s_until L d (s_goes L 0 s) k
theorem t_isGone {n : lu_M} {d : Nat} (h : d < 10) : f12_isGone (nI d) n = some (p_b (s_gone (n 1) d), n) := by
  unfold f12_isGone f12_isGone_b20 f12_isGone_b25 s_gone
  rw [t_dSo _ h, p_bi, t_dSo _ h, p_bi]
  by_cases h1 : n 1 (30 + 5 * d) = 2
  · rw [if_pos h1, decide_eq_true h1]; rfl
  · rw [if_neg h1]
    by_cases h2 : n 1 (30 + 5 * d) = 3
    · rw [if_pos h2, decide_eq_true h2, Bool.or_true]; rfl
    · rw [if_neg h2, decide_eq_false h1, decide_eq_false h2]; rfl
theorem t_untilN {L : List Ru} (hL : LV L) {n : lu_M} {s0 o : Nat → Int32} (ho : ∀ k, k < 368 → o k = s0 k) {d : Nat} (hd : d < 10) (a : Int32) (ha : a = nI d) : ∀ (j q : Nat) (s t : Nat → Int32), s_v s 2 ≤ s_v s 3 + j → j + 1 < q → SI s → RS' s L → SE s0 s → ∃ u t', f12_until_b28 (f12_until_b70 a) a q (-3) (p_rw (p_rw (p_rw n 3 o) 1 s) 4 t) = some (s_until L d s j, p_rw (p_rw (p_rw (p_rw n 3 o) 1 u) 4 t') 1 s0)
  | j, q, s, t, hj, hq, I, hr, E => by
    subst ha
    obtain ⟨q, rfl⟩ : ∃ r, q = r + 1 := ⟨q - 1, by omega⟩
    have hr1 : ∀ u t, (p_rw (p_rw (p_rw n 3 o) 1 u) 4 t) 1 = u := fun u t => by rw [p_rw_n (by omega), p_rw_s]
    have ho1 := t_isOver (n := p_rw (p_rw (p_rw n 3 o) 1 s) 4 t) (by rw [hr1]; exact I)
    rw [hr1] at ho1
    show ∃ u t', f12_until_b28B _ _ _ _ _ = _
    unfold f12_until_b28B f12_until_b66
    rw [if_neg (by decide), ho1, p_bi, p_if]
    cases h : s_ov s
    · obtain ⟨j, rfl⟩ : ∃ i, j = i + 1 := ⟨j - 1, by have := s_ov_f h; omega⟩
      rw [if_neg (by decide)]
      unfold s_until
      rw [h, if_neg (by decide)]
      obtain ⟨e, J⟩ := s_goes_I I L 0 (s_ov_f h)
      obtain ⟨e3, e2, e33⟩ := s_goes_23 I L 0 (s_ov_f h)
      obtain ⟨t1, e1⟩ := t_goes (n := p_rw (p_rw n 3 o) 1 s) (p_rw_s ..) I hL hr 0 t
      rw [e1, p_bi, p_rw_rw, t_isGone hd, p_bi, p_if, hr1]
      cases hg : s_gone (s_goes L 0 s) d
      · rw [if_neg (by decide), if_neg (by decide)]
        exact t_untilN hL ho hd _ rfl j q (s_goes L 0 s) t1 (by omega) (by omega) J (hr.se e hL.1 hL.2.1) (E.tr e)
      · rw [if_pos rfl, if_pos rfl, e33, Int32.add_sub_cancel]
        obtain ⟨q, rfl⟩ : ∃ r, q = r + 1 := ⟨q - 1, by omega⟩
        refine ⟨s_goes L 0 s, t1, ?_⟩
        show f12_until_b28B _ _ _ _ _ = _
        unfold f12_until_b28B f12_until_b70
        have hy : (0 : Int32) ≤ s 3 := by rw [I.eY]; exact nI_pos' (by have := I.E16; have := I.YE; omega)
        rw [if_pos hy, t_back (E.tr e) ho, p_bv]
    · rw [if_pos rfl]
      refine ⟨s, t, ?_⟩
      unfold f12_until_b70
      rw [t_back E ho, p_bv]
      cases j with
      | zero => rfl
      | succ j =>
        unfold s_until
        rw [h, if_pos rfl]
theorem k_untilN {m : lu_M} {s0 : Nat → Int32} {L : List Ru} (B : RB m 1 s0) (R : RW m 1 L) {d : Nat} (hd : d < s_D s0) (I0 : SI s0) : ∀ (j i q : Nat) (s f x : Nat → Int32), i + j = 16 → j < q → SI s → SE s0 s → CR (s_D s) x s → ∃ f' x', f11_until_b43 (f11_until_b95 (nI d)) (f11_until_b103 (nI d)) (nI d) q (nI i) (p_rw (p_rw m (1 + 35) f) 73 x) = some (s_until L d s j, p_rw (p_rw m (1 + 35) f') 73 x')
  | 0, i, q, s, f, x, h1, h2, I, E, C => by
    obtain ⟨q, rfl⟩ : ∃ r, q = r + 1 := ⟨q - 1, by omega⟩
    rw [Nat.add_zero] at h1
    subst h1
    refine ⟨f, x, ?_⟩
    show f11_until_b43B _ _ _ _ _ _ = _
    unfold f11_until_b43B f11_until_b103
    rw [if_pos (by decide)]
    rfl
  | j + 1, i, q, s, f, x, h1, h2, I, E, C => by
    obtain ⟨q, rfl⟩ : ∃ r, q = r + 1 := ⟨q - 1, by omega⟩
    have hD := I0.D10
    have Bs := B.se I0 E
    have B2 : RB (p_rw (p_rw m (1 + 35) f) 73 x) 1 s := Bs.tr (((FR.rf 1 m).fa f).ln LN73 x)
    show ∃ f' x', f11_until_b43B _ _ _ _ _ _ = _
    unfold f11_until_b43B f11_until_b103 f11_until_b95 s_until
    rw [show (16 : Int32) = nI 16 from rfl, q_le (by omega) (by omega), if_neg (by omega), k_isOver I B2.en (by rw [p_rw_s]; exact C.1), p_bi, p_if]
    cases h : s_ov s
    · rw [if_neg (by decide), if_neg (by decide)]
      obtain ⟨e, J⟩ := s_goes_I I L 0 (s_ov_f h)
      obtain ⟨f1, x1, e1, C1, h5⟩ := k_pass I Bs LN73 R 0 f C
      rw [p_nm, e1, p_bi, k_isGone (c := 73) (D := s_D s) (u := s_goes L 0 s) (by rw [p_rw_s]; exact C1) (d := d) (by rw [E.D]; exact hd) (by rw [E.D]; exact hD), p_bi, p_if]
      show ∃ f' x', (if s_gone (s_goes L 0 s) d = true then _ else _) = _
      cases hg : s_gone (s_goes L 0 s) d
      · rw [if_neg (by decide), if_neg (by decide), p_next]
        exact k_untilN B R hd I0 j (i + 1) q (s_goes L 0 s) f1 x1 (by omega) (by omega) J (E.tr e) (by rw [e.D]; exact C1)
      · rw [if_pos rfl, if_pos rfl, p_rw_s, C.1]
        exact ⟨f1, x1, rfl⟩
    · rw [if_pos rfl, if_pos rfl]
      exact ⟨f, x, rfl⟩
theorem y_until (a : Int32) : Me (f11_until a) (f12_until a) := Me.mk fun m n L R W => by
  have hD := W.i.D10
  have hE := W.i.E16
  unfold f11_until f12_until
  rw [k_dee W, t_dee W, p_bi, p_bi, p_if, p_if]
  cases h : p_in a.toInt 0 ((s_D (n 1) : Int) - 1)
  · rw [if_neg (by decide), if_neg (by decide)]
    exact ⟨_, _, _, rfl, rfl, R⟩
  rw [if_pos rfl, if_pos rfl]
  obtain ⟨d, rfl, hd⟩ := p_in_m1 h (by omega)
  obtain ⟨x0, e0, hx0, h50⟩ := k_begin m (c := 73) (b := 29) (by omega)
  have C0 := W.c.cp hx0
  rw [e0, p_bv, k_isGone (c := 73) (D := s_D (n 1)) (u := n 1) (by rw [p_rw_s]; exact C0) hd hD, p_bi, p_if, t_isGone (by omega), p_bi, p_if]
  show ∃ a m' n', (if s_gone (n 1) d = true then _ else _) = _ ∧ _
  cases hg : s_gone (n 1) d
  · rw [if_neg (by decide), if_neg (by decide)]
    obtain ⟨f, x, e1⟩ := k_untilN W.b W.w hd W.i 16 0 lu_fu (n 1) (m 36) x0 (by omega) (p_fu (by omega)) W.i (SE.rf _) C0
    rw [p_rw_id] at e1
    obtain ⟨o, e2, ho⟩ := t_puts n
    obtain ⟨u, t, e3⟩ := t_untilN W.l (n := n) ho (d := d) (by omega) (nI d) rfl 16 lu_fu (n 1) (n 4) (by omega) (p_fu (by omega)) W.i W.r (SE.rf _)
    have hn : p_rw (p_rw (p_rw n 3 o) 1 (n 1)) 4 (n 4) = p_rw n 3 o := by
      have h1 : p_rw (p_rw n 3 o) 1 (n 1) = p_rw n 3 o := by
        rw [p_rw_sw (by omega), p_rw_id]
      rw [h1, p_rw_sw (by omega), p_rw_id]
    rw [hn] at e3
    refine ⟨_, _, _, e1, ?_, R.line f x o u t⟩
    rw [e2, p_bv]
    exact e3
  · rw [if_pos rfl, if_pos rfl]
    refine ⟨_, _, _, rfl, rfl, ?_⟩
    have hm : p_rw m 73 x0 = p_rw (p_rw m (1 + 35) (m (1 + 35))) 73 x0 := by rw [p_rw_id]
    rw [hm]
    exact R.same (((FM.rf m).rw _ _ (by omega)).rw _ _ (by omega)) (fun a h1 h2 => by rw [p_rw_n (by omega), p_rw_n (by omega)]) (FN.rf n) rfl
/-! a row that is another only in what people and deeds don't say -/
def SA (s u : Nat → Int32) : Prop := ∀ i, i = 0 ∨ i = 2 ∨ i = 3 ∨ i = 5 ∨ (8 ≤ i ∧ i < 76) → u i = s i
theorem SA.D {s u : Nat → Int32} (h : SA s u) : s_D u = s_D s := s_v_of (h 5 (by omega))
theorem SA.P {s u : Nat → Int32} (h : SA s u) : s_P u = s_P s := s_v_of (h 0 (by omega))
theorem SI.ag {s u : Nat → Int32} (I : SI s) (h : SA s u) : SI u := by
  have hD := I.D10
  have hP := I.P6
  refine ⟨s_ok_of (h 0 (by omega)) I.1, s_ok_of (h 5 (by omega)) I.2.1, s_ok_of (h 2 (by omega)) I.2.2.1, s_ok_of (h 3 (by omega)) I.2.2.2.1, ?_, fun p hp => ?_, fun d hd => ?_, fun d hd h1 => ?_⟩
  · rw [s_v_of (h 3 (by omega)), s_v_of (h 2 (by omega))]; exact I.YE
  · rw [h.P] at hp
    obtain ⟨a1, a2, a3⟩ := I.per hp
    exact ⟨s_ok_of (h _ (by omega)) a1, s_ok_of (h _ (by omega)) a2, s_ok_of (h _ (by omega)) a3⟩
  · rw [h.D] at hd
    obtain ⟨a1, a2, a3, a4, a5, a6⟩ := I.2.2.2.2.2.2.1 d hd
    refine ⟨s_ok_of (h _ (by omega)) a1, ?_, s_ok_of (h _ (by omega)) a3, s_ok_of (h _ (by omega)) a4, ?_, s_ok_of (h _ (by omega)) a6⟩
    · rw [s_v_of (h (26 + 5 * d) (by omega)), h.P]; exact a2
    · rw [h (29 + 5 * d) (by omega), s_v_of (h (29 + 5 * d) (by omega))]; exact a5
  · rw [h.D] at hd
    rw [h _ (by omega)] at h1
    have hnd := I.nd hd
    rw [h (29 + 5 * d) (by omega), s_v_of (h (29 + 5 * d) (by omega))]
    rcases hnd with q | ⟨q, q2⟩
    · exact Or.inl q
    · rw [h _ (by omega)]
      exact I.cl hd h1
theorem s_due_ag {s u : Nat → Int32} (I : SI s) (h : SA s u) {d : Nat} (hd : d < s_D s) : s_due u d = s_due s d := by
  have hP := I.P6
  have hD := I.D10
  obtain ⟨-, l1⟩ := I.of hd
  unfold s_due
  rw [s_v_of (h (26 + 5 * d) (by omega)), s_v_of (h (27 + 5 * d) (by omega)), s_v_of (h (8 + 3 * s_v s (26 + 5 * d)) (by omega)), s_v_of (h (9 + 3 * s_v s (26 + 5 * d)) (by omega))]
theorem RB.ag {m : lu_M} {w : Nat} {s u : Nat → Int32} (B : RB m w s) (I : SI s) (h : SA s u) : RB m w u := by
  have hD := I.D10
  refine ⟨?_, ?_, ?_, fun p hp => B.num hp, fun p h6 hp => ?_, fun d hd => ?_, fun p hp i hi => ?_⟩
  · rw [h 0 (by omega)]; exact B.cnt
  · rw [h 5 (by omega)]; exact B.ded
  · rw [h 2 (by omega)]; exact B.en
  · rw [h.P] at hp
    rw [h _ (by omega), h _ (by omega), h _ (by omega)]; exact B.per h6 hp
  · rw [h.D] at hd
    rw [h _ (by omega), h _ (by omega), h _ (by omega), h _ (by omega), s_due_ag I h hd]
    exact B.dd hd
  · rw [h.D]
    by_cases hd : i < s_D s
    · rw [h _ (by omega)]; exact B.mi hp hi
    · rw [B.mi hp hi, decide_eq_false hd, Bool.false_and, Bool.false_and]
theorem CR.ag {s u : Nat → Int32} {x : Nat → Int32} (C : CR (s_D s) x s) (I : SI s) (h : SA s u) : CR (s_D u) x u := by
  have hD := I.D10
  refine ⟨by rw [h 3 (by omega)]; exact C.1, fun i hi => ?_⟩
  rw [h.D]
  by_cases hd : i < s_D s
  · rw [h _ (by omega)]; exact C.2 i hi
  · obtain ⟨c1, c2, c3, c4⟩ := C.2 i hi
    rw [decide_eq_false hd, Bool.false_and] at c1 c2 c3 c4
    rw [decide_eq_false hd, Bool.false_and, Bool.false_and, Bool.false_and, Bool.false_and]
    exact ⟨c1, c2, c3, c4⟩

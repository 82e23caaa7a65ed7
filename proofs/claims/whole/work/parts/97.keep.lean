/-! THE PURE PART: keep, again -/
theorem lu_kd_ok {s : Nat → Int32} {i : Nat} (h : s_ok s i 1 5) : lu_kd (s i) = s i := by
  rw [h.1]
  exact lu_kd_in _ h.2.1 h.2.2
/-- a World copied -/
theorem k_copyW {m : lu_M} {w v : Nat} {s : Nat → Int32} {L : List Ru} (hd : w + 36 ≤ v ∨ v + 36 ≤ w) (W : WR m v s L) : ∃ M, f10_copy w v m = some M ∧ WR M w s L ∧ ∀ a, (a < w ∨ w + 35 ≤ a) → M a = m a := by
  have hD := W.i.D10
  have hP := W.i.P6
  obtain ⟨x, e1, hx⟩ := k_copy (cpAll w v m) (c := w + 28) (b := v + 28) (by omega)
  have hx' : ∀ i, i < 6 → x i = m (v + 28) i := fun i hi => by rw [hx i hi, cpAll_row m (by omega)]
  have hv : ∀ i, i < 7 → p_rw (cpAll w v m) (w + 28) x (v + 29 + i) = m (v + 29 + i) := fun i hi => by rw [p_rw_n (by omega), cpAll_row m (by omega)]
  have hv0 : p_rw (cpAll w v m) (w + 28) x (v + 29) = m (v + 29) := hv 0 (by omega)
  obtain ⟨r1, r2, r3, r4, r5, r6⟩ := W.w
  have hCM := r_CM L
  obtain ⟨M, e2, g1, g2, g3, g4, g5⟩ := k_copyR (M := p_rw (cpAll w v m) (w + 28) x) (r0 := w + 29) (r1 := v + 29) (cnt := L.length) (used := r_C L) (by omega) r1 (by omega) (by rw [hv0]; exact r2) (by rw [hv0]; exact r6)
  have hM : ∀ a, (a < w + 28 ∨ w + 34 < a) → M a = cpAll w v m a := fun a h => by rw [g1 a (by omega), p_rw_n (by omega)]
  have hM28 : M (w + 28) = x := by rw [g1 _ (by omega), p_rw_s]
  refine ⟨M, ?_, ⟨W.i, W.l, W.r, ?_, ⟨r1, g2, ?_, r4, r5, g3⟩, ?_, ?_, ?_⟩, fun a h => ?_⟩
  · unfold f10_copy
    rw [e1, p_bv, e2, p_bv]
  · refine ⟨?_, ?_, ?_, fun p hp => ?_, fun p h6 hp => ?_, fun d hd2 => ?_, fun p hp i hi => ?_⟩
    · rw [hM w (by omega), cpAll_own hd m (by omega)]; exact W.b.cnt
    · rw [hM w (by omega), cpAll_own hd m (by omega)]; exact W.b.ded
    · rw [hM w (by omega), cpAll_own hd m (by omega)]; exact W.b.en
    · rw [hM _ (by omega), cpAll_hand hd m hp]; rfl
    · obtain ⟨q1, q2, q3⟩ := W.b.per h6 hp
      rw [hM _ (by omega), cpAll_hand hd m h6]
      unfold cpHa
      rw [q1, q2, q3, lu_kd_ok (W.i.per hp).1]
      exact ⟨rfl, rfl, rfl⟩
    · rw [hM _ (by omega), hM _ (by omega), hM _ (by omega), hM _ (by omega), hM _ (by omega), cpAll_deed hd m (by omega) (by omega) (by omega), cpAll_deed hd m (by omega) (by omega) (by omega), cpAll_deed hd m (by omega) (by omega) (by omega), cpAll_deed hd m (by omega) (by omega) (by omega), cpAll_deed hd m (by omega) (by omega) (by omega)]
      exact W.b.dd hd2
    · rw [hM _ (by omega), cpAll_mine hd m hp]; exact W.b.mi hp hi
  · refine RLc.mv (M := p_rw (cpAll w v m) (w + 28) x) (r1 := v + 29) L 0 0 (fun i j h1 h2 h3 => g4 i j h1 h2 (by omega)) (fun j hj => g5 j (by omega)) ?_
    exact RLc.fr (fun i h1 h2 => hv i (by omega)) L 0 0 r3
  · rw [hM28]
    exact W.c.cp (fun i hi => hx' i (by omega))
  · rw [hM28, hx' 5 (by omega)]; exact W.y
  · obtain ⟨a1, a2, a3, a4, a5⟩ := W.x
    refine ⟨?_, ?_, a3, fun r h6 hr => ?_, fun p q hp hq => ?_⟩
    · rw [hM w (by omega), cpAll_own hd m (by omega)]; exact a1
    · rw [hM w (by omega), cpAll_own hd m (by omega)]; exact a2
    · obtain ⟨b1, b2⟩ := a4 r h6 hr
      refine ⟨fun k hk => ?_, b2⟩
      rw [hM _ (by omega), cpAll_told hd m h6 hk]; exact b1 k hk
    · rw [hM _ (by omega), cpAll_loan hd m hp hq]; exact a5 p q hp hq
  · rw [hM a (by omega), cpAll_row m (by omega)]
/-- only the first 368 places count -/
theorem WR.cg {m : lu_M} {w : Nat} {s u : Nat → Int32} {L : List Ru} (W : WR m w s L) (h : ∀ i, i < 368 → u i = s i) : WR m w u L := by
  have hD := W.i.D10
  have hP := W.i.P6
  have hPu : s_P u = s_P s := s_v_of (h 0 (by omega))
  have hDu : s_D u = s_D s := s_v_of (h 5 (by omega))
  refine ⟨⟨s_ok_of (h _ (by omega)) W.i.1, s_ok_of (h _ (by omega)) W.i.2.1, s_ok_of (h _ (by omega)) W.i.2.2.1, s_ok_of (h _ (by omega)) W.i.2.2.2.1, ?_, fun q hq => ?_, fun d hd => ?_, fun d hd h1 => ?_⟩, W.l, ⟨by rw [h _ (by omega)]; exact W.r.1, RLs.fr (fun i _ h2 => h i h2) L 0 0 (by have := W.l.1; omega) (by have := W.l.2.1; omega) W.r.2⟩, ⟨?_, ?_, ?_, fun p hp => W.b.num hp, fun p h6 hp => ?_, fun d hd => ?_, fun p hp i hi => ?_⟩, W.w, ?_, ?_, ?_⟩
  · rw [s_v_of (h 3 (by omega)), s_v_of (h 2 (by omega))]; exact W.i.YE
  · rw [hPu] at hq
    obtain ⟨a1, a2, a3⟩ := W.i.per hq
    exact ⟨s_ok_of (h _ (by omega)) a1, s_ok_of (h _ (by omega)) a2, s_ok_of (h _ (by omega)) a3⟩
  · rw [hDu] at hd
    obtain ⟨a1, a2, a3, a4, a5, a6⟩ := W.i.2.2.2.2.2.2.1 d hd
    refine ⟨s_ok_of (h _ (by omega)) a1, ?_, s_ok_of (h _ (by omega)) a3, s_ok_of (h _ (by omega)) a4, ?_, s_ok_of (h _ (by omega)) a6⟩
    · rw [s_v_of (h (26 + 5 * d) (by omega)), hPu]; exact a2
    · rw [h (29 + 5 * d) (by omega), s_v_of (h (29 + 5 * d) (by omega))]; exact a5
  · rw [hDu] at hd
    rw [h _ (by omega)] at h1
    rw [h (29 + 5 * d) (by omega), s_v_of (h (29 + 5 * d) (by omega))]
    rcases W.i.nd hd with q | ⟨q, q2⟩
    · exact Or.inl q
    · rw [h _ (by omega)]
      exact W.i.cl hd h1
  · rw [h _ (by omega)]; exact W.b.cnt
  · rw [h _ (by omega)]; exact W.b.ded
  · rw [h _ (by omega)]; exact W.b.en
  · rw [hPu] at hp
    rw [h _ (by omega), h _ (by omega), h _ (by omega)]; exact W.b.per h6 hp
  · rw [hDu] at hd
    obtain ⟨-, l1⟩ := W.i.of hd
    have hdue : s_due u d = s_due s d := by
      unfold s_due
      rw [s_v_of (h (26 + 5 * d) (by omega)), s_v_of (h (27 + 5 * d) (by omega)), s_v_of (s := s) (u := u) (i := 8 + 3 * s_v s (26 + 5 * d)) (h _ (by omega)), s_v_of (s := s) (u := u) (i := 9 + 3 * s_v s (26 + 5 * d)) (h _ (by omega))]
    rw [h _ (by omega), h _ (by omega), h _ (by omega), h _ (by omega), hdue]; exact W.b.dd hd
  · rw [hDu, h _ (by omega)]; exact W.b.mi hp hi
  · rw [hDu]
    refine ⟨by rw [h 3 (by omega)]; exact W.c.1, fun i hi => ?_⟩
    rw [h (30 + 5 * i) (by omega)]; exact W.c.2 i hi
  · rw [h _ (by omega)]; exact W.y
  · obtain ⟨a1, a2, a3, a4, a5⟩ := W.x
    refine ⟨?_, ?_, s_ok_of (h _ (by omega)) a3, fun r h6 hr => ?_, fun p q hp hq => ?_⟩
    · rw [h _ (by omega)]; exact a1
    · rw [h _ (by omega)]; exact a2
    · rw [s_v_of (h 6 (by omega))] at hr
      obtain ⟨b1, b2, b3, b4, b5⟩ := a4 r h6 hr
      refine ⟨fun k hk => ?_, s_ok_of (h _ (by omega)) b2, s_ok_of (h _ (by omega)) b3, s_ok_of (h _ (by omega)) b4, s_ok_of (h _ (by omega)) b5⟩
      rw [h _ (by omega)]; exact b1 k hk
    · obtain ⟨b1, b2, b3⟩ := a5 p q hp hq
      rw [h _ (by omega), hPu]
      exact ⟨b1, s_ok_of (h _ (by omega)) b2, b3⟩
theorem t_keep (n : lu_M) : ∃ x, f12_keep n = some (1, lu_st (p_rw n 2 x) 0 3 1) ∧ ∀ i, i < 368 → x i = n 1 i := by
  obtain ⟨x, e, hx⟩ := p_loopR (σ := Unit) (fun q i (x : Nat → Int32) => f12_keep_b2 f12_keep_b27 q i (p_rw n 2 x)) (fun x => f12_keep_b27 (p_rw n 2 x)) 368 (fun _ u => u) (fun i x _ => ∀ k, k < i → x k = n 1 k)
    (fun q x _ _ => by
      show f12_keep_b2B _ _ _ _ = _
      unfold f12_keep_b2B
      rw [show (368 : Int32) = nI 368 from rfl, if_pos (Int32.le_refl _)])
    (fun q i x _ hi h => by
      refine ⟨upd x i (n 1 i), ?_, fun k hk => ?_⟩
      · show f12_keep_b2B _ _ _ _ = _
        unfold f12_keep_b2B
        rw [show (368 : Int32) = nI 368 from rfl, q_le (by omega) (by omega), if_neg (by omega), p_gd hi (by omega), p_gd hi (by omega), p_nm, nI_clamp (by omega), p_stc, p_rw_n (a := 1) (by omega), p_next]
      · by_cases hki : k = i
        · subst hki; exact p_us ..
        · rw [upd_ne hki]; exact h k (by omega)) 368 0 lu_fu (n 2) () (by omega) (p_fu (by omega)) (fun k hk => absurd hk (by omega))
  rw [p_rw_id] at e
  refine ⟨x, ?_, hx⟩
  unfold f12_keep
  rw [show (0 : Int32) = nI 0 from rfl, e]
  unfold f12_keep_b27
  rw [p_nm]
theorem t_again (n : lu_M) (h : n 0 3 ≠ 0) : ∃ x, f12_again n = some (x 0, p_rw n 1 x) ∧ ∀ i, i < 368 → x i = n 2 i := by
  obtain ⟨x, e, hx⟩ := p_loopR (σ := Unit) (fun q i (x : Nat → Int32) => f12_again_b12 f12_again_b37 q i (p_rw n 1 x)) (fun x => f12_again_b37 (p_rw n 1 x)) 368 (fun _ u => u) (fun i x _ => ∀ k, k < i → x k = n 2 k)
    (fun q x _ _ => by
      show f12_again_b12B _ _ _ _ = _
      unfold f12_again_b12B
      rw [show (368 : Int32) = nI 368 from rfl, if_pos (Int32.le_refl _)])
    (fun q i x _ hi h => by
      refine ⟨upd x i (n 2 i), ?_, fun k hk => ?_⟩
      · show f12_again_b12B _ _ _ _ = _
        unfold f12_again_b12B
        rw [show (368 : Int32) = nI 368 from rfl, q_le (by omega) (by omega), if_neg (by omega), p_gd hi (by omega), p_gd hi (by omega), p_nm, nI_clamp (by omega), p_stc, p_rw_n (a := 2) (by omega), p_next]
      · by_cases hki : k = i
        · subst hki; exact p_us ..
        · rw [upd_ne hki]; exact h k (by omega)) 368 0 lu_fu (n 1) () (by omega) (p_fu (by omega)) (fun k hk => absurd hk (by omega))
  rw [p_rw_id] at e
  refine ⟨x, ?_, hx⟩
  unfold f12_again
  rw [if_neg h, show (0 : Int32) = nI 0 from rfl, e]
  unfold f12_again_b37
  rw [p_rw_s]
theorem y_keep : Me f11_keep f12_keep := Me.mk fun m n L R W => by
  obtain ⟨M, e1, W1, hM⟩ := k_copyW (w := 37) (v := 1) (Or.inr (by omega)) W
  obtain ⟨x, e2, hx⟩ := t_keep n
  have hm : ∀ a, a ≠ 0 → (a < 37 ∨ 72 ≤ a) → lu_st M 0 2 1 a = m a := fun a h1 h2 => by rw [lu_st_row h1, hM a (by omega)]
  have hm0 : ∀ i, i ≠ 2 → lu_st M 0 2 1 0 i = m 0 i := fun i hi => by rw [lu_st_ne hi, hM 0 (by omega)]
  have hn : ∀ a, a ≠ 0 → a ≠ 2 → lu_st (p_rw n 2 x) 0 3 1 a = n a := fun a h1 h2 => by rw [lu_st_row h1, p_rw_n h2]
  have hn0 : ∀ i, i ≠ 3 → lu_st (p_rw n 2 x) 0 3 1 0 i = n 0 i := fun i hi => by rw [lu_st_ne hi, p_rw_n (by omega)]
  refine ⟨1, lu_st M 0 2 1, lu_st (p_rw n 2 x) 0 3 1, ?_, e2, ⟨L, ?_⟩, ⟨?_, Or.inr ⟨lu_st_self .., L, ?_⟩⟩, R.2.r.fr (hm0 9 (by omega)) (hn0 21 (by omega)) (fun a h1 h2 => hm a (by omega) (by omega)) (hn 10 (by omega) (by omega)), R.2.t.fr (by rw [hm 83 (by omega) (by omega)]) (hn0 23 (by omega)) (hm 84 (by omega) (by omega)) (hn 11 (by omega) (by omega)), R.2.h.fr (fun a h1 h2 => hm a (by omega) (by omega)) (fun a h1 h2 => hn a (by omega) (by omega)), R.2.f.fr (fun a h1 h2 => hm a (by omega) (by omega)) (fun a h1 h2 => hn a (by omega) (by omega)), R.2.n.fr (hn0 37 (by omega)) (hm 114 (by omega) (by omega)) (hn 18 (by omega) (by omega)), R.2.g.fr (fun k hk => by rw [hm _ (by omega) (by omega)])⟩
  · unfold f11_keep
    rw [e1, p_bv]
  · rw [hn 1 (by omega) (by omega)]
    exact W.tr (fun a h1 h2 => hm a (by omega) (by omega))
  · rw [lu_st_self, lu_st_self]
  · rw [lu_st_row (by omega), p_rw_s]
    exact (W1.cg hx).tr (fun a h1 h2 => lu_st_row (by omega))
theorem y_again : Me f11_again f12_again := Me.mk fun m n L R W => by
  obtain ⟨k1, k2⟩ := R.2.k
  rcases k2 with k2 | ⟨k2, L2, W2⟩
  · refine ⟨-3, m, n, ?_, ?_, R⟩
    · unfold f11_again
      rw [if_pos k2]
    · unfold f12_again
      rw [if_pos (by rw [← k1]; exact k2)]
  · have h0 : m 0 2 ≠ 0 := by rw [k2]; decide
    obtain ⟨M, e1, W1, hM⟩ := k_copyW (w := 1) (v := 37) (Or.inl (by omega)) W2
    obtain ⟨x, e2, hx⟩ := t_again n (by rw [← k1]; exact h0)
    refine ⟨x 0, M, p_rw n 1 x, ?_, e2, ⟨L2, ?_⟩, R.2.fr (fun a ha => hM a (by omega)) ((FN.rf n).rw _ _ (by omega))⟩
    · unfold f11_again
      rw [if_neg h0, e1, p_bv, W1.b.cnt, hx 0 (by omega)]
    · rw [p_rw_s]
      exact W1.cg hx

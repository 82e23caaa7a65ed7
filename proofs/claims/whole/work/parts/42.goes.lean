/-! THE PURE PART: a year goes by, in both -/
theorem p_rw_sw {m : lu_M} {a b : Nat} {f g : Nat → Int32} (h : a ≠ b) : p_rw (p_rw m a f) b g = p_rw (p_rw m b g) a f := by
  funext i
  unfold p_rw
  by_cases h1 : i = a
  · subst h1; rw [if_neg h, if_pos rfl, if_pos rfl]
  · rw [if_neg h1]
    by_cases h2 : i = b
    · rw [if_pos h2, if_neg h1]
    · rw [if_neg h2, if_neg h1]
def LV (L : List Ru) : Prop := L.length ≤ 8 ∧ r_M L ≤ 200 ∧ ∀ x ∈ L, r_ok x
def s_pstep (L : List Ru) (a : Int32) (p : Nat) (u : Nat → Int32) : Nat → Int32 := if nI p + 1 = a then u else if s_choice L u p = 10 then u else s_undo u (s_choice L u p)
def s_pp (L : List Ru) (a : Int32) (u : Nat → Int32) : Nat → Int32 := p_it (s_pstep L a) 0 (s_P u) u
def s_w (L : List Ru) (a : Int32) (s : Nat → Int32) : Int32 := s_worth (s 3) (s_pp L a (s_do s))
def s_goes (L : List Ru) (a : Int32) (s : Nat → Int32) : Nat → Int32 := upd (upd (s_pp L a (s_do s)) 4 (s_pp L a (s_do s) 4 + s_w L a s)) 3 (s 3 + 1)
theorem s_choice_I (L : List Ru) (u : Nat → Int32) (p : Nat) : s_choice L u p = 10 ∨ (s_choice L u p < s_D u ∧ u (30 + 5 * s_choice L u p) = 1) := s_pick_I ..
theorem s_pstep_I {s : Nat → Int32} (I : SI s) (L : List Ru) (a : Int32) (p : Nat) : SE s (s_pstep L a p s) ∧ SK s (s_pstep L a p s) ∧ SI (s_pstep L a p s) := by
  unfold s_pstep
  split
  · exact ⟨SE.rf s, SK.rf s, I⟩
  split
  · exact ⟨SE.rf s, SK.rf s, I⟩
  · rename_i h
    exact s_undo_I I ((s_choice_I L s p).resolve_left h).1
theorem s_pp_I {s : Nat → Int32} (I : SI s) (L : List Ru) (a : Int32) : SE s (s_pp L a s) ∧ SK s (s_pp L a s) ∧ SI (s_pp L a s) :=
  p_it_inv (I := fun _ x => SE s x ∧ SK s x ∧ SI x) (s_P s) 0 s ⟨SE.rf s, SK.rf s, I⟩ (fun i x _ h2 ⟨a1, a2, a3⟩ => by
    obtain ⟨b1, b2, b3⟩ := s_pstep_I a3 L a i
    exact ⟨a1.tr b1, a2.tr b2, b3⟩)
theorem s_goes_I {s : Nat → Int32} (I : SI s) (L : List Ru) (a : Int32) (hy : s_v s 3 < s_v s 2) : SE s (s_goes L a s) ∧ SI (s_goes L a s) := by
  obtain ⟨e1, k1, j1⟩ := s_do_I I
  obtain ⟨e2, k2, j2⟩ := s_pp_I j1 L a
  have E : SE s (s_pp L a (s_do s)) := e1.tr e2
  have hE := I.E16
  have E2 : SE s (s_goes L a s) := fun i h3 h4 h5 => by
    unfold s_goes
    rw [upd_ne h3, upd_ne h4]
    exact E i h3 h4 h5
  refine ⟨E2, ?_⟩
  have hst : ∀ d, s_goes L a s (30 + 5 * d) = s_pp L a (s_do s) (30 + 5 * d) := fun d => by
    unfold s_goes
    rw [upd_ne (by omega), upd_ne (by omega)]
  have h3 : s_goes L a s 3 = nI (s_v s 3 + 1) := by
    unfold s_goes
    rw [p_us, I.eY, p_next, s_v_of (u := s) (s := s) rfl]
  obtain ⟨h3a, h3b⟩ := s_okn (lo := 0) (hi := 16) h3 (by omega) (by omega) (by omega)
  refine I.mk2 E2 h3a (by rw [h3b]; omega) (fun d hd => ?_) (fun d hd h1 => ?_)
  · refine s_ok_of (hst d) ?_
    have := j2.ss d (by rw [E.D]; exact hd)
    exact this
  · rw [hst] at h1
    have n1 : s_goes L a s (29 + 5 * d) = s_pp L a (s_do s) (29 + 5 * d) := by
      unfold s_goes
      rw [upd_ne (by omega), upd_ne (by omega)]
    have n2 : s_ndI (s_goes L a s) d = s_ndI (s_pp L a (s_do s)) d := s_v_of n1
    rw [n1, n2, hst]
    exact j2.sc d (by rw [E.D]; exact hd) h1
theorem t_goes {n : lu_M} {s : Nat → Int32} (hs : n 1 = s) (I : SI s) {L : List Ru} (hL : LV L) (hr : RS' s L) (a : Int32) (t : Nat → Int32) : ∃ t', f12_goes a (p_rw n 4 t) = some (s_w L a s, p_rw (p_rw n 1 (s_goes L a s)) 4 t') := by
  have hP := I.P6
  obtain ⟨e1, k1, j1⟩ := s_do_I I
  have hn : p_rw n 4 t = p_rw (p_rw n 4 t) 1 s := by
    rw [p_rw_sw (by omega), ← hs, p_rw_id]
  rw [hn, t_do I]
  unfold f12_goes_b83
  obtain ⟨⟨t1, u1⟩, e, hu, -, -, hu4⟩ := p_loopR (fun q i (x : (Nat → Int32) × (Nat → Int32)) => f12_goes_b85 (f12_goes_b133 a) a q (s 3) i (p_rw (p_rw n 4 x.1) 1 x.2)) (fun x => f12_goes_b133 a (s 3) (p_rw (p_rw n 4 x.1) 1 x.2)) (s_P s) (s_pstep L a) (fun _ x u => x.2 = u ∧ SE s u ∧ SK s u ∧ SI u)
    (fun q x u ⟨h1, h2, h3, h4⟩ => by
      show f12_goes_b85B _ _ _ _ _ _ = _
      unfold f12_goes_b85B
      rw [p_rw_s, h1, h2.lo (by omega) (by omega) (by omega), I.eP, if_pos (Int32.le_refl _)])
    (fun q i x u hi ⟨h1, h2, h3, h4⟩ => by
      obtain ⟨t0, u0⟩ := x
      have h1' : u0 = u := h1
      subst h1'
      have hiu : i < s_P u0 := by rw [h2.P]; exact hi
      have hr' := hr.se h2 hL.1 hL.2.1
      obtain ⟨c1, c2, c3⟩ := s_pstep_I h4 L a i
      show ∃ x' : (Nat → Int32) × (Nat → Int32), f12_goes_b85B _ _ _ _ _ (p_rw (p_rw n 4 t0) 1 u0) = f12_goes_b85 _ _ _ _ _ (p_rw (p_rw n 4 x'.1) 1 x'.2) ∧ _
      unfold f12_goes_b85B f12_goes_b112 f12_goes_b127
      rw [p_rw_s, h2.lo (by omega) (by omega) (by omega), I.eP, q_le (by omega) (by omega), if_neg (by omega), if_pos rfl]
      by_cases g1 : nI i + 1 = a
      · have hs' : s_pstep L a i u0 = u0 := if_pos g1
        rw [if_pos g1, p_next, hs']
        exact ⟨(t0, u0), rfl, rfl, h2, h3, h4⟩
      · obtain ⟨t2, et⟩ := t_choice (n := p_rw n 1 u0) (by rw [p_rw_s]; exact h4) (p := i) (by rw [p_rw_s]; exact hiu) hL.1 (by rw [p_rw_s]; exact hr'.1) (by rw [p_rw_s]; exact hr'.2) hL.2.1 hL.2.2 t0
        have et' : f12_choice (nI i) (p_rw (p_rw n 4 t0) 1 u0) = some (nI (s_choice L u0 i), p_rw (p_rw n 4 t2) 1 u0) := by
          rw [p_rw_sw (by omega), et, p_rw_s, p_rw_sw (by omega)]
        rw [if_neg g1, et', p_bi]
        have hci := s_choice_I L u0 i
        have hDu := h4.D10
        by_cases g2 : s_choice L u0 i = 10
        · have hs' : s_pstep L a i u0 = u0 := by unfold s_pstep; rw [if_neg g1, if_pos g2]
          rw [g2, if_pos (show nI 10 = (10 : Int32) from rfl), p_next, hs']
          exact ⟨(t2, u0), rfl, rfl, h2, h3, h4⟩
        · have hc := (hci.resolve_left g2).1
          have hs' : s_pstep L a i u0 = s_undo u0 (s_choice L u0 i) := by unfold s_pstep; rw [if_neg g1, if_neg g2]
          rw [if_neg (show ¬ nI (s_choice L u0 i) = (10 : Int32) from fun q => g2 ((nI_eq (b := 10) (by omega) (by omega)).mp q)), t_undo h4 (SE.rf u0) hc, p_bv, p_next]
          rw [hs'] at c1 c2 c3 ⊢
          exact ⟨(t2, s_undo u0 (s_choice L u0 i)), rfl, rfl, h2.tr c1, h3.tr c2, c3⟩) (s_P s) 0 lu_fu (t, s_do s) (s_do s) (by omega) (p_fu (by omega)) ⟨rfl, e1, k1, j1⟩
  refine ⟨t1, e.trans ?_⟩
  have hu' : u1 = p_it (s_pstep L a) 0 (s_P s) (s_do s) := hu
  have hpp : s_pp L a (s_do s) = p_it (s_pstep L a) 0 (s_P s) (s_do s) := by unfold s_pp; rw [e1.P]
  rw [← hpp] at hu'
  subst hu'
  rw [← hpp] at hu4
  rw [t_worth (s := s) hu4 (p_rw_s ..)]
  unfold f12_goes_b190
  have h3 : s_pp L a (s_do s) 3 = s 3 := ((k1.tr (s_pp_I j1 L a).2.1)).1
  rw [p_nm, p_nm, p_rw_s, p_stw, p_rw_s, p_stw, upd_ne (by omega), h3, p_rw_sw (by omega)]
  rfl
/-! the class -/
theorem k_pass {m : lu_M} {w c : Nat} {s : Nat → Int32} (I : SI s) (B : RB m w s) (hc : LN w c) {L : List Ru} (R : RW m w L) (a : Int32) {x : Nat → Int32} (f : Nat → Int32) (C : CR (s_D s) x s) : ∃ f' x', f10_pass w c a (p_rw (p_rw m (w + 35) f) c x) = some (s_w L a s, p_rw (p_rw m (w + 35) f') c x') ∧ CR (s_D s) x' (s_goes L a s) ∧ x' 5 = x 5 + s_w L a s := by
  have hP := I.P6
  have hD := I.D10
  have hc5 := hc.fc.1
  obtain ⟨e1, k1, j1⟩ := s_do_I I
  have hB : ∀ f, RB (p_rw m (w + 35) f) w s := fun f => B.tr ((FR.rf w m).fa f)
  have hR : ∀ f x, RW (p_rw (p_rw m (w + 35) f) c x) w L := fun f x => R.tr (((FR.rf w m).fa f).ln hc x)
  have hB2 : ∀ f x, RB (p_rw (p_rw m (w + 35) f) c x) w s := fun f x => B.tr (((FR.rf w m).fa f).ln hc x)
  obtain ⟨x1, ed, C1, h51⟩ := k_do I (hB f) hc C
  unfold f10_pass
  rw [ed, p_bv]
  obtain ⟨⟨f2, x2⟩, e, hu1, hu2, hu3, hu4, hu5⟩ := p_loopR (fun q i (z : (Nat → Int32) × (Nat → Int32)) => f10_pass_b7 (f10_pass_b53 w c a) w c a q i (p_rw (p_rw m (w + 35) z.1) c z.2)) (fun z => f10_pass_b53 w c a (p_rw (p_rw m (w + 35) z.1) c z.2)) (s_P s) (s_pstep L a) (fun _ z u => SE s u ∧ SK s u ∧ SI u ∧ CR (s_D s) z.2 u ∧ z.2 5 = x 5)
    (fun q z u h => by
      show f10_pass_b7B _ _ _ _ _ _ _ = _
      unfold f10_pass_b7B
      rw [(hB2 z.1 z.2).cnt, I.eP, if_pos (Int32.le_refl _)])
    (fun q i z u hi ⟨h1, h2, h3, h4, h5⟩ => by
      obtain ⟨f0, x0⟩ := z
      have hiu : i < s_P u := by rw [h1.P]; exact hi
      obtain ⟨c1, c2, c3⟩ := s_pstep_I h3 L a i
      have h5' : x0 5 = x 5 := h5
      have h4' : CR (s_D s) x0 u := h4
      show ∃ z' : (Nat → Int32) × (Nat → Int32), f10_pass_b7B _ _ _ _ _ _ (p_rw (p_rw m (w + 35) f0) c x0) = f10_pass_b7 _ _ _ _ _ _ (p_rw (p_rw m (w + 35) z'.1) c z'.2) ∧ _
      unfold f10_pass_b7B f10_pass_b47
      rw [(hB2 f0 x0).cnt, I.eP, q_le (by omega) (by omega), if_neg (by omega)]
      by_cases g1 : nI i + 1 = a
      · have hs' : s_pstep L a i u = u := if_pos g1
        have hg : nI i = a - 1 := by rw [← g1, Int32.add_sub_cancel]
        rw [if_pos hg, p_next, hs']
        exact ⟨(f0, x0), rfl, h1, h2, h3, h4, h5⟩
      · have hg : ¬ nI i = a - 1 := fun q => g1 (by rw [q, Int32.sub_add_cancel])
        obtain ⟨f3, ec⟩ := k_choice I h1 h3 (hB2 f0 x0) hc (by rw [p_rw_s]; exact h4') (hR f0 x0) hi
        rw [if_neg hg, ec, p_bi, p_rw_sw hc5, p_rw_rw]
        have hci := s_choice_I L u i
        have hDu := h3.D10
        by_cases g2 : s_choice L u i = 10
        · have hs' : s_pstep L a i u = u := by unfold s_pstep; rw [if_neg g1, if_pos g2]
          rw [g2, if_pos (show nI 10 = (10 : Int32) from rfl), p_next, hs']
          exact ⟨(f3, x0), rfl, h1, h2, h3, h4, h5⟩
        · have hcc := hci.resolve_left g2
          have hs' : s_pstep L a i u = s_undo u (s_choice L u i) := by unfold s_pstep; rw [if_neg g1, if_neg g2]
          have B3 : RB (p_rw m (w + 35) f3) w u := (hB f3).se I h1
          obtain ⟨x4, eu, C4, h54⟩ := k_undo h3 B3 hc (x := x0) (by rw [h1.D]; exact h4') hcc.1 hcc.2
          rw [if_neg (show ¬ nI (s_choice L u i) = (10 : Int32) from fun q => g2 ((nI_eq (b := 10) (by omega) (by omega)).mp q)), eu, p_bv, p_next]
          rw [h1.D] at C4
          rw [hs'] at c1 c2 c3 ⊢
          exact ⟨(f3, x4), rfl, h1.tr c1, h2.tr c2, c3, C4, h54.trans h5'⟩) (s_P s) 0 lu_fu (f, x1) (s_do s) (by omega) (p_fu (by omega)) ⟨e1, k1, j1, C1, h51⟩
  have hpp : s_pp L a (s_do s) = p_it (s_pstep L a) 0 (s_P s) (s_do s) := by unfold s_pp; rw [e1.P]
  rw [← hpp] at hu1 hu2 hu3 hu4
  have hu4' : CR (s_D s) x2 (s_pp L a (s_do s)) := hu4
  have hu5' : x2 5 = x 5 := hu5
  refine ⟨f2, upd (upd x2 0 (x2 0 + 1)) 5 (x2 5 + s_w L a s), e.trans ?_, ?_, ?_⟩
  · show f10_pass_b53 w c a (p_rw (p_rw m (w + 35) f2) c x2) = _
    rw [k_worth I hu1 (hB2 f2 x2) (by rw [p_rw_s]; exact hu4')]
    unfold f10_pass_b106
    rw [p_nm, p_nm, p_rw_s, p_stc, p_rw_s, p_stc, upd_ne (by omega), hu2.1]
    rfl
  · refine ⟨?_, fun i hi => ?_⟩
    · unfold s_goes
      rw [upd_ne (by omega), p_us, p_us, hu4'.1, hu2.1]
    · have hst : s_goes L a s (30 + 5 * i) = s_pp L a (s_do s) (30 + 5 * i) := by
        unfold s_goes
        rw [upd_ne (by omega), upd_ne (by omega)]
      rw [hst]
      rw [upd_ne (by omega), upd_ne (by omega), upd_ne (by omega), upd_ne (by omega), upd_ne (by omega), upd_ne (by omega), upd_ne (by omega), upd_ne (by omega)]
      exact hu4'.2 i hi
  · rw [p_us, hu5']

/-! THE PURE PART: what one undoes, in both -/
def s_may (u : Nat → Int32) (p : Nat) (lim : Int) (i : Nat) : Bool := decide (u (26 + 5 * i) = nI p) && (decide (u (30 + 5 * i) = 1) && (decide (s_v u (28 + 5 * i) ≤ s_pull (s_v u (8 + 3 * p)) (s_v u (10 + 3 * p)) (s_v u 3)) && decide ((s_due u i : Int) ≤ lim)))
def s_pick1 (u : Nat → Int32) (p : Nat) (lim : Int) (i : Nat) (b : Nat) : Nat := if s_may u p lim i && (decide (b = 10) || decide (s_due u i < s_due u b)) then i else b
def s_pick (u : Nat → Int32) (p : Nat) (lim : Int) : Nat := p_it (s_pick1 u p lim) 0 (s_D u) 10
def s_choice (L : List Ru) (u : Nat → Int32) (p : Nat) : Nat := s_pick u p (r_lim (s_v u 3) (r_find (s_v u (8 + 3 * p)) (fv u p) L))
theorem s_pick_I (u : Nat → Int32) (p : Nat) (lim : Int) : s_pick u p lim = 10 ∨ (s_pick u p lim < s_D u ∧ u (30 + 5 * s_pick u p lim) = 1) := by
  have h := p_it_inv (f := s_pick1 u p lim) (I := fun i b => b = 10 ∨ (b < i ∧ u (30 + 5 * b) = 1)) (s_D u) 0 10 (Or.inl rfl) (fun i b h1 h2 h3 => by
    unfold s_pick1
    split
    · rename_i hm
      refine Or.inr ⟨Nat.lt_succ_self _, ?_⟩
      rw [Bool.and_eq_true] at hm
      have := hm.1
      unfold s_may at this
      rw [Bool.and_eq_true, Bool.and_eq_true] at this
      exact of_decide_eq_true this.2.1
    · exact h3.elim Or.inl (fun q => Or.inr ⟨by omega, q.2⟩))
  rw [Nat.zero_add] at h
  exact h
theorem s_pick_no {u : Nat → Int32} {p : Nat} {lim : Int} (h : ∀ i, i < s_D u → s_may u p lim i = false) : s_pick u p lim = 10 :=
  p_it_inv (f := s_pick1 u p lim) (I := fun _ b => b = 10) (s_D u) 0 10 rfl (fun i b _ h2 h3 => by
    unfold s_pick1
    rw [h i (by omega), Bool.false_and, if_neg (by decide)]
    exact h3)
theorem s_wt_of {u : Nat → Int32} (I : SI u) {i : Nat} (h : i < s_D u) : u (28 + 5 * i) = nI (s_v u (28 + 5 * i)) ∧ s_v u (28 + 5 * i) ≤ 9 := ⟨(I.wt h).1, (I.wt h).2.2⟩
theorem s_pull_le {k t y : Nat} (h : t ≤ 9) : s_pull k t y ≤ 10 := by
  unfold s_pull
  repeat' split
  all_goals omega
theorem p_ltI {a : Nat} (ha : a < 2 ^ 31) {x : Int32} {v : Int} (hx : x.toInt = v) : (x < nI a) = ¬ ((a : Int) ≤ v) := by
  rw [Int32.lt_iff_toInt_lt, hx, nI_toInt ha]
  exact propext (by omega)
theorem p_leI {a : Nat} (ha : a < 2 ^ 31) {x : Int32} {v : Int} (hx : x.toInt = v) : (nI a ≤ x) = ((a : Int) ≤ v) := by
  rw [Int32.le_iff_toInt_le, hx, nI_toInt ha]
theorem q_ltI {α : Type} {a : Nat} (ha : a < 2 ^ 31) {x : Int32} {v : Int} (hx : x.toInt = v) (A B : α) : (if x < nI a then A else B) = if (a : Int) ≤ v then B else A := by
  by_cases h : (a : Int) ≤ v
  · rw [if_pos h, if_neg (by rw [p_ltI ha hx]; exact fun q => q h)]
  · rw [if_neg h, if_pos (by rw [p_ltI ha hx]; exact h)]
theorem q_leI {α : Type} {a : Nat} (ha : a < 2 ^ 31) {x : Int32} {v : Int} (hx : x.toInt = v) (A B : α) : (if nI a ≤ x then A else B) = if (a : Int) ≤ v then A else B := by
  by_cases h : (a : Int) ≤ v
  · rw [if_pos h, if_pos (by rw [p_leI ha hx]; exact h)]
  · rw [if_neg h, if_neg (by rw [p_leI ha hx]; exact h)]
theorem t_choice {n : lu_M} (I : SI (n 1)) {p : Nat} (hp : p < s_P (n 1)) {L : List Ru} (hL : L.length ≤ 8) (hc : n 1 1 = nI L.length) (hr : RLs (n 1) 0 0 L) (hM : r_M L ≤ 200) (ho : ∀ x ∈ L, r_ok x) (t : Nat → Int32) : ∃ t', f12_choice (nI p) (p_rw n 4 t) = some (nI (s_choice L (n 1) p), p_rw n 4 t') := by
  have hP := I.P6
  have hD := I.D10
  have hE := I.E16
  have hYE := I.YE
  have hr1 : ∀ t, (p_rw n 4 t) 1 = n 1 := fun t => p_rw_n (by omega)
  obtain ⟨⟨k1, -, k2⟩, -, ⟨g1, -, g2⟩⟩ := I.per hp
  obtain ⟨V, t', e, hV⟩ := lm_run I (p := p) (by omega) k2 hc hL (f12_choice_b99 (nI p)) L 0 0 lu_fu t hr (Nat.zero_add _) (p_fu (by omega)) (by omega) ho
  refine ⟨t', ?_⟩
  have I' : SI ((p_rw n 4 t') 1) := by rw [hr1]; exact I
  have hpl := t_pulls I' (p := p) (by rw [hr1]; exact hp)
  rw [hr1] at hpl
  have hpm := s_pull_le (k := s_v (n 1) (8 + 3 * p)) (y := s_v (n 1) 3) g2
  unfold f12_choice
  rw [t_iSt _ (by omega), p_bi, hr1, k1]
  refine e.trans ?_
  have hlo : ∀ (does by' : Int32) (lim : Int), ¬ does = 2 → (nI (s_v (n 1) 3) + by').toInt = lim → f12_choice_b153 (nI p) does by' (p_rw n 4 t') = some (nI (s_pick (n 1) p lim), p_rw n 4 t') := by
    intro does by' lim h2 hlim
    have hl := (p_loop (fun q i (b : Nat) => f12_choice_b169 (f12_choice_b287 (nI p)) (nI p) q does by' (nI (s_pull (s_v (n 1) (8 + 3 * p)) (s_v (n 1) (10 + 3 * p)) (s_v (n 1) 3))) (nI b) i (p_rw n 4 t')) (fun b => some (nI b, p_rw n 4 t')) (s_D (n 1)) (s_pick1 (n 1) p lim) (fun i b => b = 10 ∨ b < i)
      (fun q b _ => by
        show f12_choice_b169B _ _ _ _ _ _ _ _ _ = _
        unfold f12_choice_b169B f12_choice_b287
        rw [hr1, I.eD, if_pos (Int32.le_refl _)])
      (fun q i b hi hb => by
        obtain ⟨w1, w2⟩ := s_wt_of I hi
        have hdi := s_due_le I hi
        show f12_choice_b169B _ _ _ _ _ _ _ _ _ = _
        have hno : ∀ x : Nat, f12_choice_b279 (f12_choice_b169 (f12_choice_b287 (nI p)) (nI p) q) (f12_choice_b287 (nI p)) (nI p) does by' (nI (s_pull (s_v (n 1) (8 + 3 * p)) (s_v (n 1) (10 + 3 * p)) (s_v (n 1) 3))) (nI i) (nI x) (p_rw n 4 t') = f12_choice_b169 (f12_choice_b287 (nI p)) (nI p) q does by' (nI (s_pull (s_v (n 1) (8 + 3 * p)) (s_v (n 1) (10 + 3 * p)) (s_v (n 1) 3))) (nI x) (nI (i + 1)) (p_rw n 4 t') := fun x => by
          unfold f12_choice_b279
          rw [p_next]
        have h242 : f12_choice_b242 (f12_choice_b169 (f12_choice_b287 (nI p)) (nI p) q) (f12_choice_b287 (nI p)) (nI p) does by' (nI (s_pull (s_v (n 1) (8 + 3 * p)) (s_v (n 1) (10 + 3 * p)) (s_v (n 1) 3))) (nI b) (nI i) (p_rw n 4 t') = f12_choice_b169 (f12_choice_b287 (nI p)) (nI p) q does by' (nI (s_pull (s_v (n 1) (8 + 3 * p)) (s_v (n 1) (10 + 3 * p)) (s_v (n 1) 3))) (nI b) (nI (i + 1)) (p_rw n 4 t') := by
          unfold f12_choice_b242 f12_choice_b243 f12_choice_b277
          rw [if_pos rfl, hno]
        have h243 : f12_choice_b243 (f12_choice_b169 (f12_choice_b287 (nI p)) (nI p) q) (f12_choice_b287 (nI p)) (nI p) does by' (nI (s_pull (s_v (n 1) (8 + 3 * p)) (s_v (n 1) (10 + 3 * p)) (s_v (n 1) 3))) (nI b) (nI i) (1 : Int32) (p_rw n 4 t') = f12_choice_b169 (f12_choice_b287 (nI p)) (nI p) q does by' (nI (s_pull (s_v (n 1) (8 + 3 * p)) (s_v (n 1) (10 + 3 * p)) (s_v (n 1) 3))) (nI (if decide (b = 10) || decide (s_due (n 1) i < s_due (n 1) b) then i else b)) (nI (i + 1)) (p_rw n 4 t') := by
          unfold f12_choice_b243 f12_choice_b277 f12_choice_b272
          rw [if_neg (by decide), t_due I' (d := i) (by rw [hr1]; exact hi), p_bi, hr1]
          by_cases c5 : b = 10
          · subst c5
            rw [if_pos (show nI 10 = (10 : Int32) from rfl), decide_eq_true rfl, Bool.true_or, if_pos rfl, hno]
          · have hbi : b < i := hb.resolve_left c5
            have hdb := s_due_le I (d := b) (by omega)
            rw [if_neg (show ¬ nI b = (10 : Int32) from fun q => c5 ((nI_eq (b := 10) (by omega) (by omega)).mp q)), t_due I' (d := b) (by rw [hr1]; omega), p_bi, hr1, q_le (by omega) (by omega), decide_eq_false c5, Bool.false_or, hno, hno]
            by_cases c6 : s_due (n 1) i < s_due (n 1) b
            · rw [if_neg (by omega), decide_eq_true c6, if_pos rfl]
            · rw [if_pos (by omega), decide_eq_false c6, if_neg (by decide)]
        unfold f12_choice_b169B
        rw [hr1, I.eD, q_le (by omega) (by omega), if_neg (by omega), if_neg h2, t_dOf _ (by omega), p_bi, t_dSo _ (by omega), p_bi, t_dWt _ (by omega), p_bi, hr1, w1, q_lt (by omega) (by omega), t_due I' (d := i) (by rw [hr1]; exact hi), p_bi, hr1, I.eY, q_ltI (by omega) hlim, h242, h243]
        unfold s_pick1 s_may
        by_cases c1 : n 1 (26 + 5 * i) = nI p
        · rw [if_pos c1, decide_eq_true c1, Bool.true_and]
          by_cases c2 : n 1 (30 + 5 * i) = 1
          · rw [if_pos c2, decide_eq_true c2, Bool.true_and]
            by_cases c3 : s_v (n 1) (28 + 5 * i) ≤ s_pull (s_v (n 1) (8 + 3 * p)) (s_v (n 1) (10 + 3 * p)) (s_v (n 1) 3)
            · rw [if_neg (by omega), decide_eq_true c3, Bool.true_and]
              by_cases c4 : (s_due (n 1) i : Int) ≤ lim
              · rw [if_pos c4, decide_eq_true c4, Bool.true_and]
              · rw [if_neg c4, decide_eq_false c4, Bool.false_and, if_neg (by decide)]
            · rw [if_pos (by omega), decide_eq_false c3, Bool.false_and, Bool.false_and, if_neg (by decide)]
          · rw [if_neg c2, decide_eq_false c2, Bool.false_and, Bool.false_and, if_neg (by decide)]
        · rw [if_neg c1, decide_eq_false c1, Bool.false_and, Bool.false_and, if_neg (by decide)])
      (fun i b hi hb => by
        unfold s_pick1
        split
        · exact Or.inr (Nat.lt_succ_self _)
        · exact hb.elim Or.inl (fun q => Or.inr (by omega))) (s_D (n 1)) 0 lu_fu 10 (by omega) (p_fu (by omega)) (Or.inl rfl)).1
    unfold f12_choice_b153
    rw [hpl, p_bi]
    exact hl
  have hspare : ∀ by' : Int32, f12_choice_b153 (nI p) 2 by' (p_rw n 4 t') = some (nI 10, p_rw n 4 t') := by
    intro by'
    unfold f12_choice_b153
    rw [hpl, p_bi]
    show f12_choice_b169B _ _ _ _ _ _ _ _ _ = _
    unfold f12_choice_b169B f12_choice_b287
    rw [if_pos rfl]
    split <;> rfl
  unfold s_choice f12_choice_b99
  cases hf : r_find (s_v (n 1) (8 + 3 * p)) (fv (n 1) p) L with
  | none =>
    rw [hf] at hV
    have hV' : V = -1 := hV
    rw [hV', if_neg (by decide)]
    unfold f12_choice_b115
    rw [if_neg (by decide), if_neg (by decide)]
    refine hlo (-1) 0 _ (by decide) ?_
    rw [Int32.add_zero, nI_toInt (by omega)]
    rfl
  | some o =>
    obtain ⟨d, g⟩ := o
    rw [hf] at hV
    obtain ⟨j, hj, hV1, hd, hg, hd2, hg2⟩ := hV
    rw [hV1, if_pos (nI_pos' (by omega)), show (1 : Int32) = nI 1 from rfl, nI_add, p_gd (by omega) (by omega), nI_clamp (by omega), hr1, show 136 + 4 * j + 1 = 137 + 4 * j by omega, hd]
    unfold f12_choice_b115
    rw [show (2 : Int32) = nI 2 from rfl, nI_add, p_gd (by omega) (by omega), nI_clamp (by omega), hr1, show 136 + 4 * j + 2 = 138 + 4 * j by omega, hg]
    have hd' : d = 0 ∨ d = 1 ∨ d = 2 := by omega
    unfold r_lim
    rcases hd' with e | e | e <;> subst e
    · rw [if_pos (show nI 0 = (0 : Int32) from rfl)]
      refine hlo (nI 0) (nI g) _ (by decide) ?_
      rw [nI_add, nI_toInt (by omega)]
      rfl
    · rw [if_neg (by decide), if_pos (show nI 1 = (1 : Int32) from rfl), p_gd (by omega) (by omega)]
      refine hlo (nI 1) ((0 : Int32) - nI g) _ (by decide) ?_
      have : nI (s_v (n 1) 3) + ((0 : Int32) - nI g) = nI (s_v (n 1) 3) - nI g := by
        rw [Int32.zero_sub, ← Int32.sub_eq_add_neg]
      rw [this, pk_sub_toInt (by omega) (by omega)]
      rfl
    · rw [if_neg (by decide), if_neg (by decide)]
      refine (hspare 0).trans ?_
      rw [s_pick_no]
      intro i _
      unfold s_may
      rw [decide_eq_false (p := (s_due (n 1) i : Int) ≤ _) (by show ¬ ((s_due (n 1) i : Int) ≤ -1); omega), Bool.and_false, Bool.and_false, Bool.and_false]

/-! THE PURE PART: the class's choice -/
theorem k_pull (r : Nat) (m : lu_M) {k t y : Nat} (hk : k ≤ 5) (ht : t ≤ 9) (hy : y ≤ 1000) (e0 : m r 0 = nI k) (e3 : m r 3 = nI t) : g3_pull r (nI y) m = some (nI (s_pull k t y), m) := by
  have h3 : f3_pull r (nI y) m = some (nI t, m) := by unfold f3_pull; rw [e3]
  have h7 : f7_pull r (nI y) m = some (nI (t / 2), m) := by
    unfold f7_pull
    rw [h3, p_bi, show (2 : Int32) = nI 2 from rfl, pk_div (by omega) (by omega) (by omega)]
  have hk' : k = 0 ∨ k = 1 ∨ k = 2 ∨ k = 3 ∨ k = 4 ∨ k = 5 := by omega
  unfold g3_pull
  rw [e0]
  rcases hk' with e | e | e | e | e | e <;> subst e
  · rw [if_neg (by decide), if_neg (by decide), if_neg (by decide), if_neg (by decide), if_neg (by decide)]
    exact h3
  · rw [if_pos (by decide)]
    unfold f0_pull f0_pull_b16
    rw [h3, p_bi, show (3 : Int32) = nI 3 from rfl, show (2 : Int32) = nI 2 from rfl, pk_rem (by omega) (by omega) (by omega), q_eq (by omega) (by omega)]
    show _ = some (nI (if y % 3 = 2 then 0 else t), m)
    split <;> rfl
  · rw [if_neg (by decide), if_pos (by decide)]
    exact h3
  · rw [if_neg (by decide), if_neg (by decide), if_pos (by decide)]
    unfold f9_pull
    rw [h3, p_bi, p_next]
    rfl
  · rw [if_neg (by decide), if_neg (by decide), if_neg (by decide), if_pos (by decide)]
    exact h7
  · rw [if_neg (by decide), if_neg (by decide), if_neg (by decide), if_neg (by decide), if_pos (by decide)]
    unfold f4_pull f4_pull_b16
    rw [h7, p_bi, show (9 : Int32) = nI 9 from rfl, q_lt (by omega) (by omega)]
    show _ = some (nI (if 9 ≤ y then 9 else t / 2), m)
    by_cases h : y < 9
    · rw [if_pos h, if_neg (by omega)]
    · rw [if_neg h, if_pos (by omega)]
theorem LN.fc {w c : Nat} (h : LN w c) : c ≠ w + 35 ∧ c ≠ w ∧ (∀ i, i < 28 → c ≠ w + i) ∧ (∀ i, 29 ≤ i → i < 36 → c ≠ w + i) := by
  rcases h with h | h | h
  · exact ⟨by omega, by omega, fun i _ => by omega, fun i _ _ => by omega⟩
  · exact ⟨by omega, by omega, fun i _ => by omega, fun i _ _ => by omega⟩
  · exact ⟨by omega, by omega, fun i _ => by omega, fun i _ _ => by omega⟩
/-- the rules of a World -/
def RW (m : lu_M) (w : Nat) (L : List Ru) : Prop := L.length ≤ 8 ∧ m (w + 29) 0 = nI L.length ∧ RLc m (w + 29) 0 0 L ∧ r_M L ≤ 200 ∧ (∀ x ∈ L, r_ok x) ∧ m (w + 29) 6 = nI (r_C L)
def RS' (s : Nat → Int32) (L : List Ru) : Prop := s 1 = nI L.length ∧ RLs s 0 0 L
theorem RLc.fr {m m' : lu_M} {r : Nat} (h : ∀ i, 1 ≤ i → i < 6 → m' (r + i) = m (r + i)) : ∀ (L : List Ru) (k e : Nat), RLc m r k e L → RLc m' r k e L
  | [], _, _, _ => trivial
  | x :: L, k, e, ⟨a1, a2, a3, a4, a5, a6⟩ => by
    refine ⟨?_, ?_, ?_, ?_, ?_, RLc.fr h L _ _ a6⟩
    · rw [h 1 (by omega) (by omega)]; exact a1
    · rw [h 2 (by omega) (by omega)]; exact a2
    · rw [h 3 (by omega) (by omega)]; exact a3
    · rw [h 4 (by omega) (by omega)]; exact a4
    · rw [h 5 (by omega) (by omega)]; exact a5
theorem RW.tr {m m' : lu_M} {w : Nat} {L : List Ru} (R : RW m w L) (F : FR w m m') : RW m' w L :=
  ⟨R.1, by rw [F (w + 29) (by omega) (by omega) (by omega) (by omega)]; exact R.2.1, RLc.fr (fun i h1 h2 => F (w + 29 + i) (by omega) (by omega) (by omega) (by omega)) L 0 0 R.2.2.1, R.2.2.2.1, R.2.2.2.2.1, by rw [F (w + 29) (by omega) (by omega) (by omega) (by omega)]; exact R.2.2.2.2.2⟩
theorem RLs.fr {s u : Nat → Int32} (h : ∀ i, 136 ≤ i → i < 368 → u i = s i) : ∀ (L : List Ru) (k e : Nat), k + L.length ≤ 8 → e + r_M L ≤ 200 → RLs s k e L → RLs u k e L
  | [], _, _, _, _, _ => trivial
  | x :: L, k, e, h1, h2, ⟨a1, a2, a3, a4, a5, a6⟩ => by
    have hl : (x :: L).length = L.length + 1 := rfl
    have hM : r_M (x :: L) = (e_Ms x.2.2.2).length + r_M L := rfl
    refine ⟨?_, ?_, ?_, ?_, seg_eq _ _ (fun i h3 h4 => h i (by omega) (by omega)) a5, RLs.fr h L _ _ (by omega) (by omega) a6⟩
    · rw [h _ (by omega) (by omega)]; exact a1
    · rw [h _ (by omega) (by omega)]; exact a2
    · rw [h _ (by omega) (by omega)]; exact a3
    · rw [h _ (by omega) (by omega)]; exact a4
theorem RS'.se {s u : Nat → Int32} {L : List Ru} (h : RS' s L) (E : SE s u) (h8 : L.length ≤ 8) (hM : r_M L ≤ 200) : RS' u L :=
  ⟨by rw [E.lo (by omega) (by omega) (by omega)]; exact h.1, RLs.fr (fun i h1 _ => E.hi (by omega)) L 0 0 (by omega) (by omega) h.2⟩
theorem k_latest {m : lu_M} {w c : Nat} {s u : Nat → Int32} (I : SI s) (E : SE s u) (J : SI u) (B : RB m w s) (hc : LN w c) (C : CR (s_D s) (m c) u) {L : List Ru} (R : RW m w L) {p : Nat} (hp : p < s_P s) : ∃ (v : Int32) (x : Nat → Int32), f10_latestDue w (nI p) c m = some (v, p_rw m (w + 35) x) ∧ v.toInt = r_lim (s_v u 3) (r_find (s_v u (8 + 3 * p)) (fv u p) L) := by
  have hP := I.P6
  have hc5 := hc.fc.1
  have hYE := J.YE
  have hE16 := J.E16
  obtain ⟨p0, p2, p3⟩ := B.per (p := p) (by omega) hp
  have e8 : u (8 + 3 * p) = s (8 + 3 * p) := E.lo (by omega) (by omega) (by omega)
  have e9 : u (9 + 3 * p) = s (9 + 3 * p) := E.lo (by omega) (by omega) (by omega)
  have e10 : u (10 + 3 * p) = s (10 + 3 * p) := E.lo (by omega) (by omega) (by omega)
  obtain ⟨⟨k1, -, k2⟩, -, -⟩ := J.per (p := p) (by rw [E.P]; exact hp)
  unfold f10_latestDue
  by_cases h0 : L.length = 0
  · have hL : L = [] := List.eq_nil_of_length_eq_zero h0
    refine ⟨m c 0, m (w + 35), ?_, ?_⟩
    · rw [R.2.1, h0, if_pos (show nI 0 = (0 : Int32) from rfl), p_rw_id]
    · rw [hL, C.1, J.eY, nI_toInt (by omega)]; rfl
  · have hgo : ∀ x : Nat → Int32, (∀ i, i < 5 → x i = fv u p i) → ∃ (v : Int32), f10_latestDue_b76 (f10_latestDue_b129 w (nI p) c) (f10_latestDue_b202 w (nI p) c) w (nI p) c lu_fu 0 (p_rw m (w + 35) x) = some (v, p_rw m (w + 35) x) ∧ v.toInt = r_lim (s_v u 3) (r_find (s_v u (8 + 3 * p)) (fv u p) L) := by
      intro x hx
      have R' := R.tr ((FR.rf w m).fa x)
      have B' := B.tr ((FR.rf w m).fa x)
      obtain ⟨v, e, hv⟩ := lc_run (m := p_rw m (w + 35) x) (w := w) (c := c) (p := p) (kd := s_v u (8 + 3 * p)) (cnt := L.length) (Y := s_v u 3) (by omega) (by rw [(B'.per (by omega) hp).1, ← e8]; exact k1) k2 R'.2.1 R'.1 (by rw [p_rw_n hc5, C.1]; exact J.eY) (by omega) L 0 0 lu_fu R'.2.2.1 (Nat.zero_add _) (fun _ => rfl) (fun q => absurd rfl q) (p_fu (by have := R.1; omega)) (by have := r_CM L; have := R.2.2.2.1; omega) R.2.2.2.2.1
      refine ⟨v, e, ?_⟩
      rw [hv, p_rw_s, r_find_eq hx _ L R.2.2.2.2.1]
    obtain ⟨v, e, hv⟩ := hgo (upd (upd (upd (upd (upd (m (w + 35)) 0 (u 3)) 1 (s_sw u (nI p))) 2 (u (9 + 3 * p))) 3 (u (10 + 3 * p))) 4 (nI p)) (fun i hi => by
      unfold fv
      have : i = 0 ∨ i = 1 ∨ i = 2 ∨ i = 3 ∨ i = 4 := by omega
      rcases this with e | e | e | e | e <;> subst e <;> rfl)
    refine ⟨v, upd (upd (upd (upd (upd (m (w + 35)) 0 (u 3)) 1 (s_sw u (nI p))) 2 (u (9 + 3 * p))) 3 (u (10 + 3 * p))) 4 (nI p), ?_, hv⟩
    have hB : ∀ x, RB (p_rw m (w + 35) x) w s := fun x => B.tr ((FR.rf w m).fa x)
    have hCx : ∀ x, CR (s_D s) ((p_rw m (w + 35) x) c) u := fun x => by rw [p_rw_n hc5]; exact C
    have hper : ∀ x, (p_rw m (w + 35) x) (w + 1 + 1 + p) = m (w + 1 + 1 + p) := fun x => p_rw_n (by omega)
    rw [R.2.1, if_neg (p_ne0 (by omega) (by have := R.1; omega)), p_nm, p_st, k_borne I E (hB _) (hCx _) (by omega), p_bi, p_nm, p_stc, p_gd (by omega) (by omega), p_nm, nI_clamp (by omega), hper, p_stc, p_gd (by omega) (by omega), p_nm, hper, p_stc, p_nm, p_stc, C.1, p2, p3, ← e9, ← e10]
    exact e
theorem b_ex {x : Int32} (h : x ≠ 0) : ∃ i, i < 32 ∧ bt x i = true := by
  by_cases h1 : ∃ i, i < 32 ∧ bt x i = true
  · exact h1
  · exfalso
    apply h
    apply b_ext
    intro i hi
    rw [b_0]
    cases hb : bt x i
    · rfl
    · exact absurd ⟨i, hi, hb⟩ h1
theorem k_choice {m : lu_M} {w c : Nat} {s u : Nat → Int32} (I : SI s) (E : SE s u) (J : SI u) (B : RB m w s) (hc : LN w c) (C : CR (s_D s) (m c) u) {L : List Ru} (R : RW m w L) {p : Nat} (hp : p < s_P s) : ∃ (x : Nat → Int32), f10_choice w (nI p) c m = some (nI (s_choice L u p), p_rw m (w + 35) x) := by
  have hP := I.P6
  have hD := I.D10
  have hYE := J.YE
  have hE16 := J.E16
  have hc5 := hc.fc.1
  obtain ⟨p0, p2, p3⟩ := B.per (p := p) (by omega) hp
  have e8 : u (8 + 3 * p) = s (8 + 3 * p) := E.lo (by omega) (by omega) (by omega)
  have e9 : u (9 + 3 * p) = s (9 + 3 * p) := E.lo (by omega) (by omega) (by omega)
  have e10 : u (10 + 3 * p) = s (10 + 3 * p) := E.lo (by omega) (by omega) (by omega)
  obtain ⟨⟨k1, -, k2⟩, -, ⟨g1, -, g2⟩⟩ := J.per (p := p) (by rw [E.P]; exact hp)
  have hpm := s_pull_le (k := s_v u (8 + 3 * p)) (y := s_v u 3) g2
  have hb : ∀ i, i < s_D s → bt (m (w + 13) p &&& m c 1) i = (decide (u (26 + 5 * i) = nI p) && decide (u (30 + 5 * i) = 1)) := fun i hi => by
    have h26 : u (26 + 5 * i) = s (26 + 5 * i) := E.de (w := 0) (by omega)
    rw [b_and, B.mi (by omega) (by omega), (C.2 i (by omega)).1, decide_eq_true hi, Bool.true_and, Bool.true_and, h26]
  unfold f10_choice
  rw [p_gd (by omega) (by omega), p_nm, nI_clamp (by omega)]
  by_cases h0 : m (w + 13) p &&& m c 1 = 0
  · refine ⟨m (w + 35), ?_⟩
    rw [if_pos h0, p_rw_id]
    unfold s_choice
    rw [s_pick_no]
    · rfl
    · intro i hi
      rw [E.D] at hi
      have h := hb i hi
      rw [h0, b_0] at h
      unfold s_may
      cases g1 : decide (u (26 + 5 * i) = nI p)
      · rfl
      · cases g2 : decide (u (30 + 5 * i) = 1)
        · rfl
        · rw [g1, g2] at h; cases h
  · rw [if_neg h0, p_gd (by omega) (by omega), C.1, J.eY, k_pull (w + 1 + 1 + p) m k2 g2 (by omega) (by rw [p0, ← e8]; exact k1) (by rw [p3, ← e10]; exact g1), p_bi]
    obtain ⟨v, x, e, hv⟩ := k_latest I E J B hc C R hp
    refine ⟨x, ?_⟩
    rw [e, p_bi]
    have B' := B.tr ((FR.rf w m).fa x)
    have hl := (p_loop (fun q i (b : Nat) => f10_choice_b49 (f10_choice_b128 w (nI p) c) w (nI p) c q (m (w + 13) p &&& m c 1) (nI (s_pull (s_v u (8 + 3 * p)) (s_v u (10 + 3 * p)) (s_v u 3))) v (nI b) i (p_rw m (w + 35) x)) (fun b => some (nI b, p_rw m (w + 35) x)) (s_D s) (s_pick1 u p (r_lim (s_v u 3) (r_find (s_v u (8 + 3 * p)) (fv u p) L))) (fun i b => b = 10 ∨ b < i)
      (fun q b _ => by
        show f10_choice_b49B _ _ _ _ _ _ _ _ _ _ _ = _
        unfold f10_choice_b49B f10_choice_b128
        rw [B'.ded, I.eD, if_pos (Int32.le_refl _)])
      (fun q i b hi hb' => by
        have hiu : i < s_D u := by rw [E.D]; exact hi
        obtain ⟨w1, w2⟩ := s_wt_of J hiu
        have hdi := s_due_le J hiu
        have hno : ∀ y : Nat, f10_choice_b122 (f10_choice_b49 (f10_choice_b128 w (nI p) c) w (nI p) c q) (f10_choice_b128 w (nI p) c) w (nI p) c (m (w + 13) p &&& m c 1) (nI (s_pull (s_v u (8 + 3 * p)) (s_v u (10 + 3 * p)) (s_v u 3))) v (nI y) (nI i) (p_rw m (w + 35) x) = f10_choice_b49 (f10_choice_b128 w (nI p) c) w (nI p) c q (m (w + 13) p &&& m c 1) (nI (s_pull (s_v u (8 + 3 * p)) (s_v u (10 + 3 * p)) (s_v u 3))) v (nI y) (nI (i + 1)) (p_rw m (w + 35) x) := fun y => by
          unfold f10_choice_b122
          rw [p_next]
        obtain ⟨-, -, b10, -, b12⟩ := B'.dd hi
        have h28 : u (28 + 5 * i) = s (28 + 5 * i) := E.de (w := 2) (by omega)
        show f10_choice_b49B _ _ _ _ _ _ _ _ _ _ _ = _
        unfold f10_choice_b49B f10_choice_b118
        rw [hno, hno, B'.ded, I.eD, q_le (by omega) (by omega), if_neg (by omega), p_bit _ (by omega), p_if, hb i hi, p_gd (by omega) (by omega), nI_clamp (by omega), b10, ← h28, w1, q_lt (by omega) (by omega), p_gd (by omega) (by omega), b12, ← s_due_of I E hi, q_leI (by omega) hv, p_gd (by omega) (by omega)]
        unfold s_pick1 s_may
        cases c1 : decide (u (26 + 5 * i) = nI p)
        · rw [Bool.false_and, if_neg (by decide), Bool.false_and, Bool.false_and, if_neg (by decide)]
        cases c2 : decide (u (30 + 5 * i) = 1)
        · rw [Bool.true_and, if_neg (by decide), Bool.false_and, Bool.true_and, Bool.false_and, if_neg (by decide)]
        rw [Bool.true_and, if_pos rfl, Bool.true_and, Bool.true_and]
        by_cases c3 : s_v u (28 + 5 * i) ≤ s_pull (s_v u (8 + 3 * p)) (s_v u (10 + 3 * p)) (s_v u 3)
        · rw [if_neg (by omega), decide_eq_true c3, Bool.true_and]
          by_cases c4 : (s_due u i : Int) ≤ r_lim (s_v u 3) (r_find (s_v u (8 + 3 * p)) (fv u p) L)
          · rw [if_pos c4, decide_eq_true c4, Bool.true_and]
            by_cases c5 : b = 10
            · subst c5
              rw [if_pos (show nI 10 = (10 : Int32) from rfl), decide_eq_true rfl, Bool.true_or, if_pos rfl]
            · have hbi : b < i := hb'.resolve_left c5
              have hdb := s_due_le J (d := b) (by omega)
              rw [if_neg (show ¬ nI b = (10 : Int32) from fun q => c5 ((nI_eq (b := 10) (by omega) (by omega)).mp q)), p_gd (by omega) (by omega), nI_clamp (by omega), (B'.dd (d := b) (by omega)).2.2.2.2, ← s_due_of I E (d := b) (by omega), q_le (by omega) (by omega), decide_eq_false c5, Bool.false_or]
              by_cases c6 : s_due u i < s_due u b
              · rw [if_neg (by omega), decide_eq_true c6, if_pos rfl]
              · rw [if_pos (by omega), decide_eq_false c6, if_neg (by decide)]
          · rw [if_neg c4, decide_eq_false c4, Bool.false_and, if_neg (by decide)]
        · rw [if_pos (by omega), decide_eq_false c3, Bool.false_and, Bool.false_and, if_neg (by decide)])
      (fun i b hi hb => by
        unfold s_pick1
        split
        · exact Or.inr (Nat.lt_succ_self _)
        · exact hb.elim Or.inl (fun q => Or.inr (by omega))) (s_D s) 0 lu_fu 10 (by omega) (p_fu (by omega)) (Or.inl rfl)).1
    unfold s_choice s_pick
    rw [E.D]
    exact hl

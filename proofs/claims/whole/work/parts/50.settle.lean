/-! THE PURE PART: settle, change, deed -/
theorem k_term (r : Nat) (m : lu_M) {k g : Nat} (hk : k ≤ 5) (hg1 : 1 ≤ g) (hg : g ≤ 9) (e0 : m r 0 = nI k) (e2 : m r 2 = nI g) : g3_term r m = some (nI (s_term k g), m) := by
  have h3 : f3_term r m = some (nI g, m) := by unfold f3_term; rw [e2]
  have h2 : f2_term r m = some (nI (g * 2), m) := by
    unfold f2_term
    rw [h3, p_bi, show (2 : Int32) = nI 2 from rfl, pk_mul]
  have h7 : f7_term r m = some (nI (g + 2), m) := by
    unfold f7_term
    rw [h3, p_bi, show (2 : Int32) = nI 2 from rfl, nI_add]
  have hk' : k = 0 ∨ k = 1 ∨ k = 2 ∨ k = 3 ∨ k = 4 ∨ k = 5 := by omega
  unfold g3_term
  rw [e0]
  rcases hk' with e | e | e | e | e | e <;> subst e
  · rw [if_neg (by decide), if_neg (by decide), if_neg (by decide), if_neg (by decide), if_neg (by decide)]
    exact h3
  · rw [if_pos (by decide)]
    exact h3
  · rw [if_neg (by decide), if_pos (by decide)]
    rw [h2]
    show some (nI (g * 2), m) = some (nI (2 * g), m)
    rw [Nat.mul_comm]
  · rw [if_neg (by decide), if_neg (by decide), if_pos (by decide)]
    unfold f9_term
    rw [h2, p_bi, show (1 : Int32) = nI 1 from rfl, pk_sub (by omega)]
    show some (nI (g * 2 - 1), m) = some (nI (2 * g - 1), m)
    rw [Nat.mul_comm]
  · rw [if_neg (by decide), if_neg (by decide), if_neg (by decide), if_pos (by decide)]
    exact h7
  · rw [if_neg (by decide), if_neg (by decide), if_neg (by decide), if_neg (by decide), if_pos (by decide)]
    unfold f4_term
    rw [h7, p_bi, show (9 : Int32) = nI 9 from rfl, nI_add]
    rfl
/-- a World's people and deeds, not settled -/
def RB0 (m : lu_M) (w : Nat) (s : Nat → Int32) : Prop :=
  m w 0 = s 0 ∧ m w 2 = s 5 ∧ m w 9 = s 2 ∧ (∀ p, p < 6 → m (w + 1 + 1 + p) 1 = nI p) ∧
  (∀ p, p < 6 → p < s_P s → m (w + 1 + 1 + p) 0 = s (8 + 3 * p) ∧ m (w + 1 + 1 + p) 2 = s (9 + 3 * p) ∧ m (w + 1 + 1 + p) 3 = s (10 + 3 * p)) ∧
  (∀ d, d < s_D s → m (w + 8) d = s (26 + 5 * d) ∧ m (w + 9) d = s (27 + 5 * d) ∧ m (w + 10) d = s (28 + 5 * d) ∧ m (w + 11) d = s (29 + 5 * d))
theorem k_settle {m : lu_M} {w : Nat} {s : Nat → Int32} (I : SI s) (B : RB0 m w s) : ∃ x y, f10_settle w m = some (p_rw (p_rw m (w + 12) x) (w + 13) y) ∧ RB (p_rw (p_rw m (w + 12) x) (w + 13) y) w s := by
  have hD := I.D10
  have hP := I.P6
  obtain ⟨b0, b2, b9, bn, bp, bd⟩ := B
  obtain ⟨y0, e0, hy0⟩ := p_loopR (σ := Unit) (fun q i (y : Nat → Int32) => f10_settle_b2 (f10_settle_b21 w) w q i (p_rw m (w + 13) y)) (fun y => f10_settle_b21 w (p_rw m (w + 13) y)) 6 (fun _ u => u) (fun i y _ => ∀ p, p < i → y p = 0)
    (fun q y _ h => by
      show f10_settle_b2B _ _ _ _ _ = _
      unfold f10_settle_b2B
      rw [show (6 : Int32) = nI 6 from rfl, if_pos (Int32.le_refl _)])
    (fun q i y _ hi h => by
      refine ⟨upd y i 0, ?_, fun p hp => ?_⟩
      · show f10_settle_b2B _ _ _ _ _ = _
        unfold f10_settle_b2B
        rw [show (6 : Int32) = nI 6 from rfl, q_le (by omega) (by omega), if_neg (by omega), p_gd hi (by omega), p_nm, nI_clamp (by omega), p_stc, p_next]
      · by_cases hpi : p = i
        · subst hpi; exact p_us ..
        · rw [upd_ne hpi]; exact h p (by omega)) 6 0 lu_fu (m (w + 13)) () (by omega) (p_fu (by omega)) (fun p hp => absurd hp (by omega))
  rw [p_rw_id] at e0
  obtain ⟨⟨x1, y1⟩, e1, h1, h2⟩ := p_loopR (σ := Unit) (fun q i (z : (Nat → Int32) × (Nat → Int32)) => f10_settle_b23 (f10_settle_b81 w) w q i (p_rw (p_rw m (w + 12) z.1) (w + 13) z.2)) (fun z => some (p_rw (p_rw m (w + 12) z.1) (w + 13) z.2)) (s_D s) (fun _ u => u) (fun i z _ => (∀ d, d < i → z.1 d = nI (s_due s d)) ∧ ∀ p, p < 6 → ∀ j, j < 32 → bt (z.2 p) j = (decide (j < i) && decide (s (26 + 5 * j) = nI p)))
    (fun q z _ h => by
      show f10_settle_b23B _ _ _ _ _ = _
      unfold f10_settle_b23B f10_settle_b81
      rw [p_rw_n (by omega), p_rw_n (by omega), b2, I.eD, if_pos (Int32.le_refl _)])
    (fun q i z _ hi h => by
      obtain ⟨x, y⟩ := z
      obtain ⟨c8, c9, c10, c11⟩ := bd i hi
      obtain ⟨o1, o2⟩ := I.of hi
      obtain ⟨y1, y2⟩ := I.yr hi
      obtain ⟨p0, p2, -⟩ := bp (s_v s (26 + 5 * i)) (by omega) o2
      obtain ⟨⟨k1, -, k2⟩, ⟨g1, gl, g2⟩, -⟩ := I.per o2
      have hm : ∀ a x y, a ≠ w + 12 → a ≠ w + 13 → (p_rw (p_rw m (w + 12) x) (w + 13) y) a = m a := fun a x y h1 h2 => by rw [p_rw_n h2, p_rw_n h1]
      refine ⟨(upd x i (nI (s_due s i)), upd y (s_v s (26 + 5 * i)) (y (s_v s (26 + 5 * i)) ||| ((1 : Int32) <<< (nI i &&& 31)))), ?_, fun d hd => ?_, fun p hp j hj => ?_⟩
      · show f10_settle_b23B _ _ _ _ (p_rw (p_rw m (w + 12) x) (w + 13) y) = _
        unfold f10_settle_b23B
        rw [hm w x y (by omega) (by omega), b2, I.eD, q_le (by omega) (by omega), if_neg (by omega), p_gd (by omega) (by omega), nI_clamp (by omega), hm (w + 8) x y (by omega) (by omega), c8, o1, p_gd (by omega) (by omega), nI_clamp (by omega), p_gd (by omega) (by omega), k_term (w + 1 + 1 + s_v s (26 + 5 * i)) _ k2 gl g2 (by rw [hm _ x y (by omega) (by omega), p0]; exact k1) (by rw [hm _ x y (by omega) (by omega), p2]; exact g1), p_bi, p_gd (by omega) (by omega), p_nm, hm (w + 9) x y (by omega) (by omega), c9, p_st2 (by omega), p_gd (by omega) (by omega), hm (w + 8) _ y (by omega) (by omega), c8, o1, p_gd (by omega) (by omega), p_gd (by omega) (by omega), p_nm, nI_clamp (by omega), p_rw_s, p_stc, p_next, y1, nI_add]
        rfl
      · by_cases hdi : d = i
        · subst hdi; exact p_us ..
        · show upd x i _ d = _
          rw [upd_ne hdi]; exact h.1 d (by omega)
      · show bt (upd y _ _ p) j = _
        by_cases hpo : p = s_v s (26 + 5 * i)
        · subst hpo
          rw [p_us, p_set _ (by omega) hj, h.2 _ hp j hj]
          by_cases hji : j = i
          · subst hji
            rw [decide_eq_false (p := j < j) (by omega), decide_eq_true (p := j < j + 1) (by omega), decide_eq_true (p := s (26 + 5 * j) = nI (s_v s (26 + 5 * j))) o1]
            simp
          · rw [decide_eq_false hji, Bool.or_false]
            by_cases hl : j < i
            · rw [decide_eq_true hl, decide_eq_true (p := j < i + 1) (by omega)]
            · rw [decide_eq_false hl, decide_eq_false (p := j < i + 1) (by omega)]
        · rw [upd_ne hpo, h.2 p hp j hj]
          by_cases hji : j = i
          · subst hji
            rw [decide_eq_false (p := s (26 + 5 * j) = nI p) (fun q => hpo ((nI_eq (by omega) (by omega)).mp (q.symm.trans o1))), Bool.and_false, Bool.and_false]
          · by_cases hl : j < i
            · rw [decide_eq_true hl, decide_eq_true (p := j < i + 1) (by omega)]
            · rw [decide_eq_false hl, decide_eq_false (p := j < i + 1) (by omega)]) (s_D s) 0 lu_fu (m (w + 12), y0) () (by omega) (p_fu (by omega)) ⟨fun d hd => absurd hd (by omega), fun p hp j hj => by
        show bt (y0 p) j = _
        rw [hy0 p hp, b_0, decide_eq_false (p := j < 0) (by omega), Bool.false_and]⟩
  have hm : ∀ a, a ≠ w + 12 → a ≠ w + 13 → (p_rw (p_rw m (w + 12) x1) (w + 13) y1) a = m a := fun a h1 h2 => by rw [p_rw_n h2, p_rw_n h1]
  refine ⟨x1, y1, ?_, ?_, ?_, ?_, fun p hp => ?_, fun p h6 hp => ?_, fun d hd => ?_, fun p hp i hi => ?_⟩
  · unfold f10_settle
    refine e0.trans ?_
    unfold f10_settle_b21
    have e1' : f10_settle_b23 (f10_settle_b81 w) w lu_fu 0 (p_rw (p_rw m (w + 12) (m (w + 12))) (w + 13) y0) = some (p_rw (p_rw m (w + 12) x1) (w + 13) y1) := e1
    rw [p_rw_id] at e1'
    exact e1'
  · rw [hm _ (by omega) (by omega)]; exact b0
  · rw [hm _ (by omega) (by omega)]; exact b2
  · rw [hm _ (by omega) (by omega)]; exact b9
  · rw [hm _ (by omega) (by omega)]; exact bn p hp
  · rw [hm _ (by omega) (by omega)]; exact bp p h6 hp
  · rw [hm (w + 8) (by omega) (by omega), hm (w + 9) (by omega) (by omega), hm (w + 10) (by omega) (by omega), hm (w + 11) (by omega) (by omega), p_rw_n (by omega), p_rw_s]
    obtain ⟨c8, c9, c10, c11⟩ := bd d hd
    exact ⟨c8, c9, c10, c11, h1 d hd⟩
  · rw [p_rw_s]
    exact h2 p hp i hi
/-- one of people's sizes is another -/
theorem SI.per2 {s : Nat → Int32} (I : SI s) {p k v lo : Nat} (hp : p < s_P s) (hk : (k = 8 + 3 * p ∧ v ≤ 5) ∨ k = 9 + 3 * p ∨ k = 10 + 3 * p) (h1 : 1 ≤ v) (h9 : v ≤ 9) : SI (upd s k (nI v)) := by
  have hP := I.P6
  have hD := I.D10
  have hk2 : 8 ≤ k ∧ k < 26 := by omega
  have hu : ∀ i, (i < 8 ∨ 26 ≤ i) → upd s k (nI v) i = s i := fun i hi => upd_ne (by omega)
  have hPu : s_P (upd s k (nI v)) = s_P s := s_v_of (hu 0 (by omega))
  have hDu : s_D (upd s k (nI v)) = s_D s := s_v_of (hu 5 (by omega))
  refine ⟨s_ok_of (hu 0 (by omega)) I.1, s_ok_of (hu 5 (by omega)) I.2.1, s_ok_of (hu 2 (by omega)) I.2.2.1, s_ok_of (hu 3 (by omega)) I.2.2.2.1, ?_, fun q hq => ?_, fun d hd => ?_, fun d hd h1 => ?_⟩
  · rw [s_v_of (hu 3 (by omega)), s_v_of (hu 2 (by omega))]; exact I.YE
  · rw [hPu] at hq
    obtain ⟨a1, a2, a3⟩ := I.per hq
    have ho : ∀ i lo hi, s_ok s i lo hi → (i = k → lo ≤ v ∧ v ≤ hi) → s_ok (upd s k (nI v)) i lo hi := fun i lo hi h hh => by
      by_cases e : i = k
      · subst e
        exact (s_okn (p_us ..) (hh rfl).1 (hh rfl).2 (by omega)).1
      · exact s_ok_of (upd_ne e) h
    exact ⟨ho _ _ _ a1 (fun e => by omega), ho _ _ _ a2 (fun e => by omega), ho _ _ _ a3 (fun e => by omega)⟩
  · rw [hDu] at hd
    obtain ⟨a1, a2, a3, a4, a5, a6⟩ := I.2.2.2.2.2.2.1 d hd
    refine ⟨s_ok_of (hu _ (by omega)) a1, ?_, s_ok_of (hu _ (by omega)) a3, s_ok_of (hu _ (by omega)) a4, ?_, s_ok_of (hu _ (by omega)) a6⟩
    · rw [s_v_of (hu (26 + 5 * d) (by omega)), hPu]; exact a2
    · rw [hu (29 + 5 * d) (by omega), s_v_of (hu (29 + 5 * d) (by omega))]; exact a5
  · rw [hDu] at hd
    rw [hu _ (by omega)] at h1
    rw [hu (29 + 5 * d) (by omega), s_v_of (hu (29 + 5 * d) (by omega)), hu _ (by omega)]
    exact I.cl hd h1

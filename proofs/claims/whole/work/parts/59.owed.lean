/-! THE PURE PART: to whom those of a set owe -/
def s_ow (s : Nat → Int32) (a : Int32) (k : Nat) (x : Int32) : Int32 := x ||| (if bt a (k / 6) = true ∧ ¬ s (76 + k) ≤ 0 then (1 : Int32) <<< (nI (k % 6) &&& 31) else 0)
theorem t_owedBy (n : lu_M) (a : Int32) : f12_owedBy a n = some (p_it (s_ow (n 1) a) 0 36 0, n) := by
  have hl := (p_loop (fun q i (x : Int32) => f12_owedBy_b4 (f12_owedBy_b53 a) a q x i n) (fun x => some (x, n)) 36 (s_ow (n 1) a) (fun _ _ => True)
    (fun q x _ => by
      show f12_owedBy_b4B _ _ _ _ _ _ = _
      unfold f12_owedBy_b4B f12_owedBy_b53
      rw [show (36 : Int32) = nI 36 from rfl, if_pos (Int32.le_refl _)])
    (fun q i x hi _ => by
      show f12_owedBy_b4B _ _ _ _ _ _ = _
      unfold f12_owedBy_b4B f12_owedBy_b44 f12_owedBy_b45 s_ow
      rw [show (36 : Int32) = nI 36 from rfl, q_le (by omega) (by omega), if_neg (by omega), show (76 : Int32) = nI 76 from rfl, nI_add, p_gd (by omega) (by omega), nI_clamp (by omega), show (6 : Int32) = nI 6 from rfl, pk_rem (by omega) (by omega) (by omega), pk_div (by omega) (by omega) (by omega), p_bit _ (by omega), p_if1, p_nm, p_nm, p_next]
      cases h : bt a (i / 6)
      · rw [if_neg p_ff, if_neg (fun q => p_ff q.1)]
      · rw [if_pos rfl]
        by_cases g : n 1 (76 + i) ≤ 0
        · rw [if_pos g, if_neg (fun q => q.2 g)]
        · rw [if_neg g, if_pos ⟨rfl, g⟩])
    (fun _ _ _ _ => trivial) 36 0 lu_fu 0 (by omega) (p_fu (by omega)) trivial).1
  exact hl
theorem k_owedBy {m : lu_M} {s : Nat → Int32} (I : SI s) (B : RB m 1 s) (X : WX m 1 s) (a : Int32) : f10_owedBy 1 a m = some (p_it (s_ow s a) 0 36 0, m) := by
  have hP := I.P6
  have hz : ∀ p q x, p < 6 → q < 6 → (s_P s ≤ p ∨ s_P s ≤ q) → s_ow s a (6 * p + q) x = x := fun p q x hp hq h => by
    unfold s_ow
    rw [show 76 + (6 * p + q) = 76 + 6 * p + q by omega, (X.lo hp hq).2.2 (by omega), if_neg (fun g => g.2 (by decide)), Int32.or_zero]
  have hin : ∀ p, p < 6 → ∀ x, p_it (fun q => s_ow s a (6 * p + q)) 0 6 x = p_it (fun q => s_ow s a (6 * p + q)) 0 (s_P s) x := fun p hp x => p_it_cut hP x (fun i y h1 h2 => hz p i y hp h2 (Or.inr h1))
  have hrow : ∀ (K : Int32 → Int32 → lu_M → Option (Int32 × lu_M)) (p : Nat) (v : Int32), p < s_P s → f10_owedBy_b15 K 1 a lu_fu v (nI p) 0 m = K (p_it (fun q => s_ow s a (6 * p + q)) 0 6 v) (nI p) m := fun K p v hp => by
    rw [hin p (by omega)]
    exact (p_loop (fun q i (x : Int32) => f10_owedBy_b15 K 1 a q x (nI p) i m) (fun x => K x (nI p) m) (s_P s) (fun q => s_ow s a (6 * p + q)) (fun _ _ => True)
      (fun q x _ => by
        show f10_owedBy_b15B _ _ _ _ _ _ _ _ = _
        unfold f10_owedBy_b15B
        rw [B.cnt, I.eP, if_pos (Int32.le_refl _)])
      (fun q i x hi _ => by
        show f10_owedBy_b15B _ _ _ _ _ _ _ _ = _
        unfold f10_owedBy_b15B f10_owedBy_b52 s_ow
        rw [B.cnt, I.eP, q_le (by omega) (by omega), if_neg (by omega), p_bit _ (by omega), p_if1, p_gd (by omega) (by omega), p_gd (by omega) (by omega), nI_clamp (by omega), nI_clamp (by omega), (X.lo (p := p) (q := i) (by omega) (by omega)).1, show 76 + (6 * p + i) = 76 + 6 * p + i by omega, p_nm, p_next, show (6 * p + i) / 6 = p by omega, show (6 * p + i) % 6 = i by omega]
        cases h : bt a p
        · rw [if_neg p_ff, if_neg (fun q => p_ff q.1), Int32.or_zero]
        · rw [if_pos rfl]
          by_cases g : s (76 + 6 * p + i) ≤ 0
          · rw [if_pos g, if_neg (fun q => q.2 g), Int32.or_zero]
          · rw [if_neg g, if_pos ⟨rfl, g⟩])
      (fun _ _ _ _ => trivial) (s_P s) 0 lu_fu v (by omega) (p_fu (by omega)) trivial).1
  have hl := (p_loop (fun q i (x : Int32) => f10_owedBy_b4 (f10_owedBy_b64 1 a) 1 a q x i m) (fun x => some (x, m)) (s_P s) (fun p y => p_it (fun q => s_ow s a (6 * p + q)) 0 6 y) (fun _ _ => True)
    (fun q x _ => by
      show f10_owedBy_b4B _ _ _ _ _ _ _ = _
      unfold f10_owedBy_b4B f10_owedBy_b64
      rw [B.cnt, I.eP, if_pos (Int32.le_refl _)])
    (fun q i x hi _ => by
      show f10_owedBy_b4B _ _ _ _ _ _ _ = _
      unfold f10_owedBy_b4B
      rw [B.cnt, I.eP, q_le (by omega) (by omega), if_neg (by omega), hrow _ i x hi]
      unfold f10_owedBy_b58
      rw [p_next])
    (fun _ _ _ _ => trivial) (s_P s) 0 lu_fu 0 (by omega) (p_fu (by omega)) trivial).1
  rw [p_36, p_it_cut hP (0 : Int32) (fun i y h1 h2 => by
    rw [hin i h2]
    exact p_it_inv (f := fun q => s_ow s a (6 * i + q)) (I := fun _ z => z = y) (s_P s) 0 y rfl (fun q z h3 h4 h5 => by rw [h5]; exact hz i q y h2 (by omega) (Or.inl h1)))]
  exact hl
/-- whose bit it has: somebody of the set owes to it -/
def s_A (s : Nat → Int32) (p q : Nat) : Prop := p < 6 ∧ q < 6 ∧ ¬ s (76 + 6 * p + q) ≤ 0
theorem ow_bit (s : Nat → Int32) (a : Int32) {q : Nat} (hq : q < 6) : bt (p_it (s_ow s a) 0 36 0) q = true ↔ ∃ p, bt a p = true ∧ s_A s p q := by
  have e := p_it_inv (f := s_ow s a) (I := fun i x => bt x q = true ↔ ∃ k, k < i ∧ k < 36 ∧ k % 6 = q ∧ bt a (k / 6) = true ∧ ¬ s (76 + k) ≤ 0) 36 0 0 (by
    rw [b_0]
    exact ⟨fun h => absurd h p_ff, fun ⟨k, hk, _⟩ => absurd hk (by omega)⟩) (fun i x h1 h2 h3 => by
    unfold s_ow
    by_cases g : bt a (i / 6) = true ∧ ¬ s (76 + i) ≤ 0
    · rw [if_pos g, p_set x (by omega) (by omega), Bool.or_eq_true, h3, decide_eq_true_eq]
      constructor
      · rintro (⟨k, k1, k2⟩ | h)
        · exact ⟨k, by omega, k2⟩
        · exact ⟨i, by omega, by omega, h.symm, g.1, g.2⟩
      · rintro ⟨k, k1, k2, k3, k4⟩
        by_cases hk : k = i
        · subst hk; exact Or.inr k3.symm
        · exact Or.inl ⟨k, by omega, k2, k3, k4⟩
    · rw [if_neg g, Int32.or_zero, h3]
      constructor
      · rintro ⟨k, k1, k2⟩
        exact ⟨k, by omega, k2⟩
      · rintro ⟨k, k1, k2, k3, k4⟩
        by_cases hk : k = i
        · subst hk; exact absurd k4 g
        · exact ⟨k, by omega, k2, k3, k4⟩)
  rw [Nat.zero_add] at e
  rw [e]
  constructor
  · rintro ⟨k, k1, k2, k3, k4, k5⟩
    refine ⟨k / 6, k4, by omega, hq, ?_⟩
    rw [show 76 + 6 * (k / 6) + q = 76 + k by omega]
    exact k5
  · rintro ⟨p, p1, p2, p3, p4⟩
    refine ⟨6 * p + q, by omega, by omega, by omega, ?_, ?_⟩
    · rw [show (6 * p + q) / 6 = p by omega]; exact p1
    · rw [show 76 + (6 * p + q) = 76 + 6 * p + q by omega]; exact p4

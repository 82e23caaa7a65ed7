/-! THE PURE PART, the reference: standing weight, a year's steps, undoing -/
theorem p_stw (n : lu_M) (u : Nat → Int32) (k : Nat) (v : Int32) : lu_st (p_rw n 1 u) 1 k v = p_rw n 1 (upd u k v) := by
  rw [p_st, p_rw_s, p_rw_rw]
theorem p_us (f : Nat → Int32) (k : Nat) (x : Int32) : upd f k x k = x := if_pos rfl
theorem p_un {f : Nat → Int32} {k j : Nat} {x : Int32} (h : j ≠ k) : upd f k x j = f j := if_neg h
theorem p_uid (f : Nat → Int32) (k : Nat) : upd f k (f k) = f := by
  funext j
  by_cases h : j = k
  · subst h; exact p_us ..
  · exact p_un h
def s_sw (s : Nat → Int32) (a : Int32) : Int32 := p_it (fun i x => x + (if s (30 + 5 * i) = 1 ∧ (a < 0 ∨ s (26 + 5 * i) = a) then s (28 + 5 * i) else 0)) 0 (s_D s) 0
theorem t_standWeight {n : lu_M} (I : SI (n 1)) (a : Int32) : f12_standWeight a n = some (s_sw (n 1) a, n) := by
  have hD := I.D10
  have h := (p_loop (fun q i (x : Int32) => f12_standWeight_b4 (f12_standWeight_b57 a) a q x i n) (fun x => f12_standWeight_b57 a x n) (s_D (n 1)) (fun i x => x + (if n 1 (30 + 5 * i) = 1 ∧ (a < 0 ∨ n 1 (26 + 5 * i) = a) then n 1 (28 + 5 * i) else 0)) (fun _ _ => True)
    (fun q x _ => by
      show f12_standWeight_b4B _ _ _ _ _ _ = _
      unfold f12_standWeight_b4B
      rw [I.eD, if_pos (Int32.le_refl _)])
    (fun q i x hi _ => by
      show f12_standWeight_b4B _ _ _ _ _ _ = _
      unfold f12_standWeight_b4B f12_standWeight_b39 f12_standWeight_b48 f12_standWeight_b49
      rw [I.eD, q_le (by omega) (by omega), if_neg (by omega), t_dSo n (by omega), p_bi, t_dOf n (by omega), p_bi, t_dWt n (by omega), p_bi, p_next]
      by_cases h : n 1 (30 + 5 * i) = 1
      · rw [if_pos h]
        by_cases h2 : a < 0
        · rw [if_pos h2, if_pos ⟨h, Or.inl h2⟩]; rfl
        · rw [if_neg h2]
          by_cases h3 : n 1 (26 + 5 * i) = a
          · rw [if_pos h3, if_pos ⟨h, Or.inr h3⟩]; rfl
          · rw [if_neg h3, if_neg (fun q => q.2.elim h2 h3)]; rfl
      · rw [if_neg h, if_neg (fun q => h q.1)]; rfl)
    (fun _ _ _ _ => trivial) (s_D (n 1)) 0 lu_fu 0 (by omega) (p_fu (by omega)) trivial).1
  exact h
/-- the places of s that a year changes: states, YEAR, SCORE -/
def SE (s u : Nat → Int32) : Prop := ∀ i, i ≠ 3 → i ≠ 4 → (∀ d, d < 10 → i ≠ 30 + 5 * d) → u i = s i
theorem SE.rf (s : Nat → Int32) : SE s s := fun _ _ _ _ => rfl
theorem SE.tr {s u w : Nat → Int32} (h : SE s u) (h2 : SE u w) : SE s w := fun i a b c => (h2 i a b c).trans (h i a b c)
theorem SE.st {s u : Nat → Int32} (h : SE s u) {d : Nat} (hd : d < 10) (v : Int32) : SE s (upd u (30 + 5 * d) v) := fun i a b c => (p_un (c d hd)).trans (h i a b c)
theorem SE.lo {s u : Nat → Int32} (h : SE s u) {i : Nat} (h1 : i < 30) (h2 : i ≠ 3) (h3 : i ≠ 4) : u i = s i := h i h2 h3 (fun d _ => by omega)
theorem SE.hi {s u : Nat → Int32} (h : SE s u) {i : Nat} (h1 : 80 ≤ i) : u i = s i := h i (by omega) (by omega) (fun d _ => by omega)
theorem SE.de {s u : Nat → Int32} (h : SE s u) {w d : Nat} (hw : w < 4) : u (26 + w + 5 * d) = s (26 + w + 5 * d) := h _ (by omega) (by omega) (fun e _ => by omega)
theorem SE.D {s u : Nat → Int32} (h : SE s u) : s_D u = s_D s := by unfold s_D s_v; rw [h.lo (by omega) (by omega) (by omega)]
theorem SE.P {s u : Nat → Int32} (h : SE s u) : s_P u = s_P s := by unfold s_P s_v; rw [h.lo (by omega) (by omega) (by omega)]
/-- one deed falls, if what it needs is gone -/
def s_ndI (u : Nat → Int32) (i : Nat) : Nat := s_v u (29 + 5 * i)
def s_fall (u : Nat → Int32) (i : Nat) : Bool := decide (u (30 + 5 * i) = 1) && (!decide (u (29 + 5 * i) < 0) && (decide (u (30 + 5 * s_ndI u i) = 2) || decide (u (30 + 5 * s_ndI u i) = 3)))
def s_fstep (i : Nat) (u : Nat → Int32) : Nat → Int32 := upd u (30 + 5 * i) (if s_fall u i then 3 else u (30 + 5 * i))
def s_undo (s : Nat → Int32) (d : Nat) : Nat → Int32 := p_it s_fstep 0 (s_D s) (upd s (30 + 5 * d) 2)
theorem m1_neg : (-1 : Int32) < 0 := by decide
theorem SI.need {s u : Nat → Int32} (I : SI s) (E : SE s u) {i : Nat} (h : i < s_D s) : (u (29 + 5 * i) < 0) ∨ (¬ u (29 + 5 * i) < 0 ∧ u (29 + 5 * i) = nI (s_ndI u i) ∧ s_ndI u i < i) := by
  have e : u (29 + 5 * i) = s (29 + 5 * i) := E.de (w := 3) (by omega)
  unfold s_ndI s_v
  rw [e]
  rcases I.nd h with h1 | ⟨h1, h2⟩
  · rw [h1]; exact Or.inl m1_neg
  · refine Or.inr ⟨?_, h1, h2⟩
    rw [h1]
    exact nI_pos (by have := I.D10; omega)
theorem t_fstep {s : Nat → Int32} {n : lu_M} (I : SI s) {u : Nat → Int32} (E : SE s u) (a : Int32) (q i : Nat) (hi : i < s_D s) : f12_undo_b13 (f12_undo_b102 a) a (q + 1) (nI i) (p_rw n 1 u) = f12_undo_b13 (f12_undo_b102 a) a q (nI (i + 1)) (p_rw n 1 (s_fstep i u)) := by
  have hD := I.D10
  have e5 : (p_rw n 1 u) 1 5 = nI (s_D s) := by rw [p_rw_s, E.lo (by omega) (by omega) (by omega), I.eD]
  have hsp : ∀ x : Int32, f12_undo_b95 (f12_undo_b13 (f12_undo_b102 a) a q) (f12_undo_b102 a) a (nI i) x (nI (30 + 5 * i)) (p_rw n 1 u) = f12_undo_b13 (f12_undo_b102 a) a q (nI (i + 1)) (p_rw n 1 (upd u (30 + 5 * i) x)) := fun x => by
    unfold f12_undo_b95
    rw [p_gd (by omega) (by omega), nI_clamp (by omega), p_nm, p_stw, p_next]
  have hs4 : f12_spot (nI i) (4 : Int32) (p_rw n 1 u) = some (nI (30 + 5 * i), p_rw n 1 u) := by
    rw [show (4 : Int32) = nI 4 from rfl, t_spot, show 26 + 5 * i + 4 = 30 + 5 * i by omega]
  have h68 : f12_undo_b68 (f12_undo_b13 (f12_undo_b102 a) a q) (f12_undo_b102 a) a (nI i) (p_rw n 1 u) = f12_undo_b13 (f12_undo_b102 a) a q (nI (i + 1)) (p_rw n 1 (upd u (30 + 5 * i) (u (30 + 5 * i)))) := by
    unfold f12_undo_b68 f12_undo_b69
    rw [hs4, p_bi, if_pos rfl, t_dSo _ (by omega), p_bi, hsp, p_rw_s]
  have h64 : f12_undo_b64 (f12_undo_b13 (f12_undo_b102 a) a q) (f12_undo_b102 a) a (nI i) (p_rw n 1 u) = f12_undo_b13 (f12_undo_b102 a) a q (nI (i + 1)) (p_rw n 1 (upd u (30 + 5 * i) 3)) := by
    unfold f12_undo_b64 f12_undo_b69
    rw [hs4, p_bi, if_neg (by decide), hsp]
  show f12_undo_b13B _ _ _ _ _ = _
  unfold f12_undo_b13B s_fstep s_fall
  rw [e5, q_le (by omega) (by omega), if_neg (by omega), t_dNd _ (by omega), p_bi, t_dSo _ (by omega), p_bi, p_rw_s]
  by_cases h1 : u (30 + 5 * i) = 1
  · rw [if_pos h1]
    rcases I.need E hi with hn | ⟨hn, e, hlt⟩
    · rw [if_pos hn, h68]
      simp [hn]
    · rw [if_neg hn, e, t_dSo _ (by omega), p_bi, p_rw_s]
      have hb : decide (u (29 + 5 * i) < 0) = false := decide_eq_false hn
      rw [← e, hb]
      by_cases h2 : u (30 + 5 * s_ndI u i) = 2
      · rw [if_pos h2, h64]
        simp [h1, h2]
      · rw [if_neg h2, e, t_dSo _ (by omega), p_bi, p_rw_s]
        by_cases h3 : u (30 + 5 * s_ndI u i) = 3
        · rw [if_pos h3, h64]
          simp [h1, h3]
        · rw [if_neg h3, h68]
          simp [h1, h2, h3]
  · rw [if_neg h1, h68]
    simp [h1]
theorem s_fstep_E {s u : Nat → Int32} (E : SE s u) (i : Nat) (h : i < 10) : SE s (s_fstep i u) := E.st h _
theorem t_undo {n : lu_M} {s u : Nat → Int32} (I : SI s) (E : SE s u) {d : Nat} (h : d < s_D s) : f12_undo (nI d) (p_rw n 1 u) = some (p_rw n 1 (s_undo u d)) := by
  have hD := I.D10
  have hl := (p_loop (fun q i (x : Nat → Int32) => f12_undo_b13 (f12_undo_b102 (nI d)) (nI d) q i (p_rw n 1 x)) (fun x => some (p_rw n 1 x)) (s_D s) s_fstep (fun _ x => SE s x)
    (fun q x hx => by
      show f12_undo_b13B _ _ _ _ _ = _
      unfold f12_undo_b13B f12_undo_b102
      rw [p_rw_s, hx.lo (by omega) (by omega) (by omega), I.eD, if_pos (Int32.le_refl _)])
    (fun q i x hi hx => t_fstep I hx _ q i hi)
    (fun i x hi hx => s_fstep_E hx i (by omega)) (s_D s) 0 lu_fu (upd u (30 + 5 * d) 2) (by omega) (p_fu (by omega)) (E.st (by omega) _)).1
  unfold f12_undo s_undo
  rw [show (4 : Int32) = nI 4 from rfl, t_spot, p_bi, p_gd (by omega) (by omega), nI_clamp (by omega), p_nm, p_stw, show 26 + 5 * d + 4 = 30 + 5 * d by omega, E.D]
  exact hl

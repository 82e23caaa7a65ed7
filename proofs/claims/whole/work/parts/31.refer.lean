/-! THE PURE PART, the reference: its row s (role 1) as the state -/
def s_v (s : Nat → Int32) (i : Nat) : Nat := (s i).toNatClampNeg
def s_ok (s : Nat → Int32) (i lo hi : Nat) : Prop := s i = nI (s_v s i) ∧ lo ≤ s_v s i ∧ s_v s i ≤ hi
def s_P (s : Nat → Int32) : Nat := s_v s 0
def s_D (s : Nat → Int32) : Nat := s_v s 5
def s_so (s : Nat → Int32) (d : Nat) : Nat := s_v s (30 + 5 * d)
/-- people, deeds, years: what always holds of s -/
def SI (s : Nat → Int32) : Prop :=
  s_ok s 0 0 6 ∧ s_ok s 5 0 10 ∧ s_ok s 2 1 16 ∧ s_ok s 3 0 16 ∧ s_v s 3 ≤ s_v s 2 ∧
  (∀ p, p < s_P s → s_ok s (8 + 3 * p) 1 5 ∧ s_ok s (9 + 3 * p) 1 9 ∧ s_ok s (10 + 3 * p) 1 9) ∧
  (∀ d, d < s_D s → s_ok s (26 + 5 * d) 0 5 ∧ s_v s (26 + 5 * d) < s_P s ∧ s_ok s (27 + 5 * d) 0 15 ∧ s_ok s (28 + 5 * d) 1 9 ∧ (s (29 + 5 * d) = -1 ∨ (s (29 + 5 * d) = nI (s_v s (29 + 5 * d)) ∧ s_v s (29 + 5 * d) < d)) ∧ s_ok s (30 + 5 * d) 0 4) ∧
  (∀ d, d < s_D s → s (30 + 5 * d) = 1 → s (29 + 5 * d) = -1 ∨ (s (30 + 5 * s_v s (29 + 5 * d)) ≠ 2 ∧ s (30 + 5 * s_v s (29 + 5 * d)) ≠ 3))
theorem SI.eP {s : Nat → Int32} (I : SI s) : s 0 = nI (s_P s) := I.1.1
theorem SI.P6 {s : Nat → Int32} (I : SI s) : s_P s ≤ 6 := I.1.2.2
theorem SI.eD {s : Nat → Int32} (I : SI s) : s 5 = nI (s_D s) := I.2.1.1
theorem SI.D10 {s : Nat → Int32} (I : SI s) : s_D s ≤ 10 := I.2.1.2.2
theorem SI.eE {s : Nat → Int32} (I : SI s) : s 2 = nI (s_v s 2) := I.2.2.1.1
theorem SI.E16 {s : Nat → Int32} (I : SI s) : s_v s 2 ≤ 16 := I.2.2.1.2.2
theorem SI.eY {s : Nat → Int32} (I : SI s) : s 3 = nI (s_v s 3) := I.2.2.2.1.1
theorem SI.YE {s : Nat → Int32} (I : SI s) : s_v s 3 ≤ s_v s 2 := I.2.2.2.2.1
theorem SI.per {s : Nat → Int32} (I : SI s) {p : Nat} (h : p < s_P s) : s_ok s (8 + 3 * p) 1 5 ∧ s_ok s (9 + 3 * p) 1 9 ∧ s_ok s (10 + 3 * p) 1 9 := I.2.2.2.2.2.1 p h
theorem SI.of {s : Nat → Int32} (I : SI s) {d : Nat} (h : d < s_D s) : s (26 + 5 * d) = nI (s_v s (26 + 5 * d)) ∧ s_v s (26 + 5 * d) < s_P s := ⟨(I.2.2.2.2.2.2.1 d h).1.1, (I.2.2.2.2.2.2.1 d h).2.1⟩
theorem SI.yr {s : Nat → Int32} (I : SI s) {d : Nat} (h : d < s_D s) : s (27 + 5 * d) = nI (s_v s (27 + 5 * d)) ∧ s_v s (27 + 5 * d) ≤ 15 := ⟨(I.2.2.2.2.2.2.1 d h).2.2.1.1, (I.2.2.2.2.2.2.1 d h).2.2.1.2.2⟩
theorem SI.wt {s : Nat → Int32} (I : SI s) {d : Nat} (h : d < s_D s) : s_ok s (28 + 5 * d) 1 9 := (I.2.2.2.2.2.2.1 d h).2.2.2.1
theorem SI.nd {s : Nat → Int32} (I : SI s) {d : Nat} (h : d < s_D s) : s (29 + 5 * d) = -1 ∨ (s (29 + 5 * d) = nI (s_v s (29 + 5 * d)) ∧ s_v s (29 + 5 * d) < d) := (I.2.2.2.2.2.2.1 d h).2.2.2.2.1
theorem SI.st {s : Nat → Int32} (I : SI s) {d : Nat} (h : d < s_D s) : s (30 + 5 * d) = nI (s_so s d) ∧ s_so s d ≤ 4 := ⟨(I.2.2.2.2.2.2.1 d h).2.2.2.2.2.1, (I.2.2.2.2.2.2.1 d h).2.2.2.2.2.2.2⟩
theorem SI.cl {s : Nat → Int32} (I : SI s) {d : Nat} (h : d < s_D s) (h1 : s (30 + 5 * d) = 1) : s (29 + 5 * d) = -1 ∨ (s (30 + 5 * s_v s (29 + 5 * d)) ≠ 2 ∧ s (30 + 5 * s_v s (29 + 5 * d)) ≠ 3) := I.2.2.2.2.2.2.2 d h h1
theorem t_spot (n : lu_M) {d : Nat} (w : Nat) : f12_spot (nI d) (nI w) n = some (nI (26 + 5 * d + w), n) := by
  unfold f12_spot
  rw [show (26 : Int32) = nI 26 from rfl, show (5 : Int32) = nI 5 from rfl, pk_mul, nI_add, nI_add]
theorem t_deedIs (n : lu_M) {d w : Nat} (h : d < 60) (hw : w < 5) : f12_deedIs (nI d) (nI w) n = some (n 1 (26 + 5 * d + w), n) := by
  unfold f12_deedIs
  rw [t_spot, p_bi, p_gd (by omega) (by omega), nI_clamp (by omega)]
theorem t_at (n : lu_M) {p : Nat} (w : Nat) : f12_at (nI p) (nI w) n = some (nI (8 + 3 * p + w), n) := by
  unfold f12_at
  rw [show (8 : Int32) = nI 8 from rfl, show (3 : Int32) = nI 3 from rfl, pk_mul, nI_add, nI_add]
theorem t_its (n : lu_M) {p w : Nat} (h : p < 60) (hw : w < 5) : f12_its (nI p) (nI w) n = some (n 1 (8 + 3 * p + w), n) := by
  unfold f12_its
  rw [t_at, p_bi, p_gd (by omega) (by omega), nI_clamp (by omega)]
theorem t_dOf (n : lu_M) {d : Nat} (h : d < 10) : f12_deedIs (nI d) (0 : Int32) n = some (n 1 (26 + 5 * d), n) := t_deedIs n (w := 0) (by omega) (by omega)
theorem t_dIn (n : lu_M) {d : Nat} (h : d < 10) : f12_deedIs (nI d) (1 : Int32) n = some (n 1 (27 + 5 * d), n) := by
  rw [show 27 + 5 * d = 26 + 5 * d + 1 by omega]; exact t_deedIs n (w := 1) (by omega) (by omega)
theorem t_dWt (n : lu_M) {d : Nat} (h : d < 10) : f12_deedIs (nI d) (2 : Int32) n = some (n 1 (28 + 5 * d), n) := by
  rw [show 28 + 5 * d = 26 + 5 * d + 2 by omega]; exact t_deedIs n (w := 2) (by omega) (by omega)
theorem t_dNd (n : lu_M) {d : Nat} (h : d < 10) : f12_deedIs (nI d) (3 : Int32) n = some (n 1 (29 + 5 * d), n) := by
  rw [show 29 + 5 * d = 26 + 5 * d + 3 by omega]; exact t_deedIs n (w := 3) (by omega) (by omega)
theorem t_dSo (n : lu_M) {d : Nat} (h : d < 10) : f12_deedIs (nI d) (4 : Int32) n = some (n 1 (30 + 5 * d), n) := by
  rw [show 30 + 5 * d = 26 + 5 * d + 4 by omega]; exact t_deedIs n (w := 4) (by omega) (by omega)
theorem t_iSt (n : lu_M) {p : Nat} (h : p < 6) : f12_its (nI p) (0 : Int32) n = some (n 1 (8 + 3 * p), n) := t_its n (w := 0) (by omega) (by omega)
theorem t_iGr (n : lu_M) {p : Nat} (h : p < 6) : f12_its (nI p) (1 : Int32) n = some (n 1 (9 + 3 * p), n) := by
  rw [show 9 + 3 * p = 8 + 3 * p + 1 by omega]; exact t_its n (w := 1) (by omega) (by omega)
theorem t_iSn (n : lu_M) {p : Nat} (h : p < 6) : f12_its (nI p) (2 : Int32) n = some (n 1 (10 + 3 * p), n) := by
  rw [show 10 + 3 * p = 8 + 3 * p + 2 by omega]; exact t_its n (w := 2) (by omega) (by omega)
/-- TERM, DUE, PULL -/
def s_term (k g : Nat) : Nat := if k = 2 then 2 * g else if k = 3 then 2 * g - 1 else if k = 4 then g + 2 else if k = 5 then g + 11 else g
def s_due (s : Nat → Int32) (d : Nat) : Nat := s_v s (27 + 5 * d) + s_term (s_v s (8 + 3 * s_v s (26 + 5 * d))) (s_v s (9 + 3 * s_v s (26 + 5 * d)))
def s_pull (k t y : Nat) : Nat := if k = 1 then (if y % 3 = 2 then 0 else t) else if k = 3 then t + 1 else if k = 4 then t / 2 else if k = 5 then (if 9 ≤ y then 9 else t / 2) else t
theorem s_term_le (k g : Nat) (hg : g ≤ 9) : s_term k g ≤ 20 := by
  unfold s_term
  repeat' split
  all_goals omega
theorem t_termOf (n : lu_M) {k g : Nat} (hk : k ≤ 9) (hg1 : 1 ≤ g) (hg : g ≤ 9) : f12_termOf (nI k) (nI g) n = some (nI (s_term k g), n) := by
  unfold f12_termOf s_term
  rw [show (2 : Int32) = nI 2 from rfl, show (3 : Int32) = nI 3 from rfl, show (4 : Int32) = nI 4 from rfl, show (5 : Int32) = nI 5 from rfl, show (11 : Int32) = nI 11 from rfl, show (1 : Int32) = nI 1 from rfl]
  rw [q_eq (by omega) (by omega), q_eq (by omega) (by omega), q_eq (by omega) (by omega), q_eq (by omega) (by omega)]
  rw [pk_mul, pk_sub (by omega), nI_add, nI_add]
  repeat' split
  all_goals rfl
theorem t_due {n : lu_M} (I : SI (n 1)) {d : Nat} (h : d < s_D (n 1)) : f12_due (nI d) n = some (nI (s_due (n 1) d), n) := by
  have hD := I.D10
  have hP := I.P6
  obtain ⟨e1, l1⟩ := I.of h
  obtain ⟨e2, l2⟩ := I.yr h
  obtain ⟨⟨e3, -, l3⟩, ⟨e4, g4, l4⟩, -⟩ := I.per l1
  unfold f12_due
  rw [t_dOf n (by omega), p_bi, t_dIn n (by omega), p_bi, e1, t_iSt n (by omega), p_bi, t_iGr n (by omega), p_bi, e3, e4, t_termOf n (by omega) g4 l4, p_bi, e2, nI_add]
  rfl
theorem s_due_le {s : Nat → Int32} (I : SI s) {d : Nat} (h : d < s_D s) : s_due s d ≤ 35 := by
  have h1 := (I.yr h).2
  have h2 := s_term_le (s_v s (8 + 3 * s_v s (26 + 5 * d))) (s_v s (9 + 3 * s_v s (26 + 5 * d))) (I.per (I.of h).2).2.1.2.2
  unfold s_due
  omega
theorem t_pullOf (n : lu_M) {k t y : Nat} (hk : k ≤ 9) (ht : t ≤ 9) (hy : y ≤ 1000) : f12_pullOf (nI k) (nI t) (nI y) n = some (nI (s_pull k t y), n) := by
  unfold f12_pullOf s_pull f12_pullOf_b48 f12_pullOf_b72 f12_pullOf_b71
  rw [show (2 : Int32) = nI 2 from rfl, show (3 : Int32) = nI 3 from rfl, show (4 : Int32) = nI 4 from rfl, show (5 : Int32) = nI 5 from rfl, show (1 : Int32) = nI 1 from rfl, show (9 : Int32) = nI 9 from rfl, show (0 : Int32) = nI 0 from rfl]
  rw [pk_rem (by omega) (by omega) (by omega), pk_div (by omega) (by omega) (by omega), nI_add]
  rw [q_eq (by omega) (by omega), q_eq (by omega) (by omega), q_eq (by omega) (by omega), q_eq (by omega) (by omega), q_eq (by omega) (by omega), q_eq (by omega) (by omega), q_lt (by omega) (by omega)]
  by_cases h1 : k = 1
  · rw [if_pos h1, if_pos h1]
    split <;> rfl
  rw [if_neg h1, if_neg h1]
  by_cases h2 : k = 2
  · subst h2; rfl
  rw [if_neg h2]
  by_cases h3 : k = 3
  · rw [if_pos h3, if_pos h3]
  rw [if_neg h3, if_neg h3]
  by_cases h4 : k = 4
  · rw [if_pos h4, if_pos h4]
  rw [if_neg h4, if_neg h4]
  by_cases h5 : k = 5
  · rw [if_pos h5, if_pos h5]
    by_cases h6 : y < 9
    · rw [if_pos h6, if_neg (by omega)]
    · rw [if_neg h6, if_pos (by omega)]
  · rw [if_neg h5, if_neg h5]
theorem t_pulls {n : lu_M} (I : SI (n 1)) {p : Nat} (h : p < s_P (n 1)) : f12_pulls (nI p) n = some (nI (s_pull (s_v (n 1) (8 + 3 * p)) (s_v (n 1) (10 + 3 * p)) (s_v (n 1) 3)), n) := by
  have hP := I.P6
  obtain ⟨⟨e3, -, l3⟩, -, ⟨e4, -, l4⟩⟩ := I.per h
  have hY := I.YE
  have hE := I.E16
  unfold f12_pulls
  rw [t_iSt n (by omega), p_bi, t_iSn n (by omega), p_bi, I.eY, e3, e4, t_pullOf n (by omega) l4 (by omega), p_bi]
/-- a set of the deeds that are so -/
def s_those (s : Nat → Int32) (a : Int32) : Int32 := p_it (fun i x => x ||| (if s (30 + 5 * i) = a then (1 : Int32) <<< (nI i &&& 31) else 0)) 0 (s_D s) 0
theorem t_those {n : lu_M} (I : SI (n 1)) (a : Int32) : f12_those a n = some (s_those (n 1) a, n) := by
  have hD := I.D10
  have h := (p_loop (fun q i (x : Int32) => f12_those_b4 (f12_those_b40 a) a q x i n) (fun x => f12_those_b40 a x n) (s_D (n 1)) (fun i x => x ||| (if n 1 (30 + 5 * i) = a then (1 : Int32) <<< (nI i &&& 31) else 0)) (fun _ _ => True)
    (fun q x _ => by
      show f12_those_b4B _ _ _ _ _ _ = _
      unfold f12_those_b4B
      rw [I.eD, if_pos (Int32.le_refl _)])
    (fun q i x hi _ => by
      show f12_those_b4B _ _ _ _ _ _ = _
      unfold f12_those_b4B f12_those_b32
      rw [I.eD, q_le (by omega) (by omega), if_neg (by omega), t_dSo n (by omega), p_bi, p_next]
      by_cases h : n 1 (30 + 5 * i) = a
      · rw [if_pos h, if_pos h]; rfl
      · rw [if_neg h, if_neg h]; rfl)
    (fun _ _ _ _ => trivial) (s_D (n 1)) 0 lu_fu 0 (by omega) (p_fu (by omega)) trivial).1
  exact h

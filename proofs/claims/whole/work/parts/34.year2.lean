/-! THE PURE PART, the class: a line of years against the row s -/
/-- a line's sets, D deeds -/
def CR (D : Nat) (x u : Nat → Int32) : Prop := x 0 = u 3 ∧ ∀ i, i < 32 → (bt (x 1) i = (decide (i < D) && decide (u (30 + 5 * i) = 1))) ∧ (bt (x 2) i = (decide (i < D) && decide (u (30 + 5 * i) = 2))) ∧ (bt (x 3) i = (decide (i < D) && decide (u (30 + 5 * i) = 3))) ∧ (bt (x 4) i = (decide (i < D) && decide (u (30 + 5 * i) = 4)))
theorem p_pb (b : Bool) : p_b b = if b then 1 else 0 := rfl
theorem k_isStanding {m : lu_M} {c D : Nat} {u : Nat → Int32} (C : CR D (m c) u) {d : Nat} (h : d < D) (hD : D ≤ 10) : f1_isStanding c (nI d) m = some (p_b (decide (u (30 + 5 * d) = 1)), m) := by
  unfold f1_isStanding f1_isStanding_b17
  rw [p_bit _ (by omega), p_if1, (C.2 d (by omega)).1, decide_eq_true h, Bool.true_and]
  cases decide (u (30 + 5 * d) = 1) <;> rfl
theorem k_isGone {m : lu_M} {c D : Nat} {u : Nat → Int32} (C : CR D (m c) u) {d : Nat} (h : d < D) (hD : D ≤ 10) : f1_isGone c (nI d) m = some (p_b (decide (u (30 + 5 * d) = 2) || decide (u (30 + 5 * d) = 3)), m) := by
  unfold f1_isGone f1_isGone_b22
  rw [p_bit _ (by omega), p_if1, b_or, (C.2 d (by omega)).2.1, (C.2 d (by omega)).2.2.1, decide_eq_true h, Bool.true_and, Bool.true_and]
  cases decide (u (30 + 5 * d) = 2) <;> cases decide (u (30 + 5 * d) = 3) <;> rfl
theorem k_how {m : lu_M} {c D : Nat} {u : Nat → Int32} (C : CR D (m c) u) (S : SS D u) {d : Nat} (h : d < D) (hD : D ≤ 10) : f1_how c (nI d) m = some (u (30 + 5 * d), m) := by
  unfold f1_how f1_how_b55
  rw [k_isStanding C h hD, p_bi, p_if, p_bit _ (by omega), p_bit _ (by omega), p_bit _ (by omega), p_if1, p_if1, p_if1, (C.2 d (by omega)).2.1, (C.2 d (by omega)).2.2.1, (C.2 d (by omega)).2.2.2, decide_eq_true h, Bool.true_and, Bool.true_and, Bool.true_and]
  obtain ⟨e, -, hv⟩ := S d h
  revert e
  generalize s_v u (30 + 5 * d) = v at hv
  intro e
  rw [e]
  have : v = 0 ∨ v = 1 ∨ v = 2 ∨ v = 3 ∨ v = 4 := by omega
  rcases this with q | q | q | q | q <;> subst q <;> rfl
/-- a state anew, in the sets -/
theorem CR.set {D : Nat} {x u : Nat → Int32} (C : CR D x u) {i : Nat} (hi : i < D) (hD : D ≤ 10) (k : Nat) (hk : k = 1 ∨ k = 4) (h0 : u (30 + 5 * i) = 0) : CR D (upd x k (x k ||| ((1 : Int32) <<< (nI i &&& 31)))) (upd u (30 + 5 * i) (nI k)) := by
  have hu : ∀ j, upd u (30 + 5 * i) (nI k) (30 + 5 * j) = if j = i then nI k else u (30 + 5 * j) := fun j => by
    by_cases h : j = i
    · subst h; rw [if_pos rfl, p_us]
    · rw [if_neg h, upd_ne (by omega)]
  refine ⟨?_, fun j hj => ?_⟩
  · rw [upd_ne (by omega), upd_ne (by omega)]; exact C.1
  obtain ⟨c1, c2, c3, c4⟩ := C.2 j hj
  rw [hu]
  by_cases hji : j = i
  · subst hji
    rw [if_pos rfl]
    rw [h0, decide_eq_true hi] at c1 c2 c3 c4
    rw [decide_eq_true hi]
    rcases hk with h | h <;> subst h
    · rw [p_us, upd_ne (by omega), upd_ne (by omega), upd_ne (by omega), p_set _ (by omega) hj, c1, c2, c3, c4, (show decide (j = j) = true from decide_eq_true rfl)]
      decide
    · rw [p_us, upd_ne (by omega), upd_ne (by omega), upd_ne (by omega), p_set _ (by omega) hj, c1, c2, c3, c4, (show decide (j = j) = true from decide_eq_true rfl)]
      decide
  · rw [if_neg hji]
    rcases hk with h | h <;> subst h
    · rw [p_us, upd_ne (by omega), upd_ne (by omega), upd_ne (by omega), p_set _ (by omega) hj, decide_eq_false hji, Bool.or_false]
      exact ⟨c1, c2, c3, c4⟩
    · rw [p_us, upd_ne (by omega), upd_ne (by omega), upd_ne (by omega), p_set _ (by omega) hj, decide_eq_false hji, Bool.or_false]
      exact ⟨c1, c2, c3, c4⟩
theorem CR.mov {D : Nat} {x u : Nat → Int32} (C : CR D x u) {i : Nat} (hi : i < D) (hD : D ≤ 10) (k : Nat) (hk : k = 2 ∨ k = 3) (h0 : u (30 + 5 * i) = 1) : CR D (upd (upd x 1 (x 1 &&& (((1 : Int32) <<< (nI i &&& 31)) ^^^ (-1 : Int32)))) k (x k ||| ((1 : Int32) <<< (nI i &&& 31)))) (upd u (30 + 5 * i) (nI k)) := by
  have hu : ∀ j, upd u (30 + 5 * i) (nI k) (30 + 5 * j) = if j = i then nI k else u (30 + 5 * j) := fun j => by
    by_cases h : j = i
    · subst h; rw [if_pos rfl, p_us]
    · rw [if_neg h, upd_ne (by omega)]
  refine ⟨?_, fun j hj => ?_⟩
  · rw [upd_ne (by omega), upd_ne (by omega), upd_ne (by omega)]; exact C.1
  obtain ⟨c1, c2, c3, c4⟩ := C.2 j hj
  rw [hu]
  by_cases hji : j = i
  · subst hji
    rw [if_pos rfl]
    rw [h0, decide_eq_true hi] at c1 c2 c3 c4
    rw [decide_eq_true hi]
    rcases hk with h | h <;> subst h
    · rw [upd_ne (by omega), p_us, p_us, upd_ne (by omega), upd_ne (by omega), upd_ne (by omega), upd_ne (by omega), p_clr _ (by omega) hj, p_set _ (by omega) hj, c1, c2, c3, c4, (show decide (j = j) = true from decide_eq_true rfl)]
      decide
    · rw [upd_ne (by omega), p_us, p_us, upd_ne (by omega), upd_ne (by omega), upd_ne (by omega), upd_ne (by omega), p_clr _ (by omega) hj, p_set _ (by omega) hj, c1, c2, c3, c4, (show decide (j = j) = true from decide_eq_true rfl)]
      decide
  · rw [if_neg hji]
    rcases hk with h | h <;> subst h
    · rw [upd_ne (by omega), p_us, p_us, upd_ne (by omega), upd_ne (by omega), upd_ne (by omega), upd_ne (by omega), p_clr _ (by omega) hj, p_set _ (by omega) hj, decide_eq_false hji, Bool.not_false, Bool.and_true, Bool.or_false]
      exact ⟨c1, c2, c3, c4⟩
    · rw [upd_ne (by omega), p_us, p_us, upd_ne (by omega), upd_ne (by omega), upd_ne (by omega), upd_ne (by omega), p_clr _ (by omega) hj, p_set _ (by omega) hj, decide_eq_false hji, Bool.not_false, Bool.and_true, Bool.or_false]
      exact ⟨c1, c2, c3, c4⟩
/-- two runs beside each other: one's loop, and steps -/
theorem p_loopR {α σ β : Type} (L : Nat → Int32 → α → Option β) (K : α → Option β) (D : Nat) (f : Nat → σ → σ) (R : Nat → α → σ → Prop) (hx : ∀ n x y, R D x y → L (n + 1) (nI D) x = K x) (hs : ∀ n i x y, i < D → R i x y → ∃ x', L (n + 1) (nI i) x = L n (nI (i + 1)) x' ∧ R (i + 1) x' (f i y)) : ∀ (j i n : Nat) (x : α) (y : σ), i + j = D → j < n → R i x y → ∃ x', L n (nI i) x = K x' ∧ R D x' (p_it f i j y)
  | 0, i, n, x, y, h1, h2, h3 => by
    obtain ⟨n, rfl⟩ : ∃ q, n = q + 1 := ⟨n - 1, by omega⟩
    rw [Nat.add_zero] at h1
    subst h1
    exact ⟨x, hx n x y h3, h3⟩
  | j + 1, i, n, x, y, h1, h2, h3 => by
    obtain ⟨n, rfl⟩ : ∃ q, n = q + 1 := ⟨n - 1, by omega⟩
    obtain ⟨x', e1, h4⟩ := hs n i x y (by omega) h3
    obtain ⟨z, e2, h5⟩ := p_loopR L K D f R hx hs j (i + 1) n x' (f i y) (by omega) (by omega) h4
    exact ⟨z, by rw [e1]; exact e2, h5⟩
/-- what a World says of people and deeds, against the row s: w is its place -/
def RB (m : lu_M) (w : Nat) (s : Nat → Int32) : Prop :=
  m w 0 = s 0 ∧ m w 2 = s 5 ∧ m w 9 = s 2 ∧ (∀ p, p < 6 → m (w + 1 + 1 + p) 1 = nI p) ∧
  (∀ p, p < 6 → p < s_P s → m (w + 1 + 1 + p) 0 = s (8 + 3 * p) ∧ m (w + 1 + 1 + p) 2 = s (9 + 3 * p) ∧ m (w + 1 + 1 + p) 3 = s (10 + 3 * p)) ∧
  (∀ d, d < s_D s → m (w + 8) d = s (26 + 5 * d) ∧ m (w + 9) d = s (27 + 5 * d) ∧ m (w + 10) d = s (28 + 5 * d) ∧ m (w + 11) d = s (29 + 5 * d) ∧ m (w + 12) d = nI (s_due s d)) ∧
  (∀ p, p < 6 → ∀ i, i < 32 → bt (m (w + 13) p) i = (decide (i < s_D s) && decide (s (26 + 5 * i) = nI p)))
theorem RB.cnt {m : lu_M} {w : Nat} {s : Nat → Int32} (B : RB m w s) : m w 0 = s 0 := B.1
theorem RB.ded {m : lu_M} {w : Nat} {s : Nat → Int32} (B : RB m w s) : m w 2 = s 5 := B.2.1
theorem RB.en {m : lu_M} {w : Nat} {s : Nat → Int32} (B : RB m w s) : m w 9 = s 2 := B.2.2.1
theorem RB.num {m : lu_M} {w : Nat} {s : Nat → Int32} (B : RB m w s) {p : Nat} (h : p < 6) : m (w + 1 + 1 + p) 1 = nI p := B.2.2.2.1 p h
theorem RB.per {m : lu_M} {w : Nat} {s : Nat → Int32} (B : RB m w s) {p : Nat} (h : p < 6) (h2 : p < s_P s) : m (w + 1 + 1 + p) 0 = s (8 + 3 * p) ∧ m (w + 1 + 1 + p) 2 = s (9 + 3 * p) ∧ m (w + 1 + 1 + p) 3 = s (10 + 3 * p) := B.2.2.2.2.1 p h h2
theorem RB.dd {m : lu_M} {w : Nat} {s : Nat → Int32} (B : RB m w s) {d : Nat} (h : d < s_D s) : m (w + 8) d = s (26 + 5 * d) ∧ m (w + 9) d = s (27 + 5 * d) ∧ m (w + 10) d = s (28 + 5 * d) ∧ m (w + 11) d = s (29 + 5 * d) ∧ m (w + 12) d = nI (s_due s d) := B.2.2.2.2.2.1 d h
theorem RB.mi {m : lu_M} {w : Nat} {s : Nat → Int32} (B : RB m w s) {p : Nat} (h : p < 6) {i : Nat} (h2 : i < 32) : bt (m (w + 13) p) i = (decide (i < s_D s) && decide (s (26 + 5 * i) = nI p)) := B.2.2.2.2.2.2 p h i h2
/-- the rows of a World but for its line and its facts -/
def FR (w : Nat) (m m' : lu_M) : Prop := ∀ a, w ≤ a → a < w + 36 → a ≠ w + 28 → a ≠ w + 35 → m' a = m a
theorem s_due_of {s u : Nat → Int32} (I : SI s) (E : SE s u) {d : Nat} (h : d < s_D s) : s_due u d = s_due s d := by
  have hP := I.P6
  obtain ⟨-, l1⟩ := I.of h
  have h26 : u (26 + 5 * d) = s (26 + 5 * d) := E.de (w := 0) (by omega)
  have h27 : u (27 + 5 * d) = s (27 + 5 * d) := E.de (w := 1) (by omega)
  unfold s_due
  rw [s_v_of h26, s_v_of h27, s_v_of (u := u) (s := s) (i := 8 + 3 * s_v s (26 + 5 * d)) (E.lo (by omega) (by omega) (by omega)), s_v_of (u := u) (s := s) (i := 9 + 3 * s_v s (26 + 5 * d)) (E.lo (by omega) (by omega) (by omega))]
theorem RB.tr {m m' : lu_M} {w : Nat} {s : Nat → Int32} (B : RB m w s) (F : FR w m m') : RB m' w s := by
  refine ⟨?_, ?_, ?_, fun p hp => ?_, fun p h6 hp => ?_, fun d hd => ?_, fun p hp => ?_⟩
  · rw [F w (by omega) (by omega) (by omega) (by omega)]; exact B.cnt
  · rw [F w (by omega) (by omega) (by omega) (by omega)]; exact B.ded
  · rw [F w (by omega) (by omega) (by omega) (by omega)]; exact B.en
  · rw [F (w + 1 + 1 + p) (by omega) (by omega) (by omega) (by omega)]; exact B.num hp
  · rw [F (w + 1 + 1 + p) (by omega) (by omega) (by omega) (by omega)]; exact B.per h6 hp
  · rw [F (w + 8) (by omega) (by omega) (by omega) (by omega), F (w + 9) (by omega) (by omega) (by omega) (by omega), F (w + 10) (by omega) (by omega) (by omega) (by omega), F (w + 11) (by omega) (by omega) (by omega) (by omega), F (w + 12) (by omega) (by omega) (by omega) (by omega)]
    exact B.dd hd
  · rw [F (w + 13) (by omega) (by omega) (by omega) (by omega)]
    exact fun i hi => B.mi hp hi
/-- the places of s that a year changes don't stand in RB -/
theorem RB.se {m : lu_M} {w : Nat} {s u : Nat → Int32} (B : RB m w s) (I : SI s) (E : SE s u) : RB m w u := by
  have hP := I.P6
  refine ⟨?_, ?_, ?_, fun p hp => B.num hp, fun p h6 hp => ?_, fun d hd => ?_, fun p hp i hi => ?_⟩
  · rw [E.lo (by omega) (by omega) (by omega)]; exact B.cnt
  · rw [E.lo (by omega) (by omega) (by omega)]; exact B.ded
  · rw [E.lo (by omega) (by omega) (by omega)]; exact B.en
  · rw [E.P] at hp
    rw [E.lo (by omega) (by omega) (by omega), E.lo (by omega) (by omega) (by omega), E.lo (by omega) (by omega) (by omega)]; exact B.per h6 hp
  · rw [E.D] at hd
    have h26 : u (26 + 5 * d) = s (26 + 5 * d) := E.de (w := 0) (by omega)
    have h27 : u (27 + 5 * d) = s (27 + 5 * d) := E.de (w := 1) (by omega)
    have h28 : u (28 + 5 * d) = s (28 + 5 * d) := E.de (w := 2) (by omega)
    have h29 : u (29 + 5 * d) = s (29 + 5 * d) := E.de (w := 3) (by omega)
    rw [h26, h27, h28, h29, s_due_of I E hd]
    exact B.dd hd
  · have h26 : u (26 + 5 * i) = s (26 + 5 * i) := E.de (w := 0) (by omega)
    rw [E.D, h26]
    exact B.mi hp hi
/-- a line's place: a World's own, or none of a World's -/
def LN (w c : Nat) : Prop := c = w + 28 ∨ c < w ∨ w + 36 ≤ c
theorem FR.rf (w : Nat) (m : lu_M) : FR w m m := fun _ _ _ _ _ => rfl
theorem FR.ln {w c : Nat} {m m' : lu_M} (F : FR w m m') (h : LN w c) (x : Nat → Int32) : FR w m (p_rw m' c x) := fun a h1 h2 h3 h4 => by
  rw [p_rw_n (by rcases h with h | h | h <;> omega)]
  exact F a h1 h2 h3 h4
theorem FR.fa {w : Nat} {m m' : lu_M} (F : FR w m m') (x : Nat → Int32) : FR w m (p_rw m' (w + 35) x) := fun a h1 h2 h3 h4 => by
  rw [p_rw_n (by omega)]
  exact F a h1 h2 h3 h4

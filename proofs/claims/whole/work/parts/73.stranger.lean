/-! THE PURE PART: strangers, whether a report is so -/
def s_un (k t wt b : Nat) : Nat → Nat → Bool
  | 0, _ => false
  | j + 1, y => if b < y then false else if wt ≤ s_pull k t y then true else s_un k t wt b j (y + 1)
theorem s_un_hi (k t wt b : Nat) : ∀ (j y : Nat), b < y → s_un k t wt b j y = false
  | 0, _, _ => rfl
  | j + 1, y, h => by
    unfold s_un
    rw [if_pos h]
theorem s_un_s (k t wt b j y : Nat) : s_un k t wt b (j + 1) y = (if b < y then false else if wt ≤ s_pull k t y then true else s_un k t wt b j (y + 1)) := rfl
def s_true (s : Nat → Int32) (k g t r : Nat) : Bool := decide (s_un k t (s_v s (112 + 4 * r)) (s_v s (114 + 4 * r)) (40 - (s_v s (113 + 4 * r) + s_term k g)) (s_v s (113 + 4 * r) + s_term k g) = decide (s (115 + 4 * r) = 1))
theorem k_undN {m : lu_M} {ro k t wt b : Nat} (hk : k ≤ 5) (ht : t ≤ 9) (hwt : wt ≤ 9) (hb : b ≤ 31) (e0 : m ro 0 = nI k) (e3 : m ro 3 = nI t) (a2 : Int32) : ∀ (j y q : Nat), y + j = 40 → j < q → f10_isUndoneBy_b8 (f10_isUndoneBy_b24 ro (nI wt) a2 (nI b)) (f10_isUndoneBy_b32 ro (nI wt) a2 (nI b)) ro (nI wt) a2 (nI b) q (nI y) m = some (p_b (s_un k t wt b j y), m)
  | 0, y, q, h, hq => by
    obtain ⟨q, rfl⟩ : ∃ r, q = r + 1 := ⟨q - 1, by omega⟩
    show f10_isUndoneBy_b8B _ _ _ _ _ _ _ _ _ = _
    unfold f10_isUndoneBy_b8B f10_isUndoneBy_b32
    rw [q_lt (by omega) (by omega), if_pos (by omega)]
    rfl
  | j + 1, y, q, h, hq => by
    obtain ⟨q, rfl⟩ : ∃ r, q = r + 1 := ⟨q - 1, by omega⟩
    have hp := s_pull_le (k := k) (y := y) ht
    have ih := k_undN hk ht hwt hb e0 e3 a2 j (y + 1) q (by omega) (by omega)
    show f10_isUndoneBy_b8B _ _ _ _ _ _ _ _ _ = _
    unfold f10_isUndoneBy_b8B f10_isUndoneBy_b24 f10_isUndoneBy_b32 s_un
    rw [q_lt (by omega) (by omega)]
    by_cases h1 : b < y
    · rw [if_pos h1, if_pos h1]; rfl
    · rw [if_neg h1, if_neg h1, k_pull ro m hk ht (by omega) e0 e3, p_bi, q_lt (by omega) (by omega), p_next]
      by_cases h2 : wt ≤ s_pull k t y
      · rw [if_neg (by omega), if_pos h2]; rfl
      · rw [if_pos (by omega), if_neg h2]
        exact ih
theorem k_und {m : lu_M} {ro k g t wt y0 b : Nat} (hk : k ≤ 5) (hg1 : 1 ≤ g) (hg : g ≤ 9) (ht : t ≤ 9) (hwt : wt ≤ 9) (hy : y0 ≤ 15) (hb : b ≤ 31) (e0 : m ro 0 = nI k) (e2 : m ro 2 = nI g) (e3 : m ro 3 = nI t) : f10_isUndoneBy ro (nI wt) (nI y0) (nI b) m = some (p_b (s_un k t wt b (40 - (y0 + s_term k g)) (y0 + s_term k g)), m) := by
  have h1 := s_term_le k g hg
  unfold f10_isUndoneBy
  rw [k_term ro m hk hg1 hg e0 e2, p_bi, nI_add, p_nm]
  exact k_undN hk ht hwt hb e0 e3 _ _ _ _ (by omega) (p_fu (by omega))
/-- the reports that aren't so -/
def s_wr (s : Nat → Int32) (k g t R : Nat) : Int32 := p_it (fun r x => if s_true s k g t r then x else x ||| ((1 : Int32) <<< (nI r &&& 31))) 0 R 0
theorem wr_bit (s : Nat → Int32) (k g t : Nat) {R : Nat} (hR : R ≤ 6) {i : Nat} (hi : i < 32) : bt (s_wr s k g t R) i = (decide (i < R) && !s_true s k g t i) := by
  have e := p_it_inv (f := fun r x => if s_true s k g t r then x else x ||| ((1 : Int32) <<< (nI r &&& 31))) (I := fun r x => bt x i = (decide (i < r) && !s_true s k g t i)) R 0 0 (by rw [b_0, decide_eq_false (by omega)]; rfl) (fun r x h1 h2 h3 => by
    show bt (if s_true s k g t r then x else x ||| ((1 : Int32) <<< (nI r &&& 31))) i = _
    cases hs : s_true s k g t r
    · rw [if_neg p_ff, p_set x (by omega) hi, h3]
      by_cases e : i = r
      · subst e
        rw [hs, decide_eq_true (p := i < i + 1) (by omega)]; simp
      · rw [decide_eq_false e, Bool.or_false]
        by_cases hl : i < r
        · rw [decide_eq_true hl, decide_eq_true (p := i < r + 1) (by omega)]
        · rw [decide_eq_false hl, decide_eq_false (p := i < r + 1) (by omega)]
    · rw [if_pos rfl, h3]
      by_cases e : i = r
      · subst e
        rw [hs]; simp
      · by_cases hl : i < r
        · rw [decide_eq_true hl, decide_eq_true (p := i < r + 1) (by omega)]
        · rw [decide_eq_false hl, decide_eq_false (p := i < r + 1) (by omega)])
  rw [Nat.zero_add] at e
  exact e
theorem WX.rp {m : lu_M} {w : Nat} {s : Nat → Int32} (X : WX m w s) {r : Nat} (hr : r < s_v s 6) : m (w + 14 + 1 + r) 0 = nI (s_v s (112 + 4 * r)) ∧ m (w + 14 + 1 + r) 1 = nI (s_v s (113 + 4 * r)) ∧ m (w + 14 + 1 + r) 2 = nI (s_v s (114 + 4 * r)) ∧ m (w + 14 + 1 + r) 3 = s (115 + 4 * r) ∧ s_v s (112 + 4 * r) ≤ 9 ∧ s_v s (113 + 4 * r) ≤ 15 ∧ s_v s (114 + 4 * r) ≤ 31 ∧ s (112 + 4 * r) = nI (s_v s (112 + 4 * r)) ∧ s (113 + 4 * r) = nI (s_v s (113 + 4 * r)) ∧ s (114 + 4 * r) = nI (s_v s (114 + 4 * r)) := by
  have h6 := X.2.2.1.2.2
  obtain ⟨b1, b2, b3, b4, b5⟩ := X.2.2.2.1 r (by omega) hr
  refine ⟨(b1 0 (by omega)).trans ?_, (b1 1 (by omega)).trans ?_, (b1 2 (by omega)).trans ?_, (b1 3 (by omega)).trans ?_, b2.2.2, b3.2.2, b4.2.2, b2.1, b3.1, b4.1⟩
  · exact b2.1
  · rw [show 112 + 4 * r + 1 = 113 + 4 * r by omega]; exact b3.1
  · rw [show 112 + 4 * r + 2 = 114 + 4 * r by omega]; exact b4.1
  · rw [show 112 + 4 * r + 3 = 115 + 4 * r by omega]
theorem k_wrong {m : lu_M} {s : Nat → Int32} (X : WX m 1 s) {ro k g t : Nat} (hk : k ≤ 5) (hg1 : 1 ≤ g) (hg : g ≤ 9) (ht : t ≤ 9) (e0 : m ro 0 = nI k) (e2 : m ro 2 = nI g) (e3 : m ro 3 = nI t) : f10_wrongReports 1 ro m = some (s_wr s k g t (s_v s 6), m) := by
  have hR := X.2.2.1.2.2
  have h11 : m 1 11 = nI (s_v s 6) := X.2.1.trans X.2.2.1.1
  have hl := (p_loop (fun q i (x : Int32) => f10_wrongReports_b4 (f10_wrongReports_b76 1 ro) 1 ro q x i m) (fun x => some (x, m)) (s_v s 6) (fun r x => if s_true s k g t r then x else x ||| ((1 : Int32) <<< (nI r &&& 31))) (fun _ _ => True)
    (fun q x _ => by
      show f10_wrongReports_b4B _ _ _ _ _ _ _ = _
      unfold f10_wrongReports_b4B f10_wrongReports_b76
      rw [h11, if_pos (Int32.le_refl _)])
    (fun q i x hi _ => by
      obtain ⟨c0, c1, c2, c3, l0, l1, l2, -⟩ := X.rp hi
      show f10_wrongReports_b4B _ _ _ _ _ _ _ = _
      unfold f10_wrongReports_b4B f10_wrongReports_b61 f10_wrongReports_b70 s_true
      rw [h11, q_le (by omega) (by omega), if_neg (by omega), p_gd (by omega) (by omega), p_gd (by omega) (by omega), p_gd (by omega) (by omega), nI_clamp (by omega), c0, c1, c2, k_und hk hg1 hg ht l0 l1 l2 e0 e2 e3, p_bi, p_gd (by omega) (by omega), c3, p_nm, p_next]
      generalize s_un k t (s_v s (112 + 4 * i)) (s_v s (114 + 4 * i)) (40 - (s_v s (113 + 4 * i) + s_term k g)) (s_v s (113 + 4 * i) + s_term k g) = z
      by_cases hw : s (115 + 4 * i) = 1
      · rw [if_pos hw, decide_eq_true hw]
        cases z
        · rw [if_neg (by decide), if_neg (by decide)]
        · rw [if_pos (by decide), if_pos (by decide)]
      · rw [if_neg hw, decide_eq_false hw]
        cases z
        · rw [if_pos (by decide), if_pos (by decide)]
        · rw [if_neg (by decide), if_neg (by decide)])
    (fun _ _ _ _ => trivial) (s_v s 6) 0 lu_fu 0 (by omega) (p_fu (by omega)) trivial).1
  exact hl
/-! the reference -/
theorem t_und56 {n : lu_M} {k t b r : Nat} (a1 a3 : Int32) (hb : b ≤ 31) (hr : r ≤ 6) (c2 : n 1 (114 + 4 * r) = nI b) {y : Nat} (hy : y ≤ 100) : f12_isSoBy_b56 a1 (nI k) a3 (nI t) (nI (112 + 4 * r)) (nI y) n = f12_isSoBy_b82 a1 (nI k) a3 (nI t) (nI (112 + 4 * r)) (p_b (decide (y ≤ b))) n := by
  unfold f12_isSoBy_b56 f12_isSoBy_b81
  rw [show (31 : Int32) = nI 31 from rfl, q_lt (by omega) (by omega), show (2 : Int32) = nI 2 from rfl, nI_add, p_gd (by omega) (by omega), nI_clamp (by omega), show 112 + 4 * r + 2 = 114 + 4 * r by omega, c2, q_lt (by omega) (by omega)]
  by_cases h1 : 31 < y
  · rw [if_pos h1, decide_eq_false (show ¬ y ≤ b by omega)]; rfl
  rw [if_neg h1]
  by_cases h3 : b < y
  · rw [if_pos h3, decide_eq_false (show ¬ y ≤ b by omega)]; rfl
  · rw [if_neg h3, decide_eq_true (show y ≤ b by omega)]; rfl
theorem t_undN {n : lu_M} {k t wt b r : Nat} {a1 : Int32} (hk : k ≤ 5) (ht : t ≤ 9) (hwt : wt ≤ 9) (hb : b ≤ 31) (hr : r ≤ 6) (c0 : n 1 (112 + 4 * r) = nI wt) (c2 : n 1 (114 + 4 * r) = nI b) (a3 : Int32) : ∀ (j y q : Nat), y + j = 40 → j < q → f12_isSoBy_b25 (f12_isSoBy_b56 a1 (nI k) a3 (nI t)) a1 (nI k) a3 (nI t) q (nI (112 + 4 * r)) (nI y) n = f12_isSoBy_b82 a1 (nI k) a3 (nI t) (nI (112 + 4 * r)) (p_b (s_un k t wt b j y)) n
  | 0, y, q, h, hq => by
    obtain ⟨q, rfl⟩ : ∃ r, q = r + 1 := ⟨q - 1, by omega⟩
    show f12_isSoBy_b25B _ _ _ _ _ _ _ _ _ = _
    unfold f12_isSoBy_b25B
    rw [show (31 : Int32) = nI 31 from rfl, q_lt (by omega) (by omega), if_pos (by omega), t_und56 a1 a3 hb hr c2 (by omega), decide_eq_false (show ¬ y ≤ b by omega)]
    rfl
  | j + 1, y, q, h, hq => by
    obtain ⟨q, rfl⟩ : ∃ r, q = r + 1 := ⟨q - 1, by omega⟩
    have hp := s_pull_le (k := k) (y := y) ht
    have ih := t_undN (a1 := a1) hk ht hwt hb hr c0 c2 a3 j (y + 1) q (by omega) (by omega)
    show f12_isSoBy_b25B _ _ _ _ _ _ _ _ _ = _
    unfold f12_isSoBy_b25B
    rw [show (31 : Int32) = nI 31 from rfl, q_lt (by omega) (by omega), t_und56 a1 a3 hb hr c2 (by omega), t_pullOf n (by omega) ht (by omega), p_bi, p_gd (by omega) (by omega), nI_clamp (by omega), c0, q_le (by omega) (by omega), t_und56 a1 a3 hb hr c2 (by omega), p_next, ih]
    by_cases h1 : 31 < y
    · rw [if_pos h1, s_un_hi k t wt b (j + 1) y (by omega), decide_eq_false (show ¬ y ≤ b by omega)]
    rw [if_neg h1, s_un_s]
    by_cases h2 : wt ≤ s_pull k t y
    · rw [if_pos h2]
      by_cases h3 : b < y
      · rw [if_pos h3, decide_eq_false (show ¬ y ≤ b by omega)]
      · rw [if_neg h3, if_pos h2, decide_eq_true (show y ≤ b by omega)]
    · rw [if_neg h2]
      by_cases h3 : b < y
      · rw [if_pos h3, s_un_hi k t wt b j (y + 1) (by omega)]
      · rw [if_neg h3, if_neg h2]
theorem t_isSoBy {n m : lu_M} (X : WX m 1 (n 1)) {k g t r : Nat} (hr : r < s_v (n 1) 6) (hk : k ≤ 5) (hg1 : 1 ≤ g) (hg : g ≤ 9) (ht : t ≤ 9) : f12_isSoBy (nI r) (nI k) (nI g) (nI t) n = some (p_b (s_true (n 1) k g t r), n) := by
  have hR := X.2.2.1.2.2
  have hT := s_term_le k g hg
  obtain ⟨-, -, -, -, l0, l1, l2, d0, d1, d2⟩ := X.rp hr
  have e := t_undN (n := n) (a1 := nI r) hk ht l0 l2 (show r ≤ 6 by omega) d0 d2 (nI g) (40 - (s_v (n 1) (113 + 4 * r) + s_term k g)) (s_v (n 1) (113 + 4 * r) + s_term k g) lu_fu (by omega) (p_fu (by omega))
  unfold f12_isSoBy
  rw [show (112 : Int32) + ((4 : Int32) * nI r) = nI (112 + 4 * r) by rw [show (112 : Int32) = nI 112 from rfl, show (4 : Int32) = nI 4 from rfl, pk_mul, nI_add], p_nm, p_next, p_gd (by omega) (by omega), t_termOf n (by omega) hg1 hg, p_bi, nI_clamp (by omega), show 112 + 4 * r + 1 = 113 + 4 * r by omega, d1, nI_add, p_nm, e]
  unfold f12_isSoBy_b82 f12_isSoBy_b104 f12_isSoBy_b112 s_true
  generalize s_un k t (s_v (n 1) (112 + 4 * r)) (s_v (n 1) (114 + 4 * r)) (40 - (s_v (n 1) (113 + 4 * r) + s_term k g)) (s_v (n 1) (113 + 4 * r) + s_term k g) = z
  rw [show (3 : Int32) = nI 3 from rfl, nI_add, p_gd (by omega) (by omega), nI_clamp (by omega), show 112 + 4 * r + 3 = 115 + 4 * r by omega, p_g1, p_g0]
  by_cases hw : n 1 (115 + 4 * r) = 1
  · rw [if_pos hw, decide_eq_true hw]
    cases z
    · rw [if_neg (by decide)]; rfl
    · rw [if_pos (by decide)]; rfl
  · rw [if_neg hw, decide_eq_false hw]
    cases z
    · rw [if_pos (by decide)]; rfl
    · rw [if_neg (by decide)]; rfl
def s_fit (s : Nat → Int32) (but : Int32) (k g t : Nat) : Nat → Nat → Bool
  | _, 0 => true
  | r, j + 1 => (decide (nI r = but) || s_true s k g t r) && s_fit s but k g t (r + 1) j
theorem s_fit_iff (s : Nat → Int32) (but : Int32) (k g t : Nat) : ∀ (j r : Nat), s_fit s but k g t r j = true ↔ ∀ i, r ≤ i → i < r + j → nI i = but ∨ s_true s k g t i = true
  | 0, r => ⟨fun _ i h1 h2 => absurd h2 (by omega), fun _ => rfl⟩
  | j + 1, r => by
    unfold s_fit
    rw [Bool.and_eq_true, Bool.or_eq_true, decide_eq_true_eq, s_fit_iff s but k g t j (r + 1)]
    constructor
    · rintro ⟨h1, h2⟩ i h3 h4
      by_cases e : i = r
      · subst e; exact h1
      · exact h2 i (by omega) (by omega)
    · intro h
      exact ⟨h r (by omega) (by omega), fun i h1 h2 => h i (by omega) (by omega)⟩
theorem t_fitN {n m : lu_M} (X : WX m 1 (n 1)) {k g t : Nat} (but : Int32) (hk : k ≤ 5) (hg1 : 1 ≤ g) (hg : g ≤ 9) (ht : t ≤ 9) : ∀ (j r q : Nat), r + j = s_v (n 1) 6 → j + 1 < q → f12_isFit_b6 (f12_isFit_b55 (nI k) (nI g) (nI t) but) (nI k) (nI g) (nI t) but q 1 (nI r) n = some (p_b (s_fit (n 1) but k g t r j), n)
  | 0, r, q, h, hq => by
    have hR := X.2.2.1.2.2
    obtain ⟨q, rfl⟩ : ∃ r, q = r + 1 := ⟨q - 1, by omega⟩
    show f12_isFit_b6B _ _ _ _ _ _ _ _ _ = _
    unfold f12_isFit_b6B f12_isFit_b55
    rw [X.2.2.1.1, q_le (by omega) (by omega), if_pos (by omega), p_g1]
    rfl
  | j + 1, r, q, h, hq => by
    have hR := X.2.2.1.2.2
    obtain ⟨q, rfl⟩ : ∃ r, q = r + 1 := ⟨q - 1, by omega⟩
    have ih := t_fitN X but hk hg1 hg ht j (r + 1) q (by omega) (by omega)
    have h0 : f12_isFit_b6 (f12_isFit_b55 (nI k) (nI g) (nI t) but) (nI k) (nI g) (nI t) but q 0 (nI (r + 1)) n = some (0, n) := by
      obtain ⟨q, rfl⟩ : ∃ r, q = r + 1 := ⟨q - 1, by omega⟩
      show f12_isFit_b6B _ _ _ _ _ _ _ _ _ = _
      unfold f12_isFit_b6B f12_isFit_b55
      rw [if_pos (show (0 : Int32) = 0 from rfl), p_g0]
      split <;> rfl
    show f12_isFit_b6B _ _ _ _ _ _ _ _ _ = _
    unfold f12_isFit_b6B f12_isFit_b42 f12_isFit_b47 s_fit
    rw [X.2.2.1.1, q_le (by omega) (by omega), if_neg (by omega), if_neg (by decide), p_next, ih]
    by_cases hb : nI r = but
    · rw [if_pos hb, decide_eq_true hb]; rfl
    · rw [if_neg hb, decide_eq_false hb, t_isSoBy X (by omega) hk hg1 hg ht, p_bi, p_if, h0]
      cases s_true (n 1) k g t r
      · rw [if_neg p_ff]; rfl
      · rw [if_pos rfl, ih]; rfl
theorem t_isFit {n m : lu_M} (X : WX m 1 (n 1)) {k g t : Nat} (but : Int32) (hk : k ≤ 5) (hg1 : 1 ≤ g) (hg : g ≤ 9) (ht : t ≤ 9) : f12_isFit (nI k) (nI g) (nI t) but n = some (p_b (s_fit (n 1) but k g t 0 (s_v (n 1) 6)), n) := by
  have hR := X.2.2.1.2.2
  exact t_fitN X but hk hg1 hg ht (s_v (n 1) 6) 0 lu_fu (by omega) (p_fu (by omega))

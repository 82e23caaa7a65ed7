/-! THE PURE PART: what World.copy leaves -/
def cpX (w a : Nat) : Prop := a < w ∨ w + 28 ≤ a
theorem cpL_row (w v p : Nat) : ∀ (c : Nat) (m : lu_M) (a : Nat), a ≠ w + 21 + 1 + p → cpL w v p c m a = m a
  | 0, _, _, _ => rfl
  | c + 1, m, a, h => by
    unfold cpL
    rw [cpL_row w v p c _ a h, lu_st_row h]
theorem cpL_val {w v p : Nat} (hd : w ≠ v) : ∀ (c : Nat) (m : lu_M) (q : Nat), c ≤ 6 → q < 6 → cpL w v p c m (w + 21 + 1 + p) q = if 6 - c ≤ q then m (v + 21 + 1 + p) q else m (w + 21 + 1 + p) q
  | 0, m, q, _, h => by
    rw [if_neg (by omega)]
    rfl
  | c + 1, m, q, hc, h => by
    unfold cpL
    rw [cpL_val hd c _ q (by omega) h, lu_st_row (by omega)]
    by_cases h1 : 6 - c ≤ q
    · rw [if_pos h1, if_pos (by omega)]
    · rw [if_neg h1]
      by_cases h2 : q = 5 - c
      · subst h2
        rw [lu_st_self, if_pos (by omega)]
      · rw [lu_st_ne h2, if_neg (by omega)]
theorem cpT_row (w v p : Nat) : ∀ (c : Nat) (m : lu_M) (a : Nat), a ≠ w + 14 + 1 + p → cpT w v p c m a = m a
  | 0, _, _, _ => rfl
  | c + 1, m, a, h => by
    unfold cpT
    rw [cpT_row w v p c _ a h, lu_st_row h]
theorem cpT_val {w v p : Nat} (hd : w ≠ v) : ∀ (c : Nat) (m : lu_M) (q : Nat), c ≤ 4 → q < 4 → cpT w v p c m (w + 14 + 1 + p) q = if 4 - c ≤ q then m (v + 14 + 1 + p) q else m (w + 14 + 1 + p) q
  | 0, m, q, _, h => by
    rw [if_neg (by omega)]
    rfl
  | c + 1, m, q, hc, h => by
    unfold cpT
    rw [cpT_val hd c _ q (by omega) h, lu_st_row (by omega)]
    by_cases h1 : 4 - c ≤ q
    · rw [if_pos h1, if_pos (by omega)]
    · rw [if_neg h1]
      by_cases h2 : q = 3 - c
      · subst h2
        rw [lu_st_self, if_pos (by omega)]
      · rw [lu_st_ne h2, if_neg (by omega)]
theorem cpTT_row (w v : Nat) : ∀ (c : Nat) (m : lu_M) (a : Nat), c ≤ 6 → (a < w + 15 ∨ w + 21 ≤ a) → cpTT w v c m a = m a
  | 0, _, _, _, _ => rfl
  | c + 1, m, a, hc, h => by
    unfold cpTT
    rw [cpTT_row w v c _ a (by omega) h, cpT_row _ _ _ _ _ _ (by omega)]
theorem cpTT_val {w v : Nat} (hd : w + 36 ≤ v ∨ v + 36 ≤ w) : ∀ (c : Nat) (m : lu_M) (p q : Nat), c ≤ 6 → p < 6 → q < 4 → cpTT w v c m (w + 14 + 1 + p) q = if 6 - c ≤ p then m (v + 14 + 1 + p) q else m (w + 14 + 1 + p) q
  | 0, m, p, q, _, h, _ => by
    rw [if_neg (by omega)]
    rfl
  | c + 1, m, p, q, hc, h, hq => by
    unfold cpTT
    rw [cpTT_val hd c _ p q (by omega) h hq, cpT_row (a := v + 14 + 1 + p) _ _ _ _ _ (by omega)]
    by_cases h1 : 6 - c ≤ p
    · rw [if_pos h1, if_pos (by omega)]
    · rw [if_neg h1]
      by_cases h2 : p = 5 - c
      · subst h2
        rw [cpT_val (by omega) 4 m q (by omega) hq, if_pos (by omega), if_pos (by omega)]
      · rw [cpT_row _ _ _ _ _ _ (by omega), if_neg (by omega)]
theorem cpD1_row (w v q j : Nat) (m : lu_M) {a : Nat} (h : a ≠ w + q) : cpD1 w v q j m a = m a := lu_st_row h
theorem cpD1_val (w v q j : Nat) (m : lu_M) (x : Nat) : cpD1 w v q j m (w + q) x = if x = j then m (v + q) j else m (w + q) x := by
  unfold cpD1
  by_cases h : x = j
  · subst h
    rw [lu_st_self, if_pos rfl]
  · rw [lu_st_ne h, if_neg h]
def cpD5 (w v j : Nat) (m : lu_M) : lu_M := cpD1 w v 12 j (cpD1 w v 11 j (cpD1 w v 10 j (cpD1 w v 9 j (cpD1 w v 8 j m))))
theorem cpD5_row (w v j : Nat) (m : lu_M) {a : Nat} (h : a < w + 8 ∨ w + 13 ≤ a) : cpD5 w v j m a = m a := by
  unfold cpD5
  rw [cpD1_row _ _ _ _ _ (by omega), cpD1_row _ _ _ _ _ (by omega), cpD1_row _ _ _ _ _ (by omega), cpD1_row _ _ _ _ _ (by omega), cpD1_row _ _ _ _ _ (by omega)]
theorem cpD5_val {w v j : Nat} (hd : w + 36 ≤ v ∨ v + 36 ≤ w) (m : lu_M) {i x : Nat} (hi : 8 ≤ i) (hi2 : i < 13) : cpD5 w v j m (w + i) x = if x = j then m (v + i) j else m (w + i) x := by
  unfold cpD5
  rcases (show i = 8 ∨ i = 9 ∨ i = 10 ∨ i = 11 ∨ i = 12 by omega) with rfl | rfl | rfl | rfl | rfl
  · rw [cpD1_row _ _ _ _ _ (by omega), cpD1_row _ _ _ _ _ (by omega), cpD1_row _ _ _ _ _ (by omega), cpD1_row _ _ _ _ _ (by omega), cpD1_val]
  · rw [cpD1_row _ _ _ _ _ (by omega), cpD1_row _ _ _ _ _ (by omega), cpD1_row _ _ _ _ _ (by omega), cpD1_val, cpD1_row (a := v + 9) _ _ _ _ _ (by omega), cpD1_row (a := w + 9) _ _ _ _ _ (by omega)]
  · rw [cpD1_row _ _ _ _ _ (by omega), cpD1_row _ _ _ _ _ (by omega), cpD1_val, cpD1_row (a := v + 10) _ _ _ _ _ (by omega), cpD1_row (a := v + 10) _ _ _ _ _ (by omega), cpD1_row (a := w + 10) _ _ _ _ _ (by omega), cpD1_row (a := w + 10) _ _ _ _ _ (by omega)]
  · rw [cpD1_row _ _ _ _ _ (by omega), cpD1_val, cpD1_row (a := v + 11) _ _ _ _ _ (by omega), cpD1_row (a := v + 11) _ _ _ _ _ (by omega), cpD1_row (a := v + 11) _ _ _ _ _ (by omega), cpD1_row (a := w + 11) _ _ _ _ _ (by omega), cpD1_row (a := w + 11) _ _ _ _ _ (by omega), cpD1_row (a := w + 11) _ _ _ _ _ (by omega)]
  · rw [cpD1_val, cpD1_row (a := v + 12) _ _ _ _ _ (by omega), cpD1_row (a := v + 12) _ _ _ _ _ (by omega), cpD1_row (a := v + 12) _ _ _ _ _ (by omega), cpD1_row (a := v + 12) _ _ _ _ _ (by omega), cpD1_row (a := w + 12) _ _ _ _ _ (by omega), cpD1_row (a := w + 12) _ _ _ _ _ (by omega), cpD1_row (a := w + 12) _ _ _ _ _ (by omega), cpD1_row (a := w + 12) _ _ _ _ _ (by omega)]
theorem cpD_s (w v c : Nat) (m : lu_M) : cpD w v (c + 1) m = cpD w v c (cpD5 w v (9 - c) m) := rfl
theorem cpD_row (w v : Nat) : ∀ (c : Nat) (m : lu_M) (a : Nat), (a < w + 8 ∨ w + 13 ≤ a) → cpD w v c m a = m a
  | 0, _, _, _ => rfl
  | c + 1, m, a, h => by rw [cpD_s, cpD_row w v c _ a h, cpD5_row _ _ _ _ h]
theorem cpD_val {w v : Nat} (hd : w + 36 ≤ v ∨ v + 36 ≤ w) : ∀ (c : Nat) (m : lu_M) (i x : Nat), c ≤ 10 → 8 ≤ i → i < 13 → x < 10 → cpD w v c m (w + i) x = if 10 - c ≤ x then m (v + i) x else m (w + i) x
  | 0, m, i, x, _, _, _, h => by
    rw [if_neg (by omega)]
    rfl
  | c + 1, m, i, x, hc, h1, h2, h => by
    rw [cpD_s, cpD_val hd c _ i x (by omega) h1 h2 h, cpD5_row (a := v + i) _ _ _ _ (by omega), cpD5_val hd m h1 h2]
    by_cases h3 : 10 - c ≤ x
    · rw [if_pos h3, if_pos (by omega)]
    · rw [if_neg h3]
      by_cases h4 : x = 9 - c
      · subst h4
        rw [if_pos rfl, if_pos (by omega)]
      · rw [if_neg h4, if_neg (by omega)]
/-- a hand anew, its row, its loans -/
def cpHa (v : Nat) (m : lu_M) (p : Nat) : Nat → Int32 := lu_hv (lu_kd (m (v + 1 + 1 + p) 0)) (nI p) (m (v + 1 + 1 + p) 2) (m (v + 1 + 1 + p) 3)
def cpH3 (w v p : Nat) (m : lu_M) : lu_M := cpL w v p 6 (cpH2 w v p (cpH1 w v p m))
theorem cpH3_row {w v p : Nat} (m : lu_M) {a : Nat} (h1 : a ≠ w + 1 + 1 + p) (h2 : a ≠ w + 13) (h3 : a ≠ w + 21 + 1 + p) : cpH3 w v p m a = m a := by
  unfold cpH3 cpH2 cpH1
  rw [cpL_row _ _ _ _ _ _ h3, lu_st_row h2, lu_hm_ne h1]
theorem cpH3_hand {w v p : Nat} (hp : p < 6) (m : lu_M) : cpH3 w v p m (w + 1 + 1 + p) = cpHa v m p := by
  unfold cpH3 cpH2 cpH1
  rw [cpL_row _ _ _ _ _ _ (by omega), lu_st_row (by omega), lu_hm_at]
  rfl
theorem cpH3_mine {w v p : Nat} (hd : w + 36 ≤ v ∨ v + 36 ≤ w) (hp : p < 6) (m : lu_M) (x : Nat) : cpH3 w v p m (w + 13) x = if x = p then m (v + 13) p else m (w + 13) x := by
  unfold cpH3 cpH2 cpH1
  rw [cpL_row _ _ _ _ _ _ (by omega)]
  by_cases h : x = p
  · subst h
    rw [lu_st_self, lu_hm_ne (by omega), if_pos rfl]
  · rw [lu_st_ne h, lu_hm_ne (by omega), if_neg h]
theorem cpH3_loan {w v p : Nat} (hd : w + 36 ≤ v ∨ v + 36 ≤ w) (hp : p < 6) (m : lu_M) {q : Nat} (hq : q < 6) : cpH3 w v p m (w + 21 + 1 + p) q = m (v + 21 + 1 + p) q := by
  unfold cpH3 cpH2 cpH1
  rw [cpL_val (by omega) 6 _ q (by omega) hq, if_pos (by omega), lu_st_row (by omega), lu_hm_ne (by omega)]
theorem cpH_s (w v c : Nat) (m : lu_M) : cpH w v (c + 1) m = cpH w v c (cpH3 w v (5 - c) m) := rfl
theorem cpH_row (w v : Nat) : ∀ (c : Nat) (m : lu_M) (a : Nat), c ≤ 6 → (a < w + 2 ∨ (w + 8 ≤ a ∧ a < w + 13) ∨ (w + 14 ≤ a ∧ a < w + 22) ∨ w + 28 ≤ a) → cpH w v c m a = m a
  | 0, _, _, _, _ => rfl
  | c + 1, m, a, hc, h => by rw [cpH_s, cpH_row w v c _ a (by omega) h, cpH3_row _ (by omega) (by omega) (by omega)]
theorem cpHa_of {v p : Nat} {m m' : lu_M} (h : m' (v + 1 + 1 + p) = m (v + 1 + 1 + p)) : cpHa v m' p = cpHa v m p := by
  unfold cpHa
  rw [h]
theorem cpH_hand {w v : Nat} (hd : w + 36 ≤ v ∨ v + 36 ≤ w) : ∀ (c : Nat) (m : lu_M) (p : Nat), c ≤ 6 → p < 6 → cpH w v c m (w + 1 + 1 + p) = if 6 - c ≤ p then cpHa v m p else m (w + 1 + 1 + p)
  | 0, m, p, _, h => by
    rw [if_neg (by omega)]
    rfl
  | c + 1, m, p, hc, h => by
    rw [cpH_s, cpH_hand hd c _ p (by omega) h, cpHa_of (cpH3_row (a := v + 1 + 1 + p) m (by omega) (by omega) (by omega))]
    by_cases h1 : 6 - c ≤ p
    · rw [if_pos h1, if_pos (by omega)]
    · rw [if_neg h1]
      by_cases h2 : p = 5 - c
      · subst h2
        rw [cpH3_hand h, if_pos (by omega)]
      · rw [cpH3_row _ (by omega) (by omega) (by omega), if_neg (by omega)]
theorem cpH_mine {w v : Nat} (hd : w + 36 ≤ v ∨ v + 36 ≤ w) : ∀ (c : Nat) (m : lu_M) (p : Nat), c ≤ 6 → p < 6 → cpH w v c m (w + 13) p = if 6 - c ≤ p then m (v + 13) p else m (w + 13) p
  | 0, m, p, _, h => by
    rw [if_neg (by omega)]
    rfl
  | c + 1, m, p, hc, h => by
    rw [cpH_s, cpH_mine hd c _ p (by omega) h, cpH3_row (a := v + 13) m (by omega) (by omega) (by omega), cpH3_mine hd (by omega)]
    by_cases h1 : 6 - c ≤ p
    · rw [if_pos h1, if_pos (by omega)]
    · rw [if_neg h1]
      by_cases h2 : p = 5 - c
      · rw [if_pos h2, if_pos (by omega), h2]
      · rw [if_neg h2, if_neg (by omega)]
theorem cpH_loan {w v : Nat} (hd : w + 36 ≤ v ∨ v + 36 ≤ w) : ∀ (c : Nat) (m : lu_M) (p q : Nat), c ≤ 6 → p < 6 → q < 6 → cpH w v c m (w + 21 + 1 + p) q = if 6 - c ≤ p then m (v + 21 + 1 + p) q else m (w + 21 + 1 + p) q
  | 0, m, p, q, _, h, _ => by
    rw [if_neg (by omega)]
    rfl
  | c + 1, m, p, q, hc, h, hq => by
    rw [cpH_s, cpH_loan hd c _ p q (by omega) h hq, cpH3_row (a := v + 21 + 1 + p) m (by omega) (by omega) (by omega)]
    by_cases h1 : 6 - c ≤ p
    · rw [if_pos h1, if_pos (by omega)]
    · rw [if_neg h1]
      by_cases h2 : p = 5 - c
      · subst h2
        rw [cpH3_loan hd h m hq, if_pos (by omega)]
      · rw [cpH3_row _ (by omega) (by omega) (by omega), if_neg (by omega)]
theorem cpF_row (w v f : Nat) (m : lu_M) {a : Nat} (h : a ≠ w) : cpF w v f m a = m a := lu_st_row h
theorem cpF_val (w v f : Nat) (m : lu_M) (x : Nat) : cpF w v f m w x = if x = f then m v f else m w x := by
  unfold cpF
  by_cases h : x = f
  · subst h
    rw [lu_st_self, if_pos rfl]
  · rw [lu_st_ne h, if_neg h]
theorem cpAll_row {w v : Nat} (m : lu_M) {a : Nat} (h : a < w ∨ w + 28 ≤ a) : cpAll w v m a = m a := by
  unfold cpAll
  rw [cpTT_row _ _ _ _ _ (by omega) (by omega), cpF_row _ _ _ _ (by omega), cpF_row _ _ _ _ (by omega), cpF_row _ _ _ _ (by omega), cpD_row _ _ _ _ _ (by omega), cpF_row _ _ _ _ (by omega), cpH_row _ _ _ _ _ (by omega) (by omega), cpF_row _ _ _ _ (by omega)]
theorem cpAll_own {w v : Nat} (hd : w + 36 ≤ v ∨ v + 36 ≤ w) (m : lu_M) {f : Nat} (h : f = 0 ∨ f = 2 ∨ f = 9 ∨ f = 10 ∨ f = 11) : cpAll w v m w f = m v f := by
  have e1 : ∀ x, cpF w v 0 m w x = if x = 0 then m v 0 else m w x := fun x => cpF_val ..
  unfold cpAll
  rw [cpTT_row _ _ _ _ _ (by omega) (by omega), cpF_val, cpF_row (a := v) _ _ _ _ (by omega), cpF_row (a := v) _ _ _ _ (by omega), cpD_row (a := v) _ _ _ _ (by omega), cpF_row (a := v) _ _ _ _ (by omega), cpH_row (a := v) _ _ _ _ (by omega) (by omega), cpF_row (a := v) _ _ _ _ (by omega), cpF_val, cpF_row (a := v) _ _ _ _ (by omega), cpD_row (a := v) _ _ _ _ (by omega), cpF_row (a := v) _ _ _ _ (by omega), cpH_row (a := v) _ _ _ _ (by omega) (by omega), cpF_row (a := v) _ _ _ _ (by omega), cpF_val, cpD_row (a := v) _ _ _ _ (by omega), cpF_row (a := v) _ _ _ _ (by omega), cpH_row (a := v) _ _ _ _ (by omega) (by omega), cpF_row (a := v) _ _ _ _ (by omega), cpD_row (a := w) _ _ _ _ (by omega), cpF_val, cpH_row (a := v) _ _ _ _ (by omega) (by omega), cpF_row (a := v) _ _ _ _ (by omega), cpH_row (a := w) _ _ _ _ (by omega) (by omega), e1]
  rcases h with rfl | rfl | rfl | rfl | rfl <;> simp
theorem cpAll_hand {w v : Nat} (hd : w + 36 ≤ v ∨ v + 36 ≤ w) (m : lu_M) {p : Nat} (hp : p < 6) : cpAll w v m (w + 1 + 1 + p) = cpHa v m p := by
  unfold cpAll
  rw [cpTT_row _ _ _ _ _ (by omega) (by omega), cpF_row _ _ _ _ (by omega), cpF_row _ _ _ _ (by omega), cpF_row _ _ _ _ (by omega), cpD_row _ _ _ _ _ (by omega), cpF_row _ _ _ _ (by omega), cpH_hand hd 6 _ p (by omega) hp, if_pos (by omega), cpHa_of (cpF_row _ _ _ _ (by omega))]
theorem cpAll_deed {w v : Nat} (hd : w + 36 ≤ v ∨ v + 36 ≤ w) (m : lu_M) {i x : Nat} (h1 : 8 ≤ i) (h2 : i < 13) (hx : x < 10) : cpAll w v m (w + i) x = m (v + i) x := by
  unfold cpAll
  rw [cpTT_row _ _ _ _ _ (by omega) (by omega), cpF_row _ _ _ _ (by omega), cpF_row _ _ _ _ (by omega), cpF_row _ _ _ _ (by omega), cpD_val hd 10 _ i x (by omega) h1 h2 hx, if_pos (by omega), cpF_row _ _ _ _ (by omega), cpH_row _ _ _ _ _ (by omega) (by omega), cpF_row _ _ _ _ (by omega)]
theorem cpAll_mine {w v : Nat} (hd : w + 36 ≤ v ∨ v + 36 ≤ w) (m : lu_M) {p : Nat} (hp : p < 6) : cpAll w v m (w + 13) p = m (v + 13) p := by
  unfold cpAll
  rw [cpTT_row _ _ _ _ _ (by omega) (by omega), cpF_row _ _ _ _ (by omega), cpF_row _ _ _ _ (by omega), cpF_row _ _ _ _ (by omega), cpD_row _ _ _ _ _ (by omega), cpF_row _ _ _ _ (by omega), cpH_mine hd 6 _ p (by omega) hp, if_pos (by omega), cpF_row _ _ _ _ (by omega)]
theorem cpAll_told {w v : Nat} (hd : w + 36 ≤ v ∨ v + 36 ≤ w) (m : lu_M) {p q : Nat} (hp : p < 6) (hq : q < 4) : cpAll w v m (w + 14 + 1 + p) q = m (v + 14 + 1 + p) q := by
  unfold cpAll
  rw [cpTT_val hd 6 _ p q (by omega) hp hq, if_pos (by omega), cpF_row _ _ _ _ (by omega), cpF_row _ _ _ _ (by omega), cpF_row _ _ _ _ (by omega), cpD_row _ _ _ _ _ (by omega), cpF_row _ _ _ _ (by omega), cpH_row _ _ _ _ _ (by omega) (by omega), cpF_row _ _ _ _ (by omega)]
theorem cpAll_loan {w v : Nat} (hd : w + 36 ≤ v ∨ v + 36 ≤ w) (m : lu_M) {p q : Nat} (hp : p < 6) (hq : q < 6) : cpAll w v m (w + 21 + 1 + p) q = m (v + 21 + 1 + p) q := by
  unfold cpAll
  rw [cpTT_row _ _ _ _ _ (by omega) (by omega), cpF_row _ _ _ _ (by omega), cpF_row _ _ _ _ (by omega), cpF_row _ _ _ _ (by omega), cpD_row _ _ _ _ _ (by omega), cpF_row _ _ _ _ (by omega), cpH_loan hd 6 _ p q (by omega) hp hq, if_pos (by omega), cpF_row _ _ _ _ (by omega)]

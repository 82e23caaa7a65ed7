/-! THE PURE PART: closed walks that are too long can be cut -/
theorem pig : ∀ (P n : Nat) (f : Nat → Nat), P < n → (∀ i, i < n → f i < P) → ∃ i j, i < j ∧ j < n ∧ f i = f j
  | 0, n, f, h, hf => absurd (hf 0 h) (by omega)
  | P + 1, n, f, h, hf => by
    by_cases hc : ∃ i, i < n - 1 ∧ f i = f (n - 1)
    · obtain ⟨i, h1, h2⟩ := hc
      exact ⟨i, n - 1, h1, by omega, h2⟩
    have hc' : ∀ i, i < n - 1 → f i ≠ f (n - 1) := fun i h1 h2 => hc ⟨i, h1, h2⟩
    obtain ⟨i, j, h1, h2, h3⟩ := pig P (n - 1) (fun i => if f i = P then f (n - 1) else f i) (by omega) (fun i hi => by
      show (if f i = P then f (n - 1) else f i) < P
      have a1 := hf i (by omega)
      have a2 := hf (n - 1) (by omega)
      have a3 := hc' i hi
      split <;> omega)
    have h3' : (if f i = P then f (n - 1) else f i) = (if f j = P then f (n - 1) else f j) := h3
    have a1 := hc' i (by omega)
    have a2 := hc' j (by omega)
    refine ⟨i, j, h1, by omega, ?_⟩
    by_cases g1 : f i = P
    · by_cases g2 : f j = P
      · rw [g1, g2]
      · rw [if_pos g1, if_neg g2] at h3'
        exact absurd h3'.symm a2
    · by_cases g2 : f j = P
      · rw [if_neg g1, if_pos g2] at h3'
        exact absurd h3' a1
      · rw [if_neg g1, if_neg g2] at h3'
        exact h3'
def w_k (A : Nat → Nat → Prop) (p n q : Nat) : Prop := ∃ f : Nat → Nat, f 0 = p ∧ f n = q ∧ ∀ i, i < n → A (f i) (f (i + 1))
theorem w_cut {A : Nat → Nat → Prop} {P p n : Nat} (hA : ∀ a b, A a b → a < P ∧ b < P) (hn : P < n) (h : w_k A p n p) : ∃ m, 1 ≤ m ∧ m < n ∧ w_k A p m p := by
  obtain ⟨f, h0, h1, h2⟩ := h
  obtain ⟨i, j, g1, g2, g3⟩ := pig P n (fun i => f (i + 1)) hn (fun i hi => (hA _ _ (h2 i hi)).2)
  have g3' : f (i + 1) = f (j + 1) := g3
  refine ⟨n - (j - i), by omega, by omega, fun k => if k ≤ i + 1 then f k else f (k + (j - i)), ?_, ?_, fun k hk => ?_⟩
  · show (if 0 ≤ i + 1 then f 0 else _) = p
    rw [if_pos (by omega)]; exact h0
  · show (if n - (j - i) ≤ i + 1 then f (n - (j - i)) else f (n - (j - i) + (j - i))) = p
    by_cases e : n - (j - i) ≤ i + 1
    · rw [if_pos e, show n - (j - i) = i + 1 by omega, g3', show j + 1 = n by omega]; exact h1
    · rw [if_neg e, show n - (j - i) + (j - i) = n by omega]; exact h1
  · show A (if k ≤ i + 1 then f k else f (k + (j - i))) (if k + 1 ≤ i + 1 then f (k + 1) else f (k + 1 + (j - i)))
    by_cases e : k ≤ i
    · rw [if_pos (by omega), if_pos (by omega)]
      exact h2 k (by omega)
    · by_cases e2 : k = i + 1
      · subst e2
        rw [if_pos (by omega), if_neg (by omega), g3', show i + 1 + 1 + (j - i) = j + 1 + 1 by omega]
        exact h2 (j + 1) (by omega)
      · rw [if_neg (by omega), if_neg (by omega), show k + 1 + (j - i) = k + (j - i) + 1 by omega]
        exact h2 _ (by omega)
theorem w_short {A : Nat → Nat → Prop} {P p : Nat} (hA : ∀ a b, A a b → a < P ∧ b < P) : ∀ (N n : Nat), n ≤ N → 1 ≤ n → w_k A p n p → ∃ m, 1 ≤ m ∧ m ≤ P ∧ w_k A p m p
  | 0, n, h, h1, _ => absurd h1 (by omega)
  | N + 1, n, h, h1, hw => by
    by_cases e : n ≤ P
    · exact ⟨n, h1, e, hw⟩
    · obtain ⟨m, m1, m2, m3⟩ := w_cut hA (by omega) hw
      exact w_short hA N m (by omega) m1 m3
/-- the first n of those from k on, j of them -/
def s_fst (b : Nat → Bool) : Nat → Nat → Int32
  | _, 0 => -3
  | k, j + 1 => if b k then nI k else s_fst b (k + 1) j
theorem s_fst_no (b : Nat → Bool) : ∀ (j k : Nat), (∀ n, k ≤ n → n < k + j → b n = false) → s_fst b k j = -3
  | 0, _, _ => rfl
  | j + 1, k, h => by
    show (if b k then nI k else s_fst b (k + 1) j) = -3
    rw [h k (by omega) (by omega), if_neg (by decide)]
    exact s_fst_no b j (k + 1) (fun n h1 h2 => h n (by omega) (by omega))
theorem s_fst_eq (b : Nat → Bool) : ∀ (j i k : Nat), (∀ n, k + j ≤ n → n < k + j + i → b n = true → ∃ m, k ≤ m ∧ m < k + j ∧ b m = true) → s_fst b k (j + i) = s_fst b k j
  | 0, i, k, h => by
    rw [Nat.zero_add]
    refine s_fst_no b i k (fun n h1 h2 => ?_)
    cases hb : b n
    · rfl
    · obtain ⟨m, m1, m2, -⟩ := h n (by omega) (by omega) hb
      omega
  | j + 1, i, k, h => by
    rw [show j + 1 + i = (j + i) + 1 by omega]
    show (if b k then nI k else s_fst b (k + 1) (j + i)) = (if b k then nI k else s_fst b (k + 1) j)
    cases hb : b k
    · rw [if_neg (by decide), if_neg (by decide)]
      refine s_fst_eq b j i (k + 1) (fun n h1 h2 h3 => ?_)
      obtain ⟨m, m1, m2, m3⟩ := h n (by omega) (by omega) h3
      by_cases e : m = k
      · rw [e, hb] at m3; exact absurd m3 p_ff
      · exact ⟨m, by omega, by omega, m3⟩
    · rw [if_pos rfl, if_pos rfl]

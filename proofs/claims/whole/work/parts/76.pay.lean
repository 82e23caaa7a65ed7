/-! THE PURE PART: payments, sets and their groups -/
theorem n_bit1 : ∀ n, n < 64 → ∀ p, p < 6 → n.testBit p = true → ∀ i, i < 6 → (n - 2 ^ p).testBit i = (n.testBit i && !decide (i = p)) := by decide +kernel
theorem n_bit2 : ∀ n, n < 64 → ∀ p, p < 6 → n.testBit p = false → ∀ i, i < 6 → (n + 2 ^ p).testBit i = (n.testBit i || decide (i = p)) := by decide +kernel
theorem n_bit2l : ∀ n, n < 64 → ∀ p, p < 6 → n.testBit p = false → n + 2 ^ p < 64 := by decide +kernel
theorem n_bit3 : ∀ n, n < 64 → ∀ p, p < 6 → n.testBit p = true → 2 ^ p ≤ n := by decide +kernel
theorem n_bit4 : ∀ n, n < 64 → 0 < n → ∃ p, p < 6 ∧ n.testBit p = true := by decide +kernel
theorem n_bit5 : ∀ n, n < 64 → ∀ P, P < 7 → (∀ i, i < 6 → n.testBit i = decide (i < P)) → n = 2 ^ P - 1 := by decide +kernel
theorem n_bit6 : ∀ P, P < 7 → ∀ n, n < 2 ^ P → ∀ i, i < 6 → P ≤ i → n.testBit i = false := by decide +kernel
theorem n_comm : ∀ n, n < 64 → ∀ p, p < 6 → ∀ z, z < 6 → n.testBit p = true → n.testBit z = false → n + 2 ^ z - 2 ^ p = n - 2 ^ p + 2 ^ z := by
  intro n hn p hp z hz h1 h2
  have h3 := n_bit3 n hn p hp h1
  have h4 := Nat.two_pow_pos z
  omega
theorem i_xor : ∀ n, n < 64 → ∀ p, p < 6 → n.testBit p = true → (nI n ^^^ ((1 : Int32) <<< (nI p &&& 31))) = nI (n - 2 ^ p) := by decide +kernel
theorem i_clr : ∀ n, n < 64 → ∀ p, p < 6 → (nI n &&& (((1 : Int32) <<< (nI p &&& 31)) ^^^ (-1 : Int32))) = nI (if n.testBit p then n - 2 ^ p else n) := by decide +kernel
theorem i_all : ∀ P, P < 7 → ((1 : Int32) <<< (nI P &&& 31)) = nI (2 ^ P) := by decide +kernel
/-- the most of h over those in n -/
def mxp (h : Nat → Nat) (n : Nat) : Nat → Nat
  | 0 => 0
  | j + 1 => if n.testBit j then max (mxp h n j) (h j) else mxp h n j
theorem mxp_c {h g : Nat → Nat} {n : Nat} : ∀ j, (∀ p, p < j → n.testBit p = true → h p = g p) → mxp h n j = mxp g n j
  | 0, _ => rfl
  | j + 1, e => by
    unfold mxp
    rw [mxp_c j (fun p hp hb => e p (by omega) hb)]
    cases hb : n.testBit j
    · rfl
    · rw [e j (by omega) hb]
theorem mxp_le {h : Nat → Nat} {n b : Nat} : ∀ j, (∀ p, p < j → n.testBit p = true → h p ≤ b) → mxp h n j ≤ b
  | 0, _ => Nat.zero_le _
  | j + 1, e => by
    have ih := mxp_le j (fun p hp hb => e p (by omega) hb)
    unfold mxp
    cases hb : n.testBit j
    · rw [if_neg p_ff]; exact ih
    · rw [if_pos rfl]
      have := e j (by omega) hb
      omega
theorem mxp_ge {h : Nat → Nat} {n : Nat} : ∀ j p, p < j → n.testBit p = true → h p ≤ mxp h n j
  | 0, p, hp, _ => absurd hp (by omega)
  | j + 1, p, hp, hb => by
    unfold mxp
    by_cases e : p = j
    · subst e
      rw [hb, if_pos rfl]; omega
    · have ih := mxp_ge (h := h) (n := n) j p (by omega) hb
      cases hbj : n.testBit j
      · rw [if_neg p_ff]; exact ih
      · rw [if_pos rfl]; omega
theorem mxp_at {h : Nat → Nat} {n : Nat} : ∀ j, mxp h n j = 0 ∨ ∃ p, p < j ∧ n.testBit p = true ∧ mxp h n j = h p
  | 0 => Or.inl rfl
  | j + 1 => by
    have ih := mxp_at (h := h) (n := n) j
    unfold mxp
    cases hbj : n.testBit j
    · rw [if_neg p_ff]
      rcases ih with ih | ⟨p, h1, h2, h3⟩
      · exact Or.inl ih
      · exact Or.inr ⟨p, by omega, h2, h3⟩
    · rw [if_pos rfl]
      by_cases hl : mxp h n j ≤ h j
      · exact Or.inr ⟨j, by omega, hbj, Nat.max_eq_right hl⟩
      · rw [Nat.max_eq_left (by omega)]
        rcases ih with ih | ⟨p, h1, h2, h3⟩
        · exact Or.inl ih
        · exact Or.inr ⟨p, by omega, h2, h3⟩
def s_G (Z : Nat → Bool) : Nat → Nat → Nat
  | 0, _ => 0
  | k + 1, n => if n = 0 then 0 else mxp (fun p => s_G Z k (n - 2 ^ p)) n 6 + (if Z n then 1 else 0)
theorem s_G_st (Z : Nat → Bool) : ∀ (k l n : Nat), n < 64 → n ≤ k → n ≤ l → s_G Z k n = s_G Z l n
  | 0, 0, _, _, _, _ => rfl
  | 0, l + 1, n, _, h, _ => by
    have e : n = 0 := by omega
    subst e
    rfl
  | k + 1, 0, n, _, _, h => by
    have e : n = 0 := by omega
    subst e
    rfl
  | k + 1, l + 1, n, hn, h1, h2 => by
    unfold s_G
    by_cases e : n = 0
    · rw [if_pos e, if_pos e]
    · rw [if_neg e, if_neg e, mxp_c 6 (fun p hp hb => by
        have := n_bit3 n hn p hp hb
        have := Nat.two_pow_pos p
        exact s_G_st Z k l (n - 2 ^ p) (by omega) (by omega) (by omega))]
def s_g (Z : Nat → Bool) (n : Nat) : Nat := s_G Z 64 n
theorem s_g_0 (Z : Nat → Bool) : s_g Z 0 = 0 := rfl
theorem s_g_n (Z : Nat → Bool) {n : Nat} (hn : n < 64) (h0 : n ≠ 0) : s_g Z n = mxp (fun p => s_g Z (n - 2 ^ p)) n 6 + (if Z n then 1 else 0) := by
  have e : s_g Z n = mxp (fun p => s_G Z 63 (n - 2 ^ p)) n 6 + (if Z n then 1 else 0) := by
    show (if n = 0 then 0 else _) = _
    rw [if_neg h0]
  rw [e, mxp_c 6 (fun p hp hb => by
    have := n_bit3 n hn p hp hb
    have := Nat.two_pow_pos p
    exact s_G_st Z 63 64 (n - 2 ^ p) (by omega) (by omega) (by omega))]
  rfl
theorem s_g_le (Z : Nat → Bool) : ∀ (N n : Nat), n ≤ N → n < 64 → s_g Z n ≤ n
  | 0, n, h, _ => by
    have e : n = 0 := by omega
    subst e
    exact Nat.le_refl _
  | N + 1, n, h, hn => by
    by_cases e : n = 0
    · subst e; exact Nat.le_refl _
    · rw [s_g_n Z hn e]
      have hm := mxp_le (h := fun p => s_g Z (n - 2 ^ p)) (n := n) (b := n - 1) 6 (fun p hp hb => by
        have h1 := n_bit3 n hn p hp hb
        have h2 := Nat.two_pow_pos p
        have := s_g_le Z N (n - 2 ^ p) (by omega) (by omega)
        show s_g Z (n - 2 ^ p) ≤ n - 1
        omega)
      split <;> omega
/-- one more whose net is 0 -/
theorem s_g_z {Z : Nat → Bool} {z : Nat} (hz : z < 6) (h0 : Z 0 = true) (hZ : ∀ n, n < 64 → n.testBit z = false → Z (n + 2 ^ z) = Z n) : ∀ (N n : Nat), n ≤ N → n < 64 → n.testBit z = false → s_g Z (n + 2 ^ z) = s_g Z n + 1
  | N, n, hN, hn, hb => by
    have hp2 := Nat.two_pow_pos z
    have hl := n_bit2l n hn z hz hb
    have ih : ∀ p, p < 6 → n.testBit p = true → s_g Z (n + 2 ^ z - 2 ^ p) = s_g Z (n - 2 ^ p) + 1 := fun p hp hbp => by
      have h1 := n_bit3 n hn p hp hbp
      have h2 := Nat.two_pow_pos p
      rw [n_comm n hn p hp z hz hbp hb]
      refine s_g_z hz h0 hZ (N - 1) (n - 2 ^ p) (by omega) (by omega) ?_
      rw [n_bit1 n hn p hp hbp z hz, hb, Bool.false_and]
    have hbz : ∀ p, p < 6 → (n + 2 ^ z).testBit p = (n.testBit p || decide (p = z)) := fun p hp => n_bit2 n hn z hz hb p hp
    rw [s_g_n Z hl (by omega), hZ n hn hb]
    by_cases e : n = 0
    · subst e
      have hm : mxp (fun p => s_g Z (0 + 2 ^ z - 2 ^ p)) (0 + 2 ^ z) 6 = 0 := by
        have := mxp_le (h := fun p => s_g Z (0 + 2 ^ z - 2 ^ p)) (n := 0 + 2 ^ z) (b := 0) 6 (fun p hp hbp => by
          rw [hbz p hp, Nat.zero_testBit, Bool.false_or, decide_eq_true_eq] at hbp
          subst hbp
          show s_g Z (0 + 2 ^ p - 2 ^ p) ≤ 0
          rw [show 0 + 2 ^ p - 2 ^ p = 0 by omega, s_g_0]
          exact Nat.le_refl _)
        omega
      rw [hm, h0, s_g_0]
      rfl
    · have hgn := s_g_n Z hn e
      have hm : mxp (fun p => s_g Z (n + 2 ^ z - 2 ^ p)) (n + 2 ^ z) 6 = mxp (fun p => s_g Z (n - 2 ^ p)) n 6 + 1 := by
        apply Nat.le_antisymm
        · refine mxp_le 6 (fun p hp hbp => ?_)
          rw [hbz p hp] at hbp
          by_cases ez : p = z
          · subst ez
            show s_g Z (n + 2 ^ p - 2 ^ p) ≤ _
            rw [show n + 2 ^ p - 2 ^ p = n by omega, hgn]
            split <;> omega
          · rw [decide_eq_false ez, Bool.or_false] at hbp
            show s_g Z (n + 2 ^ z - 2 ^ p) ≤ _
            rw [ih p hp hbp]
            have := mxp_ge (h := fun p => s_g Z (n - 2 ^ p)) 6 p hp hbp
            exact Nat.add_le_add_right this 1
        · have hin : ∀ p, p < 6 → n.testBit p = true → s_g Z (n - 2 ^ p) + 1 ≤ mxp (fun p => s_g Z (n + 2 ^ z - 2 ^ p)) (n + 2 ^ z) 6 := fun p hp hbp => by
            have := mxp_ge (h := fun p => s_g Z (n + 2 ^ z - 2 ^ p)) (n := n + 2 ^ z) 6 p hp (by rw [hbz p hp, hbp, Bool.true_or])
            rw [← ih p hp hbp]
            exact this
          rcases mxp_at (h := fun p => s_g Z (n - 2 ^ p)) (n := n) 6 with h | ⟨p, hp, hbp, h⟩
          · obtain ⟨p, hp, hbp⟩ := n_bit4 n hn (by omega)
            have := hin p hp hbp
            omega
          · have := hin p hp hbp
            rw [h]
            exact this
      rw [hm, hgn]
      omega
/-- those whose net isn't 0 -/
def s_o (s : Nat → Int32) : Nat → Nat
  | 0 => 0
  | j + 1 => if s_net s j 6 = 0 then s_o s j else s_o s j + 2 ^ j
def s_oc (s : Nat → Int32) : Nat → Nat
  | 0 => 0
  | j + 1 => if s_net s j 6 = 0 then s_oc s j else s_oc s j + 1
theorem s_o_lt (s : Nat → Int32) : ∀ j, s_o s j < 2 ^ j
  | 0 => by
    show 0 < 2 ^ 0
    decide
  | j + 1 => by
    have := s_o_lt s j
    unfold s_o
    rw [Nat.pow_succ]
    split <;> omega
theorem n_64 {j n : Nat} (hj : j ≤ 6) (h : n < 2 ^ j) : n < 64 := Nat.lt_of_lt_of_le h (Nat.pow_le_pow_right (by omega) hj)
theorem s_o_bit (s : Nat → Int32) : ∀ j, j ≤ 6 → ∀ i, i < 6 → (s_o s j).testBit i = (decide (i < j) && !decide (s_net s i 6 = 0))
  | 0, _, i, _ => by
    show (0 : Nat).testBit i = _
    rw [Nat.zero_testBit, decide_eq_false (by omega)]; rfl
  | j + 1, hj, i, hi => by
    have ih := s_o_bit s j (by omega) i hi
    have hlt := s_o_lt s j
    have hbj : (s_o s j).testBit j = false := n_bit6 j (by omega) _ hlt j (by omega) (Nat.le_refl _)
    unfold s_o
    by_cases h : s_net s j 6 = 0
    · rw [if_pos h, ih]
      by_cases e : i = j
      · subst e
        rw [decide_eq_true h]; simp
      · by_cases hl : i < j
        · rw [decide_eq_true hl, decide_eq_true (show i < j + 1 by omega)]
        · rw [decide_eq_false hl, decide_eq_false (show ¬ i < j + 1 by omega)]
    · rw [if_neg h, n_bit2 _ (n_64 (by omega) hlt) j (by omega) hbj i hi, ih]
      by_cases e : i = j
      · subst e
        rw [decide_eq_false h, decide_eq_true (show i < i + 1 by omega), decide_eq_true rfl]; simp
      · rw [decide_eq_false e, Bool.or_false]
        by_cases hl : i < j
        · rw [decide_eq_true hl, decide_eq_true (show i < j + 1 by omega)]
        · rw [decide_eq_false hl, decide_eq_false (show ¬ i < j + 1 by omega)]
/-- all, with those whose net is 0 -/
def s_a (s : Nat → Int32) (o : Nat) : Nat → Nat
  | 0 => o
  | j + 1 => if s_net s j 6 = 0 then s_a s o j + 2 ^ j else s_a s o j
theorem s_a_bit (s : Nat → Int32) : ∀ j, j ≤ 6 → s_a s (s_o s 6) j < 64 ∧ ∀ i, i < 6 → (s_a s (s_o s 6) j).testBit i = (decide (i < j) || !decide (s_net s i 6 = 0))
  | 0, _ => by
    refine ⟨n_64 (j := 6) (Nat.le_refl _) (s_o_lt s 6), fun i hi => ?_⟩
    show (s_o s 6).testBit i = _
    rw [s_o_bit s 6 (Nat.le_refl _) i hi, decide_eq_true hi, decide_eq_false (show ¬ i < 0 by omega)]; rfl
  | j + 1, hj => by
    obtain ⟨h1, h2⟩ := s_a_bit s j (by omega)
    unfold s_a
    by_cases h : s_net s j 6 = 0
    · have hbj : (s_a s (s_o s 6) j).testBit j = false := by
        rw [h2 j (by omega), decide_eq_true h, decide_eq_false (Nat.lt_irrefl j)]; rfl
      rw [if_pos h]
      refine ⟨n_bit2l _ h1 j (by omega) hbj, fun i hi => ?_⟩
      rw [n_bit2 _ h1 j (by omega) hbj i hi, h2 i hi]
      by_cases e : i = j
      · subst e
        rw [decide_eq_true (show i < i + 1 by omega), decide_eq_true rfl]; simp
      · rw [decide_eq_false e, Bool.or_false]
        by_cases hl : i < j
        · rw [decide_eq_true hl, decide_eq_true (show i < j + 1 by omega)]
        · rw [decide_eq_false hl, decide_eq_false (show ¬ i < j + 1 by omega)]
    · rw [if_neg h]
      refine ⟨h1, fun i hi => ?_⟩
      rw [h2 i hi]
      by_cases e : i = j
      · subst e
        rw [decide_eq_false h]; simp
      · by_cases hl : i < j
        · rw [decide_eq_true hl, decide_eq_true (show i < j + 1 by omega)]
        · rw [decide_eq_false hl, decide_eq_false (show ¬ i < j + 1 by omega)]
/-- the nets of a set together -/
def s_sm (s : Nat → Int32) (n j : Nat) : Int32 := p_it (fun p x => if n.testBit p then x + s_net s p 6 else x) 0 j 0
def s_Z (s : Nat → Int32) (n : Nat) : Bool := decide (s_sm s n 6 = 0)
theorem s_Z_z (s : Nat → Int32) {z : Nat} (hz : z < 6) (h : s_net s z 6 = 0) {n : Nat} (hn : n < 64) (hb : n.testBit z = false) : s_Z s (n + 2 ^ z) = s_Z s n := by
  have e : s_sm s (n + 2 ^ z) 6 = s_sm s n 6 := p_it_eq 6 0 0 (fun p x _ hp => by
    show (if (n + 2 ^ z).testBit p then x + s_net s p 6 else x) = (if n.testBit p then x + s_net s p 6 else x)
    rw [n_bit2 n hn z hz hb p (by omega)]
    by_cases e : p = z
    · subst e
      rw [hb, h, decide_eq_true rfl, Int32.add_zero]; simp
    · rw [decide_eq_false e, Bool.or_false])
  unfold s_Z
  rw [e]
theorem s_a_g (s : Nat → Int32) : ∀ j, j ≤ 6 → s_g (s_Z s) (s_a s (s_o s 6) j) + s_oc s j = s_g (s_Z s) (s_o s 6) + j
  | 0, _ => rfl
  | j + 1, hj => by
    have ih := s_a_g s j (by omega)
    obtain ⟨h1, h2⟩ := s_a_bit s j (by omega)
    unfold s_a s_oc
    by_cases h : s_net s j 6 = 0
    · have hbj : (s_a s (s_o s 6) j).testBit j = false := by
        rw [h2 j (by omega), decide_eq_true h, decide_eq_false (Nat.lt_irrefl j)]; rfl
      rw [if_pos h, if_pos h, s_g_z (Z := s_Z s) (z := j) (by omega) (decide_eq_true rfl) (fun n hn hb => s_Z_z s (by omega) h hn hb) _ _ (Nat.le_refl _) h1 hbj]
      omega
    · rw [if_neg h, if_neg h]
      omega
/-- payments of all are those of the ones whose net isn't 0 -/
theorem s_pay (s : Nat → Int32) {P : Nat} (hP : P ≤ 6) (h0 : ∀ p, P ≤ p → p < 6 → s_net s p 6 = 0) : s_g (s_Z s) (2 ^ P - 1) + s_oc s 6 = s_g (s_Z s) (s_o s 6) + P ∧ s_oc s 6 = s_oc s P := by
  have e : s_a s (s_o s 6) P = 2 ^ P - 1 := by
    obtain ⟨h1, h2⟩ := s_a_bit s P hP
    refine n_bit5 _ h1 P (by omega) (fun i hi => ?_)
    rw [h2 i hi]
    by_cases hl : i < P
    · rw [decide_eq_true hl, Bool.true_or]
    · rw [decide_eq_false hl, decide_eq_true (h0 i (by omega) hi)]; rfl
  have ec : ∀ j, P + j ≤ 6 → s_oc s (P + j) = s_oc s P := by
    intro j
    induction j with
    | zero => intro _; rfl
    | succ j ih =>
      intro hj
      have : s_oc s (P + (j + 1)) = (if s_net s (P + j) 6 = 0 then s_oc s (P + j) else s_oc s (P + j) + 1) := rfl
      rw [this, if_pos (h0 (P + j) (by omega) (by omega)), ih (by omega)]
  have ec6 := ec (6 - P) (by omega)
  rw [show P + (6 - P) = 6 by omega] at ec6
  have := s_a_g s P hP
  rw [e] at this
  exact ⟨by omega, ec6⟩

/-! THE PURE PART: the tape's tokens, in both -/
def g_L (b : Nat → Nat) (len i : Nat) : Bool := decide (i < len) && decide (97 ≤ b i ∧ b i ≤ 122)
def g_D (b : Nat → Nat) (len i : Nat) : Bool := decide (i < len) && decide (48 ≤ b i ∧ b i ≤ 57)
def g_B (b : Nat → Nat) (len i : Nat) : Bool := decide (i < len) && decide (32 ≤ b i ∧ b i ≤ 32)
theorem g_lt {b : Nat → Nat} {len i : Nat} {P : Prop} [Decidable P] (h : (decide (i < len) && decide P) = true) : i < len ∧ P := by
  rw [Bool.and_eq_true, decide_eq_true_eq, decide_eq_true_eq] at h
  exact h
def g_rn (p : Nat → Bool) : Nat → Nat → Nat
  | 0, i => i
  | j + 1, i => if p i then g_rn p j (i + 1) else i
def g_to (p : Nat → Bool) (i : Nat) : Nat := g_rn p (201 - i) i
theorem g_to_s {p : Nat → Bool} {i : Nat} (h : i ≤ 200) : g_to p i = if p i then g_to p (i + 1) else i := by
  unfold g_to
  rw [show 201 - i = (201 - (i + 1)) + 1 by omega]
  rfl
theorem g_rn_p {p : Nat → Bool} {len : Nat} (hp : ∀ i, p i = true → i < len) (hl : len ≤ 200) : ∀ (j i : Nat), i + j = 201 → i ≤ g_rn p j i ∧ (i ≤ len → g_rn p j i ≤ len) ∧ p (g_rn p j i) = false ∧ ∀ k, i ≤ k → k < g_rn p j i → p k = true
  | 0, i, h => by
    refine ⟨Nat.le_refl _, fun q => q, ?_, fun k h1 h2 => absurd h2 (Nat.not_lt.mpr h1)⟩
    show p i = false
    cases hb : p i
    · rfl
    · have := hp i hb; omega
  | j + 1, i, h => by
    unfold g_rn
    cases hb : p i
    · rw [if_neg p_ff]
      exact ⟨Nat.le_refl _, fun q => q, hb, fun k h1 h2 => absurd h2 (Nat.not_lt.mpr h1)⟩
    · rw [if_pos rfl]
      have hi := hp i hb
      obtain ⟨a1, a2, a3, a4⟩ := g_rn_p hp hl j (i + 1) (by omega)
      refine ⟨by omega, fun _ => a2 (by omega), a3, fun k h1 h2 => ?_⟩
      by_cases e : k = i
      · subst e; exact hb
      · exact a4 k (by omega) h2
theorem g_to_p {p : Nat → Bool} {len : Nat} (hp : ∀ i, p i = true → i < len) (hl : len ≤ 200) {i : Nat} (hi : i ≤ 201) : i ≤ g_to p i ∧ (i ≤ len → g_to p i ≤ len) ∧ p (g_to p i) = false ∧ ∀ k, i ≤ k → k < g_to p i → p k = true := g_rn_p hp hl _ _ (by omega)
theorem g_Ll (b : Nat → Nat) (len : Nat) : ∀ i, g_L b len i = true → i < len := fun i h => (g_lt (b := b) h).1
theorem g_Dl (b : Nat → Nat) (len : Nat) : ∀ i, g_D b len i = true → i < len := fun i h => (g_lt (b := b) h).1
theorem g_Bl (b : Nat → Nat) (len : Nat) : ∀ i, g_B b len i = true → i < len := fun i h => (g_lt (b := b) h).1
def g_nx (b : Nat → Nat) (len f : Nat) : Nat := if len ≤ f then f else if g_L b len f then g_to (g_L b len) (f + 1) else if g_D b len f then g_to (g_D b len) (f + 1) else f + 1
theorem g_nx_p {b : Nat → Nat} {len f : Nat} (hl : len ≤ 200) (hf : f ≤ len) : f ≤ g_nx b len f ∧ g_nx b len f ≤ len ∧ (f < len → f < g_nx b len f) := by
  unfold g_nx
  by_cases h : len ≤ f
  · rw [if_pos h]
    exact ⟨Nat.le_refl _, hf, fun q => by omega⟩
  rw [if_neg h]
  cases h1 : g_L b len f
  · rw [if_neg p_ff]
    cases h2 : g_D b len f
    · rw [if_neg p_ff]
      exact ⟨by omega, by omega, fun _ => by omega⟩
    · rw [if_pos rfl]
      obtain ⟨a1, a2, -⟩ := g_to_p (g_Dl b len) hl (i := f + 1) (by omega)
      exact ⟨by omega, a2 (by omega), fun _ => by omega⟩
  · rw [if_pos rfl]
    obtain ⟨a1, a2, -⟩ := g_to_p (g_Ll b len) hl (i := f + 1) (by omega)
    exact ⟨by omega, a2 (by omega), fun _ => by omega⟩
def g_so (b : Nat → Nat) (len f : Nat) : Nat := if len ≤ f then 0 else if g_L b len f then 1 else if g_D b len f then 2 else 3
def g_nm (b : Nat → Nat) : Nat → Nat → Nat → Nat
  | 0, _, acc => acc
  | j + 1, i, acc => g_nm b j (i + 1) (acc * 10 + b i - 48)
def g_val (b : Nat → Nat) (f e : Nat) : Int32 := if e - f ≤ 4 then nI (g_nm b (e - f) f 0) else -1
theorem g_nm_le (b : Nat → Nat) : ∀ (j i acc : Nat), (∀ k, i ≤ k → k < i + j → b k ≤ 57) → g_nm b j i acc < (acc + 1) * 10 ^ j
  | 0, i, acc, _ => by show acc < (acc + 1) * 1; omega
  | j + 1, i, acc, h => by
    have ih := g_nm_le b j (i + 1) (acc * 10 + b i - 48) (fun k h1 h2 => h k (by omega) (by omega))
    have hb := h i (Nat.le_refl _) (by omega)
    have h2 : (acc * 10 + b i - 48 + 1) * 10 ^ j ≤ (acc + 1) * 10 ^ (j + 1) := by
      rw [Nat.pow_succ, Nat.mul_comm (10 ^ j) 10, ← Nat.mul_assoc]
      exact Nat.mul_le_mul_right _ (by omega)
    exact Nat.lt_of_lt_of_le ih h2
/-! the class -/
def TPc (b : Nat → Nat) (len : Nat) (M : lu_M) : Prop := len ≤ 200 ∧ M 83 1 = nI len ∧ (∀ i, i < len → M 84 i = nI (b i)) ∧ ∀ i, i < len → b i ≤ 255
theorem TPc.rw {b : Nat → Nat} {len : Nat} {M : lu_M} (T : TPc b len M) {y : Nat → Int32} (h : y 1 = M 83 1) : TPc b len (p_rw M 83 y) :=
  ⟨T.1, by rw [p_rw_s, h]; exact T.2.1, fun i hi => by rw [p_rw_n (by omega)]; exact T.2.2.1 i hi, T.2.2.2⟩
theorem k_isAt {b : Nat → Nat} {len : Nat} {M : lu_M} (T : TPc b len M) {a lo hi : Nat} (ha : a ≤ 300) (hlo : lo ≤ 300) (hhi : hi ≤ 300) : f8_isAt (nI a) (nI lo) (nI hi) M = some (p_b (decide (a < len) && decide (lo ≤ b a ∧ b a ≤ hi)), M) := by
  obtain ⟨hl, h1, h2, h3⟩ := T
  unfold f8_isAt f8_isAt_b36 f8_isAt_b37
  rw [if_neg (nI_pos (by omega)), h1, q_le (by omega) (by omega), p_g0, p_g1]
  by_cases h : len ≤ a
  · rw [if_pos h, decide_eq_false (show ¬ a < len by omega)]; rfl
  have := h3 a (by omega)
  rw [if_neg h, decide_eq_true (show a < len by omega), p_gd (by omega) (by omega), p_gd (by omega) (by omega), nI_clamp (by omega), h2 a (by omega), q_lt (by omega) (by omega), q_lt (by omega) (by omega)]
  by_cases hc : b a < lo
  · rw [if_pos hc, decide_eq_false (show ¬ (lo ≤ b a ∧ b a ≤ hi) by omega)]; rfl
  rw [if_neg hc]
  by_cases hc2 : hi < b a
  · rw [if_pos hc2, decide_eq_false (show ¬ (lo ≤ b a ∧ b a ≤ hi) by omega)]; rfl
  · rw [if_neg hc2, decide_eq_true (show lo ≤ b a ∧ b a ≤ hi by omega)]; rfl
theorem k_num {b : Nat → Nat} {len : Nat} {M : lu_M} (T : TPc b len M) {f e : Nat} (hf : M 83 4 = nI f) (he : M 83 5 = nI e) (hfe : f ≤ e) (hel : e ≤ len) (hd : ∀ i, f ≤ i → i < e → 48 ≤ b i ∧ b i ≤ 57) : f8_numberRead M = some (g_val b f e, M) := by
  obtain ⟨hl, h1, h2, h3⟩ := T
  have run : ∀ (j i q acc : Nat), i + j = e → f ≤ i → j < q → f8_numberRead_b22 f8_numberRead_b51 q (nI acc) (nI i) M = some (nI (g_nm b j i acc), M) := by
    intro j
    induction j with
    | zero =>
      intro i q acc hi hfi hq
      obtain ⟨q, rfl⟩ : ∃ r, q = r + 1 := ⟨q - 1, by omega⟩
      show f8_numberRead_b22B _ _ _ _ _ = _
      unfold f8_numberRead_b22B f8_numberRead_b51
      rw [he, q_le (by omega) (by omega), if_pos (by omega)]
      rfl
    | succ j ih =>
      intro i q acc hi hfi hq
      obtain ⟨q, rfl⟩ : ∃ r, q = r + 1 := ⟨q - 1, by omega⟩
      obtain ⟨d1, d2⟩ := hd i hfi (by omega)
      show f8_numberRead_b22B _ _ _ _ _ = _
      unfold f8_numberRead_b22B
      rw [he, q_le (by omega) (by omega), if_neg (by omega), p_gd (by omega) (by omega), nI_clamp (by omega), h2 i (by omega), show (10 : Int32) = nI 10 from rfl, show (48 : Int32) = nI 48 from rfl, pk_mul, nI_add, pk_sub (by omega), p_nm, p_next]
      exact ih (i + 1) q _ (by omega) (by omega) (by omega)
  unfold f8_numberRead g_val
  rw [hf, he, pk_sub hfe, show (4 : Int32) = nI 4 from rfl, q_le (by omega) (by omega)]
  by_cases h : e - f ≤ 4
  · rw [if_pos h, if_pos h, p_nm]
    exact run (e - f) f lu_fu 0 (by omega) (Nat.le_refl _) (p_fu (by omega))
  · rw [if_neg h, if_neg h]
theorem k_skip {b : Nat → Nat} {len : Nat} {M : lu_M} (T : TPc b len M) (K : Int32 → lu_M → Option lu_M) : ∀ (j i k q : Nat), i + j = 201 → k ≤ i → j < q → f8_advance_b7 K q (nI i) (nI k) M = K (nI (g_rn (g_B b len) j i)) M
  | j, i, k, q, h, hk, hq => by
    have hl := T.1
    obtain ⟨q, rfl⟩ : ∃ r, q = r + 1 := ⟨q - 1, by omega⟩
    have hno : g_B b len i = false → g_rn (g_B b len) j i = i := fun hb => by
      cases j with
      | zero => rfl
      | succ j => show (if g_B b len i then _ else i) = i; rw [hb, if_neg p_ff]
    show f8_advance_b7B _ _ _ _ _ = _
    unfold f8_advance_b7B
    rw [show (200 : Int32) = nI 200 from rfl, q_le (by omega) (by omega)]
    by_cases h2 : 200 ≤ k
    · rw [if_pos h2, hno]
      exact Bool.eq_false_iff.mpr (fun hb => by have := g_Bl b len i hb; omega)
    rw [if_neg h2, show (32 : Int32) = nI 32 from rfl, k_isAt T (by omega) (by omega) (by omega), p_bi, p_if]
    show (if g_B b len i = true then _ else _) = _
    cases hb : g_B b len i
    · rw [if_neg p_ff, hno hb]
    · have hi := g_Bl b len i hb
      obtain ⟨j, rfl⟩ : ∃ r, j = r + 1 := ⟨j - 1, by omega⟩
      have e : g_rn (g_B b len) (j + 1) i = g_rn (g_B b len) j (i + 1) := by
        show (if g_B b len i then _ else i) = _
        rw [hb, if_pos rfl]
      rw [if_pos rfl, p_next, p_next, e]
      exact k_skip T K j (i + 1) (k + 1) q (by omega) (by omega) (by omega)
theorem k_runN {b : Nat → Nat} {len : Nat} {M : lu_M} (T : TPc b len M) {lo hi : Nat} (hlo : lo ≤ 300) (hhi : hi ≤ 300) (F : Nat → Int32 → lu_M → Option lu_M) (K : lu_M → Option lu_M) (hF : ∀ q v z, F (q + 1) v z = if (200 : Int32) ≤ v then K z else lu_bi (f8_isAt (z 83 5) (nI lo) (nI hi) z) fun x2 m3 => if x2 = 0 then K m3 else lu_nm (lu_st m3 83 5 (m3 83 5 + 1)) fun m4 => F q (v + 1) m4) : ∀ (j i k q : Nat) (y : Nat → Int32), i + j = 201 → k ≤ i → j < q → y 1 = M 83 1 → y 5 = nI i → F q (nI k) (p_rw M 83 y) = K (p_rw M 83 (upd y 5 (nI (g_rn (fun i => decide (i < len) && decide (lo ≤ b i ∧ b i ≤ hi)) j i))))
  | j, i, k, q, y, h, hk, hq, h1, h5 => by
    have hl := T.1
    obtain ⟨q, rfl⟩ : ∃ r, q = r + 1 := ⟨q - 1, by omega⟩
    have hno : (decide (i < len) && decide (lo ≤ b i ∧ b i ≤ hi)) = false → g_rn (fun i => decide (i < len) && decide (lo ≤ b i ∧ b i ≤ hi)) j i = i := fun hb => by
      cases j with
      | zero => rfl
      | succ j => show (if (decide (i < len) && decide (lo ≤ b i ∧ b i ≤ hi)) then _ else i) = i; rw [hb, if_neg p_ff]
    have hid : p_rw M 83 y = p_rw M 83 (upd y 5 (nI i)) := by rw [← h5, p_uid]
    rw [hF, show (200 : Int32) = nI 200 from rfl, q_le (by omega) (by omega)]
    by_cases h2 : 200 ≤ k
    · rw [if_pos h2, hno (by rw [decide_eq_false (show ¬ i < len by omega), Bool.false_and]), ← hid]
    rw [if_neg h2, p_rw_s, h5, k_isAt (T.rw h1) (by omega) hlo hhi, p_bi, p_if]
    cases hb : (decide (i < len) && decide (lo ≤ b i ∧ b i ≤ hi))
    · rw [if_neg p_ff, hno hb, ← hid]
    · have hil := (g_lt (b := b) hb).1
      obtain ⟨j, rfl⟩ : ∃ r, j = r + 1 := ⟨j - 1, by omega⟩
      have e : g_rn (fun i => decide (i < len) && decide (lo ≤ b i ∧ b i ≤ hi)) (j + 1) i = g_rn (fun i => decide (i < len) && decide (lo ≤ b i ∧ b i ≤ hi)) j (i + 1) := by
        show (if (decide (i < len) && decide (lo ≤ b i ∧ b i ≤ hi)) then _ else i) = _
        rw [hb, if_pos rfl]
      rw [if_pos rfl, p_nm, p_rw_s, h5, p_next, p_stc, p_next, e]
      have ih := k_runN T hlo hhi F K hF j (i + 1) (k + 1) q (upd y 5 (nI (i + 1))) (by omega) (by omega) (by omega) (by rw [upd_ne (by omega)]; exact h1) (p_us ..)
      rw [ih, upd_upd]
theorem k_adv {b : Nat → Nat} {len : Nat} {M : lu_M} (T : TPc b len M) {e : Nat} (he : M 83 5 = nI e) (hel : e ≤ len) : ∃ y, f8_advance M = some (p_rw M 83 y) ∧ y 1 = M 83 1 ∧ y 3 = nI (g_so b len (g_to (g_B b len) e)) ∧ y 4 = nI (g_to (g_B b len) e) ∧ y 5 = nI (g_nx b len (g_to (g_B b len) e)) ∧ (g_so b len (g_to (g_B b len) e) = 2 → y 6 = g_val b (g_to (g_B b len) e) (g_nx b len (g_to (g_B b len) e))) := by
  have hl := T.1
  obtain ⟨p1, p2, -, -⟩ := g_to_p (g_Bl b len) hl (i := e) (by omega)
  have hfl := p2 hel
  have e0 := k_skip T f8_advance_b35 (201 - e) e 0 lu_fu (by omega) (by omega) (p_fu (by omega))
  have e0' : f8_advance M = f8_advance_b35 (nI (g_to (g_B b len) e)) M := by
    unfold f8_advance
    rw [p_nm, he]
    exact e0
  rw [e0']
  generalize g_to (g_B b len) e = f at *
  have h45 : lu_st (lu_st M 83 4 (nI f)) 83 5 (nI (f + 1)) = p_rw M 83 (upd (upd (M 83) 4 (nI f)) 5 (nI (f + 1))) := by rw [p_st M, p_stc]
  unfold f8_advance_b35 f8_advance_b212
  rw [p_nm, p_nm, p_next, h45]
  have T1 : TPc b len (p_rw M 83 (upd (upd (M 83) 4 (nI f)) 5 (nI (f + 1)))) := T.rw (by rw [upd_ne (by omega), upd_ne (by omega)])
  rw [T1.2.1, q_lt (by omega) (by omega)]
  unfold g_nx g_so
  by_cases h : f < len
  · rw [if_pos h, if_neg (show ¬ len ≤ f by omega), if_neg (show ¬ len ≤ f by omega), show (97 : Int32) = nI 97 from rfl, show (122 : Int32) = nI 122 from rfl, show (48 : Int32) = nI 48 from rfl, show (57 : Int32) = nI 57 from rfl, k_isAt T1 (by omega) (by omega) (by omega), p_bi, p_if, k_isAt T1 (by omega) (by omega) (by omega), p_bi, p_if]
    show ∃ y, (if g_L b len f = true then _ else if g_D b len f = true then _ else _) = _ ∧ _
    cases hL : g_L b len f
    · rw [if_neg p_ff, if_neg p_ff, if_neg p_ff]
      cases hD : g_D b len f
      · rw [if_neg p_ff, if_neg p_ff, if_neg p_ff, p_nm, p_stc]
        refine ⟨_, rfl, ?_, ?_, ?_, ?_, fun q => absurd q (by decide)⟩
        · rw [upd_ne (by omega), upd_ne (by omega), upd_ne (by omega)]
        · exact p_us ..
        · rw [upd_ne (by omega), upd_ne (by omega), p_us]
        · rw [upd_ne (by omega), p_us]
      · rw [if_pos rfl, if_pos rfl, if_pos rfl, p_nm, p_stc]
        have hr := k_runN T (lo := 48) (hi := 57) (by omega) (by omega) (f8_advance_b158 f8_advance_b196) f8_advance_b196 (fun q v z => rfl) (201 - (f + 1)) (f + 1) 0 lu_fu (upd (upd (upd (M 83) 4 (nI f)) 5 (nI (f + 1))) 3 2) (by omega) (by omega) (p_fu (by omega)) (by rw [upd_ne (by omega), upd_ne (by omega), upd_ne (by omega)]) (by rw [upd_ne (by omega), p_us])
        obtain ⟨a1, a2, a3, a4⟩ := g_to_p (g_Dl b len) hl (i := f + 1) (by omega)
        have hr' : f8_advance_b158 f8_advance_b196 lu_fu 0 (p_rw M 83 (upd (upd (upd (M 83) 4 (nI f)) 5 (nI (f + 1))) 3 2)) = f8_advance_b196 (p_rw M 83 (upd (upd (upd (upd (M 83) 4 (nI f)) 5 (nI (f + 1))) 3 2) 5 (nI (g_to (g_D b len) (f + 1))))) := hr
        have T2 : TPc b len (p_rw M 83 (upd (upd (upd (upd (M 83) 4 (nI f)) 5 (nI (f + 1))) 3 2) 5 (nI (g_to (g_D b len) (f + 1))))) := T.rw (by rw [upd_ne (by omega), upd_ne (by omega), upd_ne (by omega), upd_ne (by omega)])
        rw [hr']
        unfold f8_advance_b196 f8_advance_b212
        rw [k_num T2 (f := f) (e := g_to (g_D b len) (f + 1)) (by rw [p_rw_s, upd_ne (by omega), upd_ne (by omega), upd_ne (by omega), p_us]) (by rw [p_rw_s, p_us]) (by omega) (a2 (by omega)) (fun i h1 h2 => by
          by_cases e : i = f
          · subst e; exact (g_lt (b := b) hD).2
          · exact (g_lt (b := b) (a4 i (by omega) h2)).2), p_bi, p_nm, p_stc]
        refine ⟨_, rfl, ?_, ?_, ?_, ?_, fun _ => p_us ..⟩
        · rw [upd_ne (by omega), upd_ne (by omega), upd_ne (by omega), upd_ne (by omega), upd_ne (by omega)]
        · rw [upd_ne (by omega), upd_ne (by omega), p_us]; rfl
        · rw [upd_ne (by omega), upd_ne (by omega), upd_ne (by omega), upd_ne (by omega), p_us]
        · rw [upd_ne (by omega), p_us]
    · rw [if_pos rfl, if_pos rfl, if_pos rfl, p_nm, p_stc]
      have hr := k_runN T (lo := 97) (hi := 122) (by omega) (by omega) (f8_advance_b98 f8_advance_b136) f8_advance_b136 (fun q v z => rfl) (201 - (f + 1)) (f + 1) 0 lu_fu (upd (upd (upd (M 83) 4 (nI f)) 5 (nI (f + 1))) 3 1) (by omega) (by omega) (p_fu (by omega)) (by rw [upd_ne (by omega), upd_ne (by omega), upd_ne (by omega)]) (by rw [upd_ne (by omega), p_us])
      have hr' : f8_advance_b98 f8_advance_b136 lu_fu 0 (p_rw M 83 (upd (upd (upd (M 83) 4 (nI f)) 5 (nI (f + 1))) 3 1)) = f8_advance_b136 (p_rw M 83 (upd (upd (upd (upd (M 83) 4 (nI f)) 5 (nI (f + 1))) 3 1) 5 (nI (g_to (g_L b len) (f + 1))))) := hr
      rw [hr']
      unfold f8_advance_b136 f8_advance_b212
      refine ⟨_, rfl, ?_, ?_, ?_, ?_, fun q => absurd q (by decide)⟩
      · rw [upd_ne (by omega), upd_ne (by omega), upd_ne (by omega), upd_ne (by omega)]
      · rw [upd_ne (by omega), p_us]; rfl
      · rw [upd_ne (by omega), upd_ne (by omega), upd_ne (by omega), p_us]
      · rw [p_us]
  · rw [if_neg h, if_pos (show len ≤ f by omega), if_pos (show len ≤ f by omega)]
    have hlf : len = f := by omega
    rw [p_nm, p_stc, p_nm, p_rw_s, p_stc, p_nm, p_rw_s, p_stc]
    refine ⟨_, rfl, ?_, ?_, ?_, ?_, fun q => absurd q (by decide)⟩
    · rw [upd_ne (by omega), upd_ne (by omega), upd_ne (by omega), upd_ne (by omega), upd_ne (by omega)]
    · rw [upd_ne (by omega), upd_ne (by omega), p_us]; rfl
    · rw [upd_ne (by omega), p_us, upd_ne (by omega), upd_ne (by omega), upd_ne (by omega), T.2.1, hlf]
    · rw [p_us, upd_ne (by omega), upd_ne (by omega), upd_ne (by omega), upd_ne (by omega), T.2.1, hlf]

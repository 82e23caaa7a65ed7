/-! THE PURE PART, base: bits (out of kit/laws/BITS), numbers, how the functions compute, loops -/
/-! ===== Int32 by its bits: bt x i ===== -/
def bt (x : Int32) (i : Nat) : Bool := x.toBitVec.getLsbD i
theorem b_ext {x y : Int32} (h : ∀ i, i < 32 → bt x i = bt y i) : x = y := Int32.toBitVec_inj.mp (BitVec.eq_of_getLsbD_eq (fun i hi => h i hi))
theorem b_or (x y : Int32) (i : Nat) : bt (x ||| y) i = (bt x i || bt y i) := by unfold bt; rw [Int32.toBitVec_or, BitVec.getLsbD_or]
theorem b_and (x y : Int32) (i : Nat) : bt (x &&& y) i = (bt x i && bt y i) := by unfold bt; rw [Int32.toBitVec_and, BitVec.getLsbD_and]
theorem b_xor (x y : Int32) (i : Nat) : bt (x ^^^ y) i = (bt x i ^^ bt y i) := by unfold bt; rw [Int32.toBitVec_xor, BitVec.getLsbD_xor]
theorem b_big {x : Int32} {i : Nat} (h : 32 ≤ i) : bt x i = false := BitVec.getLsbD_of_ge _ _ h
theorem b_255 (i : Nat) : bt 255 i = decide (i < 8) := by
  rcases Nat.lt_or_ge i 32 with h | h
  · exact (by decide +kernel : ∀ i, i < 32 → bt 255 i = decide (i < 8)) i h
  · rw [b_big h, decide_eq_false (by omega)]
theorem b_65535 (i : Nat) : bt 65535 i = decide (i < 16) := by
  rcases Nat.lt_or_ge i 32 with h | h
  · exact (by decide +kernel : ∀ i, i < 32 → bt 65535 i = decide (i < 16)) i h
  · rw [b_big h, decide_eq_false (by omega)]
theorem b_m1 : ∀ i, i < 32 → bt (-1) i = true := by decide +kernel
theorem b_0 (i : Nat) : bt 0 i = false := BitVec.getLsbD_zero
theorem s_l : ∀ n, n < 32 → ((nI n &&& 31).toBitVec.smod 32).toNat = n := by decide +kernel
theorem s_u : ∀ n, n < 32 → (((nI n).toUInt32 &&& Int32.toUInt32 31).toBitVec % 32).toNat = n := by decide +kernel
theorem b_shl (n : Nat) (hn : n < 32) (x : Int32) {i : Nat} (hi : i < 32) : bt (x <<< (nI n &&& 31)) i = (decide (n ≤ i) && bt x (i - n)) := by
  unfold bt
  rw [Int32.toBitVec_shiftLeft]
  show (x.toBitVec <<< ((nI n &&& 31).toBitVec.smod 32).toNat).getLsbD i = _
  rw [s_l n hn, BitVec.getLsbD_shiftLeft]
  rcases Nat.lt_or_ge i n with h | h
  · simp [h, Nat.not_le.mpr h]
  · simp [hi, h, Nat.not_lt.mpr h]
theorem b_ushr (n : Nat) (hn : n < 32) (x : Int32) (i : Nat) : bt ((x.toUInt32 >>> ((nI n).toUInt32 &&& Int32.toUInt32 31)).toInt32) i = bt x (n + i) := by
  show (x.toUInt32 >>> ((nI n).toUInt32 &&& Int32.toUInt32 31)).toBitVec.getLsbD i = x.toUInt32.toBitVec.getLsbD (n + i)
  rw [UInt32.toBitVec_shiftRight]
  show (x.toUInt32.toBitVec >>> (((nI n).toUInt32 &&& Int32.toUInt32 31).toBitVec % 32).toNat).getLsbD i = _
  rw [s_u n hn, BitVec.getLsbD_ushiftRight]
theorem b_sshr (n : Nat) (hn : n < 32) (x : Int32) {i : Nat} (hi : i < 32) : bt (x >>> (nI n &&& 31)) i = if n + i < 32 then bt x (n + i) else bt x 31 := by
  unfold bt
  rw [Int32.toBitVec_shiftRight]
  show (x.toBitVec.sshiftRight ((nI n &&& 31).toBitVec.smod 32).toNat).getLsbD i = _
  rw [s_l n hn, BitVec.getLsbD_sshiftRight, BitVec.msb_eq_getLsbD_last]
  simp [hi]
theorem b_shl8 (x : Int32) {i : Nat} (hi : i < 32) : bt (x <<< ((8 : Int32) &&& 31)) i = (decide (8 ≤ i) && bt x (i - 8)) := b_shl 8 (by omega) x hi
theorem b_shl16 (x : Int32) {i : Nat} (hi : i < 32) : bt (x <<< ((16 : Int32) &&& 31)) i = (decide (16 ≤ i) && bt x (i - 16)) := b_shl 16 (by omega) x hi
theorem b_shl24 (x : Int32) {i : Nat} (hi : i < 32) : bt (x <<< ((24 : Int32) &&& 31)) i = (decide (24 ≤ i) && bt x (i - 24)) := b_shl 24 (by omega) x hi
theorem b_sshr8 (x : Int32) {i : Nat} (hi : i < 32) : bt (x >>> ((8 : Int32) &&& 31)) i = if 8 + i < 32 then bt x (8 + i) else bt x 31 := b_sshr 8 (by omega) x hi
theorem p_bi {α β : Type} (a : α) (m : lu_M) (K : α → lu_M → Option β) : lu_bi (some (a, m)) K = K a m := rfl
theorem p_bv {β : Type} (m : lu_M) (K : lu_M → Option β) : lu_bv (some m) K = K m := rfl
theorem p_nm {α β : Type} (x : α) (K : α → β) : lu_nm x K = K x := rfl
theorem p_gt {β : Type} (o : Option β) : lu_gd true o = o := rfl
theorem p_ib {d N : Nat} (h : d < N) (hN : N < 2 ^ 31) : lu_ib (nI d) N = true := by
  simp only [lu_ib, Bool.and_eq_true, decide_eq_true_eq]
  rw [nI_toInt (by omega)]
  omega
theorem p_gd {β : Type} {d N : Nat} (h : d < N) (hN : N < 2 ^ 31) (o : Option β) : lu_gd (lu_ib (nI d) N) o = o := by rw [p_ib h hN]; rfl
theorem p_g01 {β : Type} (b : Bool) (o : Option β) : lu_gd (decide ((if b then (1 : Int32) else 0) = 0 ∨ (if b then (1 : Int32) else 0) = 1)) o = o := by cases b <;> rfl
theorem p_g0 {β : Type} (o : Option β) : lu_gd (decide ((0 : Int32) = 0 ∨ (0 : Int32) = 1)) o = o := rfl
theorem p_g1 {β : Type} (o : Option β) : lu_gd (decide ((1 : Int32) = 0 ∨ (1 : Int32) = 1)) o = o := rfl
/-- a truth as a number -/
def p_b (b : Bool) : Int32 := if b then 1 else 0
theorem p_b0 (b : Bool) : p_b b = 0 ↔ b = false := by cases b <;> decide
theorem p_b1 (b : Bool) : p_b b = 1 ↔ b = true := by cases b <;> decide
theorem p_gb {β : Type} (b : Bool) (o : Option β) : lu_gd (decide (p_b b = 0 ∨ p_b b = 1)) o = o := by cases b <;> rfl
theorem p_if {α : Type} (b : Bool) (x y : α) : (if p_b b = 0 then x else y) = if b then y else x := by cases b <;> rfl
theorem p_if1 {α : Type} (b : Bool) (x y : α) : (if p_b b = 1 then x else y) = if b then x else y := by cases b <;> rfl
/-- a row of the memory anew -/
def p_rw (m : lu_M) (r : Nat) (f : Nat → Int32) : lu_M := fun a => if a = r then f else m a
theorem p_rw_s (m : lu_M) (r : Nat) (f : Nat → Int32) : p_rw m r f r = f := if_pos rfl
theorem p_rw_n {m : lu_M} {r a : Nat} {f : Nat → Int32} (h : a ≠ r) : p_rw m r f a = m a := if_neg h
theorem p_rw_rw (m : lu_M) (r : Nat) (f g : Nat → Int32) : p_rw (p_rw m r f) r g = p_rw m r g := by
  funext a
  unfold p_rw
  by_cases h : a = r
  · rw [if_pos h, if_pos h]
  · rw [if_neg h, if_neg h, if_neg h]
theorem p_rw_id (m : lu_M) (r : Nat) : p_rw m r (m r) = m := by
  funext a
  unfold p_rw
  by_cases h : a = r
  · rw [if_pos h, h]
  · rw [if_neg h]
theorem p_st (m : lu_M) (r k : Nat) (v : Int32) : lu_st m r k v = p_rw m r (upd (m r) k v) := by
  funext a
  unfold p_rw
  by_cases h : a = r
  · subst h; rw [if_pos rfl, lu_st_upd]
  · rw [if_neg h, lu_st_row h]
/-- steps k, k + 1 .., j of them -/
def p_it {σ : Type} (f : Nat → σ → σ) : Nat → Nat → σ → σ
  | _, 0, x => x
  | k, j + 1, x => p_it f (k + 1) j (f k x)
theorem p_it_inv {σ : Type} {f : Nat → σ → σ} {I : Nat → σ → Prop} : ∀ (j k : Nat) (x : σ), I k x → (∀ i x, k ≤ i → i < k + j → I i x → I (i + 1) (f i x)) → I (k + j) (p_it f k j x)
  | 0, k, x, h, _ => h
  | j + 1, k, x, h, hs => by
    have e := p_it_inv (f := f) (I := I) j (k + 1) (f k x) (hs k x (Nat.le_refl _) (by omega) h) (fun i y h1 h2 h3 => hs i y (by omega) (by omega) h3)
    rw [show k + (j + 1) = k + 1 + j by omega]
    exact e
theorem p_it_eq {σ : Type} {f g : Nat → σ → σ} : ∀ (j k : Nat) (x : σ), (∀ i x, k ≤ i → i < k + j → f i x = g i x) → p_it f k j x = p_it g k j x
  | 0, _, _, _ => rfl
  | j + 1, k, x, h => by
    show p_it f (k + 1) j (f k x) = p_it g (k + 1) j (g k x)
    rw [h k x (Nat.le_refl _) (by omega)]
    exact p_it_eq j (k + 1) _ (fun i y h1 h2 => h i y (by omega) (by omega))
/-- a relation between two runs of steps -/
theorem p_it_rel {σ τ : Type} {f : Nat → σ → σ} {g : Nat → τ → τ} {R : Nat → σ → τ → Prop} : ∀ (j k : Nat) (x : σ) (y : τ), R k x y → (∀ i x y, k ≤ i → i < k + j → R i x y → R (i + 1) (f i x) (g i y)) → R (k + j) (p_it f k j x) (p_it g k j y)
  | 0, k, x, y, h, _ => h
  | j + 1, k, x, y, h, hs => by
    have e := p_it_rel (f := f) (g := g) (R := R) j (k + 1) (f k x) (g k y) (hs k x y (Nat.le_refl _) (by omega) h) (fun i a b h1 h2 h3 => hs i a b (by omega) (by omega) h3)
    rw [show k + (j + 1) = k + 1 + j by omega]
    exact e
/-- a loop that counts to D: what its steps do, with an invariant -/
theorem p_loop {α β : Type} (L : Nat → Int32 → α → Option β) (K : α → Option β) (D : Nat) (f : Nat → α → α) (I : Nat → α → Prop) (hx : ∀ n x, I D x → L (n + 1) (nI D) x = K x) (hs : ∀ n i x, i < D → I i x → L (n + 1) (nI i) x = L n (nI (i + 1)) (f i x)) (hI : ∀ i x, i < D → I i x → I (i + 1) (f i x)) : ∀ (j i n : Nat) (x : α), i + j = D → j < n → I i x → L n (nI i) x = K (p_it f i j x) ∧ I D (p_it f i j x)
  | 0, i, n, x, h1, h2, h3 => by
    obtain ⟨n, rfl⟩ : ∃ q, n = q + 1 := ⟨n - 1, by omega⟩
    rw [Nat.add_zero] at h1
    subst h1
    exact ⟨hx n x h3, h3⟩
  | j + 1, i, n, x, h1, h2, h3 => by
    obtain ⟨n, rfl⟩ : ∃ q, n = q + 1 := ⟨n - 1, by omega⟩
    have e := p_loop L K D f I hx hs hI j (i + 1) n (f i x) (by omega) (by omega) (hI i x (by omega) h3)
    rw [hs n i x (by omega) h3]
    exact e
theorem p_fu {j : Nat} (h : j < 1000) : j < lu_fu := h
theorem p_next (i : Nat) : nI i + (1 : Int32) = nI (i + 1) := nI_1 i
theorem p_le {a b : Nat} (ha : a < 2 ^ 31) (hb : b < 2 ^ 31) : (nI a ≤ nI b) = (a ≤ b) := propext (nI_leI ha hb)
theorem p_lt {a b : Nat} (ha : a < 2 ^ 31) (hb : b < 2 ^ 31) : (nI a < nI b) = (a < b) := propext (nI_ltI ha hb)
theorem p_eq {a b : Nat} (ha : a < 2 ^ 31) (hb : b < 2 ^ 31) : (nI a = nI b) = (a = b) := propext (nI_eq ha hb)
theorem q_le {α : Type} {a b : Nat} (ha : a < 2 ^ 31) (hb : b < 2 ^ 31) (x y : α) : (if nI a ≤ nI b then x else y) = if a ≤ b then x else y := by
  by_cases h : a ≤ b
  · rw [if_pos h, if_pos ((nI_leI ha hb).mpr h)]
  · rw [if_neg h, if_neg (fun q => h ((nI_leI ha hb).mp q))]
theorem q_lt {α : Type} {a b : Nat} (ha : a < 2 ^ 31) (hb : b < 2 ^ 31) (x y : α) : (if nI a < nI b then x else y) = if a < b then x else y := by
  by_cases h : a < b
  · rw [if_pos h, if_pos ((nI_ltI ha hb).mpr h)]
  · rw [if_neg h, if_neg (fun q => h ((nI_ltI ha hb).mp q))]
theorem q_eq {α : Type} {a b : Nat} (ha : a < 2 ^ 31) (hb : b < 2 ^ 31) (x y : α) : (if nI a = nI b then x else y) = if a = b then x else y := by
  by_cases h : a = b
  · rw [if_pos h, if_pos ((nI_eq ha hb).mpr h)]
  · rw [if_neg h, if_neg (fun q => h ((nI_eq ha hb).mp q))]
/-- one bit of a set -/
theorem p_bit (x : Int32) {i : Nat} (hi : i < 31) : ((x >>> (nI i &&& 31)) &&& (1 : Int32)) = p_b (bt x i) := by
  apply b_ext
  intro j hj
  rw [b_and, b_sshr i (by omega) x hj]
  have h1 : bt (1 : Int32) j = decide (j = 0) := (by decide +kernel : ∀ j, j < 32 → bt (1 : Int32) j = decide (j = 0)) j hj
  rw [h1]
  by_cases h0 : j = 0
  · subst h0
    rw [if_pos (by omega)]
    cases h : bt x (i + 0)
    · rfl
    · rfl
  · have h3 : bt (p_b (bt x i)) j = false := by
      cases bt x i
      · exact b_0 j
      · show bt 1 j = false
        rw [h1, decide_eq_false h0]
    rw [h3, decide_eq_false h0, Bool.and_false]
theorem p_one : ∀ i, i < 32 → ∀ j, j < 32 → bt ((1 : Int32) <<< (nI i &&& 31)) j = decide (j = i) := by decide +kernel
theorem p_set (x : Int32) {i j : Nat} (hi : i < 32) (hj : j < 32) : bt (x ||| ((1 : Int32) <<< (nI i &&& 31))) j = (bt x j || decide (j = i)) := by
  rw [b_or, p_one i hi j hj]
theorem p_clr (x : Int32) {i j : Nat} (hi : i < 32) (hj : j < 32) : bt (x &&& (((1 : Int32) <<< (nI i &&& 31)) ^^^ (-1 : Int32))) j = (bt x j && !decide (j = i)) := by
  rw [b_and, b_xor, p_one i hi j hj, b_m1 j hj]
  simp

/-! THE PURE PART: the rules as a list, their conditions as steps over truths -/
abbrev Tk := Nat × Nat × Nat × Nat
abbrev Ru := Nat × Nat × Nat × List Tk
def o_v (f : Nat → Int32) (a : Nat) : Int32 := if a < 10000 then nI a else f (a - 10000)
def o_c (f : Nat → Int32) (t : Tk) : Bool := if t.2.1 = 1 then decide (¬ o_v f t.2.2.2 ≤ o_v f t.2.2.1) else if t.2.1 = 2 then decide (o_v f t.2.2.1 = o_v f t.2.2.2) else decide (¬ o_v f t.2.2.1 ≤ o_v f t.2.2.2)
def o_ok (t : Tk) : Prop := t.1 ≤ 3 ∧ (t.1 = 0 → 1 ≤ t.2.1 ∧ t.2.1 ≤ 3 ∧ t.2.2.1 < 10005 ∧ t.2.2.2 < 10005)
def o_top : List Bool → Bool
  | [] => true
  | b :: _ => b
def o_1 (f : Nat → Int32) (t : Tk) (st : List Bool) : List Bool :=
  if t.1 = 0 then o_c f t :: st else if t.1 = 1 then (!o_top st) :: st.tail else if t.1 = 2 then (o_top st && o_top st.tail) :: st.tail.tail else (o_top st || o_top st.tail) :: st.tail.tail
def o_run (f : Nat → Int32) : List Tk → List Bool → List Bool
  | [], st => st
  | t :: l, st => o_run f l (o_1 f t st)
/-- heights: what a step wants, and leaves -/
def o_h (t : Tk) (h : Nat) : Option Nat := if t.1 = 0 then (if h < 12 then some (h + 1) else none) else if t.1 = 1 then (if 1 ≤ h then some h else none) else (if 2 ≤ h then some (h - 1) else none)
def o_hs : List Tk → Nat → Option Nat
  | [], h => some h
  | t :: l, h => (o_h t h).bind (o_hs l)
theorem o_hs_app (l k : List Tk) : ∀ h, o_hs (l ++ k) h = (o_hs l h).bind (o_hs k) := by
  induction l with
  | nil => intro h; rfl
  | cons t l ih =>
    intro h
    show (o_h t h).bind (o_hs (l ++ k)) = ((o_h t h).bind (o_hs l)).bind (o_hs k)
    cases o_h t h with
    | none => rfl
    | some q => exact ih q
theorem o_run_app (f : Nat → Int32) (l k : List Tk) : ∀ st, o_run f (l ++ k) st = o_run f k (o_run f l st) := by
  induction l with
  | nil => intro st; rfl
  | cons t l ih => intro st; exact ih _
theorem o_1_len (f : Nat → Int32) (t : Tk) (st : List Bool) {h : Nat} (e : o_h t st.length = some h) : (o_1 f t st).length = h := by
  unfold o_h at e
  unfold o_1
  by_cases h0 : t.1 = 0
  · rw [if_pos h0] at e ⊢
    split at e
    · injection e with e
    · cases e
  rw [if_neg h0] at e ⊢
  by_cases h1 : t.1 = 1
  · rw [if_pos h1] at e ⊢
    split at e
    · injection e with e
      rw [← e]
      show st.tail.length + 1 = _
      rw [List.length_tail]; omega
    · cases e
  rw [if_neg h1] at e ⊢
  split at e
  · injection e with e
    rw [← e]
    split
    · show st.tail.tail.length + 1 = _
      rw [List.length_tail, List.length_tail]; omega
    · show st.tail.tail.length + 1 = _
      rw [List.length_tail, List.length_tail]; omega
  · cases e
/-- a stretch of a row -/
def seg (r : Nat → Int32) : Nat → List Int32 → Prop
  | _, [] => True
  | k, x :: l => r k = x ∧ seg r (k + 1) l
theorem seg_app (r : Nat → Int32) : ∀ (l l' : List Int32) (k : Nat), seg r k (l ++ l') ↔ seg r k l ∧ seg r (k + l.length) l'
  | [], l', k => by show _ ↔ True ∧ _; rw [true_and]; exact Iff.rfl
  | x :: l, l', k => by
    show (r k = x ∧ seg r (k + 1) (l ++ l')) ↔ (r k = x ∧ seg r (k + 1) l) ∧ seg r (k + (l.length + 1)) l'
    rw [seg_app r l l' (k + 1), and_assoc, show k + 1 + l.length = k + (l.length + 1) by omega]
theorem seg_eq {r r' : Nat → Int32} : ∀ (l : List Int32) (k : Nat), (∀ i, k ≤ i → i < k + l.length → r' i = r i) → seg r k l → seg r' k l
  | [], _, _, _ => trivial
  | x :: l, k, h, hs => by
    have hl : (x :: l).length = l.length + 1 := rfl
    exact ⟨(h k (Nat.le_refl _) (by omega)).trans hs.1, seg_eq l (k + 1) (fun i h1 h2 => h i (by omega) (by omega)) hs.2⟩
/-- the class's step, the reference's codes -/
def e_C (t : Tk) : Int32 := if t.1 = 0 then nI ((t.2.1 * 16384 + t.2.2.1) * 16384 + t.2.2.2) else if t.1 = 1 then 0 else if t.1 = 2 then 1 else 2
def e_o (a : Nat) : Int32 := if a < 10000 then nI a else if a = 10000 then -1 else if a = 10001 then -2 else if a = 10002 then -3 else if a = 10003 then -4 else -5
def e_M (t : Tk) : List Int32 := if t.1 = 0 then [e_o t.2.2.1, e_o t.2.2.2, if t.2.1 = 1 then -11 else if t.2.1 = 2 then -12 else -13] else if t.1 = 1 then [-20] else if t.1 = 2 then [-21] else [-22]
def e_Ms : List Tk → List Int32
  | [] => []
  | t :: l => e_M t ++ e_Ms l
theorem e_Ms_app (l k : List Tk) : e_Ms (l ++ k) = e_Ms l ++ e_Ms k := by
  induction l with
  | nil => rfl
  | cons t l ih =>
    show e_M t ++ e_Ms (l ++ k) = (e_M t ++ e_Ms l) ++ e_Ms k
    rw [ih, List.append_assoc]
/-! the class: one comparison -/
theorem k_isSo (r : Nat) (m : lu_M) {g a b : Nat} (hg : 1 ≤ g ∧ g ≤ 3) (ha : a < 10005) (hb : b < 10005) : f6_isSo (nI ((g * 16384 + a) * 16384 + b)) r m = some (p_b (o_c (m r) (0, g, a, b)), m) := by
  have e28 : nI ((g * 16384 + a) * 16384 + b) >>> ((28 : Int32) &&& 31) = nI g := by
    rw [pk_shrN (by omega) _ 28 (by decide)]
    congr 1
    omega
  have e14 : (nI ((g * 16384 + a) * 16384 + b) >>> ((14 : Int32) &&& 31)) &&& (16383 : Int32) = nI a := by
    rw [pk_shrN (by omega) _ 14 (by decide), pk_andN (by omega) 14 (by decide)]
    congr 1
    omega
  have e0 : nI ((g * 16384 + a) * 16384 + b) &&& (16383 : Int32) = nI b := by
    rw [pk_andN (by omega) 14 (by decide)]
    congr 1
    omega
  have h65 : ∀ x y : Int32, f6_isSo_b65 (nI ((g * 16384 + a) * 16384 + b)) r x y m = some (p_b (if g = 1 then decide (¬ y ≤ x) else if g = 2 then decide (x = y) else decide (¬ x ≤ y)), m) := by
    intro x y
    unfold f6_isSo_b65 f6_isSo_b106 f6_isSo_b117 f6_isSo_b128
    rw [e28, show (1 : Int32) = nI 1 from rfl, show (2 : Int32) = nI 2 from rfl, q_eq (by omega) (by omega), q_eq (by omega) (by omega)]
    by_cases h1 : g = 1
    · rw [if_pos h1, if_pos h1]
      by_cases h : y ≤ x
      · rw [if_pos h, decide_eq_false (p := ¬ y ≤ x) (fun q => q h)]; rfl
      · rw [if_neg h, decide_eq_true h]; rfl
    rw [if_neg h1, if_neg h1]
    by_cases h2 : g = 2
    · rw [if_pos h2, if_pos h2]
      by_cases h : x = y
      · rw [if_pos h, decide_eq_true h]; rfl
      · rw [if_neg h, decide_eq_false h]; rfl
    rw [if_neg h2, if_neg h2]
    by_cases h : x ≤ y
    · rw [if_pos h, decide_eq_false (p := ¬ x ≤ y) (fun q => q h)]; rfl
    · rw [if_neg h, decide_eq_true h]; rfl
  have h40 : ∀ x : Int32, f6_isSo_b40 (nI ((g * 16384 + a) * 16384 + b)) r x (nI b) m = f6_isSo_b65 (nI ((g * 16384 + a) * 16384 + b)) r x (o_v (m r) b) m := by
    intro x
    unfold f6_isSo_b40 o_v
    rw [show (10000 : Int32) = nI 10000 from rfl, q_lt (by omega) (by omega)]
    by_cases h : b < 10000
    · rw [if_pos h, if_pos h]
    · rw [if_neg h, if_neg h, pk_sub (by omega), show (5 : Int32) = nI 5 from rfl, q_le (by omega) (by omega), if_neg (by omega), p_gd (by omega) (by omega), p_nm, nI_clamp (by omega)]
  unfold f6_isSo
  rw [e14, e0, p_nm, p_nm, show (10000 : Int32) = nI 10000 from rfl, q_lt (by omega) (by omega), h40]
  unfold o_c
  by_cases h : a < 10000
  · rw [if_pos h, h65]
    unfold o_v
    rw [if_pos h]
  · rw [if_neg h, pk_sub (by omega), show (5 : Int32) = nI 5 from rfl, q_le (by omega) (by omega), if_neg (by omega), p_gd (by omega) (by omega), p_nm, nI_clamp (by omega), h40, h65]
    show some (p_b (if g = 1 then _ else _), m) = some (p_b (if g = 1 then decide (¬ _ ≤ o_v (m r) a) else if g = 2 then decide (o_v (m r) a = _) else decide (¬ o_v (m r) a ≤ _)), m)
    have : o_v (m r) a = m r (a - 10000) := by unfold o_v; rw [if_neg h]
    rw [this]
/-- truths as bits: the latest lowest, behind all a true one -/
def TB (T : Int32) (st : List Bool) : Prop := ∀ i, i < 32 → bt T i = (st ++ [true]).getD i false
theorem TB_top {T : Int32} {st : List Bool} (h : TB T st) : bt T 0 = o_top st := by
  rw [h 0 (by omega)]
  cases st <;> rfl
theorem p_1b (j : Nat) (hj : j < 32) : bt (1 : Int32) j = decide (j = 0) := (by decide +kernel : ∀ j, j < 32 → bt (1 : Int32) j = decide (j = 0)) j hj
theorem p_2n (j : Nat) (hj : j < 32) : bt (-2 : Int32) j = !decide (j = 0) := (by decide +kernel : ∀ j, j < 32 → bt (-2 : Int32) j = !decide (j = 0)) j hj
theorem TB_and1 (T : Int32) : (T &&& (1 : Int32)) = p_b (bt T 0) := by
  have h := p_bit T (i := 0) (by omega)
  have e : T >>> (nI 0 &&& 31) = T := by
    apply b_ext
    intro i hi
    rw [b_sshr 0 (by omega) T hi, Nat.zero_add, if_pos hi]
  rw [e] at h
  exact h
theorem getD_app_t (st : List Bool) {i : Nat} (h : st.length < i) : (st ++ [true]).getD i false = false := by
  rw [List.getD_eq_getElem?_getD, List.getElem?_eq_none (by rw [List.length_append]; show st.length + 1 ≤ i; omega)]
  rfl
theorem b_shl1 (x : Int32) {i : Nat} (hi : i < 32) : bt (x <<< ((1 : Int32) &&& 31)) i = (decide (1 ≤ i) && bt x (i - 1)) := b_shl 1 (by omega) x hi
theorem b_sshr1 (x : Int32) {i : Nat} (hi : i < 32) : bt (x >>> ((1 : Int32) &&& 31)) i = if 1 + i < 32 then bt x (1 + i) else bt x 31 := b_sshr 1 (by omega) x hi
theorem TB_shl {T : Int32} {st : List Bool} (h : TB T st) (hl : st.length ≤ 30) (b : Bool) : TB ((T <<< ((1 : Int32) &&& 31)) ||| p_b b) (b :: st) := by
  intro i hi
  rw [b_or, b_shl1 T hi]
  have hb : bt (p_b b) i = (b && decide (i = 0)) := by
    cases b
    · exact b_0 i
    · exact (p_1b i hi).trans (by rw [Bool.true_and])
  rw [hb]
  cases i with
  | zero => cases b <;> rfl
  | succ i =>
    rw [show i + 1 - 1 = i by omega, h i (by omega)]
    show _ = (st ++ [true]).getD i false
    simp
theorem TB_shr {T : Int32} {b : Bool} {st : List Bool} (h : TB T (b :: st)) (hl : st.length ≤ 29) (i : Nat) (hi : i < 32) : bt (T >>> ((1 : Int32) &&& 31)) i = (st ++ [true]).getD i false := by
  rw [b_sshr1 T hi]
  by_cases h1 : 1 + i < 32
  · rw [if_pos h1, h _ h1, Nat.add_comm]; rfl
  · rw [if_neg h1, h 31 (by omega)]
    have e : i = 31 := by omega
    subst e
    rw [getD_app_t (b :: st) (i := 31) (by show st.length + 1 < 31; omega)]
    exact (getD_app_t st (by omega)).symm
theorem TB_not {T : Int32} {b : Bool} {st : List Bool} (h : TB T (b :: st)) : TB (T ^^^ (1 : Int32)) ((!b) :: st) := by
  intro i hi
  rw [b_xor, h i hi, p_1b i hi]
  cases i with
  | zero => cases b <;> rfl
  | succ i =>
    show ((st ++ [true]).getD i false ^^ _) = (st ++ [true]).getD i false
    simp
theorem TB_or {T : Int32} {b c : Bool} {st : List Bool} (h : TB T (b :: c :: st)) (hl : st.length ≤ 28) : TB ((T >>> ((1 : Int32) &&& 31)) ||| (T &&& (1 : Int32))) ((b || c) :: st) := by
  intro i hi
  rw [b_or, TB_shr h (by show st.length + 1 ≤ 29; omega) i hi, TB_and1, TB_top h]
  have hb : bt (p_b (o_top (b :: c :: st))) i = (b && decide (i = 0)) := by
    show bt (p_b b) i = _
    cases b
    · exact b_0 i
    · exact (p_1b i hi).trans (by rw [Bool.true_and])
  rw [hb]
  cases i with
  | zero => cases b <;> cases c <;> rfl
  | succ i =>
    show ((st ++ [true]).getD i false || _) = (st ++ [true]).getD i false
    simp
theorem TB_andT {T : Int32} {c : Bool} {st : List Bool} (h : TB T (true :: c :: st)) (hl : st.length ≤ 28) : TB (T >>> ((1 : Int32) &&& 31)) ((true && c) :: st) := by
  intro i hi
  rw [TB_shr h (by show st.length + 1 ≤ 29; omega) i hi, Bool.true_and]
theorem TB_andF {T : Int32} {c : Bool} {st : List Bool} (h : TB T (false :: c :: st)) (hl : st.length ≤ 28) : TB ((T >>> ((1 : Int32) &&& 31)) &&& (-2 : Int32)) ((false && c) :: st) := by
  intro i hi
  rw [b_and, TB_shr h (by show st.length + 1 ≤ 29; omega) i hi, p_2n i hi]
  cases i with
  | zero => cases c <;> rfl
  | succ i =>
    show ((st ++ [true]).getD i false && _) = (st ++ [true]).getD i false
    simp
theorem o_cons {st : List Bool} (h : 1 ≤ st.length) : st = o_top st :: st.tail := by
  cases st with
  | nil => exact absurd h (by decide)
  | cons b r => rfl

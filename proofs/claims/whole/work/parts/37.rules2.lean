/-! THE PURE PART: a rule's condition, in the class and in the reference -/
theorem p_ne3 {N k : Nat} (h : k < N) (hN : N < 2 ^ 31) : ¬ nI N = nI k := fun q => by have := (nI_eq hN (by omega)).mp q; omega
theorem p_ne0 {N : Nat} (h : 0 < N) (hN : N < 2 ^ 31) : ¬ nI N = (0 : Int32) := p_ne3 (k := 0) h hN
theorem p_ne1 {N : Nat} (h : 1 < N) (hN : N < 2 ^ 31) : ¬ nI N = (1 : Int32) := p_ne3 (k := 1) h hN
theorem p_ne2 {N : Nat} (h : 2 < N) (hN : N < 2 ^ 31) : ¬ nI N = (2 : Int32) := p_ne3 (k := 2) h hN
theorem h_run {m : lu_M} {r k e q : Nat} (K : Int32 → lu_M → Option (Int32 × lu_M)) (hk : k < 8) (he : m (r + 4) k = nI e) (he2 : e ≤ 200) : ∀ (l : List Tk) (i n : Nat) (T : Int32) (st : List Bool) (h : Nat), seg (m (r + 5)) i (l.map e_C) → i + l.length = e → l.length < n → o_hs l st.length = some h → st.length ≤ 12 → TB T st → (∀ t ∈ l, o_ok t) → ∃ T', f6_holds_b20 K r (nI k) q n T (nI i) m = K T' m ∧ TB T' (o_run (m q) l st)
  | [], i, n, T, st, h, hs, hi, hn, hh, hl, hT, ho => by
    obtain ⟨n, rfl⟩ : ∃ q, n = q + 1 := ⟨n - 1, by have : ([] : List Tk).length = 0 := rfl; omega⟩
    have hi' : i = e := hi
    subst hi'
    refine ⟨T, ?_, hT⟩
    show f6_holds_b20B _ _ _ _ _ _ _ _ = _
    unfold f6_holds_b20B
    rw [p_gd hk (by omega), nI_clamp (by omega), he, if_pos (Int32.le_refl _)]
  | t :: l, i, n, T, st, h, hs, hi, hn, hh, hl, hT, ho => by
    have hlen : (t :: l).length = l.length + 1 := rfl
    obtain ⟨n, rfl⟩ : ∃ q, n = q + 1 := ⟨n - 1, by omega⟩
    have hs1 : m (r + 5) i = e_C t := hs.1
    have hs2 : seg (m (r + 5)) (i + 1) (l.map e_C) := hs.2
    have hto := ho t (List.mem_cons_self ..)
    cases hh1 : o_h t st.length with
    | none =>
      have : o_hs (t :: l) st.length = (o_h t st.length).bind (o_hs l) := rfl
      rw [this, hh1] at hh
      cases hh
    | some h1 =>
    have hh2 : o_hs l h1 = some h := by
      have : o_hs (t :: l) st.length = (o_h t st.length).bind (o_hs l) := rfl
      rw [this, hh1] at hh
      exact hh
    have hl1 := o_1_len (m q) t st hh1
    have hh12 : h1 ≤ 12 := by
      unfold o_h at hh1
      split at hh1
      · split at hh1
        · injection hh1 with hh1; omega
        · cases hh1
      · split at hh1
        · split at hh1
          · injection hh1 with hh1; omega
          · cases hh1
        · split at hh1
          · injection hh1 with hh1; omega
          · cases hh1
    suffices hst : ∃ T', f6_holds_b20 K r (nI k) q (n + 1) T (nI i) m = f6_holds_b20 K r (nI k) q n T' (nI (i + 1)) m ∧ TB T' (o_1 (m q) t st) by
      obtain ⟨T', e1, hT'⟩ := hst
      obtain ⟨T2, e2, h2⟩ := h_run K hk he he2 l (i + 1) n T' (o_1 (m q) t st) h hs2 (by omega) (by omega) (by rw [hl1]; exact hh2) (by omega) hT' (fun a ha => ho a (List.mem_cons_of_mem _ ha))
      exact ⟨T2, by rw [e1]; exact e2, h2⟩
    show ∃ T', f6_holds_b20B _ _ _ _ _ _ _ _ = _ ∧ _
    unfold f6_holds_b20B f6_holds_b94 f6_holds_b126 f6_holds_b128
    rw [p_gd hk (by omega), nI_clamp (by omega), he, q_le (by omega) (by omega), if_neg (by omega), p_gd (by omega) (by omega), nI_clamp (by omega), hs1, p_nm, p_next]
    unfold o_h at hh1
    unfold o_1 e_C
    by_cases h0 : t.1 = 0
    · rw [if_pos h0] at hh1 ⊢
      obtain ⟨hg1, hg2, ha, hb⟩ := hto.2 h0
      rw [if_pos h0, if_neg (p_ne0 (by omega) (by omega)), if_neg (p_ne1 (by omega) (by omega)), if_neg (p_ne2 (by omega) (by omega)), k_isSo q m ⟨hg1, hg2⟩ ha hb, p_bi, p_if, p_nm, p_nm]
      refine ⟨(T <<< ((1 : Int32) &&& 31)) ||| p_b (o_c (m q) t), ?_, TB_shl hT (by omega) _⟩
      have : o_c (m q) t = o_c (m q) (0, t.2.1, t.2.2.1, t.2.2.2) := rfl
      rw [this]
      cases o_c (m q) (0, t.2.1, t.2.2.1, t.2.2.2) <;> rfl
    rw [if_neg h0] at hh1 ⊢
    rw [if_neg h0]
    by_cases h1' : t.1 = 1
    · rw [if_pos h1'] at hh1 ⊢
      have hl1 : 1 ≤ st.length := by
        split at hh1
        · assumption
        · cases hh1
      rw [if_pos h1', if_pos rfl, p_nm]
      rw [o_cons hl1] at hT
      exact ⟨_, rfl, TB_not hT⟩
    rw [if_neg h1'] at hh1 ⊢
    rw [if_neg h1']
    have hl2 : 2 ≤ st.length := by
      split at hh1
      · assumption
      · cases hh1
    have hst : st = o_top st :: o_top st.tail :: st.tail.tail := by
      have e1 := o_cons (st := st) (by omega)
      have e2 := o_cons (st := st.tail) (by rw [List.length_tail]; omega)
      rw [← e2]
      exact e1
    have hl3 : st.tail.tail.length ≤ 28 := by rw [List.length_tail, List.length_tail]; omega
    by_cases h2' : t.1 = 2
    · rw [if_pos h2', if_pos h2', if_neg (by decide), if_pos rfl, TB_and1, TB_top hT, p_if1]
      rw [hst] at hT
      cases hb : o_top st
      · rw [hb] at hT
        exact ⟨_, rfl, TB_andF hT hl3⟩
      · rw [hb] at hT
        exact ⟨_, rfl, TB_andT hT hl3⟩
    · rw [if_neg h2', if_neg h2', if_neg (by decide), if_neg (by decide), if_pos rfl, p_nm]
      rw [hst] at hT
      exact ⟨_, rfl, TB_or hT hl3⟩
theorem k_holds {m : lu_M} {r k b q : Nat} {l : List Tk} (hk : k < 8) (hb : k = 0 → b = 0) (hb2 : k ≠ 0 → m (r + 4) (k - 1) = nI b) (he : m (r + 4) k = nI (b + l.length)) (hm : b + l.length ≤ 200) (hs : seg (m (r + 5)) b (l.map e_C)) (hh : ∃ h, o_hs l 0 = some h) (ho : ∀ t ∈ l, o_ok t) : f6_holds r (nI k) q m = some (p_b (o_top (o_run (m q) l [])), m) := by
  obtain ⟨h, hh⟩ := hh
  obtain ⟨T, e, hT⟩ := h_run (q := q) (f6_holds_b134 r (nI k) q) hk he hm l b lu_fu 1 [] h hs rfl (p_fu (by omega)) hh (by decide) (fun i hi => by
    rw [p_1b i hi]
    cases i with
    | zero => rfl
    | succ i => rfl) ho
  have e2 : f6_holds_b20 (f6_holds_b134 r (nI k) q) r (nI k) q lu_fu 1 (nI b) m = some (p_b (o_top (o_run (m q) l [])), m) := by
    rw [e]
    unfold f6_holds_b134 f6_holds_b146
    rw [TB_and1, TB_top hT, p_if1]
    cases o_top (o_run (m q) l []) <;> rfl
  unfold f6_holds f6_holds_b18
  by_cases h0 : k = 0
  · rw [h0] at e2 ⊢
    rw [if_pos (show nI 0 = (0 : Int32) from rfl)]
    rw [hb h0] at e2
    exact e2
  · rw [if_neg (p_ne0 (by omega) (by omega)), show (1 : Int32) = nI 1 from rfl, pk_sub (by omega), p_gd (by omega) (by omega), nI_clamp (by omega), hb2 h0]
    exact e2
/-! the reference -/
def fv (u : Nat → Int32) (p : Nat) : Nat → Int32 := fun i => if i = 0 then u 3 else if i = 1 then s_sw u (nI p) else if i = 2 then u (9 + 3 * p) else if i = 3 then u (10 + 3 * p) else nI p
def RS (t : Nat → Int32) : List Bool → Prop
  | [] => True
  | b :: r => t r.length = p_b b ∧ RS t r
theorem RS_upd {t : Nat → Int32} {k : Nat} {v : Int32} : ∀ (st : List Bool), st.length ≤ k → RS t st → RS (upd t k v) st
  | [], _, _ => trivial
  | b :: r, h, hs => by
    have hl : (b :: r).length = r.length + 1 := rfl
    exact ⟨(upd_ne (by omega)).trans hs.1, RS_upd r (by omega) hs.2⟩
theorem p_neg {a : Nat} (h : a < 2 ^ 31) {x : Int32} (hx : x < 0) : ¬ nI a = x := fun q => nI_pos h (by rw [q]; exact hx)
theorem e_o_gt {a : Nat} (h : a < 10005) : ¬ e_o a ≤ (-10 : Int32) := by
  unfold e_o
  by_cases h1 : a < 10000
  · rw [if_pos h1]
    intro q
    have q2 := Int32.le_iff_toInt_le.mp q
    rw [nI_toInt (by omega), show ((-10 : Int32)).toInt = -10 from rfl] at q2
    omega
  · rw [if_neg h1]
    have : a = 10000 ∨ a = 10001 ∨ a = 10002 ∨ a = 10003 ∨ a = 10004 := by omega
    rcases this with e | e | e | e | e <;> subst e <;> decide
theorem t_fact {n : lu_M} (I : SI (n 1)) {p a : Nat} (hp : p < 6) (ha : a < 10005) : f12_fact (e_o a) (nI p) n = some (o_v (fv (n 1) p) a, n) := by
  unfold f12_fact e_o o_v
  by_cases h1 : a < 10000
  · rw [if_pos h1, if_pos h1, if_neg (p_neg (by omega) (by decide)), if_neg (p_neg (by omega) (by decide)), if_neg (p_neg (by omega) (by decide)), if_neg (p_neg (by omega) (by decide)), if_neg (p_neg (by omega) (by decide))]
  · rw [if_neg h1, if_neg h1, t_iSn n hp, p_bi, t_iGr n hp, p_bi, t_standWeight I, p_bi]
    have : a = 10000 ∨ a = 10001 ∨ a = 10002 ∨ a = 10003 ∨ a = 10004 := by omega
    rcases this with e | e | e | e | e <;> subst e <;> rfl
theorem t_holdN (x y : Int32) (n : lu_M) (g : Nat) (hg : 1 ≤ g ∧ g ≤ 3) : f12_isHolding (if g = 1 then -11 else if g = 2 then -12 else -13) x y n = some (p_b (if g = 1 then decide (¬ y ≤ x) else if g = 2 then decide (x = y) else decide (¬ x ≤ y)), n) := by
  have : g = 1 ∨ g = 2 ∨ g = 3 := by omega
  unfold f12_isHolding f12_isHolding_b76 f12_isHolding_b65 f12_isHolding_b54
  rcases this with e | e | e <;> subst e
  · show (if y ≤ x then _ else _) = _
    by_cases h : y ≤ x
    · rw [if_pos h, if_pos rfl, decide_eq_false (p := ¬ y ≤ x) (fun q => q h)]; rfl
    · rw [if_neg h, if_pos rfl, decide_eq_true h]; rfl
  · show (if x = y then _ else _) = some (p_b (decide (x = y)), n)
    by_cases h : x = y
    · rw [if_pos h, decide_eq_true h]; rfl
    · rw [if_neg h, decide_eq_false h]; rfl
  · show (if x ≤ y then _ else _) = some (p_b (decide (¬ x ≤ y)), n)
    by_cases h : x ≤ y
    · rw [if_pos h, decide_eq_false (p := ¬ x ≤ y) (fun q => q h)]; rfl
    · rw [if_neg h, decide_eq_true h]; rfl
theorem t_holdA (b c : Bool) (n : lu_M) : f12_isHolding (-21) (p_b c) (p_b b) n = some (p_b (b && c), n) := by cases b <;> cases c <;> rfl
theorem t_holdO (b c : Bool) (n : lu_M) : f12_isHolding (-22) (p_b c) (p_b b) n = some (p_b (b || c), n) := by cases b <;> cases c <;> rfl

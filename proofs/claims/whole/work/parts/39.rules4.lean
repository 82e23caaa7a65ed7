/-! THE PURE PART: the first rule that holds -/
def r_un (k a : Nat) : Bool := decide (a = 0) || (decide (k = a) || ((decide (k = 3) && decide (a = 2)) || (decide (k = 5) && decide (a = 4))))
theorem k_under (m : lu_M) {k a : Nat} (hk : k ≤ 5) (ha : a ≤ 5) : f11_isUnder (nI k) (nI a) m = some (p_b (r_un k a), m) := by
  have h1 : k = 0 ∨ k = 1 ∨ k = 2 ∨ k = 3 ∨ k = 4 ∨ k = 5 := by omega
  have h2 : a = 0 ∨ a = 1 ∨ a = 2 ∨ a = 3 ∨ a = 4 ∨ a = 5 := by omega
  rcases h1 with e | e | e | e | e | e <;> subst e <;> rcases h2 with e | e | e | e | e | e <;> subst e <;> rfl
theorem t_under (m : lu_M) {k a : Nat} (hk : k ≤ 5) (ha : a ≤ 5) : f12_isUnder (nI k) (nI a) m = some (p_b (r_un k a), m) := by
  have h1 : k = 0 ∨ k = 1 ∨ k = 2 ∨ k = 3 ∨ k = 4 ∨ k = 5 := by omega
  have h2 : a = 0 ∨ a = 1 ∨ a = 2 ∨ a = 3 ∨ a = 4 ∨ a = 5 := by omega
  rcases h1 with e | e | e | e | e | e <;> subst e <;> rcases h2 with e | e | e | e | e | e <;> subst e <;> rfl
def r_ok (x : Ru) : Prop := x.1 ≤ 5 ∧ x.2.1 ≤ 2 ∧ x.2.2.1 ≤ 99 ∧ (x.2.2.2 = [] ∨ o_hs x.2.2.2 0 = some 1) ∧ ∀ t ∈ x.2.2.2, o_ok t
def RLs (s : Nat → Int32) : Nat → Nat → List Ru → Prop
  | _, _, [] => True
  | k, e, x :: L => s (136 + 4 * k) = nI x.1 ∧ s (137 + 4 * k) = nI x.2.1 ∧ s (138 + 4 * k) = nI x.2.2.1 ∧ s (139 + 4 * k) = nI (e + (e_Ms x.2.2.2).length) ∧ seg s (168 + e) (e_Ms x.2.2.2) ∧ RLs s (k + 1) (e + (e_Ms x.2.2.2).length) L
def RLc (m : lu_M) (r : Nat) : Nat → Nat → List Ru → Prop
  | _, _, [] => True
  | k, e, x :: L => m (r + 1) k = nI x.1 ∧ m (r + 2) k = nI (x.2.1 + 1) ∧ m (r + 3) k = nI x.2.2.1 ∧ m (r + 4) k = nI (e + x.2.2.2.length) ∧ seg (m (r + 5)) e (x.2.2.2.map e_C) ∧ RLc m r (k + 1) (e + x.2.2.2.length) L
def r_M : List Ru → Nat
  | [] => 0
  | x :: L => (e_Ms x.2.2.2).length + r_M L
def r_C : List Ru → Nat
  | [] => 0
  | x :: L => x.2.2.2.length + r_C L
theorem e_Ms_len : ∀ l : List Tk, l.length ≤ (e_Ms l).length
  | [] => Nat.le_refl _
  | t :: l => by
    have h := e_Ms_len l
    have h2 : (e_Ms (t :: l)).length = (e_M t).length + (e_Ms l).length := List.length_append ..
    have h3 : 1 ≤ (e_M t).length := by
      unfold e_M
      split
      · exact (by decide : 1 ≤ 3)
      · split
        · decide
        · split <;> decide
    have h4 : (t :: l).length = l.length + 1 := rfl
    omega
theorem r_CM : ∀ L : List Ru, r_C L ≤ r_M L
  | [] => Nat.le_refl _
  | x :: L => by
    have h := r_CM L
    have h2 := e_Ms_len x.2.2.2
    show x.2.2.2.length + r_C L ≤ (e_Ms x.2.2.2).length + r_M L
    omega
def r_find (kd : Nat) (f : Nat → Int32) : List Ru → Option (Nat × Nat)
  | [] => none
  | x :: L => if r_un kd x.1 && o_top (o_run f x.2.2.2 []) then some (x.2.1, x.2.2.1) else r_find kd f L
def r_lim (Y : Nat) (o : Option (Nat × Nat)) : Int := match o with
  | none => Y
  | some (d, g) => if d = 0 then (Y : Int) + g else if d = 1 then (Y : Int) - g else -1
theorem p_iff {α : Type} (b : Bool) (x y : α) : (if b then x else y) = if b = true then x else y := rfl
theorem o_c_eq {f g : Nat → Int32} (h : ∀ i, i < 5 → f i = g i) {t : Tk} (ho : o_ok t) (h0 : t.1 = 0) : o_c f t = o_c g t := by
  obtain ⟨-, -, ha, hb⟩ := ho.2 h0
  have hv : ∀ a, a < 10005 → o_v f a = o_v g a := fun a ha => by
    unfold o_v
    split
    · rfl
    · exact h _ (by omega)
  unfold o_c
  rw [hv _ ha, hv _ hb]
theorem o_run_eq {f g : Nat → Int32} (h : ∀ i, i < 5 → f i = g i) : ∀ (l : List Tk) (st : List Bool), (∀ t ∈ l, o_ok t) → o_run f l st = o_run g l st
  | [], _, _ => rfl
  | t :: l, st, ho => by
    have e : o_1 f t st = o_1 g t st := by
      unfold o_1
      by_cases h0 : t.1 = 0
      · rw [if_pos h0, if_pos h0, o_c_eq h (ho t (List.mem_cons_self ..)) h0]
      · rw [if_neg h0, if_neg h0]
    show o_run f l (o_1 f t st) = o_run g l (o_1 g t st)
    rw [e]
    exact o_run_eq h l _ (fun a ha => ho a (List.mem_cons_of_mem _ ha))
theorem r_find_eq {f g : Nat → Int32} (h : ∀ i, i < 5 → f i = g i) (kd : Nat) : ∀ (L : List Ru), (∀ x ∈ L, r_ok x) → r_find kd f L = r_find kd g L
  | [], _ => rfl
  | x :: L, ho => by
    have hx := ho x (List.mem_cons_self ..)
    unfold r_find
    rw [o_run_eq h x.2.2.2 [] hx.2.2.2.2, r_find_eq h kd L (fun a ha => ho a (List.mem_cons_of_mem _ ha))]
/-- the class's search -/
theorem lc_run {m : lu_M} {w c p kd cnt Y : Nat} (hp : p < 6) (hk : m (w + 1 + 1 + p) 0 = nI kd) (hkd : kd ≤ 5) (hc : m (w + 29) 0 = nI cnt) (hcn : cnt ≤ 8) (hY : m c 0 = nI Y) (hYl : Y ≤ 16) : ∀ (L : List Ru) (k e q : Nat), RLc m (w + 29) k e L → k + L.length = cnt → (k = 0 → e = 0) → (k ≠ 0 → m (w + 29 + 4) (k - 1) = nI e) → L.length < q → e + r_C L ≤ 200 → (∀ x ∈ L, r_ok x) → ∃ v : Int32, f10_latestDue_b76 (f10_latestDue_b129 w (nI p) c) (f10_latestDue_b202 w (nI p) c) w (nI p) c q (nI k) m = some (v, m) ∧ v.toInt = r_lim Y (r_find kd (m (w + 35)) L)
  | [], k, e, q, hr, hkc, h0, h1, hq, he, ho => by
    obtain ⟨q, rfl⟩ : ∃ r, q = r + 1 := ⟨q - 1, by have : ([] : List Ru).length = 0 := rfl; omega⟩
    have : k = cnt := hkc
    subst this
    refine ⟨nI Y, ?_, nI_toInt (by omega)⟩
    show f10_latestDue_b76B _ _ _ _ _ _ _ _ = _
    unfold f10_latestDue_b76B f10_latestDue_b202
    rw [hc, if_pos (Int32.le_refl _), hY]
  | x :: L, k, e, q, hr, hkc, h0, h1, hq, he, ho => by
    have hlen : (x :: L).length = L.length + 1 := rfl
    obtain ⟨q, rfl⟩ : ∃ r, q = r + 1 := ⟨q - 1, by omega⟩
    obtain ⟨a1, a2, a3, a4, a5, a6⟩ := hr
    have hx := ho x (List.mem_cons_self ..)
    have hC : r_C (x :: L) = x.2.2.2.length + r_C L := rfl
    have hH := k_holds (m := m) (r := w + 29) (k := k) (b := e) (q := w + 35) (l := x.2.2.2) (by omega) h0 h1 a4 (by omega) a5 (by
      rcases hx.2.2.2.1 with h | h
      · rw [h]; exact ⟨0, rfl⟩
      · exact ⟨1, h⟩) hx.2.2.2.2
    have rest := lc_run hp hk hkd hc hcn hY hYl L (k + 1) (e + x.2.2.2.length) q a6 (by omega) (by omega) (fun _ => by rw [show k + 1 - 1 = k by omega]; exact a4) (by omega) (by omega) (fun a ha => ho a (List.mem_cons_of_mem _ ha))
    show ∃ v : Int32, f10_latestDue_b76B _ _ _ _ _ _ _ _ = _ ∧ _
    unfold f10_latestDue_b76B f10_latestDue_b196 r_find
    rw [hc, q_le (by omega) (by omega), if_neg (by omega), p_gd hp (by omega), p_gd (by omega) (by omega), nI_clamp (by omega), nI_clamp (by omega), hk, a1, k_under m hkd hx.1, p_bi, p_if, hH, p_bi, p_if, p_next]
    cases hu : r_un kd x.1
    · rw [if_neg (by decide), Bool.false_and, if_neg (by decide)]
      exact rest
    rw [if_pos rfl, Bool.true_and]
    cases ht : o_top (o_run (m (w + 35)) x.2.2.2 [])
    · rw [if_neg (by decide), if_neg (by decide)]
      exact rest
    rw [if_pos rfl, if_pos rfl]
    unfold f10_latestDue_b129
    rw [p_gd (by omega) (by omega), nI_clamp (by omega), a2, a3, p_gd (by omega) (by omega), p_gd (by omega) (by omega), hY, nI_add]
    have hd : x.2.1 = 0 ∨ x.2.1 = 1 ∨ x.2.1 = 2 := by have := hx.2.1; omega
    have hg := hx.2.2.1
    unfold r_lim
    rcases hd with e | e | e <;> rw [e]
    · exact ⟨_, rfl, nI_toInt (by omega)⟩
    · refine ⟨_, rfl, pk_sub_toInt (by omega) (by omega)⟩
    · exact ⟨_, rfl, rfl⟩
/-- the reference's search -/
def r_at (s : Nat → Int32) (V : Int32) (o : Option (Nat × Nat)) : Prop := match o with
  | none => V = -1
  | some (d, g) => ∃ j, j < 8 ∧ V = nI (136 + 4 * j) ∧ s (137 + 4 * j) = nI d ∧ s (138 + 4 * j) = nI g ∧ d ≤ 2 ∧ g ≤ 99
theorem lm_run {n : lu_M} (I : SI (n 1)) {p kd cnt : Nat} (hp : p < 6) (hkd : kd ≤ 5) (hc : n 1 1 = nI cnt) (hcn : cnt ≤ 8) (K : Int32 → lu_M → Option (Int32 × lu_M)) : ∀ (L : List Ru) (k e q : Nat) (t : Nat → Int32), RLs (n 1) k e L → k + L.length = cnt → L.length + 1 < q → e + r_M L ≤ 200 → (∀ x ∈ L, r_ok x) → ∃ (V : Int32) (t' : Nat → Int32), f12_choice_b15 K (nI p) q (nI kd) (-1) (nI e) (nI k) (p_rw n 4 t) = K V (p_rw n 4 t') ∧ r_at (n 1) V (r_find kd (fv (n 1) p) L)
  | [], k, e, q, t, hr, hkc, hq, he, ho => by
    obtain ⟨q, rfl⟩ : ∃ r, q = r + 1 := ⟨q - 1, by omega⟩
    have : k = cnt := hkc
    subst this
    refine ⟨-1, t, ?_, rfl⟩
    show f12_choice_b15B _ _ _ _ _ _ _ _ = _
    unfold f12_choice_b15B
    rw [p_rw_n (by omega), hc, if_pos (Int32.le_refl _)]
  | x :: L, k, e, q, t, hr, hkc, hq, he, ho => by
    have hlen : (x :: L).length = L.length + 1 := rfl
    obtain ⟨q, rfl⟩ : ∃ r, q = r + 1 := ⟨q - 1, by omega⟩
    obtain ⟨a1, a2, a3, a4, a5, a6⟩ := hr
    have hx := ho x (List.mem_cons_self ..)
    have hM : r_M (x :: L) = (e_Ms x.2.2.2).length + r_M L := rfl
    have hr1 : ∀ t, (p_rw n 4 t) 1 = n 1 := fun t => p_rw_n (by omega)
    have rest := fun t => lm_run I hp hkd hc hcn K L (k + 1) (e + (e_Ms x.2.2.2).length) q t a6 (by omega) (by omega) (by omega) (fun a ha => ho a (List.mem_cons_of_mem _ ha))
    obtain ⟨t1, hS⟩ := t_isSo I (b := e) (l := x.2.2.2) hp (by omega) a5 hx.2.2.2.1 hx.2.2.2.2 t
    have h80 : ∀ t, f12_choice_b80 (f12_choice_b15 K (nI p) q) K (nI p) (nI kd) (nI k) (nI (136 + 4 * k)) (p_rw n 4 t) = f12_choice_b15 K (nI p) q (nI kd) (-1) (nI (e + (e_Ms x.2.2.2).length)) (nI (k + 1)) (p_rw n 4 t) := fun t => by
      unfold f12_choice_b80 f12_choice_b81
      rw [show (3 : Int32) = nI 3 from rfl, nI_add, p_gd (by omega) (by omega), nI_clamp (by omega), hr1, show 136 + 4 * k + 3 = 139 + 4 * k by omega, a4, p_nm, p_next]
    show ∃ (V : Int32) (t' : Nat → Int32), f12_choice_b15B _ _ _ _ _ _ _ _ = _ ∧ _
    unfold f12_choice_b15B r_find
    rw [hr1, hc, q_le (by omega) (by omega), if_neg (by omega), if_neg (by decide), show (136 : Int32) = nI 136 from rfl, show (4 : Int32) = nI 4 from rfl, pk_mul, nI_add, p_nm, show (0 : Int32) = nI 0 from rfl, nI_add, p_gd (by omega) (by omega), nI_clamp (by omega), show 136 + 4 * k + 0 = 136 + 4 * k by omega, a1, t_under _ hkd hx.1, p_bi, show nI 0 = (0 : Int32) from rfl, p_if, h80, show (3 : Int32) = nI 3 from rfl, nI_add, p_gd (by omega) (by omega), nI_clamp (by omega), hr1, show 136 + 4 * k + 3 = 139 + 4 * k by omega, a4, hS, p_bi, p_if, h80]
    cases hu : r_un kd x.1
    · rw [if_neg (by decide), Bool.false_and, if_neg (by decide)]
      exact rest t
    rw [if_pos rfl, Bool.true_and]
    cases ht : o_top (o_run (fv (n 1) p) x.2.2.2 [])
    · rw [if_neg (by decide), if_neg (by decide)]
      exact rest t1
    rw [if_pos rfl, if_pos rfl]
    refine ⟨nI (136 + 4 * k), t1, ?_, k, by omega, rfl, a2, a3, hx.2.1, hx.2.2.1⟩
    unfold f12_choice_b81
    rw [show (3 : Int32) = nI 3 from rfl, nI_add, p_gd (by omega) (by omega), nI_clamp (by omega), hr1, show 136 + 4 * k + 3 = 139 + 4 * k by omega, a4, p_nm, p_next]
    obtain ⟨q, rfl⟩ : ∃ r, q = r + 1 := ⟨q - 1, by omega⟩
    show f12_choice_b15B _ _ _ _ _ _ _ _ = _
    unfold f12_choice_b15B
    rw [if_pos (nI_pos' (by omega))]
    split <;> rfl

/-! THE PURE PART: the reading of a text: a rule -/
section RULE
variable {b : Nat → Nat} {len : Nat} {m n M N : lu_M}
def PB (m n M N : lu_M) : Prop := (∀ r, r ≠ 83 → (r < 85 ∨ 90 < r) → M r = m r) ∧ M 83 1 = m 83 1 ∧ (∀ r, r ≠ 0 → r ≠ 1 → N r = n r) ∧ (∀ i, i < 24 ∨ 29 < i → N 0 i = n 0 i) ∧ (∀ k, k ≠ 1 → (k < 136 ∨ 368 ≤ k) → N 1 k = n 1 k)
/-- rules told, at the token at f -/
def RV (b : Nat → Nat) (len : Nat) (m n : lu_M) (L : List Ru) (f : Nat) (M N : lu_M) : Prop :=
  PB m n M N ∧ AT b len f M ∧ ATn b len f N ∧ N 0 29 = 0 ∧ N 0 27 = 0 ∧ TPc b len M ∧ TPn b len N ∧
  M 85 0 = nI L.length ∧ N 1 1 = nI L.length ∧ L.length ≤ 8 ∧ M 85 6 = nI (r_C L) ∧ N 0 28 = nI (r_M L) ∧ RLc M 85 0 0 L ∧ RLs (N 1) 0 0 L ∧ (∀ x ∈ L, r_ok x) ∧ r_M L ≤ f
/-- wrong in both, at the same place -/
def RX (b : Nat → Nat) (len : Nat) (m n : lu_M) (M N : lu_M) : Prop := PB m n M N ∧ ∃ f, f ≤ len ∧ M 83 4 = nI f ∧ N 0 24 = nI f ∧ N 0 29 = 1
theorem RV.st {L : List Ru} {f : Nat} (V : RV b len m n L f M N) : ST b len M N (r_C L) (r_M L) 0 f [] [] M N := by
  obtain ⟨B, A, An, w, o, tc, tn, a0, a1, a8, a6, a28, c1, c2, c3, bd⟩ := V
  exact ⟨⟨fun _ _ _ _ => rfl, rfl, fun _ _ => rfl, fun _ _ => rfl, fun _ _ _ => rfl, fun _ _ => rfl, fun _ _ => rfl, a6, trivial, a28, trivial⟩, A, An, w, o, bd, r_CM L, tc, tn⟩
theorem PB.fa {us co o : Nat} {M' N' : lu_M} (B : PB m n M N) (F : FA b len M N co M' N') : RX b len m n M' N' := by
  obtain ⟨b1, b2, b3, b4, b5⟩ := B
  obtain ⟨a1, a2, a3, a4, a5, T, f, a6, A, a7⟩ := F
  exact ⟨⟨fun r h1 h2 => (a1 r h1 (by omega) (by omega)).trans (b1 r h1 h2), a2.trans b2, fun r h1 h2 => (a3 r h1 h2).trans (b3 r h1 h2), fun i hi => (a4 i hi).trans (b4 i hi), fun k h1 h2 => (a5 k (by omega)).trans (b5 k h1 h2)⟩, f, A.1, a6, A.2.1, a7⟩
theorem RLc.ix {m' : lu_M} {r : Nat} : ∀ (L : List Ru) (k e : Nat), (∀ i j, 1 ≤ i → i ≤ 4 → j < k + L.length → m' (r + i) j = m (r + i) j) → (∀ j, j < e + r_C L → m' (r + 5) j = m (r + 5) j) → RLc m r k e L → RLc m' r k e L
  | [], _, _, _, _, _ => trivial
  | x :: L, k, e, h1, h2, ⟨a1, a2, a3, a4, a5, a6⟩ => by
    have hl : (x :: L).length = L.length + 1 := rfl
    have hC : r_C (x :: L) = x.2.2.2.length + r_C L := rfl
    refine ⟨?_, ?_, ?_, ?_, seg_eq _ _ (fun i h3 h4 => h2 i (by rw [List.length_map] at h4; omega)) a5, RLc.ix L _ _ (fun i j h3 h4 h5 => h1 i j h3 h4 (by omega)) (fun j hj => h2 j (by omega)) a6⟩
    · rw [h1 1 k (by omega) (by omega) (by omega)]; exact a1
    · rw [h1 2 k (by omega) (by omega) (by omega)]; exact a2
    · rw [h1 3 k (by omega) (by omega) (by omega)]; exact a3
    · rw [h1 4 k (by omega) (by omega) (by omega)]; exact a4
theorem RLc.app {r : Nat} {x : Ru} : ∀ (L : List Ru) (k e : Nat), RLc m r k e L → RLc m r (k + L.length) (e + r_C L) [x] → RLc m r k e (L ++ [x])
  | [], k, e, _, h => h
  | y :: L, k, e, ⟨a1, a2, a3, a4, a5, a6⟩, h => by
    have hl : (y :: L).length = L.length + 1 := rfl
    have hC : r_C (y :: L) = y.2.2.2.length + r_C L := rfl
    refine ⟨a1, a2, a3, a4, a5, RLc.app L _ _ a6 ?_⟩
    rw [hl, hC, show k + (L.length + 1) = k + 1 + L.length by omega, ← Nat.add_assoc] at h
    exact h
theorem RLs.ix {s u : Nat → Int32} : ∀ (L : List Ru) (k e : Nat), (∀ i, 136 ≤ i → i < 136 + 4 * (k + L.length) → u i = s i) → (∀ i, 168 ≤ i → i < 168 + e + r_M L → u i = s i) → RLs s k e L → RLs u k e L
  | [], _, _, _, _, _ => trivial
  | x :: L, k, e, h1, h2, ⟨a1, a2, a3, a4, a5, a6⟩ => by
    have hl : (x :: L).length = L.length + 1 := rfl
    have hM : r_M (x :: L) = (e_Ms x.2.2.2).length + r_M L := rfl
    refine ⟨?_, ?_, ?_, ?_, seg_eq _ _ (fun i h3 h4 => h2 i (by omega) (by omega)) a5, RLs.ix L _ _ (fun i h3 h4 => h1 i h3 (by omega)) (fun i h3 h4 => h2 i h3 (by omega)) a6⟩
    · rw [h1 _ (by omega) (by omega)]; exact a1
    · rw [h1 _ (by omega) (by omega)]; exact a2
    · rw [h1 _ (by omega) (by omega)]; exact a3
    · rw [h1 _ (by omega) (by omega)]; exact a4
theorem RLs.app {s : Nat → Int32} {x : Ru} : ∀ (L : List Ru) (k e : Nat), RLs s k e L → RLs s (k + L.length) (e + r_M L) [x] → RLs s k e (L ++ [x])
  | [], k, e, _, h => h
  | y :: L, k, e, ⟨a1, a2, a3, a4, a5, a6⟩, h => by
    have hl : (y :: L).length = L.length + 1 := rfl
    have hM : r_M (y :: L) = (e_Ms y.2.2.2).length + r_M L := rfl
    refine ⟨a1, a2, a3, a4, a5, RLs.app L _ _ a6 ?_⟩
    rw [hl, hM, show k + (L.length + 1) = k + 1 + L.length by omega, ← Nat.add_assoc] at h
    exact h
theorem r_C_app (x : Ru) : ∀ L : List Ru, r_C (L ++ [x]) = r_C L + x.2.2.2.length
  | [] => by show x.2.2.2.length + 0 = 0 + x.2.2.2.length; omega
  | y :: L => by
    show y.2.2.2.length + r_C (L ++ [x]) = y.2.2.2.length + r_C L + x.2.2.2.length
    rw [r_C_app x L]; omega
theorem r_M_app (x : Ru) : ∀ L : List Ru, r_M (L ++ [x]) = r_M L + (e_Ms x.2.2.2).length
  | [] => by show (e_Ms x.2.2.2).length + 0 = 0 + (e_Ms x.2.2.2).length; omega
  | y :: L => by
    show (e_Ms y.2.2.2).length + r_M (L ++ [x]) = (e_Ms y.2.2.2).length + r_M L + (e_Ms x.2.2.2).length
    rw [r_M_app x L]; omega
def g_kd (b : Nat → Nat) (len f : Nat) : Int32 := if g_is b len f 0 then 0 else if g_is b len f 1 then 1 else if g_is b len f 2 then 2 else if g_is b len f 3 then 3 else if g_is b len f 4 then 4 else if g_is b len f 5 then 5 else -1
theorem g_kd_ok (b : Nat → Nat) (len f : Nat) : g_kd b len f = -1 ∨ ∃ k, k ≤ 5 ∧ g_kd b len f = nI k ∧ f < len := by
  unfold g_kd
  cases h0 : g_is b len f 0
  · cases h1 : g_is b len f 1
    · cases h2 : g_is b len f 2
      · cases h3 : g_is b len f 3
        · cases h4 : g_is b len f 4
          · cases h5 : g_is b len f 5
            · exact Or.inl rfl
            · exact Or.inr ⟨5, by omega, rfl, g_is_lt h5⟩
          · exact Or.inr ⟨4, by omega, rfl, g_is_lt h4⟩
        · exact Or.inr ⟨3, by omega, rfl, g_is_lt h3⟩
      · exact Or.inr ⟨2, by omega, rfl, g_is_lt h2⟩
    · exact Or.inr ⟨1, by omega, rfl, g_is_lt h1⟩
  · exact Or.inr ⟨0, by omega, rfl, g_is_lt h0⟩
theorem k_kind {f : Nat} (T : TPc b len M) (A : AT b len f M) : f8_kindNamed M = some (g_kd b len f, M) := by
  unfold f8_kindNamed f8_kindNamed_b69 g_kd
  rw [k_isNamed T A (j := 0) (by omega), p_bi, k_isNamed T A (j := 1) (by omega), p_bi, k_isNamed T A (j := 2) (by omega), p_bi, k_isNamed T A (j := 3) (by omega), p_bi, k_isNamed T A (j := 4) (by omega), p_bi, k_isNamed T A (j := 5) (by omega), p_bi, p_if, p_if, p_if, p_if, p_if, p_if]
  cases g_is b len f 0
  · cases g_is b len f 1
    · cases g_is b len f 2
      · cases g_is b len f 3
        · cases g_is b len f 4
          · cases g_is b len f 5
            · rfl
            · rfl
          · rfl
        · rfl
      · rfl
    · rfl
  · rfl
theorem g_wq {f j : Nat} (T : TPn b len N) (hf : f ≤ len) (hj : j < 18) {α : Type} (u v : α) : (if lg_cmp (g_wd b len f false) (lN (g_cd j)) = 0 then u else v) = if g_is b len f j then u else v := by
  have hi := g_wd_is T.1 T.2.2.2 hf hj
  cases hb : g_is b len f j
  · rw [if_neg (fun q => by rw [hi, hb] at q; exact p_ff q), if_neg p_ff]
  · rw [if_pos (hi.mpr hb), if_pos rfl]
theorem t_kind {f : Nat} (T : TPn b len N) (A : ATn b len f N) (h : N 0 29 = 0) : f12_kindHere N = some (g_kd b len f, N) := by
  have hw : f12_word N = some (g_wd b len f false, N) := t_word T A (wr := false) h
  unfold f12_kindHere f12_kindHere_b78 g_kd
  rw [hw, p_bi, gc0, gc1, gc2, gc3, gc4, gc5, g_wq (j := 0) T A.1 (by omega), g_wq (j := 1) T A.1 (by omega), g_wq (j := 2) T A.1 (by omega), g_wq (j := 3) T A.1 (by omega), g_wq (j := 4) T A.1 (by omega), g_wq (j := 5) T A.1 (by omega)]
  cases g_is b len f 0
  · cases g_is b len f 1
    · cases g_is b len f 2
      · cases g_is b len f 3
        · cases g_is b len f 4
          · cases g_is b len f 5
            · rfl
            · rfl
          · rfl
        · rfl
      · rfl
    · rfl
  · rfl
/-- what it does: 0 early, 1 late, 2 spare; 3 none of these -/
def g_do (b : Nat → Nat) (len f : Nat) : Nat := if g_is b len f 15 then 0 else if g_is b len f 16 then 1 else if g_is b len f 17 then 2 else 3
theorem k_dn {f : Nat} (T : TPc b len M) (A : AT b len f M) : f8_doNamed M = some (if g_do b len f = 3 then 0 else nI (g_do b len f + 1), M) := by
  unfold f8_doNamed f8_doNamed_b36 g_do
  rw [k_isNamed T A (j := 15) (by omega), p_bi, k_isNamed T A (j := 16) (by omega), p_bi, k_isNamed T A (j := 17) (by omega), p_bi, p_if, p_if, p_if]
  cases g_is b len f 15
  · cases g_is b len f 16
    · cases g_is b len f 17
      · rfl
      · rfl
    · rfl
  · rfl
theorem t_dn {f : Nat} (T : TPn b len N) (A : ATn b len f N) (h : N 0 29 = 0) (v : Int32) : f12_rule_b49 v N = f12_rule_b91 v (if g_do b len f = 3 then -1 else nI (g_do b len f)) N := by
  have hw : f12_word N = some (g_wd b len f false, N) := t_word T A (wr := false) h
  unfold f12_rule_b49 g_do
  rw [hw, p_bi, gc15, gc16, gc17, g_wq (j := 15) T A.1 (by omega), g_wq (j := 16) T A.1 (by omega), g_wq (j := 17) T A.1 (by omega)]
  cases g_is b len f 15
  · rw [if_neg p_ff, if_neg p_ff]
    cases g_is b len f 16
    · rw [if_neg p_ff, if_neg p_ff]
      cases g_is b len f 17
      · rw [if_neg p_ff, if_neg p_ff, if_pos (show (3 : Nat) = 3 from rfl)]
      · rw [if_pos rfl, if_pos rfl, if_neg (show ¬ (2 : Nat) = 3 by decide)]
        rfl
    · rw [if_pos rfl, if_pos rfl, if_neg (show ¬ (1 : Nat) = 3 by decide)]
      rfl
  · rw [if_pos rfl, if_pos rfl, if_neg (show ¬ (0 : Nat) = 3 by decide)]
    rfl
theorem g_do_lt {f : Nat} (h : g_do b len f ≠ 3) : g_do b len f ≤ 2 ∧ f < len := by
  unfold g_do at h ⊢
  cases h0 : g_is b len f 15
  · cases h1 : g_is b len f 16
    · cases h2 : g_is b len f 17
      · rw [h0, h1, h2] at h; exact absurd rfl h
      · exact ⟨by decide, g_is_lt h2⟩
    · exact ⟨show 1 ≤ 2 by omega, g_is_lt h1⟩
  · exact ⟨show 0 ≤ 2 by omega, g_is_lt h0⟩
/-- where it is wrong: the rest of a rule -/
theorem st_rule168 (h : N 0 29 = 1) (v1 v4 v5 s0 : Int32) : f12_rule_b168 v1 v4 v5 s0 N = some N := by
  unfold f12_rule_b168 f12_rule_b247
  rw [st_wants h, p_bv, h, if_neg (by decide)]
theorem st_rule136 (h : N 0 29 = 1) (v1 v4 : Int32) : f12_rule_b136 v1 v4 N = some N := by
  unfold f12_rule_b136 f12_rule_b167
  rw [p_nm, h, if_neg (by decide), st_rule168 h]
theorem st_rule104 (h : N 0 29 = 1) (v1 v4 s0 : Int32) : f12_rule_b104 v1 v4 s0 N = some (lu_st N 0 26 0) := by
  have h' : lu_st N 0 26 0 0 29 = 1 := by rw [lu_st_ne (by omega)]; exact h
  unfold f12_rule_b104
  rw [st_wants h, p_bv, p_nm, h', if_neg (show ¬ (1 : Int32) = 0 by decide), st_rule136 h']
  split
  · rfl
  · split <;> rfl
theorem st_rule49 {f : Nat} (T : TPn b len N) (A : ATn b len f N) (h : N 0 29 = 1) (v1 : Int32) : f12_rule_b49 v1 N = some (lu_st N 0 26 0) := by
  unfold f12_rule_b49 f12_rule_b91
  rw [st_word T A h, p_bi, gc15, gc16, gc17, if_neg (g_wd_1 b len f (j := 15) (by omega)), if_neg (g_wd_1 b len f (j := 16) (by omega)), if_neg (g_wd_1 b len f (j := 17) (by omega)), if_pos (by decide), st_rule104 h]
theorem FA.s26 {M0 N0 : lu_M} {co : Nat} (F : FA b len M0 N0 co M N) (v : Int32) : FA b len M0 N0 co M (lu_st N 0 26 v) := by
  obtain ⟨a1, a2, a3, a4, a5, T, f, a6, A, a7⟩ := F
  exact ⟨a1, a2, fun r h1 h2 => by rw [lu_st_row h1]; exact a3 r h1 h2, fun i hi => by rw [lu_st_ne (by omega)]; exact a4 i hi, fun k hk => by rw [lu_st_row (by omega)]; exact a5 k hk, ⟨T.1, by rw [lu_st_ne (by omega)]; exact T.2.1, fun i hi => by rw [lu_st_row (by omega)]; exact T.2.2.1 i hi, T.2.2.2⟩, f, a6, ⟨A.1, by rw [lu_st_ne (by omega)]; exact A.2.1, by rw [lu_st_ne (by omega)]; exact A.2.2⟩, by rw [lu_st_ne (by omega)]; exact a7⟩
end RULE

/-! THE PURE PART: payments, in both -/
theorem sm_n (s : Nat → Int32) (n p : Nat) : s_sm s n (p + 1) = (if n.testBit p then s_sm s n p + s_net s p 6 else s_sm s n p) := by
  unfold s_sm
  rw [p_it_split (fun p x => if n.testBit p then x + s_net s p 6 else x) p 0 1 0, Nat.zero_add]
  rfl
theorem s_g_sub (Z : Nat → Bool) {n : Nat} (hn : n < 64) (p : Nat) : s_g Z (n - 2 ^ p) ≤ 64 := by
  have h1 := Nat.sub_le n (2 ^ p)
  have h2 : n - 2 ^ p < 64 := Nat.lt_of_le_of_lt h1 hn
  have h3 := s_g_le Z (n - 2 ^ p) (n - 2 ^ p) (Nat.le_refl _) h2
  exact Nat.le_trans h3 (Nat.le_of_lt h2)
theorem p_max (a b : Nat) (ha : a < 2 ^ 31) (hb : b < 2 ^ 31) : (if nI a < nI b then nI b else nI a) = nI (max a b) := by
  rw [q_lt ha hb]
  by_cases h : a < b
  · rw [if_pos h, Nat.max_eq_right (by omega)]
  · rw [if_neg h, Nat.max_eq_left (by omega)]
/-- the class: one set -/
theorem k_payIn {m : lu_M} {s : Nat → Int32} (I : SI s) (B : RB m 1 s) (X : WX m 1 s) (K : Int32 → Int32 → Int32 → Int32 → lu_M → Option (Int32 × lu_M)) (v1 : Int32) {n : Nat} (hn : n < 64) (hg : ∀ i, i < n → m 98 i = nI (s_g (s_Z s) i)) : ∀ (j p q : Nat), p + j = s_P s → j < q → f11_payments_b41 K q v1 (nI n) (s_sm s n p) (nI (mxp (fun p => s_g (s_Z s) (n - 2 ^ p)) n p)) (nI p) m = K v1 (nI n) (s_sm s n (s_P s)) (nI (mxp (fun p => s_g (s_Z s) (n - 2 ^ p)) n (s_P s))) m
  | 0, p, q, h, hq => by
    have hP := I.P6
    obtain ⟨q, rfl⟩ : ∃ r, q = r + 1 := ⟨q - 1, by omega⟩
    rw [Nat.add_zero] at h
    subst h
    show f11_payments_b41B _ _ _ _ _ _ _ _ = _
    unfold f11_payments_b41B
    rw [B.cnt, I.eP, if_pos (Int32.le_refl _)]
  | j + 1, p, q, h, hq => by
    have hP := I.P6
    obtain ⟨q, rfl⟩ : ∃ r, q = r + 1 := ⟨q - 1, by omega⟩
    have ih := k_payIn I B X K v1 hn hg j (p + 1) q (by omega) (by omega)
    have hmx : mxp (fun p => s_g (s_Z s) (n - 2 ^ p)) n (p + 1) = (if n.testBit p then max (mxp (fun p => s_g (s_Z s) (n - 2 ^ p)) n p) (s_g (s_Z s) (n - 2 ^ p)) else mxp (fun p => s_g (s_Z s) (n - 2 ^ p)) n p) := rfl
    rw [sm_n, hmx] at ih
    have hml : mxp (fun p => s_g (s_Z s) (n - 2 ^ p)) n p ≤ 64 := mxp_le p (fun i _ _ => s_g_sub (s_Z s) hn i)
    have hgl := s_g_sub (s_Z s) hn p
    show f11_payments_b41B _ _ _ _ _ _ _ _ = _
    unfold f11_payments_b41B f11_payments_b95
    rw [B.cnt, I.eP, q_le (by omega) (by omega), if_neg (by omega), p_bit _ (by omega), bt_nI (by omega) (by omega), p_if, p_next]
    cases hb : n.testBit p
    · rw [hb, if_neg p_ff, if_neg p_ff] at ih
      rw [if_neg p_ff]
      exact ih
    · rw [hb, if_pos rfl, if_pos rfl] at ih
      have h3 := n_bit3 n hn p (by omega) hb
      have h2 := Nat.two_pow_pos p
      rw [if_pos rfl, k_netOf I B X (by omega), p_bi, p_nm, i_xor n hn p (by omega) hb, p_gd (by omega) (by omega), nI_clamp (by omega), hg _ (by omega), p_max _ _ (by omega) (by omega), p_nm]
      exact ih
theorem s_net_hi {m : lu_M} {s : Nat → Int32} (X : WX m 1 s) {p : Nat} (h1 : s_P s ≤ p) (h2 : p < 6) : s_net s p 6 = 0 :=
  p_it_inv (f := fun q x => x + (s (76 + 6 * q + p) - s (76 + 6 * p + q))) (I := fun _ x => x = 0) 6 0 0 rfl (fun i x h3 h4 h5 => by
    rw [(X.lo (p := i) (q := p) (by omega) h2).2.2 (Or.inr (Or.inl h1)), (X.lo (p := p) (q := i) h2 (by omega)).2.2 (Or.inl h1), h5]; rfl)
theorem sm_hi (s : Nat → Int32) {P n : Nat} (hP : P ≤ 6) (hn : n < 2 ^ P) : s_sm s n 6 = s_sm s n P := by
  unfold s_sm
  exact p_it_cut hP (0 : Int32) (fun i y h1 h2 => by
    show (if n.testBit i then _ else _) = _
    rw [n_bit6 P (by omega) n hn i h2 h1, if_neg p_ff])
theorem mxp_hi (h : Nat → Nat) {P n : Nat} (hP : P ≤ 6) (hn : n < 2 ^ P) : ∀ j, P + j ≤ 6 → mxp h n (P + j) = mxp h n P
  | 0, _ => rfl
  | j + 1, hj => by
    show (if n.testBit (P + j) then _ else mxp h n (P + j)) = _
    rw [n_bit6 P (by omega) n hn (P + j) (by omega) (by omega), if_neg p_ff, mxp_hi h hP hn j (by omega)]
/-- the class: all sets -/
theorem k_payN {m : lu_M} {s : Nat → Int32} (I : SI s) (B : RB m 1 s) (X : WX m 1 s) : ∀ (j n q : Nat) (g : Nat → Int32), n + j = 2 ^ s_P s → 1 ≤ n → j < q → (∀ i, i < n → g i = nI (s_g (s_Z s) i)) → ∃ g', f11_payments_b19 f11_payments_b126 q (nI (2 ^ s_P s)) (nI n) (p_rw m 98 g) = some (nI (s_P s) - nI (s_g (s_Z s) (2 ^ s_P s - 1)), p_rw m 98 g')
  | 0, n, q, g, h, h1, hq, hg => by
    have hP := I.P6
    have h64 : 2 ^ s_P s ≤ 2 ^ 6 := Nat.pow_le_pow_right (by omega) hP
    obtain ⟨q, rfl⟩ : ∃ r, q = r + 1 := ⟨q - 1, by omega⟩
    rw [Nat.add_zero] at h
    subst h
    refine ⟨g, ?_⟩
    have hpos := Nat.two_pow_pos (s_P s)
    show f11_payments_b19B _ _ _ _ _ = _
    unfold f11_payments_b19B f11_payments_b126
    rw [if_pos (Int32.le_refl _), show (1 : Int32) = nI 1 from rfl, pk_sub (by omega), p_gd (by omega) (by omega), nI_clamp (by omega), p_rw_s, p_rw_n (by omega), hg _ (by omega), B.cnt, I.eP]
  | j + 1, n, q, g, h, h1, hq, hg => by
    have hP := I.P6
    have h64 : 2 ^ s_P s ≤ 2 ^ 6 := Nat.pow_le_pow_right (by omega) hP
    obtain ⟨q, rfl⟩ : ∃ r, q = r + 1 := ⟨q - 1, by omega⟩
    have FF : FR 1 m (p_rw m 98 g) := fun a h1 h2 h3 h4 => p_rw_n (by omega)
    have hin := k_payIn I (B.tr FF) (X.fr FF) (f11_payments_b101 (f11_payments_b19 f11_payments_b126 q) f11_payments_b126) (nI (2 ^ s_P s)) (n := n) (by omega) (fun i hi => by rw [p_rw_s]; exact hg i hi) (s_P s) 0 lu_fu (by omega) (p_fu (by omega))
    have hgn := s_g_n (s_Z s) (n := n) (by omega) (by omega)
    have hm6 := mxp_hi (fun p => s_g (s_Z s) (n - 2 ^ p)) hP (show n < 2 ^ s_P s by omega) (6 - s_P s) (by omega)
    rw [show s_P s + (6 - s_P s) = 6 by omega] at hm6
    have hs6 := sm_hi s hP (show n < 2 ^ s_P s by omega)
    have hZ : s_Z s n = decide (s_sm s n (s_P s) = 0) := by unfold s_Z; rw [hs6]
    rw [hm6, hZ] at hgn
    obtain ⟨g', e⟩ := k_payN I B X j (n + 1) q (upd g n (nI (s_g (s_Z s) n))) (by omega) (by omega) (by omega) (fun i hi => by
      by_cases e : i = n
      · subst e; exact p_us ..
      · rw [upd_ne e]; exact hg i (by omega))
    refine ⟨g', ?_⟩
    have hin' : f11_payments_b41 (f11_payments_b101 (f11_payments_b19 f11_payments_b126 q) f11_payments_b126) lu_fu (nI (2 ^ s_P s)) (nI n) 0 0 0 (p_rw m 98 g) = _ := hin
    show f11_payments_b19B _ _ _ _ _ = _
    unfold f11_payments_b19B
    rw [q_le (by omega) (by omega), if_neg (by omega), show (64 : Int32) = nI 64 from rfl, q_le (by omega) (by omega), if_neg (by omega), hin']
    unfold f11_payments_b101 f11_payments_b119
    rw [p_gd (by omega) (by omega), p_gd (by omega) (by omega), nI_clamp (by omega), p_nm, p_nm, p_stc, p_stc, p_next, p_next]
    rw [hgn] at e
    by_cases hz : s_sm s n (s_P s) = 0
    · rw [decide_eq_true hz, if_pos rfl] at e
      rw [if_pos hz]
      exact e
    · rw [decide_eq_false hz, if_neg p_ff, Nat.add_zero] at e
      rw [if_neg hz]
      exact e
/-! the reference -/
def yM (n : lu_M) (y z : Nat → Int32) : lu_M := p_rw (p_rw n 5 y) 6 z
theorem yM_n (n : lu_M) (y z : Nat → Int32) {r : Nat} (h5 : r ≠ 5) (h6 : r ≠ 6) : yM n y z r = n r := by unfold yM; rw [p_rw_n h6, p_rw_n h5]
theorem yM5 (n : lu_M) (y z : Nat → Int32) : yM n y z 5 = y := by unfold yM; rw [p_rw_n (by omega), p_rw_s]
theorem yM6 (n : lu_M) (y z : Nat → Int32) : yM n y z 6 = z := p_rw_s ..
theorem yM_st5 (n : lu_M) (y z : Nat → Int32) (k : Nat) (v : Int32) : lu_st (yM n y z) 5 k v = yM n (upd y k v) z := p_st2 (by omega) y z k v
theorem yM_st6 (n : lu_M) (y z : Nat → Int32) (k : Nat) (v : Int32) : lu_st (yM n y z) 6 k v = yM n y (upd z k v) := p_stc ..
theorem t_payIn {n0 : lu_M} (K : Int32 → Int32 → lu_M → Option (Int32 × lu_M)) (v1 : Int32) {n : Nat} (hn : n < 64) : ∀ (j p q : Nat) (y z : Nat → Int32), p + j = 6 → j < q → (∀ i, i < n → z i = nI (s_g (s_Z (n0 1)) i)) → y n = s_sm (n0 1) n p → z n = nI (mxp (fun p => s_g (s_Z (n0 1)) (n - 2 ^ p)) n p) → ∃ y' z', f12_payments_b26 K q v1 (nI n) (nI p) (yM n0 y z) = K v1 (nI n) (yM n0 y' z') ∧ (∀ i, i < n → z' i = nI (s_g (s_Z (n0 1)) i)) ∧ y' n = s_sm (n0 1) n 6 ∧ z' n = nI (mxp (fun p => s_g (s_Z (n0 1)) (n - 2 ^ p)) n 6)
  | 0, p, q, y, z, h, hq, hg, hy, hz => by
    obtain ⟨q, rfl⟩ : ∃ r, q = r + 1 := ⟨q - 1, by omega⟩
    rw [Nat.add_zero] at h
    subst h
    refine ⟨y, z, ?_, hg, hy, hz⟩
    show f12_payments_b26B _ _ _ _ _ _ = _
    unfold f12_payments_b26B
    rw [show (6 : Int32) = nI 6 from rfl, if_pos (Int32.le_refl _)]
  | j + 1, p, q, y, z, h, hq, hg, hy, hz => by
    obtain ⟨q, rfl⟩ : ∃ r, q = r + 1 := ⟨q - 1, by omega⟩
    have hmx : mxp (fun p => s_g (s_Z (n0 1)) (n - 2 ^ p)) n (p + 1) = (if n.testBit p then max (mxp (fun p => s_g (s_Z (n0 1)) (n - 2 ^ p)) n p) (s_g (s_Z (n0 1)) (n - 2 ^ p)) else mxp (fun p => s_g (s_Z (n0 1)) (n - 2 ^ p)) n p) := rfl
    have hsm := sm_n (n0 1) n p
    have hml : mxp (fun p => s_g (s_Z (n0 1)) (n - 2 ^ p)) n p ≤ 64 := mxp_le p (fun i _ _ => s_g_sub (s_Z (n0 1)) hn i)
    have hgl := s_g_sub (s_Z (n0 1)) hn p
    have ih := t_payIn (n0 := n0) K v1 hn j (p + 1) q
    rw [hmx, hsm] at ih
    have hnet := t_netOf (yM n0 y z) (p := p) (by omega)
    rw [yM_n n0 y z (by omega) (by omega)] at hnet
    show ∃ y' z', f12_payments_b26B _ _ _ _ _ _ = _ ∧ _
    unfold f12_payments_b26B
    rw [show (6 : Int32) = nI 6 from rfl, q_le (by omega) (by omega), if_neg (by omega), i_clr n hn p (by omega), p_nm, p_gd hn (by omega), nI_clamp (by omega), yM5]
    cases hb : n.testBit p
    · rw [hb, if_neg p_ff, if_neg p_ff] at ih
      rw [if_neg p_ff, if_pos rfl]
      unfold f12_payments_b63
      rw [p_gd hn (by omega), p_nm, if_pos rfl]
      unfold f12_payments_b102 f12_payments_b108
      rw [p_gd hn (by omega), p_gd hn (by omega), p_nm, nI_clamp (by omega), yM_st5, yM6, yM_st6, p_next, Int32.add_zero, p_uid, p_uid]
      exact ih _ _ (by omega) (by omega) hg hy hz
    · have h3 := n_bit3 n hn p (by omega) hb
      have h2 := Nat.two_pow_pos p
      rw [hb, if_pos rfl, if_pos rfl] at ih
      rw [if_pos rfl, if_neg (p_eqI (by omega) (by omega) (by omega)), hnet, p_bi]
      unfold f12_payments_b63
      rw [p_gd hn (by omega), p_nm, if_neg (p_eqI (by omega) (by omega) (by omega)), p_gd (by omega) (by omega), p_gd hn (by omega), p_gd (by omega) (by omega), nI_clamp (by omega), nI_clamp (by omega), yM_st5, yM6, hg _ (by omega), hz, q_le (by omega) (by omega)]
      unfold f12_payments_b102 f12_payments_b108
      rw [p_gd hn (by omega), p_gd hn (by omega), p_nm, nI_clamp (by omega), yM6, hz, p_gd hn (by omega), p_nm, yM_st6, yM_st6, p_next]
      have hy' : upd y n (y n + s_net (n0 1) p 6) n = s_sm (n0 1) n p + s_net (n0 1) p 6 := by rw [p_us, hy]
      by_cases hc : s_g (s_Z (n0 1)) (n - 2 ^ p) ≤ mxp (fun p => s_g (s_Z (n0 1)) (n - 2 ^ p)) n p
      · rw [if_pos hc]
        refine ih _ _ (by omega) (by omega) (fun i hi => by rw [upd_ne (by omega)]; exact hg i hi) hy' ?_
        rw [p_us, Nat.max_eq_left hc]
      · rw [if_neg hc]
        refine ih _ _ (by omega) (by omega) (fun i hi => by rw [upd_ne (by omega)]; exact hg i hi) hy' ?_
        rw [p_us, Nat.max_eq_right (by omega)]
theorem t_payN {n0 : lu_M} (K : Int32 → lu_M → Option (Int32 × lu_M)) (v1 : Int32) : ∀ (j n q : Nat) (y z : Nat → Int32), n + j = 64 → j < q → (∀ i, i < n → z i = nI (s_g (s_Z (n0 1)) i)) → ∃ y' z', f12_payments_b4 K q v1 (nI n) (yM n0 y z) = K v1 (yM n0 y' z') ∧ ∀ i, i < 64 → z' i = nI (s_g (s_Z (n0 1)) i)
  | 0, n, q, y, z, h, hq, hg => by
    obtain ⟨q, rfl⟩ : ∃ r, q = r + 1 := ⟨q - 1, by omega⟩
    rw [Nat.add_zero] at h
    subst h
    refine ⟨y, z, ?_, hg⟩
    show f12_payments_b4B _ _ _ _ _ = _
    unfold f12_payments_b4B
    rw [show (64 : Int32) = nI 64 from rfl, if_pos (Int32.le_refl _)]
  | j + 1, n, q, y, z, h, hq, hg => by
    obtain ⟨q, rfl⟩ : ∃ r, q = r + 1 := ⟨q - 1, by omega⟩
    have hn : n < 64 := by omega
    obtain ⟨y1, z1, e1, g1, hy1, hz1⟩ := t_payIn (n0 := n0) (f12_payments_b115 (f12_payments_b4 K q) K) v1 hn 6 0 lu_fu (upd y n 0) (upd z n 0) (by omega) (p_fu (by omega)) (fun i hi => by rw [upd_ne (by omega)]; exact hg i hi) (by rw [p_us]; rfl) (by rw [p_us]; rfl)
    have ih := fun z' hz' => t_payN (n0 := n0) K v1 j (n + 1) q y1 z' (by omega) (by omega) hz'
    have e1' : f12_payments_b26 (f12_payments_b115 (f12_payments_b4 K q) K) lu_fu v1 (nI n) 0 (yM n0 (upd y n 0) (upd z n 0)) = f12_payments_b115 (f12_payments_b4 K q) K v1 (nI n) (yM n0 y1 z1) := e1
    have hml : mxp (fun p => s_g (s_Z (n0 1)) (n - 2 ^ p)) n 6 ≤ 64 := mxp_le 6 (fun i _ _ => s_g_sub (s_Z (n0 1)) hn i)
    have fin : ∀ v : Int32, v = nI (s_g (s_Z (n0 1)) n) → ∃ y' z', f12_payments_b4 K q v1 (nI (n + 1)) (yM n0 y1 (upd z1 n v)) = K v1 (yM n0 y' z') ∧ ∀ i, i < 64 → z' i = nI (s_g (s_Z (n0 1)) i) := fun v hv => ih (upd z1 n v) (fun i hi => by
      by_cases e : i = n
      · subst e; rw [p_us]; exact hv
      · rw [upd_ne e]; exact g1 i (by omega))
    show ∃ y' z', f12_payments_b4B _ _ _ _ _ = _ ∧ _
    unfold f12_payments_b4B
    rw [show (64 : Int32) = nI 64 from rfl, q_le (by omega) (by omega), if_neg (by omega), p_gd hn (by omega), p_nm, p_gd hn (by omega), p_nm, nI_clamp (by omega), yM_st5, yM_st6, e1']
    unfold f12_payments_b115 f12_payments_b139 f12_payments_b140
    rw [p_gd hn (by omega), p_gd hn (by omega), p_gd hn (by omega), p_gd hn (by omega), nI_clamp (by omega), p_nm, p_nm, yM5, yM6, yM_st6, yM_st6, p_next, hy1, hz1, Int32.add_zero, p_next]
    by_cases h0 : n = 0
    · subst h0
      rw [if_pos (show nI 0 = (0 : Int32) from rfl)]
      exact fin _ rfl
    · have hgn := s_g_n (s_Z (n0 1)) hn h0
      rw [if_neg (p_ne0 (by omega) (by omega))]
      by_cases hz : s_sm (n0 1) n 6 = 0
      · rw [if_pos hz]
        refine fin _ ?_
        rw [hgn, show s_Z (n0 1) n = true from decide_eq_true hz, if_pos rfl]
      · rw [if_neg hz]
        refine fin _ ?_
        rw [hgn, show s_Z (n0 1) n = false from decide_eq_false hz, if_neg p_ff, Nat.add_zero]
theorem i_or : ∀ j, j < 6 → ∀ o, o < 2 ^ j → (nI o ||| ((1 : Int32) <<< (nI j &&& 31))) = nI (o + 2 ^ j) := by decide +kernel
theorem t_owing {n : lu_M} {s : Nat → Int32} (hs : n 1 = s) (K : Int32 → lu_M → Option (Int32 × lu_M)) : f12_payments_b150 K lu_fu 0 0 n = K (nI (s_o s 6)) n := by
  subst hs
  obtain ⟨x, e, hx⟩ := p_loopR (σ := Unit) (fun q i (x : Int32) => f12_payments_b150 K q x i n) (fun x => K x n) 6 (fun _ u => u) (fun i x _ => x = nI (s_o (n 1) i))
    (fun q x _ _ => by
      show f12_payments_b150B _ _ _ _ _ = _
      unfold f12_payments_b150B
      rw [show (6 : Int32) = nI 6 from rfl, if_pos (Int32.le_refl _)])
    (fun q i x _ hi hx => by
      refine ⟨nI (s_o (n 1) (i + 1)), ?_, rfl⟩
      show f12_payments_b150B _ _ _ _ _ = _
      unfold f12_payments_b150B f12_payments_b172
      rw [show (6 : Int32) = nI 6 from rfl, q_le (by omega) (by omega), if_neg (by omega), t_netOf n hi, p_bi, p_nm, p_nm, p_next, hx, Int32.or_zero, i_or i hi _ (s_o_lt (n 1) i)]
      have : s_o (n 1) (i + 1) = (if s_net (n 1) i 6 = 0 then s_o (n 1) i else s_o (n 1) i + 2 ^ i) := rfl
      rw [this]
      by_cases h : s_net (n 1) i 6 = 0
      · rw [if_pos h, if_pos h]
      · rw [if_neg h, if_neg h]) 6 0 lu_fu 0 () (by omega) (p_fu (by omega)) rfl
  rw [hx] at e
  exact e
def s_pc (o : Nat) : Nat := (o.testBit 0).toNat + (o.testBit 1).toNat + (o.testBit 2).toNat + (o.testBit 3).toNat + (o.testBit 4).toNat + (o.testBit 5).toNat
theorem pc_0 : ∀ o, o < 64 → s_pc o = 0 → o = 0 := by decide +kernel
theorem pc_s : ∀ o, o < 64 → 0 < o → (nI o &&& (nI o - 1)) = nI (o &&& (o - 1)) ∧ (o &&& (o - 1)) < 64 ∧ s_pc (o &&& (o - 1)) + 1 = s_pc o := by decide +kernel
theorem pc_add : ∀ j, j < 6 → ∀ o, o < 2 ^ j → s_pc (o + 2 ^ j) = s_pc o + 1 := by decide +kernel
theorem pc_oc (s : Nat → Int32) : ∀ j, j ≤ 6 → s_pc (s_o s j) = s_oc s j
  | 0, _ => by
    show s_pc 0 = 0
    decide
  | j + 1, hj => by
    have ih := pc_oc s j (by omega)
    unfold s_o s_oc
    by_cases h : s_net s j 6 = 0
    · rw [if_pos h, if_pos h, ih]
    · rw [if_neg h, if_neg h, pc_add j (by omega) _ (s_o_lt s j), ih]
theorem t_pcN {n : lu_M} (K : Int32 → Int32 → lu_M → Option (Int32 × lu_M)) (v1 : Int32) : ∀ (j o c q : Nat), o < 64 → s_pc o ≤ j → j < q → f12_payments_b184 K q v1 (nI c) (nI o) n = K v1 (nI (c + s_pc o)) n
  | j, o, c, q, ho, hj, hq => by
    obtain ⟨q, rfl⟩ : ∃ r, q = r + 1 := ⟨q - 1, by omega⟩
    show f12_payments_b184B _ _ _ _ _ _ = _
    unfold f12_payments_b184B
    by_cases h : o = 0
    · subst h
      rw [if_pos (show nI 0 = (0 : Int32) from rfl)]
      rfl
    · obtain ⟨h1, h2, h3⟩ := pc_s o ho (by omega)
      obtain ⟨j, rfl⟩ : ∃ i, j = i + 1 := ⟨j - 1, by omega⟩
      rw [if_neg (p_ne0 (by omega) (by omega)), h1, p_nm, p_next, t_pcN K v1 j (o &&& (o - 1)) (c + 1) q h2 (by omega) (by omega), ← h3, Nat.add_assoc, Nat.add_comm 1]
theorem y_payments : Me f11_payments f12_payments := Me.mk fun m n L R W => by
  have hP := W.i.P6
  have h64 : 2 ^ s_P (n 1) ≤ 2 ^ 6 := Nat.pow_le_pow_right (by omega) hP
  have hpos := Nat.two_pow_pos (s_P (n 1))
  obtain ⟨g, e1⟩ := k_payN W.i W.b W.x (2 ^ s_P (n 1) - 1) 1 lu_fu (upd (m 98) 0 0) (by omega) (Nat.le_refl _) (p_fu (by omega)) (fun i hi => by
    have : i = 0 := by omega
    subst this; exact p_us ..)
  obtain ⟨y, z, e2, hz⟩ := t_payN (n0 := n) f12_payments_b148 0 64 0 lu_fu (n 5) (n 6) (by omega) (p_fu (by omega)) (fun i hi => absurd hi (by omega))
  have hid : yM n (n 5) (n 6) = n := by unfold yM; rw [p_rw_id, p_rw_id]
  rw [hid] at e2
  have ho := s_o_lt (n 1) 6
  have e3 : f12_payments_b148 0 (yM n y z) = some (nI (s_oc (n 1) 6) - nI (s_g (s_Z (n 1)) (s_o (n 1) 6)), yM n y z) := by
    unfold f12_payments_b148
    rw [t_owing (s := n 1) (yM_n n y z (by omega) (by omega))]
    unfold f12_payments_b180
    rw [show (0 : Int32) = nI 0 from rfl, t_pcN _ _ 6 _ 0 lu_fu ho (by unfold s_pc; have hb := Bool.toNat_le; have := hb ((s_o (n 1) 6).testBit 0); have := hb ((s_o (n 1) 6).testBit 1); have := hb ((s_o (n 1) 6).testBit 2); have := hb ((s_o (n 1) 6).testBit 3); have := hb ((s_o (n 1) 6).testBit 4); have := hb ((s_o (n 1) 6).testBit 5); omega) (p_fu (by omega))]
    unfold f12_payments_b200
    rw [p_gd ho (by omega), nI_clamp (by omega), yM6, hz _ ho, pc_oc _ 6 (Nat.le_refl _), Nat.zero_add]
  obtain ⟨q1, q2⟩ := s_pay (n 1) hP (fun p h1 h2 => s_net_hi W.x h1 h2)
  have hv : nI (s_P (n 1)) - nI (s_g (s_Z (n 1)) (2 ^ s_P (n 1) - 1)) = nI (s_oc (n 1) 6) - nI (s_g (s_Z (n 1)) (s_o (n 1) 6)) := by
    rw [Int32.sub_eq_iff_eq_add]
    have h1 : nI (s_oc (n 1) 6) - nI (s_g (s_Z (n 1)) (s_o (n 1) 6)) + nI (s_g (s_Z (n 1)) (s_o (n 1) 6)) = nI (s_oc (n 1) 6) := Int32.sub_add_cancel _ _
    have h2 : nI (s_g (s_Z (n 1)) (2 ^ s_P (n 1) - 1)) + nI (s_oc (n 1) 6) = nI (s_g (s_Z (n 1)) (s_o (n 1) 6)) + nI (s_P (n 1)) := by rw [nI_add, nI_add, q1]
    generalize nI (s_oc (n 1) 6) = a at *
    generalize nI (s_g (s_Z (n 1)) (s_o (n 1) 6)) = b at *
    generalize nI (s_g (s_Z (n 1)) (2 ^ s_P (n 1) - 1)) = c at *
    generalize nI (s_P (n 1)) = d at *
    have h3 : b + d = b + (a - b + c) := by
      rw [← h2, ← Int32.add_assoc, Int32.add_comm b, h1, Int32.add_comm]
    have h4 := congrArg (fun x => x - b) h3
    have h5 : ∀ x : Int32, b + x - b = x := fun x => by rw [Int32.add_comm]; exact Int32.add_sub_cancel _ _
    have h6 : b + d - b = b + (a - b + c) - b := h4
    rw [h5, h5] at h6
    exact h6
  have e1' : f11_payments m = some (nI (s_P (n 1)) - nI (s_g (s_Z (n 1)) (2 ^ s_P (n 1) - 1)), p_rw m 98 g) := by
    unfold f11_payments
    rw [W.b.cnt, W.i.eP, i_all _ (by omega), p_nm, p_nm, p_st]
    exact e1
  refine ⟨_, _, _, e1', ?_, R.same ((FM.rf m).rw _ _ (by omega)) (fun a h1 h2 => p_rw_n (by omega)) (((FN.rf n).rw _ _ (by omega)).rw _ _ (by omega)) (yM_n n y z (by omega) (by omega))⟩
  unfold f12_payments
  rw [show (0 : Int32) = nI 0 from rfl] at e2 e3 ⊢
  rw [e2, e3, hv]
  rfl

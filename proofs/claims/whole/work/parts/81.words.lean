/-! THE PURE PART: names and other bytes, in both -/
def nb (j k : Nat) : Nat := ((lu_byt.getD j []).getD k 0).toNatClampNeg
theorem nb_ok : ∀ j, j < 18 → ∀ k, k < lu_len.getD j 0 → (lu_byt.getD j []).getD k 0 = nI (nb j k) ∧ 97 ≤ nb j k ∧ nb j k ≤ 122 := by decide +kernel
theorem nb_len : ∀ j, j < 18 → 2 ≤ lu_len.getD j 0 ∧ lu_len.getD j 0 ≤ 8 := by decide +kernel
def g_al (p : Nat → Bool) : Nat → Nat → Bool
  | 0, _ => true
  | n + 1, k => p k && g_al p n (k + 1)
theorem g_al_iff (p : Nat → Bool) : ∀ (n k : Nat), g_al p n k = true ↔ ∀ i, k ≤ i → i < k + n → p i = true
  | 0, k => ⟨fun _ i h1 h2 => absurd h2 (by omega), fun _ => rfl⟩
  | n + 1, k => by
    unfold g_al
    rw [Bool.and_eq_true, g_al_iff p n (k + 1)]
    constructor
    · rintro ⟨h1, h2⟩ i h3 h4
      by_cases e : i = k
      · subst e; exact h1
      · exact h2 i (by omega) (by omega)
    · intro h
      exact ⟨h k (by omega) (by omega), fun i h1 h2 => h i (by omega) (by omega)⟩
/-- the token at f is name j -/
def g_is (b : Nat → Nat) (len f j : Nat) : Bool := g_L b len f && (decide (g_nx b len f - f = lu_len.getD j 0) && g_al (fun k => decide (b (f + k) = nb j k)) (lu_len.getD j 0) 0)
/-- both stand at the token at f -/
def AT (b : Nat → Nat) (len f : Nat) (M : lu_M) : Prop := f ≤ len ∧ M 83 3 = nI (g_so b len f) ∧ M 83 4 = nI f ∧ M 83 5 = nI (g_nx b len f) ∧ (g_so b len f = 2 → M 83 6 = g_val b f (g_nx b len f))
theorem g_so_1 (b : Nat → Nat) (len f : Nat) : g_so b len f = 1 ↔ g_L b len f = true := by
  unfold g_so
  by_cases h : len ≤ f
  · rw [if_pos h]
    exact ⟨fun q => absurd q (by decide), fun q => by have := g_Ll b len f q; omega⟩
  · rw [if_neg h]
    cases h1 : g_L b len f
    · rw [if_neg p_ff]
      exact ⟨fun q => by split at q <;> omega, fun q => absurd q p_ff⟩
    · rw [if_pos rfl]
      exact ⟨fun _ => rfl, fun _ => rfl⟩
theorem g_so_2 (b : Nat → Nat) (len f : Nat) : g_so b len f = 2 ↔ g_D b len f = true := by
  unfold g_so
  by_cases h : len ≤ f
  · rw [if_pos h]
    exact ⟨fun q => absurd q (by decide), fun q => by have := g_Dl b len f q; omega⟩
  · rw [if_neg h]
    cases h1 : g_L b len f
    · rw [if_neg p_ff]
      cases h2 : g_D b len f
      · rw [if_neg p_ff]
        exact ⟨fun q => absurd q (by decide), fun q => absurd q p_ff⟩
      · rw [if_pos rfl]
        exact ⟨fun _ => rfl, fun _ => rfl⟩
    · rw [if_pos rfl, g_LD b len f h1]
      exact ⟨fun q => absurd q (by decide), fun q => absurd q p_ff⟩
theorem g_so_le (b : Nat → Nat) (len f : Nat) : g_so b len f ≤ 3 := by
  unfold g_so
  split
  · omega
  split
  · omega
  split <;> omega
theorem g_so_3 (b : Nat → Nat) (len f : Nat) : g_so b len f = 3 ↔ (f < len ∧ g_L b len f = false ∧ g_D b len f = false) := by
  unfold g_so
  by_cases h : len ≤ f
  · rw [if_pos h]
    exact ⟨fun q => absurd q (by decide), fun q => by omega⟩
  · rw [if_neg h]
    cases h1 : g_L b len f
    · rw [if_neg p_ff]
      cases h2 : g_D b len f
      · rw [if_neg p_ff]
        exact ⟨fun _ => ⟨by omega, rfl, rfl⟩, fun _ => rfl⟩
      · rw [if_pos rfl]
        exact ⟨fun q => absurd q (by decide), fun q => absurd q.2.2 (by decide)⟩
    · rw [if_pos rfl]
      exact ⟨fun q => absurd q (by decide), fun q => absurd q.2.1 (by decide)⟩
theorem k_isNamed {b : Nat → Nat} {len f : Nat} {M : lu_M} (T : TPc b len M) (A : AT b len f M) {j : Nat} (hj : j < 18) : f8_isNamed j M = some (p_b (g_is b len f j), M) := by
  obtain ⟨hl, t1, t2, t3⟩ := T
  obtain ⟨hf, a3, a4, a5, -⟩ := A
  have hs := g_so_le b len f
  obtain ⟨n1, n2, n3⟩ := g_nx_p (b := b) hl hf
  obtain ⟨l1, l2⟩ := nb_len j hj
  unfold f8_isNamed f8_isNamed_b24 g_is
  rw [a3, a4, a5, pk_sub n1, show (1 : Int32) = nI 1 from rfl, q_eq (by omega) (by omega), q_eq (by omega) (by omega)]
  cases hL : g_L b len f
  · rw [if_neg (fun q => by rw [g_so_1, hL] at q; exact p_ff q), Bool.false_and]; rfl
  rw [if_pos ((g_so_1 b len f).mpr hL), Bool.true_and]
  by_cases hn : g_nx b len f - f = lu_len.getD j 0
  · rw [if_pos hn, decide_eq_true hn, Bool.true_and]
    have run : ∀ (n i q : Nat), i + n = lu_len.getD j 0 → n < q → f8_isNamed_b28 (f8_isNamed_b55 j) (f8_isNamed_b63 j) j q (nI i) M = some (p_b (g_al (fun k => decide (b (f + k) = nb j k)) n i), M) := by
      intro n
      induction n with
      | zero =>
        intro i q hi hq
        obtain ⟨q, rfl⟩ : ∃ r, q = r + 1 := ⟨q - 1, by omega⟩
        show f8_isNamed_b28B _ _ _ _ _ _ = _
        unfold f8_isNamed_b28B f8_isNamed_b63
        rw [q_le (by omega) (by omega), if_pos (by omega)]
        rfl
      | succ n ih =>
        intro i q hi hq
        obtain ⟨q, rfl⟩ : ∃ r, q = r + 1 := ⟨q - 1, by omega⟩
        obtain ⟨c1, c2, c3⟩ := nb_ok j hj i (by omega)
        have hb := t3 (f + i) (by omega)
        have hst : g_al (fun k => decide (b (f + k) = nb j k)) (n + 1) i = (decide (b (f + i) = nb j i) && g_al (fun k => decide (b (f + k) = nb j k)) n (i + 1)) := rfl
        show f8_isNamed_b28B _ _ _ _ _ _ = _
        unfold f8_isNamed_b28B
        rw [q_le (by omega) (by omega), if_neg (by omega), a4, nI_add, p_gd (by omega) (by omega), p_gd (by omega) (by omega), nI_clamp (by omega), nI_clamp (by omega), t2 _ (by omega), c1, q_eq (by omega) (by omega), p_next, hst, ih (i + 1) q (by omega) (by omega)]
        by_cases he : b (f + i) = nb j i
        · rw [if_pos he, decide_eq_true he, Bool.true_and]
        · rw [if_neg he, decide_eq_false he, Bool.false_and]; rfl
    exact run _ 0 lu_fu (by omega) (p_fu (by omega))
  · rw [if_neg hn, decide_eq_false hn, Bool.false_and]; rfl
theorem k_isByte {b : Nat → Nat} {len f : Nat} {M : lu_M} (T : TPc b len M) (A : AT b len f M) {c : Nat} (hc : c < 300) (h1 : ¬ (97 ≤ c ∧ c ≤ 122)) (h2 : ¬ (48 ≤ c ∧ c ≤ 57)) : f8_isByte (nI c) M = some (p_b (decide (f < len ∧ b f = c)), M) := by
  obtain ⟨hl, t1, t2, t3⟩ := T
  obtain ⟨hf, a3, a4, a5, -⟩ := A
  have hs := g_so_le b len f
  unfold f8_isByte f8_isByte_b25 f8_isByte_b26
  rw [a3, a4, show (3 : Int32) = nI 3 from rfl, q_eq (by omega) (by omega), p_g0, p_g1]
  by_cases h3 : g_so b len f = 3
  · obtain ⟨hlt, -, -⟩ := (g_so_3 b len f).mp h3
    have := t3 f hlt
    rw [if_pos h3, p_gd (by omega) (by omega), nI_clamp (by omega), t2 f hlt, q_eq (by omega) (by omega)]
    by_cases he : b f = c
    · rw [if_pos he, decide_eq_true (show f < len ∧ b f = c from ⟨hlt, he⟩)]; rfl
    · rw [if_neg he, decide_eq_false (fun q => he q.2)]; rfl
  · rw [if_neg h3]
    have hn : ¬ (f < len ∧ b f = c) := fun q => h3 ((g_so_3 b len f).mpr ⟨q.1, by
      unfold g_L
      rw [decide_eq_false (show ¬ (97 ≤ b f ∧ b f ≤ 122) by omega), Bool.and_false], by
      unfold g_D
      rw [decide_eq_false (show ¬ (48 ≤ b f ∧ b f ≤ 57) by omega), Bool.and_false]⟩)
    rw [decide_eq_false hn]; rfl
/-! words as numbers -/
def g_cap : Nat := 36028797018963967
def wv (b : Nat → Nat) (f : Nat) : Nat → Nat
  | 0 => 0
  | j + 1 => if g_cap < wv b f j then wv b f j else 32 * wv b f j + (b (f + j) - 96)
def cv (y : Nat → Nat) : Nat → Nat
  | 0 => 0
  | j + 1 => 32 * cv y j + (y j - 96)
theorem wv_inj (b : Nat → Nat) (f : Nat) (y : Nat → Nat) : ∀ (n k : Nat), (∀ i, i < n → 97 ≤ b (f + i) ∧ b (f + i) ≤ 122) → (∀ i, i < k → 97 ≤ y i ∧ y i ≤ 122) → cv y k ≤ g_cap → (wv b f n = cv y k ↔ n = k ∧ ∀ i, i < k → b (f + i) = y i)
  | 0, 0, _, _, _ => ⟨fun _ => ⟨rfl, fun i h => absurd h (by omega)⟩, fun _ => rfl⟩
  | 0, k + 1, _, h2, _ => by
    have := h2 k (by omega)
    refine ⟨fun h => ?_, fun h => absurd h.1 (by omega)⟩
    have h' : 0 = 32 * cv y k + (y k - 96) := h
    omega
  | n + 1, 0, h1, _, _ => by
    have := h1 n (by omega)
    refine ⟨fun h => ?_, fun h => absurd h.1 (by omega)⟩
    have h' : (if g_cap < wv b f n then wv b f n else 32 * wv b f n + (b (f + n) - 96)) = 0 := h
    split at h' <;> omega
  | n + 1, k + 1, h1, h2, hc => by
    have hb := h1 n (by omega)
    have hy := h2 k (by omega)
    have hc' : 32 * cv y k + (y k - 96) ≤ g_cap := hc
    have ih := wv_inj b f y n k (fun i hi => h1 i (by omega)) (fun i hi => h2 i (by omega)) (by omega)
    show (if g_cap < wv b f n then wv b f n else 32 * wv b f n + (b (f + n) - 96)) = 32 * cv y k + (y k - 96) ↔ _
    by_cases hq : g_cap < wv b f n
    · rw [if_pos hq]
      refine ⟨fun h => by omega, fun ⟨e1, e2⟩ => ?_⟩
      have := ih.mpr ⟨by omega, fun i hi => e2 i (by omega)⟩
      omega
    · rw [if_neg hq]
      constructor
      · intro h
        have e1 : wv b f n = cv y k := by omega
        obtain ⟨e2, e3⟩ := ih.mp e1
        refine ⟨by omega, fun i hi => ?_⟩
        by_cases e : i = k
        · subst e
          rw [e2] at hb h
          omega
        · exact e3 i (by omega)
      · rintro ⟨e1, e2⟩
        have := ih.mpr ⟨by omega, fun i hi => e2 i (by omega)⟩
        have e3 := e2 k (by omega)
        have e4 : n = k := by omega
        rw [this, e4, e3]
def g_cd (j : Nat) : Nat := [263620, 3625566372, 217652402, 679214, 635383, 267570, 294, 14836, 824370, 658552979, 7930981, 674919554696, 492210354, 1476, 498, 5294489, 394885, 20448837].getD j 0
theorem cd_ok : ∀ j, j < 18 → cv (nb j) (lu_len.getD j 0) = g_cd j ∧ g_cd j ≤ g_cap ∧ 0 < g_cd j := by decide +kernel
theorem wd_iff {b : Nat → Nat} {len f j : Nat} (hl : len ≤ 200) (hf : f ≤ len) (hL : g_L b len f = true) (hj : j < 18) : wv b f (g_nx b len f - f) = g_cd j ↔ g_is b len f j = true := by
  have hlt := g_Ll b len f hL
  obtain ⟨c1, c2, c3⟩ := cd_ok j hj
  have hx : g_nx b len f = g_to (g_L b len) (f + 1) := by
    unfold g_nx
    rw [if_neg (by omega), hL, if_pos rfl]
  obtain ⟨p1, p2, -, p4⟩ := g_to_p (g_Ll b len) hl (i := f + 1) (by omega)
  have hb : ∀ i, i < g_nx b len f - f → 97 ≤ b (f + i) ∧ b (f + i) ≤ 122 := fun i hi => by
    by_cases e : i = 0
    · subst e; exact (g_lt (b := b) hL).2
    · exact (g_lt (b := b) (p4 (f + i) (by omega) (by omega))).2
  have h := wv_inj b f (nb j) (g_nx b len f - f) (lu_len.getD j 0) hb (fun i hi => (nb_ok j hj i hi).2) (by rw [c1]; exact c2)
  rw [← c1, h]
  unfold g_is
  rw [hL, Bool.true_and, Bool.and_eq_true, decide_eq_true_eq, g_al_iff]
  constructor
  · rintro ⟨h1, h2⟩
    exact ⟨h1, fun i _ h4 => decide_eq_true (h2 i (by omega))⟩
  · rintro ⟨h1, h2⟩
    exact ⟨h1, fun i hi => of_decide_eq_true (h2 i (by omega) (by omega))⟩
theorem lg_eq (x y : Int64) : lg_cmp x y = 0 ↔ x = y := by
  unfold lg_cmp
  by_cases h1 : x > y
  · rw [if_pos h1]
    refine ⟨fun q => absurd q (by decide), fun q => ?_⟩
    subst q
    exact absurd h1 (fun hh => by have := Int64.lt_iff_toInt_lt.mp hh; omega)
  rw [if_neg h1]
  by_cases h2 : x = y
  · rw [if_pos h2]
    exact ⟨fun _ => h2, fun _ => rfl⟩
  · rw [if_neg h2]
    exact ⟨fun q => absurd q (by decide), fun q => absurd q h2⟩
theorem wv_le (b : Nat → Nat) (f : Nat) : ∀ j, (∀ i, i < j → b (f + i) ≤ 255) → wv b f j ≤ 2 ^ 61
  | 0, _ => Nat.zero_le _
  | j + 1, h => by
    have hb := h j (by omega)
    have ih := wv_le b f j (fun i hi => h i (by omega))
    show (if g_cap < wv b f j then wv b f j else 32 * wv b f j + (b (f + j) - 96)) ≤ _
    unfold g_cap
    split <;> omega
theorem lN_I {n : Nat} (h : n < 2 ^ 62) : (lN n).toInt = (n : Int) := lg_ofNat_toInt (by omega)
theorem lN_inj {a c : Nat} (ha : a < 2 ^ 62) (hc : c < 2 ^ 62) : lN a = lN c ↔ a = c := by
  constructor
  · intro h
    have := congrArg Int64.toInt h
    rw [lN_I ha, lN_I hc] at this
    omega
  · intro h; rw [h]
theorem t_word0 {b : Nat → Nat} {len : Nat} {N : lu_M} (T : TPn b len N) {e : Nat} (he : N 0 25 = nI e) (hel : e ≤ len) (K : Int64 → lu_M → Option (Int64 × lu_M)) : ∀ (j i q : Nat) (v : Int64), i + j = e → j < q → ∃ v', f12_word_b7 K q v (nI i) N = K v' N
  | 0, i, q, v, h, hq => by
    have hl := T.1
    obtain ⟨q, rfl⟩ : ∃ r, q = r + 1 := ⟨q - 1, by omega⟩
    refine ⟨v, ?_⟩
    show f12_word_b7B _ _ _ _ _ = _
    unfold f12_word_b7B
    rw [he, q_le (by omega) (by omega), if_pos (by omega)]
  | j + 1, i, q, v, h, hq => by
    have hl := T.1
    obtain ⟨q, rfl⟩ : ∃ r, q = r + 1 := ⟨q - 1, by omega⟩
    show ∃ v', f12_word_b7B _ _ _ _ _ = _
    unfold f12_word_b7B f12_word_b43
    rw [he, q_le (by omega) (by omega), if_neg (by omega), p_gd (by omega) (by omega), p_next]
    by_cases hc : lg_cmp v (36028797018963967 : Int64) ≤ 0
    · rw [if_pos hc]
      exact t_word0 T he hel K j (i + 1) q _ (by omega) (by omega)
    · rw [if_neg hc]
      exact t_word0 T he hel K j (i + 1) q _ (by omega) (by omega)
theorem t_wordL {b : Nat → Nat} {len : Nat} {N : lu_M} (T : TPn b len N) {f e : Nat} (he : N 0 25 = nI e) (hel : e ≤ len) (hb : ∀ i, f ≤ i → i < e → 97 ≤ b i ∧ b i ≤ 122) (K : Int64 → lu_M → Option (Int64 × lu_M)) : ∀ (j i q : Nat), i + j = e → f ≤ i → j < q → f12_word_b7 K q (lN (wv b f (i - f))) (nI i) N = K (lN (wv b f (e - f))) N
  | 0, i, q, h, hi, hq => by
    have hl := T.1
    obtain ⟨q, rfl⟩ : ∃ r, q = r + 1 := ⟨q - 1, by omega⟩
    rw [Nat.add_zero] at h
    subst h
    show f12_word_b7B _ _ _ _ _ = _
    unfold f12_word_b7B
    rw [he, if_pos (Int32.le_refl _)]
  | j + 1, i, q, h, hi, hq => by
    have hl := T.1
    obtain ⟨q, rfl⟩ : ∃ r, q = r + 1 := ⟨q - 1, by omega⟩
    have hbi := hb i hi (by omega)
    have hw := wv_le b f (i - f) (fun k hk => by have := T.2.2.2 (f + k) (by omega); exact this)
    have ih := t_wordL T he hel hb K j (i + 1) q (by omega) (by omega) (by omega)
    have hwv : wv b f (i + 1 - f) = (if g_cap < wv b f (i - f) then wv b f (i - f) else 32 * wv b f (i - f) + (b i - 96)) := by
      rw [show i + 1 - f = (i - f) + 1 by omega]
      show (if g_cap < wv b f (i - f) then wv b f (i - f) else 32 * wv b f (i - f) + (b (f + (i - f)) - 96)) = _
      rw [show f + (i - f) = i by omega]
    have hcap : (36028797018963967 : Int64) = lN g_cap := rfl
    show f12_word_b7B _ _ _ _ _ = _
    unfold f12_word_b7B f12_word_b43
    rw [he, q_le (by omega) (by omega), if_neg (by omega), p_gd (by omega) (by omega), p_next, nI_clamp (by omega), T.2.2.1 i (by omega), show (96 : Int32) = nI 96 from rfl, pk_sub (by omega), nI_l (by omega), show (32 : Int64) = lN 32 from rfl, lN_mul, lN_add, hcap]
    have hg := lg_gt (lN (wv b f (i - f))) (lN g_cap)
    rw [lN_I (n := g_cap) (by decide), lN_I (by omega)] at hg
    rw [hwv] at ih
    by_cases hc : g_cap < wv b f (i - f)
    · rw [if_pos hc] at ih
      rw [if_neg (Int32.not_le.mpr (hg.mpr (by omega)))]
      exact ih
    · rw [if_neg hc] at ih
      rw [if_pos (Int32.not_lt.mp (fun q => by have := hg.mp q; omega))]
      exact ih
/-- the reference stands at the token at f -/
def ATn (b : Nat → Nat) (len f : Nat) (N : lu_M) : Prop := f ≤ len ∧ N 0 24 = nI f ∧ N 0 25 = nI (g_nx b len f)
def g_wd (b : Nat → Nat) (len f : Nat) (wr : Bool) : Int64 := if wr || !g_L b len f then 0 else lN (wv b f (g_nx b len f - f))
theorem t_word {b : Nat → Nat} {len f : Nat} {N : lu_M} (T : TPn b len N) (A : ATn b len f N) {wr : Bool} (hw : N 0 29 = p_b wr) : f12_word N = some (g_wd b len f wr, N) := by
  obtain ⟨hf, a4, a5⟩ := A
  have hl := T.1
  obtain ⟨n1, n2, n3⟩ := g_nx_p (b := b) hl hf
  have h50 : ∀ v, f12_word_b50 v N = some (if wr || !g_L b len f then 0 else v, N) := fun v => by
    unfold f12_word_b50 f12_word_b71 f12_word_b76
    rw [hw, a4, t_byteAt T (by omega), p_bi, t_isLetter T.2.2.2, p_bi, p_if, p_if]
    cases wr
    · cases g_L b len f <;> rfl
    · rfl
  unfold f12_word g_wd
  rw [p_nm, a4]
  cases hL : g_L b len f
  · obtain ⟨v, e⟩ := t_word0 T a5 n2 f12_word_b50 (g_nx b len f - f) f lu_fu 0 (by omega) (p_fu (by omega))
    rw [e, h50, hL]
    cases wr <;> rfl
  · have hlt := g_Ll b len f hL
    have hx : g_nx b len f = g_to (g_L b len) (f + 1) := by
      unfold g_nx
      rw [if_neg (by omega), hL, if_pos rfl]
    obtain ⟨p1, p2, -, p4⟩ := g_to_p (g_Ll b len) hl (i := f + 1) (by omega)
    have e := t_wordL T (f := f) a5 n2 (fun i h1 h2 => by
      by_cases e : i = f
      · subst e; exact (g_lt (b := b) hL).2
      · exact (g_lt (b := b) (p4 i (by omega) (by omega))).2) f12_word_b50 (g_nx b len f - f) f lu_fu (by omega) (Nat.le_refl _) (p_fu (by omega))
    rw [Nat.sub_self] at e
    have e' : f12_word_b7 f12_word_b50 lu_fu 0 (nI f) N = f12_word_b50 (lN (wv b f (g_nx b len f - f))) N := e
    rw [e', h50, hL]
theorem g_wd_is {b : Nat → Nat} {len f j : Nat} (hl : len ≤ 200) (hb : ∀ i, i < len → b i ≤ 255) (hf : f ≤ len) (hj : j < 18) : (lg_cmp (g_wd b len f false) (lN (g_cd j)) = 0) ↔ g_is b len f j = true := by
  obtain ⟨c1, c2, c3⟩ := cd_ok j hj
  obtain ⟨n1, n2, n3⟩ := g_nx_p (b := b) hl hf
  rw [lg_eq]
  unfold g_wd
  unfold g_cap at c2
  cases hL : g_L b len f
  · constructor
    · intro h
      have h' : lN 0 = lN (g_cd j) := h
      have := (lN_inj (by omega) (by omega)).mp h'
      omega
    · intro h
      unfold g_is at h
      rw [hL, Bool.false_and] at h
      cases h
  · have hw := wv_le b f (g_nx b len f - f) (fun k hk => hb (f + k) (by omega))
    rw [← wd_iff hl hf hL hj]
    exact lN_inj (by omega) (by omega)
theorem g_wd_1 (b : Nat → Nat) (len f : Nat) {j : Nat} (hj : j < 18) : ¬ lg_cmp (g_wd b len f true) (lN (g_cd j)) = 0 := by
  obtain ⟨c1, c2, c3⟩ := cd_ok j hj
  unfold g_cap at c2
  rw [lg_eq]
  intro h
  have h' : lN 0 = lN (g_cd j) := h
  have := (lN_inj (by omega) (by omega)).mp h'
  omega

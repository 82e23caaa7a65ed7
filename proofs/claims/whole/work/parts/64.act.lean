/-! THE PURE PART: act -/
/-- while bodies run: m, n as they began; one's number p, KIND k, GRACE g; b bodies; parted -/
def AR (m n : lu_M) (p k g b : Nat) (pt : Bool) (m' n' : lu_M) : Prop :=
  (∀ a, a ≠ 114 → a ≠ 2 + 1 + p → m' a = m a) ∧ (∀ i, i ≠ 4 → m' (2 + 1 + p) i = m (2 + 1 + p) i) ∧ m' (2 + 1 + p) 4 = p_b pt ∧
  (∀ a, a ≠ 0 → a ≠ 18 → n' a = n a) ∧ (∀ i, i < 37 → n' 0 i = n 0 i) ∧ n' 0 37 = nI b ∧ n' 0 38 = nI p ∧ n' 0 39 = nI g ∧ n' 0 40 = nI k ∧ n' 0 41 = p_b pt ∧
  m' 114 0 = nI (min b 30) ∧ ∀ i, i < b → i < 30 → m' 114 (i + 1) = n' 18 i
def AF (m : lu_M) (p k g : Nat) : Prop := m (2 + 1 + p) 0 = nI k ∧ m (2 + 1 + p) 1 = nI p ∧ m (2 + 1 + p) 2 = nI g
theorem a_began {m n m' n' : lu_M} {p k g b : Nat} (hp : p < 6) (A : AR m n p k g b false m' n') (hb : b ≤ 900) (v : Int32) : ∃ m'' n'', f3_began (2 + 1 + p) v m' = some m'' ∧ f12_runs v n' = some n'' ∧ AR m n p k g (b + 1) false m'' n'' := by
  obtain ⟨a1, a2, a3, a4, a5, a6, a7, a8, a9, a10, a11, a12⟩ := A
  unfold f3_began f12_runs f12_runs_b26 f12_runs_b36
  rw [a11, a6, a10, p_if, if_neg p_ff, show (30 : Int32) = nI 30 from rfl, q_lt (by omega) (by omega), q_le (by omega) (by omega), p_next]
  by_cases h : b < 30
  · rw [Nat.min_eq_left (by omega), if_pos h, if_neg (by omega), p_nm, lu_st_self, p_gd (by omega) (by omega), p_gd h (by omega), p_nm, p_nm, nI_clamp (by omega), nI_clamp (by omega), p_nm, lu_st_row (a := 0) (by omega), a6, p_next]
    refine ⟨_, _, rfl, rfl, fun a h1 h2 => ?_, fun i hi => ?_, ?_, fun a h1 h2 => ?_, fun i hi => ?_, ?_, ?_, ?_, ?_, ?_, ?_, fun i h1 h2 => ?_⟩
    · rw [lu_st_row h1, lu_st_row h1]; exact a1 a h1 h2
    · rw [lu_st_row (by omega), lu_st_row (by omega)]; exact a2 i hi
    · rw [lu_st_row (by omega), lu_st_row (by omega)]; exact a3
    · rw [lu_st_row h1, lu_st_row h2]; exact a4 a h1 h2
    · rw [lu_st_ne (by omega), lu_st_row (by omega)]; exact a5 i hi
    · rw [lu_st_self]
    · rw [lu_st_ne (by omega), lu_st_row (by omega)]; exact a7
    · rw [lu_st_ne (by omega), lu_st_row (by omega)]; exact a8
    · rw [lu_st_ne (by omega), lu_st_row (by omega)]; exact a9
    · rw [lu_st_ne (by omega), lu_st_row (by omega)]; exact a10
    · rw [lu_st_ne (by omega), lu_st_self, Nat.min_eq_left (by omega)]
    · rw [lu_st_row (a := 18) (by omega)]
      by_cases e : i = b
      · subst e; rw [lu_st_self, lu_st_self]
      · rw [lu_st_ne (by omega), lu_st_ne (by omega), lu_st_ne (by omega)]; exact a12 i (by omega) h2
  · rw [Nat.min_eq_right (by omega), if_neg (by omega), if_pos (by omega), p_nm]
    refine ⟨_, _, rfl, rfl, a1, a2, a3, fun a h1 h2 => ?_, fun i hi => ?_, ?_, ?_, ?_, ?_, ?_, ?_, fun i h1 h2 => ?_⟩
    · rw [lu_st_row h1]; exact a4 a h1 h2
    · rw [lu_st_ne (by omega)]; exact a5 i hi
    · rw [lu_st_self, p_next]
    · rw [lu_st_ne (by omega)]; exact a7
    · rw [lu_st_ne (by omega)]; exact a8
    · rw [lu_st_ne (by omega)]; exact a9
    · rw [lu_st_ne (by omega)]; exact a10
    · rw [a11, Nat.min_eq_right (by omega), Nat.min_eq_right (by omega)]
    · rw [lu_st_row (a := 18) (by omega)]; exact a12 i (by omega) h2
section ACT
variable {m n m' n' : lu_M} {p k g b : Nat} {pt : Bool}
theorem AR.e0 (A : AR m n p k g b pt m' n') (F : AF m p k g) : m' (2 + 1 + p) 0 = nI k := (A.2.1 0 (by omega)).trans F.1
theorem AR.e1 (A : AR m n p k g b pt m' n') (F : AF m p k g) : m' (2 + 1 + p) 1 = nI p := (A.2.1 1 (by omega)).trans F.2.1
theorem AR.e2 (A : AR m n p k g b pt m' n') (F : AF m p k g) : m' (2 + 1 + p) 2 = nI g := (A.2.1 2 (by omega)).trans F.2.2
theorem AR.e4 (A : AR m n p k g b pt m' n') : m' (2 + 1 + p) 4 = p_b pt := A.2.2.1
theorem AR.r38 (A : AR m n p k g b pt m' n') : n' 0 38 = nI p := A.2.2.2.2.2.2.1
theorem AR.r39 (A : AR m n p k g b pt m' n') : n' 0 39 = nI g := A.2.2.2.2.2.2.2.1
theorem AR.r40 (A : AR m n p k g b pt m' n') : n' 0 40 = nI k := A.2.2.2.2.2.2.2.2.1
theorem AR.r41 (A : AR m n p k g b pt m' n') : n' 0 41 = p_b pt := A.2.2.2.2.2.2.2.2.2.1
theorem k5 {k : Nat} (h1 : 1 ≤ k) (h5 : k ≤ 5) : k = 1 ∨ k = 2 ∨ k = 3 ∨ k = 4 ∨ k = 5 := by omega
theorem a_g3b (F : AF m p k g) (A : AR m n p k g b pt m' n') (v : Int32) : g3_began (2 + 1 + p) v m' = f3_began (2 + 1 + p) v m' := by
  unfold g3_began
  repeat' split
  all_goals rfl
theorem a_gives (F : AF m p k g) (hp : p < 6) (h1 : 1 ≤ k) (h5 : k ≤ 5) (A : AR m n p k g b false m' n') (hb : b ≤ 890) (x : Int32) : ∃ v m'' n'' b', g3_gives (2 + 1 + p) x m' = some (v, m'') ∧ f12_gives x n' = some (v, n'') ∧ AR m n p k g b' false m'' n'' ∧ b' ≤ b + 2 := by
  have h3 : ∀ {m' n' : lu_M} {b : Nat}, AR m n p k g b false m' n' → b ≤ 891 → ∃ m'' n'', f3_gives (2 + 1 + p) x m' = some (x - nI g, m'') ∧ f12_runs (10 : Int32) n' = some n'' ∧ AR m n p k g (b + 1) false m'' n'' := fun {m' n' b} A hb => by
    obtain ⟨m1, n1, e1, e2, A1⟩ := a_began hp A (by omega) 10
    refine ⟨m1, n1, ?_, e2, A1⟩
    unfold f3_gives
    rw [a_g3b F A, e1, p_bv, A1.e2 F]
  unfold g3_gives f12_gives f12_gives_b14 f12_gives_b28 f12_gives_b73
  rw [A.e0 F, A.r40]
  rcases k5 h1 h5 with e | e | e | e | e <;> subst e
  · obtain ⟨m1, n1, e1, e2, A1⟩ := a_began hp A (by omega) 20
    obtain ⟨m2, n2, e3, e4, A2⟩ := h3 A1 (by omega)
    rw [if_pos (by decide), if_pos (by decide), e2, p_bv, A1.r40, if_neg (by decide), e4, p_bv, p_nm, A2.r40, if_pos (by decide), A2.r39, A2.r38]
    unfold f0_gives g0_began
    rw [A.e0 F, if_pos (by decide), e1, p_bv, e3, p_bi, A2.e1 F]
    exact ⟨_, _, _, _, rfl, rfl, A2, by omega⟩
  · obtain ⟨m2, n2, e3, e4, A2⟩ := h3 A (by omega)
    rw [if_neg (by decide), if_pos (by decide), if_neg (by decide), if_neg (by decide), e4, p_bv, p_nm, A2.r40, if_neg (by decide), if_neg (by decide), A2.r39]
    exact ⟨_, _, _, _, e3, rfl, A2, by omega⟩
  · obtain ⟨m1, n1, e1, e2, A1⟩ := a_began hp A (by omega) 50
    obtain ⟨m2, n2, e3, e4, A2⟩ := h3 A1 (by omega)
    rw [if_neg (by decide), if_neg (by decide), if_pos (by decide), if_neg (by decide), if_pos (by decide), e2, p_bv, e4, p_bv, p_nm, A2.r40, if_neg (by decide), if_pos (by decide), A2.r39]
    unfold f9_gives g9_began
    rw [A.e0 F, if_pos (by decide), e1, p_bv, e3, p_bi]
    exact ⟨_, _, _, _, rfl, rfl, A2, by omega⟩
  · obtain ⟨m2, n2, e3, e4, A2⟩ := h3 A (by omega)
    rw [if_neg (by decide), if_neg (by decide), if_neg (by decide), if_pos (by decide), if_neg (by decide), if_neg (by decide), e4, p_bv, p_nm, A2.r40, if_neg (by decide), if_neg (by decide), A2.r39]
    exact ⟨_, _, _, _, e3, rfl, A2, by omega⟩
  · obtain ⟨m2, n2, e3, e4, A2⟩ := h3 A (by omega)
    rw [if_neg (by decide), if_neg (by decide), if_neg (by decide), if_neg (by decide), if_pos (by decide), if_neg (by decide), if_neg (by decide), e4, p_bv, p_nm, A2.r40, if_neg (by decide), if_neg (by decide), A2.r39]
    exact ⟨_, _, _, _, e3, rfl, A2, by omega⟩
theorem a_takes (F : AF m p k g) (hp : p < 6) (h1 : 1 ≤ k) (h5 : k ≤ 5) (A : AR m n p k g b false m' n') (hb : b ≤ 800) (x : Int32) : ∃ v m'' n'' b', g3_takes (2 + 1 + p) x m' = some (v, m'') ∧ f12_takes x n' = some (v, n'') ∧ AR m n p k g b' false m'' n'' ∧ b' ≤ b + 4 := by
  have h3 : ∀ {m' n' : lu_M} {b : Nat}, AR m n p k g b false m' n' → b ≤ 810 → ∃ v m'' n1 n'' b', f3_takes (2 + 1 + p) x m' = some (v * 2, m'') ∧ f12_runs (11 : Int32) n' = some n1 ∧ f12_gives x n1 = some (v, n'') ∧ AR m n p k g b' false m'' n'' ∧ b' ≤ b + 3 := fun {m' n' b} A hb => by
    obtain ⟨m1, n1, e1, e2, A1⟩ := a_began hp A (by omega) 11
    obtain ⟨v, m2, n2, b2, e3, e4, A2, hb2⟩ := a_gives F hp h1 h5 A1 (by omega) x
    refine ⟨v, m2, n1, n2, b2, ?_, e2, e4, A2, by omega⟩
    unfold f3_takes
    rw [a_g3b F A, e1, p_bv, e3, p_bi]
  unfold g3_takes f12_takes f12_takes_b16 f12_takes_b21 f12_takes_b32 f12_takes_b46 f12_takes_b88
  rw [A.e0 F, A.r40]
  have h30 : (k = 2 ∨ k = 3) → ∃ v m'' n'' b', f2_takes (2 + 1 + p) x m' = some (v, m'') ∧ (lu_bv (f12_runs (30 : Int32) n') fun m6 => if (m6 0 40) = (5 : Int32) then (lu_bv (f12_runs (60 : Int32) m6) fun m5 => lu_bv (f12_runs (11 : Int32) m5) fun m1 => lu_bi (f12_gives x m1) fun x2 m3 => lu_nm ((x2 * (2 : Int32))) fun x4 => if (1 : Int32) = 0 then (if (m3 0 40) = (5 : Int32) then some ((x4 ^^^ (m3 0 39)), m3) else some (x4, m3)) else some (((0 : Int32) - x4), m3)) else (lu_bv (f12_runs (11 : Int32) m6) fun m1 => lu_bi (f12_gives x m1) fun x2 m3 => lu_nm ((x2 * (2 : Int32))) fun x4 => if (1 : Int32) = 0 then (if (m3 0 40) = (5 : Int32) then some ((x4 ^^^ (m3 0 39)), m3) else some (x4, m3)) else some (((0 : Int32) - x4), m3))) = some (v, n'') ∧ AR m n p k g b' false m'' n'' ∧ b' ≤ b + 4 := fun hk => by
    obtain ⟨m1, n1, e1, e2, A1⟩ := a_began hp A (by omega) 30
    obtain ⟨v, m2, n2, n3, b2, e3, e4, e5, A2, hb2⟩ := h3 A1 (by omega)
    refine ⟨0 - v * 2, m2, n3, b2, ?_, ?_, A2, by omega⟩
    · unfold f2_takes g2_began
      rw [A.e0 F]
      rcases hk with e | e <;> subst e
      · rw [if_pos (by decide), e1, p_bv, e3, p_bi]
      · rw [if_neg (by decide), if_pos (by decide), e1, p_bv, e3, p_bi]
    · rw [e2, p_bv, A1.r40, if_neg (fun q => by have := (nI_eq (b := 5) (by omega) (by omega)).mp q; omega), e4, p_bv, e5, p_bi, p_nm, if_neg (by decide)]
  have hpl : (k = 1 ∨ k = 4) → ∃ v m'' n'' b', f3_takes (2 + 1 + p) x m' = some (v, m'') ∧ (lu_bv (f12_runs (11 : Int32) n') fun m1 => lu_bi (f12_gives x m1) fun x2 m3 => lu_nm ((x2 * (2 : Int32))) fun x4 => if (0 : Int32) = 0 then (if (m3 0 40) = (5 : Int32) then some ((x4 ^^^ (m3 0 39)), m3) else some (x4, m3)) else some (((0 : Int32) - x4), m3)) = some (v, n'') ∧ AR m n p k g b' false m'' n'' ∧ b' ≤ b + 4 := fun hk => by
    obtain ⟨v, m2, n2, n3, b2, e3, e4, e5, A2, hb2⟩ := h3 A (by omega)
    refine ⟨v * 2, m2, n3, b2, e3, ?_, A2, by omega⟩
    rw [e4, p_bv, e5, p_bi, p_nm, if_pos rfl, A2.r40, if_neg (fun q => by have := (nI_eq (b := 5) (by omega) (by omega)).mp q; omega)]
  rcases k5 h1 h5 with e | e | e | e | e
  · subst e
    rw [if_pos (by decide), if_neg (by decide), if_neg (by decide), if_pos rfl, if_neg (by decide)]
    exact hpl (Or.inl rfl)
  · subst e
    rw [if_neg (by decide), if_pos (by decide), if_pos (by decide), if_neg (by decide)]
    exact h30 (Or.inl rfl)
  · subst e
    rw [if_neg (by decide), if_neg (by decide), if_pos (by decide), if_neg (by decide), if_pos (by decide), if_neg (by decide)]
    exact h30 (Or.inr rfl)
  · subst e
    rw [if_neg (by decide), if_neg (by decide), if_neg (by decide), if_pos (by decide), if_neg (by decide), if_neg (by decide), if_pos rfl, if_neg (by decide)]
    exact hpl (Or.inr rfl)
  · subst e
    obtain ⟨m1, n1, e1, e2, A1⟩ := a_began hp A (by omega) 60
    obtain ⟨v, m2, n2, n3, b2, e3, e4, e5, A2, hb2⟩ := h3 A1 (by omega)
    rw [if_neg (by decide), if_neg (by decide), if_neg (by decide), if_neg (by decide), if_pos (by decide), if_neg (by decide), if_neg (by decide), if_pos rfl, if_pos (by decide), e2, p_bv, e4, p_bv, e5, p_bi, p_nm, if_pos rfl, A2.r40, if_pos (by decide), A2.r39]
    unfold f4_takes g4_began
    rw [A.e0 F, if_pos (by decide), e1, p_bv, e3, p_bi, A2.e2 F]
    exact ⟨_, _, _, _, rfl, rfl, A2, by omega⟩
theorem a_plain (F : AF m p k g) (hp : p < 6) (g9 : g ≤ 9) (A : AR m n p k g b false m' n') (hb : b ≤ 890) (x : Int32) : ∃ v m'' n'' pt, f3_splits (2 + 1 + p) x m' = some (v, m'') ∧ f12_plainSplits x n' = some (v, n'') ∧ AR m n p k g (b + 1) pt m'' n'' := by
  obtain ⟨m1, n1, e1, e2, A1⟩ := a_began hp A (by omega) 12
  unfold f3_splits f12_plainSplits
  rw [a_g3b F A, e1, e2, p_bv, p_bv, p_nm, A1.e1 F, A1.e2 F, A1.r38, A1.r39]
  by_cases h : g = p
  · subst h
    rw [if_pos (Int32.sub_self _), if_pos rfl, p_nm, p_nm]
    refine ⟨_, _, _, true, rfl, rfl, ?_⟩
    obtain ⟨a1, a2, a3, a4, a5, a6, a7, a8, a9, a10, a11, a12⟩ := A1
    refine ⟨fun a h1 h2 => ?_, fun i hi => ?_, ?_, fun a h1 h2 => ?_, fun i hi => ?_, ?_, ?_, ?_, ?_, ?_, ?_, fun i h1 h2 => ?_⟩
    · rw [lu_st_row h2]; exact a1 a h1 h2
    · rw [lu_st_ne hi]; exact a2 i hi
    · rw [lu_st_self]; rfl
    · rw [lu_st_row h1]; exact a4 a h1 h2
    · rw [lu_st_ne (by omega)]; exact a5 i hi
    · rw [lu_st_ne (by omega)]; exact a6
    · rw [lu_st_ne (by omega)]; exact a7
    · rw [lu_st_ne (by omega)]; exact a8
    · rw [lu_st_ne (by omega)]; exact a9
    · rw [lu_st_self]; rfl
    · rw [lu_st_row (by omega)]; exact a11
    · rw [lu_st_row (by omega), lu_st_row (by omega)]; exact a12 i h1 h2
  · have hz : ¬ nI g - nI p = 0 := fun q => h ((nI_eq (by omega) (by omega)).mp (by rw [Int32.sub_eq_iff_eq_add.mp q, Int32.zero_add]))
    have hd : ∀ o : Option (Int32 × lu_M), lu_gd (decide (¬ nI g - nI p = 0)) o = o := fun o => by rw [decide_eq_true hz]; rfl
    rw [if_neg hz, if_neg (p_eqI h (by omega) (by omega)), hd, hd]
    exact ⟨_, _, _, false, rfl, rfl, A1⟩
theorem a_splits (F : AF m p k g) (hp : p < 6) (h1 : 1 ≤ k) (h5 : k ≤ 5) (g9 : g ≤ 9) (A : AR m n p k g b false m' n') (hb : b ≤ 880) (x : Int32) : ∃ v m'' n'' b' pt, g3_splits (2 + 1 + p) x m' = some (v, m'') ∧ f12_splits x n' = some (v, n'') ∧ AR m n p k g b' pt m'' n'' ∧ b' ≤ b + 5 := by
  unfold g3_splits f12_splits f12_splits_b71
  rw [A.e0 F, A.r40]
  have hpl : ∃ v m'' n'' b' pt, f3_splits (2 + 1 + p) x m' = some (v, m'') ∧ (lu_bi (f12_plainSplits x n') fun x1 m2 => some (x1, m2)) = some (v, n'') ∧ AR m n p k g b' pt m'' n'' ∧ b' ≤ b + 5 := by
    obtain ⟨v, m1, n1, pt, e1, e2, A1⟩ := a_plain F hp g9 A (by omega) x
    refine ⟨v, m1, n1, _, pt, e1, ?_, A1, by omega⟩
    rw [e2, p_bi]
  rcases k5 h1 h5 with e | e | e | e | e
  · subst e
    rw [if_pos (by decide), if_neg (by decide), if_neg (by decide)]
    exact hpl
  · subst e
    rw [if_neg (by decide), if_pos (by decide), if_neg (by decide), if_neg (by decide)]
    exact hpl
  · subst e
    rw [if_neg (by decide), if_neg (by decide), if_pos (by decide), if_neg (by decide), if_neg (by decide)]
    exact hpl
  · subst e
    obtain ⟨m1, n1, e1, e2, A1⟩ := a_began hp A (by omega) 40
    obtain ⟨v, m2, n2, pt, e3, e4, A2⟩ := a_plain F hp g9 A1 (by omega) (x + 5)
    rw [if_neg (by decide), if_neg (by decide), if_neg (by decide), if_pos (by decide), if_pos (by decide), e2, p_bv, e4, p_bi]
    unfold f7_splits g7_began
    rw [A.e0 F, if_pos (by decide), e1, p_bv, e3, p_bi]
    exact ⟨_, _, _, _, _, rfl, rfl, A2, by omega⟩
  · subst e
    obtain ⟨m0, n0, d1, d2, A0⟩ := a_began hp A (by omega) 61
    obtain ⟨m1, n1, e1, e2, A1⟩ := a_began hp A0 (by omega) 40
    obtain ⟨v, m2, n2, pt, e3, e4, A2⟩ := a_plain F hp g9 A1 (by omega) (x + 5)
    rw [if_neg (by decide), if_neg (by decide), if_neg (by decide), if_neg (by decide), if_pos (by decide), if_neg (by decide), if_pos (by decide), d2, p_bv, e2, p_bv, e4, p_bi, A2.r41, p_if]
    unfold f4_splits g4_began f7_splits g7_began f4_splits_b33
    rw [A.e0 F, if_pos (by decide), d1, p_bv, A0.e0 F, if_neg (by decide), if_pos (by decide), e1, p_bv, e3, p_bi, p_bi, A2.e4, p_if]
    cases pt
    · obtain ⟨w, m3, n3, b3, f1, f2, A3, hb3⟩ := a_gives F hp (by omega) (by omega) A2 (by omega) (nI p)
      have f1' : f3_gives (2 + 1 + p) (nI p) m2 = some (w, m3) := by
        unfold g3_gives at f1
        rw [A2.e0 F, if_neg (by decide), if_neg (by decide), if_neg (by decide), if_neg (by decide), if_pos (by decide)] at f1
        exact f1
      unfold g4_gives
      rw [if_neg p_ff, if_neg p_ff, A2.r38, f2, p_bi, A2.e1 F, A2.e0 F, if_pos (by decide), f1', p_bi]
      exact ⟨_, _, _, _, _, rfl, rfl, A3, by omega⟩
    · rw [if_pos rfl, if_pos rfl]
      exact ⟨_, _, _, _, _, rfl, rfl, A2, by omega⟩
theorem a_swears (F : AF m p k g) (hp : p < 6) (h1 : 1 ≤ k) (h5 : k ≤ 5) (g9 : g ≤ 9) (A : AR m n p k g b false m' n') (hb : b ≤ 700) (x : Int32) : ∃ v m'' n'' b' pt, g3_swears (2 + 1 + p) x m' = some (v, m'') ∧ f12_swears x n' = some (v, n'') ∧ AR m n p k g b' pt m'' n'' ∧ b' ≤ b + 20 := by
  have h3 : ∀ {m' n' : lu_M} {b : Nat}, AR m n p k g b false m' n' → b ≤ 710 → ∃ v m'' n1 n'' b', f3_swears (2 + 1 + p) x m' = some (v ^^^ nI p, m'') ∧ f12_runs (13 : Int32) n' = some n1 ∧ f12_takes x n1 = some (v, n'') ∧ AR m n p k g b' false m'' n'' ∧ b' ≤ b + 5 := fun {m' n' b} A hb => by
    obtain ⟨m1, n1, e1, e2, A1⟩ := a_began hp A (by omega) 13
    obtain ⟨v, m2, n2, b2, e3, e4, A2, hb2⟩ := a_takes F hp h1 h5 A1 (by omega) x
    refine ⟨v, m2, n1, n2, b2, ?_, e2, e4, A2, by omega⟩
    unfold f3_swears
    rw [a_g3b F A, e1, p_bv, e3, p_bi, A2.e1 F]
  unfold g3_swears f12_swears f12_swears_b14 f12_swears_b53
  rw [A.e0 F, A.r40]
  by_cases hk : k = 3
  · subst hk
    obtain ⟨m1, n1, e1, e2, A1⟩ := a_began hp A (by omega) 51
    obtain ⟨v, m2, n2, n3, b2, e3, e4, e5, A2, hb2⟩ := h3 A1 (by omega)
    obtain ⟨w, m3, n4, b3, pt, f1, f2, A3, hb3⟩ := a_splits F hp (by omega) (by omega) g9 A2 (by omega) (nI g)
    have f1' : f3_splits (2 + 1 + p) (nI g) m2 = some (w, m3) := by
      unfold g3_splits at f1
      rw [A2.e0 F, if_neg (by decide), if_neg (by decide), if_pos (by decide)] at f1
      exact f1
    rw [if_neg (by decide), if_neg (by decide), if_pos (by decide), if_pos (by decide), e2, p_bv, e4, p_bv, e5, p_bi, p_nm, A2.r40, if_pos (by decide), A2.r39, f2, p_bi, A2.r38]
    unfold f9_swears g9_began g9_splits
    rw [A.e0 F, if_pos (by decide), e1, p_bv, e3, p_bi, A2.e0 F, if_pos (by decide), A2.e2 F, f1', p_bi]
    exact ⟨_, _, _, _, _, rfl, rfl, A3, by omega⟩
  · obtain ⟨v, m2, n2, n3, b2, e3, e4, e5, A2, hb2⟩ := h3 A (by omega)
    have hn3 : ¬ nI k = (3 : Int32) := fun q => hk ((nI_eq (b := 3) (by omega) (by omega)).mp q)
    rw [if_neg hn3, if_neg hn3, e4, p_bv, e5, p_bi, p_nm, A2.r40, if_neg hn3, A2.r38]
    refine ⟨v ^^^ nI p, m2, n3, b2, false, ?_, rfl, A2, by omega⟩
    repeat' split
    all_goals exact e3
end ACT

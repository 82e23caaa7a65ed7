/-! THE START'S RELATION -/
theorem z_n {k : Nat} (h1 : k ≠ 7) (h2 : k ≠ 2) : lu_n0 1 k = 0 := by
  show (if k = 7 then (1 : Int32) else if k = 2 then 12 else 0) = 0
  rw [if_neg h1, if_neg h2]
theorem z_ok {k hi : Nat} (h1 : k ≠ 7) (h2 : k ≠ 2) : s_ok (lu_n0 1) k 0 hi := by
  unfold s_ok s_v
  rw [z_n h1 h2]
  exact ⟨rfl, Nat.zero_le _, Nat.zero_le _⟩
theorem z_P : s_P (lu_n0 1) = 0 := rfl
theorem z_D : s_D (lu_n0 1) = 0 := rfl
theorem z_6 : s_v (lu_n0 1) 6 = 0 := rfl
theorem z_SI : SI (lu_n0 1) := by
  refine ⟨z_ok (by omega) (by omega), z_ok (by omega) (by omega), ?_, z_ok (by omega) (by omega), ?_, ?_, ?_, ?_⟩
  · exact ⟨rfl, by decide, by decide⟩
  · exact Nat.zero_le _
  · intro p h; rw [z_P] at h; omega
  · intro p h; rw [z_D] at h; omega
  · intro p h; rw [z_D] at h; omega
theorem z_0 {r k : Nat} (h1 : ¬ (r = 1 ∨ r = 37)) (h2 : ¬ (3 ≤ r ∧ r ≤ 8)) (h3 : ¬ (39 ≤ r ∧ r ≤ 44)) (h4 : ¬ (92 ≤ r ∧ r ≤ 97)) (h5 : r ≠ 104) (h6 : r ≠ 111) : lu_m0 r k = 0 := by
  unfold lu_m0
  rw [if_neg h1, if_neg h2, if_neg h3, if_neg h4, if_neg h5, if_neg h6]
theorem z_RB : RB lu_m0 1 (lu_n0 1) := by
  refine ⟨rfl, rfl, rfl, ?_, ?_, ?_, ?_⟩
  · intro p hp
    rcases (show p = 0 ∨ p = 1 ∨ p = 2 ∨ p = 3 ∨ p = 4 ∨ p = 5 by omega) with rfl | rfl | rfl | rfl | rfl | rfl <;> rfl
  · intro p _ h; rw [z_P] at h; omega
  · intro p h; rw [z_D] at h; omega
  · intro p hp i hi
    rw [z_0 (by omega) (by omega) (by omega) (by omega) (by omega) (by omega), b_0, z_D]
    simp
theorem z_CR : CR (s_D (lu_n0 1)) (lu_m0 (1 + 28)) (lu_n0 1) := by
  refine ⟨rfl, fun i hi => ?_⟩
  rw [z_D, z_0 (by omega) (by omega) (by omega) (by omega) (by omega) (by omega), z_0 (by omega) (by omega) (by omega) (by omega) (by omega) (by omega), z_0 (by omega) (by omega) (by omega) (by omega) (by omega) (by omega), z_0 (by omega) (by omega) (by omega) (by omega) (by omega) (by omega), b_0]
  simp
theorem z_WX : WX lu_m0 1 (lu_n0 1) := by
  refine ⟨rfl, rfl, z_ok (by omega) (by omega), ?_, ?_⟩
  · intro r _ h; rw [z_6] at h; omega
  · intro p q hp hq
    rw [z_0 (by omega) (by omega) (by omega) (by omega) (by omega) (by omega), z_n (by omega) (by omega)]
    exact ⟨rfl, z_ok (by omega) (by omega), fun _ => rfl⟩
theorem lu_rel0 : Rel lu_m0 lu_n0 := by
  refine ⟨⟨[], z_SI, ⟨by decide, by decide, fun x h => absurd h List.not_mem_nil⟩, ⟨rfl, trivial⟩, z_RB, ⟨by decide, rfl, trivial, by decide, fun x h => absurd h List.not_mem_nil, rfl⟩, z_CR, rfl, z_WX⟩, ⟨rfl, Or.inl rfl⟩, ⟨0, by decide, rfl, rfl, fun k h => absurd h (Nat.not_lt_zero _)⟩, ⟨0, by decide, rfl, rfl, fun k h => absurd h (Nat.not_lt_zero _)⟩, ?_, ?_, ⟨0, by decide, rfl, rfl, fun k h => absurd h (Nat.not_lt_zero _)⟩, ?_⟩
  · intro h hh
    refine ⟨rfl, rfl, ⟨rfl, Nat.zero_le _, Nat.zero_le _⟩, Or.inl rfl, fun k hk => ?_⟩
    rw [z_0 (by omega) (by omega) (by omega) (by omega) (by omega) (by omega)]
    rfl
  · intro i hi
    exact Or.inr (Or.inr ⟨rfl, rfl⟩)
  · intro k hk
    rcases (show k = 0 ∨ k = 1 ∨ k = 2 ∨ k = 3 ∨ k = 4 ∨ k = 5 by omega) with rfl | rfl | rfl | rfl | rfl | rfl <;> rfl

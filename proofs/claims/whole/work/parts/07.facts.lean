/-! FACTS: roles, constants, the words of the tables that the walks use -/
def lu_TC : lu_T := (115, fun r => ([(4, 0, 0), (5, 0, 0), (1, 6, 0), (10, 0, 0), (10, 0, 0), (10, 0, 0), (10, 0, 0), (10, 0, 0), (10, 0, 0), (0, 10, 0), (0, 10, 0), (0, 10, 0), (0, 10, 0), (0, 10, 0), (0, 6, 0), (3, 6, 4), (0, 4, 0), (0, 4, 0), (0, 4, 0), (0, 4, 0), (0, 4, 0), (0, 4, 0), (3, 6, 6), (0, 6, 0), (0, 6, 0), (0, 6, 0), (0, 6, 0), (0, 6, 0), (0, 6, 0), (6, 0, 0), (7, 0, 0), (0, 8, 0), (0, 8, 0), (0, 8, 0), (0, 8, 0), (0, 200, 0), (0, 5, 0), (5, 0, 0), (1, 6, 0), (10, 0, 0), (10, 0, 0), (10, 0, 0), (10, 0, 0), (10, 0, 0), (10, 0, 0), (0, 10, 0), (0, 10, 0), (0, 10, 0), (0, 10, 0), (0, 10, 0), (0, 6, 0), (3, 6, 4), (0, 4, 0), (0, 4, 0), (0, 4, 0), (0, 4, 0), (0, 4, 0), (0, 4, 0), (3, 6, 6), (0, 6, 0), (0, 6, 0), (0, 6, 0), (0, 6, 0), (0, 6, 0), (0, 6, 0), (6, 0, 0), (7, 0, 0), (0, 8, 0), (0, 8, 0), (0, 8, 0), (0, 8, 0), (0, 200, 0), (0, 5, 0), (6, 0, 0), (8, 0, 0), (2, 5, 0), (6, 0, 0), (6, 0, 0), (6, 0, 0), (6, 0, 0), (6, 0, 0), (0, 4, 0), (0, 4, 0), (9, 0, 0), (0, 200, 0), (7, 0, 0), (0, 8, 0), (0, 8, 0), (0, 8, 0), (0, 8, 0), (0, 200, 0), (1, 6, 0), (10, 0, 0), (10, 0, 0), (10, 0, 0), (10, 0, 0), (10, 0, 0), (10, 0, 0), (0, 64, 0), (3, 4, 3), (0, 3, 0), (0, 3, 0), (0, 3, 0), (0, 3, 0), (0, 4, 0), (0, 4, 0), (3, 4, 40), (0, 40, 0), (0, 40, 0), (0, 40, 0), (0, 40, 0), (0, 4, 0), (0, 4, 0), (0, 4, 0), (0, 31, 0)] : List (Nat × Nat × Nat)).getD r (12, 0, 0))
def lu_TM : lu_T := (19, fun r => ([(11, 0, 0), (0, 368, 0), (0, 368, 0), (0, 368, 0), (0, 200, 0), (0, 64, 0), (0, 64, 0), (0, 60, 0), (0, 4, 0), (0, 4, 0), (0, 12, 0), (0, 200, 0), (0, 4, 0), (0, 4, 0), (0, 160, 0), (0, 4, 0), (0, 4, 0), (0, 4, 0), (0, 30, 0)] : List (Nat × Nat × Nat)).getD r (12, 0, 0))
def lu_fu : Nat := 1000
theorem lu_ii (x : Int32) {z : Int} {v : Int32} (h : Int32.ofInt z = v) : x + Int32.ofInt z = x + v := by rw [h]
theorem kC_0 : lu_TC.2 0 = (4, 0, 0) := rfl
theorem lC_0 : 0 < lu_TC.1 := by decide
theorem kC_1 : lu_TC.2 1 = (5, 0, 0) := rfl
theorem lC_1 : 1 < lu_TC.1 := by decide
theorem kC_2 : lu_TC.2 2 = (1, 6, 0) := rfl
theorem lC_2 : 2 < lu_TC.1 := by decide
theorem kC_9 : lu_TC.2 9 = (0, 10, 0) := rfl
theorem lC_9 : 9 < lu_TC.1 := by decide
theorem kC_10 : lu_TC.2 10 = (0, 10, 0) := rfl
theorem lC_10 : 10 < lu_TC.1 := by decide
theorem kC_11 : lu_TC.2 11 = (0, 10, 0) := rfl
theorem lC_11 : 11 < lu_TC.1 := by decide
theorem kC_12 : lu_TC.2 12 = (0, 10, 0) := rfl
theorem lC_12 : 12 < lu_TC.1 := by decide
theorem kC_13 : lu_TC.2 13 = (0, 10, 0) := rfl
theorem lC_13 : 13 < lu_TC.1 := by decide
theorem kC_15 : lu_TC.2 15 = (3, 6, 4) := rfl
theorem lC_15 : 15 < lu_TC.1 := by decide
theorem kC_22 : lu_TC.2 22 = (3, 6, 6) := rfl
theorem lC_22 : 22 < lu_TC.1 := by decide
theorem kC_29 : lu_TC.2 29 = (6, 0, 0) := rfl
theorem lC_29 : 29 < lu_TC.1 := by decide
theorem kC_30 : lu_TC.2 30 = (7, 0, 0) := rfl
theorem lC_30 : 30 < lu_TC.1 := by decide
theorem kC_37 : lu_TC.2 37 = (5, 0, 0) := rfl
theorem lC_37 : 37 < lu_TC.1 := by decide
theorem kC_73 : lu_TC.2 73 = (6, 0, 0) := rfl
theorem lC_73 : 73 < lu_TC.1 := by decide
theorem kC_74 : lu_TC.2 74 = (8, 0, 0) := rfl
theorem lC_74 : 74 < lu_TC.1 := by decide
theorem kC_75 : lu_TC.2 75 = (2, 5, 0) := rfl
theorem lC_75 : 75 < lu_TC.1 := by decide
theorem kC_81 : lu_TC.2 81 = (0, 4, 0) := rfl
theorem lC_81 : 81 < lu_TC.1 := by decide
theorem kC_82 : lu_TC.2 82 = (0, 4, 0) := rfl
theorem lC_82 : 82 < lu_TC.1 := by decide
theorem kC_83 : lu_TC.2 83 = (9, 0, 0) := rfl
theorem lC_83 : 83 < lu_TC.1 := by decide
theorem kC_84 : lu_TC.2 84 = (0, 200, 0) := rfl
theorem lC_84 : 84 < lu_TC.1 := by decide
theorem kC_85 : lu_TC.2 85 = (7, 0, 0) := rfl
theorem lC_85 : 85 < lu_TC.1 := by decide
theorem kC_91 : lu_TC.2 91 = (1, 6, 0) := rfl
theorem lC_91 : 91 < lu_TC.1 := by decide
theorem kC_98 : lu_TC.2 98 = (0, 64, 0) := rfl
theorem lC_98 : 98 < lu_TC.1 := by decide
theorem kC_99 : lu_TC.2 99 = (3, 4, 3) := rfl
theorem lC_99 : 99 < lu_TC.1 := by decide
theorem kC_104 : lu_TC.2 104 = (0, 4, 0) := rfl
theorem lC_104 : 104 < lu_TC.1 := by decide
theorem kC_105 : lu_TC.2 105 = (0, 4, 0) := rfl
theorem lC_105 : 105 < lu_TC.1 := by decide
theorem kC_106 : lu_TC.2 106 = (3, 4, 40) := rfl
theorem lC_106 : 106 < lu_TC.1 := by decide
theorem kC_111 : lu_TC.2 111 = (0, 4, 0) := rfl
theorem lC_111 : 111 < lu_TC.1 := by decide
theorem kC_112 : lu_TC.2 112 = (0, 4, 0) := rfl
theorem lC_112 : 112 < lu_TC.1 := by decide
theorem kC_113 : lu_TC.2 113 = (0, 4, 0) := rfl
theorem lC_113 : 113 < lu_TC.1 := by decide
theorem kC_114 : lu_TC.2 114 = (0, 31, 0) := rfl
theorem lC_114 : 114 < lu_TC.1 := by decide
theorem kM_0 : lu_TM.2 0 = (11, 0, 0) := rfl
theorem lM_0 : 0 < lu_TM.1 := by decide
theorem kM_1 : lu_TM.2 1 = (0, 368, 0) := rfl
theorem lM_1 : 1 < lu_TM.1 := by decide
theorem kM_2 : lu_TM.2 2 = (0, 368, 0) := rfl
theorem lM_2 : 2 < lu_TM.1 := by decide
theorem kM_3 : lu_TM.2 3 = (0, 368, 0) := rfl
theorem lM_3 : 3 < lu_TM.1 := by decide
theorem kM_4 : lu_TM.2 4 = (0, 200, 0) := rfl
theorem lM_4 : 4 < lu_TM.1 := by decide
theorem kM_5 : lu_TM.2 5 = (0, 64, 0) := rfl
theorem lM_5 : 5 < lu_TM.1 := by decide
theorem kM_6 : lu_TM.2 6 = (0, 64, 0) := rfl
theorem lM_6 : 6 < lu_TM.1 := by decide
theorem kM_7 : lu_TM.2 7 = (0, 60, 0) := rfl
theorem lM_7 : 7 < lu_TM.1 := by decide
theorem kM_8 : lu_TM.2 8 = (0, 4, 0) := rfl
theorem lM_8 : 8 < lu_TM.1 := by decide
theorem kM_9 : lu_TM.2 9 = (0, 4, 0) := rfl
theorem lM_9 : 9 < lu_TM.1 := by decide
theorem kM_10 : lu_TM.2 10 = (0, 12, 0) := rfl
theorem lM_10 : 10 < lu_TM.1 := by decide
theorem kM_11 : lu_TM.2 11 = (0, 200, 0) := rfl
theorem lM_11 : 11 < lu_TM.1 := by decide
theorem kM_12 : lu_TM.2 12 = (0, 4, 0) := rfl
theorem lM_12 : 12 < lu_TM.1 := by decide
theorem kM_13 : lu_TM.2 13 = (0, 4, 0) := rfl
theorem lM_13 : 13 < lu_TM.1 := by decide
theorem kM_14 : lu_TM.2 14 = (0, 160, 0) := rfl
theorem lM_14 : 14 < lu_TM.1 := by decide
theorem kM_15 : lu_TM.2 15 = (0, 4, 0) := rfl
theorem lM_15 : 15 < lu_TM.1 := by decide
theorem kM_16 : lu_TM.2 16 = (0, 4, 0) := rfl
theorem lM_16 : 16 < lu_TM.1 := by decide
theorem kM_17 : lu_TM.2 17 = (0, 4, 0) := rfl
theorem lM_17 : 17 < lu_TM.1 := by decide
theorem kM_18 : lu_TM.2 18 = (0, 30, 0) := rfl
theorem lM_18 : 18 < lu_TM.1 := by decide
theorem koC_5_1 {r : Nat} (hT : lu_TC.2 r = (5, 0, 0)) (hr : r < lu_TC.1) : lu_TC.2 (r + 1) = (1, 6, 0) ∧ r + 1 < lu_TC.1 := (by decide +kernel : ∀ r, r < lu_TC.1 → lu_TC.2 r = (5, 0, 0) → lu_TC.2 (r + 1) = (1, 6, 0) ∧ r + 1 < lu_TC.1) r hr hT
theorem koC_5_8 {r : Nat} (hT : lu_TC.2 r = (5, 0, 0)) (hr : r < lu_TC.1) : lu_TC.2 (r + 8) = (0, 10, 0) ∧ r + 8 < lu_TC.1 := (by decide +kernel : ∀ r, r < lu_TC.1 → lu_TC.2 r = (5, 0, 0) → lu_TC.2 (r + 8) = (0, 10, 0) ∧ r + 8 < lu_TC.1) r hr hT
theorem koC_5_9 {r : Nat} (hT : lu_TC.2 r = (5, 0, 0)) (hr : r < lu_TC.1) : lu_TC.2 (r + 9) = (0, 10, 0) ∧ r + 9 < lu_TC.1 := (by decide +kernel : ∀ r, r < lu_TC.1 → lu_TC.2 r = (5, 0, 0) → lu_TC.2 (r + 9) = (0, 10, 0) ∧ r + 9 < lu_TC.1) r hr hT
theorem koC_5_10 {r : Nat} (hT : lu_TC.2 r = (5, 0, 0)) (hr : r < lu_TC.1) : lu_TC.2 (r + 10) = (0, 10, 0) ∧ r + 10 < lu_TC.1 := (by decide +kernel : ∀ r, r < lu_TC.1 → lu_TC.2 r = (5, 0, 0) → lu_TC.2 (r + 10) = (0, 10, 0) ∧ r + 10 < lu_TC.1) r hr hT
theorem koC_5_11 {r : Nat} (hT : lu_TC.2 r = (5, 0, 0)) (hr : r < lu_TC.1) : lu_TC.2 (r + 11) = (0, 10, 0) ∧ r + 11 < lu_TC.1 := (by decide +kernel : ∀ r, r < lu_TC.1 → lu_TC.2 r = (5, 0, 0) → lu_TC.2 (r + 11) = (0, 10, 0) ∧ r + 11 < lu_TC.1) r hr hT
theorem koC_5_12 {r : Nat} (hT : lu_TC.2 r = (5, 0, 0)) (hr : r < lu_TC.1) : lu_TC.2 (r + 12) = (0, 10, 0) ∧ r + 12 < lu_TC.1 := (by decide +kernel : ∀ r, r < lu_TC.1 → lu_TC.2 r = (5, 0, 0) → lu_TC.2 (r + 12) = (0, 10, 0) ∧ r + 12 < lu_TC.1) r hr hT
theorem koC_5_13 {r : Nat} (hT : lu_TC.2 r = (5, 0, 0)) (hr : r < lu_TC.1) : lu_TC.2 (r + 13) = (0, 6, 0) ∧ r + 13 < lu_TC.1 := (by decide +kernel : ∀ r, r < lu_TC.1 → lu_TC.2 r = (5, 0, 0) → lu_TC.2 (r + 13) = (0, 6, 0) ∧ r + 13 < lu_TC.1) r hr hT
theorem koC_5_14 {r : Nat} (hT : lu_TC.2 r = (5, 0, 0)) (hr : r < lu_TC.1) : lu_TC.2 (r + 14) = (3, 6, 4) ∧ r + 14 < lu_TC.1 := (by decide +kernel : ∀ r, r < lu_TC.1 → lu_TC.2 r = (5, 0, 0) → lu_TC.2 (r + 14) = (3, 6, 4) ∧ r + 14 < lu_TC.1) r hr hT
theorem koC_5_21 {r : Nat} (hT : lu_TC.2 r = (5, 0, 0)) (hr : r < lu_TC.1) : lu_TC.2 (r + 21) = (3, 6, 6) ∧ r + 21 < lu_TC.1 := (by decide +kernel : ∀ r, r < lu_TC.1 → lu_TC.2 r = (5, 0, 0) → lu_TC.2 (r + 21) = (3, 6, 6) ∧ r + 21 < lu_TC.1) r hr hT
theorem koC_5_28 {r : Nat} (hT : lu_TC.2 r = (5, 0, 0)) (hr : r < lu_TC.1) : lu_TC.2 (r + 28) = (6, 0, 0) ∧ r + 28 < lu_TC.1 := (by decide +kernel : ∀ r, r < lu_TC.1 → lu_TC.2 r = (5, 0, 0) → lu_TC.2 (r + 28) = (6, 0, 0) ∧ r + 28 < lu_TC.1) r hr hT
theorem koC_5_29 {r : Nat} (hT : lu_TC.2 r = (5, 0, 0)) (hr : r < lu_TC.1) : lu_TC.2 (r + 29) = (7, 0, 0) ∧ r + 29 < lu_TC.1 := (by decide +kernel : ∀ r, r < lu_TC.1 → lu_TC.2 r = (5, 0, 0) → lu_TC.2 (r + 29) = (7, 0, 0) ∧ r + 29 < lu_TC.1) r hr hT
theorem koC_5_35 {r : Nat} (hT : lu_TC.2 r = (5, 0, 0)) (hr : r < lu_TC.1) : lu_TC.2 (r + 35) = (0, 5, 0) ∧ r + 35 < lu_TC.1 := (by decide +kernel : ∀ r, r < lu_TC.1 → lu_TC.2 r = (5, 0, 0) → lu_TC.2 (r + 35) = (0, 5, 0) ∧ r + 35 < lu_TC.1) r hr hT
theorem koC_7_1 {r : Nat} (hT : lu_TC.2 r = (7, 0, 0)) (hr : r < lu_TC.1) : lu_TC.2 (r + 1) = (0, 8, 0) ∧ r + 1 < lu_TC.1 := (by decide +kernel : ∀ r, r < lu_TC.1 → lu_TC.2 r = (7, 0, 0) → lu_TC.2 (r + 1) = (0, 8, 0) ∧ r + 1 < lu_TC.1) r hr hT
theorem koC_7_2 {r : Nat} (hT : lu_TC.2 r = (7, 0, 0)) (hr : r < lu_TC.1) : lu_TC.2 (r + 2) = (0, 8, 0) ∧ r + 2 < lu_TC.1 := (by decide +kernel : ∀ r, r < lu_TC.1 → lu_TC.2 r = (7, 0, 0) → lu_TC.2 (r + 2) = (0, 8, 0) ∧ r + 2 < lu_TC.1) r hr hT
theorem koC_7_3 {r : Nat} (hT : lu_TC.2 r = (7, 0, 0)) (hr : r < lu_TC.1) : lu_TC.2 (r + 3) = (0, 8, 0) ∧ r + 3 < lu_TC.1 := (by decide +kernel : ∀ r, r < lu_TC.1 → lu_TC.2 r = (7, 0, 0) → lu_TC.2 (r + 3) = (0, 8, 0) ∧ r + 3 < lu_TC.1) r hr hT
theorem koC_7_4 {r : Nat} (hT : lu_TC.2 r = (7, 0, 0)) (hr : r < lu_TC.1) : lu_TC.2 (r + 4) = (0, 8, 0) ∧ r + 4 < lu_TC.1 := (by decide +kernel : ∀ r, r < lu_TC.1 → lu_TC.2 r = (7, 0, 0) → lu_TC.2 (r + 4) = (0, 8, 0) ∧ r + 4 < lu_TC.1) r hr hT
theorem koC_7_5 {r : Nat} (hT : lu_TC.2 r = (7, 0, 0)) (hr : r < lu_TC.1) : lu_TC.2 (r + 5) = (0, 200, 0) ∧ r + 5 < lu_TC.1 := (by decide +kernel : ∀ r, r < lu_TC.1 → lu_TC.2 r = (7, 0, 0) → lu_TC.2 (r + 5) = (0, 200, 0) ∧ r + 5 < lu_TC.1) r hr hT
theorem kaC_1_6_0 {r : Nat} {i : Int32} (hT : lu_TC.2 r = (1, 6, 0)) (hr : r < lu_TC.1) (g : lu_ib i 6 = true) : lu_TC.2 (r + 1 + i.toNatClampNeg) = (10, 0, 0) ∧ r + 1 + i.toNatClampNeg < lu_TC.1 := by
  have h : (List.range lu_TC.1).all (fun r => (List.range 6).all fun i => !(decide (lu_TC.2 r = (1, 6, 0))) || (decide (lu_TC.2 (r + 1 + i) = (10, 0, 0)) && decide (r + 1 + i < lu_TC.1))) = true := by decide +kernel
  have h1 := List.all_eq_true.mp h r (List.mem_range.mpr hr)
  have h2 := List.all_eq_true.mp h1 _ (List.mem_range.mpr (lu_ib_lt g))
  rw [hT] at h2
  simp only [decide_true, Bool.not_true, Bool.false_or, Bool.and_eq_true, decide_eq_true_eq] at h2
  exact h2
theorem kaC_2_5_0 {r : Nat} {i : Int32} (hT : lu_TC.2 r = (2, 5, 0)) (hr : r < lu_TC.1) (g : lu_ib i 5 = true) : lu_TC.2 (r + 1 + i.toNatClampNeg) = (6, 0, 0) ∧ r + 1 + i.toNatClampNeg < lu_TC.1 := by
  have h : (List.range lu_TC.1).all (fun r => (List.range 5).all fun i => !(decide (lu_TC.2 r = (2, 5, 0))) || (decide (lu_TC.2 (r + 1 + i) = (6, 0, 0)) && decide (r + 1 + i < lu_TC.1))) = true := by decide +kernel
  have h1 := List.all_eq_true.mp h r (List.mem_range.mpr hr)
  have h2 := List.all_eq_true.mp h1 _ (List.mem_range.mpr (lu_ib_lt g))
  rw [hT] at h2
  simp only [decide_true, Bool.not_true, Bool.false_or, Bool.and_eq_true, decide_eq_true_eq] at h2
  exact h2
theorem kaC_3_4_3 {r : Nat} {i : Int32} (hT : lu_TC.2 r = (3, 4, 3)) (hr : r < lu_TC.1) (g : lu_ib i 4 = true) : lu_TC.2 (r + 1 + i.toNatClampNeg) = (0, 3, 0) ∧ r + 1 + i.toNatClampNeg < lu_TC.1 := by
  have h : (List.range lu_TC.1).all (fun r => (List.range 4).all fun i => !(decide (lu_TC.2 r = (3, 4, 3))) || (decide (lu_TC.2 (r + 1 + i) = (0, 3, 0)) && decide (r + 1 + i < lu_TC.1))) = true := by decide +kernel
  have h1 := List.all_eq_true.mp h r (List.mem_range.mpr hr)
  have h2 := List.all_eq_true.mp h1 _ (List.mem_range.mpr (lu_ib_lt g))
  rw [hT] at h2
  simp only [decide_true, Bool.not_true, Bool.false_or, Bool.and_eq_true, decide_eq_true_eq] at h2
  exact h2
theorem kaC_3_4_40 {r : Nat} {i : Int32} (hT : lu_TC.2 r = (3, 4, 40)) (hr : r < lu_TC.1) (g : lu_ib i 4 = true) : lu_TC.2 (r + 1 + i.toNatClampNeg) = (0, 40, 0) ∧ r + 1 + i.toNatClampNeg < lu_TC.1 := by
  have h : (List.range lu_TC.1).all (fun r => (List.range 4).all fun i => !(decide (lu_TC.2 r = (3, 4, 40))) || (decide (lu_TC.2 (r + 1 + i) = (0, 40, 0)) && decide (r + 1 + i < lu_TC.1))) = true := by decide +kernel
  have h1 := List.all_eq_true.mp h r (List.mem_range.mpr hr)
  have h2 := List.all_eq_true.mp h1 _ (List.mem_range.mpr (lu_ib_lt g))
  rw [hT] at h2
  simp only [decide_true, Bool.not_true, Bool.false_or, Bool.and_eq_true, decide_eq_true_eq] at h2
  exact h2
theorem kaC_3_6_4 {r : Nat} {i : Int32} (hT : lu_TC.2 r = (3, 6, 4)) (hr : r < lu_TC.1) (g : lu_ib i 6 = true) : lu_TC.2 (r + 1 + i.toNatClampNeg) = (0, 4, 0) ∧ r + 1 + i.toNatClampNeg < lu_TC.1 := by
  have h : (List.range lu_TC.1).all (fun r => (List.range 6).all fun i => !(decide (lu_TC.2 r = (3, 6, 4))) || (decide (lu_TC.2 (r + 1 + i) = (0, 4, 0)) && decide (r + 1 + i < lu_TC.1))) = true := by decide +kernel
  have h1 := List.all_eq_true.mp h r (List.mem_range.mpr hr)
  have h2 := List.all_eq_true.mp h1 _ (List.mem_range.mpr (lu_ib_lt g))
  rw [hT] at h2
  simp only [decide_true, Bool.not_true, Bool.false_or, Bool.and_eq_true, decide_eq_true_eq] at h2
  exact h2
theorem kaC_3_6_6 {r : Nat} {i : Int32} (hT : lu_TC.2 r = (3, 6, 6)) (hr : r < lu_TC.1) (g : lu_ib i 6 = true) : lu_TC.2 (r + 1 + i.toNatClampNeg) = (0, 6, 0) ∧ r + 1 + i.toNatClampNeg < lu_TC.1 := by
  have h : (List.range lu_TC.1).all (fun r => (List.range 6).all fun i => !(decide (lu_TC.2 r = (3, 6, 6))) || (decide (lu_TC.2 (r + 1 + i) = (0, 6, 0)) && decide (r + 1 + i < lu_TC.1))) = true := by decide +kernel
  have h1 := List.all_eq_true.mp h r (List.mem_range.mpr hr)
  have h2 := List.all_eq_true.mp h1 _ (List.mem_range.mpr (lu_ib_lt g))
  rw [hT] at h2
  simp only [decide_true, Bool.not_true, Bool.false_or, Bool.and_eq_true, decide_eq_true_eq] at h2
  exact h2
theorem ic_m1 : Int32.ofInt (-1) = (-1 : Int32) := by decide
theorem ic_0 : Int32.ofInt (0) = (0 : Int32) := by decide
theorem ic_1 : Int32.ofInt (1) = (1 : Int32) := by decide
theorem ic_2 : Int32.ofInt (2) = (2 : Int32) := by decide
theorem ic_3 : Int32.ofInt (3) = (3 : Int32) := by decide
theorem ic_4 : Int32.ofInt (4) = (4 : Int32) := by decide
theorem ic_5 : Int32.ofInt (5) = (5 : Int32) := by decide
theorem ic_64 : Int32.ofInt (64) = (64 : Int32) := by decide
theorem bp_m100 : (Int8.ofInt (-100)).toInt32 = (-100 : Int32) := by decide
theorem bp_m22 : (Int8.ofInt (-22)).toInt32 = (-22 : Int32) := by decide
theorem bp_m21 : (Int8.ofInt (-21)).toInt32 = (-21 : Int32) := by decide
theorem bp_m20 : (Int8.ofInt (-20)).toInt32 = (-20 : Int32) := by decide
theorem bp_m15 : (Int8.ofInt (-15)).toInt32 = (-15 : Int32) := by decide
theorem bp_m14 : (Int8.ofInt (-14)).toInt32 = (-14 : Int32) := by decide
theorem bp_m13 : (Int8.ofInt (-13)).toInt32 = (-13 : Int32) := by decide
theorem bp_m12 : (Int8.ofInt (-12)).toInt32 = (-12 : Int32) := by decide
theorem bp_m11 : (Int8.ofInt (-11)).toInt32 = (-11 : Int32) := by decide
theorem bp_m10 : (Int8.ofInt (-10)).toInt32 = (-10 : Int32) := by decide
theorem bp_m9 : (Int8.ofInt (-9)).toInt32 = (-9 : Int32) := by decide
theorem bp_m5 : (Int8.ofInt (-5)).toInt32 = (-5 : Int32) := by decide
theorem bp_m4 : (Int8.ofInt (-4)).toInt32 = (-4 : Int32) := by decide
theorem bp_m3 : (Int8.ofInt (-3)).toInt32 = (-3 : Int32) := by decide
theorem bp_m2 : (Int8.ofInt (-2)).toInt32 = (-2 : Int32) := by decide
theorem bp_6 : (Int8.ofInt (6)).toInt32 = (6 : Int32) := by decide
theorem bp_7 : (Int8.ofInt (7)).toInt32 = (7 : Int32) := by decide
theorem bp_8 : (Int8.ofInt (8)).toInt32 = (8 : Int32) := by decide
theorem bp_9 : (Int8.ofInt (9)).toInt32 = (9 : Int32) := by decide
theorem bp_10 : (Int8.ofInt (10)).toInt32 = (10 : Int32) := by decide
theorem bp_11 : (Int8.ofInt (11)).toInt32 = (11 : Int32) := by decide
theorem bp_12 : (Int8.ofInt (12)).toInt32 = (12 : Int32) := by decide
theorem bp_13 : (Int8.ofInt (13)).toInt32 = (13 : Int32) := by decide
theorem bp_14 : (Int8.ofInt (14)).toInt32 = (14 : Int32) := by decide
theorem bp_15 : (Int8.ofInt (15)).toInt32 = (15 : Int32) := by decide
theorem bp_16 : (Int8.ofInt (16)).toInt32 = (16 : Int32) := by decide
theorem bp_20 : (Int8.ofInt (20)).toInt32 = (20 : Int32) := by decide
theorem bp_26 : (Int8.ofInt (26)).toInt32 = (26 : Int32) := by decide
theorem bp_28 : (Int8.ofInt (28)).toInt32 = (28 : Int32) := by decide
theorem bp_30 : (Int8.ofInt (30)).toInt32 = (30 : Int32) := by decide
theorem bp_31 : (Int8.ofInt (31)).toInt32 = (31 : Int32) := by decide
theorem bp_32 : (Int8.ofInt (32)).toInt32 = (32 : Int32) := by decide
theorem bp_36 : (Int8.ofInt (36)).toInt32 = (36 : Int32) := by decide
theorem bp_40 : (Int8.ofInt (40)).toInt32 = (40 : Int32) := by decide
theorem bp_41 : (Int8.ofInt (41)).toInt32 = (41 : Int32) := by decide
theorem bp_48 : (Int8.ofInt (48)).toInt32 = (48 : Int32) := by decide
theorem bp_50 : (Int8.ofInt (50)).toInt32 = (50 : Int32) := by decide
theorem bp_51 : (Int8.ofInt (51)).toInt32 = (51 : Int32) := by decide
theorem bp_57 : (Int8.ofInt (57)).toInt32 = (57 : Int32) := by decide
theorem bp_59 : (Int8.ofInt (59)).toInt32 = (59 : Int32) := by decide
theorem bp_60 : (Int8.ofInt (60)).toInt32 = (60 : Int32) := by decide
theorem bp_61 : (Int8.ofInt (61)).toInt32 = (61 : Int32) := by decide
theorem bp_62 : (Int8.ofInt (62)).toInt32 = (62 : Int32) := by decide
theorem bp_64 : (Int8.ofInt (64)).toInt32 = (64 : Int32) := by decide
theorem bp_76 : (Int8.ofInt (76)).toInt32 = (76 : Int32) := by decide
theorem bp_81 : (Int8.ofInt (81)).toInt32 = (81 : Int32) := by decide
theorem bp_96 : (Int8.ofInt (96)).toInt32 = (96 : Int32) := by decide
theorem bp_97 : (Int8.ofInt (97)).toInt32 = (97 : Int32) := by decide
theorem bp_99 : (Int8.ofInt (99)).toInt32 = (99 : Int32) := by decide
theorem bp_112 : (Int8.ofInt (112)).toInt32 = (112 : Int32) := by decide
theorem bp_122 : (Int8.ofInt (122)).toInt32 = (122 : Int32) := by decide
theorem sp_136 : (Int16.ofInt (136)).toInt32 = (136 : Int32) := by decide
theorem sp_168 : (Int16.ofInt (168)).toInt32 = (168 : Int32) := by decide
theorem sp_200 : (Int16.ofInt (200)).toInt32 = (200 : Int32) := by decide
theorem sp_255 : (Int16.ofInt (255)).toInt32 = (255 : Int32) := by decide
theorem sp_368 : (Int16.ofInt (368)).toInt32 = (368 : Int32) := by decide
theorem sp_405 : (Int16.ofInt (405)).toInt32 = (405 : Int32) := by decide
theorem sp_999 : (Int16.ofInt (999)).toInt32 = (999 : Int32) := by decide
theorem sp_9999 : (Int16.ofInt (9999)).toInt32 = (9999 : Int32) := by decide
theorem sp_10000 : (Int16.ofInt (10000)).toInt32 = (10000 : Int32) := by decide
theorem sp_10001 : (Int16.ofInt (10001)).toInt32 = (10001 : Int32) := by decide
theorem sp_10002 : (Int16.ofInt (10002)).toInt32 = (10002 : Int32) := by decide
theorem sp_10003 : (Int16.ofInt (10003)).toInt32 = (10003 : Int32) := by decide
theorem sp_10004 : (Int16.ofInt (10004)).toInt32 = (10004 : Int32) := by decide
theorem sp_12345 : (Int16.ofInt (12345)).toInt32 = (12345 : Int32) := by decide
theorem sp_16383 : (Int16.ofInt (16383)).toInt32 = (16383 : Int32) := by decide
theorem fl0_20 : lu_FL RX0 20 10 1 := ⟨by decide, by decide, by decide, "LeftUndoes$Clasped", qfl0_20, Or.inr qf_fl0_20_number⟩
theorem fl10_101 : lu_FL RX10 101 6 0 := ⟨by decide, by decide, by decide, "LeftUndoes$Course", qfl10_101, Or.inl rfl⟩
theorem fl10_108 : lu_FL RX10 108 6 1 := ⟨by decide, by decide, by decide, "LeftUndoes$Course", qfl10_108, Or.inl rfl⟩
theorem fl10_11 : lu_FL RX10 11 5 1 := ⟨by decide, by decide, by decide, "LeftUndoes$World", qfl10_11, Or.inl rfl⟩
theorem fl10_119 : lu_FL RX10 119 7 0 := ⟨by decide, by decide, by decide, "LeftUndoes$Rules", qfl10_119, Or.inl rfl⟩
theorem fl10_123 : lu_FL RX10 123 7 1 := ⟨by decide, by decide, by decide, "LeftUndoes$Rules", qfl10_123, Or.inl rfl⟩
theorem fl10_133 : lu_FL RX10 133 7 2 := ⟨by decide, by decide, by decide, "LeftUndoes$Rules", qfl10_133, Or.inl rfl⟩
theorem fl10_136 : lu_FL RX10 136 7 3 := ⟨by decide, by decide, by decide, "LeftUndoes$Rules", qfl10_136, Or.inl rfl⟩
theorem fl10_153 : lu_FL RX10 153 6 5 := ⟨by decide, by decide, by decide, "LeftUndoes$Course", qfl10_153, Or.inl rfl⟩
theorem fl10_159 : lu_FL RX10 159 6 4 := ⟨by decide, by decide, by decide, "LeftUndoes$Course", qfl10_159, Or.inl rfl⟩
theorem fl10_162 : lu_FL RX10 162 6 2 := ⟨by decide, by decide, by decide, "LeftUndoes$Course", qfl10_162, Or.inl rfl⟩
theorem fl10_168 : lu_FL RX10 168 6 3 := ⟨by decide, by decide, by decide, "LeftUndoes$Course", qfl10_168, Or.inl rfl⟩
theorem fl10_21 : lu_FL RX10 21 5 3 := ⟨by decide, by decide, by decide, "LeftUndoes$World", qfl10_21, Or.inl rfl⟩
theorem fl10_25 : lu_FL RX10 25 5 4 := ⟨by decide, by decide, by decide, "LeftUndoes$World", qfl10_25, Or.inl rfl⟩
theorem fl10_28 : lu_FL RX10 28 5 5 := ⟨by decide, by decide, by decide, "LeftUndoes$World", qfl10_28, Or.inl rfl⟩
theorem fl10_31 : lu_FL RX10 31 5 6 := ⟨by decide, by decide, by decide, "LeftUndoes$World", qfl10_31, Or.inl rfl⟩
theorem fl10_34 : lu_FL RX10 34 5 7 := ⟨by decide, by decide, by decide, "LeftUndoes$World", qfl10_34, Or.inl rfl⟩
theorem fl10_37 : lu_FL RX10 37 5 8 := ⟨by decide, by decide, by decide, "LeftUndoes$World", qfl10_37, Or.inl rfl⟩
theorem fl10_40 : lu_FL RX10 40 5 9 := ⟨by decide, by decide, by decide, "LeftUndoes$World", qfl10_40, Or.inl rfl⟩
theorem fl10_44 : lu_FL RX10 44 5 10 := ⟨by decide, by decide, by decide, "LeftUndoes$World", qfl10_44, Or.inl rfl⟩
theorem fl10_49 : lu_FL RX10 49 5 12 := ⟨by decide, by decide, by decide, "LeftUndoes$World", qfl10_49, Or.inl rfl⟩
theorem fl10_52 : lu_FL RX10 52 5 13 := ⟨by decide, by decide, by decide, "LeftUndoes$World", qfl10_52, Or.inl rfl⟩
theorem fl10_58 : lu_FL RX10 58 5 14 := ⟨by decide, by decide, by decide, "LeftUndoes$World", qfl10_58, Or.inl rfl⟩
theorem fl10_65 : lu_FL RX10 65 5 15 := ⟨by decide, by decide, by decide, "LeftUndoes$World", qfl10_65, Or.inl rfl⟩
theorem fl10_69 : lu_FL RX10 69 5 16 := ⟨by decide, by decide, by decide, "LeftUndoes$World", qfl10_69, Or.inl rfl⟩
theorem fl10_72 : lu_FL RX10 72 5 0 := ⟨by decide, by decide, by decide, "LeftUndoes$World", qfl10_72, Or.inl rfl⟩
theorem fl10_75 : lu_FL RX10 75 10 0 := ⟨by decide, by decide, by decide, "LeftUndoes$Hand", qfl10_75, Or.inl rfl⟩
theorem fl10_78 : lu_FL RX10 78 10 2 := ⟨by decide, by decide, by decide, "LeftUndoes$Hand", qfl10_78, Or.inl rfl⟩
theorem fl10_81 : lu_FL RX10 81 10 3 := ⟨by decide, by decide, by decide, "LeftUndoes$Hand", qfl10_81, Or.inl rfl⟩
theorem fl10_84 : lu_FL RX10 84 5 2 := ⟨by decide, by decide, by decide, "LeftUndoes$World", qfl10_84, Or.inl rfl⟩
theorem fl10_87 : lu_FL RX10 87 5 11 := ⟨by decide, by decide, by decide, "LeftUndoes$World", qfl10_87, Or.inl rfl⟩
theorem fl11_106 : lu_FL RX11 106 10 0 := ⟨by decide, by decide, by decide, "LeftUndoes$Hand", qfl11_106, Or.inl rfl⟩
theorem fl11_109 : lu_FL RX11 109 10 2 := ⟨by decide, by decide, by decide, "LeftUndoes$Hand", qfl11_109, Or.inl rfl⟩
theorem fl11_112 : lu_FL RX11 112 10 3 := ⟨by decide, by decide, by decide, "LeftUndoes$Hand", qfl11_112, Or.inl rfl⟩
theorem fl11_115 : lu_FL RX11 115 5 14 := ⟨by decide, by decide, by decide, "LeftUndoes$World", qfl11_115, Or.inl rfl⟩
theorem fl11_122 : lu_FL RX11 122 6 0 := ⟨by decide, by decide, by decide, "LeftUndoes$Course", qfl11_122, Or.inl rfl⟩
theorem fl11_138 : lu_FL RX11 138 5 2 := ⟨by decide, by decide, by decide, "LeftUndoes$World", qfl11_138, Or.inl rfl⟩
theorem fl11_141 : lu_FL RX11 141 5 3 := ⟨by decide, by decide, by decide, "LeftUndoes$World", qfl11_141, Or.inl rfl⟩
theorem fl11_144 : lu_FL RX11 144 5 4 := ⟨by decide, by decide, by decide, "LeftUndoes$World", qfl11_144, Or.inl rfl⟩
theorem fl11_147 : lu_FL RX11 147 5 5 := ⟨by decide, by decide, by decide, "LeftUndoes$World", qfl11_147, Or.inl rfl⟩
theorem fl11_150 : lu_FL RX11 150 5 6 := ⟨by decide, by decide, by decide, "LeftUndoes$World", qfl11_150, Or.inl rfl⟩
theorem fl11_156 : lu_FL RX11 156 5 7 := ⟨by decide, by decide, by decide, "LeftUndoes$World", qfl11_156, Or.inl rfl⟩
theorem fl11_159 : lu_FL RX11 159 5 9 := ⟨by decide, by decide, by decide, "LeftUndoes$World", qfl11_159, Or.inl rfl⟩
theorem fl11_165 : lu_FL RX11 165 6 5 := ⟨by decide, by decide, by decide, "LeftUndoes$Course", qfl11_165, Or.inl rfl⟩
theorem fl11_172 : lu_FL RX11 172 9 1 := ⟨by decide, by decide, by decide, "LeftUndoes$Teller", qfl11_172, Or.inl rfl⟩
theorem fl11_175 : lu_FL RX11 175 9 0 := ⟨by decide, by decide, by decide, "LeftUndoes$Teller", qfl11_175, Or.inl rfl⟩
theorem fl11_18 : lu_FL RX11 18 4 0 := ⟨by decide, by decide, by decide, "LeftUndoes", qfl11_18, Or.inl rfl⟩
theorem fl11_182 : lu_FL RX11 182 5 15 := ⟨by decide, by decide, by decide, "LeftUndoes$World", qfl11_182, Or.inl rfl⟩
theorem fl11_186 : lu_FL RX11 186 9 2 := ⟨by decide, by decide, by decide, "LeftUndoes$Teller", qfl11_186, Or.inl rfl⟩
theorem fl11_22 : lu_FL RX11 22 4 1 := ⟨by decide, by decide, by decide, "LeftUndoes", qfl11_22, Or.inl rfl⟩
theorem fl11_220 : lu_FL RX11 220 6 3 := ⟨by decide, by decide, by decide, "LeftUndoes$Course", qfl11_220, Or.inl rfl⟩
theorem fl11_223 : lu_FL RX11 223 5 13 := ⟨by decide, by decide, by decide, "LeftUndoes$World", qfl11_223, Or.inl rfl⟩
theorem fl11_242 : lu_FL RX11 242 8 5 := ⟨by decide, by decide, by decide, "LeftUndoes$Plans", qfl11_242, Or.inl rfl⟩
theorem fl11_245 : lu_FL RX11 245 8 4 := ⟨by decide, by decide, by decide, "LeftUndoes$Plans", qfl11_245, Or.inl rfl⟩
theorem fl11_246 : lu_FL RX11 246 8 7 := ⟨by decide, by decide, by decide, "LeftUndoes$Plans", qfl11_246, Or.inl rfl⟩
theorem fl11_249 : lu_FL RX11 249 8 6 := ⟨by decide, by decide, by decide, "LeftUndoes$Plans", qfl11_249, Or.inl rfl⟩
theorem fl11_25 : lu_FL RX11 25 4 2 := ⟨by decide, by decide, by decide, "LeftUndoes", qfl11_25, Or.inl rfl⟩
theorem fl11_255 : lu_FL RX11 255 8 8 := ⟨by decide, by decide, by decide, "LeftUndoes$Plans", qfl11_255, Or.inl rfl⟩
theorem fl11_258 : lu_FL RX11 258 8 9 := ⟨by decide, by decide, by decide, "LeftUndoes$Plans", qfl11_258, Or.inl rfl⟩
theorem fl11_264 : lu_FL RX11 264 8 10 := ⟨by decide, by decide, by decide, "LeftUndoes$Plans", qfl11_264, Or.inl rfl⟩
theorem fl11_267 : lu_FL RX11 267 5 11 := ⟨by decide, by decide, by decide, "LeftUndoes$World", qfl11_267, Or.inl rfl⟩
theorem fl11_270 : lu_FL RX11 270 5 12 := ⟨by decide, by decide, by decide, "LeftUndoes$World", qfl11_270, Or.inl rfl⟩
theorem fl11_281 : lu_FL RX11 281 5 10 := ⟨by decide, by decide, by decide, "LeftUndoes$World", qfl11_281, Or.inl rfl⟩
theorem fl11_287 : lu_FL RX11 287 6 1 := ⟨by decide, by decide, by decide, "LeftUndoes$Course", qfl11_287, Or.inl rfl⟩
theorem fl11_306 : lu_FL RX11 306 10 4 := ⟨by decide, by decide, by decide, "LeftUndoes$Hand", qfl11_306, Or.inl rfl⟩
theorem fl11_32 : lu_FL RX11 32 4 3 := ⟨by decide, by decide, by decide, "LeftUndoes", qfl11_32, Or.inl rfl⟩
theorem fl11_321 : lu_FL RX11 321 7 0 := ⟨by decide, by decide, by decide, "LeftUndoes$Rules", qfl11_321, Or.inl rfl⟩
theorem fl11_41 : lu_FL RX11 41 4 4 := ⟨by decide, by decide, by decide, "LeftUndoes", qfl11_41, Or.inl rfl⟩
theorem fl11_48 : lu_FL RX11 48 4 5 := ⟨by decide, by decide, by decide, "LeftUndoes", qfl11_48, Or.inl rfl⟩
theorem fl11_54 : lu_FL RX11 54 4 6 := ⟨by decide, by decide, by decide, "LeftUndoes", qfl11_54, Or.inl rfl⟩
theorem fl11_62 : lu_FL RX11 62 4 7 := ⟨by decide, by decide, by decide, "LeftUndoes", qfl11_62, Or.inl rfl⟩
theorem fl11_67 : lu_FL RX11 67 4 8 := ⟨by decide, by decide, by decide, "LeftUndoes", qfl11_67, Or.inl rfl⟩
theorem fl11_70 : lu_FL RX11 70 4 9 := ⟨by decide, by decide, by decide, "LeftUndoes", qfl11_70, Or.inl rfl⟩
theorem fl11_74 : lu_FL RX11 74 4 10 := ⟨by decide, by decide, by decide, "LeftUndoes", qfl11_74, Or.inl rfl⟩
theorem fl11_77 : lu_FL RX11 77 4 11 := ⟨by decide, by decide, by decide, "LeftUndoes", qfl11_77, Or.inl rfl⟩
theorem fl11_80 : lu_FL RX11 80 4 12 := ⟨by decide, by decide, by decide, "LeftUndoes", qfl11_80, Or.inl rfl⟩
theorem fl11_83 : lu_FL RX11 83 4 13 := ⟨by decide, by decide, by decide, "LeftUndoes", qfl11_83, Or.inl rfl⟩
theorem fl11_86 : lu_FL RX11 86 4 14 := ⟨by decide, by decide, by decide, "LeftUndoes", qfl11_86, Or.inl rfl⟩
theorem fl11_89 : lu_FL RX11 89 4 15 := ⟨by decide, by decide, by decide, "LeftUndoes", qfl11_89, Or.inl rfl⟩
theorem fl11_9 : lu_FL RX11 9 4 16 := ⟨by decide, by decide, by decide, "LeftUndoes", qfl11_9, Or.inl rfl⟩
theorem fl11_96 : lu_FL RX11 96 5 0 := ⟨by decide, by decide, by decide, "LeftUndoes$World", qfl11_96, Or.inl rfl⟩
theorem fl11_99 : lu_FL RX11 99 5 1 := ⟨by decide, by decide, by decide, "LeftUndoes$World", qfl11_99, Or.inl rfl⟩
theorem fl12_13 : lu_FL RX12 13 11 1 := ⟨by decide, by decide, by decide, "LeftUndoesModel", qfl12_13, Or.inl rfl⟩
theorem fl12_16 : lu_FL RX12 16 11 2 := ⟨by decide, by decide, by decide, "LeftUndoesModel", qfl12_16, Or.inl rfl⟩
theorem fl12_181 : lu_FL RX12 181 11 10 := ⟨by decide, by decide, by decide, "LeftUndoesModel", qfl12_181, Or.inl rfl⟩
theorem fl12_185 : lu_FL RX12 185 11 11 := ⟨by decide, by decide, by decide, "LeftUndoesModel", qfl12_185, Or.inl rfl⟩
theorem fl12_188 : lu_FL RX12 188 11 13 := ⟨by decide, by decide, by decide, "LeftUndoesModel", qfl12_188, Or.inl rfl⟩
theorem fl12_19 : lu_FL RX12 19 11 4 := ⟨by decide, by decide, by decide, "LeftUndoesModel", qfl12_19, Or.inl rfl⟩
theorem fl12_191 : lu_FL RX12 191 11 14 := ⟨by decide, by decide, by decide, "LeftUndoesModel", qfl12_191, Or.inl rfl⟩
theorem fl12_194 : lu_FL RX12 194 11 12 := ⟨by decide, by decide, by decide, "LeftUndoesModel", qfl12_194, Or.inl rfl⟩
theorem fl12_22 : lu_FL RX12 22 11 5 := ⟨by decide, by decide, by decide, "LeftUndoesModel", qfl12_22, Or.inl rfl⟩
theorem fl12_229 : lu_FL RX12 229 11 15 := ⟨by decide, by decide, by decide, "LeftUndoesModel", qfl12_229, Or.inl rfl⟩
theorem fl12_238 : lu_FL RX12 238 11 16 := ⟨by decide, by decide, by decide, "LeftUndoesModel", qfl12_238, Or.inl rfl⟩
theorem fl12_244 : lu_FL RX12 244 11 17 := ⟨by decide, by decide, by decide, "LeftUndoesModel", qfl12_244, Or.inl rfl⟩
theorem fl12_247 : lu_FL RX12 247 11 18 := ⟨by decide, by decide, by decide, "LeftUndoesModel", qfl12_247, Or.inl rfl⟩
theorem fl12_25 : lu_FL RX12 25 11 6 := ⟨by decide, by decide, by decide, "LeftUndoesModel", qfl12_25, Or.inl rfl⟩
theorem fl12_250 : lu_FL RX12 250 11 19 := ⟨by decide, by decide, by decide, "LeftUndoesModel", qfl12_250, Or.inl rfl⟩
theorem fl12_264 : lu_FL RX12 264 11 21 := ⟨by decide, by decide, by decide, "LeftUndoesModel", qfl12_264, Or.inl rfl⟩
theorem fl12_275 : lu_FL RX12 275 11 23 := ⟨by decide, by decide, by decide, "LeftUndoesModel", qfl12_275, Or.inl rfl⟩
theorem fl12_28 : lu_FL RX12 28 11 7 := ⟨by decide, by decide, by decide, "LeftUndoesModel", qfl12_28, Or.inl rfl⟩
theorem fl12_288 : lu_FL RX12 288 11 25 := ⟨by decide, by decide, by decide, "LeftUndoesModel", qfl12_288, Or.inl rfl⟩
theorem fl12_291 : lu_FL RX12 291 11 24 := ⟨by decide, by decide, by decide, "LeftUndoesModel", qfl12_291, Or.inl rfl⟩
theorem fl12_303 : lu_FL RX12 303 11 29 := ⟨by decide, by decide, by decide, "LeftUndoesModel", qfl12_303, Or.inl rfl⟩
theorem fl12_31 : lu_FL RX12 31 11 8 := ⟨by decide, by decide, by decide, "LeftUndoesModel", qfl12_31, Or.inl rfl⟩
theorem fl12_314 : lu_FL RX12 314 11 26 := ⟨by decide, by decide, by decide, "LeftUndoesModel", qfl12_314, Or.inl rfl⟩
theorem fl12_34 : lu_FL RX12 34 11 9 := ⟨by decide, by decide, by decide, "LeftUndoesModel", qfl12_34, Or.inl rfl⟩
theorem fl12_347 : lu_FL RX12 347 11 28 := ⟨by decide, by decide, by decide, "LeftUndoesModel", qfl12_347, Or.inl rfl⟩
theorem fl12_364 : lu_FL RX12 364 11 27 := ⟨by decide, by decide, by decide, "LeftUndoesModel", qfl12_364, Or.inl rfl⟩
theorem fl12_37 : lu_FL RX12 37 11 20 := ⟨by decide, by decide, by decide, "LeftUndoesModel", qfl12_37, Or.inl rfl⟩
theorem fl12_40 : lu_FL RX12 40 11 22 := ⟨by decide, by decide, by decide, "LeftUndoesModel", qfl12_40, Or.inl rfl⟩
theorem fl12_424 : lu_FL RX12 424 11 41 := ⟨by decide, by decide, by decide, "LeftUndoesModel", qfl12_424, Or.inl rfl⟩
theorem fl12_427 : lu_FL RX12 427 11 37 := ⟨by decide, by decide, by decide, "LeftUndoesModel", qfl12_427, Or.inl rfl⟩
theorem fl12_43 : lu_FL RX12 43 11 30 := ⟨by decide, by decide, by decide, "LeftUndoesModel", qfl12_43, Or.inl rfl⟩
theorem fl12_430 : lu_FL RX12 430 11 40 := ⟨by decide, by decide, by decide, "LeftUndoesModel", qfl12_430, Or.inl rfl⟩
theorem fl12_436 : lu_FL RX12 436 11 39 := ⟨by decide, by decide, by decide, "LeftUndoesModel", qfl12_436, Or.inl rfl⟩
theorem fl12_439 : lu_FL RX12 439 11 38 := ⟨by decide, by decide, by decide, "LeftUndoesModel", qfl12_439, Or.inl rfl⟩
theorem fl12_46 : lu_FL RX12 46 11 31 := ⟨by decide, by decide, by decide, "LeftUndoesModel", qfl12_46, Or.inl rfl⟩
theorem fl12_463 : lu_FL RX12 463 11 3 := ⟨by decide, by decide, by decide, "LeftUndoesModel", qfl12_463, Or.inl rfl⟩
theorem fl12_49 : lu_FL RX12 49 11 32 := ⟨by decide, by decide, by decide, "LeftUndoesModel", qfl12_49, Or.inl rfl⟩
theorem fl12_52 : lu_FL RX12 52 11 33 := ⟨by decide, by decide, by decide, "LeftUndoesModel", qfl12_52, Or.inl rfl⟩
theorem fl12_55 : lu_FL RX12 55 11 34 := ⟨by decide, by decide, by decide, "LeftUndoesModel", qfl12_55, Or.inl rfl⟩
theorem fl12_58 : lu_FL RX12 58 11 35 := ⟨by decide, by decide, by decide, "LeftUndoesModel", qfl12_58, Or.inl rfl⟩
theorem fl12_61 : lu_FL RX12 61 11 36 := ⟨by decide, by decide, by decide, "LeftUndoesModel", qfl12_61, Or.inl rfl⟩
theorem fl12_7 : lu_FL RX12 7 11 0 := ⟨by decide, by decide, by decide, "LeftUndoesModel", qfl12_7, Or.inl rfl⟩
theorem fl1_15 : lu_FL RX1 15 6 1 := ⟨by decide, by decide, by decide, "LeftUndoes$Course", qfl1_15, Or.inl rfl⟩
theorem fl1_18 : lu_FL RX1 18 6 2 := ⟨by decide, by decide, by decide, "LeftUndoes$Course", qfl1_18, Or.inl rfl⟩
theorem fl1_21 : lu_FL RX1 21 6 3 := ⟨by decide, by decide, by decide, "LeftUndoes$Course", qfl1_21, Or.inl rfl⟩
theorem fl1_24 : lu_FL RX1 24 6 4 := ⟨by decide, by decide, by decide, "LeftUndoes$Course", qfl1_24, Or.inl rfl⟩
theorem fl1_27 : lu_FL RX1 27 6 5 := ⟨by decide, by decide, by decide, "LeftUndoes$Course", qfl1_27, Or.inl rfl⟩
theorem fl1_9 : lu_FL RX1 9 6 0 := ⟨by decide, by decide, by decide, "LeftUndoes$Course", qfl1_9, Or.inl rfl⟩
theorem fl3_15 : lu_FL RX3 15 10 1 := ⟨by decide, by decide, by decide, "LeftUndoes$Hand", qfl3_15, Or.inl rfl⟩
theorem fl3_18 : lu_FL RX3 18 10 2 := ⟨by decide, by decide, by decide, "LeftUndoes$Hand", qfl3_18, Or.inl rfl⟩
theorem fl3_21 : lu_FL RX3 21 10 3 := ⟨by decide, by decide, by decide, "LeftUndoes$Hand", qfl3_21, Or.inl rfl⟩
theorem fl3_24 : lu_FL RX3 24 10 5 := ⟨by decide, by decide, by decide, "LeftUndoes$Hand", qfl3_24, Or.inl rfl⟩
theorem fl3_36 : lu_FL RX3 36 10 4 := ⟨by decide, by decide, by decide, "LeftUndoes$Hand", qfl3_36, Or.inl rfl⟩
theorem fl4_24 : lu_FL RX4 24 10 2 := ⟨by decide, by decide, by decide, "LeftUndoes$Heir", qfl4_24, Or.inr qf_fl4_24_grace⟩
theorem fl4_31 : lu_FL RX4 31 10 4 := ⟨by decide, by decide, by decide, "LeftUndoes$Heir", qfl4_31, Or.inr qf_fl4_31_parted⟩
theorem fl4_35 : lu_FL RX4 35 10 1 := ⟨by decide, by decide, by decide, "LeftUndoes$Heir", qfl4_35, Or.inr qf_fl4_35_number⟩
theorem fl5_101 : lu_FL RX5 101 8 10 := ⟨by decide, by decide, by decide, "LeftUndoes$Plans", qfl5_101, Or.inl rfl⟩
theorem fl5_17 : lu_FL RX5 17 8 1 := ⟨by decide, by decide, by decide, "LeftUndoes$Plans", qfl5_17, Or.inl rfl⟩
theorem fl5_22 : lu_FL RX5 22 8 2 := ⟨by decide, by decide, by decide, "LeftUndoes$Plans", qfl5_22, Or.inl rfl⟩
theorem fl5_26 : lu_FL RX5 26 8 7 := ⟨by decide, by decide, by decide, "LeftUndoes$Plans", qfl5_26, Or.inl rfl⟩
theorem fl5_29 : lu_FL RX5 29 5 9 := ⟨by decide, by decide, by decide, "LeftUndoes$World", qfl5_29, Or.inl rfl⟩
theorem fl5_35 : lu_FL RX5 35 5 14 := ⟨by decide, by decide, by decide, "LeftUndoes$World", qfl5_35, Or.inl rfl⟩
theorem fl5_39 : lu_FL RX5 39 6 0 := ⟨by decide, by decide, by decide, "LeftUndoes$Course", qfl5_39, Or.inl rfl⟩
theorem fl5_51 : lu_FL RX5 51 8 4 := ⟨by decide, by decide, by decide, "LeftUndoes$Plans", qfl5_51, Or.inl rfl⟩
theorem fl5_62 : lu_FL RX5 62 8 3 := ⟨by decide, by decide, by decide, "LeftUndoes$Plans", qfl5_62, Or.inl rfl⟩
theorem fl5_65 : lu_FL RX5 65 8 5 := ⟨by decide, by decide, by decide, "LeftUndoes$Plans", qfl5_65, Or.inl rfl⟩
theorem fl5_68 : lu_FL RX5 68 8 6 := ⟨by decide, by decide, by decide, "LeftUndoes$Plans", qfl5_68, Or.inl rfl⟩
theorem fl5_71 : lu_FL RX5 71 8 8 := ⟨by decide, by decide, by decide, "LeftUndoes$Plans", qfl5_71, Or.inl rfl⟩
theorem fl5_74 : lu_FL RX5 74 8 9 := ⟨by decide, by decide, by decide, "LeftUndoes$Plans", qfl5_74, Or.inl rfl⟩
theorem fl5_85 : lu_FL RX5 85 5 0 := ⟨by decide, by decide, by decide, "LeftUndoes$World", qfl5_85, Or.inl rfl⟩
theorem fl5_9 : lu_FL RX5 9 8 0 := ⟨by decide, by decide, by decide, "LeftUndoes$Plans", qfl5_9, Or.inl rfl⟩
theorem fl5_95 : lu_FL RX5 95 6 1 := ⟨by decide, by decide, by decide, "LeftUndoes$Course", qfl5_95, Or.inl rfl⟩
theorem fl5_98 : lu_FL RX5 98 6 5 := ⟨by decide, by decide, by decide, "LeftUndoes$Course", qfl5_98, Or.inl rfl⟩
theorem fl6_15 : lu_FL RX6 15 7 2 := ⟨by decide, by decide, by decide, "LeftUndoes$Rules", qfl6_15, Or.inl rfl⟩
theorem fl6_18 : lu_FL RX6 18 7 3 := ⟨by decide, by decide, by decide, "LeftUndoes$Rules", qfl6_18, Or.inl rfl⟩
theorem fl6_21 : lu_FL RX6 21 7 4 := ⟨by decide, by decide, by decide, "LeftUndoes$Rules", qfl6_21, Or.inl rfl⟩
theorem fl6_24 : lu_FL RX6 24 7 5 := ⟨by decide, by decide, by decide, "LeftUndoes$Rules", qfl6_24, Or.inl rfl⟩
theorem fl6_27 : lu_FL RX6 27 7 0 := ⟨by decide, by decide, by decide, "LeftUndoes$Rules", qfl6_27, Or.inl rfl⟩
theorem fl6_31 : lu_FL RX6 31 7 6 := ⟨by decide, by decide, by decide, "LeftUndoes$Rules", qfl6_31, Or.inl rfl⟩
theorem fl6_9 : lu_FL RX6 9 7 1 := ⟨by decide, by decide, by decide, "LeftUndoes$Rules", qfl6_9, Or.inl rfl⟩
theorem fl8_18 : lu_FL RX8 18 9 2 := ⟨by decide, by decide, by decide, "LeftUndoes$Teller", qfl8_18, Or.inl rfl⟩
theorem fl8_25 : lu_FL RX8 25 9 5 := ⟨by decide, by decide, by decide, "LeftUndoes$Teller", qfl8_25, Or.inl rfl⟩
theorem fl8_32 : lu_FL RX8 32 9 3 := ⟨by decide, by decide, by decide, "LeftUndoes$Teller", qfl8_32, Or.inl rfl⟩
theorem fl8_39 : lu_FL RX8 39 7 0 := ⟨by decide, by decide, by decide, "LeftUndoes$Rules", qfl8_39, Or.inl rfl⟩
theorem fl8_42 : lu_FL RX8 42 9 4 := ⟨by decide, by decide, by decide, "LeftUndoes$Teller", qfl8_42, Or.inl rfl⟩
theorem fl8_45 : lu_FL RX8 45 9 1 := ⟨by decide, by decide, by decide, "LeftUndoes$Teller", qfl8_45, Or.inl rfl⟩
theorem fl8_65 : lu_FL RX8 65 9 6 := ⟨by decide, by decide, by decide, "LeftUndoes$Teller", qfl8_65, Or.inl rfl⟩
theorem fl8_9 : lu_FL RX8 9 9 0 := ⟨by decide, by decide, by decide, "LeftUndoes$Teller", qfl8_9, Or.inl rfl⟩
theorem fl9_27 : lu_FL RX9 27 10 2 := ⟨by decide, by decide, by decide, "LeftUndoes$Twin", qfl9_27, Or.inr qf_fl9_27_grace⟩
theorem mvO_0_0_began_3_began : lu_MO RX0 ⟨RX0, "began", "(I)V"⟩ yX3_began cX3_began 2 none 1 := ⟨qc_3_began, qm_0_3_began, qi_3_began, ql_0_0_began_3_began, qi_3_began, qn_LeftUndoes_Hand, ⟨cX3_began, 2, none, qc_3_began⟩, by decide +kernel⟩
theorem mvO_0_3_began_3_began : lu_MO RX0 yX3_began yX3_began cX3_began 2 none 1 := ⟨qc_3_began, qm_3_3_began, qi_3_began, ql_0_3_began_3_began, qi_3_began, qn_LeftUndoes_Hand, ⟨cX3_began, 2, none, qc_3_began⟩, by decide +kernel⟩
theorem mvO_0_3_gives_0_gives : lu_MO RX0 yX3_gives yX0_gives cX0_gives 2 (some .int) 1 := ⟨qc_0_gives, qm_3_3_gives, qi_3_gives, ql_0_3_gives_0_gives, qi_0_gives, qn_LeftUndoes_Clasped, ⟨cX3_gives, 2, (some .int), qc_3_gives⟩, by decide +kernel⟩
theorem mvO_0_3_pull_0_pull : lu_MO RX0 yX3_pull yX0_pull cX0_pull 2 (some .int) 1 := ⟨qc_0_pull, qm_3_3_pull, qi_3_pull, ql_0_3_pull_0_pull, qi_0_pull, qn_LeftUndoes_Clasped, ⟨cX3_pull, 2, (some .int), qc_3_pull⟩, by decide +kernel⟩
theorem mvO_0_3_splits_3_splits : lu_MO RX0 yX3_splits yX3_splits cX3_splits 3 (some .int) 1 := ⟨qc_3_splits, qm_3_3_splits, qi_3_splits, ql_0_3_splits_3_splits, qi_3_splits, qn_LeftUndoes_Hand, ⟨cX3_splits, 3, (some .int), qc_3_splits⟩, by decide +kernel⟩
theorem mvO_0_3_swears_3_swears : lu_MO RX0 yX3_swears yX3_swears cX3_swears 2 (some .int) 1 := ⟨qc_3_swears, qm_3_3_swears, qi_3_swears, ql_0_3_swears_3_swears, qi_3_swears, qn_LeftUndoes_Hand, ⟨cX3_swears, 2, (some .int), qc_3_swears⟩, by decide +kernel⟩
theorem mvO_0_3_takes_3_takes : lu_MO RX0 yX3_takes yX3_takes cX3_takes 2 (some .int) 1 := ⟨qc_3_takes, qm_3_3_takes, qi_3_takes, ql_0_3_takes_3_takes, qi_3_takes, qn_LeftUndoes_Hand, ⟨cX3_takes, 2, (some .int), qc_3_takes⟩, by decide +kernel⟩
theorem mvO_0_3_term_3_term : lu_MO RX0 yX3_term yX3_term cX3_term 1 (some .int) 0 := ⟨qc_3_term, qm_3_3_term, qi_3_term, ql_0_3_term_3_term, qi_3_term, qn_LeftUndoes_Hand, ⟨cX3_term, 1, (some .int), qc_3_term⟩, by decide +kernel⟩
theorem mvO_2_2_began_3_began : lu_MO RX2 ⟨RX2, "began", "(I)V"⟩ yX3_began cX3_began 2 none 1 := ⟨qc_3_began, qm_2_3_began, qi_3_began, ql_2_2_began_3_began, qi_3_began, qn_LeftUndoes_Hand, ⟨cX3_began, 2, none, qc_3_began⟩, by decide +kernel⟩
theorem mvO_2_3_began_3_began : lu_MO RX2 yX3_began yX3_began cX3_began 2 none 1 := ⟨qc_3_began, qm_3_3_began, qi_3_began, ql_2_3_began_3_began, qi_3_began, qn_LeftUndoes_Hand, ⟨cX3_began, 2, none, qc_3_began⟩, by decide +kernel⟩
theorem mvO_2_3_gives_3_gives : lu_MO RX2 yX3_gives yX3_gives cX3_gives 2 (some .int) 1 := ⟨qc_3_gives, qm_3_3_gives, qi_3_gives, ql_2_3_gives_3_gives, qi_3_gives, qn_LeftUndoes_Hand, ⟨cX3_gives, 2, (some .int), qc_3_gives⟩, by decide +kernel⟩
theorem mvO_2_3_pull_3_pull : lu_MO RX2 yX3_pull yX3_pull cX3_pull 2 (some .int) 1 := ⟨qc_3_pull, qm_3_3_pull, qi_3_pull, ql_2_3_pull_3_pull, qi_3_pull, qn_LeftUndoes_Hand, ⟨cX3_pull, 2, (some .int), qc_3_pull⟩, by decide +kernel⟩
theorem mvO_2_3_splits_3_splits : lu_MO RX2 yX3_splits yX3_splits cX3_splits 3 (some .int) 1 := ⟨qc_3_splits, qm_3_3_splits, qi_3_splits, ql_2_3_splits_3_splits, qi_3_splits, qn_LeftUndoes_Hand, ⟨cX3_splits, 3, (some .int), qc_3_splits⟩, by decide +kernel⟩
theorem mvO_2_3_swears_3_swears : lu_MO RX2 yX3_swears yX3_swears cX3_swears 2 (some .int) 1 := ⟨qc_3_swears, qm_3_3_swears, qi_3_swears, ql_2_3_swears_3_swears, qi_3_swears, qn_LeftUndoes_Hand, ⟨cX3_swears, 2, (some .int), qc_3_swears⟩, by decide +kernel⟩
theorem mvO_2_3_takes_2_takes : lu_MO RX2 yX3_takes yX2_takes cX2_takes 2 (some .int) 1 := ⟨qc_2_takes, qm_3_3_takes, qi_3_takes, ql_2_3_takes_2_takes, qi_2_takes, qn_LeftUndoes_Forger, ⟨cX3_takes, 2, (some .int), qc_3_takes⟩, by decide +kernel⟩
theorem mvO_2_3_term_2_term : lu_MO RX2 yX3_term yX2_term cX2_term 1 (some .int) 0 := ⟨qc_2_term, qm_3_3_term, qi_3_term, ql_2_3_term_2_term, qi_2_term, qn_LeftUndoes_Forger, ⟨cX3_term, 1, (some .int), qc_3_term⟩, by decide +kernel⟩
theorem mvO_3_3_began_3_began : lu_MO RX3 yX3_began yX3_began cX3_began 2 none 1 := ⟨qc_3_began, qm_3_3_began, qi_3_began, ql_3_3_began_3_began, qi_3_began, qn_LeftUndoes_Hand, ⟨cX3_began, 2, none, qc_3_began⟩, by decide +kernel⟩
theorem mvO_3_3_gives_3_gives : lu_MO RX3 yX3_gives yX3_gives cX3_gives 2 (some .int) 1 := ⟨qc_3_gives, qm_3_3_gives, qi_3_gives, ql_3_3_gives_3_gives, qi_3_gives, qn_LeftUndoes_Hand, ⟨cX3_gives, 2, (some .int), qc_3_gives⟩, by decide +kernel⟩
theorem mvO_3_3_pull_3_pull : lu_MO RX3 yX3_pull yX3_pull cX3_pull 2 (some .int) 1 := ⟨qc_3_pull, qm_3_3_pull, qi_3_pull, ql_3_3_pull_3_pull, qi_3_pull, qn_LeftUndoes_Hand, ⟨cX3_pull, 2, (some .int), qc_3_pull⟩, by decide +kernel⟩
theorem mvO_3_3_splits_3_splits : lu_MO RX3 yX3_splits yX3_splits cX3_splits 3 (some .int) 1 := ⟨qc_3_splits, qm_3_3_splits, qi_3_splits, ql_3_3_splits_3_splits, qi_3_splits, qn_LeftUndoes_Hand, ⟨cX3_splits, 3, (some .int), qc_3_splits⟩, by decide +kernel⟩
theorem mvO_3_3_swears_3_swears : lu_MO RX3 yX3_swears yX3_swears cX3_swears 2 (some .int) 1 := ⟨qc_3_swears, qm_3_3_swears, qi_3_swears, ql_3_3_swears_3_swears, qi_3_swears, qn_LeftUndoes_Hand, ⟨cX3_swears, 2, (some .int), qc_3_swears⟩, by decide +kernel⟩
theorem mvO_3_3_takes_3_takes : lu_MO RX3 yX3_takes yX3_takes cX3_takes 2 (some .int) 1 := ⟨qc_3_takes, qm_3_3_takes, qi_3_takes, ql_3_3_takes_3_takes, qi_3_takes, qn_LeftUndoes_Hand, ⟨cX3_takes, 2, (some .int), qc_3_takes⟩, by decide +kernel⟩
theorem mvO_3_3_term_3_term : lu_MO RX3 yX3_term yX3_term cX3_term 1 (some .int) 0 := ⟨qc_3_term, qm_3_3_term, qi_3_term, ql_3_3_term_3_term, qi_3_term, qn_LeftUndoes_Hand, ⟨cX3_term, 1, (some .int), qc_3_term⟩, by decide +kernel⟩
theorem mvO_4_3_began_3_began : lu_MO RX4 yX3_began yX3_began cX3_began 2 none 1 := ⟨qc_3_began, qm_3_3_began, qi_3_began, ql_4_3_began_3_began, qi_3_began, qn_LeftUndoes_Hand, ⟨cX3_began, 2, none, qc_3_began⟩, by decide +kernel⟩
theorem mvO_4_3_gives_3_gives : lu_MO RX4 yX3_gives yX3_gives cX3_gives 2 (some .int) 1 := ⟨qc_3_gives, qm_3_3_gives, qi_3_gives, ql_4_3_gives_3_gives, qi_3_gives, qn_LeftUndoes_Hand, ⟨cX3_gives, 2, (some .int), qc_3_gives⟩, by decide +kernel⟩
theorem mvO_4_3_pull_4_pull : lu_MO RX4 yX3_pull yX4_pull cX4_pull 2 (some .int) 1 := ⟨qc_4_pull, qm_3_3_pull, qi_3_pull, ql_4_3_pull_4_pull, qi_4_pull, qn_LeftUndoes_Heir, ⟨cX3_pull, 2, (some .int), qc_3_pull⟩, by decide +kernel⟩
theorem mvO_4_3_splits_4_splits : lu_MO RX4 yX3_splits yX4_splits cX4_splits 3 (some .int) 1 := ⟨qc_4_splits, qm_3_3_splits, qi_3_splits, ql_4_3_splits_4_splits, qi_4_splits, qn_LeftUndoes_Heir, ⟨cX3_splits, 3, (some .int), qc_3_splits⟩, by decide +kernel⟩
theorem mvO_4_3_swears_3_swears : lu_MO RX4 yX3_swears yX3_swears cX3_swears 2 (some .int) 1 := ⟨qc_3_swears, qm_3_3_swears, qi_3_swears, ql_4_3_swears_3_swears, qi_3_swears, qn_LeftUndoes_Hand, ⟨cX3_swears, 2, (some .int), qc_3_swears⟩, by decide +kernel⟩
theorem mvO_4_3_takes_4_takes : lu_MO RX4 yX3_takes yX4_takes cX4_takes 2 (some .int) 1 := ⟨qc_4_takes, qm_3_3_takes, qi_3_takes, ql_4_3_takes_4_takes, qi_4_takes, qn_LeftUndoes_Heir, ⟨cX3_takes, 2, (some .int), qc_3_takes⟩, by decide +kernel⟩
theorem mvO_4_3_term_4_term : lu_MO RX4 yX3_term yX4_term cX4_term 1 (some .int) 0 := ⟨qc_4_term, qm_3_3_term, qi_3_term, ql_4_3_term_4_term, qi_4_term, qn_LeftUndoes_Heir, ⟨cX3_term, 1, (some .int), qc_3_term⟩, by decide +kernel⟩
theorem mvO_4_4_began_3_began : lu_MO RX4 ⟨RX4, "began", "(I)V"⟩ yX3_began cX3_began 2 none 1 := ⟨qc_3_began, qm_4_3_began, qi_3_began, ql_4_4_began_3_began, qi_3_began, qn_LeftUndoes_Hand, ⟨cX3_began, 2, none, qc_3_began⟩, by decide +kernel⟩
theorem mvO_4_4_gives_3_gives : lu_MO RX4 ⟨RX4, "gives", "(I)I"⟩ yX3_gives cX3_gives 2 (some .int) 1 := ⟨qc_3_gives, qm_4_3_gives, qi_3_gives, ql_4_4_gives_3_gives, qi_3_gives, qn_LeftUndoes_Hand, ⟨cX3_gives, 2, (some .int), qc_3_gives⟩, by decide +kernel⟩
theorem mvO_4_7_began_3_began : lu_MO RX4 ⟨RX7, "began", "(I)V"⟩ yX3_began cX3_began 2 none 1 := ⟨qc_3_began, qm_7_3_began, qi_3_began, ql_4_7_began_3_began, qi_3_began, qn_LeftUndoes_Hand, ⟨cX3_began, 2, none, qc_3_began⟩, by decide +kernel⟩
theorem mvO_7_3_began_3_began : lu_MO RX7 yX3_began yX3_began cX3_began 2 none 1 := ⟨qc_3_began, qm_3_3_began, qi_3_began, ql_7_3_began_3_began, qi_3_began, qn_LeftUndoes_Hand, ⟨cX3_began, 2, none, qc_3_began⟩, by decide +kernel⟩
theorem mvO_7_3_gives_3_gives : lu_MO RX7 yX3_gives yX3_gives cX3_gives 2 (some .int) 1 := ⟨qc_3_gives, qm_3_3_gives, qi_3_gives, ql_7_3_gives_3_gives, qi_3_gives, qn_LeftUndoes_Hand, ⟨cX3_gives, 2, (some .int), qc_3_gives⟩, by decide +kernel⟩
theorem mvO_7_3_pull_7_pull : lu_MO RX7 yX3_pull yX7_pull cX7_pull 2 (some .int) 1 := ⟨qc_7_pull, qm_3_3_pull, qi_3_pull, ql_7_3_pull_7_pull, qi_7_pull, qn_LeftUndoes_Slow, ⟨cX3_pull, 2, (some .int), qc_3_pull⟩, by decide +kernel⟩
theorem mvO_7_3_splits_7_splits : lu_MO RX7 yX3_splits yX7_splits cX7_splits 2 (some .int) 1 := ⟨qc_7_splits, qm_3_3_splits, qi_3_splits, ql_7_3_splits_7_splits, qi_7_splits, qn_LeftUndoes_Slow, ⟨cX3_splits, 3, (some .int), qc_3_splits⟩, by decide +kernel⟩
theorem mvO_7_3_swears_3_swears : lu_MO RX7 yX3_swears yX3_swears cX3_swears 2 (some .int) 1 := ⟨qc_3_swears, qm_3_3_swears, qi_3_swears, ql_7_3_swears_3_swears, qi_3_swears, qn_LeftUndoes_Hand, ⟨cX3_swears, 2, (some .int), qc_3_swears⟩, by decide +kernel⟩
theorem mvO_7_3_takes_3_takes : lu_MO RX7 yX3_takes yX3_takes cX3_takes 2 (some .int) 1 := ⟨qc_3_takes, qm_3_3_takes, qi_3_takes, ql_7_3_takes_3_takes, qi_3_takes, qn_LeftUndoes_Hand, ⟨cX3_takes, 2, (some .int), qc_3_takes⟩, by decide +kernel⟩
theorem mvO_7_3_term_7_term : lu_MO RX7 yX3_term yX7_term cX7_term 1 (some .int) 0 := ⟨qc_7_term, qm_3_3_term, qi_3_term, ql_7_3_term_7_term, qi_7_term, qn_LeftUndoes_Slow, ⟨cX3_term, 1, (some .int), qc_3_term⟩, by decide +kernel⟩
theorem mvO_7_7_began_3_began : lu_MO RX7 ⟨RX7, "began", "(I)V"⟩ yX3_began cX3_began 2 none 1 := ⟨qc_3_began, qm_7_3_began, qi_3_began, ql_7_7_began_3_began, qi_3_began, qn_LeftUndoes_Hand, ⟨cX3_began, 2, none, qc_3_began⟩, by decide +kernel⟩
theorem mvO_9_2_began_3_began : lu_MO RX9 ⟨RX2, "began", "(I)V"⟩ yX3_began cX3_began 2 none 1 := ⟨qc_3_began, qm_2_3_began, qi_3_began, ql_9_2_began_3_began, qi_3_began, qn_LeftUndoes_Hand, ⟨cX3_began, 2, none, qc_3_began⟩, by decide +kernel⟩
theorem mvO_9_3_began_3_began : lu_MO RX9 yX3_began yX3_began cX3_began 2 none 1 := ⟨qc_3_began, qm_3_3_began, qi_3_began, ql_9_3_began_3_began, qi_3_began, qn_LeftUndoes_Hand, ⟨cX3_began, 2, none, qc_3_began⟩, by decide +kernel⟩
theorem mvO_9_3_gives_9_gives : lu_MO RX9 yX3_gives yX9_gives cX9_gives 2 (some .int) 1 := ⟨qc_9_gives, qm_3_3_gives, qi_3_gives, ql_9_3_gives_9_gives, qi_9_gives, qn_LeftUndoes_Twin, ⟨cX3_gives, 2, (some .int), qc_3_gives⟩, by decide +kernel⟩
theorem mvO_9_3_pull_9_pull : lu_MO RX9 yX3_pull yX9_pull cX9_pull 2 (some .int) 1 := ⟨qc_9_pull, qm_3_3_pull, qi_3_pull, ql_9_3_pull_9_pull, qi_9_pull, qn_LeftUndoes_Twin, ⟨cX3_pull, 2, (some .int), qc_3_pull⟩, by decide +kernel⟩
theorem mvO_9_3_splits_3_splits : lu_MO RX9 yX3_splits yX3_splits cX3_splits 3 (some .int) 1 := ⟨qc_3_splits, qm_3_3_splits, qi_3_splits, ql_9_3_splits_3_splits, qi_3_splits, qn_LeftUndoes_Hand, ⟨cX3_splits, 3, (some .int), qc_3_splits⟩, by decide +kernel⟩
theorem mvO_9_3_swears_9_swears : lu_MO RX9 yX3_swears yX9_swears cX9_swears 3 (some .int) 1 := ⟨qc_9_swears, qm_3_3_swears, qi_3_swears, ql_9_3_swears_9_swears, qi_9_swears, qn_LeftUndoes_Twin, ⟨cX3_swears, 2, (some .int), qc_3_swears⟩, by decide +kernel⟩
theorem mvO_9_3_takes_2_takes : lu_MO RX9 yX3_takes yX2_takes cX2_takes 2 (some .int) 1 := ⟨qc_2_takes, qm_3_3_takes, qi_3_takes, ql_9_3_takes_2_takes, qi_2_takes, qn_LeftUndoes_Forger, ⟨cX3_takes, 2, (some .int), qc_3_takes⟩, by decide +kernel⟩
theorem mvO_9_3_term_9_term : lu_MO RX9 yX3_term yX9_term cX9_term 1 (some .int) 0 := ⟨qc_9_term, qm_3_3_term, qi_3_term, ql_9_3_term_9_term, qi_9_term, qn_LeftUndoes_Twin, ⟨cX3_term, 1, (some .int), qc_3_term⟩, by decide +kernel⟩
theorem mvO_9_9_began_3_began : lu_MO RX9 ⟨RX9, "began", "(I)V"⟩ yX3_began cX3_began 2 none 1 := ⟨qc_3_began, qm_9_3_began, qi_3_began, ql_9_9_began_3_began, qi_3_began, qn_LeftUndoes_Hand, ⟨cX3_began, 2, none, qc_3_began⟩, by decide +kernel⟩
theorem mvO_9_9_splits_3_splits : lu_MO RX9 ⟨RX9, "splits", "(I)I"⟩ yX3_splits cX3_splits 3 (some .int) 1 := ⟨qc_3_splits, qm_9_3_splits, qi_3_splits, ql_9_9_splits_3_splits, qi_3_splits, qn_LeftUndoes_Hand, ⟨cX3_splits, 3, (some .int), qc_3_splits⟩, by decide +kernel⟩
theorem mvP4_7_takes : lu_MP RX4 ⟨RX7, "takes", "(I)I"⟩ yX3_takes cX3_takes 2 (some .int) 1 := ⟨qc_3_takes, qm_7_3_takes, qu_4_7, qu_7_3, qi_3_takes, qn_LeftUndoes_Hand, rfl, rfl, by decide, by decide +kernel⟩
theorem mvP9_2_gives : lu_MP RX9 ⟨RX2, "gives", "(I)I"⟩ yX3_gives cX3_gives 2 (some .int) 1 := ⟨qc_3_gives, qm_2_3_gives, qu_9_2, qu_2_3, qi_3_gives, qn_LeftUndoes_Hand, rfl, rfl, by decide, by decide +kernel⟩
theorem mvP9_2_pull : lu_MP RX9 ⟨RX2, "pull", "(I)I"⟩ yX3_pull cX3_pull 2 (some .int) 1 := ⟨qc_3_pull, qm_2_3_pull, qu_9_2, qu_2_3, qi_3_pull, qn_LeftUndoes_Hand, rfl, rfl, by decide, by decide +kernel⟩
theorem mvP9_2_swears : lu_MP RX9 ⟨RX2, "swears", "(I)I"⟩ yX3_swears cX3_swears 2 (some .int) 1 := ⟨qc_3_swears, qm_2_3_swears, qu_9_2, qu_2_3, qi_3_swears, qn_LeftUndoes_Hand, rfl, rfl, by decide, by decide +kernel⟩
theorem mvS_10_isUndoneBy : lu_MS yX10_isUndoneBy cX10_isUndoneBy 5 (some .boolean) 4 := ⟨qc_10_isUndoneBy, qs_10_isUndoneBy, qn_LeftUndoes_World, by decide, by decide, by decide +kernel⟩
theorem mvS_11_isUnder : lu_MS yX11_isUnder cX11_isUnder 2 (some .boolean) 2 := ⟨qc_11_isUnder, qs_11_isUnder, qn_LeftUndoes, by decide, by decide, by decide +kernel⟩
theorem mvS_11_isWithin : lu_MS yX11_isWithin cX11_isWithin 3 (some .boolean) 3 := ⟨qc_11_isWithin, qs_11_isWithin, qn_LeftUndoes, by decide, by decide, by decide +kernel⟩
theorem mvS_11_narrowed : lu_MS yX11_narrowed cX11_narrowed 2 (some .int) 2 := ⟨qc_11_narrowed, qs_11_narrowed, qn_LeftUndoes, by decide, by decide, by decide +kernel⟩
theorem mvS_12_at : lu_MS yX12_at cX12_at 2 (some .int) 2 := ⟨qc_12_at, qs_12_at, qn_LeftUndoesModel, by decide, by decide, by decide +kernel⟩
theorem mvS_12_in : lu_MS yX12_in cX12_in 6 (some .boolean) 3 := ⟨qc_12_in, qs_12_in, qn_LeftUndoesModel, by decide, by decide, by decide +kernel⟩
theorem mvS_12_isDigit : lu_MS yX12_isDigit cX12_isDigit 1 (some .boolean) 1 := ⟨qc_12_isDigit, qs_12_isDigit, qn_LeftUndoesModel, by decide, by decide, by decide +kernel⟩
theorem mvS_12_isHolding : lu_MS yX12_isHolding cX12_isHolding 3 (some .boolean) 3 := ⟨qc_12_isHolding, qs_12_isHolding, qn_LeftUndoesModel, by decide, by decide, by decide +kernel⟩
theorem mvS_12_isKind : lu_MS yX12_isKind cX12_isKind 1 (some .boolean) 1 := ⟨qc_12_isKind, qs_12_isKind, qn_LeftUndoesModel, by decide, by decide, by decide +kernel⟩
theorem mvS_12_isLetter : lu_MS yX12_isLetter cX12_isLetter 1 (some .boolean) 1 := ⟨qc_12_isLetter, qs_12_isLetter, qn_LeftUndoesModel, by decide, by decide, by decide +kernel⟩
theorem mvS_12_isLong : lu_MS yX12_isLong cX12_isLong 1 (some .boolean) 1 := ⟨qc_12_isLong, qs_12_isLong, qn_LeftUndoesModel, by decide, by decide, by decide +kernel⟩
theorem mvS_12_isOne : lu_MS yX12_isOne cX12_isOne 1 (some .boolean) 1 := ⟨qc_12_isOne, qs_12_isOne, qn_LeftUndoesModel, by decide, by decide, by decide +kernel⟩
theorem mvS_12_isUnder : lu_MS yX12_isUnder cX12_isUnder 2 (some .boolean) 2 := ⟨qc_12_isUnder, qs_12_isUnder, qn_LeftUndoesModel, by decide, by decide, by decide +kernel⟩
theorem mvS_12_narrowed : lu_MS yX12_narrowed cX12_narrowed 2 (some .int) 2 := ⟨qc_12_narrowed, qs_12_narrowed, qn_LeftUndoesModel, by decide, by decide, by decide +kernel⟩
theorem mvS_12_pullOf : lu_MS yX12_pullOf cX12_pullOf 3 (some .int) 3 := ⟨qc_12_pullOf, qs_12_pullOf, qn_LeftUndoesModel, by decide, by decide, by decide +kernel⟩
theorem mvS_12_spot : lu_MS yX12_spot cX12_spot 2 (some .int) 2 := ⟨qc_12_spot, qs_12_spot, qn_LeftUndoesModel, by decide, by decide, by decide +kernel⟩
theorem mvS_12_termOf : lu_MS yX12_termOf cX12_termOf 2 (some .int) 2 := ⟨qc_12_termOf, qs_12_termOf, qn_LeftUndoesModel, by decide, by decide, by decide +kernel⟩
theorem mvS_6_isSo : lu_MS yX6_isSo cX6_isSo 4 (some .boolean) 2 := ⟨qc_6_isSo, qs_6_isSo, qn_LeftUndoes_Rules, by decide, by decide, by decide +kernel⟩
theorem mvU0_3_gives : lu_MU RX0 yX3_gives cX3_gives 2 (some .int) 1 := ⟨qc_3_gives, qm_3_3_gives, qu_0_3, qi_3_gives, qn_LeftUndoes_Hand, by decide, by decide +kernel⟩
theorem mvU0_3_pull : lu_MU RX0 yX3_pull cX3_pull 2 (some .int) 1 := ⟨qc_3_pull, qm_3_3_pull, qu_0_3, qi_3_pull, qn_LeftUndoes_Hand, by decide, by decide +kernel⟩
theorem mvU2_3_takes : lu_MU RX2 yX3_takes cX3_takes 2 (some .int) 1 := ⟨qc_3_takes, qm_3_3_takes, qu_2_3, qi_3_takes, qn_LeftUndoes_Hand, by decide, by decide +kernel⟩
theorem mvU2_3_term : lu_MU RX2 yX3_term cX3_term 1 (some .int) 0 := ⟨qc_3_term, qm_3_3_term, qu_2_3, qi_3_term, qn_LeftUndoes_Hand, by decide, by decide +kernel⟩
theorem mvU4_7_pull : lu_MU RX4 yX7_pull cX7_pull 2 (some .int) 1 := ⟨qc_7_pull, qm_7_7_pull, qu_4_7, qi_7_pull, qn_LeftUndoes_Slow, by decide, by decide +kernel⟩
theorem mvU4_7_splits : lu_MU RX4 yX7_splits cX7_splits 2 (some .int) 1 := ⟨qc_7_splits, qm_7_7_splits, qu_4_7, qi_7_splits, qn_LeftUndoes_Slow, by decide, by decide +kernel⟩
theorem mvU4_7_term : lu_MU RX4 yX7_term cX7_term 1 (some .int) 0 := ⟨qc_7_term, qm_7_7_term, qu_4_7, qi_7_term, qn_LeftUndoes_Slow, by decide, by decide +kernel⟩
theorem mvU7_3_pull : lu_MU RX7 yX3_pull cX3_pull 2 (some .int) 1 := ⟨qc_3_pull, qm_3_3_pull, qu_7_3, qi_3_pull, qn_LeftUndoes_Hand, by decide, by decide +kernel⟩
theorem mvU7_3_splits : lu_MU RX7 yX3_splits cX3_splits 3 (some .int) 1 := ⟨qc_3_splits, qm_3_3_splits, qu_7_3, qi_3_splits, qn_LeftUndoes_Hand, by decide, by decide +kernel⟩
theorem mvU7_3_term : lu_MU RX7 yX3_term cX3_term 1 (some .int) 0 := ⟨qc_3_term, qm_3_3_term, qu_7_3, qi_3_term, qn_LeftUndoes_Hand, by decide, by decide +kernel⟩
theorem mvU9_2_term : lu_MU RX9 yX2_term cX2_term 1 (some .int) 0 := ⟨qc_2_term, qm_2_2_term, qu_9_2, qi_2_term, qn_LeftUndoes_Forger, by decide, by decide +kernel⟩
theorem mvV_10_borne : lu_MV RX10 yX10_borne cX10_borne 6 (some .int) 2 := ⟨qc_10_borne, qi_10_borne, ql_10_10_borne_10_borne, qn_LeftUndoes_World, rfl, by decide, by decide, by decide +kernel⟩
theorem mvV_10_choice : lu_MV RX10 yX10_choice cX10_choice 8 (some .int) 2 := ⟨qc_10_choice, qi_10_choice, ql_10_10_choice_10_choice, qn_LeftUndoes_World, rfl, by decide, by decide, by decide +kernel⟩
theorem mvV_10_doDeeds : lu_MV RX10 yX10_doDeeds cX10_doDeeds 3 none 1 := ⟨qc_10_doDeeds, qi_10_doDeeds, ql_10_10_doDeeds_10_doDeeds, qn_LeftUndoes_World, rfl, by decide, by decide, by decide +kernel⟩
theorem mvV_10_drawn : lu_MV RX10 yX10_drawn cX10_drawn 1 (some .int) 0 := ⟨qc_10_drawn, qi_10_drawn, ql_10_10_drawn_10_drawn, qn_LeftUndoes_World, rfl, by decide, by decide, by decide +kernel⟩
theorem mvV_10_isAct : lu_MV RX10 yX10_isAct cX10_isAct 2 (some .boolean) 1 := ⟨qc_10_isAct, qi_10_isAct, ql_10_10_isAct_10_isAct, qn_LeftUndoes_World, rfl, by decide, by decide, by decide +kernel⟩
theorem mvV_10_isDeed : lu_MV RX10 yX10_isDeed cX10_isDeed 2 (some .boolean) 1 := ⟨qc_10_isDeed, qi_10_isDeed, ql_10_10_isDeed_10_isDeed, qn_LeftUndoes_World, rfl, by decide, by decide, by decide +kernel⟩
theorem mvV_10_isDeedSet : lu_MV RX10 yX10_isDeedSet cX10_isDeedSet 2 (some .boolean) 1 := ⟨qc_10_isDeedSet, qi_10_isDeedSet, ql_10_10_isDeedSet_10_isDeedSet, qn_LeftUndoes_World, rfl, by decide, by decide, by decide +kernel⟩
theorem mvV_10_isOver : lu_MV RX10 yX10_isOver cX10_isOver 2 (some .boolean) 1 := ⟨qc_10_isOver, qi_10_isOver, ql_10_10_isOver_10_isOver, qn_LeftUndoes_World, rfl, by decide, by decide, by decide +kernel⟩
theorem mvV_10_isPerson : lu_MV RX10 yX10_isPerson cX10_isPerson 2 (some .boolean) 1 := ⟨qc_10_isPerson, qi_10_isPerson, ql_10_10_isPerson_10_isPerson, qn_LeftUndoes_World, rfl, by decide, by decide, by decide +kernel⟩
theorem mvV_10_latestDue : lu_MV RX10 yX10_latestDue cX10_latestDue 4 (some .int) 2 := ⟨qc_10_latestDue, qi_10_latestDue, ql_10_10_latestDue_10_latestDue, qn_LeftUndoes_World, rfl, by decide, by decide, by decide +kernel⟩
theorem mvV_10_loansGiven : lu_MV RX10 yX10_loansGiven cX10_loansGiven 4 (some .int) 0 := ⟨qc_10_loansGiven, qi_10_loansGiven, ql_10_10_loansGiven_10_loansGiven, qn_LeftUndoes_World, rfl, by decide, by decide, by decide +kernel⟩
theorem mvV_10_netOf : lu_MV RX10 yX10_netOf cX10_netOf 4 (some .int) 1 := ⟨qc_10_netOf, qi_10_netOf, ql_10_10_netOf_10_netOf, qn_LeftUndoes_World, rfl, by decide, by decide, by decide +kernel⟩
theorem mvV_10_overdueInTheEnd : lu_MV RX10 yX10_overdueInTheEnd cX10_overdueInTheEnd 4 (some .int) 1 := ⟨qc_10_overdueInTheEnd, qi_10_overdueInTheEnd, ql_10_10_overdueInTheEnd_10_overdueInTheEnd, qn_LeftUndoes_World, rfl, by decide, by decide, by decide +kernel⟩
theorem mvV_10_owedBy : lu_MV RX10 yX10_owedBy cX10_owedBy 5 (some .int) 1 := ⟨qc_10_owedBy, qi_10_owedBy, ql_10_10_owedBy_10_owedBy, qn_LeftUndoes_World, rfl, by decide, by decide, by decide +kernel⟩
theorem mvV_10_pass : lu_MV RX10 yX10_pass cX10_pass 5 (some .int) 2 := ⟨qc_10_pass, qi_10_pass, ql_10_10_pass_10_pass, qn_LeftUndoes_World, rfl, by decide, by decide, by decide +kernel⟩
theorem mvV_10_rest : lu_MV RX10 yX10_rest cX10_rest 3 none 1 := ⟨qc_10_rest, qi_10_rest, ql_10_10_rest_10_rest, qn_LeftUndoes_World, rfl, by decide, by decide, by decide +kernel⟩
theorem mvV_10_settle : lu_MV RX10 yX10_settle cX10_settle 2 none 0 := ⟨qc_10_settle, qi_10_settle, ql_10_10_settle_10_settle, qn_LeftUndoes_World, rfl, by decide, by decide, by decide +kernel⟩
theorem mvV_10_undo : lu_MV RX10 yX10_undo cX10_undo 4 none 2 := ⟨qc_10_undo, qi_10_undo, ql_10_10_undo_10_undo, qn_LeftUndoes_World, rfl, by decide, by decide, by decide +kernel⟩
theorem mvV_10_wrongReports : lu_MV RX10 yX10_wrongReports cX10_wrongReports 5 (some .int) 1 := ⟨qc_10_wrongReports, qi_10_wrongReports, ql_10_10_wrongReports_10_wrongReports, qn_LeftUndoes_World, rfl, by decide, by decide, by decide +kernel⟩
theorem mvV_11_actsRefused : lu_MV RX11 yX11_actsRefused cX11_actsRefused 3 (some .int) 2 := ⟨qc_11_actsRefused, qi_11_actsRefused, ql_11_11_actsRefused_11_actsRefused, qn_LeftUndoes, rfl, by decide, by decide, by decide +kernel⟩
theorem mvV_11_holdsPerson : lu_MV RX11 yX11_holdsPerson cX11_holdsPerson 2 (some .boolean) 1 := ⟨qc_11_holdsPerson, qi_11_holdsPerson, ql_11_11_holdsPerson_11_holdsPerson, qn_LeftUndoes, rfl, by decide, by decide, by decide +kernel⟩
theorem mvV_11_stranger : lu_MV RX11 yX11_stranger cX11_stranger 4 (some (.object "LeftUndoes$Hand")) 1 := ⟨qc_11_stranger, qi_11_stranger, ql_11_11_stranger_11_stranger, qn_LeftUndoes, rfl, by decide, by decide, by decide +kernel⟩
theorem mvV_12_all : lu_MV RX12 yX12_all cX12_all 1 none 0 := ⟨qc_12_all, qi_12_all, ql_12_12_all_12_all, qn_LeftUndoesModel, rfl, by decide, by decide, by decide +kernel⟩
theorem mvV_12_areDeeds : lu_MV RX12 yX12_areDeeds cX12_areDeeds 2 (some .boolean) 1 := ⟨qc_12_areDeeds, qi_12_areDeeds, ql_12_12_areDeeds_12_areDeeds, qn_LeftUndoesModel, rfl, by decide, by decide, by decide +kernel⟩
theorem mvV_12_areTwo : lu_MV RX12 yX12_areTwo cX12_areTwo 3 (some .boolean) 2 := ⟨qc_12_areTwo, qi_12_areTwo, ql_12_12_areTwo_12_areTwo, qn_LeftUndoesModel, rfl, by decide, by decide, by decide +kernel⟩
theorem mvV_12_becomes : lu_MV RX12 yX12_becomes cX12_becomes 4 (some .int) 2 := ⟨qc_12_becomes, qi_12_becomes, ql_12_12_becomes_12_becomes, qn_LeftUndoesModel, rfl, by decide, by decide, by decide +kernel⟩
theorem mvV_12_byLot : lu_MV RX12 yX12_byLot cX12_byLot 1 (some .int) 0 := ⟨qc_12_byLot, qi_12_byLot, ql_12_12_byLot_12_byLot, qn_LeftUndoesModel, rfl, by decide, by decide, by decide +kernel⟩
theorem mvV_12_byteAt : lu_MV RX12 yX12_byteAt cX12_byteAt 2 (some .int) 1 := ⟨qc_12_byteAt, qi_12_byteAt, ql_12_12_byteAt_12_byteAt, qn_LeftUndoesModel, rfl, by decide, by decide, by decide +kernel⟩
theorem mvV_12_choice : lu_MV RX12 yX12_choice cX12_choice 11 (some .int) 1 := ⟨qc_12_choice, qi_12_choice, ql_12_12_choice_12_choice, qn_LeftUndoesModel, rfl, by decide, by decide, by decide +kernel⟩
theorem mvV_12_comparison : lu_MV RX12 yX12_comparison cX12_comparison 2 none 0 := ⟨qc_12_comparison, qi_12_comparison, ql_12_12_comparison_12_comparison, qn_LeftUndoesModel, rfl, by decide, by decide, by decide +kernel⟩
theorem mvV_12_condition : lu_MV RX12 yX12_condition cX12_condition 1 none 0 := ⟨qc_12_condition, qi_12_condition, ql_12_12_condition_12_condition, qn_LeftUndoesModel, rfl, by decide, by decide, by decide +kernel⟩
theorem mvV_12_deedIs : lu_MV RX12 yX12_deedIs cX12_deedIs 3 (some .int) 2 := ⟨qc_12_deedIs, qi_12_deedIs, ql_12_12_deedIs_12_deedIs, qn_LeftUndoesModel, rfl, by decide, by decide, by decide +kernel⟩
theorem mvV_12_due : lu_MV RX12 yX12_due cX12_due 3 (some .int) 1 := ⟨qc_12_due, qi_12_due, ql_12_12_due_12_due, qn_LeftUndoesModel, rfl, by decide, by decide, by decide +kernel⟩
theorem mvV_12_ended : lu_MV RX12 yX12_ended cX12_ended 5 none 2 := ⟨qc_12_ended, qi_12_ended, ql_12_12_ended_12_ended, qn_LeftUndoesModel, rfl, by decide, by decide, by decide +kernel⟩
theorem mvV_12_fact : lu_MV RX12 yX12_fact cX12_fact 3 (some .int) 2 := ⟨qc_12_fact, qi_12_fact, ql_12_12_fact_12_fact, qn_LeftUndoesModel, rfl, by decide, by decide, by decide +kernel⟩
theorem mvV_12_factHere : lu_MV RX12 yX12_factHere cX12_factHere 3 (some .int) 0 := ⟨qc_12_factHere, qi_12_factHere, ql_12_12_factHere_12_factHere, qn_LeftUndoesModel, rfl, by decide, by decide, by decide +kernel⟩
theorem mvV_12_findFits : lu_MV RX12 yX12_findFits cX12_findFits 6 none 1 := ⟨qc_12_findFits, qi_12_findFits, ql_12_12_findFits_12_findFits, qn_LeftUndoesModel, rfl, by decide, by decide, by decide +kernel⟩
theorem mvV_12_gives : lu_MV RX12 yX12_gives cX12_gives 3 (some .int) 1 := ⟨qc_12_gives, qi_12_gives, ql_12_12_gives_12_gives, qn_LeftUndoesModel, rfl, by decide, by decide, by decide +kernel⟩
theorem mvV_12_goes : lu_MV RX12 yX12_goes cX12_goes 5 (some .int) 1 := ⟨qc_12_goes, qi_12_goes, ql_12_12_goes_12_goes, qn_LeftUndoesModel, rfl, by decide, by decide, by decide +kernel⟩
theorem mvV_12_isAct : lu_MV RX12 yX12_isAct cX12_isAct 2 (some .boolean) 1 := ⟨qc_12_isAct, qi_12_isAct, ql_12_12_isAct_12_isAct, qn_LeftUndoesModel, rfl, by decide, by decide, by decide +kernel⟩
theorem mvV_12_isDeed : lu_MV RX12 yX12_isDeed cX12_isDeed 2 (some .boolean) 1 := ⟨qc_12_isDeed, qi_12_isDeed, ql_12_12_isDeed_12_isDeed, qn_LeftUndoesModel, rfl, by decide, by decide, by decide +kernel⟩
theorem mvV_12_isFit : lu_MV RX12 yX12_isFit cX12_isFit 7 (some .boolean) 4 := ⟨qc_12_isFit, qi_12_isFit, ql_12_12_isFit_12_isFit, qn_LeftUndoesModel, rfl, by decide, by decide, by decide +kernel⟩
theorem mvV_12_isGone : lu_MV RX12 yX12_isGone cX12_isGone 2 (some .boolean) 1 := ⟨qc_12_isGone, qi_12_isGone, ql_12_12_isGone_12_isGone, qn_LeftUndoesModel, rfl, by decide, by decide, by decide +kernel⟩
theorem mvV_12_isItem : lu_MV RX12 yX12_isItem cX12_isItem 4 (some .boolean) 2 := ⟨qc_12_isItem, qi_12_isItem, ql_12_12_isItem_12_isItem, qn_LeftUndoesModel, rfl, by decide, by decide, by decide +kernel⟩
theorem mvV_12_isOver : lu_MV RX12 yX12_isOver cX12_isOver 1 (some .boolean) 0 := ⟨qc_12_isOver, qi_12_isOver, ql_12_12_isOver_12_isOver, qn_LeftUndoesModel, rfl, by decide, by decide, by decide +kernel⟩
theorem mvV_12_isPerson : lu_MV RX12 yX12_isPerson cX12_isPerson 2 (some .boolean) 1 := ⟨qc_12_isPerson, qi_12_isPerson, ql_12_12_isPerson_12_isPerson, qn_LeftUndoesModel, rfl, by decide, by decide, by decide +kernel⟩
theorem mvV_12_isRow : lu_MV RX12 yX12_isRow cX12_isRow 3 (some .boolean) 2 := ⟨qc_12_isRow, qi_12_isRow, ql_12_12_isRow_12_isRow, qn_LeftUndoesModel, rfl, by decide, by decide, by decide +kernel⟩
theorem mvV_12_isSo : lu_MV RX12 yX12_isSo cX12_isSo 7 (some .boolean) 3 := ⟨qc_12_isSo, qi_12_isSo, ql_12_12_isSo_12_isSo, qn_LeftUndoesModel, rfl, by decide, by decide, by decide +kernel⟩
theorem mvV_12_isSoBy : lu_MV RX12 yX12_isSoBy cX12_isSoBy 8 (some .boolean) 4 := ⟨qc_12_isSoBy, qi_12_isSoBy, ql_12_12_isSoBy_12_isSoBy, qn_LeftUndoesModel, rfl, by decide, by decide, by decide +kernel⟩
theorem mvV_12_isSpan : lu_MV RX12 yX12_isSpan cX12_isSpan 3 (some .boolean) 2 := ⟨qc_12_isSpan, qi_12_isSpan, ql_12_12_isSpan_12_isSpan, qn_LeftUndoesModel, rfl, by decide, by decide, by decide +kernel⟩
theorem mvV_12_its : lu_MV RX12 yX12_its cX12_its 3 (some .int) 2 := ⟨qc_12_its, qi_12_its, ql_12_12_its_12_its, qn_LeftUndoesModel, rfl, by decide, by decide, by decide +kernel⟩
theorem mvV_12_kindHere : lu_MV RX12 yX12_kindHere cX12_kindHere 3 (some .int) 0 := ⟨qc_12_kindHere, qi_12_kindHere, ql_12_12_kindHere_12_kindHere, qn_LeftUndoesModel, rfl, by decide, by decide, by decide +kernel⟩
theorem mvV_12_late : lu_MV RX12 yX12_late cX12_late 3 (some .int) 0 := ⟨qc_12_late, qi_12_late, ql_12_12_late_12_late, qn_LeftUndoesModel, rfl, by decide, by decide, by decide +kernel⟩
theorem mvV_12_loans : lu_MV RX12 yX12_loans cX12_loans 3 (some .int) 0 := ⟨qc_12_loans, qi_12_loans, ql_12_12_loans_12_loans, qn_LeftUndoesModel, rfl, by decide, by decide, by decide +kernel⟩
theorem mvV_12_netOf : lu_MV RX12 yX12_netOf cX12_netOf 4 (some .int) 1 := ⟨qc_12_netOf, qi_12_netOf, ql_12_12_netOf_12_netOf, qn_LeftUndoesModel, rfl, by decide, by decide, by decide +kernel⟩
theorem mvV_12_number : lu_MV RX12 yX12_number cX12_number 4 none 1 := ⟨qc_12_number, qi_12_number, ql_12_12_number_12_number, qn_LeftUndoesModel, rfl, by decide, by decide, by decide +kernel⟩
theorem mvV_12_onShelf : lu_MV RX12 yX12_onShelf cX12_onShelf 2 (some .int) 1 := ⟨qc_12_onShelf, qi_12_onShelf, ql_12_12_onShelf_12_onShelf, qn_LeftUndoesModel, rfl, by decide, by decide, by decide +kernel⟩
theorem mvV_12_one : lu_MV RX12 yX12_one cX12_one 2 none 0 := ⟨qc_12_one, qi_12_one, ql_12_12_one_12_one, qn_LeftUndoesModel, rfl, by decide, by decide, by decide +kernel⟩
theorem mvV_12_owedBy : lu_MV RX12 yX12_owedBy cX12_owedBy 4 (some .int) 1 := ⟨qc_12_owedBy, qi_12_owedBy, ql_12_12_owedBy_12_owedBy, qn_LeftUndoesModel, rfl, by decide, by decide, by decide +kernel⟩
theorem mvV_12_plainSplits : lu_MV RX12 yX12_plainSplits cX12_plainSplits 2 (some .int) 1 := ⟨qc_12_plainSplits, qi_12_plainSplits, ql_12_12_plainSplits_12_plainSplits, qn_LeftUndoesModel, rfl, by decide, by decide, by decide +kernel⟩
theorem mvV_12_plans : lu_MV RX12 yX12_plans cX12_plans 5 none 3 := ⟨qc_12_plans, qi_12_plans, ql_12_12_plans_12_plans, qn_LeftUndoesModel, rfl, by decide, by decide, by decide +kernel⟩
theorem mvV_12_plansOf : lu_MV RX12 yX12_plansOf cX12_plansOf 4 (some .int) 2 := ⟨qc_12_plansOf, qi_12_plansOf, ql_12_12_plansOf_12_plansOf, qn_LeftUndoesModel, rfl, by decide, by decide, by decide +kernel⟩
theorem mvV_12_played : lu_MV RX12 yX12_played cX12_played 9 (some .int) 3 := ⟨qc_12_played, qi_12_played, ql_12_12_played_12_played, qn_LeftUndoesModel, rfl, by decide, by decide, by decide +kernel⟩
theorem mvV_12_pulls : lu_MV RX12 yX12_pulls cX12_pulls 2 (some .int) 1 := ⟨qc_12_pulls, qi_12_pulls, ql_12_12_pulls_12_pulls, qn_LeftUndoesModel, rfl, by decide, by decide, by decide +kernel⟩
theorem mvV_12_puts : lu_MV RX12 yX12_puts cX12_puts 2 none 0 := ⟨qc_12_puts, qi_12_puts, ql_12_12_puts_12_puts, qn_LeftUndoesModel, rfl, by decide, by decide, by decide +kernel⟩
theorem mvV_12_putsBack : lu_MV RX12 yX12_putsBack cX12_putsBack 2 none 0 := ⟨qc_12_putsBack, qi_12_putsBack, ql_12_12_putsBack_12_putsBack, qn_LeftUndoesModel, rfl, by decide, by decide, by decide +kernel⟩
theorem mvV_12_rest : lu_MV RX12 yX12_rest cX12_rest 4 (some .int) 1 := ⟨qc_12_rest, qi_12_rest, ql_12_12_rest_12_rest, qn_LeftUndoesModel, rfl, by decide, by decide, by decide +kernel⟩
theorem mvV_12_rule : lu_MV RX12 yX12_rule cX12_rule 7 none 0 := ⟨qc_12_rule, qi_12_rule, ql_12_12_rule_12_rule, qn_LeftUndoesModel, rfl, by decide, by decide, by decide +kernel⟩
theorem mvV_12_runs : lu_MV RX12 yX12_runs cX12_runs 2 none 1 := ⟨qc_12_runs, qi_12_runs, ql_12_12_runs_12_runs, qn_LeftUndoesModel, rfl, by decide, by decide, by decide +kernel⟩
theorem mvV_12_saves : lu_MV RX12 yX12_saves cX12_saves 3 none 1 := ⟨qc_12_saves, qi_12_saves, ql_12_12_saves_12_saves, qn_LeftUndoesModel, rfl, by decide, by decide, by decide +kernel⟩
theorem mvV_12_splits : lu_MV RX12 yX12_splits cX12_splits 3 (some .int) 1 := ⟨qc_12_splits, qi_12_splits, ql_12_12_splits_12_splits, qn_LeftUndoesModel, rfl, by decide, by decide, by decide +kernel⟩
theorem mvV_12_standWeight : lu_MV RX12 yX12_standWeight cX12_standWeight 4 (some .int) 1 := ⟨qc_12_standWeight, qi_12_standWeight, ql_12_12_standWeight_12_standWeight, qn_LeftUndoesModel, rfl, by decide, by decide, by decide +kernel⟩
theorem mvV_12_swears : lu_MV RX12 yX12_swears cX12_swears 3 (some .int) 1 := ⟨qc_12_swears, qi_12_swears, ql_12_12_swears_12_swears, qn_LeftUndoesModel, rfl, by decide, by decide, by decide +kernel⟩
theorem mvV_12_takes : lu_MV RX12 yX12_takes cX12_takes 4 (some .int) 1 := ⟨qc_12_takes, qi_12_takes, ql_12_12_takes_12_takes, qn_LeftUndoesModel, rfl, by decide, by decide, by decide +kernel⟩
theorem mvV_12_takesBack : lu_MV RX12 yX12_takesBack cX12_takesBack 3 none 1 := ⟨qc_12_takesBack, qi_12_takesBack, ql_12_12_takesBack_12_takesBack, qn_LeftUndoesModel, rfl, by decide, by decide, by decide +kernel⟩
theorem mvV_12_those : lu_MV RX12 yX12_those cX12_those 4 (some .int) 1 := ⟨qc_12_those, qi_12_those, ql_12_12_those_12_those, qn_LeftUndoesModel, rfl, by decide, by decide, by decide +kernel⟩
theorem mvV_12_token : lu_MV RX12 yX12_token cX12_token 3 none 0 := ⟨qc_12_token, qi_12_token, ql_12_12_token_12_token, qn_LeftUndoesModel, rfl, by decide, by decide, by decide +kernel⟩
theorem mvV_12_traced : lu_MV RX12 yX12_traced cX12_traced 1 (some .int) 0 := ⟨qc_12_traced, qi_12_traced, ql_12_12_traced_12_traced, qn_LeftUndoesModel, rfl, by decide, by decide, by decide +kernel⟩
theorem mvV_12_undo : lu_MV RX12 yX12_undo cX12_undo 5 none 1 := ⟨qc_12_undo, qi_12_undo, ql_12_12_undo_12_undo, qn_LeftUndoesModel, rfl, by decide, by decide, by decide +kernel⟩
theorem mvV_12_valueHere : lu_MV RX12 yX12_valueHere cX12_valueHere 2 none 0 := ⟨qc_12_valueHere, qi_12_valueHere, ql_12_12_valueHere_12_valueHere, qn_LeftUndoesModel, rfl, by decide, by decide, by decide +kernel⟩
theorem mvV_12_wants : lu_MV RX12 yX12_wants cX12_wants 2 none 1 := ⟨qc_12_wants, qi_12_wants, ql_12_12_wants_12_wants, qn_LeftUndoesModel, rfl, by decide, by decide, by decide +kernel⟩
theorem mvV_12_whyNot : lu_MV RX12 yX12_whyNot cX12_whyNot 3 (some .int) 2 := ⟨qc_12_whyNot, qi_12_whyNot, ql_12_12_whyNot_12_whyNot, qn_LeftUndoesModel, rfl, by decide, by decide, by decide +kernel⟩
theorem mvV_12_word : lu_MV RX12 yX12_word cX12_word 4 (some .long) 0 := ⟨qc_12_word, qi_12_word, ql_12_12_word_12_word, qn_LeftUndoesModel, rfl, by decide, by decide, by decide +kernel⟩
theorem mvV_12_writes : lu_MV RX12 yX12_writes cX12_writes 2 none 1 := ⟨qc_12_writes, qi_12_writes, ql_12_12_writes_12_writes, qn_LeftUndoesModel, rfl, by decide, by decide, by decide +kernel⟩
theorem mvV_12_yearsOf : lu_MV RX12 yX12_yearsOf cX12_yearsOf 3 (some .int) 1 := ⟨qc_12_yearsOf, qi_12_yearsOf, ql_12_12_yearsOf_12_yearsOf, qn_LeftUndoesModel, rfl, by decide, by decide, by decide +kernel⟩
theorem mvV_1_begin : lu_MV RX1 yX1_begin cX1_begin 2 none 1 := ⟨qc_1_begin, qi_1_begin, ql_1_1_begin_1_begin, qn_LeftUndoes_Course, rfl, by decide, by decide, by decide +kernel⟩
theorem mvV_1_clear : lu_MV RX1 yX1_clear cX1_clear 1 none 0 := ⟨qc_1_clear, qi_1_clear, ql_1_1_clear_1_clear, qn_LeftUndoes_Course, rfl, by decide, by decide, by decide +kernel⟩
theorem mvV_1_copy : lu_MV RX1 yX1_copy cX1_copy 2 none 1 := ⟨qc_1_copy, qi_1_copy, ql_1_1_copy_1_copy, qn_LeftUndoes_Course, rfl, by decide, by decide, by decide +kernel⟩
theorem mvV_1_how : lu_MV RX1 yX1_how cX1_how 2 (some .int) 1 := ⟨qc_1_how, qi_1_how, ql_1_1_how_1_how, qn_LeftUndoes_Course, rfl, by decide, by decide, by decide +kernel⟩
theorem mvV_1_isGone : lu_MV RX1 yX1_isGone cX1_isGone 2 (some .boolean) 1 := ⟨qc_1_isGone, qi_1_isGone, ql_1_1_isGone_1_isGone, qn_LeftUndoes_Course, rfl, by decide, by decide, by decide +kernel⟩
theorem mvV_1_isStanding : lu_MV RX1 yX1_isStanding cX1_isStanding 2 (some .boolean) 1 := ⟨qc_1_isStanding, qi_1_isStanding, ql_1_1_isStanding_1_isStanding, qn_LeftUndoes_Course, rfl, by decide, by decide, by decide +kernel⟩
theorem mvV_5_playedOut : lu_MV RX5 yX5_playedOut cX5_playedOut 2 (some .int) 1 := ⟨qc_5_playedOut, qi_5_playedOut, ql_5_5_playedOut_5_playedOut, qn_LeftUndoes_Plans, rfl, by decide, by decide, by decide +kernel⟩
theorem mvV_5_start : lu_MV RX5 yX5_start cX5_start 3 none 1 := ⟨qc_5_start, qi_5_start, ql_5_5_start_5_start, qn_LeftUndoes_Plans, rfl, by decide, by decide, by decide +kernel⟩
theorem mvV_5_tryAll : lu_MV RX5 yX5_tryAll cX5_tryAll 3 none 2 := ⟨qc_5_tryAll, qi_5_tryAll, ql_5_5_tryAll_5_tryAll, qn_LeftUndoes_Plans, rfl, by decide, by decide, by decide +kernel⟩
theorem mvV_5_tryFrom : lu_MV RX5 yX5_tryFrom cX5_tryFrom 4 none 2 := ⟨qc_5_tryFrom, qi_5_tryFrom, ql_5_5_tryFrom_5_tryFrom, qn_LeftUndoes_Plans, rfl, by decide, by decide, by decide +kernel⟩
theorem mvV_5_valueFrom : lu_MV RX5 yX5_valueFrom cX5_valueFrom 5 (some .int) 1 := ⟨qc_5_valueFrom, qi_5_valueFrom, ql_5_5_valueFrom_5_valueFrom, qn_LeftUndoes_Plans, rfl, by decide, by decide, by decide +kernel⟩
theorem mvV_5_weigh : lu_MV RX5 yX5_weigh cX5_weigh 4 none 2 := ⟨qc_5_weigh, qi_5_weigh, ql_5_5_weigh_5_weigh, qn_LeftUndoes_Plans, rfl, by decide, by decide, by decide +kernel⟩
theorem mvV_6_add : lu_MV RX6 yX6_add cX6_add 2 none 1 := ⟨qc_6_add, qi_6_add, ql_6_6_add_6_add, qn_LeftUndoes_Rules, rfl, by decide, by decide, by decide +kernel⟩
theorem mvV_6_clear : lu_MV RX6 yX6_clear cX6_clear 1 none 0 := ⟨qc_6_clear, qi_6_clear, ql_6_6_clear_6_clear, qn_LeftUndoes_Rules, rfl, by decide, by decide, by decide +kernel⟩
theorem mvV_6_close : lu_MV RX6 yX6_close cX6_close 4 none 3 := ⟨qc_6_close, qi_6_close, ql_6_6_close_6_close, qn_LeftUndoes_Rules, rfl, by decide, by decide, by decide +kernel⟩
theorem mvV_6_copy : lu_MV RX6 yX6_copy cX6_copy 3 none 1 := ⟨qc_6_copy, qi_6_copy, ql_6_6_copy_6_copy, qn_LeftUndoes_Rules, rfl, by decide, by decide, by decide +kernel⟩
theorem mvV_6_holds : lu_MV RX6 yX6_holds cX6_holds 6 (some .boolean) 2 := ⟨qc_6_holds, qi_6_holds, ql_6_6_holds_6_holds, qn_LeftUndoes_Rules, rfl, by decide, by decide, by decide +kernel⟩
theorem mvV_8_advance : lu_MV RX8 yX8_advance cX8_advance 3 none 0 := ⟨qc_8_advance, qi_8_advance, ql_8_8_advance_8_advance, qn_LeftUndoes_Teller, rfl, by decide, by decide, by decide +kernel⟩
theorem mvV_8_doNamed : lu_MV RX8 yX8_doNamed cX8_doNamed 1 (some .int) 0 := ⟨qc_8_doNamed, qi_8_doNamed, ql_8_8_doNamed_8_doNamed, qn_LeftUndoes_Teller, rfl, by decide, by decide, by decide +kernel⟩
theorem mvV_8_isAt : lu_MV RX8 yX8_isAt cX8_isAt 4 (some .boolean) 3 := ⟨qc_8_isAt, qi_8_isAt, ql_8_8_isAt_8_isAt, qn_LeftUndoes_Teller, rfl, by decide, by decide, by decide +kernel⟩
theorem mvV_8_isByte : lu_MV RX8 yX8_isByte cX8_isByte 2 (some .boolean) 1 := ⟨qc_8_isByte, qi_8_isByte, ql_8_8_isByte_8_isByte, qn_LeftUndoes_Teller, rfl, by decide, by decide, by decide +kernel⟩
theorem mvV_8_isNamed : lu_MV RX8 yX8_isNamed cX8_isNamed 3 (some .boolean) 1 := ⟨qc_8_isNamed, qi_8_isNamed, ql_8_8_isNamed_8_isNamed, qn_LeftUndoes_Teller, rfl, by decide, by decide, by decide +kernel⟩
theorem mvV_8_kindNamed : lu_MV RX8 yX8_kindNamed cX8_kindNamed 1 (some .int) 0 := ⟨qc_8_kindNamed, qi_8_kindNamed, ql_8_8_kindNamed_8_kindNamed, qn_LeftUndoes_Teller, rfl, by decide, by decide, by decide +kernel⟩
theorem mvV_8_numberRead : lu_MV RX8 yX8_numberRead cX8_numberRead 3 (some .int) 0 := ⟨qc_8_numberRead, qi_8_numberRead, ql_8_8_numberRead_8_numberRead, qn_LeftUndoes_Teller, rfl, by decide, by decide, by decide +kernel⟩
theorem mvV_8_tellAll : lu_MV RX8 yX8_tellAll cX8_tellAll 3 (some .int) 0 := ⟨qc_8_tellAll, qi_8_tellAll, ql_8_8_tellAll_8_tellAll, qn_LeftUndoes_Teller, rfl, by decide, by decide, by decide +kernel⟩
theorem mvV_8_tellAllOf : lu_MV RX8 yX8_tellAllOf cX8_tellAllOf 3 (some .boolean) 1 := ⟨qc_8_tellAllOf, qi_8_tellAllOf, ql_8_8_tellAllOf_8_tellAllOf, qn_LeftUndoes_Teller, rfl, by decide, by decide, by decide +kernel⟩
theorem mvV_8_tellComparison : lu_MV RX8 yX8_tellComparison cX8_tellComparison 4 (some .boolean) 0 := ⟨qc_8_tellComparison, qi_8_tellComparison, ql_8_8_tellComparison_8_tellComparison, qn_LeftUndoes_Teller, rfl, by decide, by decide, by decide +kernel⟩
theorem mvV_8_tellCondition : lu_MV RX8 yX8_tellCondition cX8_tellCondition 3 (some .boolean) 1 := ⟨qc_8_tellCondition, qi_8_tellCondition, ql_8_8_tellCondition_8_tellCondition, qn_LeftUndoes_Teller, rfl, by decide, by decide, by decide +kernel⟩
theorem mvV_8_tellOne : lu_MV RX8 yX8_tellOne cX8_tellOne 4 (some .boolean) 1 := ⟨qc_8_tellOne, qi_8_tellOne, ql_8_8_tellOne_8_tellOne, qn_LeftUndoes_Teller, rfl, by decide, by decide, by decide +kernel⟩
theorem mvV_8_tellRule : lu_MV RX8 yX8_tellRule cX8_tellRule 4 (some .boolean) 0 := ⟨qc_8_tellRule, qi_8_tellRule, ql_8_8_tellRule_8_tellRule, qn_LeftUndoes_Teller, rfl, by decide, by decide, by decide +kernel⟩
theorem mvV_8_valueNamed : lu_MV RX8 yX8_valueNamed cX8_valueNamed 1 (some .int) 0 := ⟨qc_8_valueNamed, qi_8_valueNamed, ql_8_8_valueNamed_8_valueNamed, qn_LeftUndoes_Teller, rfl, by decide, by decide, by decide +kernel⟩

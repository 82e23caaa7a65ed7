/-! THE LAW: its loop -/
theorem dL_law_18 : decode cL_law 18 = .ok (.iload_n 3, 1) := by decide +kernel
theorem dL_law_19 : decode cL_law 19 = .ok (.aload_n 0, 1) := by decide +kernel
theorem dL_law_20 : decode cL_law 20 = .ok (.arraylength, 1) := by decide +kernel
theorem dL_law_21 : decode cL_law 21 = .ok (.iconst 5, 1) := by decide +kernel
theorem dL_law_22 : decode cL_law 22 = .ok (.isub, 1) := by decide +kernel
theorem dL_law_23 : decode cL_law 23 = .ok (.if_icmp .gt 1826, 3) := by decide +kernel
theorem dL_law_26 : decode cL_law 26 = .ok (.aload_n 0, 1) := by decide +kernel
theorem dL_law_27 : decode cL_law 27 = .ok (.iload_n 3, 1) := by decide +kernel
theorem dL_law_28 : decode cL_law 28 = .ok (.iaload, 1) := by decide +kernel
theorem dL_law_29 : decode cL_law 29 = .ok (.bipush 63, 2) := by decide +kernel
theorem dL_law_31 : decode cL_law 31 = .ok (.iand, 1) := by decide +kernel
theorem dL_law_32 : decode cL_law 32 = .ok (.tableswitch 1811 0 54 #[236, 279, 312, 355, 388, 441, 474, 497, 510, 533, 596, 609, 622, 645, 668, 691, 714, 727, 750, 773, 796, 839, 872, 895, 918, 931, 954, 987, 1010, 1043, 1076, 1099, 1122, 1175, 1188, 1211, 1224, 1247, 1260, 1293, 1316, 1349, 1392, 1405, 1448, 1491, 1534, 1577, 1620, 1663, 1696, 1739, 1762, 1785, 1798], 236) := by decide +kernel
theorem dL_law_1843 : decode cL_law 1843 = .ok (.iinc 3 5, 3) := by decide +kernel
theorem dL_law_1846 : decode cL_law 1846 = .ok (.goto (-1828), 3) := by decide +kernel
theorem lw_cmp {L j : Nat} (hL : L ≤ 2560) (hj : j ≤ L) (h : ¬ nI L - 5 < nI j) : j + 5 ≤ L := by
  by_cases h5 : 5 ≤ L
  · have e : nI L - 5 = nI (L - 5) := by
      have e1 : nI L = nI (L - 5) + 5 := by
        have e2 := nI_add (L - 5) 5
        rw [show L - 5 + 5 = L by omega] at e2
        exact e2.symm
      rw [e1]
      exact Int32.add_sub_cancel _ _
    rw [e, nI_ltI (by omega) (by omega)] at h
    omega
  · exfalso
    revert h
    have hL5 : L = 0 ∨ L = 1 ∨ L = 2 ∨ L = 3 ∨ L = 4 := by omega
    have hj5 : j = 0 ∨ j = 1 ∨ j = 2 ∨ j = 3 ∨ j = 4 := by omega
    rcases hL5 with rfl | rfl | rfl | rfl | rfl <;> rcases hj5 with rfl | rfl | rfl | rfl | rfl <;> decide
section LOOP
variable {G : lu_G} {Q : State → Prop} {σ : Nat → Nat} {b L : Nat} {xs : Nat → Int32}
theorem lw_turn {ρ : Nat → Nat} {m n : lu_M} {k z j : Nat} (X : lw_X G 2000 80000 b L xs) (hj : j + 5 ≤ L) (hr : Rel m n) (hk : k + 6 ≤ (lu_R G).cells ∧ z + 36 ≤ (lu_R G).slots) (kk : ∀ (m2 n2 : lu_M) (ρ2 : Nat → Nat), Rel m2 n2 → ρ2 0 = ρ 0 → lw_I G Q 1843 (lw_lv b (ρ 0) (σ 0) (nI j)) [] ρ2 m2 σ n2 (k + 6) (z + 36)) : lw_I G Q 26 (lw_lv b (ρ 0) (σ 0) (nI j)) [] ρ m σ n k z := by
  intro H locs ls hl hP hD hS
  have h5 := X.2.2.2.2
  refine lv_aload_n X.1.hx X.1.hb dL_law_26 rfl (lv_at hl 3 rfl) ?_
  refine lv_iload_n X.1.hx X.1.hb dL_law_27 rfl (lv_at hl 0 rfl) ?_
  refine va_sld X.1.hx X.1.hb X.2.1 X.2.2.1 X.2.2.2.1 hS (vp_in_nI (by omega) (by omega)) dL_law_28 ?_
  refine lv_bipush (v := 63) X.1.hx X.1.hb dL_law_29 (by decide) ?_
  refine lv_iand X.1.hx X.1.hb dL_law_31 ?_
  generalize xs (nI j).toNatClampNeg &&& 63 = x
  by_cases ho : x.toInt < 0 ∨ 54 < x.toInt
  · exact lv_tableOut (tgt := 1843) X.1.hx X.1.hb dL_law_32 ho rfl (lw_I.wide (kk m n ρ hr rfl) H locs ls hl hP hD hS)
  obtain ⟨t, ht, rfl⟩ : ∃ t : Nat, t ≤ 54 ∧ x = nI t := by
    have h1 : ¬ x < 0 := fun h => ho (Or.inl (by have := Int32.lt_iff_toInt_lt.mp h; simpa using this))
    obtain ⟨t, h2, rfl⟩ := nI_of h1
    rw [nI_toInt h2] at ho
    exact ⟨t, by omega, rfl⟩
  clear ho
  match t, ht with
  | 0, _ => exact lv_tableIn (off := 236) (tgt := 268) X.1.hx X.1.hb dL_law_32 (by decide) (by decide) rfl rfl (lw_k0 X hj hr hk kk H locs ls hl hP hD hS)
  | 1, _ => exact lv_tableIn (off := 279) (tgt := 311) X.1.hx X.1.hb dL_law_32 (by decide) (by decide) rfl rfl (lw_k1 X hj hr hk kk H locs ls hl hP hD hS)
  | 2, _ => exact lv_tableIn (off := 312) (tgt := 344) X.1.hx X.1.hb dL_law_32 (by decide) (by decide) rfl rfl (lw_k2 X hj hr hk kk H locs ls hl hP hD hS)
  | 3, _ => exact lv_tableIn (off := 355) (tgt := 387) X.1.hx X.1.hb dL_law_32 (by decide) (by decide) rfl rfl (lw_k3 X hj hr hk kk H locs ls hl hP hD hS)
  | 4, _ => exact lv_tableIn (off := 388) (tgt := 420) X.1.hx X.1.hb dL_law_32 (by decide) (by decide) rfl rfl (lw_k4 X hj hr hk kk H locs ls hl hP hD hS)
  | 5, _ => exact lv_tableIn (off := 441) (tgt := 473) X.1.hx X.1.hb dL_law_32 (by decide) (by decide) rfl rfl (lw_k5 X hj hr hk kk H locs ls hl hP hD hS)
  | 6, _ => exact lv_tableIn (off := 474) (tgt := 506) X.1.hx X.1.hb dL_law_32 (by decide) (by decide) rfl rfl (lw_k6 X hj hr hk kk H locs ls hl hP hD hS)
  | 7, _ => exact lv_tableIn (off := 497) (tgt := 529) X.1.hx X.1.hb dL_law_32 (by decide) (by decide) rfl rfl (lw_k7 X hj hr hk kk H locs ls hl hP hD hS)
  | 8, _ => exact lv_tableIn (off := 510) (tgt := 542) X.1.hx X.1.hb dL_law_32 (by decide) (by decide) rfl rfl (lw_k8 X hj hr hk kk H locs ls hl hP hD hS)
  | 9, _ => exact lv_tableIn (off := 533) (tgt := 565) X.1.hx X.1.hb dL_law_32 (by decide) (by decide) rfl rfl (lw_k9 X hj hr hk kk H locs ls hl hP hD hS)
  | 10, _ => exact lv_tableIn (off := 596) (tgt := 628) X.1.hx X.1.hb dL_law_32 (by decide) (by decide) rfl rfl (lw_k10 X hj hr hk kk H locs ls hl hP hD hS)
  | 11, _ => exact lv_tableIn (off := 609) (tgt := 641) X.1.hx X.1.hb dL_law_32 (by decide) (by decide) rfl rfl (lw_k11 X hj hr hk kk H locs ls hl hP hD hS)
  | 12, _ => exact lv_tableIn (off := 622) (tgt := 654) X.1.hx X.1.hb dL_law_32 (by decide) (by decide) rfl rfl (lw_k12 X hj hr hk kk H locs ls hl hP hD hS)
  | 13, _ => exact lv_tableIn (off := 645) (tgt := 677) X.1.hx X.1.hb dL_law_32 (by decide) (by decide) rfl rfl (lw_k13 X hj hr hk kk H locs ls hl hP hD hS)
  | 14, _ => exact lv_tableIn (off := 668) (tgt := 700) X.1.hx X.1.hb dL_law_32 (by decide) (by decide) rfl rfl (lw_k14 X hj hr hk kk H locs ls hl hP hD hS)
  | 15, _ => exact lv_tableIn (off := 691) (tgt := 723) X.1.hx X.1.hb dL_law_32 (by decide) (by decide) rfl rfl (lw_k15 X hj hr hk kk H locs ls hl hP hD hS)
  | 16, _ => exact lv_tableIn (off := 714) (tgt := 746) X.1.hx X.1.hb dL_law_32 (by decide) (by decide) rfl rfl (lw_k16 X hj hr hk kk H locs ls hl hP hD hS)
  | 17, _ => exact lv_tableIn (off := 727) (tgt := 759) X.1.hx X.1.hb dL_law_32 (by decide) (by decide) rfl rfl (lw_k17 X hj hr hk kk H locs ls hl hP hD hS)
  | 18, _ => exact lv_tableIn (off := 750) (tgt := 782) X.1.hx X.1.hb dL_law_32 (by decide) (by decide) rfl rfl (lw_k18 X hj hr hk kk H locs ls hl hP hD hS)
  | 19, _ => exact lv_tableIn (off := 773) (tgt := 805) X.1.hx X.1.hb dL_law_32 (by decide) (by decide) rfl rfl (lw_k19 X hj hr hk kk H locs ls hl hP hD hS)
  | 20, _ => exact lv_tableIn (off := 796) (tgt := 828) X.1.hx X.1.hb dL_law_32 (by decide) (by decide) rfl rfl (lw_k20 X hj hr hk kk H locs ls hl hP hD hS)
  | 21, _ => exact lv_tableIn (off := 839) (tgt := 871) X.1.hx X.1.hb dL_law_32 (by decide) (by decide) rfl rfl (lw_k21 X hj hr hk kk H locs ls hl hP hD hS)
  | 22, _ => exact lv_tableIn (off := 872) (tgt := 904) X.1.hx X.1.hb dL_law_32 (by decide) (by decide) rfl rfl (lw_k22 X hj hr hk kk H locs ls hl hP hD hS)
  | 23, _ => exact lv_tableIn (off := 895) (tgt := 927) X.1.hx X.1.hb dL_law_32 (by decide) (by decide) rfl rfl (lw_k23 X hj hr hk kk H locs ls hl hP hD hS)
  | 24, _ => exact lv_tableIn (off := 918) (tgt := 950) X.1.hx X.1.hb dL_law_32 (by decide) (by decide) rfl rfl (lw_k24 X hj hr hk kk H locs ls hl hP hD hS)
  | 25, _ => exact lv_tableIn (off := 931) (tgt := 963) X.1.hx X.1.hb dL_law_32 (by decide) (by decide) rfl rfl (lw_k25 X hj hr hk kk H locs ls hl hP hD hS)
  | 26, _ => exact lv_tableIn (off := 954) (tgt := 986) X.1.hx X.1.hb dL_law_32 (by decide) (by decide) rfl rfl (lw_k26 X hj hr hk kk H locs ls hl hP hD hS)
  | 27, _ => exact lv_tableIn (off := 987) (tgt := 1019) X.1.hx X.1.hb dL_law_32 (by decide) (by decide) rfl rfl (lw_k27 X hj hr hk kk H locs ls hl hP hD hS)
  | 28, _ => exact lv_tableIn (off := 1010) (tgt := 1042) X.1.hx X.1.hb dL_law_32 (by decide) (by decide) rfl rfl (lw_k28 X hj hr hk kk H locs ls hl hP hD hS)
  | 29, _ => exact lv_tableIn (off := 1043) (tgt := 1075) X.1.hx X.1.hb dL_law_32 (by decide) (by decide) rfl rfl (lw_k29 X hj hr hk kk H locs ls hl hP hD hS)
  | 30, _ => exact lv_tableIn (off := 1076) (tgt := 1108) X.1.hx X.1.hb dL_law_32 (by decide) (by decide) rfl rfl (lw_k30 X hj hr hk kk H locs ls hl hP hD hS)
  | 31, _ => exact lv_tableIn (off := 1099) (tgt := 1131) X.1.hx X.1.hb dL_law_32 (by decide) (by decide) rfl rfl (lw_k31 X hj hr hk kk H locs ls hl hP hD hS)
  | 32, _ => exact lv_tableIn (off := 1122) (tgt := 1154) X.1.hx X.1.hb dL_law_32 (by decide) (by decide) rfl rfl (lw_k32 X hj hr hk kk H locs ls hl hP hD hS)
  | 33, _ => exact lv_tableIn (off := 1175) (tgt := 1207) X.1.hx X.1.hb dL_law_32 (by decide) (by decide) rfl rfl (lw_k33 X hj hr hk kk H locs ls hl hP hD hS)
  | 34, _ => exact lv_tableIn (off := 1188) (tgt := 1220) X.1.hx X.1.hb dL_law_32 (by decide) (by decide) rfl rfl (lw_k34 X hj hr hk kk H locs ls hl hP hD hS)
  | 35, _ => exact lv_tableIn (off := 1211) (tgt := 1243) X.1.hx X.1.hb dL_law_32 (by decide) (by decide) rfl rfl (lw_k35 X hj hr hk kk H locs ls hl hP hD hS)
  | 36, _ => exact lv_tableIn (off := 1224) (tgt := 1256) X.1.hx X.1.hb dL_law_32 (by decide) (by decide) rfl rfl (lw_k36 X hj hr hk kk H locs ls hl hP hD hS)
  | 37, _ => exact lv_tableIn (off := 1247) (tgt := 1279) X.1.hx X.1.hb dL_law_32 (by decide) (by decide) rfl rfl (lw_k37 X hj hr hk kk H locs ls hl hP hD hS)
  | 38, _ => exact lv_tableIn (off := 1260) (tgt := 1292) X.1.hx X.1.hb dL_law_32 (by decide) (by decide) rfl rfl (lw_k38 X hj hr hk kk H locs ls hl hP hD hS)
  | 39, _ => exact lv_tableIn (off := 1293) (tgt := 1325) X.1.hx X.1.hb dL_law_32 (by decide) (by decide) rfl rfl (lw_k39 X hj hr hk kk H locs ls hl hP hD hS)
  | 40, _ => exact lv_tableIn (off := 1316) (tgt := 1348) X.1.hx X.1.hb dL_law_32 (by decide) (by decide) rfl rfl (lw_k40 X hj hr hk kk H locs ls hl hP hD hS)
  | 41, _ => exact lv_tableIn (off := 1349) (tgt := 1381) X.1.hx X.1.hb dL_law_32 (by decide) (by decide) rfl rfl (lw_k41 X hj hr hk kk H locs ls hl hP hD hS)
  | 42, _ => exact lv_tableIn (off := 1392) (tgt := 1424) X.1.hx X.1.hb dL_law_32 (by decide) (by decide) rfl rfl (lw_k42 X hj hr hk kk H locs ls hl hP hD hS)
  | 43, _ => exact lv_tableIn (off := 1405) (tgt := 1437) X.1.hx X.1.hb dL_law_32 (by decide) (by decide) rfl rfl (lw_k43 X hj hr hk kk H locs ls hl hP hD hS)
  | 44, _ => exact lv_tableIn (off := 1448) (tgt := 1480) X.1.hx X.1.hb dL_law_32 (by decide) (by decide) rfl rfl (lw_k44 X hj hr hk kk H locs ls hl hP hD hS)
  | 45, _ => exact lv_tableIn (off := 1491) (tgt := 1523) X.1.hx X.1.hb dL_law_32 (by decide) (by decide) rfl rfl (lw_k45 X hj hr hk kk H locs ls hl hP hD hS)
  | 46, _ => exact lv_tableIn (off := 1534) (tgt := 1566) X.1.hx X.1.hb dL_law_32 (by decide) (by decide) rfl rfl (lw_k46 X hj hr hk kk H locs ls hl hP hD hS)
  | 47, _ => exact lv_tableIn (off := 1577) (tgt := 1609) X.1.hx X.1.hb dL_law_32 (by decide) (by decide) rfl rfl (lw_k47 X hj hr hk kk H locs ls hl hP hD hS)
  | 48, _ => exact lv_tableIn (off := 1620) (tgt := 1652) X.1.hx X.1.hb dL_law_32 (by decide) (by decide) rfl rfl (lw_k48 X hj hr hk kk H locs ls hl hP hD hS)
  | 49, _ => exact lv_tableIn (off := 1663) (tgt := 1695) X.1.hx X.1.hb dL_law_32 (by decide) (by decide) rfl rfl (lw_k49 X hj hr hk kk H locs ls hl hP hD hS)
  | 50, _ => exact lv_tableIn (off := 1696) (tgt := 1728) X.1.hx X.1.hb dL_law_32 (by decide) (by decide) rfl rfl (lw_k50 X hj hr hk kk H locs ls hl hP hD hS)
  | 51, _ => exact lv_tableIn (off := 1739) (tgt := 1771) X.1.hx X.1.hb dL_law_32 (by decide) (by decide) rfl rfl (lw_k51 X hj hr hk kk H locs ls hl hP hD hS)
  | 52, _ => exact lv_tableIn (off := 1762) (tgt := 1794) X.1.hx X.1.hb dL_law_32 (by decide) (by decide) rfl rfl (lw_k52 X hj hr hk kk H locs ls hl hP hD hS)
  | 53, _ => exact lv_tableIn (off := 1785) (tgt := 1817) X.1.hx X.1.hb dL_law_32 (by decide) (by decide) rfl rfl (lw_k53 X hj hr hk kk H locs ls hl hP hD hS)
  | 54, _ => exact lv_tableIn (off := 1798) (tgt := 1830) X.1.hx X.1.hb dL_law_32 (by decide) (by decide) rfl rfl (lw_k54 X hj hr hk kk H locs ls hl hP hD hS)
  | t + 55, h => omega
theorem lw_loop {u1 C Z : Nat} (X : lw_X G 2000 80000 b L xs) (hC : C ≤ (lu_R G).cells ∧ Z ≤ (lu_R G).slots) (hend : ∀ (ρ : Nat → Nat) (m n : lu_M) (k z : Nat) (i : Int32), k ≤ C → z ≤ Z → lw_I G Q 1849 (lw_lv b u1 (σ 0) i) [] ρ m σ n k z) : ∀ (N : Nat) (ρ : Nat → Nat) (m n : lu_M) (k z j : Nat), ρ 0 = u1 → j ≤ L → L < j + 5 * (N + 1) → Rel m n → k + 6 * N ≤ C → z + 36 * N ≤ Z → lw_I G Q 18 (lw_lv b u1 (σ 0) (nI j)) [] ρ m σ n k z := by
  intro N
  induction N with
  | zero =>
    intro ρ m n k z j hu hj hN hr hk hz H locs ls hl hP hD hS
    have h5 := X.2.2.2.2
    refine lv_iload_n X.1.hx X.1.hb dL_law_18 rfl (lv_at hl 0 rfl) ?_
    refine lv_aload_n X.1.hx X.1.hb dL_law_19 rfl (lv_at hl 3 rfl) ?_
    refine va_slen X.1.hx X.1.hb X.2.1 X.2.2.1 X.2.2.2.1 hS dL_law_20 ?_
    refine lv_iconst (v := 5) X.1.hx X.1.hb dL_law_21 (by decide) ?_
    refine lv_isub X.1.hx X.1.hb dL_law_22 ?_
    refine lv_icmp_gt (tgt := 1849) X.1.hx X.1.hb dL_law_23 rfl (fun _ => hend ρ m n k z _ (by omega) (by omega) H locs ls hl hP hD hS) (fun h => ?_)
    have := lw_cmp h5 hj h
    omega
  | succ N ih =>
    intro ρ m n k z j hu hj hN hr hk hz H locs ls hl hP hD hS
    have h5 := X.2.2.2.2
    refine lv_iload_n X.1.hx X.1.hb dL_law_18 rfl (lv_at hl 0 rfl) ?_
    refine lv_aload_n X.1.hx X.1.hb dL_law_19 rfl (lv_at hl 3 rfl) ?_
    refine va_slen X.1.hx X.1.hb X.2.1 X.2.2.1 X.2.2.2.1 hS dL_law_20 ?_
    refine lv_iconst (v := 5) X.1.hx X.1.hb dL_law_21 (by decide) ?_
    refine lv_isub X.1.hx X.1.hb dL_law_22 ?_
    refine lv_icmp_gt (tgt := 1849) X.1.hx X.1.hb dL_law_23 rfl (fun _ => hend ρ m n k z _ (by omega) (by omega) H locs ls hl hP hD hS) (fun h => ?_)
    have hj5 := lw_cmp h5 hj h
    subst hu
    refine lw_turn X hj5 hr ⟨by omega, by omega⟩ (fun m2 n2 ρ2 hr2 hρ2 => ?_) H locs ls hl hP hD hS
    intro H locs ls hl hP hD hS
    refine lv_iinc (v := nI (j + 5)) (lv' := lw_lv b (ρ 0) (σ 0) (nI (j + 5))) (k := 0) X.1.hx X.1.hb dL_law_1843 hl rfl (nI_add j 5) (by decide) rfl (fun ls hl => ?_)
    refine lv_goto (tgt := 18) X.1.hx X.1.hb dL_law_1846 rfl ?_
    exact ih ρ2 m2 n2 (k + 6) (z + 36) (j + 5) hρ2 hj5 (by omega) hr2 (by omega) (by omega) H locs ls hl hP hD hS
end LOOP

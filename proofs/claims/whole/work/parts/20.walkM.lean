/-! WALKS of methods (written by a program out of their instructions): functions of the memory, and contracts -/
theorem dX12_kindHere_0 : decode cX12_kindHere 0 = .ok (.aload_n 0, 1) := by decide +kernel
theorem dX12_kindHere_1 : decode cX12_kindHere 1 = .ok (.invokevirtual 321, 3) := by decide +kernel
theorem dX12_kindHere_4 : decode cX12_kindHere 4 = .ok (.lstore_n 1, 1) := by decide +kernel
theorem dX12_kindHere_5 : decode cX12_kindHere 5 = .ok (.lload_n 1, 1) := by decide +kernel
theorem dX12_kindHere_6 : decode cX12_kindHere 6 = .ok (.ldc2_w 325, 3) := by decide +kernel
theorem dX12_kindHere_9 : decode cX12_kindHere 9 = .ok (.lcmp, 1) := by decide +kernel
theorem dX12_kindHere_10 : decode cX12_kindHere 10 = .ok (.ifCond .ne 7, 3) := by decide +kernel
theorem dX12_kindHere_13 : decode cX12_kindHere 13 = .ok (.iconst 0, 1) := by decide +kernel
theorem dX12_kindHere_14 : decode cX12_kindHere 14 = .ok (.goto 64, 3) := by decide +kernel
theorem dX12_kindHere_17 : decode cX12_kindHere 17 = .ok (.lload_n 1, 1) := by decide +kernel
theorem dX12_kindHere_18 : decode cX12_kindHere 18 = .ok (.ldc2_w 327, 3) := by decide +kernel
theorem dX12_kindHere_21 : decode cX12_kindHere 21 = .ok (.lcmp, 1) := by decide +kernel
theorem dX12_kindHere_22 : decode cX12_kindHere 22 = .ok (.ifCond .ne 7, 3) := by decide +kernel
theorem dX12_kindHere_25 : decode cX12_kindHere 25 = .ok (.iconst 1, 1) := by decide +kernel
theorem dX12_kindHere_26 : decode cX12_kindHere 26 = .ok (.goto 52, 3) := by decide +kernel
theorem dX12_kindHere_29 : decode cX12_kindHere 29 = .ok (.lload_n 1, 1) := by decide +kernel
theorem dX12_kindHere_30 : decode cX12_kindHere 30 = .ok (.ldc2_w 329, 3) := by decide +kernel
theorem dX12_kindHere_33 : decode cX12_kindHere 33 = .ok (.lcmp, 1) := by decide +kernel
theorem dX12_kindHere_34 : decode cX12_kindHere 34 = .ok (.ifCond .ne 7, 3) := by decide +kernel
theorem dX12_kindHere_37 : decode cX12_kindHere 37 = .ok (.iconst 2, 1) := by decide +kernel
theorem dX12_kindHere_38 : decode cX12_kindHere 38 = .ok (.goto 40, 3) := by decide +kernel
theorem dX12_kindHere_41 : decode cX12_kindHere 41 = .ok (.lload_n 1, 1) := by decide +kernel
theorem dX12_kindHere_42 : decode cX12_kindHere 42 = .ok (.ldc2_w 331, 3) := by decide +kernel
theorem dX12_kindHere_45 : decode cX12_kindHere 45 = .ok (.lcmp, 1) := by decide +kernel
theorem dX12_kindHere_46 : decode cX12_kindHere 46 = .ok (.ifCond .ne 7, 3) := by decide +kernel
theorem dX12_kindHere_49 : decode cX12_kindHere 49 = .ok (.iconst 3, 1) := by decide +kernel
theorem dX12_kindHere_50 : decode cX12_kindHere 50 = .ok (.goto 28, 3) := by decide +kernel
theorem dX12_kindHere_53 : decode cX12_kindHere 53 = .ok (.lload_n 1, 1) := by decide +kernel
theorem dX12_kindHere_54 : decode cX12_kindHere 54 = .ok (.ldc2_w 333, 3) := by decide +kernel
theorem dX12_kindHere_57 : decode cX12_kindHere 57 = .ok (.lcmp, 1) := by decide +kernel
theorem dX12_kindHere_58 : decode cX12_kindHere 58 = .ok (.ifCond .ne 7, 3) := by decide +kernel
theorem dX12_kindHere_61 : decode cX12_kindHere 61 = .ok (.iconst 4, 1) := by decide +kernel
theorem dX12_kindHere_62 : decode cX12_kindHere 62 = .ok (.goto 16, 3) := by decide +kernel
theorem dX12_kindHere_65 : decode cX12_kindHere 65 = .ok (.lload_n 1, 1) := by decide +kernel
theorem dX12_kindHere_66 : decode cX12_kindHere 66 = .ok (.ldc2_w 335, 3) := by decide +kernel
theorem dX12_kindHere_69 : decode cX12_kindHere 69 = .ok (.lcmp, 1) := by decide +kernel
theorem dX12_kindHere_70 : decode cX12_kindHere 70 = .ok (.ifCond .ne 7, 3) := by decide +kernel
theorem dX12_kindHere_73 : decode cX12_kindHere 73 = .ok (.iconst 5, 1) := by decide +kernel
theorem dX12_kindHere_74 : decode cX12_kindHere 74 = .ok (.goto 4, 3) := by decide +kernel
theorem dX12_kindHere_77 : decode cX12_kindHere 77 = .ok (.iconst (-1), 1) := by decide +kernel
theorem dX12_kindHere_78 : decode cX12_kindHere 78 = .ok (.ireturn, 1) := by decide +kernel
def f12_kindHere_b78   (s0 : Int32) (m : lu_M) : Option (Int32 × lu_M) :=
  some (s0, m)
set_option maxRecDepth 20000 in
theorem w12_kindHere_b78  {G : lu_G} {ρ : Nat → Nat}   (X : lu_X G RX12 cX12_kindHere 3 3 68) (hret : (lu_me G).sig.returnType = (some .int))   : ∀ (s0 : Int32) (m : lu_M), lu_Ab lu_TM G (lu_Q lu_TM G ρ lu_RVi lu_sn) (f12_kindHere_b78  s0 m) 78 [] [.int s0] ρ 0 0 [] m := by
  intro s0 m
  unfold f12_kindHere_b78
  exact lu_iret X hret dX12_kindHere_78
def f12_kindHere  (m : lu_M) : Option (Int32 × lu_M) :=
  lu_bi (f12_word m) fun x1 m2 =>
  if (lg_cmp x1 (263620 : Int64)) = 0 then (f12_kindHere_b78 (0 : Int32) m2)
  else (if (lg_cmp x1 (3625566372 : Int64)) = 0 then (f12_kindHere_b78 (1 : Int32) m2)
  else (if (lg_cmp x1 (217652402 : Int64)) = 0 then (f12_kindHere_b78 (2 : Int32) m2)
  else (if (lg_cmp x1 (679214 : Int64)) = 0 then (f12_kindHere_b78 (3 : Int32) m2)
  else (if (lg_cmp x1 (635383 : Int64)) = 0 then (f12_kindHere_b78 (4 : Int32) m2)
  else (if (lg_cmp x1 (267570 : Int64)) = 0 then (f12_kindHere_b78 (5 : Int32) m2)
  else (f12_kindHere_b78 (-1 : Int32) m2))))))
set_option maxRecDepth 20000 in
theorem c12_kindHere (l : Launch)    : lu_C lu_TM l yX12_kindHere cX12_kindHere 3 (some .int) 3 68 (fun ρ sa => [.ref (ρ 0)]) (f12_kindHere ) lu_RVi lu_sn := by
  refine lu_met (cls := RX12) rfl (by decide +kernel) (fun _ _ => Nat.le_of_ble_eq_true rfl) ?_
  intro G ρ m hl X hret
  subst hl
  change lu_Ab lu_TM G (lu_Q lu_TM G ρ lu_RVi lu_sn) (f12_kindHere  m) 0 [(0, .ref (ρ 0))] [] ρ 0 0 [] m
  unfold f12_kindHere
  refine lu_aload_n X dX12_kindHere_0 (pc2 := 1) rfl rfl 0 rfl ?_
  refine lu_invVl X (c12_word _) rfl q1640 mvV_12_word kM_0 lM_0 (by decide) ⟨_, rfl, rfl⟩ rfl rfl (Nat.le_of_ble_eq_true rfl) (Nat.le_of_ble_eq_true rfl) (Nat.le_of_ble_eq_true rfl) ⟨Nat.zero_le _, Nat.zero_le _⟩ dX12_kindHere_1 (pc2 := 4) rfl rfl (fun x1 m2 => ?_)
  refine lu_lstore_n (lv2 := [(1, .long x1), (0, .ref (ρ 0))]) X dX12_kindHere_4 (pc2 := 5) rfl rfl (by decide) rfl ?_
  refine lu_lload_n X dX12_kindHere_5 (pc2 := 6) rfl rfl 0 rfl ?_
  refine lu_ldc2 X q1646 dX12_kindHere_6 (pc2 := 9) rfl ?_
  refine lu_lcmp X dX12_kindHere_9 (pc2 := 10) rfl ?_
  refine lu_if_ne (tgt := 17) X dX12_kindHere_10 (pc2 := 13) rfl (by decide) (fun _ => ?_) (fun _ => ?_)
  · refine lu_lload_n X dX12_kindHere_17 (pc2 := 18) rfl rfl 0 rfl ?_
    refine lu_ldc2 X q1647 dX12_kindHere_18 (pc2 := 21) rfl ?_
    refine lu_lcmp X dX12_kindHere_21 (pc2 := 22) rfl ?_
    refine lu_if_ne (tgt := 29) X dX12_kindHere_22 (pc2 := 25) rfl (by decide) (fun _ => ?_) (fun _ => ?_)
    · refine lu_lload_n X dX12_kindHere_29 (pc2 := 30) rfl rfl 0 rfl ?_
      refine lu_ldc2 X q1648 dX12_kindHere_30 (pc2 := 33) rfl ?_
      refine lu_lcmp X dX12_kindHere_33 (pc2 := 34) rfl ?_
      refine lu_if_ne (tgt := 41) X dX12_kindHere_34 (pc2 := 37) rfl (by decide) (fun _ => ?_) (fun _ => ?_)
      · refine lu_lload_n X dX12_kindHere_41 (pc2 := 42) rfl rfl 0 rfl ?_
        refine lu_ldc2 X q1649 dX12_kindHere_42 (pc2 := 45) rfl ?_
        refine lu_lcmp X dX12_kindHere_45 (pc2 := 46) rfl ?_
        refine lu_if_ne (tgt := 53) X dX12_kindHere_46 (pc2 := 49) rfl (by decide) (fun _ => ?_) (fun _ => ?_)
        · refine lu_lload_n X dX12_kindHere_53 (pc2 := 54) rfl rfl 0 rfl ?_
          refine lu_ldc2 X q1650 dX12_kindHere_54 (pc2 := 57) rfl ?_
          refine lu_lcmp X dX12_kindHere_57 (pc2 := 58) rfl ?_
          refine lu_if_ne (tgt := 65) X dX12_kindHere_58 (pc2 := 61) rfl (by decide) (fun _ => ?_) (fun _ => ?_)
          · refine lu_lload_n X dX12_kindHere_65 (pc2 := 66) rfl rfl 0 rfl ?_
            refine lu_ldc2 X q1651 dX12_kindHere_66 (pc2 := 69) rfl ?_
            refine lu_lcmp X dX12_kindHere_69 (pc2 := 70) rfl ?_
            refine lu_if_ne (tgt := 77) X dX12_kindHere_70 (pc2 := 73) rfl (by decide) (fun _ => ?_) (fun _ => ?_)
            · refine lu_iconst X dX12_kindHere_77 (pc2 := 78) rfl ic_m1 ?_
              exact lu_sub [] rfl (w12_kindHere_b78 X hret (-1 : Int32) m2)
            · refine lu_iconst X dX12_kindHere_73 (pc2 := 74) rfl ic_5 ?_
              refine lu_goto (tgt := 78) X dX12_kindHere_74 (by decide) ?_
              exact lu_sub [] rfl (w12_kindHere_b78 X hret (5 : Int32) m2)
          · refine lu_iconst X dX12_kindHere_61 (pc2 := 62) rfl ic_4 ?_
            refine lu_goto (tgt := 78) X dX12_kindHere_62 (by decide) ?_
            exact lu_sub [] rfl (w12_kindHere_b78 X hret (4 : Int32) m2)
        · refine lu_iconst X dX12_kindHere_49 (pc2 := 50) rfl ic_3 ?_
          refine lu_goto (tgt := 78) X dX12_kindHere_50 (by decide) ?_
          exact lu_sub [] rfl (w12_kindHere_b78 X hret (3 : Int32) m2)
      · refine lu_iconst X dX12_kindHere_37 (pc2 := 38) rfl ic_2 ?_
        refine lu_goto (tgt := 78) X dX12_kindHere_38 (by decide) ?_
        exact lu_sub [] rfl (w12_kindHere_b78 X hret (2 : Int32) m2)
    · refine lu_iconst X dX12_kindHere_25 (pc2 := 26) rfl ic_1 ?_
      refine lu_goto (tgt := 78) X dX12_kindHere_26 (by decide) ?_
      exact lu_sub [] rfl (w12_kindHere_b78 X hret (1 : Int32) m2)
  · refine lu_iconst X dX12_kindHere_13 (pc2 := 14) rfl ic_0 ?_
    refine lu_goto (tgt := 78) X dX12_kindHere_14 (by decide) ?_
    exact lu_sub [] rfl (w12_kindHere_b78 X hret (0 : Int32) m2)

theorem dX12_factHere_0 : decode cX12_factHere 0 = .ok (.aload_n 0, 1) := by decide +kernel
theorem dX12_factHere_1 : decode cX12_factHere 1 = .ok (.invokevirtual 321, 3) := by decide +kernel
theorem dX12_factHere_4 : decode cX12_factHere 4 = .ok (.lstore_n 1, 1) := by decide +kernel
theorem dX12_factHere_5 : decode cX12_factHere 5 = .ok (.lload_n 1, 1) := by decide +kernel
theorem dX12_factHere_6 : decode cX12_factHere 6 = .ok (.ldc2_w 337, 3) := by decide +kernel
theorem dX12_factHere_9 : decode cX12_factHere 9 = .ok (.lcmp, 1) := by decide +kernel
theorem dX12_factHere_10 : decode cX12_factHere 10 = .ok (.ifCond .ne 7, 3) := by decide +kernel
theorem dX12_factHere_13 : decode cX12_factHere 13 = .ok (.iconst (-1), 1) := by decide +kernel
theorem dX12_factHere_14 : decode cX12_factHere 14 = .ok (.goto 56, 3) := by decide +kernel
theorem dX12_factHere_17 : decode cX12_factHere 17 = .ok (.lload_n 1, 1) := by decide +kernel
theorem dX12_factHere_18 : decode cX12_factHere 18 = .ok (.ldc2_w 339, 3) := by decide +kernel
theorem dX12_factHere_21 : decode cX12_factHere 21 = .ok (.lcmp, 1) := by decide +kernel
theorem dX12_factHere_22 : decode cX12_factHere 22 = .ok (.ifCond .ne 8, 3) := by decide +kernel
theorem dX12_factHere_25 : decode cX12_factHere 25 = .ok (.bipush (-2), 2) := by decide +kernel
theorem dX12_factHere_27 : decode cX12_factHere 27 = .ok (.goto 43, 3) := by decide +kernel
theorem dX12_factHere_30 : decode cX12_factHere 30 = .ok (.lload_n 1, 1) := by decide +kernel
theorem dX12_factHere_31 : decode cX12_factHere 31 = .ok (.ldc2_w 341, 3) := by decide +kernel
theorem dX12_factHere_34 : decode cX12_factHere 34 = .ok (.lcmp, 1) := by decide +kernel
theorem dX12_factHere_35 : decode cX12_factHere 35 = .ok (.ifCond .ne 8, 3) := by decide +kernel
theorem dX12_factHere_38 : decode cX12_factHere 38 = .ok (.bipush (-3), 2) := by decide +kernel
theorem dX12_factHere_40 : decode cX12_factHere 40 = .ok (.goto 30, 3) := by decide +kernel
theorem dX12_factHere_43 : decode cX12_factHere 43 = .ok (.lload_n 1, 1) := by decide +kernel
theorem dX12_factHere_44 : decode cX12_factHere 44 = .ok (.ldc2_w 343, 3) := by decide +kernel
theorem dX12_factHere_47 : decode cX12_factHere 47 = .ok (.lcmp, 1) := by decide +kernel
theorem dX12_factHere_48 : decode cX12_factHere 48 = .ok (.ifCond .ne 8, 3) := by decide +kernel
theorem dX12_factHere_51 : decode cX12_factHere 51 = .ok (.bipush (-4), 2) := by decide +kernel
theorem dX12_factHere_53 : decode cX12_factHere 53 = .ok (.goto 17, 3) := by decide +kernel
theorem dX12_factHere_56 : decode cX12_factHere 56 = .ok (.lload_n 1, 1) := by decide +kernel
theorem dX12_factHere_57 : decode cX12_factHere 57 = .ok (.ldc2_w 345, 3) := by decide +kernel
theorem dX12_factHere_60 : decode cX12_factHere 60 = .ok (.lcmp, 1) := by decide +kernel
theorem dX12_factHere_61 : decode cX12_factHere 61 = .ok (.ifCond .ne 8, 3) := by decide +kernel
theorem dX12_factHere_64 : decode cX12_factHere 64 = .ok (.bipush (-5), 2) := by decide +kernel
theorem dX12_factHere_66 : decode cX12_factHere 66 = .ok (.goto 4, 3) := by decide +kernel
theorem dX12_factHere_69 : decode cX12_factHere 69 = .ok (.iconst 0, 1) := by decide +kernel
theorem dX12_factHere_70 : decode cX12_factHere 70 = .ok (.ireturn, 1) := by decide +kernel
def f12_factHere_b70   (s0 : Int32) (m : lu_M) : Option (Int32 × lu_M) :=
  some (s0, m)
set_option maxRecDepth 20000 in
theorem w12_factHere_b70  {G : lu_G} {ρ : Nat → Nat}   (X : lu_X G RX12 cX12_factHere 3 3 68) (hret : (lu_me G).sig.returnType = (some .int))   : ∀ (s0 : Int32) (m : lu_M), lu_Ab lu_TM G (lu_Q lu_TM G ρ lu_RVi lu_sn) (f12_factHere_b70  s0 m) 70 [] [.int s0] ρ 0 0 [] m := by
  intro s0 m
  unfold f12_factHere_b70
  exact lu_iret X hret dX12_factHere_70
def f12_factHere  (m : lu_M) : Option (Int32 × lu_M) :=
  lu_bi (f12_word m) fun x1 m2 =>
  if (lg_cmp x1 (824370 : Int64)) = 0 then (f12_factHere_b70 (-1 : Int32) m2)
  else (if (lg_cmp x1 (658552979 : Int64)) = 0 then (f12_factHere_b70 (-2 : Int32) m2)
  else (if (lg_cmp x1 (7930981 : Int64)) = 0 then (f12_factHere_b70 (-3 : Int32) m2)
  else (if (lg_cmp x1 (674919554696 : Int64)) = 0 then (f12_factHere_b70 (-4 : Int32) m2)
  else (if (lg_cmp x1 (492210354 : Int64)) = 0 then (f12_factHere_b70 (-5 : Int32) m2)
  else (f12_factHere_b70 (0 : Int32) m2)))))
set_option maxRecDepth 20000 in
theorem c12_factHere (l : Launch)    : lu_C lu_TM l yX12_factHere cX12_factHere 3 (some .int) 3 68 (fun ρ sa => [.ref (ρ 0)]) (f12_factHere ) lu_RVi lu_sn := by
  refine lu_met (cls := RX12) rfl (by decide +kernel) (fun _ _ => Nat.le_of_ble_eq_true rfl) ?_
  intro G ρ m hl X hret
  subst hl
  change lu_Ab lu_TM G (lu_Q lu_TM G ρ lu_RVi lu_sn) (f12_factHere  m) 0 [(0, .ref (ρ 0))] [] ρ 0 0 [] m
  unfold f12_factHere
  refine lu_aload_n X dX12_factHere_0 (pc2 := 1) rfl rfl 0 rfl ?_
  refine lu_invVl X (c12_word _) rfl q1640 mvV_12_word kM_0 lM_0 (by decide) ⟨_, rfl, rfl⟩ rfl rfl (Nat.le_of_ble_eq_true rfl) (Nat.le_of_ble_eq_true rfl) (Nat.le_of_ble_eq_true rfl) ⟨Nat.zero_le _, Nat.zero_le _⟩ dX12_factHere_1 (pc2 := 4) rfl rfl (fun x1 m2 => ?_)
  refine lu_lstore_n (lv2 := [(1, .long x1), (0, .ref (ρ 0))]) X dX12_factHere_4 (pc2 := 5) rfl rfl (by decide) rfl ?_
  refine lu_lload_n X dX12_factHere_5 (pc2 := 6) rfl rfl 0 rfl ?_
  refine lu_ldc2 X q1682 dX12_factHere_6 (pc2 := 9) rfl ?_
  refine lu_lcmp X dX12_factHere_9 (pc2 := 10) rfl ?_
  refine lu_if_ne (tgt := 17) X dX12_factHere_10 (pc2 := 13) rfl (by decide) (fun _ => ?_) (fun _ => ?_)
  · refine lu_lload_n X dX12_factHere_17 (pc2 := 18) rfl rfl 0 rfl ?_
    refine lu_ldc2 X q1683 dX12_factHere_18 (pc2 := 21) rfl ?_
    refine lu_lcmp X dX12_factHere_21 (pc2 := 22) rfl ?_
    refine lu_if_ne (tgt := 30) X dX12_factHere_22 (pc2 := 25) rfl (by decide) (fun _ => ?_) (fun _ => ?_)
    · refine lu_lload_n X dX12_factHere_30 (pc2 := 31) rfl rfl 0 rfl ?_
      refine lu_ldc2 X q1684 dX12_factHere_31 (pc2 := 34) rfl ?_
      refine lu_lcmp X dX12_factHere_34 (pc2 := 35) rfl ?_
      refine lu_if_ne (tgt := 43) X dX12_factHere_35 (pc2 := 38) rfl (by decide) (fun _ => ?_) (fun _ => ?_)
      · refine lu_lload_n X dX12_factHere_43 (pc2 := 44) rfl rfl 0 rfl ?_
        refine lu_ldc2 X q1685 dX12_factHere_44 (pc2 := 47) rfl ?_
        refine lu_lcmp X dX12_factHere_47 (pc2 := 48) rfl ?_
        refine lu_if_ne (tgt := 56) X dX12_factHere_48 (pc2 := 51) rfl (by decide) (fun _ => ?_) (fun _ => ?_)
        · refine lu_lload_n X dX12_factHere_56 (pc2 := 57) rfl rfl 0 rfl ?_
          refine lu_ldc2 X q1686 dX12_factHere_57 (pc2 := 60) rfl ?_
          refine lu_lcmp X dX12_factHere_60 (pc2 := 61) rfl ?_
          refine lu_if_ne (tgt := 69) X dX12_factHere_61 (pc2 := 64) rfl (by decide) (fun _ => ?_) (fun _ => ?_)
          · refine lu_iconst X dX12_factHere_69 (pc2 := 70) rfl ic_0 ?_
            exact lu_sub [] rfl (w12_factHere_b70 X hret (0 : Int32) m2)
          · refine lu_bipush X dX12_factHere_64 (pc2 := 66) rfl bp_m5 ?_
            refine lu_goto (tgt := 70) X dX12_factHere_66 (by decide) ?_
            exact lu_sub [] rfl (w12_factHere_b70 X hret (-5 : Int32) m2)
        · refine lu_bipush X dX12_factHere_51 (pc2 := 53) rfl bp_m4 ?_
          refine lu_goto (tgt := 70) X dX12_factHere_53 (by decide) ?_
          exact lu_sub [] rfl (w12_factHere_b70 X hret (-4 : Int32) m2)
      · refine lu_bipush X dX12_factHere_38 (pc2 := 40) rfl bp_m3 ?_
        refine lu_goto (tgt := 70) X dX12_factHere_40 (by decide) ?_
        exact lu_sub [] rfl (w12_factHere_b70 X hret (-3 : Int32) m2)
    · refine lu_bipush X dX12_factHere_25 (pc2 := 27) rfl bp_m2 ?_
      refine lu_goto (tgt := 70) X dX12_factHere_27 (by decide) ?_
      exact lu_sub [] rfl (w12_factHere_b70 X hret (-2 : Int32) m2)
  · refine lu_iconst X dX12_factHere_13 (pc2 := 14) rfl ic_m1 ?_
    refine lu_goto (tgt := 70) X dX12_factHere_14 (by decide) ?_
    exact lu_sub [] rfl (w12_factHere_b70 X hret (-1 : Int32) m2)

theorem dX12_writes_0 : decode cX12_writes 0 = .ok (.aload_n 0, 1) := by decide +kernel
theorem dX12_writes_1 : decode cX12_writes 1 = .ok (.getfield 303, 3) := by decide +kernel
theorem dX12_writes_4 : decode cX12_writes 4 = .ok (.ifCond .ne 27, 3) := by decide +kernel
theorem dX12_writes_7 : decode cX12_writes 7 = .ok (.aload_n 0, 1) := by decide +kernel
theorem dX12_writes_8 : decode cX12_writes 8 = .ok (.getfield 7, 3) := by decide +kernel
theorem dX12_writes_11 : decode cX12_writes 11 = .ok (.sipush 168, 3) := by decide +kernel
theorem dX12_writes_14 : decode cX12_writes 14 = .ok (.aload_n 0, 1) := by decide +kernel
theorem dX12_writes_15 : decode cX12_writes 15 = .ok (.getfield 347, 3) := by decide +kernel
theorem dX12_writes_18 : decode cX12_writes 18 = .ok (.iadd, 1) := by decide +kernel
theorem dX12_writes_19 : decode cX12_writes 19 = .ok (.iload_n 1, 1) := by decide +kernel
theorem dX12_writes_20 : decode cX12_writes 20 = .ok (.iastore, 1) := by decide +kernel
theorem dX12_writes_21 : decode cX12_writes 21 = .ok (.aload_n 0, 1) := by decide +kernel
theorem dX12_writes_22 : decode cX12_writes 22 = .ok (.dup, 1) := by decide +kernel
theorem dX12_writes_23 : decode cX12_writes 23 = .ok (.getfield 347, 3) := by decide +kernel
theorem dX12_writes_26 : decode cX12_writes 26 = .ok (.iconst 1, 1) := by decide +kernel
theorem dX12_writes_27 : decode cX12_writes 27 = .ok (.iadd, 1) := by decide +kernel
theorem dX12_writes_28 : decode cX12_writes 28 = .ok (.putfield 347, 3) := by decide +kernel
theorem dX12_writes_31 : decode cX12_writes 31 = .ok (.return_, 1) := by decide +kernel
def f12_writes_b31  (a1 : Int32)  (m : lu_M) : Option (lu_M) :=
  some m
set_option maxRecDepth 20000 in
theorem w12_writes_b31  {G : lu_G} {ρ : Nat → Nat} {a1 : Int32}  (X : lu_X G RX12 cX12_writes 2 0 0) (hret : (lu_me G).sig.returnType = none)   : ∀  (m : lu_M), lu_Ab lu_TM G (lu_Q lu_TM G ρ lu_RVv lu_id) (f12_writes_b31 a1 m) 31 [] [] ρ 0 0 [] m := by
  intro  m
  unfold f12_writes_b31
  exact lu_vret X hret dX12_writes_31
def f12_writes (a1 : Int32) (m : lu_M) : Option (lu_M) :=
  if (m 0 29) = 0 then (lu_gd (lu_ib ((168 : Int32) + (m 0 28)) 368) <|
  lu_nm (lu_st m 1 ((168 : Int32) + (m 0 28)).toNatClampNeg a1) fun m1 =>
  lu_nm (lu_st m1 0 28 ((m1 0 28) + (1 : Int32))) fun m2 =>
  f12_writes_b31 a1 m2)
  else (f12_writes_b31 a1 m)
set_option maxRecDepth 20000 in
theorem c12_writes (l : Launch)   (a1 : Int32) : lu_C lu_TM l yX12_writes cX12_writes 2 none 0 0 (fun ρ sa => [.ref (ρ 0), .int a1]) (f12_writes a1) lu_RVv lu_id := by
  refine lu_met (cls := RX12) rfl (by decide +kernel) (fun _ _ => Nat.le_of_ble_eq_true rfl) ?_
  intro G ρ m hl X hret
  subst hl
  change lu_Ab lu_TM G (lu_Q lu_TM G ρ lu_RVv lu_id) (f12_writes a1 m) 0 [(0, .ref (ρ 0)), (1, .int a1)] [] ρ 0 0 [] m
  unfold f12_writes
  refine lu_aload_n X dX12_writes_0 (pc2 := 1) rfl rfl 0 rfl ?_
  refine lu_get X fl12_303 rfl kM_0 lM_0 dX12_writes_1 (pc2 := 4) rfl ?_
  refine lu_if_ne (tgt := 31) X dX12_writes_4 (pc2 := 7) rfl (by decide) (fun _ => ?_) (fun _ => ?_)
  · exact lu_sub [] rfl (w12_writes_b31 X hret m)
  · refine lu_aload_n X dX12_writes_7 (pc2 := 8) rfl rfl 0 rfl ?_
    refine lu_getr (r2 := 1) X rfl fl12_7 rfl kM_0 lM_0 dX12_writes_8 (pc2 := 11) rfl ?_
    refine lu_sipush X dX12_writes_11 (pc2 := 14) rfl sp_168 ?_
    refine lu_aload_n X dX12_writes_14 (pc2 := 15) rfl rfl 0 rfl ?_
    refine lu_get X fl12_347 rfl kM_0 lM_0 dX12_writes_15 (pc2 := 18) rfl ?_
    refine lu_iadd X dX12_writes_18 (pc2 := 19) rfl ?_
    refine lu_iload_n X dX12_writes_19 (pc2 := 20) rfl rfl 1 rfl ?_
    refine lu_iast X kM_1 lM_1 dX12_writes_20 (pc2 := 21) rfl (fun m1 => ?_)
    refine lu_aload_n X dX12_writes_21 (pc2 := 22) rfl rfl 0 rfl ?_
    refine lu_dup X dX12_writes_22 (pc2 := 23) rfl rfl ?_
    refine lu_get X fl12_347 rfl kM_0 lM_0 dX12_writes_23 (pc2 := 26) rfl ?_
    refine lu_iconst X dX12_writes_26 (pc2 := 27) rfl ic_1 ?_
    refine lu_iadd X dX12_writes_27 (pc2 := 28) rfl ?_
    refine lu_put X fl12_347 rfl (Or.inl (by decide)) rfl (by decide +kernel) kM_0 lM_0 dX12_writes_28 (pc2 := 31) rfl (fun m2 => ?_)
    exact lu_sub [] rfl (w12_writes_b31 X hret m2)

theorem dX12_valueHere_0 : decode cX12_valueHere 0 = .ok (.aload_n 0, 1) := by decide +kernel
theorem dX12_valueHere_1 : decode cX12_valueHere 1 = .ok (.invokevirtual 350, 3) := by decide +kernel
theorem dX12_valueHere_4 : decode cX12_valueHere 4 = .ok (.istore_n 1, 1) := by decide +kernel
theorem dX12_valueHere_5 : decode cX12_valueHere 5 = .ok (.iload_n 1, 1) := by decide +kernel
theorem dX12_valueHere_6 : decode cX12_valueHere 6 = .ok (.ifCond .ge 16, 3) := by decide +kernel
theorem dX12_valueHere_9 : decode cX12_valueHere 9 = .ok (.aload_n 0, 1) := by decide +kernel
theorem dX12_valueHere_10 : decode cX12_valueHere 10 = .ok (.iconst 1, 1) := by decide +kernel
theorem dX12_valueHere_11 : decode cX12_valueHere 11 = .ok (.invokevirtual 317, 3) := by decide +kernel
theorem dX12_valueHere_14 : decode cX12_valueHere 14 = .ok (.aload_n 0, 1) := by decide +kernel
theorem dX12_valueHere_15 : decode cX12_valueHere 15 = .ok (.iload_n 1, 1) := by decide +kernel
theorem dX12_valueHere_16 : decode cX12_valueHere 16 = .ok (.invokevirtual 353, 3) := by decide +kernel
theorem dX12_valueHere_19 : decode cX12_valueHere 19 = .ok (.goto 25, 3) := by decide +kernel
theorem dX12_valueHere_22 : decode cX12_valueHere 22 = .ok (.aload_n 0, 1) := by decide +kernel
theorem dX12_valueHere_23 : decode cX12_valueHere 23 = .ok (.getfield 303, 3) := by decide +kernel
theorem dX12_valueHere_26 : decode cX12_valueHere 26 = .ok (.ifCond .ne 18, 3) := by decide +kernel
theorem dX12_valueHere_29 : decode cX12_valueHere 29 = .ok (.aload_n 0, 1) := by decide +kernel
theorem dX12_valueHere_30 : decode cX12_valueHere 30 = .ok (.sipush 9999, 3) := by decide +kernel
theorem dX12_valueHere_33 : decode cX12_valueHere 33 = .ok (.invokevirtual 356, 3) := by decide +kernel
theorem dX12_valueHere_36 : decode cX12_valueHere 36 = .ok (.aload_n 0, 1) := by decide +kernel
theorem dX12_valueHere_37 : decode cX12_valueHere 37 = .ok (.aload_n 0, 1) := by decide +kernel
theorem dX12_valueHere_38 : decode cX12_valueHere 38 = .ok (.getfield 314, 3) := by decide +kernel
theorem dX12_valueHere_41 : decode cX12_valueHere 41 = .ok (.invokevirtual 353, 3) := by decide +kernel
theorem dX12_valueHere_44 : decode cX12_valueHere 44 = .ok (.return_, 1) := by decide +kernel
def f12_valueHere_b44    (m : lu_M) : Option (lu_M) :=
  some m
set_option maxRecDepth 20000 in
theorem w12_valueHere_b44  {G : lu_G} {ρ : Nat → Nat}   (X : lu_X G RX12 cX12_valueHere 2 5 111) (hret : (lu_me G).sig.returnType = none)   : ∀  (m : lu_M), lu_Ab lu_TM G (lu_Q lu_TM G ρ lu_RVv lu_id) (f12_valueHere_b44  m) 44 [] [] ρ 0 0 [] m := by
  intro  m
  unfold f12_valueHere_b44
  exact lu_vret X hret dX12_valueHere_44
def f12_valueHere  (m : lu_M) : Option (lu_M) :=
  lu_bi (f12_factHere m) fun x1 m2 =>
  if 0 ≤ x1 then (if (m2 0 29) = 0 then (lu_bv (f12_number (9999 : Int32) m2) fun m3 =>
  lu_bv (f12_writes (m3 0 26) m3) fun m4 =>
  f12_valueHere_b44 m4)
  else (f12_valueHere_b44 m2))
  else (lu_bv (f12_wants (1 : Int32) m2) fun m5 =>
  lu_bv (f12_writes x1 m5) fun m6 =>
  f12_valueHere_b44 m6)
set_option maxRecDepth 20000 in
theorem c12_valueHere (l : Launch)    : lu_C lu_TM l yX12_valueHere cX12_valueHere 2 none 5 111 (fun ρ sa => [.ref (ρ 0)]) (f12_valueHere ) lu_RVv lu_id := by
  refine lu_met (cls := RX12) rfl (by decide +kernel) (fun _ _ => Nat.le_of_ble_eq_true rfl) ?_
  intro G ρ m hl X hret
  subst hl
  change lu_Ab lu_TM G (lu_Q lu_TM G ρ lu_RVv lu_id) (f12_valueHere  m) 0 [(0, .ref (ρ 0))] [] ρ 0 0 [] m
  unfold f12_valueHere
  refine lu_aload_n X dX12_valueHere_0 (pc2 := 1) rfl rfl 0 rfl ?_
  refine lu_invVi X (c12_factHere _) rfl q1678 mvV_12_factHere kM_0 lM_0 (by decide) ⟨_, rfl, rfl⟩ rfl rfl (Nat.le_of_ble_eq_true rfl) (Nat.le_of_ble_eq_true rfl) (Nat.le_of_ble_eq_true rfl) ⟨Nat.zero_le _, Nat.zero_le _⟩ dX12_valueHere_1 (pc2 := 4) rfl rfl (fun x1 m2 => ?_)
  refine lu_istore_n (lv2 := [(1, .int x1), (0, .ref (ρ 0))]) X dX12_valueHere_4 (pc2 := 5) rfl rfl (by decide) rfl ?_
  refine lu_iload_n X dX12_valueHere_5 (pc2 := 6) rfl rfl 0 rfl ?_
  refine lu_if_ge (tgt := 22) X dX12_valueHere_6 (pc2 := 9) rfl (by decide) (fun _ => ?_) (fun _ => ?_)
  · refine lu_aload_n X dX12_valueHere_22 (pc2 := 23) rfl rfl 1 rfl ?_
    refine lu_get X fl12_303 rfl kM_0 lM_0 dX12_valueHere_23 (pc2 := 26) rfl ?_
    refine lu_if_ne (tgt := 44) X dX12_valueHere_26 (pc2 := 29) rfl (by decide) (fun _ => ?_) (fun _ => ?_)
    · exact lu_sub [] rfl (w12_valueHere_b44 X hret m2)
    · refine lu_aload_n X dX12_valueHere_29 (pc2 := 30) rfl rfl 1 rfl ?_
      refine lu_sipush X dX12_valueHere_30 (pc2 := 33) rfl sp_9999 ?_
      refine lu_invVv X (c12_number _ (9999 : Int32)) rfl q1691 mvV_12_number kM_0 lM_0 (by decide) ⟨_, rfl, rfl⟩ rfl rfl (Nat.le_of_ble_eq_true rfl) (Nat.le_of_ble_eq_true rfl) (Nat.le_of_ble_eq_true rfl) ⟨Nat.zero_le _, Nat.zero_le _⟩ dX12_valueHere_33 (pc2 := 36) rfl rfl (fun m3 => ?_)
      refine lu_aload_n X dX12_valueHere_36 (pc2 := 37) rfl rfl 1 rfl ?_
      refine lu_aload_n X dX12_valueHere_37 (pc2 := 38) rfl rfl 1 rfl ?_
      refine lu_get X fl12_314 rfl kM_0 lM_0 dX12_valueHere_38 (pc2 := 41) rfl ?_
      refine lu_invVv X (c12_writes _ (m3 0 26)) rfl q1687 mvV_12_writes kM_0 lM_0 (by decide) ⟨_, rfl, rfl⟩ rfl rfl (Nat.le_of_ble_eq_true rfl) (Nat.le_of_ble_eq_true rfl) (Nat.le_of_ble_eq_true rfl) ⟨Nat.zero_le _, Nat.zero_le _⟩ dX12_valueHere_41 (pc2 := 44) rfl rfl (fun m4 => ?_)
      exact lu_sub [] rfl (w12_valueHere_b44 X hret m4)
  · refine lu_aload_n X dX12_valueHere_9 (pc2 := 10) rfl rfl 1 rfl ?_
    refine lu_iconst X dX12_valueHere_10 (pc2 := 11) rfl ic_1 ?_
    refine lu_invVv X (c12_wants _ (1 : Int32)) rfl q1652 mvV_12_wants kM_0 lM_0 (by decide) ⟨_, rfl, rfl⟩ rfl rfl (Nat.le_of_ble_eq_true rfl) (Nat.le_of_ble_eq_true rfl) (Nat.le_of_ble_eq_true rfl) ⟨Nat.zero_le _, Nat.zero_le _⟩ dX12_valueHere_11 (pc2 := 14) rfl rfl (fun m5 => ?_)
    refine lu_aload_n X dX12_valueHere_14 (pc2 := 15) rfl rfl 1 rfl ?_
    refine lu_iload_n X dX12_valueHere_15 (pc2 := 16) rfl rfl 0 rfl ?_
    refine lu_invVv X (c12_writes _ x1) rfl q1687 mvV_12_writes kM_0 lM_0 (by decide) ⟨_, rfl, rfl⟩ rfl rfl (Nat.le_of_ble_eq_true rfl) (Nat.le_of_ble_eq_true rfl) (Nat.le_of_ble_eq_true rfl) ⟨Nat.zero_le _, Nat.zero_le _⟩ dX12_valueHere_16 (pc2 := 19) rfl rfl (fun m6 => ?_)
    refine lu_goto (tgt := 44) X dX12_valueHere_19 (by decide) ?_
    exact lu_sub [] rfl (w12_valueHere_b44 X hret m6)

theorem dX12_comparison_0 : decode cX12_comparison 0 = .ok (.aload_n 0, 1) := by decide +kernel
theorem dX12_comparison_1 : decode cX12_comparison 1 = .ok (.invokevirtual 359, 3) := by decide +kernel
theorem dX12_comparison_4 : decode cX12_comparison 4 = .ok (.aload_n 0, 1) := by decide +kernel
theorem dX12_comparison_5 : decode cX12_comparison 5 = .ok (.getfield 303, 3) := by decide +kernel
theorem dX12_comparison_8 : decode cX12_comparison 8 = .ok (.ifCond .eq 7, 3) := by decide +kernel
theorem dX12_comparison_11 : decode cX12_comparison 11 = .ok (.iconst (-1), 1) := by decide +kernel
theorem dX12_comparison_12 : decode cX12_comparison 12 = .ok (.goto 11, 3) := by decide +kernel
theorem dX12_comparison_15 : decode cX12_comparison 15 = .ok (.aload_n 0, 1) := by decide +kernel
theorem dX12_comparison_16 : decode cX12_comparison 16 = .ok (.aload_n 0, 1) := by decide +kernel
theorem dX12_comparison_17 : decode cX12_comparison 17 = .ok (.getfield 291, 3) := by decide +kernel
theorem dX12_comparison_20 : decode cX12_comparison 20 = .ok (.invokevirtual 294, 3) := by decide +kernel
theorem dX12_comparison_23 : decode cX12_comparison 23 = .ok (.istore_n 1, 1) := by decide +kernel
theorem dX12_comparison_24 : decode cX12_comparison 24 = .ok (.aload_n 0, 1) := by decide +kernel
theorem dX12_comparison_25 : decode cX12_comparison 25 = .ok (.iload_n 1, 1) := by decide +kernel
theorem dX12_comparison_26 : decode cX12_comparison 26 = .ok (.bipush 60, 2) := by decide +kernel
theorem dX12_comparison_28 : decode cX12_comparison 28 = .ok (.if_icmp .eq 15, 3) := by decide +kernel
theorem dX12_comparison_31 : decode cX12_comparison 31 = .ok (.iload_n 1, 1) := by decide +kernel
theorem dX12_comparison_32 : decode cX12_comparison 32 = .ok (.bipush 61, 2) := by decide +kernel
theorem dX12_comparison_34 : decode cX12_comparison 34 = .ok (.if_icmp .eq 9, 3) := by decide +kernel
theorem dX12_comparison_37 : decode cX12_comparison 37 = .ok (.iload_n 1, 1) := by decide +kernel
theorem dX12_comparison_38 : decode cX12_comparison 38 = .ok (.bipush 62, 2) := by decide +kernel
theorem dX12_comparison_40 : decode cX12_comparison 40 = .ok (.if_icmp .ne 7, 3) := by decide +kernel
theorem dX12_comparison_43 : decode cX12_comparison 43 = .ok (.iconst 1, 1) := by decide +kernel
theorem dX12_comparison_44 : decode cX12_comparison 44 = .ok (.goto 4, 3) := by decide +kernel
theorem dX12_comparison_47 : decode cX12_comparison 47 = .ok (.iconst 0, 1) := by decide +kernel
theorem dX12_comparison_48 : decode cX12_comparison 48 = .ok (.invokevirtual 317, 3) := by decide +kernel
theorem dX12_comparison_51 : decode cX12_comparison 51 = .ok (.aload_n 0, 1) := by decide +kernel
theorem dX12_comparison_52 : decode cX12_comparison 52 = .ok (.invokevirtual 359, 3) := by decide +kernel
theorem dX12_comparison_55 : decode cX12_comparison 55 = .ok (.aload_n 0, 1) := by decide +kernel
theorem dX12_comparison_56 : decode cX12_comparison 56 = .ok (.iload_n 1, 1) := by decide +kernel
theorem dX12_comparison_57 : decode cX12_comparison 57 = .ok (.bipush 60, 2) := by decide +kernel
theorem dX12_comparison_59 : decode cX12_comparison 59 = .ok (.if_icmp .ne 8, 3) := by decide +kernel
theorem dX12_comparison_62 : decode cX12_comparison 62 = .ok (.bipush (-11), 2) := by decide +kernel
theorem dX12_comparison_64 : decode cX12_comparison 64 = .ok (.goto 16, 3) := by decide +kernel
theorem dX12_comparison_67 : decode cX12_comparison 67 = .ok (.iload_n 1, 1) := by decide +kernel
theorem dX12_comparison_68 : decode cX12_comparison 68 = .ok (.bipush 61, 2) := by decide +kernel
theorem dX12_comparison_70 : decode cX12_comparison 70 = .ok (.if_icmp .ne 8, 3) := by decide +kernel
theorem dX12_comparison_73 : decode cX12_comparison 73 = .ok (.bipush (-12), 2) := by decide +kernel
theorem dX12_comparison_75 : decode cX12_comparison 75 = .ok (.goto 5, 3) := by decide +kernel
theorem dX12_comparison_78 : decode cX12_comparison 78 = .ok (.bipush (-13), 2) := by decide +kernel
theorem dX12_comparison_80 : decode cX12_comparison 80 = .ok (.invokevirtual 353, 3) := by decide +kernel
theorem dX12_comparison_83 : decode cX12_comparison 83 = .ok (.return_, 1) := by decide +kernel
def f12_comparison_b80   (s0 : Int32) (m : lu_M) : Option (lu_M) :=
  lu_bv (f12_writes s0 m) fun m6 =>
  some m6
set_option maxRecDepth 20000 in
theorem w12_comparison_b80  {G : lu_G} {ρ : Nat → Nat}   (X : lu_X G RX12 cX12_comparison 2 6 132) (hret : (lu_me G).sig.returnType = none)   : ∀ (s0 : Int32) (m : lu_M), lu_Ab lu_TM G (lu_Q lu_TM G ρ lu_RVv lu_id) (f12_comparison_b80  s0 m) 80 [] [.int s0, .ref (ρ 0)] ρ 0 0 [] m := by
  intro s0 m
  unfold f12_comparison_b80
  refine lu_invVv X (c12_writes _ s0) rfl q1687 mvV_12_writes kM_0 lM_0 (by decide) ⟨_, rfl, rfl⟩ rfl rfl (Nat.le_of_ble_eq_true rfl) (Nat.le_of_ble_eq_true rfl) (Nat.le_of_ble_eq_true rfl) ⟨Nat.zero_le _, Nat.zero_le _⟩ dX12_comparison_80 (pc2 := 83) rfl rfl (fun m6 => ?_)
  exact lu_vret X hret dX12_comparison_83
def f12_comparison_b48   (v1 : Int32) (s0 : Int32) (m : lu_M) : Option (lu_M) :=
  lu_bv (f12_wants s0 m) fun m4 =>
  lu_bv (f12_valueHere m4) fun m5 =>
  if v1 = (60 : Int32) then (f12_comparison_b80 (-11 : Int32) m5)
  else (if v1 = (61 : Int32) then (f12_comparison_b80 (-12 : Int32) m5)
  else (f12_comparison_b80 (-13 : Int32) m5))
set_option maxRecDepth 20000 in
theorem w12_comparison_b48  {G : lu_G} {ρ : Nat → Nat}   (X : lu_X G RX12 cX12_comparison 2 6 132) (hret : (lu_me G).sig.returnType = none)   : ∀ (v1 : Int32) (s0 : Int32) (m : lu_M), lu_Ab lu_TM G (lu_Q lu_TM G ρ lu_RVv lu_id) (f12_comparison_b48  v1 s0 m) 48 [(0, .ref (ρ 0)), (1, .int v1)] [.int s0, .ref (ρ 0)] ρ 0 0 [] m := by
  intro v1 s0 m
  unfold f12_comparison_b48
  refine lu_invVv X (c12_wants _ s0) rfl q1652 mvV_12_wants kM_0 lM_0 (by decide) ⟨_, rfl, rfl⟩ rfl rfl (Nat.le_of_ble_eq_true rfl) (Nat.le_of_ble_eq_true rfl) (Nat.le_of_ble_eq_true rfl) ⟨Nat.zero_le _, Nat.zero_le _⟩ dX12_comparison_48 (pc2 := 51) rfl rfl (fun m4 => ?_)
  refine lu_aload_n X dX12_comparison_51 (pc2 := 52) rfl rfl 0 rfl ?_
  refine lu_invVv X (c12_valueHere _) rfl q1674 mvV_12_valueHere kM_0 lM_0 (by decide) ⟨_, rfl, rfl⟩ rfl rfl (Nat.le_of_ble_eq_true rfl) (Nat.le_of_ble_eq_true rfl) (Nat.le_of_ble_eq_true rfl) ⟨Nat.zero_le _, Nat.zero_le _⟩ dX12_comparison_52 (pc2 := 55) rfl rfl (fun m5 => ?_)
  refine lu_aload_n X dX12_comparison_55 (pc2 := 56) rfl rfl 0 rfl ?_
  refine lu_iload_n X dX12_comparison_56 (pc2 := 57) rfl rfl 1 rfl ?_
  refine lu_bipush X dX12_comparison_57 (pc2 := 59) rfl bp_60 ?_
  refine lu_icmp_ne (tgt := 67) X dX12_comparison_59 (pc2 := 62) rfl (by decide) (fun _ => ?_) (fun _ => ?_)
  · refine lu_iload_n X dX12_comparison_67 (pc2 := 68) rfl rfl 1 rfl ?_
    refine lu_bipush X dX12_comparison_68 (pc2 := 70) rfl bp_61 ?_
    refine lu_icmp_ne (tgt := 78) X dX12_comparison_70 (pc2 := 73) rfl (by decide) (fun _ => ?_) (fun _ => ?_)
    · refine lu_bipush X dX12_comparison_78 (pc2 := 80) rfl bp_m13 ?_
      exact lu_sub [] rfl (w12_comparison_b80 X hret (-13 : Int32) m5)
    · refine lu_bipush X dX12_comparison_73 (pc2 := 75) rfl bp_m12 ?_
      refine lu_goto (tgt := 80) X dX12_comparison_75 (by decide) ?_
      exact lu_sub [] rfl (w12_comparison_b80 X hret (-12 : Int32) m5)
  · refine lu_bipush X dX12_comparison_62 (pc2 := 64) rfl bp_m11 ?_
    refine lu_goto (tgt := 80) X dX12_comparison_64 (by decide) ?_
    exact lu_sub [] rfl (w12_comparison_b80 X hret (-11 : Int32) m5)
def f12_comparison_b43   (v1 : Int32) (m : lu_M) : Option (lu_M) :=
  f12_comparison_b48 v1 (1 : Int32) m
set_option maxRecDepth 20000 in
theorem w12_comparison_b43  {G : lu_G} {ρ : Nat → Nat}   (X : lu_X G RX12 cX12_comparison 2 6 132) (hret : (lu_me G).sig.returnType = none)   : ∀ (v1 : Int32) (m : lu_M), lu_Ab lu_TM G (lu_Q lu_TM G ρ lu_RVv lu_id) (f12_comparison_b43  v1 m) 43 [(0, .ref (ρ 0)), (1, .int v1)] [.ref (ρ 0)] ρ 0 0 [] m := by
  intro v1 m
  unfold f12_comparison_b43
  refine lu_iconst X dX12_comparison_43 (pc2 := 44) rfl ic_1 ?_
  refine lu_goto (tgt := 48) X dX12_comparison_44 (by decide) ?_
  exact w12_comparison_b48 X hret v1 (1 : Int32) m
def f12_comparison_b23   (s0 : Int32) (m : lu_M) : Option (lu_M) :=
  if s0 = (60 : Int32) then (f12_comparison_b43 s0 m)
  else (if s0 = (61 : Int32) then (f12_comparison_b43 s0 m)
  else (if s0 = (62 : Int32) then (f12_comparison_b43 s0 m)
  else (f12_comparison_b48 s0 (0 : Int32) m)))
set_option maxRecDepth 20000 in
theorem w12_comparison_b23  {G : lu_G} {ρ : Nat → Nat}   (X : lu_X G RX12 cX12_comparison 2 6 132) (hret : (lu_me G).sig.returnType = none)   : ∀ (s0 : Int32) (m : lu_M), lu_Ab lu_TM G (lu_Q lu_TM G ρ lu_RVv lu_id) (f12_comparison_b23  s0 m) 23 [(0, .ref (ρ 0))] [.int s0] ρ 0 0 [] m := by
  intro s0 m
  unfold f12_comparison_b23
  refine lu_istore_n (lv2 := [(1, .int s0), (0, .ref (ρ 0))]) X dX12_comparison_23 (pc2 := 24) rfl rfl (by decide) rfl ?_
  refine lu_aload_n X dX12_comparison_24 (pc2 := 25) rfl rfl 1 rfl ?_
  refine lu_iload_n X dX12_comparison_25 (pc2 := 26) rfl rfl 0 rfl ?_
  refine lu_bipush X dX12_comparison_26 (pc2 := 28) rfl bp_60 ?_
  refine lu_icmp_eq (tgt := 43) X dX12_comparison_28 (pc2 := 31) rfl (by decide) (fun _ => ?_) (fun _ => ?_)
  · exact lu_sub [1, 0] rfl (w12_comparison_b43 X hret s0 m)
  · refine lu_iload_n X dX12_comparison_31 (pc2 := 32) rfl rfl 0 rfl ?_
    refine lu_bipush X dX12_comparison_32 (pc2 := 34) rfl bp_61 ?_
    refine lu_icmp_eq (tgt := 43) X dX12_comparison_34 (pc2 := 37) rfl (by decide) (fun _ => ?_) (fun _ => ?_)
    · exact lu_sub [1, 0] rfl (w12_comparison_b43 X hret s0 m)
    · refine lu_iload_n X dX12_comparison_37 (pc2 := 38) rfl rfl 0 rfl ?_
      refine lu_bipush X dX12_comparison_38 (pc2 := 40) rfl bp_62 ?_
      refine lu_icmp_ne (tgt := 47) X dX12_comparison_40 (pc2 := 43) rfl (by decide) (fun _ => ?_) (fun _ => ?_)
      · refine lu_iconst X dX12_comparison_47 (pc2 := 48) rfl ic_0 ?_
        exact lu_sub [1, 0] rfl (w12_comparison_b48 X hret s0 (0 : Int32) m)
      · exact lu_sub [1, 0] rfl (w12_comparison_b43 X hret s0 m)
def f12_comparison  (m : lu_M) : Option (lu_M) :=
  lu_bv (f12_valueHere m) fun m1 =>
  if (m1 0 29) = 0 then (lu_bi (f12_byteAt (m1 0 24) m1) fun x2 m3 =>
  f12_comparison_b23 x2 m3)
  else (f12_comparison_b23 (-1 : Int32) m1)
set_option maxRecDepth 20000 in
theorem c12_comparison (l : Launch)    : lu_C lu_TM l yX12_comparison cX12_comparison 2 none 6 132 (fun ρ sa => [.ref (ρ 0)]) (f12_comparison ) lu_RVv lu_id := by
  refine lu_met (cls := RX12) rfl (by decide +kernel) (fun _ _ => Nat.le_of_ble_eq_true rfl) ?_
  intro G ρ m hl X hret
  subst hl
  change lu_Ab lu_TM G (lu_Q lu_TM G ρ lu_RVv lu_id) (f12_comparison  m) 0 [(0, .ref (ρ 0))] [] ρ 0 0 [] m
  unfold f12_comparison
  refine lu_aload_n X dX12_comparison_0 (pc2 := 1) rfl rfl 0 rfl ?_
  refine lu_invVv X (c12_valueHere _) rfl q1674 mvV_12_valueHere kM_0 lM_0 (by decide) ⟨_, rfl, rfl⟩ rfl rfl (Nat.le_of_ble_eq_true rfl) (Nat.le_of_ble_eq_true rfl) (Nat.le_of_ble_eq_true rfl) ⟨Nat.zero_le _, Nat.zero_le _⟩ dX12_comparison_1 (pc2 := 4) rfl rfl (fun m1 => ?_)
  refine lu_aload_n X dX12_comparison_4 (pc2 := 5) rfl rfl 0 rfl ?_
  refine lu_get X fl12_303 rfl kM_0 lM_0 dX12_comparison_5 (pc2 := 8) rfl ?_
  refine lu_if_eq (tgt := 15) X dX12_comparison_8 (pc2 := 11) rfl (by decide) (fun _ => ?_) (fun _ => ?_)
  · refine lu_aload_n X dX12_comparison_15 (pc2 := 16) rfl rfl 0 rfl ?_
    refine lu_aload_n X dX12_comparison_16 (pc2 := 17) rfl rfl 0 rfl ?_
    refine lu_get X fl12_291 rfl kM_0 lM_0 dX12_comparison_17 (pc2 := 20) rfl ?_
    refine lu_invVi X (c12_byteAt _ (m1 0 24)) rfl q1618 mvV_12_byteAt kM_0 lM_0 (by decide) ⟨_, rfl, rfl⟩ rfl rfl (Nat.le_of_ble_eq_true rfl) (Nat.le_of_ble_eq_true rfl) (Nat.le_of_ble_eq_true rfl) ⟨Nat.zero_le _, Nat.zero_le _⟩ dX12_comparison_20 (pc2 := 23) rfl rfl (fun x2 m3 => ?_)
    exact w12_comparison_b23 X hret x2 m3
  · refine lu_iconst X dX12_comparison_11 (pc2 := 12) rfl ic_m1 ?_
    refine lu_goto (tgt := 23) X dX12_comparison_12 (by decide) ?_
    exact w12_comparison_b23 X hret (-1 : Int32) m1

theorem dX12_one_0 : decode cX12_one 0 = .ok (.iconst 0, 1) := by decide +kernel
theorem dX12_one_1 : decode cX12_one 1 = .ok (.istore_n 1, 1) := by decide +kernel
theorem dX12_one_2 : decode cX12_one 2 = .ok (.aload_n 0, 1) := by decide +kernel
theorem dX12_one_3 : decode cX12_one 3 = .ok (.invokevirtual 321, 3) := by decide +kernel
theorem dX12_one_6 : decode cX12_one 6 = .ok (.ldc2_w 362, 3) := by decide +kernel
theorem dX12_one_9 : decode cX12_one 9 = .ok (.lcmp, 1) := by decide +kernel
theorem dX12_one_10 : decode cX12_one 10 = .ok (.ifCond .ne 21, 3) := by decide +kernel
theorem dX12_one_13 : decode cX12_one 13 = .ok (.iload_n 1, 1) := by decide +kernel
theorem dX12_one_14 : decode cX12_one 14 = .ok (.ifCond .ne 7, 3) := by decide +kernel
theorem dX12_one_17 : decode cX12_one 17 = .ok (.iconst 1, 1) := by decide +kernel
theorem dX12_one_18 : decode cX12_one 18 = .ok (.goto 4, 3) := by decide +kernel
theorem dX12_one_21 : decode cX12_one 21 = .ok (.iconst 0, 1) := by decide +kernel
theorem dX12_one_22 : decode cX12_one 22 = .ok (.istore_n 1, 1) := by decide +kernel
theorem dX12_one_23 : decode cX12_one 23 = .ok (.aload_n 0, 1) := by decide +kernel
theorem dX12_one_24 : decode cX12_one 24 = .ok (.iconst 1, 1) := by decide +kernel
theorem dX12_one_25 : decode cX12_one 25 = .ok (.invokevirtual 317, 3) := by decide +kernel
theorem dX12_one_28 : decode cX12_one 28 = .ok (.goto (-26), 3) := by decide +kernel
theorem dX12_one_31 : decode cX12_one 31 = .ok (.aload_n 0, 1) := by decide +kernel
theorem dX12_one_32 : decode cX12_one 32 = .ok (.getfield 303, 3) := by decide +kernel
theorem dX12_one_35 : decode cX12_one 35 = .ok (.ifCond .ne 89, 3) := by decide +kernel
theorem dX12_one_38 : decode cX12_one 38 = .ok (.aload_n 0, 1) := by decide +kernel
theorem dX12_one_39 : decode cX12_one 39 = .ok (.aload_n 0, 1) := by decide +kernel
theorem dX12_one_40 : decode cX12_one 40 = .ok (.getfield 291, 3) := by decide +kernel
theorem dX12_one_43 : decode cX12_one 43 = .ok (.invokevirtual 294, 3) := by decide +kernel
theorem dX12_one_46 : decode cX12_one 46 = .ok (.bipush 40, 2) := by decide +kernel
theorem dX12_one_48 : decode cX12_one 48 = .ok (.if_icmp .ne 76, 3) := by decide +kernel
theorem dX12_one_51 : decode cX12_one 51 = .ok (.aload_n 0, 1) := by decide +kernel
theorem dX12_one_52 : decode cX12_one 52 = .ok (.aload_n 0, 1) := by decide +kernel
theorem dX12_one_53 : decode cX12_one 53 = .ok (.getfield 364, 3) := by decide +kernel
theorem dX12_one_56 : decode cX12_one 56 = .ok (.iconst 3, 1) := by decide +kernel
theorem dX12_one_57 : decode cX12_one 57 = .ok (.if_icmp .ge 7, 3) := by decide +kernel
theorem dX12_one_60 : decode cX12_one 60 = .ok (.iconst 1, 1) := by decide +kernel
theorem dX12_one_61 : decode cX12_one 61 = .ok (.goto 4, 3) := by decide +kernel
theorem dX12_one_64 : decode cX12_one 64 = .ok (.iconst 0, 1) := by decide +kernel
theorem dX12_one_65 : decode cX12_one 65 = .ok (.invokevirtual 317, 3) := by decide +kernel
theorem dX12_one_68 : decode cX12_one 68 = .ok (.aload_n 0, 1) := by decide +kernel
theorem dX12_one_69 : decode cX12_one 69 = .ok (.dup, 1) := by decide +kernel
theorem dX12_one_70 : decode cX12_one 70 = .ok (.getfield 364, 3) := by decide +kernel
theorem dX12_one_73 : decode cX12_one 73 = .ok (.iconst 1, 1) := by decide +kernel
theorem dX12_one_74 : decode cX12_one 74 = .ok (.iadd, 1) := by decide +kernel
theorem dX12_one_75 : decode cX12_one 75 = .ok (.putfield 364, 3) := by decide +kernel
theorem dX12_one_78 : decode cX12_one 78 = .ok (.aload_n 0, 1) := by decide +kernel
theorem dX12_one_79 : decode cX12_one 79 = .ok (.invokevirtual 367, 3) := by decide +kernel
theorem dX12_one_82 : decode cX12_one 82 = .ok (.aload_n 0, 1) := by decide +kernel
theorem dX12_one_83 : decode cX12_one 83 = .ok (.dup, 1) := by decide +kernel
theorem dX12_one_84 : decode cX12_one 84 = .ok (.getfield 364, 3) := by decide +kernel
theorem dX12_one_87 : decode cX12_one 87 = .ok (.iconst 1, 1) := by decide +kernel
theorem dX12_one_88 : decode cX12_one 88 = .ok (.isub, 1) := by decide +kernel
theorem dX12_one_89 : decode cX12_one 89 = .ok (.putfield 364, 3) := by decide +kernel
theorem dX12_one_92 : decode cX12_one 92 = .ok (.aload_n 0, 1) := by decide +kernel
theorem dX12_one_93 : decode cX12_one 93 = .ok (.aload_n 0, 1) := by decide +kernel
theorem dX12_one_94 : decode cX12_one 94 = .ok (.getfield 303, 3) := by decide +kernel
theorem dX12_one_97 : decode cX12_one 97 = .ok (.ifCond .ne 20, 3) := by decide +kernel
theorem dX12_one_100 : decode cX12_one 100 = .ok (.aload_n 0, 1) := by decide +kernel
theorem dX12_one_101 : decode cX12_one 101 = .ok (.aload_n 0, 1) := by decide +kernel
theorem dX12_one_102 : decode cX12_one 102 = .ok (.getfield 291, 3) := by decide +kernel
theorem dX12_one_105 : decode cX12_one 105 = .ok (.invokevirtual 294, 3) := by decide +kernel
theorem dX12_one_108 : decode cX12_one 108 = .ok (.bipush 41, 2) := by decide +kernel
theorem dX12_one_110 : decode cX12_one 110 = .ok (.if_icmp .ne 7, 3) := by decide +kernel
theorem dX12_one_113 : decode cX12_one 113 = .ok (.iconst 1, 1) := by decide +kernel
theorem dX12_one_114 : decode cX12_one 114 = .ok (.goto 4, 3) := by decide +kernel
theorem dX12_one_117 : decode cX12_one 117 = .ok (.iconst 0, 1) := by decide +kernel
theorem dX12_one_118 : decode cX12_one 118 = .ok (.invokevirtual 317, 3) := by decide +kernel
theorem dX12_one_121 : decode cX12_one 121 = .ok (.goto 7, 3) := by decide +kernel
theorem dX12_one_124 : decode cX12_one 124 = .ok (.aload_n 0, 1) := by decide +kernel
theorem dX12_one_125 : decode cX12_one 125 = .ok (.invokevirtual 370, 3) := by decide +kernel
theorem dX12_one_128 : decode cX12_one 128 = .ok (.iload_n 1, 1) := by decide +kernel
theorem dX12_one_129 : decode cX12_one 129 = .ok (.ifCond .eq 9, 3) := by decide +kernel
theorem dX12_one_132 : decode cX12_one 132 = .ok (.aload_n 0, 1) := by decide +kernel
theorem dX12_one_133 : decode cX12_one 133 = .ok (.bipush (-20), 2) := by decide +kernel
theorem dX12_one_135 : decode cX12_one 135 = .ok (.invokevirtual 353, 3) := by decide +kernel
theorem dX12_one_138 : decode cX12_one 138 = .ok (.return_, 1) := by decide +kernel
def f12_one_b22 (K2 : Int32 → lu_M → Option (lu_M)) (K31 : Int32 → lu_M → Option (lu_M)) (rc : lu_M → Option (lu_M))  (s0 : Int32) (m : lu_M) : Option (lu_M) :=
  lu_bv (f12_wants (1 : Int32) m) fun m3 =>
  K2 s0 m3
set_option maxRecDepth 20000 in
theorem w12_one_b22 {rc : lu_M → Option (lu_M)} {frc loc : Nat}  {G : lu_G} {ρ : Nat → Nat}  {K2 : Int32 → lu_M → Option (lu_M)} {K31 : Int32 → lu_M → Option (lu_M)} (X : lu_X G RX12 cX12_one 2 (frc + 7) (loc + 153)) (hret : (lu_me G).sig.returnType = none) (hrc : lu_C lu_TM (lu_l G) yX12_condition cX12_condition 1 none frc loc (fun ρ _ => [.ref (ρ 0)]) (fun m => rc  m) lu_RVv lu_id)  (hK2 : ∀ (v1 : Int32) (m : lu_M), lu_Ab lu_TM G (lu_Q lu_TM G ρ lu_RVv lu_id) (K2 v1 m) 2 [(0, .ref (ρ 0)), (1, .int v1)] [] ρ 0 0 [] m) (hK31 : ∀ (v1 : Int32) (m : lu_M), lu_Ab lu_TM G (lu_Q lu_TM G ρ lu_RVv lu_id) (K31 v1 m) 31 [(0, .ref (ρ 0)), (1, .int v1)] [] ρ 0 0 [] m) : ∀ (s0 : Int32) (m : lu_M), lu_Ab lu_TM G (lu_Q lu_TM G ρ lu_RVv lu_id) (f12_one_b22 K2 K31 rc s0 m) 22 [(0, .ref (ρ 0))] [.int s0] ρ 0 0 [] m := by
  intro s0 m
  unfold f12_one_b22
  refine lu_istore_n (lv2 := [(1, .int s0), (0, .ref (ρ 0))]) X dX12_one_22 (pc2 := 23) rfl rfl (by decide) rfl ?_
  refine lu_aload_n X dX12_one_23 (pc2 := 24) rfl rfl 1 rfl ?_
  refine lu_iconst X dX12_one_24 (pc2 := 25) rfl ic_1 ?_
  refine lu_invVv X (c12_wants _ (1 : Int32)) rfl q1652 mvV_12_wants kM_0 lM_0 (by decide) ⟨_, rfl, rfl⟩ rfl rfl (Nat.le_of_ble_eq_true rfl) (by omega) (by omega) ⟨Nat.zero_le _, Nat.zero_le _⟩ dX12_one_25 (pc2 := 28) rfl rfl (fun m3 => ?_)
  refine lu_goto (tgt := 2) X dX12_one_28 (by decide) ?_
  exact lu_sub [1, 0] rfl (hK2 s0 m3)
def f12_one_b2B (K31 : Int32 → lu_M → Option (lu_M)) (rc : lu_M → Option (lu_M)) (rec : Int32 → lu_M → Option (lu_M))  (v1 : Int32) (m : lu_M) : Option (lu_M) :=
  lu_bi (f12_word m) fun x1 m2 =>
  if (lg_cmp x1 (14836 : Int64)) = 0 then (if v1 = 0 then (f12_one_b22 rec K31 rc (1 : Int32) m2)
  else (f12_one_b22 rec K31 rc (0 : Int32) m2))
  else (K31 v1 m2)
def f12_one_b2 (K31 : Int32 → lu_M → Option (lu_M)) (rc : lu_M → Option (lu_M))  : Nat → Int32 → lu_M → Option (lu_M)
  | 0, _, _ => none
  | n + 1, v1, m => f12_one_b2B K31 rc (f12_one_b2 K31 rc n) v1 m
set_option maxRecDepth 20000 in
theorem w12_one_b2B {rc : lu_M → Option (lu_M)} {frc loc : Nat}  {G : lu_G} {ρ : Nat → Nat}  {K31 : Int32 → lu_M → Option (lu_M)} {rec : Int32 → lu_M → Option (lu_M)} (X : lu_X G RX12 cX12_one 2 (frc + 7) (loc + 153)) (hret : (lu_me G).sig.returnType = none) (hrc : lu_C lu_TM (lu_l G) yX12_condition cX12_condition 1 none frc loc (fun ρ _ => [.ref (ρ 0)]) (fun m => rc  m) lu_RVv lu_id)  (hK31 : ∀ (v1 : Int32) (m : lu_M), lu_Ab lu_TM G (lu_Q lu_TM G ρ lu_RVv lu_id) (K31 v1 m) 31 [(0, .ref (ρ 0)), (1, .int v1)] [] ρ 0 0 [] m) (hrec : ∀ (v1 : Int32) (m : lu_M), lu_Ab lu_TM G (lu_Q lu_TM G ρ lu_RVv lu_id) (rec v1 m) 2 [(0, .ref (ρ 0)), (1, .int v1)] [] ρ 0 0 [] m) : ∀ (v1 : Int32) (m : lu_M), lu_Ab lu_TM G (lu_Q lu_TM G ρ lu_RVv lu_id) (f12_one_b2B K31 rc rec v1 m) 2 [(0, .ref (ρ 0)), (1, .int v1)] [] ρ 0 0 [] m := by
  intro v1 m
  unfold f12_one_b2B
  refine lu_aload_n X dX12_one_2 (pc2 := 3) rfl rfl 0 rfl ?_
  refine lu_invVl X (c12_word _) rfl q1640 mvV_12_word kM_0 lM_0 (by decide) ⟨_, rfl, rfl⟩ rfl rfl (Nat.le_of_ble_eq_true rfl) (by omega) (by omega) ⟨Nat.zero_le _, Nat.zero_le _⟩ dX12_one_3 (pc2 := 6) rfl rfl (fun x1 m2 => ?_)
  refine lu_ldc2 X q1669 dX12_one_6 (pc2 := 9) rfl ?_
  refine lu_lcmp X dX12_one_9 (pc2 := 10) rfl ?_
  refine lu_if_ne (tgt := 31) X dX12_one_10 (pc2 := 13) rfl (by decide) (fun _ => ?_) (fun _ => ?_)
  · exact hK31 v1 m2
  · refine lu_iload_n X dX12_one_13 (pc2 := 14) rfl rfl 1 rfl ?_
    refine lu_if_ne (tgt := 21) X dX12_one_14 (pc2 := 17) rfl (by decide) (fun _ => ?_) (fun _ => ?_)
    · refine lu_iconst X dX12_one_21 (pc2 := 22) rfl ic_0 ?_
      exact lu_sub [0] rfl (w12_one_b22 X hret hrc hrec hK31 (0 : Int32) m2)
    · refine lu_iconst X dX12_one_17 (pc2 := 18) rfl ic_1 ?_
      refine lu_goto (tgt := 22) X dX12_one_18 (by decide) ?_
      exact lu_sub [0] rfl (w12_one_b22 X hret hrc hrec hK31 (1 : Int32) m2)
theorem w12_one_b2 {rc : lu_M → Option (lu_M)} {frc loc : Nat}  {G : lu_G} {ρ : Nat → Nat}  {K31 : Int32 → lu_M → Option (lu_M)} (X : lu_X G RX12 cX12_one 2 (frc + 7) (loc + 153)) (hret : (lu_me G).sig.returnType = none) (hrc : lu_C lu_TM (lu_l G) yX12_condition cX12_condition 1 none frc loc (fun ρ _ => [.ref (ρ 0)]) (fun m => rc  m) lu_RVv lu_id)  (hK31 : ∀ (v1 : Int32) (m : lu_M), lu_Ab lu_TM G (lu_Q lu_TM G ρ lu_RVv lu_id) (K31 v1 m) 31 [(0, .ref (ρ 0)), (1, .int v1)] [] ρ 0 0 [] m) : ∀ (n : Nat) (v1 : Int32) (m : lu_M), lu_Ab lu_TM G (lu_Q lu_TM G ρ lu_RVv lu_id) (f12_one_b2 K31 rc n v1 m) 2 [(0, .ref (ρ 0)), (1, .int v1)] [] ρ 0 0 [] m := by
  intro n
  induction n with
  | zero => intro v1 m; exact lu_none
  | succ n ih => intro v1 m; exact w12_one_b2B X hret hrc hK31 ih v1 m
def f12_one_b138  (rc : lu_M → Option (lu_M))   (m : lu_M) : Option (lu_M) :=
  some m
set_option maxRecDepth 20000 in
theorem w12_one_b138 {rc : lu_M → Option (lu_M)} {frc loc : Nat}  {G : lu_G} {ρ : Nat → Nat}   (X : lu_X G RX12 cX12_one 2 (frc + 7) (loc + 153)) (hret : (lu_me G).sig.returnType = none) (hrc : lu_C lu_TM (lu_l G) yX12_condition cX12_condition 1 none frc loc (fun ρ _ => [.ref (ρ 0)]) (fun m => rc  m) lu_RVv lu_id)   : ∀  (m : lu_M), lu_Ab lu_TM G (lu_Q lu_TM G ρ lu_RVv lu_id) (f12_one_b138 rc m) 138 [] [] ρ 0 0 [] m := by
  intro  m
  unfold f12_one_b138
  exact lu_vret X hret dX12_one_138
def f12_one_b128  (rc : lu_M → Option (lu_M))  (v1 : Int32) (m : lu_M) : Option (lu_M) :=
  if v1 = 0 then (f12_one_b138 rc m)
  else (lu_bv (f12_writes (-20 : Int32) m) fun m5 =>
  f12_one_b138 rc m5)
set_option maxRecDepth 20000 in
theorem w12_one_b128 {rc : lu_M → Option (lu_M)} {frc loc : Nat}  {G : lu_G} {ρ : Nat → Nat}   (X : lu_X G RX12 cX12_one 2 (frc + 7) (loc + 153)) (hret : (lu_me G).sig.returnType = none) (hrc : lu_C lu_TM (lu_l G) yX12_condition cX12_condition 1 none frc loc (fun ρ _ => [.ref (ρ 0)]) (fun m => rc  m) lu_RVv lu_id)   : ∀ (v1 : Int32) (m : lu_M), lu_Ab lu_TM G (lu_Q lu_TM G ρ lu_RVv lu_id) (f12_one_b128 rc v1 m) 128 [(0, .ref (ρ 0)), (1, .int v1)] [] ρ 0 0 [] m := by
  intro v1 m
  unfold f12_one_b128
  refine lu_iload_n X dX12_one_128 (pc2 := 129) rfl rfl 1 rfl ?_
  refine lu_if_eq (tgt := 138) X dX12_one_129 (pc2 := 132) rfl (by decide) (fun _ => ?_) (fun _ => ?_)
  · exact lu_sub [] rfl (w12_one_b138 X hret hrc m)
  · refine lu_aload_n X dX12_one_132 (pc2 := 133) rfl rfl 0 rfl ?_
    refine lu_bipush X dX12_one_133 (pc2 := 135) rfl bp_m20 ?_
    refine lu_invVv X (c12_writes _ (-20 : Int32)) rfl q1687 mvV_12_writes kM_0 lM_0 (by decide) ⟨_, rfl, rfl⟩ rfl rfl (Nat.le_of_ble_eq_true rfl) (by omega) (by omega) ⟨Nat.zero_le _, Nat.zero_le _⟩ dX12_one_135 (pc2 := 138) rfl rfl (fun m5 => ?_)
    exact lu_sub [] rfl (w12_one_b138 X hret hrc m5)
def f12_one_b124  (rc : lu_M → Option (lu_M))  (v1 : Int32) (m : lu_M) : Option (lu_M) :=
  lu_bv (f12_comparison m) fun m4 =>
  f12_one_b128 rc v1 m4
set_option maxRecDepth 20000 in
theorem w12_one_b124 {rc : lu_M → Option (lu_M)} {frc loc : Nat}  {G : lu_G} {ρ : Nat → Nat}   (X : lu_X G RX12 cX12_one 2 (frc + 7) (loc + 153)) (hret : (lu_me G).sig.returnType = none) (hrc : lu_C lu_TM (lu_l G) yX12_condition cX12_condition 1 none frc loc (fun ρ _ => [.ref (ρ 0)]) (fun m => rc  m) lu_RVv lu_id)   : ∀ (v1 : Int32) (m : lu_M), lu_Ab lu_TM G (lu_Q lu_TM G ρ lu_RVv lu_id) (f12_one_b124 rc v1 m) 124 [(0, .ref (ρ 0)), (1, .int v1)] [] ρ 0 0 [] m := by
  intro v1 m
  unfold f12_one_b124
  refine lu_aload_n X dX12_one_124 (pc2 := 125) rfl rfl 0 rfl ?_
  refine lu_invVv X (c12_comparison _) rfl q1670 mvV_12_comparison kM_0 lM_0 (by decide) ⟨_, rfl, rfl⟩ rfl rfl (Nat.le_of_ble_eq_true rfl) (by omega) (by omega) ⟨Nat.zero_le _, Nat.zero_le _⟩ dX12_one_125 (pc2 := 128) rfl rfl (fun m4 => ?_)
  exact w12_one_b128 X hret hrc v1 m4
def f12_one_b118  (rc : lu_M → Option (lu_M))  (v1 : Int32) (s0 : Int32) (m : lu_M) : Option (lu_M) :=
  lu_bv (f12_wants s0 m) fun m12 =>
  f12_one_b128 rc v1 m12
set_option maxRecDepth 20000 in
theorem w12_one_b118 {rc : lu_M → Option (lu_M)} {frc loc : Nat}  {G : lu_G} {ρ : Nat → Nat}   (X : lu_X G RX12 cX12_one 2 (frc + 7) (loc + 153)) (hret : (lu_me G).sig.returnType = none) (hrc : lu_C lu_TM (lu_l G) yX12_condition cX12_condition 1 none frc loc (fun ρ _ => [.ref (ρ 0)]) (fun m => rc  m) lu_RVv lu_id)   : ∀ (v1 : Int32) (s0 : Int32) (m : lu_M), lu_Ab lu_TM G (lu_Q lu_TM G ρ lu_RVv lu_id) (f12_one_b118 rc v1 s0 m) 118 [(0, .ref (ρ 0)), (1, .int v1)] [.int s0, .ref (ρ 0)] ρ 0 0 [] m := by
  intro v1 s0 m
  unfold f12_one_b118
  refine lu_invVv X (c12_wants _ s0) rfl q1652 mvV_12_wants kM_0 lM_0 (by decide) ⟨_, rfl, rfl⟩ rfl rfl (Nat.le_of_ble_eq_true rfl) (by omega) (by omega) ⟨Nat.zero_le _, Nat.zero_le _⟩ dX12_one_118 (pc2 := 121) rfl rfl (fun m12 => ?_)
  refine lu_goto (tgt := 128) X dX12_one_121 (by decide) ?_
  exact w12_one_b128 X hret hrc v1 m12
def f12_one_b117  (rc : lu_M → Option (lu_M))  (v1 : Int32) (m : lu_M) : Option (lu_M) :=
  f12_one_b118 rc v1 (0 : Int32) m
set_option maxRecDepth 20000 in
theorem w12_one_b117 {rc : lu_M → Option (lu_M)} {frc loc : Nat}  {G : lu_G} {ρ : Nat → Nat}   (X : lu_X G RX12 cX12_one 2 (frc + 7) (loc + 153)) (hret : (lu_me G).sig.returnType = none) (hrc : lu_C lu_TM (lu_l G) yX12_condition cX12_condition 1 none frc loc (fun ρ _ => [.ref (ρ 0)]) (fun m => rc  m) lu_RVv lu_id)   : ∀ (v1 : Int32) (m : lu_M), lu_Ab lu_TM G (lu_Q lu_TM G ρ lu_RVv lu_id) (f12_one_b117 rc v1 m) 117 [(0, .ref (ρ 0)), (1, .int v1)] [.ref (ρ 0)] ρ 0 0 [] m := by
  intro v1 m
  unfold f12_one_b117
  refine lu_iconst X dX12_one_117 (pc2 := 118) rfl ic_0 ?_
  exact w12_one_b118 X hret hrc v1 (0 : Int32) m
def f12_one_b65  (rc : lu_M → Option (lu_M))  (v1 : Int32) (s0 : Int32) (m : lu_M) : Option (lu_M) :=
  lu_bv (f12_wants s0 m) fun m8 =>
  lu_nm (lu_st m8 0 27 ((m8 0 27) + (1 : Int32))) fun m9 =>
  lu_bv (rc m9) fun m10 =>
  lu_nm (lu_st m10 0 27 ((m10 0 27) - (1 : Int32))) fun m11 =>
  if (m11 0 29) = 0 then (lu_bi (f12_byteAt (m11 0 24) m11) fun x13 m14 =>
  if x13 = (41 : Int32) then (f12_one_b118 rc v1 (1 : Int32) m14)
  else (f12_one_b117 rc v1 m14))
  else (f12_one_b117 rc v1 m11)
set_option maxRecDepth 20000 in
theorem w12_one_b65 {rc : lu_M → Option (lu_M)} {frc loc : Nat}  {G : lu_G} {ρ : Nat → Nat}   (X : lu_X G RX12 cX12_one 2 (frc + 7) (loc + 153)) (hret : (lu_me G).sig.returnType = none) (hrc : lu_C lu_TM (lu_l G) yX12_condition cX12_condition 1 none frc loc (fun ρ _ => [.ref (ρ 0)]) (fun m => rc  m) lu_RVv lu_id)   : ∀ (v1 : Int32) (s0 : Int32) (m : lu_M), lu_Ab lu_TM G (lu_Q lu_TM G ρ lu_RVv lu_id) (f12_one_b65 rc v1 s0 m) 65 [(0, .ref (ρ 0)), (1, .int v1)] [.int s0, .ref (ρ 0)] ρ 0 0 [] m := by
  intro v1 s0 m
  unfold f12_one_b65
  refine lu_invVv X (c12_wants _ s0) rfl q1652 mvV_12_wants kM_0 lM_0 (by decide) ⟨_, rfl, rfl⟩ rfl rfl (Nat.le_of_ble_eq_true rfl) (by omega) (by omega) ⟨Nat.zero_le _, Nat.zero_le _⟩ dX12_one_65 (pc2 := 68) rfl rfl (fun m8 => ?_)
  refine lu_aload_n X dX12_one_68 (pc2 := 69) rfl rfl 0 rfl ?_
  refine lu_dup X dX12_one_69 (pc2 := 70) rfl rfl ?_
  refine lu_get X fl12_364 rfl kM_0 lM_0 dX12_one_70 (pc2 := 73) rfl ?_
  refine lu_iconst X dX12_one_73 (pc2 := 74) rfl ic_1 ?_
  refine lu_iadd X dX12_one_74 (pc2 := 75) rfl ?_
  refine lu_put X fl12_364 rfl (Or.inl (by decide)) rfl (by decide +kernel) kM_0 lM_0 dX12_one_75 (pc2 := 78) rfl (fun m9 => ?_)
  refine lu_aload_n X dX12_one_78 (pc2 := 79) rfl rfl 0 rfl ?_
  refine lu_invVv X (hrc ) rfl q1657 mvV_12_condition kM_0 lM_0 (by decide) ⟨_, rfl, rfl⟩ rfl rfl (Nat.le_of_ble_eq_true rfl) (by omega) (by omega) ⟨Nat.zero_le _, Nat.zero_le _⟩ dX12_one_79 (pc2 := 82) rfl rfl (fun m10 => ?_)
  refine lu_aload_n X dX12_one_82 (pc2 := 83) rfl rfl 0 rfl ?_
  refine lu_dup X dX12_one_83 (pc2 := 84) rfl rfl ?_
  refine lu_get X fl12_364 rfl kM_0 lM_0 dX12_one_84 (pc2 := 87) rfl ?_
  refine lu_iconst X dX12_one_87 (pc2 := 88) rfl ic_1 ?_
  refine lu_isub X dX12_one_88 (pc2 := 89) rfl ?_
  refine lu_put X fl12_364 rfl (Or.inl (by decide)) rfl (by decide +kernel) kM_0 lM_0 dX12_one_89 (pc2 := 92) rfl (fun m11 => ?_)
  refine lu_aload_n X dX12_one_92 (pc2 := 93) rfl rfl 0 rfl ?_
  refine lu_aload_n X dX12_one_93 (pc2 := 94) rfl rfl 0 rfl ?_
  refine lu_get X fl12_303 rfl kM_0 lM_0 dX12_one_94 (pc2 := 97) rfl ?_
  refine lu_if_ne (tgt := 117) X dX12_one_97 (pc2 := 100) rfl (by decide) (fun _ => ?_) (fun _ => ?_)
  · exact w12_one_b117 X hret hrc v1 m11
  · refine lu_aload_n X dX12_one_100 (pc2 := 101) rfl rfl 0 rfl ?_
    refine lu_aload_n X dX12_one_101 (pc2 := 102) rfl rfl 0 rfl ?_
    refine lu_get X fl12_291 rfl kM_0 lM_0 dX12_one_102 (pc2 := 105) rfl ?_
    refine lu_invVi X (c12_byteAt _ (m11 0 24)) rfl q1618 mvV_12_byteAt kM_0 lM_0 (by decide) ⟨_, rfl, rfl⟩ rfl rfl (Nat.le_of_ble_eq_true rfl) (by omega) (by omega) ⟨Nat.zero_le _, Nat.zero_le _⟩ dX12_one_105 (pc2 := 108) rfl rfl (fun x13 m14 => ?_)
    refine lu_bipush X dX12_one_108 (pc2 := 110) rfl bp_41 ?_
    refine lu_icmp_ne (tgt := 117) X dX12_one_110 (pc2 := 113) rfl (by decide) (fun _ => ?_) (fun _ => ?_)
    · exact w12_one_b117 X hret hrc v1 m14
    · refine lu_iconst X dX12_one_113 (pc2 := 114) rfl ic_1 ?_
      refine lu_goto (tgt := 118) X dX12_one_114 (by decide) ?_
      exact w12_one_b118 X hret hrc v1 (1 : Int32) m14
def f12_one_b31  (rc : lu_M → Option (lu_M))  (v1 : Int32) (m : lu_M) : Option (lu_M) :=
  if (m 0 29) = 0 then (lu_bi (f12_byteAt (m 0 24) m) fun x6 m7 =>
  if x6 = (40 : Int32) then (if (3 : Int32) ≤ (m7 0 27) then (f12_one_b65 rc v1 (0 : Int32) m7)
  else (f12_one_b65 rc v1 (1 : Int32) m7))
  else (f12_one_b124 rc v1 m7))
  else (f12_one_b124 rc v1 m)
set_option maxRecDepth 20000 in
theorem w12_one_b31 {rc : lu_M → Option (lu_M)} {frc loc : Nat}  {G : lu_G} {ρ : Nat → Nat}   (X : lu_X G RX12 cX12_one 2 (frc + 7) (loc + 153)) (hret : (lu_me G).sig.returnType = none) (hrc : lu_C lu_TM (lu_l G) yX12_condition cX12_condition 1 none frc loc (fun ρ _ => [.ref (ρ 0)]) (fun m => rc  m) lu_RVv lu_id)   : ∀ (v1 : Int32) (m : lu_M), lu_Ab lu_TM G (lu_Q lu_TM G ρ lu_RVv lu_id) (f12_one_b31 rc v1 m) 31 [(0, .ref (ρ 0)), (1, .int v1)] [] ρ 0 0 [] m := by
  intro v1 m
  unfold f12_one_b31
  refine lu_aload_n X dX12_one_31 (pc2 := 32) rfl rfl 0 rfl ?_
  refine lu_get X fl12_303 rfl kM_0 lM_0 dX12_one_32 (pc2 := 35) rfl ?_
  refine lu_if_ne (tgt := 124) X dX12_one_35 (pc2 := 38) rfl (by decide) (fun _ => ?_) (fun _ => ?_)
  · exact w12_one_b124 X hret hrc v1 m
  · refine lu_aload_n X dX12_one_38 (pc2 := 39) rfl rfl 0 rfl ?_
    refine lu_aload_n X dX12_one_39 (pc2 := 40) rfl rfl 0 rfl ?_
    refine lu_get X fl12_291 rfl kM_0 lM_0 dX12_one_40 (pc2 := 43) rfl ?_
    refine lu_invVi X (c12_byteAt _ (m 0 24)) rfl q1618 mvV_12_byteAt kM_0 lM_0 (by decide) ⟨_, rfl, rfl⟩ rfl rfl (Nat.le_of_ble_eq_true rfl) (by omega) (by omega) ⟨Nat.zero_le _, Nat.zero_le _⟩ dX12_one_43 (pc2 := 46) rfl rfl (fun x6 m7 => ?_)
    refine lu_bipush X dX12_one_46 (pc2 := 48) rfl bp_40 ?_
    refine lu_icmp_ne (tgt := 124) X dX12_one_48 (pc2 := 51) rfl (by decide) (fun _ => ?_) (fun _ => ?_)
    · exact w12_one_b124 X hret hrc v1 m7
    · refine lu_aload_n X dX12_one_51 (pc2 := 52) rfl rfl 0 rfl ?_
      refine lu_aload_n X dX12_one_52 (pc2 := 53) rfl rfl 0 rfl ?_
      refine lu_get X fl12_364 rfl kM_0 lM_0 dX12_one_53 (pc2 := 56) rfl ?_
      refine lu_iconst X dX12_one_56 (pc2 := 57) rfl ic_3 ?_
      refine lu_icmp_ge (tgt := 64) X dX12_one_57 (pc2 := 60) rfl (by decide) (fun _ => ?_) (fun _ => ?_)
      · refine lu_iconst X dX12_one_64 (pc2 := 65) rfl ic_0 ?_
        exact w12_one_b65 X hret hrc v1 (0 : Int32) m7
      · refine lu_iconst X dX12_one_60 (pc2 := 61) rfl ic_1 ?_
        refine lu_goto (tgt := 65) X dX12_one_61 (by decide) ?_
        exact w12_one_b65 X hret hrc v1 (1 : Int32) m7
def f12_one (rc : lu_M → Option (lu_M))  (m : lu_M) : Option (lu_M) :=
  f12_one_b2 (f12_one_b31 rc) rc lu_fu (0 : Int32) m
set_option maxRecDepth 20000 in
theorem c12_one {rc : lu_M → Option (lu_M)} {frc loc : Nat} (l : Launch) (hrc : lu_C lu_TM (l) yX12_condition cX12_condition 1 none frc loc (fun ρ _ => [.ref (ρ 0)]) (fun m => rc  m) lu_RVv lu_id)    : lu_C lu_TM l yX12_one cX12_one 2 none (frc + 7) (loc + 153) (fun ρ sa => [.ref (ρ 0)]) (f12_one rc) lu_RVv lu_id := by
  refine lu_met (cls := RX12) rfl (by decide +kernel) (fun _ _ => Nat.le_of_ble_eq_true rfl) ?_
  intro G ρ m hl X hret
  subst hl
  change lu_Ab lu_TM G (lu_Q lu_TM G ρ lu_RVv lu_id) (f12_one rc m) 0 [(0, .ref (ρ 0))] [] ρ 0 0 [] m
  unfold f12_one
  refine lu_iconst X dX12_one_0 (pc2 := 1) rfl ic_0 ?_
  refine lu_istore_n (lv2 := [(1, .int (0 : Int32)), (0, .ref (ρ 0))]) X dX12_one_1 (pc2 := 2) rfl rfl (by decide) rfl ?_
  exact lu_sub [1, 0] rfl (w12_one_b2 X hret hrc (w12_one_b31 X hret hrc) lu_fu (0 : Int32) m)

theorem dX12_all_0 : decode cX12_all 0 = .ok (.aload_n 0, 1) := by decide +kernel
theorem dX12_all_1 : decode cX12_all 1 = .ok (.invokevirtual 373, 3) := by decide +kernel
theorem dX12_all_4 : decode cX12_all 4 = .ok (.aload_n 0, 1) := by decide +kernel
theorem dX12_all_5 : decode cX12_all 5 = .ok (.invokevirtual 321, 3) := by decide +kernel
theorem dX12_all_8 : decode cX12_all 8 = .ok (.ldc2_w 376, 3) := by decide +kernel
theorem dX12_all_11 : decode cX12_all 11 = .ok (.lcmp, 1) := by decide +kernel
theorem dX12_all_12 : decode cX12_all 12 = .ok (.ifCond .ne 21, 3) := by decide +kernel
theorem dX12_all_15 : decode cX12_all 15 = .ok (.aload_n 0, 1) := by decide +kernel
theorem dX12_all_16 : decode cX12_all 16 = .ok (.iconst 1, 1) := by decide +kernel
theorem dX12_all_17 : decode cX12_all 17 = .ok (.invokevirtual 317, 3) := by decide +kernel
theorem dX12_all_20 : decode cX12_all 20 = .ok (.aload_n 0, 1) := by decide +kernel
theorem dX12_all_21 : decode cX12_all 21 = .ok (.invokevirtual 373, 3) := by decide +kernel
theorem dX12_all_24 : decode cX12_all 24 = .ok (.aload_n 0, 1) := by decide +kernel
theorem dX12_all_25 : decode cX12_all 25 = .ok (.bipush (-21), 2) := by decide +kernel
theorem dX12_all_27 : decode cX12_all 27 = .ok (.invokevirtual 353, 3) := by decide +kernel
theorem dX12_all_30 : decode cX12_all 30 = .ok (.goto (-26), 3) := by decide +kernel
theorem dX12_all_33 : decode cX12_all 33 = .ok (.return_, 1) := by decide +kernel
def f12_all_b4B (K33 : lu_M → Option (lu_M)) (rc : lu_M → Option (lu_M)) (rec : lu_M → Option (lu_M))   (m : lu_M) : Option (lu_M) :=
  lu_bi (f12_word m) fun x2 m3 =>
  if (lg_cmp x2 (1476 : Int64)) = 0 then (lu_bv (f12_wants (1 : Int32) m3) fun m4 =>
  lu_bv (f12_one rc m4) fun m5 =>
  lu_bv (f12_writes (-21 : Int32) m5) fun m6 =>
  rec m6)
  else (K33 m3)
def f12_all_b4 (K33 : lu_M → Option (lu_M)) (rc : lu_M → Option (lu_M))  : Nat → lu_M → Option (lu_M)
  | 0, _ => none
  | n + 1, m => f12_all_b4B K33 rc (f12_all_b4 K33 rc n)  m
set_option maxRecDepth 20000 in
theorem w12_all_b4B {rc : lu_M → Option (lu_M)} {frc loc : Nat}  {G : lu_G} {ρ : Nat → Nat}  {K33 : lu_M → Option (lu_M)} {rec : lu_M → Option (lu_M)} (X : lu_X G RX12 cX12_all 1 (frc + 8) (loc + 174)) (hret : (lu_me G).sig.returnType = none) (hrc : lu_C lu_TM (lu_l G) yX12_condition cX12_condition 1 none frc loc (fun ρ _ => [.ref (ρ 0)]) (fun m => rc  m) lu_RVv lu_id)  (hK33 : ∀  (m : lu_M), lu_Ab lu_TM G (lu_Q lu_TM G ρ lu_RVv lu_id) (K33 m) 33 [] [] ρ 0 0 [] m) (hrec : ∀  (m : lu_M), lu_Ab lu_TM G (lu_Q lu_TM G ρ lu_RVv lu_id) (rec m) 4 [(0, .ref (ρ 0))] [] ρ 0 0 [] m) : ∀  (m : lu_M), lu_Ab lu_TM G (lu_Q lu_TM G ρ lu_RVv lu_id) (f12_all_b4B K33 rc rec m) 4 [(0, .ref (ρ 0))] [] ρ 0 0 [] m := by
  intro  m
  unfold f12_all_b4B
  refine lu_aload_n X dX12_all_4 (pc2 := 5) rfl rfl 0 rfl ?_
  refine lu_invVl X (c12_word _) rfl q1640 mvV_12_word kM_0 lM_0 (by decide) ⟨_, rfl, rfl⟩ rfl rfl (Nat.le_of_ble_eq_true rfl) (by omega) (by omega) ⟨Nat.zero_le _, Nat.zero_le _⟩ dX12_all_5 (pc2 := 8) rfl rfl (fun x2 m3 => ?_)
  refine lu_ldc2 X q1695 dX12_all_8 (pc2 := 11) rfl ?_
  refine lu_lcmp X dX12_all_11 (pc2 := 12) rfl ?_
  refine lu_if_ne (tgt := 33) X dX12_all_12 (pc2 := 15) rfl (by decide) (fun _ => ?_) (fun _ => ?_)
  · exact lu_sub [] rfl (hK33 m3)
  · refine lu_aload_n X dX12_all_15 (pc2 := 16) rfl rfl 0 rfl ?_
    refine lu_iconst X dX12_all_16 (pc2 := 17) rfl ic_1 ?_
    refine lu_invVv X (c12_wants _ (1 : Int32)) rfl q1652 mvV_12_wants kM_0 lM_0 (by decide) ⟨_, rfl, rfl⟩ rfl rfl (Nat.le_of_ble_eq_true rfl) (by omega) (by omega) ⟨Nat.zero_le _, Nat.zero_le _⟩ dX12_all_17 (pc2 := 20) rfl rfl (fun m4 => ?_)
    refine lu_aload_n X dX12_all_20 (pc2 := 21) rfl rfl 0 rfl ?_
    refine lu_invVv X (c12_one _ hrc) rfl q1665 mvV_12_one kM_0 lM_0 (by decide) ⟨_, rfl, rfl⟩ rfl rfl (Nat.le_of_ble_eq_true rfl) (by omega) (by omega) ⟨Nat.zero_le _, Nat.zero_le _⟩ dX12_all_21 (pc2 := 24) rfl rfl (fun m5 => ?_)
    refine lu_aload_n X dX12_all_24 (pc2 := 25) rfl rfl 0 rfl ?_
    refine lu_bipush X dX12_all_25 (pc2 := 27) rfl bp_m21 ?_
    refine lu_invVv X (c12_writes _ (-21 : Int32)) rfl q1687 mvV_12_writes kM_0 lM_0 (by decide) ⟨_, rfl, rfl⟩ rfl rfl (Nat.le_of_ble_eq_true rfl) (by omega) (by omega) ⟨Nat.zero_le _, Nat.zero_le _⟩ dX12_all_27 (pc2 := 30) rfl rfl (fun m6 => ?_)
    refine lu_goto (tgt := 4) X dX12_all_30 (by decide) ?_
    exact hrec m6
theorem w12_all_b4 {rc : lu_M → Option (lu_M)} {frc loc : Nat}  {G : lu_G} {ρ : Nat → Nat}  {K33 : lu_M → Option (lu_M)} (X : lu_X G RX12 cX12_all 1 (frc + 8) (loc + 174)) (hret : (lu_me G).sig.returnType = none) (hrc : lu_C lu_TM (lu_l G) yX12_condition cX12_condition 1 none frc loc (fun ρ _ => [.ref (ρ 0)]) (fun m => rc  m) lu_RVv lu_id)  (hK33 : ∀  (m : lu_M), lu_Ab lu_TM G (lu_Q lu_TM G ρ lu_RVv lu_id) (K33 m) 33 [] [] ρ 0 0 [] m) : ∀ (n : Nat)  (m : lu_M), lu_Ab lu_TM G (lu_Q lu_TM G ρ lu_RVv lu_id) (f12_all_b4 K33 rc n m) 4 [(0, .ref (ρ 0))] [] ρ 0 0 [] m := by
  intro n
  induction n with
  | zero => intro  m; exact lu_none
  | succ n ih => intro  m; exact w12_all_b4B X hret hrc hK33 ih  m
def f12_all_b33  (rc : lu_M → Option (lu_M))   (m : lu_M) : Option (lu_M) :=
  some m
set_option maxRecDepth 20000 in
theorem w12_all_b33 {rc : lu_M → Option (lu_M)} {frc loc : Nat}  {G : lu_G} {ρ : Nat → Nat}   (X : lu_X G RX12 cX12_all 1 (frc + 8) (loc + 174)) (hret : (lu_me G).sig.returnType = none) (hrc : lu_C lu_TM (lu_l G) yX12_condition cX12_condition 1 none frc loc (fun ρ _ => [.ref (ρ 0)]) (fun m => rc  m) lu_RVv lu_id)   : ∀  (m : lu_M), lu_Ab lu_TM G (lu_Q lu_TM G ρ lu_RVv lu_id) (f12_all_b33 rc m) 33 [] [] ρ 0 0 [] m := by
  intro  m
  unfold f12_all_b33
  exact lu_vret X hret dX12_all_33
def f12_all (rc : lu_M → Option (lu_M))  (m : lu_M) : Option (lu_M) :=
  lu_bv (f12_one rc m) fun m1 =>
  f12_all_b4 (f12_all_b33 rc) rc lu_fu m1
set_option maxRecDepth 20000 in
theorem c12_all {rc : lu_M → Option (lu_M)} {frc loc : Nat} (l : Launch) (hrc : lu_C lu_TM (l) yX12_condition cX12_condition 1 none frc loc (fun ρ _ => [.ref (ρ 0)]) (fun m => rc  m) lu_RVv lu_id)    : lu_C lu_TM l yX12_all cX12_all 1 none (frc + 8) (loc + 174) (fun ρ sa => [.ref (ρ 0)]) (f12_all rc) lu_RVv lu_id := by
  refine lu_met (cls := RX12) rfl (by decide +kernel) (fun _ _ => Nat.le_of_ble_eq_true rfl) ?_
  intro G ρ m hl X hret
  subst hl
  change lu_Ab lu_TM G (lu_Q lu_TM G ρ lu_RVv lu_id) (f12_all rc m) 0 [(0, .ref (ρ 0))] [] ρ 0 0 [] m
  unfold f12_all
  refine lu_aload_n X dX12_all_0 (pc2 := 1) rfl rfl 0 rfl ?_
  refine lu_invVv X (c12_one _ hrc) rfl q1665 mvV_12_one kM_0 lM_0 (by decide) ⟨_, rfl, rfl⟩ rfl rfl (Nat.le_of_ble_eq_true rfl) (by omega) (by omega) ⟨Nat.zero_le _, Nat.zero_le _⟩ dX12_all_1 (pc2 := 4) rfl rfl (fun m1 => ?_)
  exact w12_all_b4 X hret hrc (w12_all_b33 X hret hrc) lu_fu m1

theorem dX12_condition_0 : decode cX12_condition 0 = .ok (.aload_n 0, 1) := by decide +kernel
theorem dX12_condition_1 : decode cX12_condition 1 = .ok (.getfield 303, 3) := by decide +kernel
theorem dX12_condition_4 : decode cX12_condition 4 = .ok (.ifCond .eq 4, 3) := by decide +kernel
theorem dX12_condition_7 : decode cX12_condition 7 = .ok (.return_, 1) := by decide +kernel
theorem dX12_condition_8 : decode cX12_condition 8 = .ok (.aload_n 0, 1) := by decide +kernel
theorem dX12_condition_9 : decode cX12_condition 9 = .ok (.invokevirtual 378, 3) := by decide +kernel
theorem dX12_condition_12 : decode cX12_condition 12 = .ok (.aload_n 0, 1) := by decide +kernel
theorem dX12_condition_13 : decode cX12_condition 13 = .ok (.invokevirtual 321, 3) := by decide +kernel
theorem dX12_condition_16 : decode cX12_condition 16 = .ok (.ldc2_w 381, 3) := by decide +kernel
theorem dX12_condition_19 : decode cX12_condition 19 = .ok (.lcmp, 1) := by decide +kernel
theorem dX12_condition_20 : decode cX12_condition 20 = .ok (.ifCond .ne 21, 3) := by decide +kernel
theorem dX12_condition_23 : decode cX12_condition 23 = .ok (.aload_n 0, 1) := by decide +kernel
theorem dX12_condition_24 : decode cX12_condition 24 = .ok (.iconst 1, 1) := by decide +kernel
theorem dX12_condition_25 : decode cX12_condition 25 = .ok (.invokevirtual 317, 3) := by decide +kernel
theorem dX12_condition_28 : decode cX12_condition 28 = .ok (.aload_n 0, 1) := by decide +kernel
theorem dX12_condition_29 : decode cX12_condition 29 = .ok (.invokevirtual 378, 3) := by decide +kernel
theorem dX12_condition_32 : decode cX12_condition 32 = .ok (.aload_n 0, 1) := by decide +kernel
theorem dX12_condition_33 : decode cX12_condition 33 = .ok (.bipush (-22), 2) := by decide +kernel
theorem dX12_condition_35 : decode cX12_condition 35 = .ok (.invokevirtual 353, 3) := by decide +kernel
theorem dX12_condition_38 : decode cX12_condition 38 = .ok (.goto (-26), 3) := by decide +kernel
theorem dX12_condition_41 : decode cX12_condition 41 = .ok (.return_, 1) := by decide +kernel
def f12_condition_b12B (K41 : lu_M → Option (lu_M)) (rc : lu_M → Option (lu_M)) (rec : lu_M → Option (lu_M))   (m : lu_M) : Option (lu_M) :=
  lu_bi (f12_word m) fun x2 m3 =>
  if (lg_cmp x2 (498 : Int64)) = 0 then (lu_bv (f12_wants (1 : Int32) m3) fun m4 =>
  lu_bv (f12_all rc m4) fun m5 =>
  lu_bv (f12_writes (-22 : Int32) m5) fun m6 =>
  rec m6)
  else (K41 m3)
def f12_condition_b12 (K41 : lu_M → Option (lu_M)) (rc : lu_M → Option (lu_M))  : Nat → lu_M → Option (lu_M)
  | 0, _ => none
  | n + 1, m => f12_condition_b12B K41 rc (f12_condition_b12 K41 rc n)  m
set_option maxRecDepth 20000 in
theorem w12_condition_b12B {rc : lu_M → Option (lu_M)} {frc loc : Nat}  {G : lu_G} {ρ : Nat → Nat}  {K41 : lu_M → Option (lu_M)} {rec : lu_M → Option (lu_M)} (X : lu_X G RX12 cX12_condition 1 (frc + 9) (loc + 194)) (hret : (lu_me G).sig.returnType = none) (hrc : lu_C lu_TM (lu_l G) yX12_condition cX12_condition 1 none frc loc (fun ρ _ => [.ref (ρ 0)]) (fun m => rc  m) lu_RVv lu_id)  (hK41 : ∀  (m : lu_M), lu_Ab lu_TM G (lu_Q lu_TM G ρ lu_RVv lu_id) (K41 m) 41 [] [] ρ 0 0 [] m) (hrec : ∀  (m : lu_M), lu_Ab lu_TM G (lu_Q lu_TM G ρ lu_RVv lu_id) (rec m) 12 [(0, .ref (ρ 0))] [] ρ 0 0 [] m) : ∀  (m : lu_M), lu_Ab lu_TM G (lu_Q lu_TM G ρ lu_RVv lu_id) (f12_condition_b12B K41 rc rec m) 12 [(0, .ref (ρ 0))] [] ρ 0 0 [] m := by
  intro  m
  unfold f12_condition_b12B
  refine lu_aload_n X dX12_condition_12 (pc2 := 13) rfl rfl 0 rfl ?_
  refine lu_invVl X (c12_word _) rfl q1640 mvV_12_word kM_0 lM_0 (by decide) ⟨_, rfl, rfl⟩ rfl rfl (Nat.le_of_ble_eq_true rfl) (by omega) (by omega) ⟨Nat.zero_le _, Nat.zero_le _⟩ dX12_condition_13 (pc2 := 16) rfl rfl (fun x2 m3 => ?_)
  refine lu_ldc2 X q1696 dX12_condition_16 (pc2 := 19) rfl ?_
  refine lu_lcmp X dX12_condition_19 (pc2 := 20) rfl ?_
  refine lu_if_ne (tgt := 41) X dX12_condition_20 (pc2 := 23) rfl (by decide) (fun _ => ?_) (fun _ => ?_)
  · exact lu_sub [] rfl (hK41 m3)
  · refine lu_aload_n X dX12_condition_23 (pc2 := 24) rfl rfl 0 rfl ?_
    refine lu_iconst X dX12_condition_24 (pc2 := 25) rfl ic_1 ?_
    refine lu_invVv X (c12_wants _ (1 : Int32)) rfl q1652 mvV_12_wants kM_0 lM_0 (by decide) ⟨_, rfl, rfl⟩ rfl rfl (Nat.le_of_ble_eq_true rfl) (by omega) (by omega) ⟨Nat.zero_le _, Nat.zero_le _⟩ dX12_condition_25 (pc2 := 28) rfl rfl (fun m4 => ?_)
    refine lu_aload_n X dX12_condition_28 (pc2 := 29) rfl rfl 0 rfl ?_
    refine lu_invVv X (c12_all _ hrc) rfl q1661 mvV_12_all kM_0 lM_0 (by decide) ⟨_, rfl, rfl⟩ rfl rfl (Nat.le_of_ble_eq_true rfl) (by omega) (by omega) ⟨Nat.zero_le _, Nat.zero_le _⟩ dX12_condition_29 (pc2 := 32) rfl rfl (fun m5 => ?_)
    refine lu_aload_n X dX12_condition_32 (pc2 := 33) rfl rfl 0 rfl ?_
    refine lu_bipush X dX12_condition_33 (pc2 := 35) rfl bp_m22 ?_
    refine lu_invVv X (c12_writes _ (-22 : Int32)) rfl q1687 mvV_12_writes kM_0 lM_0 (by decide) ⟨_, rfl, rfl⟩ rfl rfl (Nat.le_of_ble_eq_true rfl) (by omega) (by omega) ⟨Nat.zero_le _, Nat.zero_le _⟩ dX12_condition_35 (pc2 := 38) rfl rfl (fun m6 => ?_)
    refine lu_goto (tgt := 12) X dX12_condition_38 (by decide) ?_
    exact hrec m6
theorem w12_condition_b12 {rc : lu_M → Option (lu_M)} {frc loc : Nat}  {G : lu_G} {ρ : Nat → Nat}  {K41 : lu_M → Option (lu_M)} (X : lu_X G RX12 cX12_condition 1 (frc + 9) (loc + 194)) (hret : (lu_me G).sig.returnType = none) (hrc : lu_C lu_TM (lu_l G) yX12_condition cX12_condition 1 none frc loc (fun ρ _ => [.ref (ρ 0)]) (fun m => rc  m) lu_RVv lu_id)  (hK41 : ∀  (m : lu_M), lu_Ab lu_TM G (lu_Q lu_TM G ρ lu_RVv lu_id) (K41 m) 41 [] [] ρ 0 0 [] m) : ∀ (n : Nat)  (m : lu_M), lu_Ab lu_TM G (lu_Q lu_TM G ρ lu_RVv lu_id) (f12_condition_b12 K41 rc n m) 12 [(0, .ref (ρ 0))] [] ρ 0 0 [] m := by
  intro n
  induction n with
  | zero => intro  m; exact lu_none
  | succ n ih => intro  m; exact w12_condition_b12B X hret hrc hK41 ih  m
def f12_condition_b41  (rc : lu_M → Option (lu_M))   (m : lu_M) : Option (lu_M) :=
  some m
set_option maxRecDepth 20000 in
theorem w12_condition_b41 {rc : lu_M → Option (lu_M)} {frc loc : Nat}  {G : lu_G} {ρ : Nat → Nat}   (X : lu_X G RX12 cX12_condition 1 (frc + 9) (loc + 194)) (hret : (lu_me G).sig.returnType = none) (hrc : lu_C lu_TM (lu_l G) yX12_condition cX12_condition 1 none frc loc (fun ρ _ => [.ref (ρ 0)]) (fun m => rc  m) lu_RVv lu_id)   : ∀  (m : lu_M), lu_Ab lu_TM G (lu_Q lu_TM G ρ lu_RVv lu_id) (f12_condition_b41 rc m) 41 [] [] ρ 0 0 [] m := by
  intro  m
  unfold f12_condition_b41
  exact lu_vret X hret dX12_condition_41
def f12_conditionO (rc : lu_M → Option (lu_M))  (m : lu_M) : Option (lu_M) :=
  if (m 0 29) = 0 then (lu_bv (f12_all rc m) fun m1 =>
  f12_condition_b12 (f12_condition_b41 rc) rc lu_fu m1)
  else (some m)
set_option maxRecDepth 20000 in
theorem c12_conditionO {rc : lu_M → Option (lu_M)} {frc loc : Nat} (l : Launch) (hrc : lu_C lu_TM (l) yX12_condition cX12_condition 1 none frc loc (fun ρ _ => [.ref (ρ 0)]) (fun m => rc  m) lu_RVv lu_id)    : lu_C lu_TM l yX12_condition cX12_condition 1 none (frc + 9) (loc + 194) (fun ρ sa => [.ref (ρ 0)]) (f12_conditionO rc) lu_RVv lu_id := by
  refine lu_met (cls := RX12) rfl (by decide +kernel) (fun _ _ => Nat.le_of_ble_eq_true rfl) ?_
  intro G ρ m hl X hret
  subst hl
  change lu_Ab lu_TM G (lu_Q lu_TM G ρ lu_RVv lu_id) (f12_conditionO rc m) 0 [(0, .ref (ρ 0))] [] ρ 0 0 [] m
  unfold f12_conditionO
  refine lu_aload_n X dX12_condition_0 (pc2 := 1) rfl rfl 0 rfl ?_
  refine lu_get X fl12_303 rfl kM_0 lM_0 dX12_condition_1 (pc2 := 4) rfl ?_
  refine lu_if_eq (tgt := 8) X dX12_condition_4 (pc2 := 7) rfl (by decide) (fun _ => ?_) (fun _ => ?_)
  · refine lu_aload_n X dX12_condition_8 (pc2 := 9) rfl rfl 0 rfl ?_
    refine lu_invVv X (c12_all _ hrc) rfl q1661 mvV_12_all kM_0 lM_0 (by decide) ⟨_, rfl, rfl⟩ rfl rfl (Nat.le_of_ble_eq_true rfl) (by omega) (by omega) ⟨Nat.zero_le _, Nat.zero_le _⟩ dX12_condition_9 (pc2 := 12) rfl rfl (fun m1 => ?_)
    exact w12_condition_b12 X hret hrc (w12_condition_b41 X hret hrc) lu_fu m1
  · exact lu_vret X hret dX12_condition_7
def f12_condition : Nat → lu_M → Option (lu_M)
  | 0, _ => none
  | d + 1, m => f12_conditionO (f12_condition d)  m
theorem c12_condition (l : Launch) : ∀ (d : Nat) , lu_C lu_TM l yX12_condition cX12_condition 1 none (9 * d) (194 * d) (fun ρ _ => [.ref (ρ 0)]) (fun m => f12_condition d  m) lu_RVv lu_id := by
  intro d
  induction d with
  | zero => intro  D cs ρ m sa sz b h; cases h
  | succ d ih => exact c12_conditionO (frc := 9 * d) (loc := 194 * d) l ih 

theorem dX12_rule_0 : decode cX12_rule 0 = .ok (.aload_n 0, 1) := by decide +kernel
theorem dX12_rule_1 : decode cX12_rule 1 = .ok (.invokevirtual 383, 3) := by decide +kernel
theorem dX12_rule_4 : decode cX12_rule 4 = .ok (.istore_n 1, 1) := by decide +kernel
theorem dX12_rule_5 : decode cX12_rule 5 = .ok (.aload_n 0, 1) := by decide +kernel
theorem dX12_rule_6 : decode cX12_rule 6 = .ok (.iload_n 1, 1) := by decide +kernel
theorem dX12_rule_7 : decode cX12_rule 7 = .ok (.ifCond .lt 18, 3) := by decide +kernel
theorem dX12_rule_10 : decode cX12_rule 10 = .ok (.aload_n 0, 1) := by decide +kernel
theorem dX12_rule_11 : decode cX12_rule 11 = .ok (.getfield 7, 3) := by decide +kernel
theorem dX12_rule_14 : decode cX12_rule 14 = .ok (.iconst 1, 1) := by decide +kernel
theorem dX12_rule_15 : decode cX12_rule 15 = .ok (.iaload, 1) := by decide +kernel
theorem dX12_rule_16 : decode cX12_rule 16 = .ok (.bipush 8, 2) := by decide +kernel
theorem dX12_rule_18 : decode cX12_rule 18 = .ok (.if_icmp .ge 7, 3) := by decide +kernel
theorem dX12_rule_21 : decode cX12_rule 21 = .ok (.iconst 1, 1) := by decide +kernel
theorem dX12_rule_22 : decode cX12_rule 22 = .ok (.goto 4, 3) := by decide +kernel
theorem dX12_rule_25 : decode cX12_rule 25 = .ok (.iconst 0, 1) := by decide +kernel
theorem dX12_rule_26 : decode cX12_rule 26 = .ok (.invokevirtual 317, 3) := by decide +kernel
theorem dX12_rule_29 : decode cX12_rule 29 = .ok (.aload_n 0, 1) := by decide +kernel
theorem dX12_rule_30 : decode cX12_rule 30 = .ok (.invokevirtual 321, 3) := by decide +kernel
theorem dX12_rule_33 : decode cX12_rule 33 = .ok (.ldc2_w 386, 3) := by decide +kernel
theorem dX12_rule_36 : decode cX12_rule 36 = .ok (.lcmp, 1) := by decide +kernel
theorem dX12_rule_37 : decode cX12_rule 37 = .ok (.ifCond .ne 12, 3) := by decide +kernel
theorem dX12_rule_40 : decode cX12_rule 40 = .ok (.aload_n 0, 1) := by decide +kernel
theorem dX12_rule_41 : decode cX12_rule 41 = .ok (.iconst 1, 1) := by decide +kernel
theorem dX12_rule_42 : decode cX12_rule 42 = .ok (.invokevirtual 317, 3) := by decide +kernel
theorem dX12_rule_45 : decode cX12_rule 45 = .ok (.aload_n 0, 1) := by decide +kernel
theorem dX12_rule_46 : decode cX12_rule 46 = .ok (.invokevirtual 367, 3) := by decide +kernel
theorem dX12_rule_49 : decode cX12_rule 49 = .ok (.aload_n 0, 1) := by decide +kernel
theorem dX12_rule_50 : decode cX12_rule 50 = .ok (.invokevirtual 321, 3) := by decide +kernel
theorem dX12_rule_53 : decode cX12_rule 53 = .ok (.lstore_n 2, 1) := by decide +kernel
theorem dX12_rule_54 : decode cX12_rule 54 = .ok (.lload_n 2, 1) := by decide +kernel
theorem dX12_rule_55 : decode cX12_rule 55 = .ok (.ldc2_w 388, 3) := by decide +kernel
theorem dX12_rule_58 : decode cX12_rule 58 = .ok (.lcmp, 1) := by decide +kernel
theorem dX12_rule_59 : decode cX12_rule 59 = .ok (.ifCond .ne 7, 3) := by decide +kernel
theorem dX12_rule_62 : decode cX12_rule 62 = .ok (.iconst 0, 1) := by decide +kernel
theorem dX12_rule_63 : decode cX12_rule 63 = .ok (.goto 28, 3) := by decide +kernel
theorem dX12_rule_66 : decode cX12_rule 66 = .ok (.lload_n 2, 1) := by decide +kernel
theorem dX12_rule_67 : decode cX12_rule 67 = .ok (.ldc2_w 390, 3) := by decide +kernel
theorem dX12_rule_70 : decode cX12_rule 70 = .ok (.lcmp, 1) := by decide +kernel
theorem dX12_rule_71 : decode cX12_rule 71 = .ok (.ifCond .ne 7, 3) := by decide +kernel
theorem dX12_rule_74 : decode cX12_rule 74 = .ok (.iconst 1, 1) := by decide +kernel
theorem dX12_rule_75 : decode cX12_rule 75 = .ok (.goto 16, 3) := by decide +kernel
theorem dX12_rule_78 : decode cX12_rule 78 = .ok (.lload_n 2, 1) := by decide +kernel
theorem dX12_rule_79 : decode cX12_rule 79 = .ok (.ldc2_w 392, 3) := by decide +kernel
theorem dX12_rule_82 : decode cX12_rule 82 = .ok (.lcmp, 1) := by decide +kernel
theorem dX12_rule_83 : decode cX12_rule 83 = .ok (.ifCond .ne 7, 3) := by decide +kernel
theorem dX12_rule_86 : decode cX12_rule 86 = .ok (.iconst 2, 1) := by decide +kernel
theorem dX12_rule_87 : decode cX12_rule 87 = .ok (.goto 4, 3) := by decide +kernel
theorem dX12_rule_90 : decode cX12_rule 90 = .ok (.iconst (-1), 1) := by decide +kernel
theorem dX12_rule_91 : decode cX12_rule 91 = .ok (.istore 4, 2) := by decide +kernel
theorem dX12_rule_93 : decode cX12_rule 93 = .ok (.aload_n 0, 1) := by decide +kernel
theorem dX12_rule_94 : decode cX12_rule 94 = .ok (.iload 4, 2) := by decide +kernel
theorem dX12_rule_96 : decode cX12_rule 96 = .ok (.ifCond .lt 7, 3) := by decide +kernel
theorem dX12_rule_99 : decode cX12_rule 99 = .ok (.iconst 1, 1) := by decide +kernel
theorem dX12_rule_100 : decode cX12_rule 100 = .ok (.goto 4, 3) := by decide +kernel
theorem dX12_rule_103 : decode cX12_rule 103 = .ok (.iconst 0, 1) := by decide +kernel
theorem dX12_rule_104 : decode cX12_rule 104 = .ok (.invokevirtual 317, 3) := by decide +kernel
theorem dX12_rule_107 : decode cX12_rule 107 = .ok (.aload_n 0, 1) := by decide +kernel
theorem dX12_rule_108 : decode cX12_rule 108 = .ok (.iconst 0, 1) := by decide +kernel
theorem dX12_rule_109 : decode cX12_rule 109 = .ok (.putfield 314, 3) := by decide +kernel
theorem dX12_rule_112 : decode cX12_rule 112 = .ok (.iload 4, 2) := by decide +kernel
theorem dX12_rule_114 : decode cX12_rule 114 = .ok (.ifCond .lt 22, 3) := by decide +kernel
theorem dX12_rule_117 : decode cX12_rule 117 = .ok (.iload 4, 2) := by decide +kernel
theorem dX12_rule_119 : decode cX12_rule 119 = .ok (.iconst 2, 1) := by decide +kernel
theorem dX12_rule_120 : decode cX12_rule 120 = .ok (.if_icmp .eq 16, 3) := by decide +kernel
theorem dX12_rule_123 : decode cX12_rule 123 = .ok (.aload_n 0, 1) := by decide +kernel
theorem dX12_rule_124 : decode cX12_rule 124 = .ok (.getfield 303, 3) := by decide +kernel
theorem dX12_rule_127 : decode cX12_rule 127 = .ok (.ifCond .ne 9, 3) := by decide +kernel
theorem dX12_rule_130 : decode cX12_rule 130 = .ok (.aload_n 0, 1) := by decide +kernel
theorem dX12_rule_131 : decode cX12_rule 131 = .ok (.bipush 99, 2) := by decide +kernel
theorem dX12_rule_133 : decode cX12_rule 133 = .ok (.invokevirtual 356, 3) := by decide +kernel
theorem dX12_rule_136 : decode cX12_rule 136 = .ok (.aload_n 0, 1) := by decide +kernel
theorem dX12_rule_137 : decode cX12_rule 137 = .ok (.getfield 314, 3) := by decide +kernel
theorem dX12_rule_140 : decode cX12_rule 140 = .ok (.istore 5, 2) := by decide +kernel
theorem dX12_rule_142 : decode cX12_rule 142 = .ok (.aload_n 0, 1) := by decide +kernel
theorem dX12_rule_143 : decode cX12_rule 143 = .ok (.aload_n 0, 1) := by decide +kernel
theorem dX12_rule_144 : decode cX12_rule 144 = .ok (.getfield 303, 3) := by decide +kernel
theorem dX12_rule_147 : decode cX12_rule 147 = .ok (.ifCond .ne 20, 3) := by decide +kernel
theorem dX12_rule_150 : decode cX12_rule 150 = .ok (.aload_n 0, 1) := by decide +kernel
theorem dX12_rule_151 : decode cX12_rule 151 = .ok (.aload_n 0, 1) := by decide +kernel
theorem dX12_rule_152 : decode cX12_rule 152 = .ok (.getfield 291, 3) := by decide +kernel
theorem dX12_rule_155 : decode cX12_rule 155 = .ok (.invokevirtual 294, 3) := by decide +kernel
theorem dX12_rule_158 : decode cX12_rule 158 = .ok (.bipush 59, 2) := by decide +kernel
theorem dX12_rule_160 : decode cX12_rule 160 = .ok (.if_icmp .ne 7, 3) := by decide +kernel
theorem dX12_rule_163 : decode cX12_rule 163 = .ok (.iconst 1, 1) := by decide +kernel
theorem dX12_rule_164 : decode cX12_rule 164 = .ok (.goto 4, 3) := by decide +kernel
theorem dX12_rule_167 : decode cX12_rule 167 = .ok (.iconst 0, 1) := by decide +kernel
theorem dX12_rule_168 : decode cX12_rule 168 = .ok (.invokevirtual 317, 3) := by decide +kernel
theorem dX12_rule_171 : decode cX12_rule 171 = .ok (.aload_n 0, 1) := by decide +kernel
theorem dX12_rule_172 : decode cX12_rule 172 = .ok (.getfield 303, 3) := by decide +kernel
theorem dX12_rule_175 : decode cX12_rule 175 = .ok (.ifCond .ne 72, 3) := by decide +kernel
theorem dX12_rule_178 : decode cX12_rule 178 = .ok (.sipush 136, 3) := by decide +kernel
theorem dX12_rule_181 : decode cX12_rule 181 = .ok (.iconst 4, 1) := by decide +kernel
theorem dX12_rule_182 : decode cX12_rule 182 = .ok (.aload_n 0, 1) := by decide +kernel
theorem dX12_rule_183 : decode cX12_rule 183 = .ok (.getfield 7, 3) := by decide +kernel
theorem dX12_rule_186 : decode cX12_rule 186 = .ok (.iconst 1, 1) := by decide +kernel
theorem dX12_rule_187 : decode cX12_rule 187 = .ok (.iaload, 1) := by decide +kernel
theorem dX12_rule_188 : decode cX12_rule 188 = .ok (.imul, 1) := by decide +kernel
theorem dX12_rule_189 : decode cX12_rule 189 = .ok (.iadd, 1) := by decide +kernel
theorem dX12_rule_190 : decode cX12_rule 190 = .ok (.istore 6, 2) := by decide +kernel
theorem dX12_rule_192 : decode cX12_rule 192 = .ok (.aload_n 0, 1) := by decide +kernel
theorem dX12_rule_193 : decode cX12_rule 193 = .ok (.getfield 7, 3) := by decide +kernel
theorem dX12_rule_196 : decode cX12_rule 196 = .ok (.iload 6, 2) := by decide +kernel
theorem dX12_rule_198 : decode cX12_rule 198 = .ok (.iconst 0, 1) := by decide +kernel
theorem dX12_rule_199 : decode cX12_rule 199 = .ok (.iadd, 1) := by decide +kernel
theorem dX12_rule_200 : decode cX12_rule 200 = .ok (.iload_n 1, 1) := by decide +kernel
theorem dX12_rule_201 : decode cX12_rule 201 = .ok (.iastore, 1) := by decide +kernel
theorem dX12_rule_202 : decode cX12_rule 202 = .ok (.aload_n 0, 1) := by decide +kernel
theorem dX12_rule_203 : decode cX12_rule 203 = .ok (.getfield 7, 3) := by decide +kernel
theorem dX12_rule_206 : decode cX12_rule 206 = .ok (.iload 6, 2) := by decide +kernel
theorem dX12_rule_208 : decode cX12_rule 208 = .ok (.iconst 1, 1) := by decide +kernel
theorem dX12_rule_209 : decode cX12_rule 209 = .ok (.iadd, 1) := by decide +kernel
theorem dX12_rule_210 : decode cX12_rule 210 = .ok (.iload 4, 2) := by decide +kernel
theorem dX12_rule_212 : decode cX12_rule 212 = .ok (.iastore, 1) := by decide +kernel
theorem dX12_rule_213 : decode cX12_rule 213 = .ok (.aload_n 0, 1) := by decide +kernel
theorem dX12_rule_214 : decode cX12_rule 214 = .ok (.getfield 7, 3) := by decide +kernel
theorem dX12_rule_217 : decode cX12_rule 217 = .ok (.iload 6, 2) := by decide +kernel
theorem dX12_rule_219 : decode cX12_rule 219 = .ok (.iconst 2, 1) := by decide +kernel
theorem dX12_rule_220 : decode cX12_rule 220 = .ok (.iadd, 1) := by decide +kernel
theorem dX12_rule_221 : decode cX12_rule 221 = .ok (.iload 5, 2) := by decide +kernel
theorem dX12_rule_223 : decode cX12_rule 223 = .ok (.iastore, 1) := by decide +kernel
theorem dX12_rule_224 : decode cX12_rule 224 = .ok (.aload_n 0, 1) := by decide +kernel
theorem dX12_rule_225 : decode cX12_rule 225 = .ok (.getfield 7, 3) := by decide +kernel
theorem dX12_rule_228 : decode cX12_rule 228 = .ok (.iload 6, 2) := by decide +kernel
theorem dX12_rule_230 : decode cX12_rule 230 = .ok (.iconst 3, 1) := by decide +kernel
theorem dX12_rule_231 : decode cX12_rule 231 = .ok (.iadd, 1) := by decide +kernel
theorem dX12_rule_232 : decode cX12_rule 232 = .ok (.aload_n 0, 1) := by decide +kernel
theorem dX12_rule_233 : decode cX12_rule 233 = .ok (.getfield 347, 3) := by decide +kernel
theorem dX12_rule_236 : decode cX12_rule 236 = .ok (.iastore, 1) := by decide +kernel
theorem dX12_rule_237 : decode cX12_rule 237 = .ok (.aload_n 0, 1) := by decide +kernel
theorem dX12_rule_238 : decode cX12_rule 238 = .ok (.getfield 7, 3) := by decide +kernel
theorem dX12_rule_241 : decode cX12_rule 241 = .ok (.iconst 1, 1) := by decide +kernel
theorem dX12_rule_242 : decode cX12_rule 242 = .ok (.dup2, 1) := by decide +kernel
theorem dX12_rule_243 : decode cX12_rule 243 = .ok (.iaload, 1) := by decide +kernel
theorem dX12_rule_244 : decode cX12_rule 244 = .ok (.iconst 1, 1) := by decide +kernel
theorem dX12_rule_245 : decode cX12_rule 245 = .ok (.iadd, 1) := by decide +kernel
theorem dX12_rule_246 : decode cX12_rule 246 = .ok (.iastore, 1) := by decide +kernel
theorem dX12_rule_247 : decode cX12_rule 247 = .ok (.return_, 1) := by decide +kernel
def f12_rule_b247    (m : lu_M) : Option (lu_M) :=
  some m
set_option maxRecDepth 20000 in
theorem w12_rule_b247  {G : lu_G} {ρ : Nat → Nat}   (X : lu_X G RX12 cX12_rule 7 73 1572) (hret : (lu_me G).sig.returnType = none)   : ∀  (m : lu_M), lu_Ab lu_TM G (lu_Q lu_TM G ρ lu_RVv lu_id) (f12_rule_b247  m) 247 [] [] ρ 0 0 [] m := by
  intro  m
  unfold f12_rule_b247
  exact lu_vret X hret dX12_rule_247
def f12_rule_b168   (v1 : Int32) (v4 : Int32) (v5 : Int32) (s0 : Int32) (m : lu_M) : Option (lu_M) :=
  lu_bv (f12_wants s0 m) fun m11 =>
  if (m11 0 29) = 0 then (lu_nm (((136 : Int32) + ((4 : Int32) * (m11 1 1)))) fun x12 =>
  lu_gd (lu_ib (x12 + (0 : Int32)) 368) <|
  lu_nm (lu_st m11 1 (x12 + (0 : Int32)).toNatClampNeg v1) fun m13 =>
  lu_gd (lu_ib (x12 + (1 : Int32)) 368) <|
  lu_nm (lu_st m13 1 (x12 + (1 : Int32)).toNatClampNeg v4) fun m14 =>
  lu_gd (lu_ib (x12 + (2 : Int32)) 368) <|
  lu_nm (lu_st m14 1 (x12 + (2 : Int32)).toNatClampNeg v5) fun m15 =>
  lu_gd (lu_ib (x12 + (3 : Int32)) 368) <|
  lu_nm (lu_st m15 1 (x12 + (3 : Int32)).toNatClampNeg (m15 0 28)) fun m16 =>
  lu_nm (lu_st m16 1 1 ((m16 1 1) + (1 : Int32))) fun m17 =>
  f12_rule_b247 m17)
  else (f12_rule_b247 m11)
set_option maxRecDepth 20000 in
theorem w12_rule_b168  {G : lu_G} {ρ : Nat → Nat}   (X : lu_X G RX12 cX12_rule 7 73 1572) (hret : (lu_me G).sig.returnType = none)   : ∀ (v1 : Int32) (v4 : Int32) (v5 : Int32) (s0 : Int32) (m : lu_M), lu_Ab lu_TM G (lu_Q lu_TM G ρ lu_RVv lu_id) (f12_rule_b168  v1 v4 v5 s0 m) 168 [(0, .ref (ρ 0)), (1, .int v1), (4, .int v4), (5, .int v5)] [.int s0, .ref (ρ 0)] ρ 0 0 [] m := by
  intro v1 v4 v5 s0 m
  unfold f12_rule_b168
  refine lu_invVv X (c12_wants _ s0) rfl q1652 mvV_12_wants kM_0 lM_0 (by decide) ⟨_, rfl, rfl⟩ rfl rfl (Nat.le_of_ble_eq_true rfl) (Nat.le_of_ble_eq_true rfl) (Nat.le_of_ble_eq_true rfl) ⟨Nat.zero_le _, Nat.zero_le _⟩ dX12_rule_168 (pc2 := 171) rfl rfl (fun m11 => ?_)
  refine lu_aload_n X dX12_rule_171 (pc2 := 172) rfl rfl 0 rfl ?_
  refine lu_get X fl12_303 rfl kM_0 lM_0 dX12_rule_172 (pc2 := 175) rfl ?_
  refine lu_if_ne (tgt := 247) X dX12_rule_175 (pc2 := 178) rfl (by decide) (fun _ => ?_) (fun _ => ?_)
  · exact lu_sub [] rfl (w12_rule_b247 X hret m11)
  · refine lu_sipush X dX12_rule_178 (pc2 := 181) rfl sp_136 ?_
    refine lu_iconst X dX12_rule_181 (pc2 := 182) rfl ic_4 ?_
    refine lu_aload_n X dX12_rule_182 (pc2 := 183) rfl rfl 0 rfl ?_
    refine lu_getr (r2 := 1) X rfl fl12_7 rfl kM_0 lM_0 dX12_rule_183 (pc2 := 186) rfl ?_
    refine lu_iconst X dX12_rule_186 (pc2 := 187) rfl ic_1 ?_
    refine lu_ialdK (q := 1) X (by decide) kM_1 lM_1 dX12_rule_187 (pc2 := 188) rfl ?_
    refine lu_imul X dX12_rule_188 (pc2 := 189) rfl ?_
    refine lu_iadd X dX12_rule_189 (pc2 := 190) rfl ?_
    refine lu_topi (fun x12 => ?_)
    refine lu_istore (lv2 := [(6, .int x12), (0, .ref (ρ 0)), (1, .int v1), (4, .int v4), (5, .int v5)]) X dX12_rule_190 (pc2 := 192) rfl (by decide) rfl ?_
    refine lu_aload_n X dX12_rule_192 (pc2 := 193) rfl rfl 1 rfl ?_
    refine lu_getr (r2 := 1) X rfl fl12_7 rfl kM_0 lM_0 dX12_rule_193 (pc2 := 196) rfl ?_
    refine lu_iload X dX12_rule_196 (pc2 := 198) rfl 0 rfl ?_
    refine lu_iconst X dX12_rule_198 (pc2 := 199) rfl ic_0 ?_
    refine lu_iadd X dX12_rule_199 (pc2 := 200) rfl ?_
    refine lu_iload_n X dX12_rule_200 (pc2 := 201) rfl rfl 2 rfl ?_
    refine lu_iast X kM_1 lM_1 dX12_rule_201 (pc2 := 202) rfl (fun m13 => ?_)
    refine lu_aload_n X dX12_rule_202 (pc2 := 203) rfl rfl 1 rfl ?_
    refine lu_getr (r2 := 1) X rfl fl12_7 rfl kM_0 lM_0 dX12_rule_203 (pc2 := 206) rfl ?_
    refine lu_iload X dX12_rule_206 (pc2 := 208) rfl 0 rfl ?_
    refine lu_iconst X dX12_rule_208 (pc2 := 209) rfl ic_1 ?_
    refine lu_iadd X dX12_rule_209 (pc2 := 210) rfl ?_
    refine lu_iload X dX12_rule_210 (pc2 := 212) rfl 3 rfl ?_
    refine lu_iast X kM_1 lM_1 dX12_rule_212 (pc2 := 213) rfl (fun m14 => ?_)
    refine lu_aload_n X dX12_rule_213 (pc2 := 214) rfl rfl 1 rfl ?_
    refine lu_getr (r2 := 1) X rfl fl12_7 rfl kM_0 lM_0 dX12_rule_214 (pc2 := 217) rfl ?_
    refine lu_iload X dX12_rule_217 (pc2 := 219) rfl 0 rfl ?_
    refine lu_iconst X dX12_rule_219 (pc2 := 220) rfl ic_2 ?_
    refine lu_iadd X dX12_rule_220 (pc2 := 221) rfl ?_
    refine lu_iload X dX12_rule_221 (pc2 := 223) rfl 4 rfl ?_
    refine lu_iast X kM_1 lM_1 dX12_rule_223 (pc2 := 224) rfl (fun m15 => ?_)
    refine lu_aload_n X dX12_rule_224 (pc2 := 225) rfl rfl 1 rfl ?_
    refine lu_getr (r2 := 1) X rfl fl12_7 rfl kM_0 lM_0 dX12_rule_225 (pc2 := 228) rfl ?_
    refine lu_iload X dX12_rule_228 (pc2 := 230) rfl 0 rfl ?_
    refine lu_iconst X dX12_rule_230 (pc2 := 231) rfl ic_3 ?_
    refine lu_iadd X dX12_rule_231 (pc2 := 232) rfl ?_
    refine lu_aload_n X dX12_rule_232 (pc2 := 233) rfl rfl 1 rfl ?_
    refine lu_get X fl12_347 rfl kM_0 lM_0 dX12_rule_233 (pc2 := 236) rfl ?_
    refine lu_iast X kM_1 lM_1 dX12_rule_236 (pc2 := 237) rfl (fun m16 => ?_)
    refine lu_aload_n X dX12_rule_237 (pc2 := 238) rfl rfl 1 rfl ?_
    refine lu_getr (r2 := 1) X rfl fl12_7 rfl kM_0 lM_0 dX12_rule_238 (pc2 := 241) rfl ?_
    refine lu_iconst X dX12_rule_241 (pc2 := 242) rfl ic_1 ?_
    refine lu_dup2 X dX12_rule_242 (pc2 := 243) rfl rfl rfl ?_
    refine lu_ialdK (q := 1) X (by decide) kM_1 lM_1 dX12_rule_243 (pc2 := 244) rfl ?_
    refine lu_iconst X dX12_rule_244 (pc2 := 245) rfl ic_1 ?_
    refine lu_iadd X dX12_rule_245 (pc2 := 246) rfl ?_
    refine lu_iastK (q := 1) X (by decide) kM_1 lM_1 dX12_rule_246 (pc2 := 247) rfl (fun m17 => ?_)
    exact lu_sub [] rfl (w12_rule_b247 X hret m17)
def f12_rule_b167   (v1 : Int32) (v4 : Int32) (v5 : Int32) (m : lu_M) : Option (lu_M) :=
  f12_rule_b168 v1 v4 v5 (0 : Int32) m
set_option maxRecDepth 20000 in
theorem w12_rule_b167  {G : lu_G} {ρ : Nat → Nat}   (X : lu_X G RX12 cX12_rule 7 73 1572) (hret : (lu_me G).sig.returnType = none)   : ∀ (v1 : Int32) (v4 : Int32) (v5 : Int32) (m : lu_M), lu_Ab lu_TM G (lu_Q lu_TM G ρ lu_RVv lu_id) (f12_rule_b167  v1 v4 v5 m) 167 [(0, .ref (ρ 0)), (1, .int v1), (4, .int v4), (5, .int v5)] [.ref (ρ 0)] ρ 0 0 [] m := by
  intro v1 v4 v5 m
  unfold f12_rule_b167
  refine lu_iconst X dX12_rule_167 (pc2 := 168) rfl ic_0 ?_
  exact w12_rule_b168 X hret v1 v4 v5 (0 : Int32) m
def f12_rule_b136   (v1 : Int32) (v4 : Int32) (m : lu_M) : Option (lu_M) :=
  lu_nm ((m 0 26)) fun x10 =>
  if (m 0 29) = 0 then (lu_bi (f12_byteAt (m 0 24) m) fun x18 m19 =>
  if x18 = (59 : Int32) then (f12_rule_b168 v1 v4 x10 (1 : Int32) m19)
  else (f12_rule_b167 v1 v4 x10 m19))
  else (f12_rule_b167 v1 v4 x10 m)
set_option maxRecDepth 20000 in
theorem w12_rule_b136  {G : lu_G} {ρ : Nat → Nat}   (X : lu_X G RX12 cX12_rule 7 73 1572) (hret : (lu_me G).sig.returnType = none)   : ∀ (v1 : Int32) (v4 : Int32) (m : lu_M), lu_Ab lu_TM G (lu_Q lu_TM G ρ lu_RVv lu_id) (f12_rule_b136  v1 v4 m) 136 [(0, .ref (ρ 0)), (1, .int v1), (4, .int v4)] [] ρ 0 0 [] m := by
  intro v1 v4 m
  unfold f12_rule_b136
  refine lu_aload_n X dX12_rule_136 (pc2 := 137) rfl rfl 0 rfl ?_
  refine lu_get X fl12_314 rfl kM_0 lM_0 dX12_rule_137 (pc2 := 140) rfl ?_
  refine lu_topi (fun x10 => ?_)
  refine lu_istore (lv2 := [(5, .int x10), (0, .ref (ρ 0)), (1, .int v1), (4, .int v4)]) X dX12_rule_140 (pc2 := 142) rfl (by decide) rfl ?_
  refine lu_aload_n X dX12_rule_142 (pc2 := 143) rfl rfl 1 rfl ?_
  refine lu_aload_n X dX12_rule_143 (pc2 := 144) rfl rfl 1 rfl ?_
  refine lu_get X fl12_303 rfl kM_0 lM_0 dX12_rule_144 (pc2 := 147) rfl ?_
  refine lu_if_ne (tgt := 167) X dX12_rule_147 (pc2 := 150) rfl (by decide) (fun _ => ?_) (fun _ => ?_)
  · exact lu_sub [1, 2, 3, 0] rfl (w12_rule_b167 X hret v1 v4 x10 m)
  · refine lu_aload_n X dX12_rule_150 (pc2 := 151) rfl rfl 1 rfl ?_
    refine lu_aload_n X dX12_rule_151 (pc2 := 152) rfl rfl 1 rfl ?_
    refine lu_get X fl12_291 rfl kM_0 lM_0 dX12_rule_152 (pc2 := 155) rfl ?_
    refine lu_invVi X (c12_byteAt _ (m 0 24)) rfl q1618 mvV_12_byteAt kM_0 lM_0 (by decide) ⟨_, rfl, rfl⟩ rfl rfl (Nat.le_of_ble_eq_true rfl) (Nat.le_of_ble_eq_true rfl) (Nat.le_of_ble_eq_true rfl) ⟨Nat.zero_le _, Nat.zero_le _⟩ dX12_rule_155 (pc2 := 158) rfl rfl (fun x18 m19 => ?_)
    refine lu_bipush X dX12_rule_158 (pc2 := 160) rfl bp_59 ?_
    refine lu_icmp_ne (tgt := 167) X dX12_rule_160 (pc2 := 163) rfl (by decide) (fun _ => ?_) (fun _ => ?_)
    · exact lu_sub [1, 2, 3, 0] rfl (w12_rule_b167 X hret v1 v4 x10 m19)
    · refine lu_iconst X dX12_rule_163 (pc2 := 164) rfl ic_1 ?_
      refine lu_goto (tgt := 168) X dX12_rule_164 (by decide) ?_
      exact lu_sub [1, 2, 3, 0] rfl (w12_rule_b168 X hret v1 v4 x10 (1 : Int32) m19)
def f12_rule_b104   (v1 : Int32) (v4 : Int32) (s0 : Int32) (m : lu_M) : Option (lu_M) :=
  lu_bv (f12_wants s0 m) fun m8 =>
  lu_nm (lu_st m8 0 26 (0 : Int32)) fun m9 =>
  if v4 < 0 then (f12_rule_b136 v1 v4 m9)
  else (if v4 = (2 : Int32) then (f12_rule_b136 v1 v4 m9)
  else (if (m9 0 29) = 0 then (lu_bv (f12_number (99 : Int32) m9) fun m20 =>
  f12_rule_b136 v1 v4 m20)
  else (f12_rule_b136 v1 v4 m9)))
set_option maxRecDepth 20000 in
theorem w12_rule_b104  {G : lu_G} {ρ : Nat → Nat}   (X : lu_X G RX12 cX12_rule 7 73 1572) (hret : (lu_me G).sig.returnType = none)   : ∀ (v1 : Int32) (v4 : Int32) (s0 : Int32) (m : lu_M), lu_Ab lu_TM G (lu_Q lu_TM G ρ lu_RVv lu_id) (f12_rule_b104  v1 v4 s0 m) 104 [(0, .ref (ρ 0)), (1, .int v1), (4, .int v4)] [.int s0, .ref (ρ 0)] ρ 0 0 [] m := by
  intro v1 v4 s0 m
  unfold f12_rule_b104
  refine lu_invVv X (c12_wants _ s0) rfl q1652 mvV_12_wants kM_0 lM_0 (by decide) ⟨_, rfl, rfl⟩ rfl rfl (Nat.le_of_ble_eq_true rfl) (Nat.le_of_ble_eq_true rfl) (Nat.le_of_ble_eq_true rfl) ⟨Nat.zero_le _, Nat.zero_le _⟩ dX12_rule_104 (pc2 := 107) rfl rfl (fun m8 => ?_)
  refine lu_aload_n X dX12_rule_107 (pc2 := 108) rfl rfl 0 rfl ?_
  refine lu_iconst X dX12_rule_108 (pc2 := 109) rfl ic_0 ?_
  refine lu_put X fl12_314 rfl (Or.inl (by decide)) rfl (by decide +kernel) kM_0 lM_0 dX12_rule_109 (pc2 := 112) rfl (fun m9 => ?_)
  refine lu_iload X dX12_rule_112 (pc2 := 114) rfl 2 rfl ?_
  refine lu_if_lt (tgt := 136) X dX12_rule_114 (pc2 := 117) rfl (by decide) (fun _ => ?_) (fun _ => ?_)
  · exact w12_rule_b136 X hret v1 v4 m9
  · refine lu_iload X dX12_rule_117 (pc2 := 119) rfl 2 rfl ?_
    refine lu_iconst X dX12_rule_119 (pc2 := 120) rfl ic_2 ?_
    refine lu_icmp_eq (tgt := 136) X dX12_rule_120 (pc2 := 123) rfl (by decide) (fun _ => ?_) (fun _ => ?_)
    · exact w12_rule_b136 X hret v1 v4 m9
    · refine lu_aload_n X dX12_rule_123 (pc2 := 124) rfl rfl 0 rfl ?_
      refine lu_get X fl12_303 rfl kM_0 lM_0 dX12_rule_124 (pc2 := 127) rfl ?_
      refine lu_if_ne (tgt := 136) X dX12_rule_127 (pc2 := 130) rfl (by decide) (fun _ => ?_) (fun _ => ?_)
      · exact w12_rule_b136 X hret v1 v4 m9
      · refine lu_aload_n X dX12_rule_130 (pc2 := 131) rfl rfl 0 rfl ?_
        refine lu_bipush X dX12_rule_131 (pc2 := 133) rfl bp_99 ?_
        refine lu_invVv X (c12_number _ (99 : Int32)) rfl q1691 mvV_12_number kM_0 lM_0 (by decide) ⟨_, rfl, rfl⟩ rfl rfl (Nat.le_of_ble_eq_true rfl) (Nat.le_of_ble_eq_true rfl) (Nat.le_of_ble_eq_true rfl) ⟨Nat.zero_le _, Nat.zero_le _⟩ dX12_rule_133 (pc2 := 136) rfl rfl (fun m20 => ?_)
        exact w12_rule_b136 X hret v1 v4 m20
def f12_rule_b91   (v1 : Int32) (s0 : Int32) (m : lu_M) : Option (lu_M) :=
  if s0 < 0 then (f12_rule_b104 v1 s0 (0 : Int32) m)
  else (f12_rule_b104 v1 s0 (1 : Int32) m)
set_option maxRecDepth 20000 in
theorem w12_rule_b91  {G : lu_G} {ρ : Nat → Nat}   (X : lu_X G RX12 cX12_rule 7 73 1572) (hret : (lu_me G).sig.returnType = none)   : ∀ (v1 : Int32) (s0 : Int32) (m : lu_M), lu_Ab lu_TM G (lu_Q lu_TM G ρ lu_RVv lu_id) (f12_rule_b91  v1 s0 m) 91 [(0, .ref (ρ 0)), (1, .int v1)] [.int s0] ρ 0 0 [] m := by
  intro v1 s0 m
  unfold f12_rule_b91
  refine lu_istore (lv2 := [(4, .int s0), (0, .ref (ρ 0)), (1, .int v1)]) X dX12_rule_91 (pc2 := 93) rfl (by decide) rfl ?_
  refine lu_aload_n X dX12_rule_93 (pc2 := 94) rfl rfl 1 rfl ?_
  refine lu_iload X dX12_rule_94 (pc2 := 96) rfl 0 rfl ?_
  refine lu_if_lt (tgt := 103) X dX12_rule_96 (pc2 := 99) rfl (by decide) (fun _ => ?_) (fun _ => ?_)
  · refine lu_iconst X dX12_rule_103 (pc2 := 104) rfl ic_0 ?_
    exact lu_sub [1, 2, 0] rfl (w12_rule_b104 X hret v1 s0 (0 : Int32) m)
  · refine lu_iconst X dX12_rule_99 (pc2 := 100) rfl ic_1 ?_
    refine lu_goto (tgt := 104) X dX12_rule_100 (by decide) ?_
    exact lu_sub [1, 2, 0] rfl (w12_rule_b104 X hret v1 s0 (1 : Int32) m)
def f12_rule_b49   (v1 : Int32) (m : lu_M) : Option (lu_M) :=
  lu_bi (f12_word m) fun x6 m7 =>
  if (lg_cmp x6 (5294489 : Int64)) = 0 then (f12_rule_b91 v1 (0 : Int32) m7)
  else (if (lg_cmp x6 (394885 : Int64)) = 0 then (f12_rule_b91 v1 (1 : Int32) m7)
  else (if (lg_cmp x6 (20448837 : Int64)) = 0 then (f12_rule_b91 v1 (2 : Int32) m7)
  else (f12_rule_b91 v1 (-1 : Int32) m7)))
set_option maxRecDepth 20000 in
theorem w12_rule_b49  {G : lu_G} {ρ : Nat → Nat}   (X : lu_X G RX12 cX12_rule 7 73 1572) (hret : (lu_me G).sig.returnType = none)   : ∀ (v1 : Int32) (m : lu_M), lu_Ab lu_TM G (lu_Q lu_TM G ρ lu_RVv lu_id) (f12_rule_b49  v1 m) 49 [(0, .ref (ρ 0)), (1, .int v1)] [] ρ 0 0 [] m := by
  intro v1 m
  unfold f12_rule_b49
  refine lu_aload_n X dX12_rule_49 (pc2 := 50) rfl rfl 0 rfl ?_
  refine lu_invVl X (c12_word _) rfl q1640 mvV_12_word kM_0 lM_0 (by decide) ⟨_, rfl, rfl⟩ rfl rfl (Nat.le_of_ble_eq_true rfl) (Nat.le_of_ble_eq_true rfl) (Nat.le_of_ble_eq_true rfl) ⟨Nat.zero_le _, Nat.zero_le _⟩ dX12_rule_50 (pc2 := 53) rfl rfl (fun x6 m7 => ?_)
  refine lu_lstore_n (lv2 := [(2, .long x6), (0, .ref (ρ 0)), (1, .int v1)]) X dX12_rule_53 (pc2 := 54) rfl rfl (by decide) rfl ?_
  refine lu_lload_n X dX12_rule_54 (pc2 := 55) rfl rfl 0 rfl ?_
  refine lu_ldc2 X q1697 dX12_rule_55 (pc2 := 58) rfl ?_
  refine lu_lcmp X dX12_rule_58 (pc2 := 59) rfl ?_
  refine lu_if_ne (tgt := 66) X dX12_rule_59 (pc2 := 62) rfl (by decide) (fun _ => ?_) (fun _ => ?_)
  · refine lu_lload_n X dX12_rule_66 (pc2 := 67) rfl rfl 0 rfl ?_
    refine lu_ldc2 X q1698 dX12_rule_67 (pc2 := 70) rfl ?_
    refine lu_lcmp X dX12_rule_70 (pc2 := 71) rfl ?_
    refine lu_if_ne (tgt := 78) X dX12_rule_71 (pc2 := 74) rfl (by decide) (fun _ => ?_) (fun _ => ?_)
    · refine lu_lload_n X dX12_rule_78 (pc2 := 79) rfl rfl 0 rfl ?_
      refine lu_ldc2 X q1699 dX12_rule_79 (pc2 := 82) rfl ?_
      refine lu_lcmp X dX12_rule_82 (pc2 := 83) rfl ?_
      refine lu_if_ne (tgt := 90) X dX12_rule_83 (pc2 := 86) rfl (by decide) (fun _ => ?_) (fun _ => ?_)
      · refine lu_iconst X dX12_rule_90 (pc2 := 91) rfl ic_m1 ?_
        exact lu_sub [1, 2] rfl (w12_rule_b91 X hret v1 (-1 : Int32) m7)
      · refine lu_iconst X dX12_rule_86 (pc2 := 87) rfl ic_2 ?_
        refine lu_goto (tgt := 91) X dX12_rule_87 (by decide) ?_
        exact lu_sub [1, 2] rfl (w12_rule_b91 X hret v1 (2 : Int32) m7)
    · refine lu_iconst X dX12_rule_74 (pc2 := 75) rfl ic_1 ?_
      refine lu_goto (tgt := 91) X dX12_rule_75 (by decide) ?_
      exact lu_sub [1, 2] rfl (w12_rule_b91 X hret v1 (1 : Int32) m7)
  · refine lu_iconst X dX12_rule_62 (pc2 := 63) rfl ic_0 ?_
    refine lu_goto (tgt := 91) X dX12_rule_63 (by decide) ?_
    exact lu_sub [1, 2] rfl (w12_rule_b91 X hret v1 (0 : Int32) m7)
def f12_rule_b26   (v1 : Int32) (s0 : Int32) (m : lu_M) : Option (lu_M) :=
  lu_bv (f12_wants s0 m) fun m3 =>
  lu_bi (f12_word m3) fun x4 m5 =>
  if (lg_cmp x4 (294 : Int64)) = 0 then (lu_bv (f12_wants (1 : Int32) m5) fun m21 =>
  lu_bv (f12_condition 8 m21) fun m22 =>
  f12_rule_b49 v1 m22)
  else (f12_rule_b49 v1 m5)
set_option maxRecDepth 20000 in
theorem w12_rule_b26  {G : lu_G} {ρ : Nat → Nat}   (X : lu_X G RX12 cX12_rule 7 73 1572) (hret : (lu_me G).sig.returnType = none)   : ∀ (v1 : Int32) (s0 : Int32) (m : lu_M), lu_Ab lu_TM G (lu_Q lu_TM G ρ lu_RVv lu_id) (f12_rule_b26  v1 s0 m) 26 [(0, .ref (ρ 0)), (1, .int v1)] [.int s0, .ref (ρ 0)] ρ 0 0 [] m := by
  intro v1 s0 m
  unfold f12_rule_b26
  refine lu_invVv X (c12_wants _ s0) rfl q1652 mvV_12_wants kM_0 lM_0 (by decide) ⟨_, rfl, rfl⟩ rfl rfl (Nat.le_of_ble_eq_true rfl) (Nat.le_of_ble_eq_true rfl) (Nat.le_of_ble_eq_true rfl) ⟨Nat.zero_le _, Nat.zero_le _⟩ dX12_rule_26 (pc2 := 29) rfl rfl (fun m3 => ?_)
  refine lu_aload_n X dX12_rule_29 (pc2 := 30) rfl rfl 0 rfl ?_
  refine lu_invVl X (c12_word _) rfl q1640 mvV_12_word kM_0 lM_0 (by decide) ⟨_, rfl, rfl⟩ rfl rfl (Nat.le_of_ble_eq_true rfl) (Nat.le_of_ble_eq_true rfl) (Nat.le_of_ble_eq_true rfl) ⟨Nat.zero_le _, Nat.zero_le _⟩ dX12_rule_30 (pc2 := 33) rfl rfl (fun x4 m5 => ?_)
  refine lu_ldc2 X q1656 dX12_rule_33 (pc2 := 36) rfl ?_
  refine lu_lcmp X dX12_rule_36 (pc2 := 37) rfl ?_
  refine lu_if_ne (tgt := 49) X dX12_rule_37 (pc2 := 40) rfl (by decide) (fun _ => ?_) (fun _ => ?_)
  · exact w12_rule_b49 X hret v1 m5
  · refine lu_aload_n X dX12_rule_40 (pc2 := 41) rfl rfl 0 rfl ?_
    refine lu_iconst X dX12_rule_41 (pc2 := 42) rfl ic_1 ?_
    refine lu_invVv X (c12_wants _ (1 : Int32)) rfl q1652 mvV_12_wants kM_0 lM_0 (by decide) ⟨_, rfl, rfl⟩ rfl rfl (Nat.le_of_ble_eq_true rfl) (Nat.le_of_ble_eq_true rfl) (Nat.le_of_ble_eq_true rfl) ⟨Nat.zero_le _, Nat.zero_le _⟩ dX12_rule_42 (pc2 := 45) rfl rfl (fun m21 => ?_)
    refine lu_aload_n X dX12_rule_45 (pc2 := 46) rfl rfl 0 rfl ?_
    refine lu_invVv X (c12_condition _ 8) rfl q1657 mvV_12_condition kM_0 lM_0 (by decide) ⟨_, rfl, rfl⟩ rfl rfl (Nat.le_of_ble_eq_true rfl) (Nat.le_of_ble_eq_true rfl) (Nat.le_of_ble_eq_true rfl) ⟨Nat.zero_le _, Nat.zero_le _⟩ dX12_rule_46 (pc2 := 49) rfl rfl (fun m22 => ?_)
    exact w12_rule_b49 X hret v1 m22
def f12_rule_b25   (v1 : Int32) (m : lu_M) : Option (lu_M) :=
  f12_rule_b26 v1 (0 : Int32) m
set_option maxRecDepth 20000 in
theorem w12_rule_b25  {G : lu_G} {ρ : Nat → Nat}   (X : lu_X G RX12 cX12_rule 7 73 1572) (hret : (lu_me G).sig.returnType = none)   : ∀ (v1 : Int32) (m : lu_M), lu_Ab lu_TM G (lu_Q lu_TM G ρ lu_RVv lu_id) (f12_rule_b25  v1 m) 25 [(0, .ref (ρ 0)), (1, .int v1)] [.ref (ρ 0)] ρ 0 0 [] m := by
  intro v1 m
  unfold f12_rule_b25
  refine lu_iconst X dX12_rule_25 (pc2 := 26) rfl ic_0 ?_
  exact w12_rule_b26 X hret v1 (0 : Int32) m
def f12_rule  (m : lu_M) : Option (lu_M) :=
  lu_bi (f12_kindHere m) fun x1 m2 =>
  if x1 < 0 then (f12_rule_b25 x1 m2)
  else (if (8 : Int32) ≤ (m2 1 1) then (f12_rule_b25 x1 m2)
  else (f12_rule_b26 x1 (1 : Int32) m2))
set_option maxRecDepth 20000 in
theorem c12_rule (l : Launch)    : lu_C lu_TM l yX12_rule cX12_rule 7 none 73 1572 (fun ρ sa => [.ref (ρ 0)]) (f12_rule ) lu_RVv lu_id := by
  refine lu_met (cls := RX12) rfl (by decide +kernel) (fun _ _ => Nat.le_of_ble_eq_true rfl) ?_
  intro G ρ m hl X hret
  subst hl
  change lu_Ab lu_TM G (lu_Q lu_TM G ρ lu_RVv lu_id) (f12_rule  m) 0 [(0, .ref (ρ 0))] [] ρ 0 0 [] m
  unfold f12_rule
  refine lu_aload_n X dX12_rule_0 (pc2 := 1) rfl rfl 0 rfl ?_
  refine lu_invVi X (c12_kindHere _) rfl q1636 mvV_12_kindHere kM_0 lM_0 (by decide) ⟨_, rfl, rfl⟩ rfl rfl (Nat.le_of_ble_eq_true rfl) (Nat.le_of_ble_eq_true rfl) (Nat.le_of_ble_eq_true rfl) ⟨Nat.zero_le _, Nat.zero_le _⟩ dX12_rule_1 (pc2 := 4) rfl rfl (fun x1 m2 => ?_)
  refine lu_istore_n (lv2 := [(1, .int x1), (0, .ref (ρ 0))]) X dX12_rule_4 (pc2 := 5) rfl rfl (by decide) rfl ?_
  refine lu_aload_n X dX12_rule_5 (pc2 := 6) rfl rfl 1 rfl ?_
  refine lu_iload_n X dX12_rule_6 (pc2 := 7) rfl rfl 0 rfl ?_
  refine lu_if_lt (tgt := 25) X dX12_rule_7 (pc2 := 10) rfl (by decide) (fun _ => ?_) (fun _ => ?_)
  · exact lu_sub [1, 0] rfl (w12_rule_b25 X hret x1 m2)
  · refine lu_aload_n X dX12_rule_10 (pc2 := 11) rfl rfl 1 rfl ?_
    refine lu_getr (r2 := 1) X rfl fl12_7 rfl kM_0 lM_0 dX12_rule_11 (pc2 := 14) rfl ?_
    refine lu_iconst X dX12_rule_14 (pc2 := 15) rfl ic_1 ?_
    refine lu_ialdK (q := 1) X (by decide) kM_1 lM_1 dX12_rule_15 (pc2 := 16) rfl ?_
    refine lu_bipush X dX12_rule_16 (pc2 := 18) rfl bp_8 ?_
    refine lu_icmp_ge (tgt := 25) X dX12_rule_18 (pc2 := 21) rfl (by decide) (fun _ => ?_) (fun _ => ?_)
    · exact lu_sub [1, 0] rfl (w12_rule_b25 X hret x1 m2)
    · refine lu_iconst X dX12_rule_21 (pc2 := 22) rfl ic_1 ?_
      refine lu_goto (tgt := 26) X dX12_rule_22 (by decide) ?_
      exact lu_sub [1, 0] rfl (w12_rule_b26 X hret x1 (1 : Int32) m2)

theorem dX12_rules_0 : decode cX12_rules 0 = .ok (.aload_n 0, 1) := by decide +kernel
theorem dX12_rules_1 : decode cX12_rules 1 = .ok (.invokevirtual 154, 3) := by decide +kernel
theorem dX12_rules_4 : decode cX12_rules 4 = .ok (.aload_n 0, 1) := by decide +kernel
theorem dX12_rules_5 : decode cX12_rules 5 = .ok (.getfield 7, 3) := by decide +kernel
theorem dX12_rules_8 : decode cX12_rules 8 = .ok (.iconst 1, 1) := by decide +kernel
theorem dX12_rules_9 : decode cX12_rules 9 = .ok (.iconst 0, 1) := by decide +kernel
theorem dX12_rules_10 : decode cX12_rules 10 = .ok (.iastore, 1) := by decide +kernel
theorem dX12_rules_11 : decode cX12_rules 11 = .ok (.aload_n 0, 1) := by decide +kernel
theorem dX12_rules_12 : decode cX12_rules 12 = .ok (.iconst 0, 1) := by decide +kernel
theorem dX12_rules_13 : decode cX12_rules 13 = .ok (.putfield 347, 3) := by decide +kernel
theorem dX12_rules_16 : decode cX12_rules 16 = .ok (.aload_n 0, 1) := by decide +kernel
theorem dX12_rules_17 : decode cX12_rules 17 = .ok (.iconst 0, 1) := by decide +kernel
theorem dX12_rules_18 : decode cX12_rules 18 = .ok (.putfield 364, 3) := by decide +kernel
theorem dX12_rules_21 : decode cX12_rules 21 = .ok (.aload_n 0, 1) := by decide +kernel
theorem dX12_rules_22 : decode cX12_rules 22 = .ok (.iconst 0, 1) := by decide +kernel
theorem dX12_rules_23 : decode cX12_rules 23 = .ok (.putfield 288, 3) := by decide +kernel
theorem dX12_rules_26 : decode cX12_rules 26 = .ok (.aload_n 0, 1) := by decide +kernel
theorem dX12_rules_27 : decode cX12_rules 27 = .ok (.iconst 0, 1) := by decide +kernel
theorem dX12_rules_28 : decode cX12_rules 28 = .ok (.putfield 303, 3) := by decide +kernel
theorem dX12_rules_31 : decode cX12_rules 31 = .ok (.aload_n 0, 1) := by decide +kernel
theorem dX12_rules_32 : decode cX12_rules 32 = .ok (.invokevirtual 307, 3) := by decide +kernel
theorem dX12_rules_35 : decode cX12_rules 35 = .ok (.aload_n 0, 1) := by decide +kernel
theorem dX12_rules_36 : decode cX12_rules 36 = .ok (.getfield 303, 3) := by decide +kernel
theorem dX12_rules_39 : decode cX12_rules 39 = .ok (.ifCond .ne 21, 3) := by decide +kernel
theorem dX12_rules_42 : decode cX12_rules 42 = .ok (.aload_n 0, 1) := by decide +kernel
theorem dX12_rules_43 : decode cX12_rules 43 = .ok (.getfield 291, 3) := by decide +kernel
theorem dX12_rules_46 : decode cX12_rules 46 = .ok (.aload_n 0, 1) := by decide +kernel
theorem dX12_rules_47 : decode cX12_rules 47 = .ok (.getfield 275, 3) := by decide +kernel
theorem dX12_rules_50 : decode cX12_rules 50 = .ok (.if_icmp .ge 10, 3) := by decide +kernel
theorem dX12_rules_53 : decode cX12_rules 53 = .ok (.aload_n 0, 1) := by decide +kernel
theorem dX12_rules_54 : decode cX12_rules 54 = .ok (.invokevirtual 394, 3) := by decide +kernel
theorem dX12_rules_57 : decode cX12_rules 57 = .ok (.goto (-22), 3) := by decide +kernel
theorem dX12_rules_60 : decode cX12_rules 60 = .ok (.aload_n 0, 1) := by decide +kernel
theorem dX12_rules_61 : decode cX12_rules 61 = .ok (.iconst 0, 1) := by decide +kernel
theorem dX12_rules_62 : decode cX12_rules 62 = .ok (.putfield 275, 3) := by decide +kernel
theorem dX12_rules_65 : decode cX12_rules 65 = .ok (.aload_n 0, 1) := by decide +kernel
theorem dX12_rules_66 : decode cX12_rules 66 = .ok (.getfield 303, 3) := by decide +kernel
theorem dX12_rules_69 : decode cX12_rules 69 = .ok (.ifCond .eq 15, 3) := by decide +kernel
theorem dX12_rules_72 : decode cX12_rules 72 = .ok (.aload_n 0, 1) := by decide +kernel
theorem dX12_rules_73 : decode cX12_rules 73 = .ok (.invokevirtual 160, 3) := by decide +kernel
theorem dX12_rules_76 : decode cX12_rules 76 = .ok (.bipush (-100), 2) := by decide +kernel
theorem dX12_rules_78 : decode cX12_rules 78 = .ok (.aload_n 0, 1) := by decide +kernel
theorem dX12_rules_79 : decode cX12_rules 79 = .ok (.getfield 291, 3) := by decide +kernel
theorem dX12_rules_82 : decode cX12_rules 82 = .ok (.isub, 1) := by decide +kernel
theorem dX12_rules_83 : decode cX12_rules 83 = .ok (.ireturn, 1) := by decide +kernel
theorem dX12_rules_84 : decode cX12_rules 84 = .ok (.aload_n 0, 1) := by decide +kernel
theorem dX12_rules_85 : decode cX12_rules 85 = .ok (.getfield 7, 3) := by decide +kernel
theorem dX12_rules_88 : decode cX12_rules 88 = .ok (.iconst 1, 1) := by decide +kernel
theorem dX12_rules_89 : decode cX12_rules 89 = .ok (.iaload, 1) := by decide +kernel
theorem dX12_rules_90 : decode cX12_rules 90 = .ok (.ireturn, 1) := by decide +kernel
def f12_rules_b35B (K60 : lu_M → Option (Int32 × lu_M)) (rec : lu_M → Option (Int32 × lu_M))   (m : lu_M) : Option (Int32 × lu_M) :=
  if (m 0 29) = 0 then (if (m 0 23) ≤ (m 0 24) then (K60 m)
  else (lu_bv (f12_rule m) fun m8 =>
  rec m8))
  else (K60 m)
def f12_rules_b35 (K60 : lu_M → Option (Int32 × lu_M))  : Nat → lu_M → Option (Int32 × lu_M)
  | 0, _ => none
  | n + 1, m => f12_rules_b35B K60 (f12_rules_b35 K60 n)  m
set_option maxRecDepth 20000 in
theorem w12_rules_b35B  {G : lu_G} {ρ : Nat → Nat}  {K60 : lu_M → Option (Int32 × lu_M)} {rec : lu_M → Option (Int32 × lu_M)} (X : lu_X G RX12 cX12_rules 1 74 1598) (hret : (lu_me G).sig.returnType = (some .int))  (hK60 : ∀  (m : lu_M), lu_Ab lu_TM G (lu_Q lu_TM G ρ lu_RVi lu_sn) (K60 m) 60 [(0, .ref (ρ 0))] [] ρ 0 0 [] m) (hrec : ∀  (m : lu_M), lu_Ab lu_TM G (lu_Q lu_TM G ρ lu_RVi lu_sn) (rec m) 35 [(0, .ref (ρ 0))] [] ρ 0 0 [] m) : ∀  (m : lu_M), lu_Ab lu_TM G (lu_Q lu_TM G ρ lu_RVi lu_sn) (f12_rules_b35B K60 rec m) 35 [(0, .ref (ρ 0))] [] ρ 0 0 [] m := by
  intro  m
  unfold f12_rules_b35B
  refine lu_aload_n X dX12_rules_35 (pc2 := 36) rfl rfl 0 rfl ?_
  refine lu_get X fl12_303 rfl kM_0 lM_0 dX12_rules_36 (pc2 := 39) rfl ?_
  refine lu_if_ne (tgt := 60) X dX12_rules_39 (pc2 := 42) rfl (by decide) (fun _ => ?_) (fun _ => ?_)
  · exact hK60 m
  · refine lu_aload_n X dX12_rules_42 (pc2 := 43) rfl rfl 0 rfl ?_
    refine lu_get X fl12_291 rfl kM_0 lM_0 dX12_rules_43 (pc2 := 46) rfl ?_
    refine lu_aload_n X dX12_rules_46 (pc2 := 47) rfl rfl 0 rfl ?_
    refine lu_get X fl12_275 rfl kM_0 lM_0 dX12_rules_47 (pc2 := 50) rfl ?_
    refine lu_icmp_ge (tgt := 60) X dX12_rules_50 (pc2 := 53) rfl (by decide) (fun _ => ?_) (fun _ => ?_)
    · exact hK60 m
    · refine lu_aload_n X dX12_rules_53 (pc2 := 54) rfl rfl 0 rfl ?_
      refine lu_invVv X (c12_rule _) rfl q1632 mvV_12_rule kM_0 lM_0 (by decide) ⟨_, rfl, rfl⟩ rfl rfl (Nat.le_of_ble_eq_true rfl) (Nat.le_of_ble_eq_true rfl) (Nat.le_of_ble_eq_true rfl) ⟨Nat.zero_le _, Nat.zero_le _⟩ dX12_rules_54 (pc2 := 57) rfl rfl (fun m8 => ?_)
      refine lu_goto (tgt := 35) X dX12_rules_57 (by decide) ?_
      exact hrec m8
theorem w12_rules_b35  {G : lu_G} {ρ : Nat → Nat}  {K60 : lu_M → Option (Int32 × lu_M)} (X : lu_X G RX12 cX12_rules 1 74 1598) (hret : (lu_me G).sig.returnType = (some .int))  (hK60 : ∀  (m : lu_M), lu_Ab lu_TM G (lu_Q lu_TM G ρ lu_RVi lu_sn) (K60 m) 60 [(0, .ref (ρ 0))] [] ρ 0 0 [] m) : ∀ (n : Nat)  (m : lu_M), lu_Ab lu_TM G (lu_Q lu_TM G ρ lu_RVi lu_sn) (f12_rules_b35 K60 n m) 35 [(0, .ref (ρ 0))] [] ρ 0 0 [] m := by
  intro n
  induction n with
  | zero => intro  m; exact lu_none
  | succ n ih => intro  m; exact w12_rules_b35B X hret hK60 ih  m
def f12_rules_b60    (m : lu_M) : Option (Int32 × lu_M) :=
  lu_nm (lu_st m 0 23 (0 : Int32)) fun m9 =>
  if (m9 0 29) = 0 then (some ((m9 1 1), m9))
  else (lu_bv (f12_putsBack m9) fun m10 =>
  some (((-100 : Int32) - (m10 0 24)), m10))
set_option maxRecDepth 20000 in
theorem w12_rules_b60  {G : lu_G} {ρ : Nat → Nat}   (X : lu_X G RX12 cX12_rules 1 74 1598) (hret : (lu_me G).sig.returnType = (some .int))   : ∀  (m : lu_M), lu_Ab lu_TM G (lu_Q lu_TM G ρ lu_RVi lu_sn) (f12_rules_b60  m) 60 [(0, .ref (ρ 0))] [] ρ 0 0 [] m := by
  intro  m
  unfold f12_rules_b60
  refine lu_aload_n X dX12_rules_60 (pc2 := 61) rfl rfl 0 rfl ?_
  refine lu_iconst X dX12_rules_61 (pc2 := 62) rfl ic_0 ?_
  refine lu_put X fl12_275 rfl (Or.inl (by decide)) rfl (by decide +kernel) kM_0 lM_0 dX12_rules_62 (pc2 := 65) rfl (fun m9 => ?_)
  refine lu_aload_n X dX12_rules_65 (pc2 := 66) rfl rfl 0 rfl ?_
  refine lu_get X fl12_303 rfl kM_0 lM_0 dX12_rules_66 (pc2 := 69) rfl ?_
  refine lu_if_eq (tgt := 84) X dX12_rules_69 (pc2 := 72) rfl (by decide) (fun _ => ?_) (fun _ => ?_)
  · refine lu_aload_n X dX12_rules_84 (pc2 := 85) rfl rfl 0 rfl ?_
    refine lu_getr (r2 := 1) X rfl fl12_7 rfl kM_0 lM_0 dX12_rules_85 (pc2 := 88) rfl ?_
    refine lu_iconst X dX12_rules_88 (pc2 := 89) rfl ic_1 ?_
    refine lu_ialdK (q := 1) X (by decide) kM_1 lM_1 dX12_rules_89 (pc2 := 90) rfl ?_
    exact lu_iret X hret dX12_rules_90
  · refine lu_aload_n X dX12_rules_72 (pc2 := 73) rfl rfl 0 rfl ?_
    refine lu_invVv X (c12_putsBack _) rfl q1399 mvV_12_putsBack kM_0 lM_0 (by decide) ⟨_, rfl, rfl⟩ rfl rfl (Nat.le_of_ble_eq_true rfl) (Nat.le_of_ble_eq_true rfl) (Nat.le_of_ble_eq_true rfl) ⟨Nat.zero_le _, Nat.zero_le _⟩ dX12_rules_73 (pc2 := 76) rfl rfl (fun m10 => ?_)
    refine lu_bipush X dX12_rules_76 (pc2 := 78) rfl bp_m100 ?_
    refine lu_aload_n X dX12_rules_78 (pc2 := 79) rfl rfl 0 rfl ?_
    refine lu_get X fl12_291 rfl kM_0 lM_0 dX12_rules_79 (pc2 := 82) rfl ?_
    refine lu_isub X dX12_rules_82 (pc2 := 83) rfl ?_
    exact lu_iret X hret dX12_rules_83
def f12_rules  (m : lu_M) : Option (Int32 × lu_M) :=
  lu_bv (f12_puts m) fun m1 =>
  lu_nm (lu_st m1 1 1 (0 : Int32)) fun m2 =>
  lu_nm (lu_st m2 0 28 (0 : Int32)) fun m3 =>
  lu_nm (lu_st m3 0 27 (0 : Int32)) fun m4 =>
  lu_nm (lu_st m4 0 25 (0 : Int32)) fun m5 =>
  lu_nm (lu_st m5 0 29 (0 : Int32)) fun m6 =>
  lu_bv (f12_token m6) fun m7 =>
  f12_rules_b35 f12_rules_b60 lu_fu m7
set_option maxRecDepth 20000 in
theorem c12_rules (l : Launch)    : lu_C lu_TM l yX12_rules cX12_rules 1 (some .int) 74 1598 (fun ρ sa => [.ref (ρ 0)]) (f12_rules ) lu_RVi lu_sn := by
  refine lu_met (cls := RX12) rfl (by decide +kernel) (fun _ _ => Nat.le_of_ble_eq_true rfl) ?_
  intro G ρ m hl X hret
  subst hl
  change lu_Ab lu_TM G (lu_Q lu_TM G ρ lu_RVi lu_sn) (f12_rules  m) 0 [(0, .ref (ρ 0))] [] ρ 0 0 [] m
  unfold f12_rules
  refine lu_aload_n X dX12_rules_0 (pc2 := 1) rfl rfl 0 rfl ?_
  refine lu_invVv X (c12_puts _) rfl q1391 mvV_12_puts kM_0 lM_0 (by decide) ⟨_, rfl, rfl⟩ rfl rfl (Nat.le_of_ble_eq_true rfl) (Nat.le_of_ble_eq_true rfl) (Nat.le_of_ble_eq_true rfl) ⟨Nat.zero_le _, Nat.zero_le _⟩ dX12_rules_1 (pc2 := 4) rfl rfl (fun m1 => ?_)
  refine lu_aload_n X dX12_rules_4 (pc2 := 5) rfl rfl 0 rfl ?_
  refine lu_getr (r2 := 1) X rfl fl12_7 rfl kM_0 lM_0 dX12_rules_5 (pc2 := 8) rfl ?_
  refine lu_iconst X dX12_rules_8 (pc2 := 9) rfl ic_1 ?_
  refine lu_iconst X dX12_rules_9 (pc2 := 10) rfl ic_0 ?_
  refine lu_iastK (q := 1) X (by decide) kM_1 lM_1 dX12_rules_10 (pc2 := 11) rfl (fun m2 => ?_)
  refine lu_aload_n X dX12_rules_11 (pc2 := 12) rfl rfl 0 rfl ?_
  refine lu_iconst X dX12_rules_12 (pc2 := 13) rfl ic_0 ?_
  refine lu_put X fl12_347 rfl (Or.inl (by decide)) rfl (by decide +kernel) kM_0 lM_0 dX12_rules_13 (pc2 := 16) rfl (fun m3 => ?_)
  refine lu_aload_n X dX12_rules_16 (pc2 := 17) rfl rfl 0 rfl ?_
  refine lu_iconst X dX12_rules_17 (pc2 := 18) rfl ic_0 ?_
  refine lu_put X fl12_364 rfl (Or.inl (by decide)) rfl (by decide +kernel) kM_0 lM_0 dX12_rules_18 (pc2 := 21) rfl (fun m4 => ?_)
  refine lu_aload_n X dX12_rules_21 (pc2 := 22) rfl rfl 0 rfl ?_
  refine lu_iconst X dX12_rules_22 (pc2 := 23) rfl ic_0 ?_
  refine lu_put X fl12_288 rfl (Or.inl (by decide)) rfl (by decide +kernel) kM_0 lM_0 dX12_rules_23 (pc2 := 26) rfl (fun m5 => ?_)
  refine lu_aload_n X dX12_rules_26 (pc2 := 27) rfl rfl 0 rfl ?_
  refine lu_iconst X dX12_rules_27 (pc2 := 28) rfl ic_0 ?_
  refine lu_putzK X (by decide) fl12_303 rfl (Or.inl (by decide)) rfl (by decide +kernel) kM_0 lM_0 dX12_rules_28 (pc2 := 31) rfl (fun m6 => ?_)
  refine lu_aload_n X dX12_rules_31 (pc2 := 32) rfl rfl 0 rfl ?_
  refine lu_invVv X (c12_token _) rfl q1614 mvV_12_token kM_0 lM_0 (by decide) ⟨_, rfl, rfl⟩ rfl rfl (Nat.le_of_ble_eq_true rfl) (Nat.le_of_ble_eq_true rfl) (Nat.le_of_ble_eq_true rfl) ⟨Nat.zero_le _, Nat.zero_le _⟩ dX12_rules_32 (pc2 := 35) rfl rfl (fun m7 => ?_)
  exact w12_rules_b35 X hret (w12_rules_b60 X hret) lu_fu m7

theorem dX12_isOne_0 : decode cX12_isOne 0 = .ok (.iload_n 0, 1) := by decide +kernel
theorem dX12_isOne_1 : decode cX12_isOne 1 = .ok (.i2l, 1) := by decide +kernel
theorem dX12_isOne_2 : decode cX12_isOne 2 = .ok (.lconst 0, 1) := by decide +kernel
theorem dX12_isOne_3 : decode cX12_isOne 3 = .ok (.ldc2_w 220, 3) := by decide +kernel
theorem dX12_isOne_6 : decode cX12_isOne 6 = .ok (.invokestatic 64, 3) := by decide +kernel
theorem dX12_isOne_9 : decode cX12_isOne 9 = .ok (.ireturn, 1) := by decide +kernel
def f12_isOne (a0 : Int32) (m : lu_M) : Option (Int32 × lu_M) :=
  lu_bi (f12_in a0.toInt64 (0 : Int64) (3 : Int64) m) fun x1 m2 =>
  lu_gd (decide (x1 = 0 ∨ x1 = 1)) (some (x1, m2))
set_option maxRecDepth 20000 in
theorem c12_isOne (l : Launch)   (a0 : Int32) : lu_C lu_TM l yX12_isOne cX12_isOne 1 (some .boolean) 1 25 (fun ρ sa => [.int a0]) (f12_isOne a0) lu_RVi lu_sn := by
  refine lu_met (cls := RX12) rfl (by decide +kernel) (fun _ _ => Nat.le_of_ble_eq_true rfl) ?_
  intro G ρ m hl X hret
  subst hl
  change lu_Ab lu_TM G (lu_Q lu_TM G ρ lu_RVi lu_sn) (f12_isOne a0 m) 0 [(0, .int a0)] [] ρ 0 0 [] m
  unfold f12_isOne
  refine lu_iload_n X dX12_isOne_0 (pc2 := 1) rfl rfl 0 rfl ?_
  refine lu_i2l X dX12_isOne_1 (pc2 := 2) rfl ?_
  refine lu_lconst (v := (0 : Int64)) X dX12_isOne_2 (pc2 := 3) rfl (by decide) ?_
  refine lu_ldc2 X q1503 dX12_isOne_3 (pc2 := 6) rfl ?_
  refine lu_invSi X (c12_in _ a0.toInt64 (0 : Int64) (3 : Int64)) rfl q1261 mvS_12_in rfl rfl (Nat.le_of_ble_eq_true rfl) (Nat.le_of_ble_eq_true rfl) (Nat.le_of_ble_eq_true rfl) ⟨Nat.zero_le _, Nat.zero_le _⟩ dX12_isOne_6 (pc2 := 9) rfl rfl (fun x1 m2 => ?_)
  exact lu_zretG X hret dX12_isOne_9

theorem dX12_sheet_0 : decode cX12_sheet 0 = .ok (.iload_n 1, 1) := by decide +kernel
theorem dX12_sheet_1 : decode cX12_sheet 1 = .ok (.invokestatic 397, 3) := by decide +kernel
theorem dX12_sheet_4 : decode cX12_sheet 4 = .ok (.ifCond .eq 27, 3) := by decide +kernel
theorem dX12_sheet_7 : decode cX12_sheet 7 = .ok (.iload_n 2, 1) := by decide +kernel
theorem dX12_sheet_8 : decode cX12_sheet 8 = .ok (.i2l, 1) := by decide +kernel
theorem dX12_sheet_9 : decode cX12_sheet 9 = .ok (.ldc2_w 400, 3) := by decide +kernel
theorem dX12_sheet_12 : decode cX12_sheet 12 = .ok (.ldc2_w 149, 3) := by decide +kernel
theorem dX12_sheet_15 : decode cX12_sheet 15 = .ok (.invokestatic 64, 3) := by decide +kernel
theorem dX12_sheet_18 : decode cX12_sheet 18 = .ok (.ifCond .eq 13, 3) := by decide +kernel
theorem dX12_sheet_21 : decode cX12_sheet 21 = .ok (.iload_n 2, 1) := by decide +kernel
theorem dX12_sheet_22 : decode cX12_sheet 22 = .ok (.ifCond .lt 11, 3) := by decide +kernel
theorem dX12_sheet_25 : decode cX12_sheet 25 = .ok (.iload_n 3, 1) := by decide +kernel
theorem dX12_sheet_26 : decode cX12_sheet 26 = .ok (.bipush 40, 2) := by decide +kernel
theorem dX12_sheet_28 : decode cX12_sheet 28 = .ok (.if_icmp .le 5, 3) := by decide +kernel
theorem dX12_sheet_31 : decode cX12_sheet 31 = .ok (.iconst (-1), 1) := by decide +kernel
theorem dX12_sheet_32 : decode cX12_sheet 32 = .ok (.ireturn, 1) := by decide +kernel
theorem dX12_sheet_33 : decode cX12_sheet 33 = .ok (.iload_n 2, 1) := by decide +kernel
theorem dX12_sheet_34 : decode cX12_sheet 34 = .ok (.ifCond .lt 10, 3) := by decide +kernel
theorem dX12_sheet_37 : decode cX12_sheet 37 = .ok (.iload_n 3, 1) := by decide +kernel
theorem dX12_sheet_38 : decode cX12_sheet 38 = .ok (.ifCond .ge 6, 3) := by decide +kernel
theorem dX12_sheet_41 : decode cX12_sheet 41 = .ok (.bipush (-14), 2) := by decide +kernel
theorem dX12_sheet_43 : decode cX12_sheet 43 = .ok (.ireturn, 1) := by decide +kernel
theorem dX12_sheet_44 : decode cX12_sheet 44 = .ok (.aload_n 0, 1) := by decide +kernel
theorem dX12_sheet_45 : decode cX12_sheet 45 = .ok (.getfield 43, 3) := by decide +kernel
theorem dX12_sheet_48 : decode cX12_sheet 48 = .ok (.iload_n 1, 1) := by decide +kernel
theorem dX12_sheet_49 : decode cX12_sheet 49 = .ok (.iload_n 2, 1) := by decide +kernel
theorem dX12_sheet_50 : decode cX12_sheet 50 = .ok (.iastore, 1) := by decide +kernel
theorem dX12_sheet_51 : decode cX12_sheet 51 = .ok (.aload_n 0, 1) := by decide +kernel
theorem dX12_sheet_52 : decode cX12_sheet 52 = .ok (.getfield 46, 3) := by decide +kernel
theorem dX12_sheet_55 : decode cX12_sheet 55 = .ok (.iload_n 1, 1) := by decide +kernel
theorem dX12_sheet_56 : decode cX12_sheet 56 = .ok (.iload_n 2, 1) := by decide +kernel
theorem dX12_sheet_57 : decode cX12_sheet 57 = .ok (.ifCond .ge 7, 3) := by decide +kernel
theorem dX12_sheet_60 : decode cX12_sheet 60 = .ok (.iconst 0, 1) := by decide +kernel
theorem dX12_sheet_61 : decode cX12_sheet 61 = .ok (.goto 4, 3) := by decide +kernel
theorem dX12_sheet_64 : decode cX12_sheet 64 = .ok (.iload_n 3, 1) := by decide +kernel
theorem dX12_sheet_65 : decode cX12_sheet 65 = .ok (.iastore, 1) := by decide +kernel
theorem dX12_sheet_66 : decode cX12_sheet 66 = .ok (.iconst 0, 1) := by decide +kernel
theorem dX12_sheet_67 : decode cX12_sheet 67 = .ok (.istore 4, 2) := by decide +kernel
theorem dX12_sheet_69 : decode cX12_sheet 69 = .ok (.iload 4, 2) := by decide +kernel
theorem dX12_sheet_71 : decode cX12_sheet 71 = .ok (.bipush 40, 2) := by decide +kernel
theorem dX12_sheet_73 : decode cX12_sheet 73 = .ok (.if_icmp .ge 22, 3) := by decide +kernel
theorem dX12_sheet_76 : decode cX12_sheet 76 = .ok (.aload_n 0, 1) := by decide +kernel
theorem dX12_sheet_77 : decode cX12_sheet 77 = .ok (.getfield 49, 3) := by decide +kernel
theorem dX12_sheet_80 : decode cX12_sheet 80 = .ok (.bipush 40, 2) := by decide +kernel
theorem dX12_sheet_82 : decode cX12_sheet 82 = .ok (.iload_n 1, 1) := by decide +kernel
theorem dX12_sheet_83 : decode cX12_sheet 83 = .ok (.imul, 1) := by decide +kernel
theorem dX12_sheet_84 : decode cX12_sheet 84 = .ok (.iload 4, 2) := by decide +kernel
theorem dX12_sheet_86 : decode cX12_sheet 86 = .ok (.iadd, 1) := by decide +kernel
theorem dX12_sheet_87 : decode cX12_sheet 87 = .ok (.iconst 0, 1) := by decide +kernel
theorem dX12_sheet_88 : decode cX12_sheet 88 = .ok (.iastore, 1) := by decide +kernel
theorem dX12_sheet_89 : decode cX12_sheet 89 = .ok (.iinc 4 1, 3) := by decide +kernel
theorem dX12_sheet_92 : decode cX12_sheet 92 = .ok (.goto (-23), 3) := by decide +kernel
theorem dX12_sheet_95 : decode cX12_sheet 95 = .ok (.iconst 1, 1) := by decide +kernel
theorem dX12_sheet_96 : decode cX12_sheet 96 = .ok (.ireturn, 1) := by decide +kernel
def f12_sheet_b31  (a1 : Int32) (a2 : Int32) (a3 : Int32)  (m : lu_M) : Option (Int32 × lu_M) :=
  some ((-1 : Int32), m)
set_option maxRecDepth 20000 in
theorem w12_sheet_b31  {G : lu_G} {ρ : Nat → Nat} {a1 : Int32} {a2 : Int32} {a3 : Int32}  (X : lu_X G RX12 cX12_sheet 5 2 45) (hret : (lu_me G).sig.returnType = (some .int))   : ∀  (m : lu_M), lu_Ab lu_TM G (lu_Q lu_TM G ρ lu_RVi lu_sn) (f12_sheet_b31 a1 a2 a3 m) 31 [] [] ρ 0 0 [] m := by
  intro  m
  unfold f12_sheet_b31
  refine lu_iconst X dX12_sheet_31 (pc2 := 32) rfl ic_m1 ?_
  exact lu_iret X hret dX12_sheet_32
def f12_sheet_b69B (K95 : lu_M → Option (Int32 × lu_M)) (rec : Int32 → lu_M → Option (Int32 × lu_M)) (a1 : Int32) (a2 : Int32) (a3 : Int32) (v4 : Int32) (m : lu_M) : Option (Int32 × lu_M) :=
  if (40 : Int32) ≤ v4 then (K95 m)
  else (lu_gd (lu_ib (((40 : Int32) * a1) + v4) 160) <|
  lu_nm (lu_st m 14 (((40 : Int32) * a1) + v4).toNatClampNeg (0 : Int32)) fun m7 =>
  rec (v4 + (1 : Int32)) m7)
def f12_sheet_b69 (K95 : lu_M → Option (Int32 × lu_M)) (a1 : Int32) (a2 : Int32) (a3 : Int32) : Nat → Int32 → lu_M → Option (Int32 × lu_M)
  | 0, _, _ => none
  | n + 1, v4, m => f12_sheet_b69B K95 (f12_sheet_b69 K95 a1 a2 a3 n) a1 a2 a3 v4 m
set_option maxRecDepth 20000 in
theorem w12_sheet_b69B  {G : lu_G} {ρ : Nat → Nat} {a1 : Int32} {a2 : Int32} {a3 : Int32} {K95 : lu_M → Option (Int32 × lu_M)} {rec : Int32 → lu_M → Option (Int32 × lu_M)} (X : lu_X G RX12 cX12_sheet 5 2 45) (hret : (lu_me G).sig.returnType = (some .int))  (hK95 : ∀  (m : lu_M), lu_Ab lu_TM G (lu_Q lu_TM G ρ lu_RVi lu_sn) (K95 m) 95 [] [] ρ 0 0 [] m) (hrec : ∀ (v4 : Int32) (m : lu_M), lu_Ab lu_TM G (lu_Q lu_TM G ρ lu_RVi lu_sn) (rec v4 m) 69 [(0, .ref (ρ 0)), (1, .int a1), (4, .int v4)] [] ρ 0 0 [] m) : ∀ (v4 : Int32) (m : lu_M), lu_Ab lu_TM G (lu_Q lu_TM G ρ lu_RVi lu_sn) (f12_sheet_b69B K95 rec a1 a2 a3 v4 m) 69 [(0, .ref (ρ 0)), (1, .int a1), (4, .int v4)] [] ρ 0 0 [] m := by
  intro v4 m
  unfold f12_sheet_b69B
  refine lu_iload X dX12_sheet_69 (pc2 := 71) rfl 2 rfl ?_
  refine lu_bipush X dX12_sheet_71 (pc2 := 73) rfl bp_40 ?_
  refine lu_icmp_ge (tgt := 95) X dX12_sheet_73 (pc2 := 76) rfl (by decide) (fun _ => ?_) (fun _ => ?_)
  · exact lu_sub [] rfl (hK95 m)
  · refine lu_aload_n X dX12_sheet_76 (pc2 := 77) rfl rfl 0 rfl ?_
    refine lu_getr (r2 := 14) X rfl fl12_49 rfl kM_0 lM_0 dX12_sheet_77 (pc2 := 80) rfl ?_
    refine lu_bipush X dX12_sheet_80 (pc2 := 82) rfl bp_40 ?_
    refine lu_iload_n X dX12_sheet_82 (pc2 := 83) rfl rfl 1 rfl ?_
    refine lu_imul X dX12_sheet_83 (pc2 := 84) rfl ?_
    refine lu_iload X dX12_sheet_84 (pc2 := 86) rfl 2 rfl ?_
    refine lu_iadd X dX12_sheet_86 (pc2 := 87) rfl ?_
    refine lu_iconst X dX12_sheet_87 (pc2 := 88) rfl ic_0 ?_
    refine lu_iast X kM_14 lM_14 dX12_sheet_88 (pc2 := 89) rfl (fun m7 => ?_)
    refine lu_iinc (lv2 := [(4, .int (v4 + (1 : Int32))), (0, .ref (ρ 0)), (1, .int a1)]) X dX12_sheet_89 (pc2 := 92) rfl 2 rfl (lu_ii _ ic_1) (by decide) rfl ?_
    refine lu_goto (tgt := 69) X dX12_sheet_92 (by decide) ?_
    exact lu_sub [1, 2, 0] rfl (hrec (v4 + (1 : Int32)) m7)
theorem w12_sheet_b69  {G : lu_G} {ρ : Nat → Nat} {a1 : Int32} {a2 : Int32} {a3 : Int32} {K95 : lu_M → Option (Int32 × lu_M)} (X : lu_X G RX12 cX12_sheet 5 2 45) (hret : (lu_me G).sig.returnType = (some .int))  (hK95 : ∀  (m : lu_M), lu_Ab lu_TM G (lu_Q lu_TM G ρ lu_RVi lu_sn) (K95 m) 95 [] [] ρ 0 0 [] m) : ∀ (n : Nat) (v4 : Int32) (m : lu_M), lu_Ab lu_TM G (lu_Q lu_TM G ρ lu_RVi lu_sn) (f12_sheet_b69 K95 a1 a2 a3 n v4 m) 69 [(0, .ref (ρ 0)), (1, .int a1), (4, .int v4)] [] ρ 0 0 [] m := by
  intro n
  induction n with
  | zero => intro v4 m; exact lu_none
  | succ n ih => intro v4 m; exact w12_sheet_b69B X hret hK95 ih v4 m
def f12_sheet_b95  (a1 : Int32) (a2 : Int32) (a3 : Int32)  (m : lu_M) : Option (Int32 × lu_M) :=
  some ((1 : Int32), m)
set_option maxRecDepth 20000 in
theorem w12_sheet_b95  {G : lu_G} {ρ : Nat → Nat} {a1 : Int32} {a2 : Int32} {a3 : Int32}  (X : lu_X G RX12 cX12_sheet 5 2 45) (hret : (lu_me G).sig.returnType = (some .int))   : ∀  (m : lu_M), lu_Ab lu_TM G (lu_Q lu_TM G ρ lu_RVi lu_sn) (f12_sheet_b95 a1 a2 a3 m) 95 [] [] ρ 0 0 [] m := by
  intro  m
  unfold f12_sheet_b95
  refine lu_iconst X dX12_sheet_95 (pc2 := 96) rfl ic_1 ?_
  exact lu_iret X hret dX12_sheet_96
def f12_sheet_b65  (a1 : Int32) (a2 : Int32) (a3 : Int32) (s0 : Int32) (s1 : Int32) (m : lu_M) : Option (Int32 × lu_M) :=
  lu_gd (lu_ib s1 4) <|
  lu_nm (lu_st m 13 s1.toNatClampNeg s0) fun m6 =>
  f12_sheet_b69 (f12_sheet_b95 a1 a2 a3) a1 a2 a3 lu_fu (0 : Int32) m6
set_option maxRecDepth 20000 in
theorem w12_sheet_b65  {G : lu_G} {ρ : Nat → Nat} {a1 : Int32} {a2 : Int32} {a3 : Int32}  (X : lu_X G RX12 cX12_sheet 5 2 45) (hret : (lu_me G).sig.returnType = (some .int))   : ∀ (s0 : Int32) (s1 : Int32) (m : lu_M), lu_Ab lu_TM G (lu_Q lu_TM G ρ lu_RVi lu_sn) (f12_sheet_b65 a1 a2 a3 s0 s1 m) 65 [(0, .ref (ρ 0)), (1, .int a1)] [.int s0, .int s1, .ref (ρ 13)] ρ 0 0 [] m := by
  intro s0 s1 m
  unfold f12_sheet_b65
  refine lu_iast X kM_13 lM_13 dX12_sheet_65 (pc2 := 66) rfl (fun m6 => ?_)
  refine lu_iconst X dX12_sheet_66 (pc2 := 67) rfl ic_0 ?_
  refine lu_istore (lv2 := [(4, .int (0 : Int32)), (0, .ref (ρ 0)), (1, .int a1)]) X dX12_sheet_67 (pc2 := 69) rfl (by decide) rfl ?_
  exact lu_sub [1, 2, 0] rfl (w12_sheet_b69 X hret (w12_sheet_b95 X hret) lu_fu (0 : Int32) m6)
def f12_sheet_b44  (a1 : Int32) (a2 : Int32) (a3 : Int32)  (m : lu_M) : Option (Int32 × lu_M) :=
  lu_gd (lu_ib a1 4) <|
  lu_nm (lu_st m 12 a1.toNatClampNeg a2) fun m5 =>
  if 0 ≤ a2 then (f12_sheet_b65 a1 a2 a3 a3 a1 m5)
  else (f12_sheet_b65 a1 a2 a3 (0 : Int32) a1 m5)
set_option maxRecDepth 20000 in
theorem w12_sheet_b44  {G : lu_G} {ρ : Nat → Nat} {a1 : Int32} {a2 : Int32} {a3 : Int32}  (X : lu_X G RX12 cX12_sheet 5 2 45) (hret : (lu_me G).sig.returnType = (some .int))   : ∀  (m : lu_M), lu_Ab lu_TM G (lu_Q lu_TM G ρ lu_RVi lu_sn) (f12_sheet_b44 a1 a2 a3 m) 44 [(0, .ref (ρ 0)), (1, .int a1), (2, .int a2), (3, .int a3)] [] ρ 0 0 [] m := by
  intro  m
  unfold f12_sheet_b44
  refine lu_aload_n X dX12_sheet_44 (pc2 := 45) rfl rfl 0 rfl ?_
  refine lu_getr (r2 := 12) X rfl fl12_43 rfl kM_0 lM_0 dX12_sheet_45 (pc2 := 48) rfl ?_
  refine lu_iload_n X dX12_sheet_48 (pc2 := 49) rfl rfl 1 rfl ?_
  refine lu_iload_n X dX12_sheet_49 (pc2 := 50) rfl rfl 2 rfl ?_
  refine lu_iast X kM_12 lM_12 dX12_sheet_50 (pc2 := 51) rfl (fun m5 => ?_)
  refine lu_aload_n X dX12_sheet_51 (pc2 := 52) rfl rfl 0 rfl ?_
  refine lu_getr (r2 := 13) X rfl fl12_46 rfl kM_0 lM_0 dX12_sheet_52 (pc2 := 55) rfl ?_
  refine lu_iload_n X dX12_sheet_55 (pc2 := 56) rfl rfl 1 rfl ?_
  refine lu_iload_n X dX12_sheet_56 (pc2 := 57) rfl rfl 2 rfl ?_
  refine lu_if_ge (tgt := 64) X dX12_sheet_57 (pc2 := 60) rfl (by decide) (fun _ => ?_) (fun _ => ?_)
  · refine lu_iload_n X dX12_sheet_64 (pc2 := 65) rfl rfl 3 rfl ?_
    exact lu_sub [0, 1] rfl (w12_sheet_b65 X hret a3 a1 m5)
  · refine lu_iconst X dX12_sheet_60 (pc2 := 61) rfl ic_0 ?_
    refine lu_goto (tgt := 65) X dX12_sheet_61 (by decide) ?_
    exact lu_sub [0, 1] rfl (w12_sheet_b65 X hret (0 : Int32) a1 m5)
def f12_sheet_b33  (a1 : Int32) (a2 : Int32) (a3 : Int32)  (m : lu_M) : Option (Int32 × lu_M) :=
  if a2 < 0 then (f12_sheet_b44 a1 a2 a3 m)
  else (if 0 ≤ a3 then (f12_sheet_b44 a1 a2 a3 m)
  else (some ((-14 : Int32), m)))
set_option maxRecDepth 20000 in
theorem w12_sheet_b33  {G : lu_G} {ρ : Nat → Nat} {a1 : Int32} {a2 : Int32} {a3 : Int32}  (X : lu_X G RX12 cX12_sheet 5 2 45) (hret : (lu_me G).sig.returnType = (some .int))   : ∀  (m : lu_M), lu_Ab lu_TM G (lu_Q lu_TM G ρ lu_RVi lu_sn) (f12_sheet_b33 a1 a2 a3 m) 33 [(0, .ref (ρ 0)), (1, .int a1), (2, .int a2), (3, .int a3)] [] ρ 0 0 [] m := by
  intro  m
  unfold f12_sheet_b33
  refine lu_iload_n X dX12_sheet_33 (pc2 := 34) rfl rfl 2 rfl ?_
  refine lu_if_lt (tgt := 44) X dX12_sheet_34 (pc2 := 37) rfl (by decide) (fun _ => ?_) (fun _ => ?_)
  · exact w12_sheet_b44 X hret m
  · refine lu_iload_n X dX12_sheet_37 (pc2 := 38) rfl rfl 3 rfl ?_
    refine lu_if_ge (tgt := 44) X dX12_sheet_38 (pc2 := 41) rfl (by decide) (fun _ => ?_) (fun _ => ?_)
    · exact w12_sheet_b44 X hret m
    · refine lu_bipush X dX12_sheet_41 (pc2 := 43) rfl bp_m14 ?_
      exact lu_iret X hret dX12_sheet_43
def f12_sheet (a1 : Int32) (a2 : Int32) (a3 : Int32) (m : lu_M) : Option (Int32 × lu_M) :=
  lu_bi (f12_isOne a1 m) fun x1 m2 =>
  if x1 = 0 then (f12_sheet_b31 a1 a2 a3 m2)
  else (lu_bi (f12_in a2.toInt64 (-1 : Int64) (4 : Int64) m2) fun x3 m4 =>
  if x3 = 0 then (f12_sheet_b31 a1 a2 a3 m4)
  else (if a2 < 0 then (f12_sheet_b33 a1 a2 a3 m4)
  else (if a3 ≤ (40 : Int32) then (f12_sheet_b33 a1 a2 a3 m4)
  else (f12_sheet_b31 a1 a2 a3 m4))))
set_option maxRecDepth 20000 in
theorem c12_sheet (l : Launch)   (a1 : Int32) (a2 : Int32) (a3 : Int32) : lu_C lu_TM l yX12_sheet cX12_sheet 5 (some .int) 2 45 (fun ρ sa => [.ref (ρ 0), .int a1, .int a2, .int a3]) (f12_sheet a1 a2 a3) lu_RVi lu_sn := by
  refine lu_met (cls := RX12) rfl (by decide +kernel) (fun _ _ => Nat.le_of_ble_eq_true rfl) ?_
  intro G ρ m hl X hret
  subst hl
  change lu_Ab lu_TM G (lu_Q lu_TM G ρ lu_RVi lu_sn) (f12_sheet a1 a2 a3 m) 0 [(0, .ref (ρ 0)), (1, .int a1), (2, .int a2), (3, .int a3)] [] ρ 0 0 [] m
  unfold f12_sheet
  refine lu_iload_n X dX12_sheet_0 (pc2 := 1) rfl rfl 1 rfl ?_
  refine lu_invSi X (c12_isOne _ a1) rfl q1704 mvS_12_isOne rfl rfl (Nat.le_of_ble_eq_true rfl) (Nat.le_of_ble_eq_true rfl) (Nat.le_of_ble_eq_true rfl) ⟨Nat.zero_le _, Nat.zero_le _⟩ dX12_sheet_1 (pc2 := 4) rfl rfl (fun x1 m2 => ?_)
  refine lu_if_eq (tgt := 31) X dX12_sheet_4 (pc2 := 7) rfl (by decide) (fun _ => ?_) (fun _ => ?_)
  · exact lu_sub [] rfl (w12_sheet_b31 X hret m2)
  · refine lu_iload_n X dX12_sheet_7 (pc2 := 8) rfl rfl 2 rfl ?_
    refine lu_i2l X dX12_sheet_8 (pc2 := 9) rfl ?_
    refine lu_ldc2 X q1707 dX12_sheet_9 (pc2 := 12) rfl ?_
    refine lu_ldc2 X q1382 dX12_sheet_12 (pc2 := 15) rfl ?_
    refine lu_invSi X (c12_in _ a2.toInt64 (-1 : Int64) (4 : Int64)) rfl q1261 mvS_12_in rfl rfl (Nat.le_of_ble_eq_true rfl) (Nat.le_of_ble_eq_true rfl) (Nat.le_of_ble_eq_true rfl) ⟨Nat.zero_le _, Nat.zero_le _⟩ dX12_sheet_15 (pc2 := 18) rfl rfl (fun x3 m4 => ?_)
    refine lu_if_eq (tgt := 31) X dX12_sheet_18 (pc2 := 21) rfl (by decide) (fun _ => ?_) (fun _ => ?_)
    · exact lu_sub [] rfl (w12_sheet_b31 X hret m4)
    · refine lu_iload_n X dX12_sheet_21 (pc2 := 22) rfl rfl 2 rfl ?_
      refine lu_if_lt (tgt := 33) X dX12_sheet_22 (pc2 := 25) rfl (by decide) (fun _ => ?_) (fun _ => ?_)
      · exact w12_sheet_b33 X hret m4
      · refine lu_iload_n X dX12_sheet_25 (pc2 := 26) rfl rfl 3 rfl ?_
        refine lu_bipush X dX12_sheet_26 (pc2 := 28) rfl bp_40 ?_
        refine lu_icmp_le (tgt := 33) X dX12_sheet_28 (pc2 := 31) rfl (by decide) (fun _ => ?_) (fun _ => ?_)
        · exact w12_sheet_b33 X hret m4
        · exact lu_sub [] rfl (w12_sheet_b31 X hret m4)

theorem dX12_narrowed_0 : decode cX12_narrowed 0 = .ok (.iload_n 0, 1) := by decide +kernel
theorem dX12_narrowed_1 : decode cX12_narrowed 1 = .ok (.ifCond .ne 8, 3) := by decide +kernel
theorem dX12_narrowed_4 : decode cX12_narrowed 4 = .ok (.iload_n 1, 1) := by decide +kernel
theorem dX12_narrowed_5 : decode cX12_narrowed 5 = .ok (.i2b, 1) := by decide +kernel
theorem dX12_narrowed_6 : decode cX12_narrowed 6 = .ok (.goto 31, 3) := by decide +kernel
theorem dX12_narrowed_9 : decode cX12_narrowed 9 = .ok (.iload_n 0, 1) := by decide +kernel
theorem dX12_narrowed_10 : decode cX12_narrowed 10 = .ok (.iconst 1, 1) := by decide +kernel
theorem dX12_narrowed_11 : decode cX12_narrowed 11 = .ok (.if_icmp .ne 8, 3) := by decide +kernel
theorem dX12_narrowed_14 : decode cX12_narrowed 14 = .ok (.iload_n 1, 1) := by decide +kernel
theorem dX12_narrowed_15 : decode cX12_narrowed 15 = .ok (.i2s, 1) := by decide +kernel
theorem dX12_narrowed_16 : decode cX12_narrowed 16 = .ok (.goto 21, 3) := by decide +kernel
theorem dX12_narrowed_19 : decode cX12_narrowed 19 = .ok (.iload_n 0, 1) := by decide +kernel
theorem dX12_narrowed_20 : decode cX12_narrowed 20 = .ok (.iconst 4, 1) := by decide +kernel
theorem dX12_narrowed_21 : decode cX12_narrowed 21 = .ok (.if_icmp .ne 15, 3) := by decide +kernel
theorem dX12_narrowed_24 : decode cX12_narrowed 24 = .ok (.iload_n 1, 1) := by decide +kernel
theorem dX12_narrowed_25 : decode cX12_narrowed 25 = .ok (.ifCond .ne 7, 3) := by decide +kernel
theorem dX12_narrowed_28 : decode cX12_narrowed 28 = .ok (.iconst 0, 1) := by decide +kernel
theorem dX12_narrowed_29 : decode cX12_narrowed 29 = .ok (.goto 8, 3) := by decide +kernel
theorem dX12_narrowed_32 : decode cX12_narrowed 32 = .ok (.iconst 1, 1) := by decide +kernel
theorem dX12_narrowed_33 : decode cX12_narrowed 33 = .ok (.goto 4, 3) := by decide +kernel
theorem dX12_narrowed_36 : decode cX12_narrowed 36 = .ok (.iload_n 1, 1) := by decide +kernel
theorem dX12_narrowed_37 : decode cX12_narrowed 37 = .ok (.ireturn, 1) := by decide +kernel
def f12_narrowed_b37  (a0 : Int32) (a1 : Int32) (s0 : Int32) (m : lu_M) : Option (Int32 × lu_M) :=
  some (s0, m)
set_option maxRecDepth 20000 in
theorem w12_narrowed_b37  {G : lu_G} {ρ : Nat → Nat} {a0 : Int32} {a1 : Int32}  (X : lu_X G RX12 cX12_narrowed 2 0 0) (hret : (lu_me G).sig.returnType = (some .int))   : ∀ (s0 : Int32) (m : lu_M), lu_Ab lu_TM G (lu_Q lu_TM G ρ lu_RVi lu_sn) (f12_narrowed_b37 a0 a1 s0 m) 37 [] [.int s0] ρ 0 0 [] m := by
  intro s0 m
  unfold f12_narrowed_b37
  exact lu_iret X hret dX12_narrowed_37
def f12_narrowed (a0 : Int32) (a1 : Int32) (m : lu_M) : Option (Int32 × lu_M) :=
  if a0 = 0 then (f12_narrowed_b37 a0 a1 a1.toInt8.toInt32 m)
  else (if a0 = (1 : Int32) then (f12_narrowed_b37 a0 a1 a1.toInt16.toInt32 m)
  else (if a0 = (4 : Int32) then (if a1 = 0 then (f12_narrowed_b37 a0 a1 (0 : Int32) m)
  else (f12_narrowed_b37 a0 a1 (1 : Int32) m))
  else (f12_narrowed_b37 a0 a1 a1 m)))
set_option maxRecDepth 20000 in
theorem c12_narrowed (l : Launch)   (a0 : Int32) (a1 : Int32) : lu_C lu_TM l yX12_narrowed cX12_narrowed 2 (some .int) 0 0 (fun ρ sa => [.int a0, .int a1]) (f12_narrowed a0 a1) lu_RVi lu_sn := by
  refine lu_met (cls := RX12) rfl (by decide +kernel) (fun _ _ => Nat.le_of_ble_eq_true rfl) ?_
  intro G ρ m hl X hret
  subst hl
  change lu_Ab lu_TM G (lu_Q lu_TM G ρ lu_RVi lu_sn) (f12_narrowed a0 a1 m) 0 [(0, .int a0), (1, .int a1)] [] ρ 0 0 [] m
  unfold f12_narrowed
  refine lu_iload_n X dX12_narrowed_0 (pc2 := 1) rfl rfl 0 rfl ?_
  refine lu_if_ne (tgt := 9) X dX12_narrowed_1 (pc2 := 4) rfl (by decide) (fun _ => ?_) (fun _ => ?_)
  · refine lu_iload_n X dX12_narrowed_9 (pc2 := 10) rfl rfl 0 rfl ?_
    refine lu_iconst X dX12_narrowed_10 (pc2 := 11) rfl ic_1 ?_
    refine lu_icmp_ne (tgt := 19) X dX12_narrowed_11 (pc2 := 14) rfl (by decide) (fun _ => ?_) (fun _ => ?_)
    · refine lu_iload_n X dX12_narrowed_19 (pc2 := 20) rfl rfl 0 rfl ?_
      refine lu_iconst X dX12_narrowed_20 (pc2 := 21) rfl ic_4 ?_
      refine lu_icmp_ne (tgt := 36) X dX12_narrowed_21 (pc2 := 24) rfl (by decide) (fun _ => ?_) (fun _ => ?_)
      · refine lu_iload_n X dX12_narrowed_36 (pc2 := 37) rfl rfl 1 rfl ?_
        exact lu_sub [] rfl (w12_narrowed_b37 X hret a1 m)
      · refine lu_iload_n X dX12_narrowed_24 (pc2 := 25) rfl rfl 1 rfl ?_
        refine lu_if_ne (tgt := 32) X dX12_narrowed_25 (pc2 := 28) rfl (by decide) (fun _ => ?_) (fun _ => ?_)
        · refine lu_iconst X dX12_narrowed_32 (pc2 := 33) rfl ic_1 ?_
          refine lu_goto (tgt := 37) X dX12_narrowed_33 (by decide) ?_
          exact lu_sub [] rfl (w12_narrowed_b37 X hret (1 : Int32) m)
        · refine lu_iconst X dX12_narrowed_28 (pc2 := 29) rfl ic_0 ?_
          refine lu_goto (tgt := 37) X dX12_narrowed_29 (by decide) ?_
          exact lu_sub [] rfl (w12_narrowed_b37 X hret (0 : Int32) m)
    · refine lu_iload_n X dX12_narrowed_14 (pc2 := 15) rfl rfl 1 rfl ?_
      refine lu_i2s X dX12_narrowed_15 (pc2 := 16) rfl ?_
      refine lu_goto (tgt := 37) X dX12_narrowed_16 (by decide) ?_
      exact lu_sub [] rfl (w12_narrowed_b37 X hret a1.toInt16.toInt32 m)
  · refine lu_iload_n X dX12_narrowed_4 (pc2 := 5) rfl rfl 1 rfl ?_
    refine lu_i2b X dX12_narrowed_5 (pc2 := 6) rfl ?_
    refine lu_goto (tgt := 37) X dX12_narrowed_6 (by decide) ?_
    exact lu_sub [] rfl (w12_narrowed_b37 X hret a1.toInt8.toInt32 m)

theorem dX12_write_0 : decode cX12_write 0 = .ok (.iload_n 1, 1) := by decide +kernel
theorem dX12_write_1 : decode cX12_write 1 = .ok (.invokestatic 397, 3) := by decide +kernel
theorem dX12_write_4 : decode cX12_write 4 = .ok (.ifCond .ne 5, 3) := by decide +kernel
theorem dX12_write_7 : decode cX12_write 7 = .ok (.iconst (-1), 1) := by decide +kernel
theorem dX12_write_8 : decode cX12_write 8 = .ok (.ireturn, 1) := by decide +kernel
theorem dX12_write_9 : decode cX12_write 9 = .ok (.aload_n 0, 1) := by decide +kernel
theorem dX12_write_10 : decode cX12_write 10 = .ok (.getfield 43, 3) := by decide +kernel
theorem dX12_write_13 : decode cX12_write 13 = .ok (.iload_n 1, 1) := by decide +kernel
theorem dX12_write_14 : decode cX12_write 14 = .ok (.iaload, 1) := by decide +kernel
theorem dX12_write_15 : decode cX12_write 15 = .ok (.ifCond .ge 6, 3) := by decide +kernel
theorem dX12_write_18 : decode cX12_write 18 = .ok (.bipush (-11), 2) := by decide +kernel
theorem dX12_write_20 : decode cX12_write 20 = .ok (.ireturn, 1) := by decide +kernel
theorem dX12_write_21 : decode cX12_write 21 = .ok (.iload_n 2, 1) := by decide +kernel
theorem dX12_write_22 : decode cX12_write 22 = .ok (.i2l, 1) := by decide +kernel
theorem dX12_write_23 : decode cX12_write 23 = .ok (.lconst 0, 1) := by decide +kernel
theorem dX12_write_24 : decode cX12_write 24 = .ok (.aload_n 0, 1) := by decide +kernel
theorem dX12_write_25 : decode cX12_write 25 = .ok (.getfield 46, 3) := by decide +kernel
theorem dX12_write_28 : decode cX12_write 28 = .ok (.iload_n 1, 1) := by decide +kernel
theorem dX12_write_29 : decode cX12_write 29 = .ok (.iaload, 1) := by decide +kernel
theorem dX12_write_30 : decode cX12_write 30 = .ok (.iconst 1, 1) := by decide +kernel
theorem dX12_write_31 : decode cX12_write 31 = .ok (.isub, 1) := by decide +kernel
theorem dX12_write_32 : decode cX12_write 32 = .ok (.i2l, 1) := by decide +kernel
theorem dX12_write_33 : decode cX12_write 33 = .ok (.invokestatic 64, 3) := by decide +kernel
theorem dX12_write_36 : decode cX12_write 36 = .ok (.ifCond .ne 6, 3) := by decide +kernel
theorem dX12_write_39 : decode cX12_write 39 = .ok (.bipush (-12), 2) := by decide +kernel
theorem dX12_write_41 : decode cX12_write 41 = .ok (.ireturn, 1) := by decide +kernel
theorem dX12_write_42 : decode cX12_write 42 = .ok (.aload_n 0, 1) := by decide +kernel
theorem dX12_write_43 : decode cX12_write 43 = .ok (.getfield 49, 3) := by decide +kernel
theorem dX12_write_46 : decode cX12_write 46 = .ok (.bipush 40, 2) := by decide +kernel
theorem dX12_write_48 : decode cX12_write 48 = .ok (.iload_n 1, 1) := by decide +kernel
theorem dX12_write_49 : decode cX12_write 49 = .ok (.imul, 1) := by decide +kernel
theorem dX12_write_50 : decode cX12_write 50 = .ok (.iload_n 2, 1) := by decide +kernel
theorem dX12_write_51 : decode cX12_write 51 = .ok (.iadd, 1) := by decide +kernel
theorem dX12_write_52 : decode cX12_write 52 = .ok (.aload_n 0, 1) := by decide +kernel
theorem dX12_write_53 : decode cX12_write 53 = .ok (.getfield 43, 3) := by decide +kernel
theorem dX12_write_56 : decode cX12_write 56 = .ok (.iload_n 1, 1) := by decide +kernel
theorem dX12_write_57 : decode cX12_write 57 = .ok (.iaload, 1) := by decide +kernel
theorem dX12_write_58 : decode cX12_write 58 = .ok (.iload_n 3, 1) := by decide +kernel
theorem dX12_write_59 : decode cX12_write 59 = .ok (.invokestatic 402, 3) := by decide +kernel
theorem dX12_write_62 : decode cX12_write 62 = .ok (.iastore, 1) := by decide +kernel
theorem dX12_write_63 : decode cX12_write 63 = .ok (.iconst 1, 1) := by decide +kernel
theorem dX12_write_64 : decode cX12_write 64 = .ok (.ireturn, 1) := by decide +kernel
def f12_write (a1 : Int32) (a2 : Int32) (a3 : Int32) (m : lu_M) : Option (Int32 × lu_M) :=
  lu_bi (f12_isOne a1 m) fun x1 m2 =>
  if x1 = 0 then (some ((-1 : Int32), m2))
  else (lu_gd (lu_ib a1 4) <|
  if 0 ≤ (m2 12 a1.toNatClampNeg) then (lu_gd (lu_ib a1 4) <|
  lu_bi (f12_in a2.toInt64 (0 : Int64) (((m2 13 a1.toNatClampNeg) - (1 : Int32)).toInt64) m2) fun x3 m4 =>
  if x3 = 0 then (some ((-12 : Int32), m4))
  else (lu_gd (lu_ib a1 4) <|
  lu_bi (f12_narrowed (m4 12 a1.toNatClampNeg) a3 m4) fun x5 m6 =>
  lu_gd (lu_ib (((40 : Int32) * a1) + a2) 160) <|
  lu_nm (lu_st m6 14 (((40 : Int32) * a1) + a2).toNatClampNeg x5) fun m7 =>
  some ((1 : Int32), m7)))
  else (some ((-11 : Int32), m2)))
set_option maxRecDepth 20000 in
theorem c12_write (l : Launch)   (a1 : Int32) (a2 : Int32) (a3 : Int32) : lu_C lu_TM l yX12_write cX12_write 4 (some .int) 2 45 (fun ρ sa => [.ref (ρ 0), .int a1, .int a2, .int a3]) (f12_write a1 a2 a3) lu_RVi lu_sn := by
  refine lu_met (cls := RX12) rfl (by decide +kernel) (fun _ _ => Nat.le_of_ble_eq_true rfl) ?_
  intro G ρ m hl X hret
  subst hl
  change lu_Ab lu_TM G (lu_Q lu_TM G ρ lu_RVi lu_sn) (f12_write a1 a2 a3 m) 0 [(0, .ref (ρ 0)), (1, .int a1), (2, .int a2), (3, .int a3)] [] ρ 0 0 [] m
  unfold f12_write
  refine lu_iload_n X dX12_write_0 (pc2 := 1) rfl rfl 1 rfl ?_
  refine lu_invSi X (c12_isOne _ a1) rfl q1704 mvS_12_isOne rfl rfl (Nat.le_of_ble_eq_true rfl) (Nat.le_of_ble_eq_true rfl) (Nat.le_of_ble_eq_true rfl) ⟨Nat.zero_le _, Nat.zero_le _⟩ dX12_write_1 (pc2 := 4) rfl rfl (fun x1 m2 => ?_)
  refine lu_if_ne (tgt := 9) X dX12_write_4 (pc2 := 7) rfl (by decide) (fun _ => ?_) (fun _ => ?_)
  · refine lu_aload_n X dX12_write_9 (pc2 := 10) rfl rfl 0 rfl ?_
    refine lu_getr (r2 := 12) X rfl fl12_43 rfl kM_0 lM_0 dX12_write_10 (pc2 := 13) rfl ?_
    refine lu_iload_n X dX12_write_13 (pc2 := 14) rfl rfl 1 rfl ?_
    refine lu_iald X kM_12 lM_12 dX12_write_14 (pc2 := 15) rfl ?_
    refine lu_if_ge (tgt := 21) X dX12_write_15 (pc2 := 18) rfl (by decide) (fun _ => ?_) (fun _ => ?_)
    · refine lu_iload_n X dX12_write_21 (pc2 := 22) rfl rfl 2 rfl ?_
      refine lu_i2l X dX12_write_22 (pc2 := 23) rfl ?_
      refine lu_lconst (v := (0 : Int64)) X dX12_write_23 (pc2 := 24) rfl (by decide) ?_
      refine lu_aload_n X dX12_write_24 (pc2 := 25) rfl rfl 0 rfl ?_
      refine lu_getr (r2 := 13) X rfl fl12_46 rfl kM_0 lM_0 dX12_write_25 (pc2 := 28) rfl ?_
      refine lu_iload_n X dX12_write_28 (pc2 := 29) rfl rfl 1 rfl ?_
      refine lu_iald X kM_13 lM_13 dX12_write_29 (pc2 := 30) rfl ?_
      refine lu_iconst X dX12_write_30 (pc2 := 31) rfl ic_1 ?_
      refine lu_isub X dX12_write_31 (pc2 := 32) rfl ?_
      refine lu_i2l X dX12_write_32 (pc2 := 33) rfl ?_
      refine lu_invSi X (c12_in _ a2.toInt64 (0 : Int64) (((m2 13 a1.toNatClampNeg) - (1 : Int32)).toInt64)) rfl q1261 mvS_12_in rfl rfl (Nat.le_of_ble_eq_true rfl) (Nat.le_of_ble_eq_true rfl) (Nat.le_of_ble_eq_true rfl) ⟨Nat.zero_le _, Nat.zero_le _⟩ dX12_write_33 (pc2 := 36) rfl rfl (fun x3 m4 => ?_)
      refine lu_if_ne (tgt := 42) X dX12_write_36 (pc2 := 39) rfl (by decide) (fun _ => ?_) (fun _ => ?_)
      · refine lu_aload_n X dX12_write_42 (pc2 := 43) rfl rfl 0 rfl ?_
        refine lu_getr (r2 := 14) X rfl fl12_49 rfl kM_0 lM_0 dX12_write_43 (pc2 := 46) rfl ?_
        refine lu_bipush X dX12_write_46 (pc2 := 48) rfl bp_40 ?_
        refine lu_iload_n X dX12_write_48 (pc2 := 49) rfl rfl 1 rfl ?_
        refine lu_imul X dX12_write_49 (pc2 := 50) rfl ?_
        refine lu_iload_n X dX12_write_50 (pc2 := 51) rfl rfl 2 rfl ?_
        refine lu_iadd X dX12_write_51 (pc2 := 52) rfl ?_
        refine lu_aload_n X dX12_write_52 (pc2 := 53) rfl rfl 0 rfl ?_
        refine lu_getr (r2 := 12) X rfl fl12_43 rfl kM_0 lM_0 dX12_write_53 (pc2 := 56) rfl ?_
        refine lu_iload_n X dX12_write_56 (pc2 := 57) rfl rfl 1 rfl ?_
        refine lu_iald X kM_12 lM_12 dX12_write_57 (pc2 := 58) rfl ?_
        refine lu_iload_n X dX12_write_58 (pc2 := 59) rfl rfl 3 rfl ?_
        refine lu_invSi X (c12_narrowed _ (m4 12 a1.toNatClampNeg) a3) rfl q1712 mvS_12_narrowed rfl rfl (Nat.le_of_ble_eq_true rfl) (Nat.le_of_ble_eq_true rfl) (Nat.le_of_ble_eq_true rfl) ⟨Nat.zero_le _, Nat.zero_le _⟩ dX12_write_59 (pc2 := 62) rfl rfl (fun x5 m6 => ?_)
        refine lu_iast X kM_14 lM_14 dX12_write_62 (pc2 := 63) rfl (fun m7 => ?_)
        refine lu_iconst X dX12_write_63 (pc2 := 64) rfl ic_1 ?_
        exact lu_iret X hret dX12_write_64
      · refine lu_bipush X dX12_write_39 (pc2 := 41) rfl bp_m12 ?_
        exact lu_iret X hret dX12_write_41
    · refine lu_bipush X dX12_write_18 (pc2 := 20) rfl bp_m11 ?_
      exact lu_iret X hret dX12_write_20
  · refine lu_iconst X dX12_write_7 (pc2 := 8) rfl ic_m1 ?_
    exact lu_iret X hret dX12_write_8

theorem dX12_whyNot_0 : decode cX12_whyNot 0 = .ok (.aload_n 0, 1) := by decide +kernel
theorem dX12_whyNot_1 : decode cX12_whyNot 1 = .ok (.getfield 43, 3) := by decide +kernel
theorem dX12_whyNot_4 : decode cX12_whyNot 4 = .ok (.iload_n 1, 1) := by decide +kernel
theorem dX12_whyNot_5 : decode cX12_whyNot 5 = .ok (.iaload, 1) := by decide +kernel
theorem dX12_whyNot_6 : decode cX12_whyNot 6 = .ok (.ifCond .ge 8, 3) := by decide +kernel
theorem dX12_whyNot_9 : decode cX12_whyNot 9 = .ok (.bipush (-11), 2) := by decide +kernel
theorem dX12_whyNot_11 : decode cX12_whyNot 11 = .ok (.goto 19, 3) := by decide +kernel
theorem dX12_whyNot_14 : decode cX12_whyNot 14 = .ok (.aload_n 0, 1) := by decide +kernel
theorem dX12_whyNot_15 : decode cX12_whyNot 15 = .ok (.getfield 43, 3) := by decide +kernel
theorem dX12_whyNot_18 : decode cX12_whyNot 18 = .ok (.iload_n 1, 1) := by decide +kernel
theorem dX12_whyNot_19 : decode cX12_whyNot 19 = .ok (.iaload, 1) := by decide +kernel
theorem dX12_whyNot_20 : decode cX12_whyNot 20 = .ok (.iload_n 2, 1) := by decide +kernel
theorem dX12_whyNot_21 : decode cX12_whyNot 21 = .ok (.if_icmp .eq 8, 3) := by decide +kernel
theorem dX12_whyNot_24 : decode cX12_whyNot 24 = .ok (.bipush (-13), 2) := by decide +kernel
theorem dX12_whyNot_26 : decode cX12_whyNot 26 = .ok (.goto 4, 3) := by decide +kernel
theorem dX12_whyNot_29 : decode cX12_whyNot 29 = .ok (.iconst 0, 1) := by decide +kernel
theorem dX12_whyNot_30 : decode cX12_whyNot 30 = .ok (.ireturn, 1) := by decide +kernel
def f12_whyNot_b30  (a1 : Int32) (a2 : Int32) (s0 : Int32) (m : lu_M) : Option (Int32 × lu_M) :=
  some (s0, m)
set_option maxRecDepth 20000 in
theorem w12_whyNot_b30  {G : lu_G} {ρ : Nat → Nat} {a1 : Int32} {a2 : Int32}  (X : lu_X G RX12 cX12_whyNot 3 0 0) (hret : (lu_me G).sig.returnType = (some .int))   : ∀ (s0 : Int32) (m : lu_M), lu_Ab lu_TM G (lu_Q lu_TM G ρ lu_RVi lu_sn) (f12_whyNot_b30 a1 a2 s0 m) 30 [] [.int s0] ρ 0 0 [] m := by
  intro s0 m
  unfold f12_whyNot_b30
  exact lu_iret X hret dX12_whyNot_30
def f12_whyNot (a1 : Int32) (a2 : Int32) (m : lu_M) : Option (Int32 × lu_M) :=
  lu_gd (lu_ib a1 4) <|
  if 0 ≤ (m 12 a1.toNatClampNeg) then (lu_gd (lu_ib a1 4) <|
  if (m 12 a1.toNatClampNeg) = a2 then (f12_whyNot_b30 a1 a2 (0 : Int32) m)
  else (f12_whyNot_b30 a1 a2 (-13 : Int32) m))
  else (f12_whyNot_b30 a1 a2 (-11 : Int32) m)
set_option maxRecDepth 20000 in
theorem c12_whyNot (l : Launch)   (a1 : Int32) (a2 : Int32) : lu_C lu_TM l yX12_whyNot cX12_whyNot 3 (some .int) 0 0 (fun ρ sa => [.ref (ρ 0), .int a1, .int a2]) (f12_whyNot a1 a2) lu_RVi lu_sn := by
  refine lu_met (cls := RX12) rfl (by decide +kernel) (fun _ _ => Nat.le_of_ble_eq_true rfl) ?_
  intro G ρ m hl X hret
  subst hl
  change lu_Ab lu_TM G (lu_Q lu_TM G ρ lu_RVi lu_sn) (f12_whyNot a1 a2 m) 0 [(0, .ref (ρ 0)), (1, .int a1), (2, .int a2)] [] ρ 0 0 [] m
  unfold f12_whyNot
  refine lu_aload_n X dX12_whyNot_0 (pc2 := 1) rfl rfl 0 rfl ?_
  refine lu_getr (r2 := 12) X rfl fl12_43 rfl kM_0 lM_0 dX12_whyNot_1 (pc2 := 4) rfl ?_
  refine lu_iload_n X dX12_whyNot_4 (pc2 := 5) rfl rfl 1 rfl ?_
  refine lu_iald X kM_12 lM_12 dX12_whyNot_5 (pc2 := 6) rfl ?_
  refine lu_if_ge (tgt := 14) X dX12_whyNot_6 (pc2 := 9) rfl (by decide) (fun _ => ?_) (fun _ => ?_)
  · refine lu_aload_n X dX12_whyNot_14 (pc2 := 15) rfl rfl 0 rfl ?_
    refine lu_getr (r2 := 12) X rfl fl12_43 rfl kM_0 lM_0 dX12_whyNot_15 (pc2 := 18) rfl ?_
    refine lu_iload_n X dX12_whyNot_18 (pc2 := 19) rfl rfl 1 rfl ?_
    refine lu_iald X kM_12 lM_12 dX12_whyNot_19 (pc2 := 20) rfl ?_
    refine lu_iload_n X dX12_whyNot_20 (pc2 := 21) rfl rfl 2 rfl ?_
    refine lu_icmp_eq (tgt := 29) X dX12_whyNot_21 (pc2 := 24) rfl (by decide) (fun _ => ?_) (fun _ => ?_)
    · refine lu_iconst X dX12_whyNot_29 (pc2 := 30) rfl ic_0 ?_
      exact lu_sub [] rfl (w12_whyNot_b30 X hret (0 : Int32) m)
    · refine lu_bipush X dX12_whyNot_24 (pc2 := 26) rfl bp_m13 ?_
      refine lu_goto (tgt := 30) X dX12_whyNot_26 (by decide) ?_
      exact lu_sub [] rfl (w12_whyNot_b30 X hret (-13 : Int32) m)
  · refine lu_bipush X dX12_whyNot_9 (pc2 := 11) rfl bp_m11 ?_
    refine lu_goto (tgt := 30) X dX12_whyNot_11 (by decide) ?_
    exact lu_sub [] rfl (w12_whyNot_b30 X hret (-11 : Int32) m)

theorem dX12_item_0 : decode cX12_item 0 = .ok (.iload_n 1, 1) := by decide +kernel
theorem dX12_item_1 : decode cX12_item 1 = .ok (.invokestatic 397, 3) := by decide +kernel
theorem dX12_item_4 : decode cX12_item 4 = .ok (.ifCond .eq 15, 3) := by decide +kernel
theorem dX12_item_7 : decode cX12_item 7 = .ok (.iload_n 2, 1) := by decide +kernel
theorem dX12_item_8 : decode cX12_item 8 = .ok (.i2l, 1) := by decide +kernel
theorem dX12_item_9 : decode cX12_item 9 = .ok (.lconst 0, 1) := by decide +kernel
theorem dX12_item_10 : decode cX12_item 10 = .ok (.ldc2_w 149, 3) := by decide +kernel
theorem dX12_item_13 : decode cX12_item 13 = .ok (.invokestatic 64, 3) := by decide +kernel
theorem dX12_item_16 : decode cX12_item 16 = .ok (.ifCond .ne 5, 3) := by decide +kernel
theorem dX12_item_19 : decode cX12_item 19 = .ok (.iconst (-1), 1) := by decide +kernel
theorem dX12_item_20 : decode cX12_item 20 = .ok (.ireturn, 1) := by decide +kernel
theorem dX12_item_21 : decode cX12_item 21 = .ok (.aload_n 0, 1) := by decide +kernel
theorem dX12_item_22 : decode cX12_item 22 = .ok (.iload_n 1, 1) := by decide +kernel
theorem dX12_item_23 : decode cX12_item 23 = .ok (.iload_n 2, 1) := by decide +kernel
theorem dX12_item_24 : decode cX12_item 24 = .ok (.invokevirtual 405, 3) := by decide +kernel
theorem dX12_item_27 : decode cX12_item 27 = .ok (.istore 4, 2) := by decide +kernel
theorem dX12_item_29 : decode cX12_item 29 = .ok (.iload 4, 2) := by decide +kernel
theorem dX12_item_31 : decode cX12_item 31 = .ok (.ifCond .eq 8, 3) := by decide +kernel
theorem dX12_item_34 : decode cX12_item 34 = .ok (.iload 4, 2) := by decide +kernel
theorem dX12_item_36 : decode cX12_item 36 = .ok (.goto 37, 3) := by decide +kernel
theorem dX12_item_39 : decode cX12_item 39 = .ok (.iload_n 3, 1) := by decide +kernel
theorem dX12_item_40 : decode cX12_item 40 = .ok (.i2l, 1) := by decide +kernel
theorem dX12_item_41 : decode cX12_item 41 = .ok (.lconst 0, 1) := by decide +kernel
theorem dX12_item_42 : decode cX12_item 42 = .ok (.aload_n 0, 1) := by decide +kernel
theorem dX12_item_43 : decode cX12_item 43 = .ok (.getfield 46, 3) := by decide +kernel
theorem dX12_item_46 : decode cX12_item 46 = .ok (.iload_n 1, 1) := by decide +kernel
theorem dX12_item_47 : decode cX12_item 47 = .ok (.iaload, 1) := by decide +kernel
theorem dX12_item_48 : decode cX12_item 48 = .ok (.iconst 1, 1) := by decide +kernel
theorem dX12_item_49 : decode cX12_item 49 = .ok (.isub, 1) := by decide +kernel
theorem dX12_item_50 : decode cX12_item 50 = .ok (.i2l, 1) := by decide +kernel
theorem dX12_item_51 : decode cX12_item 51 = .ok (.invokestatic 64, 3) := by decide +kernel
theorem dX12_item_54 : decode cX12_item 54 = .ok (.ifCond .eq 17, 3) := by decide +kernel
theorem dX12_item_57 : decode cX12_item 57 = .ok (.aload_n 0, 1) := by decide +kernel
theorem dX12_item_58 : decode cX12_item 58 = .ok (.getfield 49, 3) := by decide +kernel
theorem dX12_item_61 : decode cX12_item 61 = .ok (.bipush 40, 2) := by decide +kernel
theorem dX12_item_63 : decode cX12_item 63 = .ok (.iload_n 1, 1) := by decide +kernel
theorem dX12_item_64 : decode cX12_item 64 = .ok (.imul, 1) := by decide +kernel
theorem dX12_item_65 : decode cX12_item 65 = .ok (.iload_n 3, 1) := by decide +kernel
theorem dX12_item_66 : decode cX12_item 66 = .ok (.iadd, 1) := by decide +kernel
theorem dX12_item_67 : decode cX12_item 67 = .ok (.iaload, 1) := by decide +kernel
theorem dX12_item_68 : decode cX12_item 68 = .ok (.goto 5, 3) := by decide +kernel
theorem dX12_item_71 : decode cX12_item 71 = .ok (.bipush (-12), 2) := by decide +kernel
theorem dX12_item_73 : decode cX12_item 73 = .ok (.ireturn, 1) := by decide +kernel
def f12_item_b19  (a1 : Int32) (a2 : Int32) (a3 : Int32)  (m : lu_M) : Option (Int32 × lu_M) :=
  some ((-1 : Int32), m)
set_option maxRecDepth 20000 in
theorem w12_item_b19  {G : lu_G} {ρ : Nat → Nat} {a1 : Int32} {a2 : Int32} {a3 : Int32}  (X : lu_X G RX12 cX12_item 5 2 45) (hret : (lu_me G).sig.returnType = (some .int))   : ∀  (m : lu_M), lu_Ab lu_TM G (lu_Q lu_TM G ρ lu_RVi lu_sn) (f12_item_b19 a1 a2 a3 m) 19 [] [] ρ 0 0 [] m := by
  intro  m
  unfold f12_item_b19
  refine lu_iconst X dX12_item_19 (pc2 := 20) rfl ic_m1 ?_
  exact lu_iret X hret dX12_item_20
def f12_item_b73  (a1 : Int32) (a2 : Int32) (a3 : Int32) (s0 : Int32) (m : lu_M) : Option (Int32 × lu_M) :=
  some (s0, m)
set_option maxRecDepth 20000 in
theorem w12_item_b73  {G : lu_G} {ρ : Nat → Nat} {a1 : Int32} {a2 : Int32} {a3 : Int32}  (X : lu_X G RX12 cX12_item 5 2 45) (hret : (lu_me G).sig.returnType = (some .int))   : ∀ (s0 : Int32) (m : lu_M), lu_Ab lu_TM G (lu_Q lu_TM G ρ lu_RVi lu_sn) (f12_item_b73 a1 a2 a3 s0 m) 73 [] [.int s0] ρ 0 0 [] m := by
  intro s0 m
  unfold f12_item_b73
  exact lu_iret X hret dX12_item_73
def f12_item (a1 : Int32) (a2 : Int32) (a3 : Int32) (m : lu_M) : Option (Int32 × lu_M) :=
  lu_bi (f12_isOne a1 m) fun x1 m2 =>
  if x1 = 0 then (f12_item_b19 a1 a2 a3 m2)
  else (lu_bi (f12_in a2.toInt64 (0 : Int64) (4 : Int64) m2) fun x3 m4 =>
  if x3 = 0 then (f12_item_b19 a1 a2 a3 m4)
  else (lu_bi (f12_whyNot a1 a2 m4) fun x5 m6 =>
  if x5 = 0 then (lu_gd (lu_ib a1 4) <|
  lu_bi (f12_in a3.toInt64 (0 : Int64) (((m6 13 a1.toNatClampNeg) - (1 : Int32)).toInt64) m6) fun x7 m8 =>
  if x7 = 0 then (f12_item_b73 a1 a2 a3 (-12 : Int32) m8)
  else (lu_gd (lu_ib (((40 : Int32) * a1) + a3) 160) <|
  f12_item_b73 a1 a2 a3 (m8 14 (((40 : Int32) * a1) + a3).toNatClampNeg) m8))
  else (f12_item_b73 a1 a2 a3 x5 m6)))
set_option maxRecDepth 20000 in
theorem c12_item (l : Launch)   (a1 : Int32) (a2 : Int32) (a3 : Int32) : lu_C lu_TM l yX12_item cX12_item 5 (some .int) 2 45 (fun ρ sa => [.ref (ρ 0), .int a1, .int a2, .int a3]) (f12_item a1 a2 a3) lu_RVi lu_sn := by
  refine lu_met (cls := RX12) rfl (by decide +kernel) (fun _ _ => Nat.le_of_ble_eq_true rfl) ?_
  intro G ρ m hl X hret
  subst hl
  change lu_Ab lu_TM G (lu_Q lu_TM G ρ lu_RVi lu_sn) (f12_item a1 a2 a3 m) 0 [(0, .ref (ρ 0)), (1, .int a1), (2, .int a2), (3, .int a3)] [] ρ 0 0 [] m
  unfold f12_item
  refine lu_iload_n X dX12_item_0 (pc2 := 1) rfl rfl 1 rfl ?_
  refine lu_invSi X (c12_isOne _ a1) rfl q1704 mvS_12_isOne rfl rfl (Nat.le_of_ble_eq_true rfl) (Nat.le_of_ble_eq_true rfl) (Nat.le_of_ble_eq_true rfl) ⟨Nat.zero_le _, Nat.zero_le _⟩ dX12_item_1 (pc2 := 4) rfl rfl (fun x1 m2 => ?_)
  refine lu_if_eq (tgt := 19) X dX12_item_4 (pc2 := 7) rfl (by decide) (fun _ => ?_) (fun _ => ?_)
  · exact lu_sub [] rfl (w12_item_b19 X hret m2)
  · refine lu_iload_n X dX12_item_7 (pc2 := 8) rfl rfl 2 rfl ?_
    refine lu_i2l X dX12_item_8 (pc2 := 9) rfl ?_
    refine lu_lconst (v := (0 : Int64)) X dX12_item_9 (pc2 := 10) rfl (by decide) ?_
    refine lu_ldc2 X q1382 dX12_item_10 (pc2 := 13) rfl ?_
    refine lu_invSi X (c12_in _ a2.toInt64 (0 : Int64) (4 : Int64)) rfl q1261 mvS_12_in rfl rfl (Nat.le_of_ble_eq_true rfl) (Nat.le_of_ble_eq_true rfl) (Nat.le_of_ble_eq_true rfl) ⟨Nat.zero_le _, Nat.zero_le _⟩ dX12_item_13 (pc2 := 16) rfl rfl (fun x3 m4 => ?_)
    refine lu_if_ne (tgt := 21) X dX12_item_16 (pc2 := 19) rfl (by decide) (fun _ => ?_) (fun _ => ?_)
    · refine lu_aload_n X dX12_item_21 (pc2 := 22) rfl rfl 0 rfl ?_
      refine lu_iload_n X dX12_item_22 (pc2 := 23) rfl rfl 1 rfl ?_
      refine lu_iload_n X dX12_item_23 (pc2 := 24) rfl rfl 2 rfl ?_
      refine lu_invVi X (c12_whyNot _ a1 a2) rfl q1719 mvV_12_whyNot kM_0 lM_0 (by decide) ⟨_, rfl, rfl⟩ rfl rfl (Nat.le_of_ble_eq_true rfl) (Nat.le_of_ble_eq_true rfl) (Nat.le_of_ble_eq_true rfl) ⟨Nat.zero_le _, Nat.zero_le _⟩ dX12_item_24 (pc2 := 27) rfl rfl (fun x5 m6 => ?_)
      refine lu_istore (lv2 := [(4, .int x5), (0, .ref (ρ 0)), (1, .int a1), (2, .int a2), (3, .int a3)]) X dX12_item_27 (pc2 := 29) rfl (by decide) rfl ?_
      refine lu_iload X dX12_item_29 (pc2 := 31) rfl 0 rfl ?_
      refine lu_if_eq (tgt := 39) X dX12_item_31 (pc2 := 34) rfl (by decide) (fun _ => ?_) (fun _ => ?_)
      · refine lu_iload_n X dX12_item_39 (pc2 := 40) rfl rfl 4 rfl ?_
        refine lu_i2l X dX12_item_40 (pc2 := 41) rfl ?_
        refine lu_lconst (v := (0 : Int64)) X dX12_item_41 (pc2 := 42) rfl (by decide) ?_
        refine lu_aload_n X dX12_item_42 (pc2 := 43) rfl rfl 1 rfl ?_
        refine lu_getr (r2 := 13) X rfl fl12_46 rfl kM_0 lM_0 dX12_item_43 (pc2 := 46) rfl ?_
        refine lu_iload_n X dX12_item_46 (pc2 := 47) rfl rfl 2 rfl ?_
        refine lu_iald X kM_13 lM_13 dX12_item_47 (pc2 := 48) rfl ?_
        refine lu_iconst X dX12_item_48 (pc2 := 49) rfl ic_1 ?_
        refine lu_isub X dX12_item_49 (pc2 := 50) rfl ?_
        refine lu_i2l X dX12_item_50 (pc2 := 51) rfl ?_
        refine lu_invSi X (c12_in _ a3.toInt64 (0 : Int64) (((m6 13 a1.toNatClampNeg) - (1 : Int32)).toInt64)) rfl q1261 mvS_12_in rfl rfl (Nat.le_of_ble_eq_true rfl) (Nat.le_of_ble_eq_true rfl) (Nat.le_of_ble_eq_true rfl) ⟨Nat.zero_le _, Nat.zero_le _⟩ dX12_item_51 (pc2 := 54) rfl rfl (fun x7 m8 => ?_)
        refine lu_if_eq (tgt := 71) X dX12_item_54 (pc2 := 57) rfl (by decide) (fun _ => ?_) (fun _ => ?_)
        · refine lu_bipush X dX12_item_71 (pc2 := 73) rfl bp_m12 ?_
          exact lu_sub [] rfl (w12_item_b73 X hret (-12 : Int32) m8)
        · refine lu_aload_n X dX12_item_57 (pc2 := 58) rfl rfl 1 rfl ?_
          refine lu_getr (r2 := 14) X rfl fl12_49 rfl kM_0 lM_0 dX12_item_58 (pc2 := 61) rfl ?_
          refine lu_bipush X dX12_item_61 (pc2 := 63) rfl bp_40 ?_
          refine lu_iload_n X dX12_item_63 (pc2 := 64) rfl rfl 2 rfl ?_
          refine lu_imul X dX12_item_64 (pc2 := 65) rfl ?_
          refine lu_iload_n X dX12_item_65 (pc2 := 66) rfl rfl 4 rfl ?_
          refine lu_iadd X dX12_item_66 (pc2 := 67) rfl ?_
          refine lu_iald X kM_14 lM_14 dX12_item_67 (pc2 := 68) rfl ?_
          refine lu_goto (tgt := 73) X dX12_item_68 (by decide) ?_
          exact lu_sub [] rfl (w12_item_b73 X hret (m8 14 (((40 : Int32) * a1) + a3).toNatClampNeg) m8)
      · refine lu_iload X dX12_item_34 (pc2 := 36) rfl 0 rfl ?_
        refine lu_goto (tgt := 73) X dX12_item_36 (by decide) ?_
        exact lu_sub [] rfl (w12_item_b73 X hret x5 m6)
    · exact lu_sub [] rfl (w12_item_b19 X hret m4)

theorem dX12_isItem_0 : decode cX12_isItem 0 = .ok (.lload_n 2, 1) := by decide +kernel
theorem dX12_isItem_1 : decode cX12_isItem 1 = .ok (.lconst 0, 1) := by decide +kernel
theorem dX12_isItem_2 : decode cX12_isItem 2 = .ok (.aload_n 0, 1) := by decide +kernel
theorem dX12_isItem_3 : decode cX12_isItem 3 = .ok (.getfield 46, 3) := by decide +kernel
theorem dX12_isItem_6 : decode cX12_isItem 6 = .ok (.iload_n 1, 1) := by decide +kernel
theorem dX12_isItem_7 : decode cX12_isItem 7 = .ok (.iaload, 1) := by decide +kernel
theorem dX12_isItem_8 : decode cX12_isItem 8 = .ok (.iconst 1, 1) := by decide +kernel
theorem dX12_isItem_9 : decode cX12_isItem 9 = .ok (.isub, 1) := by decide +kernel
theorem dX12_isItem_10 : decode cX12_isItem 10 = .ok (.i2l, 1) := by decide +kernel
theorem dX12_isItem_11 : decode cX12_isItem 11 = .ok (.invokestatic 64, 3) := by decide +kernel
theorem dX12_isItem_14 : decode cX12_isItem 14 = .ok (.ireturn, 1) := by decide +kernel
def f12_isItem (a1 : Int32) (a2 : Int64) (m : lu_M) : Option (Int32 × lu_M) :=
  lu_gd (lu_ib a1 4) <|
  lu_bi (f12_in a2 (0 : Int64) (((m 13 a1.toNatClampNeg) - (1 : Int32)).toInt64) m) fun x1 m2 =>
  lu_gd (decide (x1 = 0 ∨ x1 = 1)) (some (x1, m2))
set_option maxRecDepth 20000 in
theorem c12_isItem (l : Launch)   (a1 : Int32) (a2 : Int64) : lu_C lu_TM l yX12_isItem cX12_isItem 4 (some .boolean) 1 25 (fun ρ sa => [.ref (ρ 0), .int a1, .long a2]) (f12_isItem a1 a2) lu_RVi lu_sn := by
  refine lu_met (cls := RX12) rfl (by decide +kernel) (fun _ _ => Nat.le_of_ble_eq_true rfl) ?_
  intro G ρ m hl X hret
  subst hl
  change lu_Ab lu_TM G (lu_Q lu_TM G ρ lu_RVi lu_sn) (f12_isItem a1 a2 m) 0 [(0, .ref (ρ 0)), (1, .int a1), (2, .long a2)] [] ρ 0 0 [] m
  unfold f12_isItem
  refine lu_lload_n X dX12_isItem_0 (pc2 := 1) rfl rfl 2 rfl ?_
  refine lu_lconst (v := (0 : Int64)) X dX12_isItem_1 (pc2 := 2) rfl (by decide) ?_
  refine lu_aload_n X dX12_isItem_2 (pc2 := 3) rfl rfl 0 rfl ?_
  refine lu_getr (r2 := 13) X rfl fl12_46 rfl kM_0 lM_0 dX12_isItem_3 (pc2 := 6) rfl ?_
  refine lu_iload_n X dX12_isItem_6 (pc2 := 7) rfl rfl 1 rfl ?_
  refine lu_iald X kM_13 lM_13 dX12_isItem_7 (pc2 := 8) rfl ?_
  refine lu_iconst X dX12_isItem_8 (pc2 := 9) rfl ic_1 ?_
  refine lu_isub X dX12_isItem_9 (pc2 := 10) rfl ?_
  refine lu_i2l X dX12_isItem_10 (pc2 := 11) rfl ?_
  refine lu_invSi X (c12_in _ a2 (0 : Int64) (((m 13 a1.toNatClampNeg) - (1 : Int32)).toInt64)) rfl q1261 mvS_12_in rfl rfl (Nat.le_of_ble_eq_true rfl) (Nat.le_of_ble_eq_true rfl) (Nat.le_of_ble_eq_true rfl) ⟨Nat.zero_le _, Nat.zero_le _⟩ dX12_isItem_11 (pc2 := 14) rfl rfl (fun x1 m2 => ?_)
  exact lu_zretG X hret dX12_isItem_14

theorem dX12_isSpan_0 : decode cX12_isSpan 0 = .ok (.iload_n 1, 1) := by decide +kernel
theorem dX12_isSpan_1 : decode cX12_isSpan 1 = .ok (.invokestatic 397, 3) := by decide +kernel
theorem dX12_isSpan_4 : decode cX12_isSpan 4 = .ok (.ifCond .eq 19, 3) := by decide +kernel
theorem dX12_isSpan_7 : decode cX12_isSpan 7 = .ok (.iload_n 2, 1) := by decide +kernel
theorem dX12_isSpan_8 : decode cX12_isSpan 8 = .ok (.i2l, 1) := by decide +kernel
theorem dX12_isSpan_9 : decode cX12_isSpan 9 = .ok (.lconst 0, 1) := by decide +kernel
theorem dX12_isSpan_10 : decode cX12_isSpan 10 = .ok (.ldc2_w 408, 3) := by decide +kernel
theorem dX12_isSpan_13 : decode cX12_isSpan 13 = .ok (.invokestatic 64, 3) := by decide +kernel
theorem dX12_isSpan_16 : decode cX12_isSpan 16 = .ok (.ifCond .eq 7, 3) := by decide +kernel
theorem dX12_isSpan_19 : decode cX12_isSpan 19 = .ok (.iconst 1, 1) := by decide +kernel
theorem dX12_isSpan_20 : decode cX12_isSpan 20 = .ok (.goto 4, 3) := by decide +kernel
theorem dX12_isSpan_23 : decode cX12_isSpan 23 = .ok (.iconst 0, 1) := by decide +kernel
theorem dX12_isSpan_24 : decode cX12_isSpan 24 = .ok (.ireturn, 1) := by decide +kernel
def f12_isSpan_b24  (a1 : Int32) (a2 : Int32) (s0 : Int32) (m : lu_M) : Option (Int32 × lu_M) :=
  lu_gd (decide (s0 = 0 ∨ s0 = 1)) (some (s0, m))
set_option maxRecDepth 20000 in
theorem w12_isSpan_b24  {G : lu_G} {ρ : Nat → Nat} {a1 : Int32} {a2 : Int32}  (X : lu_X G RX12 cX12_isSpan 3 2 45) (hret : (lu_me G).sig.returnType = (some .boolean))   : ∀ (s0 : Int32) (m : lu_M), lu_Ab lu_TM G (lu_Q lu_TM G ρ lu_RVi lu_sn) (f12_isSpan_b24 a1 a2 s0 m) 24 [] [.int s0] ρ 0 0 [] m := by
  intro s0 m
  unfold f12_isSpan_b24
  exact lu_zretG X hret dX12_isSpan_24
def f12_isSpan_b23  (a1 : Int32) (a2 : Int32)  (m : lu_M) : Option (Int32 × lu_M) :=
  f12_isSpan_b24 a1 a2 (0 : Int32) m
set_option maxRecDepth 20000 in
theorem w12_isSpan_b23  {G : lu_G} {ρ : Nat → Nat} {a1 : Int32} {a2 : Int32}  (X : lu_X G RX12 cX12_isSpan 3 2 45) (hret : (lu_me G).sig.returnType = (some .boolean))   : ∀  (m : lu_M), lu_Ab lu_TM G (lu_Q lu_TM G ρ lu_RVi lu_sn) (f12_isSpan_b23 a1 a2 m) 23 [] [] ρ 0 0 [] m := by
  intro  m
  unfold f12_isSpan_b23
  refine lu_iconst X dX12_isSpan_23 (pc2 := 24) rfl ic_0 ?_
  exact w12_isSpan_b24 X hret (0 : Int32) m
def f12_isSpan (a1 : Int32) (a2 : Int32) (m : lu_M) : Option (Int32 × lu_M) :=
  lu_bi (f12_isOne a1 m) fun x1 m2 =>
  if x1 = 0 then (f12_isSpan_b23 a1 a2 m2)
  else (lu_bi (f12_in a2.toInt64 (0 : Int64) (20 : Int64) m2) fun x3 m4 =>
  if x3 = 0 then (f12_isSpan_b23 a1 a2 m4)
  else (f12_isSpan_b24 a1 a2 (1 : Int32) m4))
set_option maxRecDepth 20000 in
theorem c12_isSpan (l : Launch)   (a1 : Int32) (a2 : Int32) : lu_C lu_TM l yX12_isSpan cX12_isSpan 3 (some .boolean) 2 45 (fun ρ sa => [.ref (ρ 0), .int a1, .int a2]) (f12_isSpan a1 a2) lu_RVi lu_sn := by
  refine lu_met (cls := RX12) rfl (by decide +kernel) (fun _ _ => Nat.le_of_ble_eq_true rfl) ?_
  intro G ρ m hl X hret
  subst hl
  change lu_Ab lu_TM G (lu_Q lu_TM G ρ lu_RVi lu_sn) (f12_isSpan a1 a2 m) 0 [(0, .ref (ρ 0)), (1, .int a1), (2, .int a2)] [] ρ 0 0 [] m
  unfold f12_isSpan
  refine lu_iload_n X dX12_isSpan_0 (pc2 := 1) rfl rfl 1 rfl ?_
  refine lu_invSi X (c12_isOne _ a1) rfl q1704 mvS_12_isOne rfl rfl (Nat.le_of_ble_eq_true rfl) (Nat.le_of_ble_eq_true rfl) (Nat.le_of_ble_eq_true rfl) ⟨Nat.zero_le _, Nat.zero_le _⟩ dX12_isSpan_1 (pc2 := 4) rfl rfl (fun x1 m2 => ?_)
  refine lu_if_eq (tgt := 23) X dX12_isSpan_4 (pc2 := 7) rfl (by decide) (fun _ => ?_) (fun _ => ?_)
  · exact lu_sub [] rfl (w12_isSpan_b23 X hret m2)
  · refine lu_iload_n X dX12_isSpan_7 (pc2 := 8) rfl rfl 2 rfl ?_
    refine lu_i2l X dX12_isSpan_8 (pc2 := 9) rfl ?_
    refine lu_lconst (v := (0 : Int64)) X dX12_isSpan_9 (pc2 := 10) rfl (by decide) ?_
    refine lu_ldc2 X q1731 dX12_isSpan_10 (pc2 := 13) rfl ?_
    refine lu_invSi X (c12_in _ a2.toInt64 (0 : Int64) (20 : Int64)) rfl q1261 mvS_12_in rfl rfl (Nat.le_of_ble_eq_true rfl) (Nat.le_of_ble_eq_true rfl) (Nat.le_of_ble_eq_true rfl) ⟨Nat.zero_le _, Nat.zero_le _⟩ dX12_isSpan_13 (pc2 := 16) rfl rfl (fun x3 m4 => ?_)
    refine lu_if_eq (tgt := 23) X dX12_isSpan_16 (pc2 := 19) rfl (by decide) (fun _ => ?_) (fun _ => ?_)
    · exact lu_sub [] rfl (w12_isSpan_b23 X hret m4)
    · refine lu_iconst X dX12_isSpan_19 (pc2 := 20) rfl ic_1 ?_
      refine lu_goto (tgt := 24) X dX12_isSpan_20 (by decide) ?_
      exact lu_sub [] rfl (w12_isSpan_b24 X hret (1 : Int32) m4)

theorem dX12_goAll_0 : decode cX12_goAll 0 = .ok (.aload_n 0, 1) := by decide +kernel
theorem dX12_goAll_1 : decode cX12_goAll 1 = .ok (.iload_n 1, 1) := by decide +kernel
theorem dX12_goAll_2 : decode cX12_goAll 2 = .ok (.iload_n 3, 1) := by decide +kernel
theorem dX12_goAll_3 : decode cX12_goAll 3 = .ok (.invokevirtual 410, 3) := by decide +kernel
theorem dX12_goAll_6 : decode cX12_goAll 6 = .ok (.ifCond .ne 5, 3) := by decide +kernel
theorem dX12_goAll_9 : decode cX12_goAll 9 = .ok (.iconst (-1), 1) := by decide +kernel
theorem dX12_goAll_10 : decode cX12_goAll 10 = .ok (.ireturn, 1) := by decide +kernel
theorem dX12_goAll_11 : decode cX12_goAll 11 = .ok (.aload_n 0, 1) := by decide +kernel
theorem dX12_goAll_12 : decode cX12_goAll 12 = .ok (.iload_n 1, 1) := by decide +kernel
theorem dX12_goAll_13 : decode cX12_goAll 13 = .ok (.iconst 0, 1) := by decide +kernel
theorem dX12_goAll_14 : decode cX12_goAll 14 = .ok (.invokevirtual 405, 3) := by decide +kernel
theorem dX12_goAll_17 : decode cX12_goAll 17 = .ok (.istore 4, 2) := by decide +kernel
theorem dX12_goAll_19 : decode cX12_goAll 19 = .ok (.iload 4, 2) := by decide +kernel
theorem dX12_goAll_21 : decode cX12_goAll 21 = .ok (.ifCond .eq 6, 3) := by decide +kernel
theorem dX12_goAll_24 : decode cX12_goAll 24 = .ok (.iload 4, 2) := by decide +kernel
theorem dX12_goAll_26 : decode cX12_goAll 26 = .ok (.ireturn, 1) := by decide +kernel
theorem dX12_goAll_27 : decode cX12_goAll 27 = .ok (.iconst 0, 1) := by decide +kernel
theorem dX12_goAll_28 : decode cX12_goAll 28 = .ok (.istore 5, 2) := by decide +kernel
theorem dX12_goAll_30 : decode cX12_goAll 30 = .ok (.iconst 0, 1) := by decide +kernel
theorem dX12_goAll_31 : decode cX12_goAll 31 = .ok (.istore 6, 2) := by decide +kernel
theorem dX12_goAll_33 : decode cX12_goAll 33 = .ok (.iload 6, 2) := by decide +kernel
theorem dX12_goAll_35 : decode cX12_goAll 35 = .ok (.iload_n 3, 1) := by decide +kernel
theorem dX12_goAll_36 : decode cX12_goAll 36 = .ok (.if_icmp .ge 66, 3) := by decide +kernel
theorem dX12_goAll_39 : decode cX12_goAll 39 = .ok (.aload_n 0, 1) := by decide +kernel
theorem dX12_goAll_40 : decode cX12_goAll 40 = .ok (.iload_n 1, 1) := by decide +kernel
theorem dX12_goAll_41 : decode cX12_goAll 41 = .ok (.iload_n 2, 1) := by decide +kernel
theorem dX12_goAll_42 : decode cX12_goAll 42 = .ok (.i2l, 1) := by decide +kernel
theorem dX12_goAll_43 : decode cX12_goAll 43 = .ok (.iload 6, 2) := by decide +kernel
theorem dX12_goAll_45 : decode cX12_goAll 45 = .ok (.i2l, 1) := by decide +kernel
theorem dX12_goAll_46 : decode cX12_goAll 46 = .ok (.ladd, 1) := by decide +kernel
theorem dX12_goAll_47 : decode cX12_goAll 47 = .ok (.invokevirtual 413, 3) := by decide +kernel
theorem dX12_goAll_50 : decode cX12_goAll 50 = .ok (.ifCond .ne 6, 3) := by decide +kernel
theorem dX12_goAll_53 : decode cX12_goAll 53 = .ok (.bipush (-12), 2) := by decide +kernel
theorem dX12_goAll_55 : decode cX12_goAll 55 = .ok (.ireturn, 1) := by decide +kernel
theorem dX12_goAll_56 : decode cX12_goAll 56 = .ok (.aload_n 0, 1) := by decide +kernel
theorem dX12_goAll_57 : decode cX12_goAll 57 = .ok (.getfield 49, 3) := by decide +kernel
theorem dX12_goAll_60 : decode cX12_goAll 60 = .ok (.bipush 40, 2) := by decide +kernel
theorem dX12_goAll_62 : decode cX12_goAll 62 = .ok (.iload_n 1, 1) := by decide +kernel
theorem dX12_goAll_63 : decode cX12_goAll 63 = .ok (.imul, 1) := by decide +kernel
theorem dX12_goAll_64 : decode cX12_goAll 64 = .ok (.iload_n 2, 1) := by decide +kernel
theorem dX12_goAll_65 : decode cX12_goAll 65 = .ok (.iadd, 1) := by decide +kernel
theorem dX12_goAll_66 : decode cX12_goAll 66 = .ok (.iload 6, 2) := by decide +kernel
theorem dX12_goAll_68 : decode cX12_goAll 68 = .ok (.iadd, 1) := by decide +kernel
theorem dX12_goAll_69 : decode cX12_goAll 69 = .ok (.iaload, 1) := by decide +kernel
theorem dX12_goAll_70 : decode cX12_goAll 70 = .ok (.istore 7, 2) := by decide +kernel
theorem dX12_goAll_72 : decode cX12_goAll 72 = .ok (.iload 5, 2) := by decide +kernel
theorem dX12_goAll_74 : decode cX12_goAll 74 = .ok (.aload_n 0, 1) := by decide +kernel
theorem dX12_goAll_75 : decode cX12_goAll 75 = .ok (.iload 7, 2) := by decide +kernel
theorem dX12_goAll_77 : decode cX12_goAll 77 = .ok (.invokevirtual 270, 3) := by decide +kernel
theorem dX12_goAll_80 : decode cX12_goAll 80 = .ok (.ifCond .eq 12, 3) := by decide +kernel
theorem dX12_goAll_83 : decode cX12_goAll 83 = .ok (.aload_n 0, 1) := by decide +kernel
theorem dX12_goAll_84 : decode cX12_goAll 84 = .ok (.iload 7, 2) := by decide +kernel
theorem dX12_goAll_86 : decode cX12_goAll 86 = .ok (.invokevirtual 146, 3) := by decide +kernel
theorem dX12_goAll_89 : decode cX12_goAll 89 = .ok (.goto 4, 3) := by decide +kernel
theorem dX12_goAll_92 : decode cX12_goAll 92 = .ok (.iconst 0, 1) := by decide +kernel
theorem dX12_goAll_93 : decode cX12_goAll 93 = .ok (.iadd, 1) := by decide +kernel
theorem dX12_goAll_94 : decode cX12_goAll 94 = .ok (.istore 5, 2) := by decide +kernel
theorem dX12_goAll_96 : decode cX12_goAll 96 = .ok (.iinc 6 1, 3) := by decide +kernel
theorem dX12_goAll_99 : decode cX12_goAll 99 = .ok (.goto (-66), 3) := by decide +kernel
theorem dX12_goAll_102 : decode cX12_goAll 102 = .ok (.iload 5, 2) := by decide +kernel
theorem dX12_goAll_104 : decode cX12_goAll 104 = .ok (.ireturn, 1) := by decide +kernel
def f12_goAll_b93 (K33 : Int32 → Int32 → lu_M → Option (Int32 × lu_M)) (K102 : Int32 → lu_M → Option (Int32 × lu_M)) (a1 : Int32) (a2 : Int32) (a3 : Int32) (v6 : Int32) (s0 : Int32) (s1 : Int32) (m : lu_M) : Option (Int32 × lu_M) :=
  lu_nm ((s1 + s0)) fun x10 =>
  K33 x10 (v6 + (1 : Int32)) m
set_option maxRecDepth 20000 in
theorem w12_goAll_b93  {G : lu_G} {ρ : Nat → Nat} {a1 : Int32} {a2 : Int32} {a3 : Int32} {K33 : Int32 → Int32 → lu_M → Option (Int32 × lu_M)} {K102 : Int32 → lu_M → Option (Int32 × lu_M)} (X : lu_X G RX12 cX12_goAll 8 7 168) (hret : (lu_me G).sig.returnType = (some .int))  (hK33 : ∀ (v5 : Int32) (v6 : Int32) (m : lu_M), lu_Ab lu_TM G (lu_Q lu_TM G ρ lu_RVi lu_sn) (K33 v5 v6 m) 33 [(0, .ref (ρ 0)), (1, .int a1), (2, .int a2), (3, .int a3), (5, .int v5), (6, .int v6)] [] ρ 0 0 [] m) (hK102 : ∀ (v5 : Int32) (m : lu_M), lu_Ab lu_TM G (lu_Q lu_TM G ρ lu_RVi lu_sn) (K102 v5 m) 102 [(5, .int v5)] [] ρ 0 0 [] m) : ∀ (v6 : Int32) (s0 : Int32) (s1 : Int32) (m : lu_M), lu_Ab lu_TM G (lu_Q lu_TM G ρ lu_RVi lu_sn) (f12_goAll_b93 K33 K102 a1 a2 a3 v6 s0 s1 m) 93 [(0, .ref (ρ 0)), (1, .int a1), (2, .int a2), (3, .int a3), (6, .int v6)] [.int s0, .int s1] ρ 0 0 [] m := by
  intro v6 s0 s1 m
  unfold f12_goAll_b93
  refine lu_iadd X dX12_goAll_93 (pc2 := 94) rfl ?_
  refine lu_topi (fun x10 => ?_)
  refine lu_istore (lv2 := [(5, .int x10), (0, .ref (ρ 0)), (1, .int a1), (2, .int a2), (3, .int a3), (6, .int v6)]) X dX12_goAll_94 (pc2 := 96) rfl (by decide) rfl ?_
  refine lu_iinc (lv2 := [(6, .int (v6 + (1 : Int32))), (5, .int x10), (0, .ref (ρ 0)), (1, .int a1), (2, .int a2), (3, .int a3)]) X dX12_goAll_96 (pc2 := 99) rfl 5 rfl (lu_ii _ ic_1) (by decide) rfl ?_
  refine lu_goto (tgt := 33) X dX12_goAll_99 (by decide) ?_
  exact lu_sub [2, 3, 4, 5, 1, 0] rfl (hK33 x10 (v6 + (1 : Int32)) m)
def f12_goAll_b33B (K53 : lu_M → Option (Int32 × lu_M)) (K102 : Int32 → lu_M → Option (Int32 × lu_M)) (rec : Int32 → Int32 → lu_M → Option (Int32 × lu_M)) (a1 : Int32) (a2 : Int32) (a3 : Int32) (v5 : Int32) (v6 : Int32) (m : lu_M) : Option (Int32 × lu_M) :=
  if a3 ≤ v6 then (K102 v5 m)
  else (lu_bi (f12_isItem a1 (a2.toInt64 + v6.toInt64) m) fun x5 m6 =>
  if x5 = 0 then (K53 m6)
  else (lu_gd (lu_ib ((((40 : Int32) * a1) + a2) + v6) 160) <|
  lu_nm ((m6 14 ((((40 : Int32) * a1) + a2) + v6).toNatClampNeg)) fun x7 =>
  lu_bi (f12_isAct x7 m6) fun x8 m9 =>
  if x8 = 0 then (f12_goAll_b93 rec K102 a1 a2 a3 v6 (0 : Int32) v5 m9)
  else (lu_bi (f12_goes x7 m9) fun x11 m12 =>
  f12_goAll_b93 rec K102 a1 a2 a3 v6 x11 v5 m12)))
def f12_goAll_b33 (K53 : lu_M → Option (Int32 × lu_M)) (K102 : Int32 → lu_M → Option (Int32 × lu_M)) (a1 : Int32) (a2 : Int32) (a3 : Int32) : Nat → Int32 → Int32 → lu_M → Option (Int32 × lu_M)
  | 0, _, _, _ => none
  | n + 1, v5, v6, m => f12_goAll_b33B K53 K102 (f12_goAll_b33 K53 K102 a1 a2 a3 n) a1 a2 a3 v5 v6 m
set_option maxRecDepth 20000 in
theorem w12_goAll_b33B  {G : lu_G} {ρ : Nat → Nat} {a1 : Int32} {a2 : Int32} {a3 : Int32} {K53 : lu_M → Option (Int32 × lu_M)} {K102 : Int32 → lu_M → Option (Int32 × lu_M)} {rec : Int32 → Int32 → lu_M → Option (Int32 × lu_M)} (X : lu_X G RX12 cX12_goAll 8 7 168) (hret : (lu_me G).sig.returnType = (some .int))  (hK53 : ∀  (m : lu_M), lu_Ab lu_TM G (lu_Q lu_TM G ρ lu_RVi lu_sn) (K53 m) 53 [] [] ρ 0 0 [] m) (hK102 : ∀ (v5 : Int32) (m : lu_M), lu_Ab lu_TM G (lu_Q lu_TM G ρ lu_RVi lu_sn) (K102 v5 m) 102 [(5, .int v5)] [] ρ 0 0 [] m) (hrec : ∀ (v5 : Int32) (v6 : Int32) (m : lu_M), lu_Ab lu_TM G (lu_Q lu_TM G ρ lu_RVi lu_sn) (rec v5 v6 m) 33 [(0, .ref (ρ 0)), (1, .int a1), (2, .int a2), (3, .int a3), (5, .int v5), (6, .int v6)] [] ρ 0 0 [] m) : ∀ (v5 : Int32) (v6 : Int32) (m : lu_M), lu_Ab lu_TM G (lu_Q lu_TM G ρ lu_RVi lu_sn) (f12_goAll_b33B K53 K102 rec a1 a2 a3 v5 v6 m) 33 [(0, .ref (ρ 0)), (1, .int a1), (2, .int a2), (3, .int a3), (5, .int v5), (6, .int v6)] [] ρ 0 0 [] m := by
  intro v5 v6 m
  unfold f12_goAll_b33B
  refine lu_iload X dX12_goAll_33 (pc2 := 35) rfl 5 rfl ?_
  refine lu_iload_n X dX12_goAll_35 (pc2 := 36) rfl rfl 3 rfl ?_
  refine lu_icmp_ge (tgt := 102) X dX12_goAll_36 (pc2 := 39) rfl (by decide) (fun _ => ?_) (fun _ => ?_)
  · exact lu_sub [4] rfl (hK102 v5 m)
  · refine lu_aload_n X dX12_goAll_39 (pc2 := 40) rfl rfl 0 rfl ?_
    refine lu_iload_n X dX12_goAll_40 (pc2 := 41) rfl rfl 1 rfl ?_
    refine lu_iload_n X dX12_goAll_41 (pc2 := 42) rfl rfl 2 rfl ?_
    refine lu_i2l X dX12_goAll_42 (pc2 := 43) rfl ?_
    refine lu_iload X dX12_goAll_43 (pc2 := 45) rfl 5 rfl ?_
    refine lu_i2l X dX12_goAll_45 (pc2 := 46) rfl ?_
    refine lu_ladd X dX12_goAll_46 (pc2 := 47) rfl ?_
    refine lu_invVi X (c12_isItem _ a1 (a2.toInt64 + v6.toInt64)) rfl q1732 mvV_12_isItem kM_0 lM_0 (by decide) ⟨_, rfl, rfl⟩ rfl rfl (Nat.le_of_ble_eq_true rfl) (Nat.le_of_ble_eq_true rfl) (Nat.le_of_ble_eq_true rfl) ⟨Nat.zero_le _, Nat.zero_le _⟩ dX12_goAll_47 (pc2 := 50) rfl rfl (fun x5 m6 => ?_)
    refine lu_if_ne (tgt := 56) X dX12_goAll_50 (pc2 := 53) rfl (by decide) (fun _ => ?_) (fun _ => ?_)
    · refine lu_aload_n X dX12_goAll_56 (pc2 := 57) rfl rfl 0 rfl ?_
      refine lu_getr (r2 := 14) X rfl fl12_49 rfl kM_0 lM_0 dX12_goAll_57 (pc2 := 60) rfl ?_
      refine lu_bipush X dX12_goAll_60 (pc2 := 62) rfl bp_40 ?_
      refine lu_iload_n X dX12_goAll_62 (pc2 := 63) rfl rfl 1 rfl ?_
      refine lu_imul X dX12_goAll_63 (pc2 := 64) rfl ?_
      refine lu_iload_n X dX12_goAll_64 (pc2 := 65) rfl rfl 2 rfl ?_
      refine lu_iadd X dX12_goAll_65 (pc2 := 66) rfl ?_
      refine lu_iload X dX12_goAll_66 (pc2 := 68) rfl 5 rfl ?_
      refine lu_iadd X dX12_goAll_68 (pc2 := 69) rfl ?_
      refine lu_iald X kM_14 lM_14 dX12_goAll_69 (pc2 := 70) rfl ?_
      refine lu_topi (fun x7 => ?_)
      refine lu_istore (lv2 := [(7, .int x7), (0, .ref (ρ 0)), (1, .int a1), (2, .int a2), (3, .int a3), (5, .int v5), (6, .int v6)]) X dX12_goAll_70 (pc2 := 72) rfl (by decide) rfl ?_
      refine lu_iload X dX12_goAll_72 (pc2 := 74) rfl 5 rfl ?_
      refine lu_aload_n X dX12_goAll_74 (pc2 := 75) rfl rfl 1 rfl ?_
      refine lu_iload X dX12_goAll_75 (pc2 := 77) rfl 0 rfl ?_
      refine lu_invVi X (c12_isAct _ x7) rfl q1600 mvV_12_isAct kM_0 lM_0 (by decide) ⟨_, rfl, rfl⟩ rfl rfl (Nat.le_of_ble_eq_true rfl) (Nat.le_of_ble_eq_true rfl) (Nat.le_of_ble_eq_true rfl) ⟨Nat.zero_le _, Nat.zero_le _⟩ dX12_goAll_77 (pc2 := 80) rfl rfl (fun x8 m9 => ?_)
      refine lu_if_eq (tgt := 92) X dX12_goAll_80 (pc2 := 83) rfl (by decide) (fun _ => ?_) (fun _ => ?_)
      · refine lu_iconst X dX12_goAll_92 (pc2 := 93) rfl ic_0 ?_
        exact lu_sub [1, 2, 3, 4, 6] rfl (w12_goAll_b93 X hret hrec hK102 v6 (0 : Int32) v5 m9)
      · refine lu_aload_n X dX12_goAll_83 (pc2 := 84) rfl rfl 1 rfl ?_
        refine lu_iload X dX12_goAll_84 (pc2 := 86) rfl 0 rfl ?_
        refine lu_invVi X (c12_goes _ x7) rfl q1370 mvV_12_goes kM_0 lM_0 (by decide) ⟨_, rfl, rfl⟩ rfl rfl (Nat.le_of_ble_eq_true rfl) (Nat.le_of_ble_eq_true rfl) (Nat.le_of_ble_eq_true rfl) ⟨Nat.zero_le _, Nat.zero_le _⟩ dX12_goAll_86 (pc2 := 89) rfl rfl (fun x11 m12 => ?_)
        refine lu_goto (tgt := 93) X dX12_goAll_89 (by decide) ?_
        exact lu_sub [1, 2, 3, 4, 6] rfl (w12_goAll_b93 X hret hrec hK102 v6 x11 v5 m12)
    · exact lu_sub [] rfl (hK53 m6)
theorem w12_goAll_b33  {G : lu_G} {ρ : Nat → Nat} {a1 : Int32} {a2 : Int32} {a3 : Int32} {K53 : lu_M → Option (Int32 × lu_M)} {K102 : Int32 → lu_M → Option (Int32 × lu_M)} (X : lu_X G RX12 cX12_goAll 8 7 168) (hret : (lu_me G).sig.returnType = (some .int))  (hK53 : ∀  (m : lu_M), lu_Ab lu_TM G (lu_Q lu_TM G ρ lu_RVi lu_sn) (K53 m) 53 [] [] ρ 0 0 [] m) (hK102 : ∀ (v5 : Int32) (m : lu_M), lu_Ab lu_TM G (lu_Q lu_TM G ρ lu_RVi lu_sn) (K102 v5 m) 102 [(5, .int v5)] [] ρ 0 0 [] m) : ∀ (n : Nat) (v5 : Int32) (v6 : Int32) (m : lu_M), lu_Ab lu_TM G (lu_Q lu_TM G ρ lu_RVi lu_sn) (f12_goAll_b33 K53 K102 a1 a2 a3 n v5 v6 m) 33 [(0, .ref (ρ 0)), (1, .int a1), (2, .int a2), (3, .int a3), (5, .int v5), (6, .int v6)] [] ρ 0 0 [] m := by
  intro n
  induction n with
  | zero => intro v5 v6 m; exact lu_none
  | succ n ih => intro v5 v6 m; exact w12_goAll_b33B X hret hK53 hK102 ih v5 v6 m
def f12_goAll_b53  (a1 : Int32) (a2 : Int32) (a3 : Int32)  (m : lu_M) : Option (Int32 × lu_M) :=
  some ((-12 : Int32), m)
set_option maxRecDepth 20000 in
theorem w12_goAll_b53  {G : lu_G} {ρ : Nat → Nat} {a1 : Int32} {a2 : Int32} {a3 : Int32}  (X : lu_X G RX12 cX12_goAll 8 7 168) (hret : (lu_me G).sig.returnType = (some .int))   : ∀  (m : lu_M), lu_Ab lu_TM G (lu_Q lu_TM G ρ lu_RVi lu_sn) (f12_goAll_b53 a1 a2 a3 m) 53 [] [] ρ 0 0 [] m := by
  intro  m
  unfold f12_goAll_b53
  refine lu_bipush X dX12_goAll_53 (pc2 := 55) rfl bp_m12 ?_
  exact lu_iret X hret dX12_goAll_55
def f12_goAll_b102  (a1 : Int32) (a2 : Int32) (a3 : Int32) (v5 : Int32) (m : lu_M) : Option (Int32 × lu_M) :=
  some (v5, m)
set_option maxRecDepth 20000 in
theorem w12_goAll_b102  {G : lu_G} {ρ : Nat → Nat} {a1 : Int32} {a2 : Int32} {a3 : Int32}  (X : lu_X G RX12 cX12_goAll 8 7 168) (hret : (lu_me G).sig.returnType = (some .int))   : ∀ (v5 : Int32) (m : lu_M), lu_Ab lu_TM G (lu_Q lu_TM G ρ lu_RVi lu_sn) (f12_goAll_b102 a1 a2 a3 v5 m) 102 [(5, .int v5)] [] ρ 0 0 [] m := by
  intro v5 m
  unfold f12_goAll_b102
  refine lu_iload X dX12_goAll_102 (pc2 := 104) rfl 0 rfl ?_
  exact lu_iret X hret dX12_goAll_104
def f12_goAll (a1 : Int32) (a2 : Int32) (a3 : Int32) (m : lu_M) : Option (Int32 × lu_M) :=
  lu_bi (f12_isSpan a1 a3 m) fun x1 m2 =>
  if x1 = 0 then (some ((-1 : Int32), m2))
  else (lu_bi (f12_whyNot a1 (0 : Int32) m2) fun x3 m4 =>
  if x3 = 0 then (f12_goAll_b33 (f12_goAll_b53 a1 a2 a3) (f12_goAll_b102 a1 a2 a3) a1 a2 a3 lu_fu (0 : Int32) (0 : Int32) m4)
  else (some (x3, m4)))
set_option maxRecDepth 20000 in
theorem c12_goAll (l : Launch)   (a1 : Int32) (a2 : Int32) (a3 : Int32) : lu_C lu_TM l yX12_goAll cX12_goAll 8 (some .int) 7 168 (fun ρ sa => [.ref (ρ 0), .int a1, .int a2, .int a3]) (f12_goAll a1 a2 a3) lu_RVi lu_sn := by
  refine lu_met (cls := RX12) rfl (by decide +kernel) (fun _ _ => Nat.le_of_ble_eq_true rfl) ?_
  intro G ρ m hl X hret
  subst hl
  change lu_Ab lu_TM G (lu_Q lu_TM G ρ lu_RVi lu_sn) (f12_goAll a1 a2 a3 m) 0 [(0, .ref (ρ 0)), (1, .int a1), (2, .int a2), (3, .int a3)] [] ρ 0 0 [] m
  unfold f12_goAll
  refine lu_aload_n X dX12_goAll_0 (pc2 := 1) rfl rfl 0 rfl ?_
  refine lu_iload_n X dX12_goAll_1 (pc2 := 2) rfl rfl 1 rfl ?_
  refine lu_iload_n X dX12_goAll_2 (pc2 := 3) rfl rfl 3 rfl ?_
  refine lu_invVi X (c12_isSpan _ a1 a3) rfl q1727 mvV_12_isSpan kM_0 lM_0 (by decide) ⟨_, rfl, rfl⟩ rfl rfl (Nat.le_of_ble_eq_true rfl) (Nat.le_of_ble_eq_true rfl) (Nat.le_of_ble_eq_true rfl) ⟨Nat.zero_le _, Nat.zero_le _⟩ dX12_goAll_3 (pc2 := 6) rfl rfl (fun x1 m2 => ?_)
  refine lu_if_ne (tgt := 11) X dX12_goAll_6 (pc2 := 9) rfl (by decide) (fun _ => ?_) (fun _ => ?_)
  · refine lu_aload_n X dX12_goAll_11 (pc2 := 12) rfl rfl 0 rfl ?_
    refine lu_iload_n X dX12_goAll_12 (pc2 := 13) rfl rfl 1 rfl ?_
    refine lu_iconst X dX12_goAll_13 (pc2 := 14) rfl ic_0 ?_
    refine lu_invVi X (c12_whyNot _ a1 (0 : Int32)) rfl q1719 mvV_12_whyNot kM_0 lM_0 (by decide) ⟨_, rfl, rfl⟩ rfl rfl (Nat.le_of_ble_eq_true rfl) (Nat.le_of_ble_eq_true rfl) (Nat.le_of_ble_eq_true rfl) ⟨Nat.zero_le _, Nat.zero_le _⟩ dX12_goAll_14 (pc2 := 17) rfl rfl (fun x3 m4 => ?_)
    refine lu_istore (lv2 := [(4, .int x3), (0, .ref (ρ 0)), (1, .int a1), (2, .int a2), (3, .int a3)]) X dX12_goAll_17 (pc2 := 19) rfl (by decide) rfl ?_
    refine lu_iload X dX12_goAll_19 (pc2 := 21) rfl 0 rfl ?_
    refine lu_if_eq (tgt := 27) X dX12_goAll_21 (pc2 := 24) rfl (by decide) (fun _ => ?_) (fun _ => ?_)
    · refine lu_iconst X dX12_goAll_27 (pc2 := 28) rfl ic_0 ?_
      refine lu_istore (lv2 := [(5, .int (0 : Int32)), (4, .int x3), (0, .ref (ρ 0)), (1, .int a1), (2, .int a2), (3, .int a3)]) X dX12_goAll_28 (pc2 := 30) rfl (by decide) rfl ?_
      refine lu_iconst X dX12_goAll_30 (pc2 := 31) rfl ic_0 ?_
      refine lu_istore (lv2 := [(6, .int (0 : Int32)), (5, .int (0 : Int32)), (4, .int x3), (0, .ref (ρ 0)), (1, .int a1), (2, .int a2), (3, .int a3)]) X dX12_goAll_31 (pc2 := 33) rfl (by decide) rfl ?_
      exact lu_sub [3, 4, 5, 6, 1, 0] rfl (w12_goAll_b33 X hret (w12_goAll_b53 X hret) (w12_goAll_b102 X hret) lu_fu (0 : Int32) (0 : Int32) m4)
    · refine lu_iload X dX12_goAll_24 (pc2 := 26) rfl 0 rfl ?_
      exact lu_iret X hret dX12_goAll_26
  · refine lu_iconst X dX12_goAll_9 (pc2 := 10) rfl ic_m1 ?_
    exact lu_iret X hret dX12_goAll_10

theorem dX12_wouldBe_0 : decode cX12_wouldBe 0 = .ok (.aload_n 0, 1) := by decide +kernel
theorem dX12_wouldBe_1 : decode cX12_wouldBe 1 = .ok (.iload_n 1, 1) := by decide +kernel
theorem dX12_wouldBe_2 : decode cX12_wouldBe 2 = .ok (.iload_n 3, 1) := by decide +kernel
theorem dX12_wouldBe_3 : decode cX12_wouldBe 3 = .ok (.invokevirtual 410, 3) := by decide +kernel
theorem dX12_wouldBe_6 : decode cX12_wouldBe 6 = .ok (.ifCond .ne 5, 3) := by decide +kernel
theorem dX12_wouldBe_9 : decode cX12_wouldBe 9 = .ok (.iconst (-1), 1) := by decide +kernel
theorem dX12_wouldBe_10 : decode cX12_wouldBe 10 = .ok (.ireturn, 1) := by decide +kernel
theorem dX12_wouldBe_11 : decode cX12_wouldBe 11 = .ok (.aload_n 0, 1) := by decide +kernel
theorem dX12_wouldBe_12 : decode cX12_wouldBe 12 = .ok (.iload_n 1, 1) := by decide +kernel
theorem dX12_wouldBe_13 : decode cX12_wouldBe 13 = .ok (.iconst 0, 1) := by decide +kernel
theorem dX12_wouldBe_14 : decode cX12_wouldBe 14 = .ok (.invokevirtual 405, 3) := by decide +kernel
theorem dX12_wouldBe_17 : decode cX12_wouldBe 17 = .ok (.istore 4, 2) := by decide +kernel
theorem dX12_wouldBe_19 : decode cX12_wouldBe 19 = .ok (.iload 4, 2) := by decide +kernel
theorem dX12_wouldBe_21 : decode cX12_wouldBe 21 = .ok (.ifCond .eq 6, 3) := by decide +kernel
theorem dX12_wouldBe_24 : decode cX12_wouldBe 24 = .ok (.iload 4, 2) := by decide +kernel
theorem dX12_wouldBe_26 : decode cX12_wouldBe 26 = .ok (.ireturn, 1) := by decide +kernel
theorem dX12_wouldBe_27 : decode cX12_wouldBe 27 = .ok (.aload_n 0, 1) := by decide +kernel
theorem dX12_wouldBe_28 : decode cX12_wouldBe 28 = .ok (.invokevirtual 154, 3) := by decide +kernel
theorem dX12_wouldBe_31 : decode cX12_wouldBe 31 = .ok (.iconst 0, 1) := by decide +kernel
theorem dX12_wouldBe_32 : decode cX12_wouldBe 32 = .ok (.istore 5, 2) := by decide +kernel
theorem dX12_wouldBe_34 : decode cX12_wouldBe 34 = .ok (.iconst 0, 1) := by decide +kernel
theorem dX12_wouldBe_35 : decode cX12_wouldBe 35 = .ok (.istore 6, 2) := by decide +kernel
theorem dX12_wouldBe_37 : decode cX12_wouldBe 37 = .ok (.iload 6, 2) := by decide +kernel
theorem dX12_wouldBe_39 : decode cX12_wouldBe 39 = .ok (.iload_n 3, 1) := by decide +kernel
theorem dX12_wouldBe_40 : decode cX12_wouldBe 40 = .ok (.if_icmp .ge 98, 3) := by decide +kernel
theorem dX12_wouldBe_43 : decode cX12_wouldBe 43 = .ok (.iload 4, 2) := by decide +kernel
theorem dX12_wouldBe_45 : decode cX12_wouldBe 45 = .ok (.ifCond .ne 93, 3) := by decide +kernel
theorem dX12_wouldBe_48 : decode cX12_wouldBe 48 = .ok (.aload_n 0, 1) := by decide +kernel
theorem dX12_wouldBe_49 : decode cX12_wouldBe 49 = .ok (.iload_n 1, 1) := by decide +kernel
theorem dX12_wouldBe_50 : decode cX12_wouldBe 50 = .ok (.iload_n 2, 1) := by decide +kernel
theorem dX12_wouldBe_51 : decode cX12_wouldBe 51 = .ok (.i2l, 1) := by decide +kernel
theorem dX12_wouldBe_52 : decode cX12_wouldBe 52 = .ok (.iload 6, 2) := by decide +kernel
theorem dX12_wouldBe_54 : decode cX12_wouldBe 54 = .ok (.i2l, 1) := by decide +kernel
theorem dX12_wouldBe_55 : decode cX12_wouldBe 55 = .ok (.ladd, 1) := by decide +kernel
theorem dX12_wouldBe_56 : decode cX12_wouldBe 56 = .ok (.invokevirtual 413, 3) := by decide +kernel
theorem dX12_wouldBe_59 : decode cX12_wouldBe 59 = .ok (.istore 7, 2) := by decide +kernel
theorem dX12_wouldBe_61 : decode cX12_wouldBe 61 = .ok (.iload 7, 2) := by decide +kernel
theorem dX12_wouldBe_63 : decode cX12_wouldBe 63 = .ok (.ifCond .ne 8, 3) := by decide +kernel
theorem dX12_wouldBe_66 : decode cX12_wouldBe 66 = .ok (.bipush (-12), 2) := by decide +kernel
theorem dX12_wouldBe_68 : decode cX12_wouldBe 68 = .ok (.goto 30, 3) := by decide +kernel
theorem dX12_wouldBe_71 : decode cX12_wouldBe 71 = .ok (.aload_n 0, 1) := by decide +kernel
theorem dX12_wouldBe_72 : decode cX12_wouldBe 72 = .ok (.aload_n 0, 1) := by decide +kernel
theorem dX12_wouldBe_73 : decode cX12_wouldBe 73 = .ok (.getfield 49, 3) := by decide +kernel
theorem dX12_wouldBe_76 : decode cX12_wouldBe 76 = .ok (.bipush 40, 2) := by decide +kernel
theorem dX12_wouldBe_78 : decode cX12_wouldBe 78 = .ok (.iload_n 1, 1) := by decide +kernel
theorem dX12_wouldBe_79 : decode cX12_wouldBe 79 = .ok (.imul, 1) := by decide +kernel
theorem dX12_wouldBe_80 : decode cX12_wouldBe 80 = .ok (.iload_n 2, 1) := by decide +kernel
theorem dX12_wouldBe_81 : decode cX12_wouldBe 81 = .ok (.iadd, 1) := by decide +kernel
theorem dX12_wouldBe_82 : decode cX12_wouldBe 82 = .ok (.iload 6, 2) := by decide +kernel
theorem dX12_wouldBe_84 : decode cX12_wouldBe 84 = .ok (.iadd, 1) := by decide +kernel
theorem dX12_wouldBe_85 : decode cX12_wouldBe 85 = .ok (.iaload, 1) := by decide +kernel
theorem dX12_wouldBe_86 : decode cX12_wouldBe 86 = .ok (.invokevirtual 270, 3) := by decide +kernel
theorem dX12_wouldBe_89 : decode cX12_wouldBe 89 = .ok (.ifCond .ne 8, 3) := by decide +kernel
theorem dX12_wouldBe_92 : decode cX12_wouldBe 92 = .ok (.bipush (-4), 2) := by decide +kernel
theorem dX12_wouldBe_94 : decode cX12_wouldBe 94 = .ok (.goto 4, 3) := by decide +kernel
theorem dX12_wouldBe_97 : decode cX12_wouldBe 97 = .ok (.iconst 0, 1) := by decide +kernel
theorem dX12_wouldBe_98 : decode cX12_wouldBe 98 = .ok (.istore 4, 2) := by decide +kernel
theorem dX12_wouldBe_100 : decode cX12_wouldBe 100 = .ok (.iload 5, 2) := by decide +kernel
theorem dX12_wouldBe_102 : decode cX12_wouldBe 102 = .ok (.iload 4, 2) := by decide +kernel
theorem dX12_wouldBe_104 : decode cX12_wouldBe 104 = .ok (.ifCond .ne 24, 3) := by decide +kernel
theorem dX12_wouldBe_107 : decode cX12_wouldBe 107 = .ok (.aload_n 0, 1) := by decide +kernel
theorem dX12_wouldBe_108 : decode cX12_wouldBe 108 = .ok (.aload_n 0, 1) := by decide +kernel
theorem dX12_wouldBe_109 : decode cX12_wouldBe 109 = .ok (.getfield 49, 3) := by decide +kernel
theorem dX12_wouldBe_112 : decode cX12_wouldBe 112 = .ok (.bipush 40, 2) := by decide +kernel
theorem dX12_wouldBe_114 : decode cX12_wouldBe 114 = .ok (.iload_n 1, 1) := by decide +kernel
theorem dX12_wouldBe_115 : decode cX12_wouldBe 115 = .ok (.imul, 1) := by decide +kernel
theorem dX12_wouldBe_116 : decode cX12_wouldBe 116 = .ok (.iload_n 2, 1) := by decide +kernel
theorem dX12_wouldBe_117 : decode cX12_wouldBe 117 = .ok (.iadd, 1) := by decide +kernel
theorem dX12_wouldBe_118 : decode cX12_wouldBe 118 = .ok (.iload 6, 2) := by decide +kernel
theorem dX12_wouldBe_120 : decode cX12_wouldBe 120 = .ok (.iadd, 1) := by decide +kernel
theorem dX12_wouldBe_121 : decode cX12_wouldBe 121 = .ok (.iaload, 1) := by decide +kernel
theorem dX12_wouldBe_122 : decode cX12_wouldBe 122 = .ok (.invokevirtual 146, 3) := by decide +kernel
theorem dX12_wouldBe_125 : decode cX12_wouldBe 125 = .ok (.goto 4, 3) := by decide +kernel
theorem dX12_wouldBe_128 : decode cX12_wouldBe 128 = .ok (.iconst 0, 1) := by decide +kernel
theorem dX12_wouldBe_129 : decode cX12_wouldBe 129 = .ok (.iadd, 1) := by decide +kernel
theorem dX12_wouldBe_130 : decode cX12_wouldBe 130 = .ok (.istore 5, 2) := by decide +kernel
theorem dX12_wouldBe_132 : decode cX12_wouldBe 132 = .ok (.iinc 6 1, 3) := by decide +kernel
theorem dX12_wouldBe_135 : decode cX12_wouldBe 135 = .ok (.goto (-98), 3) := by decide +kernel
theorem dX12_wouldBe_138 : decode cX12_wouldBe 138 = .ok (.aload_n 0, 1) := by decide +kernel
theorem dX12_wouldBe_139 : decode cX12_wouldBe 139 = .ok (.invokevirtual 160, 3) := by decide +kernel
theorem dX12_wouldBe_142 : decode cX12_wouldBe 142 = .ok (.iload 4, 2) := by decide +kernel
theorem dX12_wouldBe_144 : decode cX12_wouldBe 144 = .ok (.ifCond .eq 8, 3) := by decide +kernel
theorem dX12_wouldBe_147 : decode cX12_wouldBe 147 = .ok (.iload 4, 2) := by decide +kernel
theorem dX12_wouldBe_149 : decode cX12_wouldBe 149 = .ok (.goto 5, 3) := by decide +kernel
theorem dX12_wouldBe_152 : decode cX12_wouldBe 152 = .ok (.iload 5, 2) := by decide +kernel
theorem dX12_wouldBe_154 : decode cX12_wouldBe 154 = .ok (.ireturn, 1) := by decide +kernel
def f12_wouldBe_b129 (K37 : Int32 → Int32 → Int32 → lu_M → Option (Int32 × lu_M)) (K138 : Int32 → Int32 → lu_M → Option (Int32 × lu_M)) (a1 : Int32) (a2 : Int32) (a3 : Int32) (v4 : Int32) (v6 : Int32) (s0 : Int32) (s1 : Int32) (m : lu_M) : Option (Int32 × lu_M) :=
  lu_nm ((s1 + s0)) fun x10 =>
  K37 v4 x10 (v6 + (1 : Int32)) m
set_option maxRecDepth 20000 in
theorem w12_wouldBe_b129  {G : lu_G} {ρ : Nat → Nat} {a1 : Int32} {a2 : Int32} {a3 : Int32} {K37 : Int32 → Int32 → Int32 → lu_M → Option (Int32 × lu_M)} {K138 : Int32 → Int32 → lu_M → Option (Int32 × lu_M)} (X : lu_X G RX12 cX12_wouldBe 8 7 168) (hret : (lu_me G).sig.returnType = (some .int))  (hK37 : ∀ (v4 : Int32) (v5 : Int32) (v6 : Int32) (m : lu_M), lu_Ab lu_TM G (lu_Q lu_TM G ρ lu_RVi lu_sn) (K37 v4 v5 v6 m) 37 [(0, .ref (ρ 0)), (1, .int a1), (2, .int a2), (3, .int a3), (4, .int v4), (5, .int v5), (6, .int v6)] [] ρ 0 0 [] m) (hK138 : ∀ (v4 : Int32) (v5 : Int32) (m : lu_M), lu_Ab lu_TM G (lu_Q lu_TM G ρ lu_RVi lu_sn) (K138 v4 v5 m) 138 [(0, .ref (ρ 0)), (4, .int v4), (5, .int v5)] [] ρ 0 0 [] m) : ∀ (v4 : Int32) (v6 : Int32) (s0 : Int32) (s1 : Int32) (m : lu_M), lu_Ab lu_TM G (lu_Q lu_TM G ρ lu_RVi lu_sn) (f12_wouldBe_b129 K37 K138 a1 a2 a3 v4 v6 s0 s1 m) 129 [(0, .ref (ρ 0)), (1, .int a1), (2, .int a2), (3, .int a3), (4, .int v4), (6, .int v6)] [.int s0, .int s1] ρ 0 0 [] m := by
  intro v4 v6 s0 s1 m
  unfold f12_wouldBe_b129
  refine lu_iadd X dX12_wouldBe_129 (pc2 := 130) rfl ?_
  refine lu_topi (fun x10 => ?_)
  refine lu_istore (lv2 := [(5, .int x10), (0, .ref (ρ 0)), (1, .int a1), (2, .int a2), (3, .int a3), (4, .int v4), (6, .int v6)]) X dX12_wouldBe_130 (pc2 := 132) rfl (by decide) rfl ?_
  refine lu_iinc (lv2 := [(6, .int (v6 + (1 : Int32))), (5, .int x10), (0, .ref (ρ 0)), (1, .int a1), (2, .int a2), (3, .int a3), (4, .int v4)]) X dX12_wouldBe_132 (pc2 := 135) rfl 6 rfl (lu_ii _ ic_1) (by decide) rfl ?_
  refine lu_goto (tgt := 37) X dX12_wouldBe_135 (by decide) ?_
  exact lu_sub [2, 3, 4, 5, 6, 1, 0] rfl (hK37 v4 x10 (v6 + (1 : Int32)) m)
def f12_wouldBe_b98 (K37 : Int32 → Int32 → Int32 → lu_M → Option (Int32 × lu_M)) (K138 : Int32 → Int32 → lu_M → Option (Int32 × lu_M)) (a1 : Int32) (a2 : Int32) (a3 : Int32) (v5 : Int32) (v6 : Int32) (s0 : Int32) (m : lu_M) : Option (Int32 × lu_M) :=
  if s0 = 0 then (lu_gd (lu_ib ((((40 : Int32) * a1) + a2) + v6) 160) <|
  lu_bi (f12_goes (m 14 ((((40 : Int32) * a1) + a2) + v6).toNatClampNeg) m) fun x11 m12 =>
  f12_wouldBe_b129 K37 K138 a1 a2 a3 s0 v6 x11 v5 m12)
  else (f12_wouldBe_b129 K37 K138 a1 a2 a3 s0 v6 (0 : Int32) v5 m)
set_option maxRecDepth 20000 in
theorem w12_wouldBe_b98  {G : lu_G} {ρ : Nat → Nat} {a1 : Int32} {a2 : Int32} {a3 : Int32} {K37 : Int32 → Int32 → Int32 → lu_M → Option (Int32 × lu_M)} {K138 : Int32 → Int32 → lu_M → Option (Int32 × lu_M)} (X : lu_X G RX12 cX12_wouldBe 8 7 168) (hret : (lu_me G).sig.returnType = (some .int))  (hK37 : ∀ (v4 : Int32) (v5 : Int32) (v6 : Int32) (m : lu_M), lu_Ab lu_TM G (lu_Q lu_TM G ρ lu_RVi lu_sn) (K37 v4 v5 v6 m) 37 [(0, .ref (ρ 0)), (1, .int a1), (2, .int a2), (3, .int a3), (4, .int v4), (5, .int v5), (6, .int v6)] [] ρ 0 0 [] m) (hK138 : ∀ (v4 : Int32) (v5 : Int32) (m : lu_M), lu_Ab lu_TM G (lu_Q lu_TM G ρ lu_RVi lu_sn) (K138 v4 v5 m) 138 [(0, .ref (ρ 0)), (4, .int v4), (5, .int v5)] [] ρ 0 0 [] m) : ∀ (v5 : Int32) (v6 : Int32) (s0 : Int32) (m : lu_M), lu_Ab lu_TM G (lu_Q lu_TM G ρ lu_RVi lu_sn) (f12_wouldBe_b98 K37 K138 a1 a2 a3 v5 v6 s0 m) 98 [(0, .ref (ρ 0)), (1, .int a1), (2, .int a2), (3, .int a3), (5, .int v5), (6, .int v6)] [.int s0] ρ 0 0 [] m := by
  intro v5 v6 s0 m
  unfold f12_wouldBe_b98
  refine lu_istore (lv2 := [(4, .int s0), (0, .ref (ρ 0)), (1, .int a1), (2, .int a2), (3, .int a3), (5, .int v5), (6, .int v6)]) X dX12_wouldBe_98 (pc2 := 100) rfl (by decide) rfl ?_
  refine lu_iload X dX12_wouldBe_100 (pc2 := 102) rfl 5 rfl ?_
  refine lu_iload X dX12_wouldBe_102 (pc2 := 104) rfl 0 rfl ?_
  refine lu_if_ne (tgt := 128) X dX12_wouldBe_104 (pc2 := 107) rfl (by decide) (fun _ => ?_) (fun _ => ?_)
  · refine lu_iconst X dX12_wouldBe_128 (pc2 := 129) rfl ic_0 ?_
    exact lu_sub [1, 2, 3, 4, 0, 6] rfl (w12_wouldBe_b129 X hret hK37 hK138 s0 v6 (0 : Int32) v5 m)
  · refine lu_aload_n X dX12_wouldBe_107 (pc2 := 108) rfl rfl 1 rfl ?_
    refine lu_aload_n X dX12_wouldBe_108 (pc2 := 109) rfl rfl 1 rfl ?_
    refine lu_getr (r2 := 14) X rfl fl12_49 rfl kM_0 lM_0 dX12_wouldBe_109 (pc2 := 112) rfl ?_
    refine lu_bipush X dX12_wouldBe_112 (pc2 := 114) rfl bp_40 ?_
    refine lu_iload_n X dX12_wouldBe_114 (pc2 := 115) rfl rfl 2 rfl ?_
    refine lu_imul X dX12_wouldBe_115 (pc2 := 116) rfl ?_
    refine lu_iload_n X dX12_wouldBe_116 (pc2 := 117) rfl rfl 3 rfl ?_
    refine lu_iadd X dX12_wouldBe_117 (pc2 := 118) rfl ?_
    refine lu_iload X dX12_wouldBe_118 (pc2 := 120) rfl 6 rfl ?_
    refine lu_iadd X dX12_wouldBe_120 (pc2 := 121) rfl ?_
    refine lu_iald X kM_14 lM_14 dX12_wouldBe_121 (pc2 := 122) rfl ?_
    refine lu_invVi X (c12_goes _ (m 14 ((((40 : Int32) * a1) + a2) + v6).toNatClampNeg)) rfl q1370 mvV_12_goes kM_0 lM_0 (by decide) ⟨_, rfl, rfl⟩ rfl rfl (Nat.le_of_ble_eq_true rfl) (Nat.le_of_ble_eq_true rfl) (Nat.le_of_ble_eq_true rfl) ⟨Nat.zero_le _, Nat.zero_le _⟩ dX12_wouldBe_122 (pc2 := 125) rfl rfl (fun x11 m12 => ?_)
    refine lu_goto (tgt := 129) X dX12_wouldBe_125 (by decide) ?_
    exact lu_sub [1, 2, 3, 4, 0, 6] rfl (w12_wouldBe_b129 X hret hK37 hK138 s0 v6 x11 v5 m12)
def f12_wouldBe_b37B (K138 : Int32 → Int32 → lu_M → Option (Int32 × lu_M)) (rec : Int32 → Int32 → Int32 → lu_M → Option (Int32 × lu_M)) (a1 : Int32) (a2 : Int32) (a3 : Int32) (v4 : Int32) (v5 : Int32) (v6 : Int32) (m : lu_M) : Option (Int32 × lu_M) :=
  if a3 ≤ v6 then (K138 v4 v5 m)
  else (if v4 = 0 then (lu_bi (f12_isItem a1 (a2.toInt64 + v6.toInt64) m) fun x6 m7 =>
  if x6 = 0 then (f12_wouldBe_b98 rec K138 a1 a2 a3 v5 v6 (-12 : Int32) m7)
  else (lu_gd (lu_ib ((((40 : Int32) * a1) + a2) + v6) 160) <|
  lu_bi (f12_isAct (m7 14 ((((40 : Int32) * a1) + a2) + v6).toNatClampNeg) m7) fun x8 m9 =>
  if x8 = 0 then (f12_wouldBe_b98 rec K138 a1 a2 a3 v5 v6 (-4 : Int32) m9)
  else (f12_wouldBe_b98 rec K138 a1 a2 a3 v5 v6 (0 : Int32) m9)))
  else (K138 v4 v5 m))
def f12_wouldBe_b37 (K138 : Int32 → Int32 → lu_M → Option (Int32 × lu_M)) (a1 : Int32) (a2 : Int32) (a3 : Int32) : Nat → Int32 → Int32 → Int32 → lu_M → Option (Int32 × lu_M)
  | 0, _, _, _, _ => none
  | n + 1, v4, v5, v6, m => f12_wouldBe_b37B K138 (f12_wouldBe_b37 K138 a1 a2 a3 n) a1 a2 a3 v4 v5 v6 m
set_option maxRecDepth 20000 in
theorem w12_wouldBe_b37B  {G : lu_G} {ρ : Nat → Nat} {a1 : Int32} {a2 : Int32} {a3 : Int32} {K138 : Int32 → Int32 → lu_M → Option (Int32 × lu_M)} {rec : Int32 → Int32 → Int32 → lu_M → Option (Int32 × lu_M)} (X : lu_X G RX12 cX12_wouldBe 8 7 168) (hret : (lu_me G).sig.returnType = (some .int))  (hK138 : ∀ (v4 : Int32) (v5 : Int32) (m : lu_M), lu_Ab lu_TM G (lu_Q lu_TM G ρ lu_RVi lu_sn) (K138 v4 v5 m) 138 [(0, .ref (ρ 0)), (4, .int v4), (5, .int v5)] [] ρ 0 0 [] m) (hrec : ∀ (v4 : Int32) (v5 : Int32) (v6 : Int32) (m : lu_M), lu_Ab lu_TM G (lu_Q lu_TM G ρ lu_RVi lu_sn) (rec v4 v5 v6 m) 37 [(0, .ref (ρ 0)), (1, .int a1), (2, .int a2), (3, .int a3), (4, .int v4), (5, .int v5), (6, .int v6)] [] ρ 0 0 [] m) : ∀ (v4 : Int32) (v5 : Int32) (v6 : Int32) (m : lu_M), lu_Ab lu_TM G (lu_Q lu_TM G ρ lu_RVi lu_sn) (f12_wouldBe_b37B K138 rec a1 a2 a3 v4 v5 v6 m) 37 [(0, .ref (ρ 0)), (1, .int a1), (2, .int a2), (3, .int a3), (4, .int v4), (5, .int v5), (6, .int v6)] [] ρ 0 0 [] m := by
  intro v4 v5 v6 m
  unfold f12_wouldBe_b37B
  refine lu_iload X dX12_wouldBe_37 (pc2 := 39) rfl 6 rfl ?_
  refine lu_iload_n X dX12_wouldBe_39 (pc2 := 40) rfl rfl 3 rfl ?_
  refine lu_icmp_ge (tgt := 138) X dX12_wouldBe_40 (pc2 := 43) rfl (by decide) (fun _ => ?_) (fun _ => ?_)
  · exact lu_sub [0, 4, 5] rfl (hK138 v4 v5 m)
  · refine lu_iload X dX12_wouldBe_43 (pc2 := 45) rfl 4 rfl ?_
    refine lu_if_ne (tgt := 138) X dX12_wouldBe_45 (pc2 := 48) rfl (by decide) (fun _ => ?_) (fun _ => ?_)
    · exact lu_sub [0, 4, 5] rfl (hK138 v4 v5 m)
    · refine lu_aload_n X dX12_wouldBe_48 (pc2 := 49) rfl rfl 0 rfl ?_
      refine lu_iload_n X dX12_wouldBe_49 (pc2 := 50) rfl rfl 1 rfl ?_
      refine lu_iload_n X dX12_wouldBe_50 (pc2 := 51) rfl rfl 2 rfl ?_
      refine lu_i2l X dX12_wouldBe_51 (pc2 := 52) rfl ?_
      refine lu_iload X dX12_wouldBe_52 (pc2 := 54) rfl 6 rfl ?_
      refine lu_i2l X dX12_wouldBe_54 (pc2 := 55) rfl ?_
      refine lu_ladd X dX12_wouldBe_55 (pc2 := 56) rfl ?_
      refine lu_invVi X (c12_isItem _ a1 (a2.toInt64 + v6.toInt64)) rfl q1732 mvV_12_isItem kM_0 lM_0 (by decide) ⟨_, rfl, rfl⟩ rfl rfl (Nat.le_of_ble_eq_true rfl) (Nat.le_of_ble_eq_true rfl) (Nat.le_of_ble_eq_true rfl) ⟨Nat.zero_le _, Nat.zero_le _⟩ dX12_wouldBe_56 (pc2 := 59) rfl rfl (fun x6 m7 => ?_)
      refine lu_istore (lv2 := [(7, .int x6), (0, .ref (ρ 0)), (1, .int a1), (2, .int a2), (3, .int a3), (4, .int v4), (5, .int v5), (6, .int v6)]) X dX12_wouldBe_59 (pc2 := 61) rfl (by decide) rfl ?_
      refine lu_iload X dX12_wouldBe_61 (pc2 := 63) rfl 0 rfl ?_
      refine lu_if_ne (tgt := 71) X dX12_wouldBe_63 (pc2 := 66) rfl (by decide) (fun _ => ?_) (fun _ => ?_)
      · refine lu_aload_n X dX12_wouldBe_71 (pc2 := 72) rfl rfl 1 rfl ?_
        refine lu_aload_n X dX12_wouldBe_72 (pc2 := 73) rfl rfl 1 rfl ?_
        refine lu_getr (r2 := 14) X rfl fl12_49 rfl kM_0 lM_0 dX12_wouldBe_73 (pc2 := 76) rfl ?_
        refine lu_bipush X dX12_wouldBe_76 (pc2 := 78) rfl bp_40 ?_
        refine lu_iload_n X dX12_wouldBe_78 (pc2 := 79) rfl rfl 2 rfl ?_
        refine lu_imul X dX12_wouldBe_79 (pc2 := 80) rfl ?_
        refine lu_iload_n X dX12_wouldBe_80 (pc2 := 81) rfl rfl 3 rfl ?_
        refine lu_iadd X dX12_wouldBe_81 (pc2 := 82) rfl ?_
        refine lu_iload X dX12_wouldBe_82 (pc2 := 84) rfl 7 rfl ?_
        refine lu_iadd X dX12_wouldBe_84 (pc2 := 85) rfl ?_
        refine lu_iald X kM_14 lM_14 dX12_wouldBe_85 (pc2 := 86) rfl ?_
        refine lu_invVi X (c12_isAct _ (m7 14 ((((40 : Int32) * a1) + a2) + v6).toNatClampNeg)) rfl q1600 mvV_12_isAct kM_0 lM_0 (by decide) ⟨_, rfl, rfl⟩ rfl rfl (Nat.le_of_ble_eq_true rfl) (Nat.le_of_ble_eq_true rfl) (Nat.le_of_ble_eq_true rfl) ⟨Nat.zero_le _, Nat.zero_le _⟩ dX12_wouldBe_86 (pc2 := 89) rfl rfl (fun x8 m9 => ?_)
        refine lu_if_ne (tgt := 97) X dX12_wouldBe_89 (pc2 := 92) rfl (by decide) (fun _ => ?_) (fun _ => ?_)
        · refine lu_iconst X dX12_wouldBe_97 (pc2 := 98) rfl ic_0 ?_
          exact lu_sub [1, 2, 3, 4, 6, 7] rfl (w12_wouldBe_b98 X hret hrec hK138 v5 v6 (0 : Int32) m9)
        · refine lu_bipush X dX12_wouldBe_92 (pc2 := 94) rfl bp_m4 ?_
          refine lu_goto (tgt := 98) X dX12_wouldBe_94 (by decide) ?_
          exact lu_sub [1, 2, 3, 4, 6, 7] rfl (w12_wouldBe_b98 X hret hrec hK138 v5 v6 (-4 : Int32) m9)
      · refine lu_bipush X dX12_wouldBe_66 (pc2 := 68) rfl bp_m12 ?_
        refine lu_goto (tgt := 98) X dX12_wouldBe_68 (by decide) ?_
        exact lu_sub [1, 2, 3, 4, 6, 7] rfl (w12_wouldBe_b98 X hret hrec hK138 v5 v6 (-12 : Int32) m7)
theorem w12_wouldBe_b37  {G : lu_G} {ρ : Nat → Nat} {a1 : Int32} {a2 : Int32} {a3 : Int32} {K138 : Int32 → Int32 → lu_M → Option (Int32 × lu_M)} (X : lu_X G RX12 cX12_wouldBe 8 7 168) (hret : (lu_me G).sig.returnType = (some .int))  (hK138 : ∀ (v4 : Int32) (v5 : Int32) (m : lu_M), lu_Ab lu_TM G (lu_Q lu_TM G ρ lu_RVi lu_sn) (K138 v4 v5 m) 138 [(0, .ref (ρ 0)), (4, .int v4), (5, .int v5)] [] ρ 0 0 [] m) : ∀ (n : Nat) (v4 : Int32) (v5 : Int32) (v6 : Int32) (m : lu_M), lu_Ab lu_TM G (lu_Q lu_TM G ρ lu_RVi lu_sn) (f12_wouldBe_b37 K138 a1 a2 a3 n v4 v5 v6 m) 37 [(0, .ref (ρ 0)), (1, .int a1), (2, .int a2), (3, .int a3), (4, .int v4), (5, .int v5), (6, .int v6)] [] ρ 0 0 [] m := by
  intro n
  induction n with
  | zero => intro v4 v5 v6 m; exact lu_none
  | succ n ih => intro v4 v5 v6 m; exact w12_wouldBe_b37B X hret hK138 ih v4 v5 v6 m
def f12_wouldBe_b154  (a1 : Int32) (a2 : Int32) (a3 : Int32) (s0 : Int32) (m : lu_M) : Option (Int32 × lu_M) :=
  some (s0, m)
set_option maxRecDepth 20000 in
theorem w12_wouldBe_b154  {G : lu_G} {ρ : Nat → Nat} {a1 : Int32} {a2 : Int32} {a3 : Int32}  (X : lu_X G RX12 cX12_wouldBe 8 7 168) (hret : (lu_me G).sig.returnType = (some .int))   : ∀ (s0 : Int32) (m : lu_M), lu_Ab lu_TM G (lu_Q lu_TM G ρ lu_RVi lu_sn) (f12_wouldBe_b154 a1 a2 a3 s0 m) 154 [] [.int s0] ρ 0 0 [] m := by
  intro s0 m
  unfold f12_wouldBe_b154
  exact lu_iret X hret dX12_wouldBe_154
def f12_wouldBe_b138  (a1 : Int32) (a2 : Int32) (a3 : Int32) (v4 : Int32) (v5 : Int32) (m : lu_M) : Option (Int32 × lu_M) :=
  lu_bv (f12_putsBack m) fun m13 =>
  if v4 = 0 then (f12_wouldBe_b154 a1 a2 a3 v5 m13)
  else (f12_wouldBe_b154 a1 a2 a3 v4 m13)
set_option maxRecDepth 20000 in
theorem w12_wouldBe_b138  {G : lu_G} {ρ : Nat → Nat} {a1 : Int32} {a2 : Int32} {a3 : Int32}  (X : lu_X G RX12 cX12_wouldBe 8 7 168) (hret : (lu_me G).sig.returnType = (some .int))   : ∀ (v4 : Int32) (v5 : Int32) (m : lu_M), lu_Ab lu_TM G (lu_Q lu_TM G ρ lu_RVi lu_sn) (f12_wouldBe_b138 a1 a2 a3 v4 v5 m) 138 [(0, .ref (ρ 0)), (4, .int v4), (5, .int v5)] [] ρ 0 0 [] m := by
  intro v4 v5 m
  unfold f12_wouldBe_b138
  refine lu_aload_n X dX12_wouldBe_138 (pc2 := 139) rfl rfl 0 rfl ?_
  refine lu_invVv X (c12_putsBack _) rfl q1399 mvV_12_putsBack kM_0 lM_0 (by decide) ⟨_, rfl, rfl⟩ rfl rfl (Nat.le_of_ble_eq_true rfl) (Nat.le_of_ble_eq_true rfl) (Nat.le_of_ble_eq_true rfl) ⟨Nat.zero_le _, Nat.zero_le _⟩ dX12_wouldBe_139 (pc2 := 142) rfl rfl (fun m13 => ?_)
  refine lu_iload X dX12_wouldBe_142 (pc2 := 144) rfl 1 rfl ?_
  refine lu_if_eq (tgt := 152) X dX12_wouldBe_144 (pc2 := 147) rfl (by decide) (fun _ => ?_) (fun _ => ?_)
  · refine lu_iload X dX12_wouldBe_152 (pc2 := 154) rfl 2 rfl ?_
    exact lu_sub [] rfl (w12_wouldBe_b154 X hret v5 m13)
  · refine lu_iload X dX12_wouldBe_147 (pc2 := 149) rfl 1 rfl ?_
    refine lu_goto (tgt := 154) X dX12_wouldBe_149 (by decide) ?_
    exact lu_sub [] rfl (w12_wouldBe_b154 X hret v4 m13)
def f12_wouldBe (a1 : Int32) (a2 : Int32) (a3 : Int32) (m : lu_M) : Option (Int32 × lu_M) :=
  lu_bi (f12_isSpan a1 a3 m) fun x1 m2 =>
  if x1 = 0 then (some ((-1 : Int32), m2))
  else (lu_bi (f12_whyNot a1 (0 : Int32) m2) fun x3 m4 =>
  if x3 = 0 then (lu_bv (f12_puts m4) fun m5 =>
  f12_wouldBe_b37 (f12_wouldBe_b138 a1 a2 a3) a1 a2 a3 lu_fu x3 (0 : Int32) (0 : Int32) m5)
  else (some (x3, m4)))
set_option maxRecDepth 20000 in
theorem c12_wouldBe (l : Launch)   (a1 : Int32) (a2 : Int32) (a3 : Int32) : lu_C lu_TM l yX12_wouldBe cX12_wouldBe 8 (some .int) 7 168 (fun ρ sa => [.ref (ρ 0), .int a1, .int a2, .int a3]) (f12_wouldBe a1 a2 a3) lu_RVi lu_sn := by
  refine lu_met (cls := RX12) rfl (by decide +kernel) (fun _ _ => Nat.le_of_ble_eq_true rfl) ?_
  intro G ρ m hl X hret
  subst hl
  change lu_Ab lu_TM G (lu_Q lu_TM G ρ lu_RVi lu_sn) (f12_wouldBe a1 a2 a3 m) 0 [(0, .ref (ρ 0)), (1, .int a1), (2, .int a2), (3, .int a3)] [] ρ 0 0 [] m
  unfold f12_wouldBe
  refine lu_aload_n X dX12_wouldBe_0 (pc2 := 1) rfl rfl 0 rfl ?_
  refine lu_iload_n X dX12_wouldBe_1 (pc2 := 2) rfl rfl 1 rfl ?_
  refine lu_iload_n X dX12_wouldBe_2 (pc2 := 3) rfl rfl 3 rfl ?_
  refine lu_invVi X (c12_isSpan _ a1 a3) rfl q1727 mvV_12_isSpan kM_0 lM_0 (by decide) ⟨_, rfl, rfl⟩ rfl rfl (Nat.le_of_ble_eq_true rfl) (Nat.le_of_ble_eq_true rfl) (Nat.le_of_ble_eq_true rfl) ⟨Nat.zero_le _, Nat.zero_le _⟩ dX12_wouldBe_3 (pc2 := 6) rfl rfl (fun x1 m2 => ?_)
  refine lu_if_ne (tgt := 11) X dX12_wouldBe_6 (pc2 := 9) rfl (by decide) (fun _ => ?_) (fun _ => ?_)
  · refine lu_aload_n X dX12_wouldBe_11 (pc2 := 12) rfl rfl 0 rfl ?_
    refine lu_iload_n X dX12_wouldBe_12 (pc2 := 13) rfl rfl 1 rfl ?_
    refine lu_iconst X dX12_wouldBe_13 (pc2 := 14) rfl ic_0 ?_
    refine lu_invVi X (c12_whyNot _ a1 (0 : Int32)) rfl q1719 mvV_12_whyNot kM_0 lM_0 (by decide) ⟨_, rfl, rfl⟩ rfl rfl (Nat.le_of_ble_eq_true rfl) (Nat.le_of_ble_eq_true rfl) (Nat.le_of_ble_eq_true rfl) ⟨Nat.zero_le _, Nat.zero_le _⟩ dX12_wouldBe_14 (pc2 := 17) rfl rfl (fun x3 m4 => ?_)
    refine lu_istore (lv2 := [(4, .int x3), (0, .ref (ρ 0)), (1, .int a1), (2, .int a2), (3, .int a3)]) X dX12_wouldBe_17 (pc2 := 19) rfl (by decide) rfl ?_
    refine lu_iload X dX12_wouldBe_19 (pc2 := 21) rfl 0 rfl ?_
    refine lu_if_eq (tgt := 27) X dX12_wouldBe_21 (pc2 := 24) rfl (by decide) (fun _ => ?_) (fun _ => ?_)
    · refine lu_aload_n X dX12_wouldBe_27 (pc2 := 28) rfl rfl 1 rfl ?_
      refine lu_invVv X (c12_puts _) rfl q1391 mvV_12_puts kM_0 lM_0 (by decide) ⟨_, rfl, rfl⟩ rfl rfl (Nat.le_of_ble_eq_true rfl) (Nat.le_of_ble_eq_true rfl) (Nat.le_of_ble_eq_true rfl) ⟨Nat.zero_le _, Nat.zero_le _⟩ dX12_wouldBe_28 (pc2 := 31) rfl rfl (fun m5 => ?_)
      refine lu_iconst X dX12_wouldBe_31 (pc2 := 32) rfl ic_0 ?_
      refine lu_istore (lv2 := [(5, .int (0 : Int32)), (4, .int x3), (0, .ref (ρ 0)), (1, .int a1), (2, .int a2), (3, .int a3)]) X dX12_wouldBe_32 (pc2 := 34) rfl (by decide) rfl ?_
      refine lu_iconst X dX12_wouldBe_34 (pc2 := 35) rfl ic_0 ?_
      refine lu_istore (lv2 := [(6, .int (0 : Int32)), (5, .int (0 : Int32)), (4, .int x3), (0, .ref (ρ 0)), (1, .int a1), (2, .int a2), (3, .int a3)]) X dX12_wouldBe_35 (pc2 := 37) rfl (by decide) rfl ?_
      exact lu_sub [3, 4, 5, 6, 2, 1, 0] rfl (w12_wouldBe_b37 X hret (w12_wouldBe_b138 X hret) lu_fu x3 (0 : Int32) (0 : Int32) m5)
    · refine lu_iload X dX12_wouldBe_24 (pc2 := 26) rfl 0 rfl ?_
      exact lu_iret X hret dX12_wouldBe_26
  · refine lu_iconst X dX12_wouldBe_9 (pc2 := 10) rfl ic_m1 ?_
    exact lu_iret X hret dX12_wouldBe_10

theorem dX12_shelf_0 : decode cX12_shelf 0 = .ok (.iload_n 1, 1) := by decide +kernel
theorem dX12_shelf_1 : decode cX12_shelf 1 = .ok (.invokestatic 397, 3) := by decide +kernel
theorem dX12_shelf_4 : decode cX12_shelf 4 = .ok (.ifCond .eq 39, 3) := by decide +kernel
theorem dX12_shelf_7 : decode cX12_shelf 7 = .ok (.iload_n 2, 1) := by decide +kernel
theorem dX12_shelf_8 : decode cX12_shelf 8 = .ok (.i2l, 1) := by decide +kernel
theorem dX12_shelf_9 : decode cX12_shelf 9 = .ok (.lconst 0, 1) := by decide +kernel
theorem dX12_shelf_10 : decode cX12_shelf 10 = .ok (.ldc2_w 109, 3) := by decide +kernel
theorem dX12_shelf_13 : decode cX12_shelf 13 = .ok (.invokestatic 64, 3) := by decide +kernel
theorem dX12_shelf_16 : decode cX12_shelf 16 = .ok (.ifCond .eq 27, 3) := by decide +kernel
theorem dX12_shelf_19 : decode cX12_shelf 19 = .ok (.iload_n 2, 1) := by decide +kernel
theorem dX12_shelf_20 : decode cX12_shelf 20 = .ok (.ifCond .ne 11, 3) := by decide +kernel
theorem dX12_shelf_23 : decode cX12_shelf 23 = .ok (.aload_n 0, 1) := by decide +kernel
theorem dX12_shelf_24 : decode cX12_shelf 24 = .ok (.iload_n 3, 1) := by decide +kernel
theorem dX12_shelf_25 : decode cX12_shelf 25 = .ok (.invokevirtual 96, 3) := by decide +kernel
theorem dX12_shelf_28 : decode cX12_shelf 28 = .ok (.ifCond .eq 15, 3) := by decide +kernel
theorem dX12_shelf_31 : decode cX12_shelf 31 = .ok (.iload_n 2, 1) := by decide +kernel
theorem dX12_shelf_32 : decode cX12_shelf 32 = .ok (.iconst 1, 1) := by decide +kernel
theorem dX12_shelf_33 : decode cX12_shelf 33 = .ok (.if_icmp .ne 12, 3) := by decide +kernel
theorem dX12_shelf_36 : decode cX12_shelf 36 = .ok (.iload_n 3, 1) := by decide +kernel
theorem dX12_shelf_37 : decode cX12_shelf 37 = .ok (.invokestatic 397, 3) := by decide +kernel
theorem dX12_shelf_40 : decode cX12_shelf 40 = .ok (.ifCond .ne 5, 3) := by decide +kernel
theorem dX12_shelf_43 : decode cX12_shelf 43 = .ok (.iconst (-1), 1) := by decide +kernel
theorem dX12_shelf_44 : decode cX12_shelf 44 = .ok (.ireturn, 1) := by decide +kernel
theorem dX12_shelf_45 : decode cX12_shelf 45 = .ok (.aload_n 0, 1) := by decide +kernel
theorem dX12_shelf_46 : decode cX12_shelf 46 = .ok (.getfield 52, 3) := by decide +kernel
theorem dX12_shelf_49 : decode cX12_shelf 49 = .ok (.iload_n 1, 1) := by decide +kernel
theorem dX12_shelf_50 : decode cX12_shelf 50 = .ok (.iload_n 2, 1) := by decide +kernel
theorem dX12_shelf_51 : decode cX12_shelf 51 = .ok (.ifCond .ne 7, 3) := by decide +kernel
theorem dX12_shelf_54 : decode cX12_shelf 54 = .ok (.iconst 1, 1) := by decide +kernel
theorem dX12_shelf_55 : decode cX12_shelf 55 = .ok (.goto 22, 3) := by decide +kernel
theorem dX12_shelf_58 : decode cX12_shelf 58 = .ok (.iload_n 2, 1) := by decide +kernel
theorem dX12_shelf_59 : decode cX12_shelf 59 = .ok (.iconst 1, 1) := by decide +kernel
theorem dX12_shelf_60 : decode cX12_shelf 60 = .ok (.if_icmp .ne 16, 3) := by decide +kernel
theorem dX12_shelf_63 : decode cX12_shelf 63 = .ok (.aload_n 0, 1) := by decide +kernel
theorem dX12_shelf_64 : decode cX12_shelf 64 = .ok (.getfield 43, 3) := by decide +kernel
theorem dX12_shelf_67 : decode cX12_shelf 67 = .ok (.iload_n 3, 1) := by decide +kernel
theorem dX12_shelf_68 : decode cX12_shelf 68 = .ok (.iaload, 1) := by decide +kernel
theorem dX12_shelf_69 : decode cX12_shelf 69 = .ok (.ifCond .lt 7, 3) := by decide +kernel
theorem dX12_shelf_72 : decode cX12_shelf 72 = .ok (.iconst 2, 1) := by decide +kernel
theorem dX12_shelf_73 : decode cX12_shelf 73 = .ok (.goto 4, 3) := by decide +kernel
theorem dX12_shelf_76 : decode cX12_shelf 76 = .ok (.iconst 0, 1) := by decide +kernel
theorem dX12_shelf_77 : decode cX12_shelf 77 = .ok (.iastore, 1) := by decide +kernel
theorem dX12_shelf_78 : decode cX12_shelf 78 = .ok (.aload_n 0, 1) := by decide +kernel
theorem dX12_shelf_79 : decode cX12_shelf 79 = .ok (.getfield 55, 3) := by decide +kernel
theorem dX12_shelf_82 : decode cX12_shelf 82 = .ok (.iload_n 1, 1) := by decide +kernel
theorem dX12_shelf_83 : decode cX12_shelf 83 = .ok (.iload_n 2, 1) := by decide +kernel
theorem dX12_shelf_84 : decode cX12_shelf 84 = .ok (.ifCond .ne 7, 3) := by decide +kernel
theorem dX12_shelf_87 : decode cX12_shelf 87 = .ok (.iload_n 3, 1) := by decide +kernel
theorem dX12_shelf_88 : decode cX12_shelf 88 = .ok (.goto 18, 3) := by decide +kernel
theorem dX12_shelf_91 : decode cX12_shelf 91 = .ok (.iload_n 2, 1) := by decide +kernel
theorem dX12_shelf_92 : decode cX12_shelf 92 = .ok (.iconst 1, 1) := by decide +kernel
theorem dX12_shelf_93 : decode cX12_shelf 93 = .ok (.if_icmp .ne 12, 3) := by decide +kernel
theorem dX12_shelf_96 : decode cX12_shelf 96 = .ok (.aload_n 0, 1) := by decide +kernel
theorem dX12_shelf_97 : decode cX12_shelf 97 = .ok (.getfield 46, 3) := by decide +kernel
theorem dX12_shelf_100 : decode cX12_shelf 100 = .ok (.iload_n 3, 1) := by decide +kernel
theorem dX12_shelf_101 : decode cX12_shelf 101 = .ok (.iaload, 1) := by decide +kernel
theorem dX12_shelf_102 : decode cX12_shelf 102 = .ok (.goto 4, 3) := by decide +kernel
theorem dX12_shelf_105 : decode cX12_shelf 105 = .ok (.iconst 0, 1) := by decide +kernel
theorem dX12_shelf_106 : decode cX12_shelf 106 = .ok (.iastore, 1) := by decide +kernel
theorem dX12_shelf_107 : decode cX12_shelf 107 = .ok (.aload_n 0, 1) := by decide +kernel
theorem dX12_shelf_108 : decode cX12_shelf 108 = .ok (.getfield 58, 3) := by decide +kernel
theorem dX12_shelf_111 : decode cX12_shelf 111 = .ok (.iload_n 1, 1) := by decide +kernel
theorem dX12_shelf_112 : decode cX12_shelf 112 = .ok (.iload_n 2, 1) := by decide +kernel
theorem dX12_shelf_113 : decode cX12_shelf 113 = .ok (.iconst 1, 1) := by decide +kernel
theorem dX12_shelf_114 : decode cX12_shelf 114 = .ok (.if_icmp .ne 12, 3) := by decide +kernel
theorem dX12_shelf_117 : decode cX12_shelf 117 = .ok (.aload_n 0, 1) := by decide +kernel
theorem dX12_shelf_118 : decode cX12_shelf 118 = .ok (.getfield 43, 3) := by decide +kernel
theorem dX12_shelf_121 : decode cX12_shelf 121 = .ok (.iload_n 3, 1) := by decide +kernel
theorem dX12_shelf_122 : decode cX12_shelf 122 = .ok (.iaload, 1) := by decide +kernel
theorem dX12_shelf_123 : decode cX12_shelf 123 = .ok (.goto 4, 3) := by decide +kernel
theorem dX12_shelf_126 : decode cX12_shelf 126 = .ok (.iconst 0, 1) := by decide +kernel
theorem dX12_shelf_127 : decode cX12_shelf 127 = .ok (.iastore, 1) := by decide +kernel
theorem dX12_shelf_128 : decode cX12_shelf 128 = .ok (.iconst 1, 1) := by decide +kernel
theorem dX12_shelf_129 : decode cX12_shelf 129 = .ok (.ireturn, 1) := by decide +kernel
def f12_shelf_b43  (a1 : Int32) (a2 : Int32) (a3 : Int32)  (m : lu_M) : Option (Int32 × lu_M) :=
  some ((-1 : Int32), m)
set_option maxRecDepth 20000 in
theorem w12_shelf_b43  {G : lu_G} {ρ : Nat → Nat} {a1 : Int32} {a2 : Int32} {a3 : Int32}  (X : lu_X G RX12 cX12_shelf 4 2 46) (hret : (lu_me G).sig.returnType = (some .int))   : ∀  (m : lu_M), lu_Ab lu_TM G (lu_Q lu_TM G ρ lu_RVi lu_sn) (f12_shelf_b43 a1 a2 a3 m) 43 [] [] ρ 0 0 [] m := by
  intro  m
  unfold f12_shelf_b43
  refine lu_iconst X dX12_shelf_43 (pc2 := 44) rfl ic_m1 ?_
  exact lu_iret X hret dX12_shelf_44
def f12_shelf_b127  (a1 : Int32) (a2 : Int32) (a3 : Int32) (s0 : Int32) (s1 : Int32) (m : lu_M) : Option (Int32 × lu_M) :=
  lu_gd (lu_ib s1 4) <|
  lu_nm (lu_st m 17 s1.toNatClampNeg s0) fun m7 =>
  some ((1 : Int32), m7)
set_option maxRecDepth 20000 in
theorem w12_shelf_b127  {G : lu_G} {ρ : Nat → Nat} {a1 : Int32} {a2 : Int32} {a3 : Int32}  (X : lu_X G RX12 cX12_shelf 4 2 46) (hret : (lu_me G).sig.returnType = (some .int))   : ∀ (s0 : Int32) (s1 : Int32) (m : lu_M), lu_Ab lu_TM G (lu_Q lu_TM G ρ lu_RVi lu_sn) (f12_shelf_b127 a1 a2 a3 s0 s1 m) 127 [] [.int s0, .int s1, .ref (ρ 17)] ρ 0 0 [] m := by
  intro s0 s1 m
  unfold f12_shelf_b127
  refine lu_iast X kM_17 lM_17 dX12_shelf_127 (pc2 := 128) rfl (fun m7 => ?_)
  refine lu_iconst X dX12_shelf_128 (pc2 := 129) rfl ic_1 ?_
  exact lu_iret X hret dX12_shelf_129
def f12_shelf_b106  (a1 : Int32) (a2 : Int32) (a3 : Int32) (s0 : Int32) (s1 : Int32) (m : lu_M) : Option (Int32 × lu_M) :=
  lu_gd (lu_ib s1 4) <|
  lu_nm (lu_st m 16 s1.toNatClampNeg s0) fun m6 =>
  if a2 = (1 : Int32) then (lu_gd (lu_ib a3 4) <|
  f12_shelf_b127 a1 a2 a3 (m6 12 a3.toNatClampNeg) a1 m6)
  else (f12_shelf_b127 a1 a2 a3 (0 : Int32) a1 m6)
set_option maxRecDepth 20000 in
theorem w12_shelf_b106  {G : lu_G} {ρ : Nat → Nat} {a1 : Int32} {a2 : Int32} {a3 : Int32}  (X : lu_X G RX12 cX12_shelf 4 2 46) (hret : (lu_me G).sig.returnType = (some .int))   : ∀ (s0 : Int32) (s1 : Int32) (m : lu_M), lu_Ab lu_TM G (lu_Q lu_TM G ρ lu_RVi lu_sn) (f12_shelf_b106 a1 a2 a3 s0 s1 m) 106 [(0, .ref (ρ 0)), (1, .int a1), (2, .int a2), (3, .int a3)] [.int s0, .int s1, .ref (ρ 16)] ρ 0 0 [] m := by
  intro s0 s1 m
  unfold f12_shelf_b106
  refine lu_iast X kM_16 lM_16 dX12_shelf_106 (pc2 := 107) rfl (fun m6 => ?_)
  refine lu_aload_n X dX12_shelf_107 (pc2 := 108) rfl rfl 0 rfl ?_
  refine lu_getr (r2 := 17) X rfl fl12_58 rfl kM_0 lM_0 dX12_shelf_108 (pc2 := 111) rfl ?_
  refine lu_iload_n X dX12_shelf_111 (pc2 := 112) rfl rfl 1 rfl ?_
  refine lu_iload_n X dX12_shelf_112 (pc2 := 113) rfl rfl 2 rfl ?_
  refine lu_iconst X dX12_shelf_113 (pc2 := 114) rfl ic_1 ?_
  refine lu_icmp_ne (tgt := 126) X dX12_shelf_114 (pc2 := 117) rfl (by decide) (fun _ => ?_) (fun _ => ?_)
  · refine lu_iconst X dX12_shelf_126 (pc2 := 127) rfl ic_0 ?_
    exact lu_sub [] rfl (w12_shelf_b127 X hret (0 : Int32) a1 m6)
  · refine lu_aload_n X dX12_shelf_117 (pc2 := 118) rfl rfl 0 rfl ?_
    refine lu_getr (r2 := 12) X rfl fl12_43 rfl kM_0 lM_0 dX12_shelf_118 (pc2 := 121) rfl ?_
    refine lu_iload_n X dX12_shelf_121 (pc2 := 122) rfl rfl 3 rfl ?_
    refine lu_iald X kM_12 lM_12 dX12_shelf_122 (pc2 := 123) rfl ?_
    refine lu_goto (tgt := 127) X dX12_shelf_123 (by decide) ?_
    exact lu_sub [] rfl (w12_shelf_b127 X hret (m6 12 a3.toNatClampNeg) a1 m6)
def f12_shelf_b77  (a1 : Int32) (a2 : Int32) (a3 : Int32) (s0 : Int32) (s1 : Int32) (m : lu_M) : Option (Int32 × lu_M) :=
  lu_gd (lu_ib s1 4) <|
  lu_nm (lu_st m 15 s1.toNatClampNeg s0) fun m5 =>
  if a2 = 0 then (f12_shelf_b106 a1 a2 a3 a3 a1 m5)
  else (if a2 = (1 : Int32) then (lu_gd (lu_ib a3 4) <|
  f12_shelf_b106 a1 a2 a3 (m5 13 a3.toNatClampNeg) a1 m5)
  else (f12_shelf_b106 a1 a2 a3 (0 : Int32) a1 m5))
set_option maxRecDepth 20000 in
theorem w12_shelf_b77  {G : lu_G} {ρ : Nat → Nat} {a1 : Int32} {a2 : Int32} {a3 : Int32}  (X : lu_X G RX12 cX12_shelf 4 2 46) (hret : (lu_me G).sig.returnType = (some .int))   : ∀ (s0 : Int32) (s1 : Int32) (m : lu_M), lu_Ab lu_TM G (lu_Q lu_TM G ρ lu_RVi lu_sn) (f12_shelf_b77 a1 a2 a3 s0 s1 m) 77 [(0, .ref (ρ 0)), (1, .int a1), (2, .int a2), (3, .int a3)] [.int s0, .int s1, .ref (ρ 15)] ρ 0 0 [] m := by
  intro s0 s1 m
  unfold f12_shelf_b77
  refine lu_iast X kM_15 lM_15 dX12_shelf_77 (pc2 := 78) rfl (fun m5 => ?_)
  refine lu_aload_n X dX12_shelf_78 (pc2 := 79) rfl rfl 0 rfl ?_
  refine lu_getr (r2 := 16) X rfl fl12_55 rfl kM_0 lM_0 dX12_shelf_79 (pc2 := 82) rfl ?_
  refine lu_iload_n X dX12_shelf_82 (pc2 := 83) rfl rfl 1 rfl ?_
  refine lu_iload_n X dX12_shelf_83 (pc2 := 84) rfl rfl 2 rfl ?_
  refine lu_if_ne (tgt := 91) X dX12_shelf_84 (pc2 := 87) rfl (by decide) (fun _ => ?_) (fun _ => ?_)
  · refine lu_iload_n X dX12_shelf_91 (pc2 := 92) rfl rfl 2 rfl ?_
    refine lu_iconst X dX12_shelf_92 (pc2 := 93) rfl ic_1 ?_
    refine lu_icmp_ne (tgt := 105) X dX12_shelf_93 (pc2 := 96) rfl (by decide) (fun _ => ?_) (fun _ => ?_)
    · refine lu_iconst X dX12_shelf_105 (pc2 := 106) rfl ic_0 ?_
      exact w12_shelf_b106 X hret (0 : Int32) a1 m5
    · refine lu_aload_n X dX12_shelf_96 (pc2 := 97) rfl rfl 0 rfl ?_
      refine lu_getr (r2 := 13) X rfl fl12_46 rfl kM_0 lM_0 dX12_shelf_97 (pc2 := 100) rfl ?_
      refine lu_iload_n X dX12_shelf_100 (pc2 := 101) rfl rfl 3 rfl ?_
      refine lu_iald X kM_13 lM_13 dX12_shelf_101 (pc2 := 102) rfl ?_
      refine lu_goto (tgt := 106) X dX12_shelf_102 (by decide) ?_
      exact w12_shelf_b106 X hret (m5 13 a3.toNatClampNeg) a1 m5
  · refine lu_iload_n X dX12_shelf_87 (pc2 := 88) rfl rfl 3 rfl ?_
    refine lu_goto (tgt := 106) X dX12_shelf_88 (by decide) ?_
    exact w12_shelf_b106 X hret a3 a1 m5
def f12_shelf_b76  (a1 : Int32) (a2 : Int32) (a3 : Int32) (s0 : Int32) (m : lu_M) : Option (Int32 × lu_M) :=
  f12_shelf_b77 a1 a2 a3 (0 : Int32) s0 m
set_option maxRecDepth 20000 in
theorem w12_shelf_b76  {G : lu_G} {ρ : Nat → Nat} {a1 : Int32} {a2 : Int32} {a3 : Int32}  (X : lu_X G RX12 cX12_shelf 4 2 46) (hret : (lu_me G).sig.returnType = (some .int))   : ∀ (s0 : Int32) (m : lu_M), lu_Ab lu_TM G (lu_Q lu_TM G ρ lu_RVi lu_sn) (f12_shelf_b76 a1 a2 a3 s0 m) 76 [(0, .ref (ρ 0)), (1, .int a1), (2, .int a2), (3, .int a3)] [.int s0, .ref (ρ 15)] ρ 0 0 [] m := by
  intro s0 m
  unfold f12_shelf_b76
  refine lu_iconst X dX12_shelf_76 (pc2 := 77) rfl ic_0 ?_
  exact w12_shelf_b77 X hret (0 : Int32) s0 m
def f12_shelf_b45  (a1 : Int32) (a2 : Int32) (a3 : Int32)  (m : lu_M) : Option (Int32 × lu_M) :=
  if a2 = 0 then (f12_shelf_b77 a1 a2 a3 (1 : Int32) a1 m)
  else (if a2 = (1 : Int32) then (lu_gd (lu_ib a3 4) <|
  if (m 12 a3.toNatClampNeg) < 0 then (f12_shelf_b76 a1 a2 a3 a1 m)
  else (f12_shelf_b77 a1 a2 a3 (2 : Int32) a1 m))
  else (f12_shelf_b76 a1 a2 a3 a1 m))
set_option maxRecDepth 20000 in
theorem w12_shelf_b45  {G : lu_G} {ρ : Nat → Nat} {a1 : Int32} {a2 : Int32} {a3 : Int32}  (X : lu_X G RX12 cX12_shelf 4 2 46) (hret : (lu_me G).sig.returnType = (some .int))   : ∀  (m : lu_M), lu_Ab lu_TM G (lu_Q lu_TM G ρ lu_RVi lu_sn) (f12_shelf_b45 a1 a2 a3 m) 45 [(0, .ref (ρ 0)), (1, .int a1), (2, .int a2), (3, .int a3)] [] ρ 0 0 [] m := by
  intro  m
  unfold f12_shelf_b45
  refine lu_aload_n X dX12_shelf_45 (pc2 := 46) rfl rfl 0 rfl ?_
  refine lu_getr (r2 := 15) X rfl fl12_52 rfl kM_0 lM_0 dX12_shelf_46 (pc2 := 49) rfl ?_
  refine lu_iload_n X dX12_shelf_49 (pc2 := 50) rfl rfl 1 rfl ?_
  refine lu_iload_n X dX12_shelf_50 (pc2 := 51) rfl rfl 2 rfl ?_
  refine lu_if_ne (tgt := 58) X dX12_shelf_51 (pc2 := 54) rfl (by decide) (fun _ => ?_) (fun _ => ?_)
  · refine lu_iload_n X dX12_shelf_58 (pc2 := 59) rfl rfl 2 rfl ?_
    refine lu_iconst X dX12_shelf_59 (pc2 := 60) rfl ic_1 ?_
    refine lu_icmp_ne (tgt := 76) X dX12_shelf_60 (pc2 := 63) rfl (by decide) (fun _ => ?_) (fun _ => ?_)
    · exact w12_shelf_b76 X hret a1 m
    · refine lu_aload_n X dX12_shelf_63 (pc2 := 64) rfl rfl 0 rfl ?_
      refine lu_getr (r2 := 12) X rfl fl12_43 rfl kM_0 lM_0 dX12_shelf_64 (pc2 := 67) rfl ?_
      refine lu_iload_n X dX12_shelf_67 (pc2 := 68) rfl rfl 3 rfl ?_
      refine lu_iald X kM_12 lM_12 dX12_shelf_68 (pc2 := 69) rfl ?_
      refine lu_if_lt (tgt := 76) X dX12_shelf_69 (pc2 := 72) rfl (by decide) (fun _ => ?_) (fun _ => ?_)
      · exact w12_shelf_b76 X hret a1 m
      · refine lu_iconst X dX12_shelf_72 (pc2 := 73) rfl ic_2 ?_
        refine lu_goto (tgt := 77) X dX12_shelf_73 (by decide) ?_
        exact w12_shelf_b77 X hret (2 : Int32) a1 m
  · refine lu_iconst X dX12_shelf_54 (pc2 := 55) rfl ic_1 ?_
    refine lu_goto (tgt := 77) X dX12_shelf_55 (by decide) ?_
    exact w12_shelf_b77 X hret (1 : Int32) a1 m
def f12_shelf_b31  (a1 : Int32) (a2 : Int32) (a3 : Int32)  (m : lu_M) : Option (Int32 × lu_M) :=
  if a2 = (1 : Int32) then (lu_bi (f12_isOne a3 m) fun x8 m9 =>
  if x8 = 0 then (f12_shelf_b43 a1 a2 a3 m9)
  else (f12_shelf_b45 a1 a2 a3 m9))
  else (f12_shelf_b45 a1 a2 a3 m)
set_option maxRecDepth 20000 in
theorem w12_shelf_b31  {G : lu_G} {ρ : Nat → Nat} {a1 : Int32} {a2 : Int32} {a3 : Int32}  (X : lu_X G RX12 cX12_shelf 4 2 46) (hret : (lu_me G).sig.returnType = (some .int))   : ∀  (m : lu_M), lu_Ab lu_TM G (lu_Q lu_TM G ρ lu_RVi lu_sn) (f12_shelf_b31 a1 a2 a3 m) 31 [(0, .ref (ρ 0)), (1, .int a1), (2, .int a2), (3, .int a3)] [] ρ 0 0 [] m := by
  intro  m
  unfold f12_shelf_b31
  refine lu_iload_n X dX12_shelf_31 (pc2 := 32) rfl rfl 2 rfl ?_
  refine lu_iconst X dX12_shelf_32 (pc2 := 33) rfl ic_1 ?_
  refine lu_icmp_ne (tgt := 45) X dX12_shelf_33 (pc2 := 36) rfl (by decide) (fun _ => ?_) (fun _ => ?_)
  · exact w12_shelf_b45 X hret m
  · refine lu_iload_n X dX12_shelf_36 (pc2 := 37) rfl rfl 3 rfl ?_
    refine lu_invSi X (c12_isOne _ a3) rfl q1704 mvS_12_isOne rfl rfl (Nat.le_of_ble_eq_true rfl) (Nat.le_of_ble_eq_true rfl) (Nat.le_of_ble_eq_true rfl) ⟨Nat.zero_le _, Nat.zero_le _⟩ dX12_shelf_37 (pc2 := 40) rfl rfl (fun x8 m9 => ?_)
    refine lu_if_ne (tgt := 45) X dX12_shelf_40 (pc2 := 43) rfl (by decide) (fun _ => ?_) (fun _ => ?_)
    · exact w12_shelf_b45 X hret m9
    · exact lu_sub [] rfl (w12_shelf_b43 X hret m9)
def f12_shelf (a1 : Int32) (a2 : Int32) (a3 : Int32) (m : lu_M) : Option (Int32 × lu_M) :=
  lu_bi (f12_isOne a1 m) fun x1 m2 =>
  if x1 = 0 then (f12_shelf_b43 a1 a2 a3 m2)
  else (lu_bi (f12_in a2.toInt64 (0 : Int64) (2 : Int64) m2) fun x3 m4 =>
  if x3 = 0 then (f12_shelf_b43 a1 a2 a3 m4)
  else (if a2 = 0 then (lu_bi (f12_isPerson a3 m4) fun x10 m11 =>
  if x10 = 0 then (f12_shelf_b43 a1 a2 a3 m11)
  else (f12_shelf_b31 a1 a2 a3 m11))
  else (f12_shelf_b31 a1 a2 a3 m4)))
set_option maxRecDepth 20000 in
theorem c12_shelf (l : Launch)   (a1 : Int32) (a2 : Int32) (a3 : Int32) : lu_C lu_TM l yX12_shelf cX12_shelf 4 (some .int) 2 46 (fun ρ sa => [.ref (ρ 0), .int a1, .int a2, .int a3]) (f12_shelf a1 a2 a3) lu_RVi lu_sn := by
  refine lu_met (cls := RX12) rfl (by decide +kernel) (fun _ _ => Nat.le_of_ble_eq_true rfl) ?_
  intro G ρ m hl X hret
  subst hl
  change lu_Ab lu_TM G (lu_Q lu_TM G ρ lu_RVi lu_sn) (f12_shelf a1 a2 a3 m) 0 [(0, .ref (ρ 0)), (1, .int a1), (2, .int a2), (3, .int a3)] [] ρ 0 0 [] m
  unfold f12_shelf
  refine lu_iload_n X dX12_shelf_0 (pc2 := 1) rfl rfl 1 rfl ?_
  refine lu_invSi X (c12_isOne _ a1) rfl q1704 mvS_12_isOne rfl rfl (Nat.le_of_ble_eq_true rfl) (Nat.le_of_ble_eq_true rfl) (Nat.le_of_ble_eq_true rfl) ⟨Nat.zero_le _, Nat.zero_le _⟩ dX12_shelf_1 (pc2 := 4) rfl rfl (fun x1 m2 => ?_)
  refine lu_if_eq (tgt := 43) X dX12_shelf_4 (pc2 := 7) rfl (by decide) (fun _ => ?_) (fun _ => ?_)
  · exact lu_sub [] rfl (w12_shelf_b43 X hret m2)
  · refine lu_iload_n X dX12_shelf_7 (pc2 := 8) rfl rfl 2 rfl ?_
    refine lu_i2l X dX12_shelf_8 (pc2 := 9) rfl ?_
    refine lu_lconst (v := (0 : Int64)) X dX12_shelf_9 (pc2 := 10) rfl (by decide) ?_
    refine lu_ldc2 X q1327 dX12_shelf_10 (pc2 := 13) rfl ?_
    refine lu_invSi X (c12_in _ a2.toInt64 (0 : Int64) (2 : Int64)) rfl q1261 mvS_12_in rfl rfl (Nat.le_of_ble_eq_true rfl) (Nat.le_of_ble_eq_true rfl) (Nat.le_of_ble_eq_true rfl) ⟨Nat.zero_le _, Nat.zero_le _⟩ dX12_shelf_13 (pc2 := 16) rfl rfl (fun x3 m4 => ?_)
    refine lu_if_eq (tgt := 43) X dX12_shelf_16 (pc2 := 19) rfl (by decide) (fun _ => ?_) (fun _ => ?_)
    · exact lu_sub [] rfl (w12_shelf_b43 X hret m4)
    · refine lu_iload_n X dX12_shelf_19 (pc2 := 20) rfl rfl 2 rfl ?_
      refine lu_if_ne (tgt := 31) X dX12_shelf_20 (pc2 := 23) rfl (by decide) (fun _ => ?_) (fun _ => ?_)
      · exact w12_shelf_b31 X hret m4
      · refine lu_aload_n X dX12_shelf_23 (pc2 := 24) rfl rfl 0 rfl ?_
        refine lu_iload_n X dX12_shelf_24 (pc2 := 25) rfl rfl 3 rfl ?_
        refine lu_invVi X (c12_isPerson _ a3) rfl q1272 mvV_12_isPerson kM_0 lM_0 (by decide) ⟨_, rfl, rfl⟩ rfl rfl (Nat.le_of_ble_eq_true rfl) (Nat.le_of_ble_eq_true rfl) (Nat.le_of_ble_eq_true rfl) ⟨Nat.zero_le _, Nat.zero_le _⟩ dX12_shelf_25 (pc2 := 28) rfl rfl (fun x10 m11 => ?_)
        refine lu_if_eq (tgt := 43) X dX12_shelf_28 (pc2 := 31) rfl (by decide) (fun _ => ?_) (fun _ => ?_)
        · exact lu_sub [] rfl (w12_shelf_b43 X hret m11)
        · exact w12_shelf_b31 X hret m11

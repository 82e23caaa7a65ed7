/-! WALKS of methods (written by a program out of their instructions): functions of the memory, and contracts -/
theorem dX8_tellComparison_0 : decode cX8_tellComparison 0 = .ok (.aload_n 0, 1) := by decide +kernel
theorem dX8_tellComparison_1 : decode cX8_tellComparison 1 = .ok (.invokevirtual 98, 3) := by decide +kernel
theorem dX8_tellComparison_4 : decode cX8_tellComparison 4 = .ok (.istore_n 1, 1) := by decide +kernel
theorem dX8_tellComparison_5 : decode cX8_tellComparison 5 = .ok (.iload_n 1, 1) := by decide +kernel
theorem dX8_tellComparison_6 : decode cX8_tellComparison 6 = .ok (.ifCond .ge 5, 3) := by decide +kernel
theorem dX8_tellComparison_9 : decode cX8_tellComparison 9 = .ok (.iconst 0, 1) := by decide +kernel
theorem dX8_tellComparison_10 : decode cX8_tellComparison 10 = .ok (.ireturn, 1) := by decide +kernel
theorem dX8_tellComparison_11 : decode cX8_tellComparison 11 = .ok (.aload_n 0, 1) := by decide +kernel
theorem dX8_tellComparison_12 : decode cX8_tellComparison 12 = .ok (.invokevirtual 29, 3) := by decide +kernel
theorem dX8_tellComparison_15 : decode cX8_tellComparison 15 = .ok (.aload_n 0, 1) := by decide +kernel
theorem dX8_tellComparison_16 : decode cX8_tellComparison 16 = .ok (.bipush 60, 2) := by decide +kernel
theorem dX8_tellComparison_18 : decode cX8_tellComparison 18 = .ok (.invokevirtual 72, 3) := by decide +kernel
theorem dX8_tellComparison_21 : decode cX8_tellComparison 21 = .ok (.ifCond .eq 7, 3) := by decide +kernel
theorem dX8_tellComparison_24 : decode cX8_tellComparison 24 = .ok (.iconst 1, 1) := by decide +kernel
theorem dX8_tellComparison_25 : decode cX8_tellComparison 25 = .ok (.goto 30, 3) := by decide +kernel
theorem dX8_tellComparison_28 : decode cX8_tellComparison 28 = .ok (.aload_n 0, 1) := by decide +kernel
theorem dX8_tellComparison_29 : decode cX8_tellComparison 29 = .ok (.bipush 61, 2) := by decide +kernel
theorem dX8_tellComparison_31 : decode cX8_tellComparison 31 = .ok (.invokevirtual 72, 3) := by decide +kernel
theorem dX8_tellComparison_34 : decode cX8_tellComparison 34 = .ok (.ifCond .eq 7, 3) := by decide +kernel
theorem dX8_tellComparison_37 : decode cX8_tellComparison 37 = .ok (.iconst 2, 1) := by decide +kernel
theorem dX8_tellComparison_38 : decode cX8_tellComparison 38 = .ok (.goto 17, 3) := by decide +kernel
theorem dX8_tellComparison_41 : decode cX8_tellComparison 41 = .ok (.aload_n 0, 1) := by decide +kernel
theorem dX8_tellComparison_42 : decode cX8_tellComparison 42 = .ok (.bipush 62, 2) := by decide +kernel
theorem dX8_tellComparison_44 : decode cX8_tellComparison 44 = .ok (.invokevirtual 72, 3) := by decide +kernel
theorem dX8_tellComparison_47 : decode cX8_tellComparison 47 = .ok (.ifCond .eq 7, 3) := by decide +kernel
theorem dX8_tellComparison_50 : decode cX8_tellComparison 50 = .ok (.iconst 3, 1) := by decide +kernel
theorem dX8_tellComparison_51 : decode cX8_tellComparison 51 = .ok (.goto 4, 3) := by decide +kernel
theorem dX8_tellComparison_54 : decode cX8_tellComparison 54 = .ok (.iconst 0, 1) := by decide +kernel
theorem dX8_tellComparison_55 : decode cX8_tellComparison 55 = .ok (.istore_n 2, 1) := by decide +kernel
theorem dX8_tellComparison_56 : decode cX8_tellComparison 56 = .ok (.iload_n 2, 1) := by decide +kernel
theorem dX8_tellComparison_57 : decode cX8_tellComparison 57 = .ok (.ifCond .ne 5, 3) := by decide +kernel
theorem dX8_tellComparison_60 : decode cX8_tellComparison 60 = .ok (.iconst 0, 1) := by decide +kernel
theorem dX8_tellComparison_61 : decode cX8_tellComparison 61 = .ok (.ireturn, 1) := by decide +kernel
theorem dX8_tellComparison_62 : decode cX8_tellComparison 62 = .ok (.aload_n 0, 1) := by decide +kernel
theorem dX8_tellComparison_63 : decode cX8_tellComparison 63 = .ok (.invokevirtual 29, 3) := by decide +kernel
theorem dX8_tellComparison_66 : decode cX8_tellComparison 66 = .ok (.aload_n 0, 1) := by decide +kernel
theorem dX8_tellComparison_67 : decode cX8_tellComparison 67 = .ok (.invokevirtual 98, 3) := by decide +kernel
theorem dX8_tellComparison_70 : decode cX8_tellComparison 70 = .ok (.istore_n 3, 1) := by decide +kernel
theorem dX8_tellComparison_71 : decode cX8_tellComparison 71 = .ok (.iload_n 3, 1) := by decide +kernel
theorem dX8_tellComparison_72 : decode cX8_tellComparison 72 = .ok (.ifCond .ge 5, 3) := by decide +kernel
theorem dX8_tellComparison_75 : decode cX8_tellComparison 75 = .ok (.iconst 0, 1) := by decide +kernel
theorem dX8_tellComparison_76 : decode cX8_tellComparison 76 = .ok (.ireturn, 1) := by decide +kernel
theorem dX8_tellComparison_77 : decode cX8_tellComparison 77 = .ok (.aload_n 0, 1) := by decide +kernel
theorem dX8_tellComparison_78 : decode cX8_tellComparison 78 = .ok (.invokevirtual 29, 3) := by decide +kernel
theorem dX8_tellComparison_81 : decode cX8_tellComparison 81 = .ok (.aload_n 0, 1) := by decide +kernel
theorem dX8_tellComparison_82 : decode cX8_tellComparison 82 = .ok (.getfield 18, 3) := by decide +kernel
theorem dX8_tellComparison_85 : decode cX8_tellComparison 85 = .ok (.iload_n 2, 1) := by decide +kernel
theorem dX8_tellComparison_86 : decode cX8_tellComparison 86 = .ok (.bipush 14, 2) := by decide +kernel
theorem dX8_tellComparison_88 : decode cX8_tellComparison 88 = .ok (.ishl, 1) := by decide +kernel
theorem dX8_tellComparison_89 : decode cX8_tellComparison 89 = .ok (.iload_n 1, 1) := by decide +kernel
theorem dX8_tellComparison_90 : decode cX8_tellComparison 90 = .ok (.ior, 1) := by decide +kernel
theorem dX8_tellComparison_91 : decode cX8_tellComparison 91 = .ok (.bipush 14, 2) := by decide +kernel
theorem dX8_tellComparison_93 : decode cX8_tellComparison 93 = .ok (.ishl, 1) := by decide +kernel
theorem dX8_tellComparison_94 : decode cX8_tellComparison 94 = .ok (.iload_n 3, 1) := by decide +kernel
theorem dX8_tellComparison_95 : decode cX8_tellComparison 95 = .ok (.ior, 1) := by decide +kernel
theorem dX8_tellComparison_96 : decode cX8_tellComparison 96 = .ok (.invokevirtual 84, 3) := by decide +kernel
theorem dX8_tellComparison_99 : decode cX8_tellComparison 99 = .ok (.iconst 1, 1) := by decide +kernel
theorem dX8_tellComparison_100 : decode cX8_tellComparison 100 = .ok (.ireturn, 1) := by decide +kernel
def f8_tellComparison_b55   (v1 : Int32) (s0 : Int32) (m : lu_M) : Option (Int32 × lu_M) :=
  if s0 = 0 then (some ((0 : Int32), m))
  else (lu_bv (f8_advance m) fun m10 =>
  lu_bi (f8_valueNamed m10) fun x11 m12 =>
  if 0 ≤ x11 then (lu_bv (f8_advance m12) fun m13 =>
  lu_bv (f6_add 85 ((((s0 <<< ((14 : Int32) &&& 31)) ||| v1) <<< ((14 : Int32) &&& 31)) ||| x11) m13) fun m14 =>
  some ((1 : Int32), m14))
  else (some ((0 : Int32), m12)))
set_option maxRecDepth 20000 in
theorem w8_tellComparison_b55  {G : lu_G} {ρ : Nat → Nat}   (X : lu_X G RX8 cX8_tellComparison 4 10 242) (hret : (lu_me G).sig.returnType = (some .boolean))   : ∀ (v1 : Int32) (s0 : Int32) (m : lu_M), lu_Ab lu_TC G (lu_Q lu_TC G ρ lu_RVi lu_sn) (f8_tellComparison_b55  v1 s0 m) 55 [(0, .ref (ρ 83)), (1, .int v1)] [.int s0] ρ 0 0 [] m := by
  intro v1 s0 m
  unfold f8_tellComparison_b55
  refine lu_istore_n (lv2 := [(2, .int s0), (0, .ref (ρ 83)), (1, .int v1)]) X dX8_tellComparison_55 (pc2 := 56) rfl rfl (by decide) rfl ?_
  refine lu_iload_n X dX8_tellComparison_56 (pc2 := 57) rfl rfl 0 rfl ?_
  refine lu_if_ne (tgt := 62) X dX8_tellComparison_57 (pc2 := 60) rfl (by decide) (fun _ => ?_) (fun _ => ?_)
  · refine lu_aload_n X dX8_tellComparison_62 (pc2 := 63) rfl rfl 1 rfl ?_
    refine lu_invVv X (c8_advance _) rfl q585 mvV_8_advance kC_83 lC_83 (by decide) ⟨_, rfl, rfl⟩ rfl rfl (Nat.le_of_ble_eq_true rfl) (Nat.le_of_ble_eq_true rfl) (Nat.le_of_ble_eq_true rfl) ⟨Nat.zero_le _, Nat.zero_le _⟩ dX8_tellComparison_63 (pc2 := 66) rfl rfl (fun m10 => ?_)
    refine lu_aload_n X dX8_tellComparison_66 (pc2 := 67) rfl rfl 1 rfl ?_
    refine lu_invVi X (c8_valueNamed _) rfl q685 mvV_8_valueNamed kC_83 lC_83 (by decide) ⟨_, rfl, rfl⟩ rfl rfl (Nat.le_of_ble_eq_true rfl) (Nat.le_of_ble_eq_true rfl) (Nat.le_of_ble_eq_true rfl) ⟨Nat.zero_le _, Nat.zero_le _⟩ dX8_tellComparison_67 (pc2 := 70) rfl rfl (fun x11 m12 => ?_)
    refine lu_istore_n (lv2 := [(3, .int x11), (2, .int s0), (0, .ref (ρ 83)), (1, .int v1)]) X dX8_tellComparison_70 (pc2 := 71) rfl rfl (by decide) rfl ?_
    refine lu_iload_n X dX8_tellComparison_71 (pc2 := 72) rfl rfl 0 rfl ?_
    refine lu_if_ge (tgt := 77) X dX8_tellComparison_72 (pc2 := 75) rfl (by decide) (fun _ => ?_) (fun _ => ?_)
    · refine lu_aload_n X dX8_tellComparison_77 (pc2 := 78) rfl rfl 2 rfl ?_
      refine lu_invVv X (c8_advance _) rfl q585 mvV_8_advance kC_83 lC_83 (by decide) ⟨_, rfl, rfl⟩ rfl rfl (Nat.le_of_ble_eq_true rfl) (Nat.le_of_ble_eq_true rfl) (Nat.le_of_ble_eq_true rfl) ⟨Nat.zero_le _, Nat.zero_le _⟩ dX8_tellComparison_78 (pc2 := 81) rfl rfl (fun m13 => ?_)
      refine lu_aload_n X dX8_tellComparison_81 (pc2 := 82) rfl rfl 2 rfl ?_
      refine lu_getr (r2 := 85) X rfl fl8_18 rfl kC_83 lC_83 dX8_tellComparison_82 (pc2 := 85) rfl ?_
      refine lu_iload_n X dX8_tellComparison_85 (pc2 := 86) rfl rfl 1 rfl ?_
      refine lu_bipush X dX8_tellComparison_86 (pc2 := 88) rfl bp_14 ?_
      refine lu_ishl X dX8_tellComparison_88 (pc2 := 89) rfl ?_
      refine lu_iload_n X dX8_tellComparison_89 (pc2 := 90) rfl rfl 3 rfl ?_
      refine lu_ior X dX8_tellComparison_90 (pc2 := 91) rfl ?_
      refine lu_bipush X dX8_tellComparison_91 (pc2 := 93) rfl bp_14 ?_
      refine lu_ishl X dX8_tellComparison_93 (pc2 := 94) rfl ?_
      refine lu_iload_n X dX8_tellComparison_94 (pc2 := 95) rfl rfl 0 rfl ?_
      refine lu_ior X dX8_tellComparison_95 (pc2 := 96) rfl ?_
      refine lu_invVv X (c6_add _ kC_85 lC_85 ((((s0 <<< ((14 : Int32) &&& 31)) ||| v1) <<< ((14 : Int32) &&& 31)) ||| x11)) rfl q694 mvV_6_add kC_85 lC_85 (by decide) ⟨_, rfl, rfl⟩ rfl rfl (Nat.le_of_ble_eq_true rfl) (Nat.le_of_ble_eq_true rfl) (Nat.le_of_ble_eq_true rfl) ⟨Nat.zero_le _, Nat.zero_le _⟩ dX8_tellComparison_96 (pc2 := 99) rfl rfl (fun m14 => ?_)
      refine lu_iconst X dX8_tellComparison_99 (pc2 := 100) rfl ic_1 ?_
      exact lu_zret X hret (by decide) dX8_tellComparison_100
    · refine lu_iconst X dX8_tellComparison_75 (pc2 := 76) rfl ic_0 ?_
      exact lu_zret X hret (by decide) dX8_tellComparison_76
  · refine lu_iconst X dX8_tellComparison_60 (pc2 := 61) rfl ic_0 ?_
    exact lu_zret X hret (by decide) dX8_tellComparison_61
def f8_tellComparison  (m : lu_M) : Option (Int32 × lu_M) :=
  lu_bi (f8_valueNamed m) fun x1 m2 =>
  if 0 ≤ x1 then (lu_bv (f8_advance m2) fun m3 =>
  lu_bi (f8_isByte (60 : Int32) m3) fun x4 m5 =>
  if x4 = 0 then (lu_bi (f8_isByte (61 : Int32) m5) fun x6 m7 =>
  if x6 = 0 then (lu_bi (f8_isByte (62 : Int32) m7) fun x8 m9 =>
  if x8 = 0 then (f8_tellComparison_b55 x1 (0 : Int32) m9)
  else (f8_tellComparison_b55 x1 (3 : Int32) m9))
  else (f8_tellComparison_b55 x1 (2 : Int32) m7))
  else (f8_tellComparison_b55 x1 (1 : Int32) m5))
  else (some ((0 : Int32), m2))
set_option maxRecDepth 20000 in
theorem c8_tellComparison (l : Launch)    : lu_C lu_TC l yX8_tellComparison cX8_tellComparison 4 (some .boolean) 10 242 (fun ρ sa => [.ref (ρ 83)]) (f8_tellComparison ) lu_RVi lu_sn := by
  refine lu_met (cls := RX8) rfl (by decide +kernel) (fun _ _ => Nat.le_of_ble_eq_true rfl) ?_
  intro G ρ m hl X hret
  subst hl
  change lu_Ab lu_TC G (lu_Q lu_TC G ρ lu_RVi lu_sn) (f8_tellComparison  m) 0 [(0, .ref (ρ 83))] [] ρ 0 0 [] m
  unfold f8_tellComparison
  refine lu_aload_n X dX8_tellComparison_0 (pc2 := 1) rfl rfl 0 rfl ?_
  refine lu_invVi X (c8_valueNamed _) rfl q685 mvV_8_valueNamed kC_83 lC_83 (by decide) ⟨_, rfl, rfl⟩ rfl rfl (Nat.le_of_ble_eq_true rfl) (Nat.le_of_ble_eq_true rfl) (Nat.le_of_ble_eq_true rfl) ⟨Nat.zero_le _, Nat.zero_le _⟩ dX8_tellComparison_1 (pc2 := 4) rfl rfl (fun x1 m2 => ?_)
  refine lu_istore_n (lv2 := [(1, .int x1), (0, .ref (ρ 83))]) X dX8_tellComparison_4 (pc2 := 5) rfl rfl (by decide) rfl ?_
  refine lu_iload_n X dX8_tellComparison_5 (pc2 := 6) rfl rfl 0 rfl ?_
  refine lu_if_ge (tgt := 11) X dX8_tellComparison_6 (pc2 := 9) rfl (by decide) (fun _ => ?_) (fun _ => ?_)
  · refine lu_aload_n X dX8_tellComparison_11 (pc2 := 12) rfl rfl 1 rfl ?_
    refine lu_invVv X (c8_advance _) rfl q585 mvV_8_advance kC_83 lC_83 (by decide) ⟨_, rfl, rfl⟩ rfl rfl (Nat.le_of_ble_eq_true rfl) (Nat.le_of_ble_eq_true rfl) (Nat.le_of_ble_eq_true rfl) ⟨Nat.zero_le _, Nat.zero_le _⟩ dX8_tellComparison_12 (pc2 := 15) rfl rfl (fun m3 => ?_)
    refine lu_aload_n X dX8_tellComparison_15 (pc2 := 16) rfl rfl 1 rfl ?_
    refine lu_bipush X dX8_tellComparison_16 (pc2 := 18) rfl bp_60 ?_
    refine lu_invVi X (c8_isByte _ (60 : Int32)) rfl q677 mvV_8_isByte kC_83 lC_83 (by decide) ⟨_, rfl, rfl⟩ rfl rfl (Nat.le_of_ble_eq_true rfl) (Nat.le_of_ble_eq_true rfl) (Nat.le_of_ble_eq_true rfl) ⟨Nat.zero_le _, Nat.zero_le _⟩ dX8_tellComparison_18 (pc2 := 21) rfl rfl (fun x4 m5 => ?_)
    refine lu_if_eq (tgt := 28) X dX8_tellComparison_21 (pc2 := 24) rfl (by decide) (fun _ => ?_) (fun _ => ?_)
    · refine lu_aload_n X dX8_tellComparison_28 (pc2 := 29) rfl rfl 1 rfl ?_
      refine lu_bipush X dX8_tellComparison_29 (pc2 := 31) rfl bp_61 ?_
      refine lu_invVi X (c8_isByte _ (61 : Int32)) rfl q677 mvV_8_isByte kC_83 lC_83 (by decide) ⟨_, rfl, rfl⟩ rfl rfl (Nat.le_of_ble_eq_true rfl) (Nat.le_of_ble_eq_true rfl) (Nat.le_of_ble_eq_true rfl) ⟨Nat.zero_le _, Nat.zero_le _⟩ dX8_tellComparison_31 (pc2 := 34) rfl rfl (fun x6 m7 => ?_)
      refine lu_if_eq (tgt := 41) X dX8_tellComparison_34 (pc2 := 37) rfl (by decide) (fun _ => ?_) (fun _ => ?_)
      · refine lu_aload_n X dX8_tellComparison_41 (pc2 := 42) rfl rfl 1 rfl ?_
        refine lu_bipush X dX8_tellComparison_42 (pc2 := 44) rfl bp_62 ?_
        refine lu_invVi X (c8_isByte _ (62 : Int32)) rfl q677 mvV_8_isByte kC_83 lC_83 (by decide) ⟨_, rfl, rfl⟩ rfl rfl (Nat.le_of_ble_eq_true rfl) (Nat.le_of_ble_eq_true rfl) (Nat.le_of_ble_eq_true rfl) ⟨Nat.zero_le _, Nat.zero_le _⟩ dX8_tellComparison_44 (pc2 := 47) rfl rfl (fun x8 m9 => ?_)
        refine lu_if_eq (tgt := 54) X dX8_tellComparison_47 (pc2 := 50) rfl (by decide) (fun _ => ?_) (fun _ => ?_)
        · refine lu_iconst X dX8_tellComparison_54 (pc2 := 55) rfl ic_0 ?_
          exact lu_sub [1, 0] rfl (w8_tellComparison_b55 X hret x1 (0 : Int32) m9)
        · refine lu_iconst X dX8_tellComparison_50 (pc2 := 51) rfl ic_3 ?_
          refine lu_goto (tgt := 55) X dX8_tellComparison_51 (by decide) ?_
          exact lu_sub [1, 0] rfl (w8_tellComparison_b55 X hret x1 (3 : Int32) m9)
      · refine lu_iconst X dX8_tellComparison_37 (pc2 := 38) rfl ic_2 ?_
        refine lu_goto (tgt := 55) X dX8_tellComparison_38 (by decide) ?_
        exact lu_sub [1, 0] rfl (w8_tellComparison_b55 X hret x1 (2 : Int32) m7)
    · refine lu_iconst X dX8_tellComparison_24 (pc2 := 25) rfl ic_1 ?_
      refine lu_goto (tgt := 55) X dX8_tellComparison_25 (by decide) ?_
      exact lu_sub [1, 0] rfl (w8_tellComparison_b55 X hret x1 (1 : Int32) m5)
  · refine lu_iconst X dX8_tellComparison_9 (pc2 := 10) rfl ic_0 ?_
    exact lu_zret X hret (by decide) dX8_tellComparison_10

theorem dX8_tellOne_0 : decode cX8_tellOne 0 = .ok (.iconst 0, 1) := by decide +kernel
theorem dX8_tellOne_1 : decode cX8_tellOne 1 = .ok (.istore_n 2, 1) := by decide +kernel
theorem dX8_tellOne_2 : decode cX8_tellOne 2 = .ok (.iconst 0, 1) := by decide +kernel
theorem dX8_tellOne_3 : decode cX8_tellOne 3 = .ok (.istore_n 3, 1) := by decide +kernel
theorem dX8_tellOne_4 : decode cX8_tellOne 4 = .ok (.iload_n 3, 1) := by decide +kernel
theorem dX8_tellOne_5 : decode cX8_tellOne 5 = .ok (.sipush 200, 3) := by decide +kernel
theorem dX8_tellOne_8 : decode cX8_tellOne 8 = .ok (.if_icmp .ge 25, 3) := by decide +kernel
theorem dX8_tellOne_11 : decode cX8_tellOne 11 = .ok (.aload_n 0, 1) := by decide +kernel
theorem dX8_tellOne_12 : decode cX8_tellOne 12 = .ok (.ldc 93, 2) := by decide +kernel
theorem dX8_tellOne_14 : decode cX8_tellOne 14 = .ok (.invokevirtual 54, 3) := by decide +kernel
theorem dX8_tellOne_17 : decode cX8_tellOne 17 = .ok (.ifCond .eq 16, 3) := by decide +kernel
theorem dX8_tellOne_20 : decode cX8_tellOne 20 = .ok (.aload_n 0, 1) := by decide +kernel
theorem dX8_tellOne_21 : decode cX8_tellOne 21 = .ok (.invokevirtual 29, 3) := by decide +kernel
theorem dX8_tellOne_24 : decode cX8_tellOne 24 = .ok (.iinc 2 1, 3) := by decide +kernel
theorem dX8_tellOne_27 : decode cX8_tellOne 27 = .ok (.iinc 3 1, 3) := by decide +kernel
theorem dX8_tellOne_30 : decode cX8_tellOne 30 = .ok (.goto (-26), 3) := by decide +kernel
theorem dX8_tellOne_33 : decode cX8_tellOne 33 = .ok (.aload_n 0, 1) := by decide +kernel
theorem dX8_tellOne_34 : decode cX8_tellOne 34 = .ok (.bipush 40, 2) := by decide +kernel
theorem dX8_tellOne_36 : decode cX8_tellOne 36 = .ok (.invokevirtual 72, 3) := by decide +kernel
theorem dX8_tellOne_39 : decode cX8_tellOne 39 = .ok (.ifCond .eq 42, 3) := by decide +kernel
theorem dX8_tellOne_42 : decode cX8_tellOne 42 = .ok (.iload_n 1, 1) := by decide +kernel
theorem dX8_tellOne_43 : decode cX8_tellOne 43 = .ok (.iconst 3, 1) := by decide +kernel
theorem dX8_tellOne_44 : decode cX8_tellOne 44 = .ok (.if_icmp .lt 5, 3) := by decide +kernel
theorem dX8_tellOne_47 : decode cX8_tellOne 47 = .ok (.iconst 0, 1) := by decide +kernel
theorem dX8_tellOne_48 : decode cX8_tellOne 48 = .ok (.ireturn, 1) := by decide +kernel
theorem dX8_tellOne_49 : decode cX8_tellOne 49 = .ok (.aload_n 0, 1) := by decide +kernel
theorem dX8_tellOne_50 : decode cX8_tellOne 50 = .ok (.invokevirtual 29, 3) := by decide +kernel
theorem dX8_tellOne_53 : decode cX8_tellOne 53 = .ok (.aload_n 0, 1) := by decide +kernel
theorem dX8_tellOne_54 : decode cX8_tellOne 54 = .ok (.iload_n 1, 1) := by decide +kernel
theorem dX8_tellOne_55 : decode cX8_tellOne 55 = .ok (.iconst 1, 1) := by decide +kernel
theorem dX8_tellOne_56 : decode cX8_tellOne 56 = .ok (.iadd, 1) := by decide +kernel
theorem dX8_tellOne_57 : decode cX8_tellOne 57 = .ok (.invokevirtual 58, 3) := by decide +kernel
theorem dX8_tellOne_60 : decode cX8_tellOne 60 = .ok (.ifCond .eq 12, 3) := by decide +kernel
theorem dX8_tellOne_63 : decode cX8_tellOne 63 = .ok (.aload_n 0, 1) := by decide +kernel
theorem dX8_tellOne_64 : decode cX8_tellOne 64 = .ok (.bipush 41, 2) := by decide +kernel
theorem dX8_tellOne_66 : decode cX8_tellOne 66 = .ok (.invokevirtual 72, 3) := by decide +kernel
theorem dX8_tellOne_69 : decode cX8_tellOne 69 = .ok (.ifCond .ne 5, 3) := by decide +kernel
theorem dX8_tellOne_72 : decode cX8_tellOne 72 = .ok (.iconst 0, 1) := by decide +kernel
theorem dX8_tellOne_73 : decode cX8_tellOne 73 = .ok (.ireturn, 1) := by decide +kernel
theorem dX8_tellOne_74 : decode cX8_tellOne 74 = .ok (.aload_n 0, 1) := by decide +kernel
theorem dX8_tellOne_75 : decode cX8_tellOne 75 = .ok (.invokevirtual 29, 3) := by decide +kernel
theorem dX8_tellOne_78 : decode cX8_tellOne 78 = .ok (.goto 12, 3) := by decide +kernel
theorem dX8_tellOne_81 : decode cX8_tellOne 81 = .ok (.aload_n 0, 1) := by decide +kernel
theorem dX8_tellOne_82 : decode cX8_tellOne 82 = .ok (.invokevirtual 95, 3) := by decide +kernel
theorem dX8_tellOne_85 : decode cX8_tellOne 85 = .ok (.ifCond .ne 5, 3) := by decide +kernel
theorem dX8_tellOne_88 : decode cX8_tellOne 88 = .ok (.iconst 0, 1) := by decide +kernel
theorem dX8_tellOne_89 : decode cX8_tellOne 89 = .ok (.ireturn, 1) := by decide +kernel
theorem dX8_tellOne_90 : decode cX8_tellOne 90 = .ok (.iload_n 2, 1) := by decide +kernel
theorem dX8_tellOne_91 : decode cX8_tellOne 91 = .ok (.iconst 2, 1) := by decide +kernel
theorem dX8_tellOne_92 : decode cX8_tellOne 92 = .ok (.irem, 1) := by decide +kernel
theorem dX8_tellOne_93 : decode cX8_tellOne 93 = .ok (.iconst 1, 1) := by decide +kernel
theorem dX8_tellOne_94 : decode cX8_tellOne 94 = .ok (.if_icmp .ne 11, 3) := by decide +kernel
theorem dX8_tellOne_97 : decode cX8_tellOne 97 = .ok (.aload_n 0, 1) := by decide +kernel
theorem dX8_tellOne_98 : decode cX8_tellOne 98 = .ok (.getfield 18, 3) := by decide +kernel
theorem dX8_tellOne_101 : decode cX8_tellOne 101 = .ok (.iconst 0, 1) := by decide +kernel
theorem dX8_tellOne_102 : decode cX8_tellOne 102 = .ok (.invokevirtual 84, 3) := by decide +kernel
theorem dX8_tellOne_105 : decode cX8_tellOne 105 = .ok (.iconst 1, 1) := by decide +kernel
theorem dX8_tellOne_106 : decode cX8_tellOne 106 = .ok (.ireturn, 1) := by decide +kernel
def f8_tellOne_b4B (K33 : Int32 → lu_M → Option (Int32 × lu_M)) (rc : Int32 → lu_M → Option (Int32 × lu_M)) (rec : Int32 → Int32 → lu_M → Option (Int32 × lu_M)) (a1 : Int32) (v2 : Int32) (v3 : Int32) (m : lu_M) : Option (Int32 × lu_M) :=
  if (200 : Int32) ≤ v3 then (K33 v2 m)
  else (lu_bi (f8_isNamed 7 m) fun x1 m2 =>
  if x1 = 0 then (K33 v2 m2)
  else (lu_bv (f8_advance m2) fun m3 =>
  rec (v2 + (1 : Int32)) (v3 + (1 : Int32)) m3))
def f8_tellOne_b4 (K33 : Int32 → lu_M → Option (Int32 × lu_M)) (rc : Int32 → lu_M → Option (Int32 × lu_M)) (a1 : Int32) : Nat → Int32 → Int32 → lu_M → Option (Int32 × lu_M)
  | 0, _, _, _ => none
  | n + 1, v2, v3, m => f8_tellOne_b4B K33 rc (f8_tellOne_b4 K33 rc a1 n) a1 v2 v3 m
set_option maxRecDepth 20000 in
theorem w8_tellOne_b4B {rc : Int32 → lu_M → Option (Int32 × lu_M)} {frc loc : Nat}  {G : lu_G} {ρ : Nat → Nat} {a1 : Int32} {K33 : Int32 → lu_M → Option (Int32 × lu_M)} {rec : Int32 → Int32 → lu_M → Option (Int32 × lu_M)} (X : lu_X G RX8 cX8_tellOne 4 (frc + 11) (loc + 265)) (hret : (lu_me G).sig.returnType = (some .boolean)) (hrc : ∀ (b0 : Int32), lu_C lu_TC (lu_l G) yX8_tellCondition cX8_tellCondition 3 (some .boolean) frc loc (fun ρ _ => [.ref (ρ 83), .int b0]) (fun m => rc b0 m) lu_RVi lu_sn)  (hK33 : ∀ (v2 : Int32) (m : lu_M), lu_Ab lu_TC G (lu_Q lu_TC G ρ lu_RVi lu_sn) (K33 v2 m) 33 [(0, .ref (ρ 83)), (1, .int a1), (2, .int v2)] [] ρ 0 0 [] m) (hrec : ∀ (v2 : Int32) (v3 : Int32) (m : lu_M), lu_Ab lu_TC G (lu_Q lu_TC G ρ lu_RVi lu_sn) (rec v2 v3 m) 4 [(0, .ref (ρ 83)), (1, .int a1), (2, .int v2), (3, .int v3)] [] ρ 0 0 [] m) : ∀ (v2 : Int32) (v3 : Int32) (m : lu_M), lu_Ab lu_TC G (lu_Q lu_TC G ρ lu_RVi lu_sn) (f8_tellOne_b4B K33 rc rec a1 v2 v3 m) 4 [(0, .ref (ρ 83)), (1, .int a1), (2, .int v2), (3, .int v3)] [] ρ 0 0 [] m := by
  intro v2 v3 m
  unfold f8_tellOne_b4B
  refine lu_iload_n X dX8_tellOne_4 (pc2 := 5) rfl rfl 3 rfl ?_
  refine lu_sipush X dX8_tellOne_5 (pc2 := 8) rfl sp_200 ?_
  refine lu_icmp_ge (tgt := 33) X dX8_tellOne_8 (pc2 := 11) rfl (by decide) (fun _ => ?_) (fun _ => ?_)
  · exact lu_sub [0, 1, 2] rfl (hK33 v2 m)
  · refine lu_aload_n X dX8_tellOne_11 (pc2 := 12) rfl rfl 0 rfl ?_
    refine lu_ldcS (j := 7) (tx := "not") X rfl dX8_tellOne_12 (pc2 := 14) rfl ?_
    refine lu_invVi X (c8_isNamed _ (by decide)) rfl q606 mvV_8_isNamed kC_83 lC_83 (by decide) ⟨_, rfl, rfl⟩ rfl rfl (Nat.le_of_ble_eq_true rfl) (by omega) (by omega) ⟨Nat.zero_le _, Nat.zero_le _⟩ dX8_tellOne_14 (pc2 := 17) rfl rfl (fun x1 m2 => ?_)
    refine lu_if_eq (tgt := 33) X dX8_tellOne_17 (pc2 := 20) rfl (by decide) (fun _ => ?_) (fun _ => ?_)
    · exact lu_sub [0, 1, 2] rfl (hK33 v2 m2)
    · refine lu_aload_n X dX8_tellOne_20 (pc2 := 21) rfl rfl 0 rfl ?_
      refine lu_invVv X (c8_advance _) rfl q585 mvV_8_advance kC_83 lC_83 (by decide) ⟨_, rfl, rfl⟩ rfl rfl (Nat.le_of_ble_eq_true rfl) (by omega) (by omega) ⟨Nat.zero_le _, Nat.zero_le _⟩ dX8_tellOne_21 (pc2 := 24) rfl rfl (fun m3 => ?_)
      refine lu_iinc (lv2 := [(2, .int (v2 + (1 : Int32))), (0, .ref (ρ 83)), (1, .int a1), (3, .int v3)]) X dX8_tellOne_24 (pc2 := 27) rfl 2 rfl (lu_ii _ ic_1) (by decide) rfl ?_
      refine lu_iinc (lv2 := [(3, .int (v3 + (1 : Int32))), (2, .int (v2 + (1 : Int32))), (0, .ref (ρ 83)), (1, .int a1)]) X dX8_tellOne_27 (pc2 := 30) rfl 3 rfl (lu_ii _ ic_1) (by decide) rfl ?_
      refine lu_goto (tgt := 4) X dX8_tellOne_30 (by decide) ?_
      exact lu_sub [2, 3, 1, 0] rfl (hrec (v2 + (1 : Int32)) (v3 + (1 : Int32)) m3)
theorem w8_tellOne_b4 {rc : Int32 → lu_M → Option (Int32 × lu_M)} {frc loc : Nat}  {G : lu_G} {ρ : Nat → Nat} {a1 : Int32} {K33 : Int32 → lu_M → Option (Int32 × lu_M)} (X : lu_X G RX8 cX8_tellOne 4 (frc + 11) (loc + 265)) (hret : (lu_me G).sig.returnType = (some .boolean)) (hrc : ∀ (b0 : Int32), lu_C lu_TC (lu_l G) yX8_tellCondition cX8_tellCondition 3 (some .boolean) frc loc (fun ρ _ => [.ref (ρ 83), .int b0]) (fun m => rc b0 m) lu_RVi lu_sn)  (hK33 : ∀ (v2 : Int32) (m : lu_M), lu_Ab lu_TC G (lu_Q lu_TC G ρ lu_RVi lu_sn) (K33 v2 m) 33 [(0, .ref (ρ 83)), (1, .int a1), (2, .int v2)] [] ρ 0 0 [] m) : ∀ (n : Nat) (v2 : Int32) (v3 : Int32) (m : lu_M), lu_Ab lu_TC G (lu_Q lu_TC G ρ lu_RVi lu_sn) (f8_tellOne_b4 K33 rc a1 n v2 v3 m) 4 [(0, .ref (ρ 83)), (1, .int a1), (2, .int v2), (3, .int v3)] [] ρ 0 0 [] m := by
  intro n
  induction n with
  | zero => intro v2 v3 m; exact lu_none
  | succ n ih => intro v2 v3 m; exact w8_tellOne_b4B X hret hrc hK33 ih v2 v3 m
def f8_tellOne_b105  (rc : Int32 → lu_M → Option (Int32 × lu_M)) (a1 : Int32)  (m : lu_M) : Option (Int32 × lu_M) :=
  some ((1 : Int32), m)
set_option maxRecDepth 20000 in
theorem w8_tellOne_b105 {rc : Int32 → lu_M → Option (Int32 × lu_M)} {frc loc : Nat}  {G : lu_G} {ρ : Nat → Nat} {a1 : Int32}  (X : lu_X G RX8 cX8_tellOne 4 (frc + 11) (loc + 265)) (hret : (lu_me G).sig.returnType = (some .boolean)) (hrc : ∀ (b0 : Int32), lu_C lu_TC (lu_l G) yX8_tellCondition cX8_tellCondition 3 (some .boolean) frc loc (fun ρ _ => [.ref (ρ 83), .int b0]) (fun m => rc b0 m) lu_RVi lu_sn)   : ∀  (m : lu_M), lu_Ab lu_TC G (lu_Q lu_TC G ρ lu_RVi lu_sn) (f8_tellOne_b105 rc a1 m) 105 [] [] ρ 0 0 [] m := by
  intro  m
  unfold f8_tellOne_b105
  refine lu_iconst X dX8_tellOne_105 (pc2 := 106) rfl ic_1 ?_
  exact lu_zret X hret (by decide) dX8_tellOne_106
def f8_tellOne_b90  (rc : Int32 → lu_M → Option (Int32 × lu_M)) (a1 : Int32) (v2 : Int32) (m : lu_M) : Option (Int32 × lu_M) :=
  if (v2 - v2 / (2 : Int32) * (2 : Int32)) = (1 : Int32) then (lu_bv (f6_add 85 (0 : Int32) m) fun m8 =>
  f8_tellOne_b105 rc a1 m8)
  else (f8_tellOne_b105 rc a1 m)
set_option maxRecDepth 20000 in
theorem w8_tellOne_b90 {rc : Int32 → lu_M → Option (Int32 × lu_M)} {frc loc : Nat}  {G : lu_G} {ρ : Nat → Nat} {a1 : Int32}  (X : lu_X G RX8 cX8_tellOne 4 (frc + 11) (loc + 265)) (hret : (lu_me G).sig.returnType = (some .boolean)) (hrc : ∀ (b0 : Int32), lu_C lu_TC (lu_l G) yX8_tellCondition cX8_tellCondition 3 (some .boolean) frc loc (fun ρ _ => [.ref (ρ 83), .int b0]) (fun m => rc b0 m) lu_RVi lu_sn)   : ∀ (v2 : Int32) (m : lu_M), lu_Ab lu_TC G (lu_Q lu_TC G ρ lu_RVi lu_sn) (f8_tellOne_b90 rc a1 v2 m) 90 [(0, .ref (ρ 83)), (2, .int v2)] [] ρ 0 0 [] m := by
  intro v2 m
  unfold f8_tellOne_b90
  refine lu_iload_n X dX8_tellOne_90 (pc2 := 91) rfl rfl 1 rfl ?_
  refine lu_iconst X dX8_tellOne_91 (pc2 := 92) rfl ic_2 ?_
  refine lu_iremK X dX8_tellOne_92 (pc2 := 93) rfl (by decide) ?_
  refine lu_iconst X dX8_tellOne_93 (pc2 := 94) rfl ic_1 ?_
  refine lu_icmp_ne (tgt := 105) X dX8_tellOne_94 (pc2 := 97) rfl (by decide) (fun _ => ?_) (fun _ => ?_)
  · exact lu_sub [] rfl (w8_tellOne_b105 X hret hrc m)
  · refine lu_aload_n X dX8_tellOne_97 (pc2 := 98) rfl rfl 0 rfl ?_
    refine lu_getr (r2 := 85) X rfl fl8_18 rfl kC_83 lC_83 dX8_tellOne_98 (pc2 := 101) rfl ?_
    refine lu_iconst X dX8_tellOne_101 (pc2 := 102) rfl ic_0 ?_
    refine lu_invVv X (c6_add _ kC_85 lC_85 (0 : Int32)) rfl q694 mvV_6_add kC_85 lC_85 (by decide) ⟨_, rfl, rfl⟩ rfl rfl (Nat.le_of_ble_eq_true rfl) (by omega) (by omega) ⟨Nat.zero_le _, Nat.zero_le _⟩ dX8_tellOne_102 (pc2 := 105) rfl rfl (fun m8 => ?_)
    exact lu_sub [] rfl (w8_tellOne_b105 X hret hrc m8)
def f8_tellOne_b72  (rc : Int32 → lu_M → Option (Int32 × lu_M)) (a1 : Int32)  (m : lu_M) : Option (Int32 × lu_M) :=
  some ((0 : Int32), m)
set_option maxRecDepth 20000 in
theorem w8_tellOne_b72 {rc : Int32 → lu_M → Option (Int32 × lu_M)} {frc loc : Nat}  {G : lu_G} {ρ : Nat → Nat} {a1 : Int32}  (X : lu_X G RX8 cX8_tellOne 4 (frc + 11) (loc + 265)) (hret : (lu_me G).sig.returnType = (some .boolean)) (hrc : ∀ (b0 : Int32), lu_C lu_TC (lu_l G) yX8_tellCondition cX8_tellCondition 3 (some .boolean) frc loc (fun ρ _ => [.ref (ρ 83), .int b0]) (fun m => rc b0 m) lu_RVi lu_sn)   : ∀  (m : lu_M), lu_Ab lu_TC G (lu_Q lu_TC G ρ lu_RVi lu_sn) (f8_tellOne_b72 rc a1 m) 72 [] [] ρ 0 0 [] m := by
  intro  m
  unfold f8_tellOne_b72
  refine lu_iconst X dX8_tellOne_72 (pc2 := 73) rfl ic_0 ?_
  exact lu_zret X hret (by decide) dX8_tellOne_73
def f8_tellOne_b33  (rc : Int32 → lu_M → Option (Int32 × lu_M)) (a1 : Int32) (v2 : Int32) (m : lu_M) : Option (Int32 × lu_M) :=
  lu_bi (f8_isByte (40 : Int32) m) fun x4 m5 =>
  if x4 = 0 then (lu_bi (f8_tellComparison m5) fun x6 m7 =>
  if x6 = 0 then (some ((0 : Int32), m7))
  else (f8_tellOne_b90 rc a1 v2 m7))
  else (if a1 < (3 : Int32) then (lu_bv (f8_advance m5) fun m9 =>
  lu_bi (rc (a1 + (1 : Int32)) m9) fun x10 m11 =>
  if x10 = 0 then (f8_tellOne_b72 rc a1 m11)
  else (lu_bi (f8_isByte (41 : Int32) m11) fun x12 m13 =>
  if x12 = 0 then (f8_tellOne_b72 rc a1 m13)
  else (lu_bv (f8_advance m13) fun m14 =>
  f8_tellOne_b90 rc a1 v2 m14)))
  else (some ((0 : Int32), m5)))
set_option maxRecDepth 20000 in
theorem w8_tellOne_b33 {rc : Int32 → lu_M → Option (Int32 × lu_M)} {frc loc : Nat}  {G : lu_G} {ρ : Nat → Nat} {a1 : Int32}  (X : lu_X G RX8 cX8_tellOne 4 (frc + 11) (loc + 265)) (hret : (lu_me G).sig.returnType = (some .boolean)) (hrc : ∀ (b0 : Int32), lu_C lu_TC (lu_l G) yX8_tellCondition cX8_tellCondition 3 (some .boolean) frc loc (fun ρ _ => [.ref (ρ 83), .int b0]) (fun m => rc b0 m) lu_RVi lu_sn)   : ∀ (v2 : Int32) (m : lu_M), lu_Ab lu_TC G (lu_Q lu_TC G ρ lu_RVi lu_sn) (f8_tellOne_b33 rc a1 v2 m) 33 [(0, .ref (ρ 83)), (1, .int a1), (2, .int v2)] [] ρ 0 0 [] m := by
  intro v2 m
  unfold f8_tellOne_b33
  refine lu_aload_n X dX8_tellOne_33 (pc2 := 34) rfl rfl 0 rfl ?_
  refine lu_bipush X dX8_tellOne_34 (pc2 := 36) rfl bp_40 ?_
  refine lu_invVi X (c8_isByte _ (40 : Int32)) rfl q677 mvV_8_isByte kC_83 lC_83 (by decide) ⟨_, rfl, rfl⟩ rfl rfl (Nat.le_of_ble_eq_true rfl) (by omega) (by omega) ⟨Nat.zero_le _, Nat.zero_le _⟩ dX8_tellOne_36 (pc2 := 39) rfl rfl (fun x4 m5 => ?_)
  refine lu_if_eq (tgt := 81) X dX8_tellOne_39 (pc2 := 42) rfl (by decide) (fun _ => ?_) (fun _ => ?_)
  · refine lu_aload_n X dX8_tellOne_81 (pc2 := 82) rfl rfl 0 rfl ?_
    refine lu_invVi X (c8_tellComparison _) rfl q681 mvV_8_tellComparison kC_83 lC_83 (by decide) ⟨_, rfl, rfl⟩ rfl rfl (Nat.le_of_ble_eq_true rfl) (by omega) (by omega) ⟨Nat.zero_le _, Nat.zero_le _⟩ dX8_tellOne_82 (pc2 := 85) rfl rfl (fun x6 m7 => ?_)
    refine lu_if_ne (tgt := 90) X dX8_tellOne_85 (pc2 := 88) rfl (by decide) (fun _ => ?_) (fun _ => ?_)
    · exact lu_sub [0, 2] rfl (w8_tellOne_b90 X hret hrc v2 m7)
    · refine lu_iconst X dX8_tellOne_88 (pc2 := 89) rfl ic_0 ?_
      exact lu_zret X hret (by decide) dX8_tellOne_89
  · refine lu_iload_n X dX8_tellOne_42 (pc2 := 43) rfl rfl 1 rfl ?_
    refine lu_iconst X dX8_tellOne_43 (pc2 := 44) rfl ic_3 ?_
    refine lu_icmp_lt (tgt := 49) X dX8_tellOne_44 (pc2 := 47) rfl (by decide) (fun _ => ?_) (fun _ => ?_)
    · refine lu_aload_n X dX8_tellOne_49 (pc2 := 50) rfl rfl 0 rfl ?_
      refine lu_invVv X (c8_advance _) rfl q585 mvV_8_advance kC_83 lC_83 (by decide) ⟨_, rfl, rfl⟩ rfl rfl (Nat.le_of_ble_eq_true rfl) (by omega) (by omega) ⟨Nat.zero_le _, Nat.zero_le _⟩ dX8_tellOne_50 (pc2 := 53) rfl rfl (fun m9 => ?_)
      refine lu_aload_n X dX8_tellOne_53 (pc2 := 54) rfl rfl 0 rfl ?_
      refine lu_iload_n X dX8_tellOne_54 (pc2 := 55) rfl rfl 1 rfl ?_
      refine lu_iconst X dX8_tellOne_55 (pc2 := 56) rfl ic_1 ?_
      refine lu_iadd X dX8_tellOne_56 (pc2 := 57) rfl ?_
      refine lu_invVi X (hrc (a1 + (1 : Int32))) rfl q664 mvV_8_tellCondition kC_83 lC_83 (by decide) ⟨_, rfl, rfl⟩ rfl rfl (Nat.le_of_ble_eq_true rfl) (by omega) (by omega) ⟨Nat.zero_le _, Nat.zero_le _⟩ dX8_tellOne_57 (pc2 := 60) rfl rfl (fun x10 m11 => ?_)
      refine lu_if_eq (tgt := 72) X dX8_tellOne_60 (pc2 := 63) rfl (by decide) (fun _ => ?_) (fun _ => ?_)
      · exact lu_sub [] rfl (w8_tellOne_b72 X hret hrc m11)
      · refine lu_aload_n X dX8_tellOne_63 (pc2 := 64) rfl rfl 0 rfl ?_
        refine lu_bipush X dX8_tellOne_64 (pc2 := 66) rfl bp_41 ?_
        refine lu_invVi X (c8_isByte _ (41 : Int32)) rfl q677 mvV_8_isByte kC_83 lC_83 (by decide) ⟨_, rfl, rfl⟩ rfl rfl (Nat.le_of_ble_eq_true rfl) (by omega) (by omega) ⟨Nat.zero_le _, Nat.zero_le _⟩ dX8_tellOne_66 (pc2 := 69) rfl rfl (fun x12 m13 => ?_)
        refine lu_if_ne (tgt := 74) X dX8_tellOne_69 (pc2 := 72) rfl (by decide) (fun _ => ?_) (fun _ => ?_)
        · refine lu_aload_n X dX8_tellOne_74 (pc2 := 75) rfl rfl 0 rfl ?_
          refine lu_invVv X (c8_advance _) rfl q585 mvV_8_advance kC_83 lC_83 (by decide) ⟨_, rfl, rfl⟩ rfl rfl (Nat.le_of_ble_eq_true rfl) (by omega) (by omega) ⟨Nat.zero_le _, Nat.zero_le _⟩ dX8_tellOne_75 (pc2 := 78) rfl rfl (fun m14 => ?_)
          refine lu_goto (tgt := 90) X dX8_tellOne_78 (by decide) ?_
          exact lu_sub [0, 2] rfl (w8_tellOne_b90 X hret hrc v2 m14)
        · exact lu_sub [] rfl (w8_tellOne_b72 X hret hrc m13)
    · refine lu_iconst X dX8_tellOne_47 (pc2 := 48) rfl ic_0 ?_
      exact lu_zret X hret (by decide) dX8_tellOne_48
def f8_tellOne (rc : Int32 → lu_M → Option (Int32 × lu_M)) (a1 : Int32) (m : lu_M) : Option (Int32 × lu_M) :=
  f8_tellOne_b4 (f8_tellOne_b33 rc a1) rc a1 lu_fu (0 : Int32) (0 : Int32) m
set_option maxRecDepth 20000 in
theorem c8_tellOne {rc : Int32 → lu_M → Option (Int32 × lu_M)} {frc loc : Nat} (l : Launch) (hrc : ∀ (b0 : Int32), lu_C lu_TC (l) yX8_tellCondition cX8_tellCondition 3 (some .boolean) frc loc (fun ρ _ => [.ref (ρ 83), .int b0]) (fun m => rc b0 m) lu_RVi lu_sn)   (a1 : Int32) : lu_C lu_TC l yX8_tellOne cX8_tellOne 4 (some .boolean) (frc + 11) (loc + 265) (fun ρ sa => [.ref (ρ 83), .int a1]) (f8_tellOne rc a1) lu_RVi lu_sn := by
  refine lu_met (cls := RX8) rfl (by decide +kernel) (fun _ _ => Nat.le_of_ble_eq_true rfl) ?_
  intro G ρ m hl X hret
  subst hl
  change lu_Ab lu_TC G (lu_Q lu_TC G ρ lu_RVi lu_sn) (f8_tellOne rc a1 m) 0 [(0, .ref (ρ 83)), (1, .int a1)] [] ρ 0 0 [] m
  unfold f8_tellOne
  refine lu_iconst X dX8_tellOne_0 (pc2 := 1) rfl ic_0 ?_
  refine lu_istore_n (lv2 := [(2, .int (0 : Int32)), (0, .ref (ρ 83)), (1, .int a1)]) X dX8_tellOne_1 (pc2 := 2) rfl rfl (by decide) rfl ?_
  refine lu_iconst X dX8_tellOne_2 (pc2 := 3) rfl ic_0 ?_
  refine lu_istore_n (lv2 := [(3, .int (0 : Int32)), (2, .int (0 : Int32)), (0, .ref (ρ 83)), (1, .int a1)]) X dX8_tellOne_3 (pc2 := 4) rfl rfl (by decide) rfl ?_
  exact lu_sub [2, 3, 1, 0] rfl (w8_tellOne_b4 X hret hrc (w8_tellOne_b33 X hret hrc) lu_fu (0 : Int32) (0 : Int32) m)

theorem dX8_tellAllOf_0 : decode cX8_tellAllOf 0 = .ok (.aload_n 0, 1) := by decide +kernel
theorem dX8_tellAllOf_1 : decode cX8_tellAllOf 1 = .ok (.iload_n 1, 1) := by decide +kernel
theorem dX8_tellAllOf_2 : decode cX8_tellAllOf 2 = .ok (.invokevirtual 88, 3) := by decide +kernel
theorem dX8_tellAllOf_5 : decode cX8_tellAllOf 5 = .ok (.ifCond .ne 5, 3) := by decide +kernel
theorem dX8_tellAllOf_8 : decode cX8_tellAllOf 8 = .ok (.iconst 0, 1) := by decide +kernel
theorem dX8_tellAllOf_9 : decode cX8_tellAllOf 9 = .ok (.ireturn, 1) := by decide +kernel
theorem dX8_tellAllOf_10 : decode cX8_tellAllOf 10 = .ok (.iconst 0, 1) := by decide +kernel
theorem dX8_tellAllOf_11 : decode cX8_tellAllOf 11 = .ok (.istore_n 2, 1) := by decide +kernel
theorem dX8_tellAllOf_12 : decode cX8_tellAllOf 12 = .ok (.iload_n 2, 1) := by decide +kernel
theorem dX8_tellAllOf_13 : decode cX8_tellAllOf 13 = .ok (.sipush 200, 3) := by decide +kernel
theorem dX8_tellAllOf_16 : decode cX8_tellAllOf 16 = .ok (.if_icmp .ge 40, 3) := by decide +kernel
theorem dX8_tellAllOf_19 : decode cX8_tellAllOf 19 = .ok (.aload_n 0, 1) := by decide +kernel
theorem dX8_tellAllOf_20 : decode cX8_tellAllOf 20 = .ok (.ldc 91, 2) := by decide +kernel
theorem dX8_tellAllOf_22 : decode cX8_tellAllOf 22 = .ok (.invokevirtual 54, 3) := by decide +kernel
theorem dX8_tellAllOf_25 : decode cX8_tellAllOf 25 = .ok (.ifCond .eq 31, 3) := by decide +kernel
theorem dX8_tellAllOf_28 : decode cX8_tellAllOf 28 = .ok (.aload_n 0, 1) := by decide +kernel
theorem dX8_tellAllOf_29 : decode cX8_tellAllOf 29 = .ok (.invokevirtual 29, 3) := by decide +kernel
theorem dX8_tellAllOf_32 : decode cX8_tellAllOf 32 = .ok (.aload_n 0, 1) := by decide +kernel
theorem dX8_tellAllOf_33 : decode cX8_tellAllOf 33 = .ok (.iload_n 1, 1) := by decide +kernel
theorem dX8_tellAllOf_34 : decode cX8_tellAllOf 34 = .ok (.invokevirtual 88, 3) := by decide +kernel
theorem dX8_tellAllOf_37 : decode cX8_tellAllOf 37 = .ok (.ifCond .ne 5, 3) := by decide +kernel
theorem dX8_tellAllOf_40 : decode cX8_tellAllOf 40 = .ok (.iconst 0, 1) := by decide +kernel
theorem dX8_tellAllOf_41 : decode cX8_tellAllOf 41 = .ok (.ireturn, 1) := by decide +kernel
theorem dX8_tellAllOf_42 : decode cX8_tellAllOf 42 = .ok (.aload_n 0, 1) := by decide +kernel
theorem dX8_tellAllOf_43 : decode cX8_tellAllOf 43 = .ok (.getfield 18, 3) := by decide +kernel
theorem dX8_tellAllOf_46 : decode cX8_tellAllOf 46 = .ok (.iconst 1, 1) := by decide +kernel
theorem dX8_tellAllOf_47 : decode cX8_tellAllOf 47 = .ok (.invokevirtual 84, 3) := by decide +kernel
theorem dX8_tellAllOf_50 : decode cX8_tellAllOf 50 = .ok (.iinc 2 1, 3) := by decide +kernel
theorem dX8_tellAllOf_53 : decode cX8_tellAllOf 53 = .ok (.goto (-41), 3) := by decide +kernel
theorem dX8_tellAllOf_56 : decode cX8_tellAllOf 56 = .ok (.iconst 1, 1) := by decide +kernel
theorem dX8_tellAllOf_57 : decode cX8_tellAllOf 57 = .ok (.ireturn, 1) := by decide +kernel
def f8_tellAllOf_b12B (K40 : lu_M → Option (Int32 × lu_M)) (K56 : lu_M → Option (Int32 × lu_M)) (rc : Int32 → lu_M → Option (Int32 × lu_M)) (rec : Int32 → lu_M → Option (Int32 × lu_M)) (a1 : Int32) (v2 : Int32) (m : lu_M) : Option (Int32 × lu_M) :=
  if (200 : Int32) ≤ v2 then (K56 m)
  else (lu_bi (f8_isNamed 13 m) fun x3 m4 =>
  if x3 = 0 then (K56 m4)
  else (lu_bv (f8_advance m4) fun m5 =>
  lu_bi (f8_tellOne rc a1 m5) fun x6 m7 =>
  if x6 = 0 then (K40 m7)
  else (lu_bv (f6_add 85 (1 : Int32) m7) fun m8 =>
  rec (v2 + (1 : Int32)) m8)))
def f8_tellAllOf_b12 (K40 : lu_M → Option (Int32 × lu_M)) (K56 : lu_M → Option (Int32 × lu_M)) (rc : Int32 → lu_M → Option (Int32 × lu_M)) (a1 : Int32) : Nat → Int32 → lu_M → Option (Int32 × lu_M)
  | 0, _, _ => none
  | n + 1, v2, m => f8_tellAllOf_b12B K40 K56 rc (f8_tellAllOf_b12 K40 K56 rc a1 n) a1 v2 m
set_option maxRecDepth 20000 in
theorem w8_tellAllOf_b12B {rc : Int32 → lu_M → Option (Int32 × lu_M)} {frc loc : Nat}  {G : lu_G} {ρ : Nat → Nat} {a1 : Int32} {K40 : lu_M → Option (Int32 × lu_M)} {K56 : lu_M → Option (Int32 × lu_M)} {rec : Int32 → lu_M → Option (Int32 × lu_M)} (X : lu_X G RX8 cX8_tellAllOf 3 (frc + 12) (loc + 288)) (hret : (lu_me G).sig.returnType = (some .boolean)) (hrc : ∀ (b0 : Int32), lu_C lu_TC (lu_l G) yX8_tellCondition cX8_tellCondition 3 (some .boolean) frc loc (fun ρ _ => [.ref (ρ 83), .int b0]) (fun m => rc b0 m) lu_RVi lu_sn)  (hK40 : ∀  (m : lu_M), lu_Ab lu_TC G (lu_Q lu_TC G ρ lu_RVi lu_sn) (K40 m) 40 [] [] ρ 0 0 [] m) (hK56 : ∀  (m : lu_M), lu_Ab lu_TC G (lu_Q lu_TC G ρ lu_RVi lu_sn) (K56 m) 56 [] [] ρ 0 0 [] m) (hrec : ∀ (v2 : Int32) (m : lu_M), lu_Ab lu_TC G (lu_Q lu_TC G ρ lu_RVi lu_sn) (rec v2 m) 12 [(0, .ref (ρ 83)), (1, .int a1), (2, .int v2)] [] ρ 0 0 [] m) : ∀ (v2 : Int32) (m : lu_M), lu_Ab lu_TC G (lu_Q lu_TC G ρ lu_RVi lu_sn) (f8_tellAllOf_b12B K40 K56 rc rec a1 v2 m) 12 [(0, .ref (ρ 83)), (1, .int a1), (2, .int v2)] [] ρ 0 0 [] m := by
  intro v2 m
  unfold f8_tellAllOf_b12B
  refine lu_iload_n X dX8_tellAllOf_12 (pc2 := 13) rfl rfl 2 rfl ?_
  refine lu_sipush X dX8_tellAllOf_13 (pc2 := 16) rfl sp_200 ?_
  refine lu_icmp_ge (tgt := 56) X dX8_tellAllOf_16 (pc2 := 19) rfl (by decide) (fun _ => ?_) (fun _ => ?_)
  · exact lu_sub [] rfl (hK56 m)
  · refine lu_aload_n X dX8_tellAllOf_19 (pc2 := 20) rfl rfl 0 rfl ?_
    refine lu_ldcS (j := 13) (tx := "and") X rfl dX8_tellAllOf_20 (pc2 := 22) rfl ?_
    refine lu_invVi X (c8_isNamed _ (by decide)) rfl q606 mvV_8_isNamed kC_83 lC_83 (by decide) ⟨_, rfl, rfl⟩ rfl rfl (Nat.le_of_ble_eq_true rfl) (by omega) (by omega) ⟨Nat.zero_le _, Nat.zero_le _⟩ dX8_tellAllOf_22 (pc2 := 25) rfl rfl (fun x3 m4 => ?_)
    refine lu_if_eq (tgt := 56) X dX8_tellAllOf_25 (pc2 := 28) rfl (by decide) (fun _ => ?_) (fun _ => ?_)
    · exact lu_sub [] rfl (hK56 m4)
    · refine lu_aload_n X dX8_tellAllOf_28 (pc2 := 29) rfl rfl 0 rfl ?_
      refine lu_invVv X (c8_advance _) rfl q585 mvV_8_advance kC_83 lC_83 (by decide) ⟨_, rfl, rfl⟩ rfl rfl (Nat.le_of_ble_eq_true rfl) (by omega) (by omega) ⟨Nat.zero_le _, Nat.zero_le _⟩ dX8_tellAllOf_29 (pc2 := 32) rfl rfl (fun m5 => ?_)
      refine lu_aload_n X dX8_tellAllOf_32 (pc2 := 33) rfl rfl 0 rfl ?_
      refine lu_iload_n X dX8_tellAllOf_33 (pc2 := 34) rfl rfl 1 rfl ?_
      refine lu_invVi X (c8_tellOne _ hrc a1) rfl q672 mvV_8_tellOne kC_83 lC_83 (by decide) ⟨_, rfl, rfl⟩ rfl rfl (Nat.le_of_ble_eq_true rfl) (by omega) (by omega) ⟨Nat.zero_le _, Nat.zero_le _⟩ dX8_tellAllOf_34 (pc2 := 37) rfl rfl (fun x6 m7 => ?_)
      refine lu_if_ne (tgt := 42) X dX8_tellAllOf_37 (pc2 := 40) rfl (by decide) (fun _ => ?_) (fun _ => ?_)
      · refine lu_aload_n X dX8_tellAllOf_42 (pc2 := 43) rfl rfl 0 rfl ?_
        refine lu_getr (r2 := 85) X rfl fl8_18 rfl kC_83 lC_83 dX8_tellAllOf_43 (pc2 := 46) rfl ?_
        refine lu_iconst X dX8_tellAllOf_46 (pc2 := 47) rfl ic_1 ?_
        refine lu_invVv X (c6_add _ kC_85 lC_85 (1 : Int32)) rfl q694 mvV_6_add kC_85 lC_85 (by decide) ⟨_, rfl, rfl⟩ rfl rfl (Nat.le_of_ble_eq_true rfl) (by omega) (by omega) ⟨Nat.zero_le _, Nat.zero_le _⟩ dX8_tellAllOf_47 (pc2 := 50) rfl rfl (fun m8 => ?_)
        refine lu_iinc (lv2 := [(2, .int (v2 + (1 : Int32))), (0, .ref (ρ 83)), (1, .int a1)]) X dX8_tellAllOf_50 (pc2 := 53) rfl 2 rfl (lu_ii _ ic_1) (by decide) rfl ?_
        refine lu_goto (tgt := 12) X dX8_tellAllOf_53 (by decide) ?_
        exact lu_sub [1, 2, 0] rfl (hrec (v2 + (1 : Int32)) m8)
      · exact lu_sub [] rfl (hK40 m7)
theorem w8_tellAllOf_b12 {rc : Int32 → lu_M → Option (Int32 × lu_M)} {frc loc : Nat}  {G : lu_G} {ρ : Nat → Nat} {a1 : Int32} {K40 : lu_M → Option (Int32 × lu_M)} {K56 : lu_M → Option (Int32 × lu_M)} (X : lu_X G RX8 cX8_tellAllOf 3 (frc + 12) (loc + 288)) (hret : (lu_me G).sig.returnType = (some .boolean)) (hrc : ∀ (b0 : Int32), lu_C lu_TC (lu_l G) yX8_tellCondition cX8_tellCondition 3 (some .boolean) frc loc (fun ρ _ => [.ref (ρ 83), .int b0]) (fun m => rc b0 m) lu_RVi lu_sn)  (hK40 : ∀  (m : lu_M), lu_Ab lu_TC G (lu_Q lu_TC G ρ lu_RVi lu_sn) (K40 m) 40 [] [] ρ 0 0 [] m) (hK56 : ∀  (m : lu_M), lu_Ab lu_TC G (lu_Q lu_TC G ρ lu_RVi lu_sn) (K56 m) 56 [] [] ρ 0 0 [] m) : ∀ (n : Nat) (v2 : Int32) (m : lu_M), lu_Ab lu_TC G (lu_Q lu_TC G ρ lu_RVi lu_sn) (f8_tellAllOf_b12 K40 K56 rc a1 n v2 m) 12 [(0, .ref (ρ 83)), (1, .int a1), (2, .int v2)] [] ρ 0 0 [] m := by
  intro n
  induction n with
  | zero => intro v2 m; exact lu_none
  | succ n ih => intro v2 m; exact w8_tellAllOf_b12B X hret hrc hK40 hK56 ih v2 m
def f8_tellAllOf_b40  (rc : Int32 → lu_M → Option (Int32 × lu_M)) (a1 : Int32)  (m : lu_M) : Option (Int32 × lu_M) :=
  some ((0 : Int32), m)
set_option maxRecDepth 20000 in
theorem w8_tellAllOf_b40 {rc : Int32 → lu_M → Option (Int32 × lu_M)} {frc loc : Nat}  {G : lu_G} {ρ : Nat → Nat} {a1 : Int32}  (X : lu_X G RX8 cX8_tellAllOf 3 (frc + 12) (loc + 288)) (hret : (lu_me G).sig.returnType = (some .boolean)) (hrc : ∀ (b0 : Int32), lu_C lu_TC (lu_l G) yX8_tellCondition cX8_tellCondition 3 (some .boolean) frc loc (fun ρ _ => [.ref (ρ 83), .int b0]) (fun m => rc b0 m) lu_RVi lu_sn)   : ∀  (m : lu_M), lu_Ab lu_TC G (lu_Q lu_TC G ρ lu_RVi lu_sn) (f8_tellAllOf_b40 rc a1 m) 40 [] [] ρ 0 0 [] m := by
  intro  m
  unfold f8_tellAllOf_b40
  refine lu_iconst X dX8_tellAllOf_40 (pc2 := 41) rfl ic_0 ?_
  exact lu_zret X hret (by decide) dX8_tellAllOf_41
def f8_tellAllOf_b56  (rc : Int32 → lu_M → Option (Int32 × lu_M)) (a1 : Int32)  (m : lu_M) : Option (Int32 × lu_M) :=
  some ((1 : Int32), m)
set_option maxRecDepth 20000 in
theorem w8_tellAllOf_b56 {rc : Int32 → lu_M → Option (Int32 × lu_M)} {frc loc : Nat}  {G : lu_G} {ρ : Nat → Nat} {a1 : Int32}  (X : lu_X G RX8 cX8_tellAllOf 3 (frc + 12) (loc + 288)) (hret : (lu_me G).sig.returnType = (some .boolean)) (hrc : ∀ (b0 : Int32), lu_C lu_TC (lu_l G) yX8_tellCondition cX8_tellCondition 3 (some .boolean) frc loc (fun ρ _ => [.ref (ρ 83), .int b0]) (fun m => rc b0 m) lu_RVi lu_sn)   : ∀  (m : lu_M), lu_Ab lu_TC G (lu_Q lu_TC G ρ lu_RVi lu_sn) (f8_tellAllOf_b56 rc a1 m) 56 [] [] ρ 0 0 [] m := by
  intro  m
  unfold f8_tellAllOf_b56
  refine lu_iconst X dX8_tellAllOf_56 (pc2 := 57) rfl ic_1 ?_
  exact lu_zret X hret (by decide) dX8_tellAllOf_57
def f8_tellAllOf (rc : Int32 → lu_M → Option (Int32 × lu_M)) (a1 : Int32) (m : lu_M) : Option (Int32 × lu_M) :=
  lu_bi (f8_tellOne rc a1 m) fun x1 m2 =>
  if x1 = 0 then (some ((0 : Int32), m2))
  else (f8_tellAllOf_b12 (f8_tellAllOf_b40 rc a1) (f8_tellAllOf_b56 rc a1) rc a1 lu_fu (0 : Int32) m2)
set_option maxRecDepth 20000 in
theorem c8_tellAllOf {rc : Int32 → lu_M → Option (Int32 × lu_M)} {frc loc : Nat} (l : Launch) (hrc : ∀ (b0 : Int32), lu_C lu_TC (l) yX8_tellCondition cX8_tellCondition 3 (some .boolean) frc loc (fun ρ _ => [.ref (ρ 83), .int b0]) (fun m => rc b0 m) lu_RVi lu_sn)   (a1 : Int32) : lu_C lu_TC l yX8_tellAllOf cX8_tellAllOf 3 (some .boolean) (frc + 12) (loc + 288) (fun ρ sa => [.ref (ρ 83), .int a1]) (f8_tellAllOf rc a1) lu_RVi lu_sn := by
  refine lu_met (cls := RX8) rfl (by decide +kernel) (fun _ _ => Nat.le_of_ble_eq_true rfl) ?_
  intro G ρ m hl X hret
  subst hl
  change lu_Ab lu_TC G (lu_Q lu_TC G ρ lu_RVi lu_sn) (f8_tellAllOf rc a1 m) 0 [(0, .ref (ρ 83)), (1, .int a1)] [] ρ 0 0 [] m
  unfold f8_tellAllOf
  refine lu_aload_n X dX8_tellAllOf_0 (pc2 := 1) rfl rfl 0 rfl ?_
  refine lu_iload_n X dX8_tellAllOf_1 (pc2 := 2) rfl rfl 1 rfl ?_
  refine lu_invVi X (c8_tellOne _ hrc a1) rfl q672 mvV_8_tellOne kC_83 lC_83 (by decide) ⟨_, rfl, rfl⟩ rfl rfl (Nat.le_of_ble_eq_true rfl) (by omega) (by omega) ⟨Nat.zero_le _, Nat.zero_le _⟩ dX8_tellAllOf_2 (pc2 := 5) rfl rfl (fun x1 m2 => ?_)
  refine lu_if_ne (tgt := 10) X dX8_tellAllOf_5 (pc2 := 8) rfl (by decide) (fun _ => ?_) (fun _ => ?_)
  · refine lu_iconst X dX8_tellAllOf_10 (pc2 := 11) rfl ic_0 ?_
    refine lu_istore_n (lv2 := [(2, .int (0 : Int32)), (0, .ref (ρ 83)), (1, .int a1)]) X dX8_tellAllOf_11 (pc2 := 12) rfl rfl (by decide) rfl ?_
    exact lu_sub [1, 2, 0] rfl (w8_tellAllOf_b12 X hret hrc (w8_tellAllOf_b40 X hret hrc) (w8_tellAllOf_b56 X hret hrc) lu_fu (0 : Int32) m2)
  · refine lu_iconst X dX8_tellAllOf_8 (pc2 := 9) rfl ic_0 ?_
    exact lu_zret X hret (by decide) dX8_tellAllOf_9

theorem dX8_tellCondition_0 : decode cX8_tellCondition 0 = .ok (.aload_n 0, 1) := by decide +kernel
theorem dX8_tellCondition_1 : decode cX8_tellCondition 1 = .ok (.iload_n 1, 1) := by decide +kernel
theorem dX8_tellCondition_2 : decode cX8_tellCondition 2 = .ok (.invokevirtual 79, 3) := by decide +kernel
theorem dX8_tellCondition_5 : decode cX8_tellCondition 5 = .ok (.ifCond .ne 5, 3) := by decide +kernel
theorem dX8_tellCondition_8 : decode cX8_tellCondition 8 = .ok (.iconst 0, 1) := by decide +kernel
theorem dX8_tellCondition_9 : decode cX8_tellCondition 9 = .ok (.ireturn, 1) := by decide +kernel
theorem dX8_tellCondition_10 : decode cX8_tellCondition 10 = .ok (.iconst 0, 1) := by decide +kernel
theorem dX8_tellCondition_11 : decode cX8_tellCondition 11 = .ok (.istore_n 2, 1) := by decide +kernel
theorem dX8_tellCondition_12 : decode cX8_tellCondition 12 = .ok (.iload_n 2, 1) := by decide +kernel
theorem dX8_tellCondition_13 : decode cX8_tellCondition 13 = .ok (.sipush 200, 3) := by decide +kernel
theorem dX8_tellCondition_16 : decode cX8_tellCondition 16 = .ok (.if_icmp .ge 40, 3) := by decide +kernel
theorem dX8_tellCondition_19 : decode cX8_tellCondition 19 = .ok (.aload_n 0, 1) := by decide +kernel
theorem dX8_tellCondition_20 : decode cX8_tellCondition 20 = .ok (.ldc 82, 2) := by decide +kernel
theorem dX8_tellCondition_22 : decode cX8_tellCondition 22 = .ok (.invokevirtual 54, 3) := by decide +kernel
theorem dX8_tellCondition_25 : decode cX8_tellCondition 25 = .ok (.ifCond .eq 31, 3) := by decide +kernel
theorem dX8_tellCondition_28 : decode cX8_tellCondition 28 = .ok (.aload_n 0, 1) := by decide +kernel
theorem dX8_tellCondition_29 : decode cX8_tellCondition 29 = .ok (.invokevirtual 29, 3) := by decide +kernel
theorem dX8_tellCondition_32 : decode cX8_tellCondition 32 = .ok (.aload_n 0, 1) := by decide +kernel
theorem dX8_tellCondition_33 : decode cX8_tellCondition 33 = .ok (.iload_n 1, 1) := by decide +kernel
theorem dX8_tellCondition_34 : decode cX8_tellCondition 34 = .ok (.invokevirtual 79, 3) := by decide +kernel
theorem dX8_tellCondition_37 : decode cX8_tellCondition 37 = .ok (.ifCond .ne 5, 3) := by decide +kernel
theorem dX8_tellCondition_40 : decode cX8_tellCondition 40 = .ok (.iconst 0, 1) := by decide +kernel
theorem dX8_tellCondition_41 : decode cX8_tellCondition 41 = .ok (.ireturn, 1) := by decide +kernel
theorem dX8_tellCondition_42 : decode cX8_tellCondition 42 = .ok (.aload_n 0, 1) := by decide +kernel
theorem dX8_tellCondition_43 : decode cX8_tellCondition 43 = .ok (.getfield 18, 3) := by decide +kernel
theorem dX8_tellCondition_46 : decode cX8_tellCondition 46 = .ok (.iconst 2, 1) := by decide +kernel
theorem dX8_tellCondition_47 : decode cX8_tellCondition 47 = .ok (.invokevirtual 84, 3) := by decide +kernel
theorem dX8_tellCondition_50 : decode cX8_tellCondition 50 = .ok (.iinc 2 1, 3) := by decide +kernel
theorem dX8_tellCondition_53 : decode cX8_tellCondition 53 = .ok (.goto (-41), 3) := by decide +kernel
theorem dX8_tellCondition_56 : decode cX8_tellCondition 56 = .ok (.iconst 1, 1) := by decide +kernel
theorem dX8_tellCondition_57 : decode cX8_tellCondition 57 = .ok (.ireturn, 1) := by decide +kernel
def f8_tellCondition_b12B (K40 : lu_M → Option (Int32 × lu_M)) (K56 : lu_M → Option (Int32 × lu_M)) (rc : Int32 → lu_M → Option (Int32 × lu_M)) (rec : Int32 → lu_M → Option (Int32 × lu_M)) (a1 : Int32) (v2 : Int32) (m : lu_M) : Option (Int32 × lu_M) :=
  if (200 : Int32) ≤ v2 then (K56 m)
  else (lu_bi (f8_isNamed 14 m) fun x3 m4 =>
  if x3 = 0 then (K56 m4)
  else (lu_bv (f8_advance m4) fun m5 =>
  lu_bi (f8_tellAllOf rc a1 m5) fun x6 m7 =>
  if x6 = 0 then (K40 m7)
  else (lu_bv (f6_add 85 (2 : Int32) m7) fun m8 =>
  rec (v2 + (1 : Int32)) m8)))
def f8_tellCondition_b12 (K40 : lu_M → Option (Int32 × lu_M)) (K56 : lu_M → Option (Int32 × lu_M)) (rc : Int32 → lu_M → Option (Int32 × lu_M)) (a1 : Int32) : Nat → Int32 → lu_M → Option (Int32 × lu_M)
  | 0, _, _ => none
  | n + 1, v2, m => f8_tellCondition_b12B K40 K56 rc (f8_tellCondition_b12 K40 K56 rc a1 n) a1 v2 m
set_option maxRecDepth 20000 in
theorem w8_tellCondition_b12B {rc : Int32 → lu_M → Option (Int32 × lu_M)} {frc loc : Nat}  {G : lu_G} {ρ : Nat → Nat} {a1 : Int32} {K40 : lu_M → Option (Int32 × lu_M)} {K56 : lu_M → Option (Int32 × lu_M)} {rec : Int32 → lu_M → Option (Int32 × lu_M)} (X : lu_X G RX8 cX8_tellCondition 3 (frc + 13) (loc + 310)) (hret : (lu_me G).sig.returnType = (some .boolean)) (hrc : ∀ (b0 : Int32), lu_C lu_TC (lu_l G) yX8_tellCondition cX8_tellCondition 3 (some .boolean) frc loc (fun ρ _ => [.ref (ρ 83), .int b0]) (fun m => rc b0 m) lu_RVi lu_sn)  (hK40 : ∀  (m : lu_M), lu_Ab lu_TC G (lu_Q lu_TC G ρ lu_RVi lu_sn) (K40 m) 40 [] [] ρ 0 0 [] m) (hK56 : ∀  (m : lu_M), lu_Ab lu_TC G (lu_Q lu_TC G ρ lu_RVi lu_sn) (K56 m) 56 [] [] ρ 0 0 [] m) (hrec : ∀ (v2 : Int32) (m : lu_M), lu_Ab lu_TC G (lu_Q lu_TC G ρ lu_RVi lu_sn) (rec v2 m) 12 [(0, .ref (ρ 83)), (1, .int a1), (2, .int v2)] [] ρ 0 0 [] m) : ∀ (v2 : Int32) (m : lu_M), lu_Ab lu_TC G (lu_Q lu_TC G ρ lu_RVi lu_sn) (f8_tellCondition_b12B K40 K56 rc rec a1 v2 m) 12 [(0, .ref (ρ 83)), (1, .int a1), (2, .int v2)] [] ρ 0 0 [] m := by
  intro v2 m
  unfold f8_tellCondition_b12B
  refine lu_iload_n X dX8_tellCondition_12 (pc2 := 13) rfl rfl 2 rfl ?_
  refine lu_sipush X dX8_tellCondition_13 (pc2 := 16) rfl sp_200 ?_
  refine lu_icmp_ge (tgt := 56) X dX8_tellCondition_16 (pc2 := 19) rfl (by decide) (fun _ => ?_) (fun _ => ?_)
  · exact lu_sub [] rfl (hK56 m)
  · refine lu_aload_n X dX8_tellCondition_19 (pc2 := 20) rfl rfl 0 rfl ?_
    refine lu_ldcS (j := 14) (tx := "or") X rfl dX8_tellCondition_20 (pc2 := 22) rfl ?_
    refine lu_invVi X (c8_isNamed _ (by decide)) rfl q606 mvV_8_isNamed kC_83 lC_83 (by decide) ⟨_, rfl, rfl⟩ rfl rfl (Nat.le_of_ble_eq_true rfl) (by omega) (by omega) ⟨Nat.zero_le _, Nat.zero_le _⟩ dX8_tellCondition_22 (pc2 := 25) rfl rfl (fun x3 m4 => ?_)
    refine lu_if_eq (tgt := 56) X dX8_tellCondition_25 (pc2 := 28) rfl (by decide) (fun _ => ?_) (fun _ => ?_)
    · exact lu_sub [] rfl (hK56 m4)
    · refine lu_aload_n X dX8_tellCondition_28 (pc2 := 29) rfl rfl 0 rfl ?_
      refine lu_invVv X (c8_advance _) rfl q585 mvV_8_advance kC_83 lC_83 (by decide) ⟨_, rfl, rfl⟩ rfl rfl (Nat.le_of_ble_eq_true rfl) (by omega) (by omega) ⟨Nat.zero_le _, Nat.zero_le _⟩ dX8_tellCondition_29 (pc2 := 32) rfl rfl (fun m5 => ?_)
      refine lu_aload_n X dX8_tellCondition_32 (pc2 := 33) rfl rfl 0 rfl ?_
      refine lu_iload_n X dX8_tellCondition_33 (pc2 := 34) rfl rfl 1 rfl ?_
      refine lu_invVi X (c8_tellAllOf _ hrc a1) rfl q668 mvV_8_tellAllOf kC_83 lC_83 (by decide) ⟨_, rfl, rfl⟩ rfl rfl (Nat.le_of_ble_eq_true rfl) (by omega) (by omega) ⟨Nat.zero_le _, Nat.zero_le _⟩ dX8_tellCondition_34 (pc2 := 37) rfl rfl (fun x6 m7 => ?_)
      refine lu_if_ne (tgt := 42) X dX8_tellCondition_37 (pc2 := 40) rfl (by decide) (fun _ => ?_) (fun _ => ?_)
      · refine lu_aload_n X dX8_tellCondition_42 (pc2 := 43) rfl rfl 0 rfl ?_
        refine lu_getr (r2 := 85) X rfl fl8_18 rfl kC_83 lC_83 dX8_tellCondition_43 (pc2 := 46) rfl ?_
        refine lu_iconst X dX8_tellCondition_46 (pc2 := 47) rfl ic_2 ?_
        refine lu_invVv X (c6_add _ kC_85 lC_85 (2 : Int32)) rfl q694 mvV_6_add kC_85 lC_85 (by decide) ⟨_, rfl, rfl⟩ rfl rfl (Nat.le_of_ble_eq_true rfl) (by omega) (by omega) ⟨Nat.zero_le _, Nat.zero_le _⟩ dX8_tellCondition_47 (pc2 := 50) rfl rfl (fun m8 => ?_)
        refine lu_iinc (lv2 := [(2, .int (v2 + (1 : Int32))), (0, .ref (ρ 83)), (1, .int a1)]) X dX8_tellCondition_50 (pc2 := 53) rfl 2 rfl (lu_ii _ ic_1) (by decide) rfl ?_
        refine lu_goto (tgt := 12) X dX8_tellCondition_53 (by decide) ?_
        exact lu_sub [1, 2, 0] rfl (hrec (v2 + (1 : Int32)) m8)
      · exact lu_sub [] rfl (hK40 m7)
theorem w8_tellCondition_b12 {rc : Int32 → lu_M → Option (Int32 × lu_M)} {frc loc : Nat}  {G : lu_G} {ρ : Nat → Nat} {a1 : Int32} {K40 : lu_M → Option (Int32 × lu_M)} {K56 : lu_M → Option (Int32 × lu_M)} (X : lu_X G RX8 cX8_tellCondition 3 (frc + 13) (loc + 310)) (hret : (lu_me G).sig.returnType = (some .boolean)) (hrc : ∀ (b0 : Int32), lu_C lu_TC (lu_l G) yX8_tellCondition cX8_tellCondition 3 (some .boolean) frc loc (fun ρ _ => [.ref (ρ 83), .int b0]) (fun m => rc b0 m) lu_RVi lu_sn)  (hK40 : ∀  (m : lu_M), lu_Ab lu_TC G (lu_Q lu_TC G ρ lu_RVi lu_sn) (K40 m) 40 [] [] ρ 0 0 [] m) (hK56 : ∀  (m : lu_M), lu_Ab lu_TC G (lu_Q lu_TC G ρ lu_RVi lu_sn) (K56 m) 56 [] [] ρ 0 0 [] m) : ∀ (n : Nat) (v2 : Int32) (m : lu_M), lu_Ab lu_TC G (lu_Q lu_TC G ρ lu_RVi lu_sn) (f8_tellCondition_b12 K40 K56 rc a1 n v2 m) 12 [(0, .ref (ρ 83)), (1, .int a1), (2, .int v2)] [] ρ 0 0 [] m := by
  intro n
  induction n with
  | zero => intro v2 m; exact lu_none
  | succ n ih => intro v2 m; exact w8_tellCondition_b12B X hret hrc hK40 hK56 ih v2 m
def f8_tellCondition_b40  (rc : Int32 → lu_M → Option (Int32 × lu_M)) (a1 : Int32)  (m : lu_M) : Option (Int32 × lu_M) :=
  some ((0 : Int32), m)
set_option maxRecDepth 20000 in
theorem w8_tellCondition_b40 {rc : Int32 → lu_M → Option (Int32 × lu_M)} {frc loc : Nat}  {G : lu_G} {ρ : Nat → Nat} {a1 : Int32}  (X : lu_X G RX8 cX8_tellCondition 3 (frc + 13) (loc + 310)) (hret : (lu_me G).sig.returnType = (some .boolean)) (hrc : ∀ (b0 : Int32), lu_C lu_TC (lu_l G) yX8_tellCondition cX8_tellCondition 3 (some .boolean) frc loc (fun ρ _ => [.ref (ρ 83), .int b0]) (fun m => rc b0 m) lu_RVi lu_sn)   : ∀  (m : lu_M), lu_Ab lu_TC G (lu_Q lu_TC G ρ lu_RVi lu_sn) (f8_tellCondition_b40 rc a1 m) 40 [] [] ρ 0 0 [] m := by
  intro  m
  unfold f8_tellCondition_b40
  refine lu_iconst X dX8_tellCondition_40 (pc2 := 41) rfl ic_0 ?_
  exact lu_zret X hret (by decide) dX8_tellCondition_41
def f8_tellCondition_b56  (rc : Int32 → lu_M → Option (Int32 × lu_M)) (a1 : Int32)  (m : lu_M) : Option (Int32 × lu_M) :=
  some ((1 : Int32), m)
set_option maxRecDepth 20000 in
theorem w8_tellCondition_b56 {rc : Int32 → lu_M → Option (Int32 × lu_M)} {frc loc : Nat}  {G : lu_G} {ρ : Nat → Nat} {a1 : Int32}  (X : lu_X G RX8 cX8_tellCondition 3 (frc + 13) (loc + 310)) (hret : (lu_me G).sig.returnType = (some .boolean)) (hrc : ∀ (b0 : Int32), lu_C lu_TC (lu_l G) yX8_tellCondition cX8_tellCondition 3 (some .boolean) frc loc (fun ρ _ => [.ref (ρ 83), .int b0]) (fun m => rc b0 m) lu_RVi lu_sn)   : ∀  (m : lu_M), lu_Ab lu_TC G (lu_Q lu_TC G ρ lu_RVi lu_sn) (f8_tellCondition_b56 rc a1 m) 56 [] [] ρ 0 0 [] m := by
  intro  m
  unfold f8_tellCondition_b56
  refine lu_iconst X dX8_tellCondition_56 (pc2 := 57) rfl ic_1 ?_
  exact lu_zret X hret (by decide) dX8_tellCondition_57
def f8_tellConditionO (rc : Int32 → lu_M → Option (Int32 × lu_M)) (a1 : Int32) (m : lu_M) : Option (Int32 × lu_M) :=
  lu_bi (f8_tellAllOf rc a1 m) fun x1 m2 =>
  if x1 = 0 then (some ((0 : Int32), m2))
  else (f8_tellCondition_b12 (f8_tellCondition_b40 rc a1) (f8_tellCondition_b56 rc a1) rc a1 lu_fu (0 : Int32) m2)
set_option maxRecDepth 20000 in
theorem c8_tellConditionO {rc : Int32 → lu_M → Option (Int32 × lu_M)} {frc loc : Nat} (l : Launch) (hrc : ∀ (b0 : Int32), lu_C lu_TC (l) yX8_tellCondition cX8_tellCondition 3 (some .boolean) frc loc (fun ρ _ => [.ref (ρ 83), .int b0]) (fun m => rc b0 m) lu_RVi lu_sn)   (a1 : Int32) : lu_C lu_TC l yX8_tellCondition cX8_tellCondition 3 (some .boolean) (frc + 13) (loc + 310) (fun ρ sa => [.ref (ρ 83), .int a1]) (f8_tellConditionO rc a1) lu_RVi lu_sn := by
  refine lu_met (cls := RX8) rfl (by decide +kernel) (fun _ _ => Nat.le_of_ble_eq_true rfl) ?_
  intro G ρ m hl X hret
  subst hl
  change lu_Ab lu_TC G (lu_Q lu_TC G ρ lu_RVi lu_sn) (f8_tellConditionO rc a1 m) 0 [(0, .ref (ρ 83)), (1, .int a1)] [] ρ 0 0 [] m
  unfold f8_tellConditionO
  refine lu_aload_n X dX8_tellCondition_0 (pc2 := 1) rfl rfl 0 rfl ?_
  refine lu_iload_n X dX8_tellCondition_1 (pc2 := 2) rfl rfl 1 rfl ?_
  refine lu_invVi X (c8_tellAllOf _ hrc a1) rfl q668 mvV_8_tellAllOf kC_83 lC_83 (by decide) ⟨_, rfl, rfl⟩ rfl rfl (Nat.le_of_ble_eq_true rfl) (by omega) (by omega) ⟨Nat.zero_le _, Nat.zero_le _⟩ dX8_tellCondition_2 (pc2 := 5) rfl rfl (fun x1 m2 => ?_)
  refine lu_if_ne (tgt := 10) X dX8_tellCondition_5 (pc2 := 8) rfl (by decide) (fun _ => ?_) (fun _ => ?_)
  · refine lu_iconst X dX8_tellCondition_10 (pc2 := 11) rfl ic_0 ?_
    refine lu_istore_n (lv2 := [(2, .int (0 : Int32)), (0, .ref (ρ 83)), (1, .int a1)]) X dX8_tellCondition_11 (pc2 := 12) rfl rfl (by decide) rfl ?_
    exact lu_sub [1, 2, 0] rfl (w8_tellCondition_b12 X hret hrc (w8_tellCondition_b40 X hret hrc) (w8_tellCondition_b56 X hret hrc) lu_fu (0 : Int32) m2)
  · refine lu_iconst X dX8_tellCondition_8 (pc2 := 9) rfl ic_0 ?_
    exact lu_zret X hret (by decide) dX8_tellCondition_9
def f8_tellCondition : Nat → Int32 → lu_M → Option (Int32 × lu_M)
  | 0, _, _ => none
  | d + 1, b0, m => f8_tellConditionO (f8_tellCondition d) b0 m
theorem c8_tellCondition (l : Launch) : ∀ (d : Nat) (b0 : Int32), lu_C lu_TC l yX8_tellCondition cX8_tellCondition 3 (some .boolean) (13 * d) (310 * d) (fun ρ _ => [.ref (ρ 83), .int b0]) (fun m => f8_tellCondition d b0 m) lu_RVi lu_sn := by
  intro d
  induction d with
  | zero => intro b0 D cs ρ m sa sz b h; cases h
  | succ d ih => intro b0; exact c8_tellConditionO (frc := 13 * d) (loc := 310 * d) l ih b0

theorem dX8_tellRule_0 : decode cX8_tellRule 0 = .ok (.aload_n 0, 1) := by decide +kernel
theorem dX8_tellRule_1 : decode cX8_tellRule 1 = .ok (.invokevirtual 48, 3) := by decide +kernel
theorem dX8_tellRule_4 : decode cX8_tellRule 4 = .ok (.istore_n 1, 1) := by decide +kernel
theorem dX8_tellRule_5 : decode cX8_tellRule 5 = .ok (.iload_n 1, 1) := by decide +kernel
theorem dX8_tellRule_6 : decode cX8_tellRule 6 = .ok (.ifCond .lt 15, 3) := by decide +kernel
theorem dX8_tellRule_9 : decode cX8_tellRule 9 = .ok (.aload_n 0, 1) := by decide +kernel
theorem dX8_tellRule_10 : decode cX8_tellRule 10 = .ok (.getfield 18, 3) := by decide +kernel
theorem dX8_tellRule_13 : decode cX8_tellRule 13 = .ok (.getfield 39, 3) := by decide +kernel
theorem dX8_tellRule_16 : decode cX8_tellRule 16 = .ok (.bipush 8, 2) := by decide +kernel
theorem dX8_tellRule_18 : decode cX8_tellRule 18 = .ok (.if_icmp .lt 5, 3) := by decide +kernel
theorem dX8_tellRule_21 : decode cX8_tellRule 21 = .ok (.iconst 0, 1) := by decide +kernel
theorem dX8_tellRule_22 : decode cX8_tellRule 22 = .ok (.ireturn, 1) := by decide +kernel
theorem dX8_tellRule_23 : decode cX8_tellRule 23 = .ok (.aload_n 0, 1) := by decide +kernel
theorem dX8_tellRule_24 : decode cX8_tellRule 24 = .ok (.invokevirtual 29, 3) := by decide +kernel
theorem dX8_tellRule_27 : decode cX8_tellRule 27 = .ok (.aload_n 0, 1) := by decide +kernel
theorem dX8_tellRule_28 : decode cX8_tellRule 28 = .ok (.ldc 52, 2) := by decide +kernel
theorem dX8_tellRule_30 : decode cX8_tellRule 30 = .ok (.invokevirtual 54, 3) := by decide +kernel
theorem dX8_tellRule_33 : decode cX8_tellRule 33 = .ok (.ifCond .eq 17, 3) := by decide +kernel
theorem dX8_tellRule_36 : decode cX8_tellRule 36 = .ok (.aload_n 0, 1) := by decide +kernel
theorem dX8_tellRule_37 : decode cX8_tellRule 37 = .ok (.invokevirtual 29, 3) := by decide +kernel
theorem dX8_tellRule_40 : decode cX8_tellRule 40 = .ok (.aload_n 0, 1) := by decide +kernel
theorem dX8_tellRule_41 : decode cX8_tellRule 41 = .ok (.iconst 0, 1) := by decide +kernel
theorem dX8_tellRule_42 : decode cX8_tellRule 42 = .ok (.invokevirtual 58, 3) := by decide +kernel
theorem dX8_tellRule_45 : decode cX8_tellRule 45 = .ok (.ifCond .ne 5, 3) := by decide +kernel
theorem dX8_tellRule_48 : decode cX8_tellRule 48 = .ok (.iconst 0, 1) := by decide +kernel
theorem dX8_tellRule_49 : decode cX8_tellRule 49 = .ok (.ireturn, 1) := by decide +kernel
theorem dX8_tellRule_50 : decode cX8_tellRule 50 = .ok (.aload_n 0, 1) := by decide +kernel
theorem dX8_tellRule_51 : decode cX8_tellRule 51 = .ok (.invokevirtual 62, 3) := by decide +kernel
theorem dX8_tellRule_54 : decode cX8_tellRule 54 = .ok (.istore_n 2, 1) := by decide +kernel
theorem dX8_tellRule_55 : decode cX8_tellRule 55 = .ok (.iload_n 2, 1) := by decide +kernel
theorem dX8_tellRule_56 : decode cX8_tellRule 56 = .ok (.ifCond .ne 5, 3) := by decide +kernel
theorem dX8_tellRule_59 : decode cX8_tellRule 59 = .ok (.iconst 0, 1) := by decide +kernel
theorem dX8_tellRule_60 : decode cX8_tellRule 60 = .ok (.ireturn, 1) := by decide +kernel
theorem dX8_tellRule_61 : decode cX8_tellRule 61 = .ok (.aload_n 0, 1) := by decide +kernel
theorem dX8_tellRule_62 : decode cX8_tellRule 62 = .ok (.invokevirtual 29, 3) := by decide +kernel
theorem dX8_tellRule_65 : decode cX8_tellRule 65 = .ok (.iconst 0, 1) := by decide +kernel
theorem dX8_tellRule_66 : decode cX8_tellRule 66 = .ok (.istore_n 3, 1) := by decide +kernel
theorem dX8_tellRule_67 : decode cX8_tellRule 67 = .ok (.iload_n 2, 1) := by decide +kernel
theorem dX8_tellRule_68 : decode cX8_tellRule 68 = .ok (.iconst 3, 1) := by decide +kernel
theorem dX8_tellRule_69 : decode cX8_tellRule 69 = .ok (.if_icmp .eq 35, 3) := by decide +kernel
theorem dX8_tellRule_72 : decode cX8_tellRule 72 = .ok (.aload_n 0, 1) := by decide +kernel
theorem dX8_tellRule_73 : decode cX8_tellRule 73 = .ok (.getfield 32, 3) := by decide +kernel
theorem dX8_tellRule_76 : decode cX8_tellRule 76 = .ok (.iconst 2, 1) := by decide +kernel
theorem dX8_tellRule_77 : decode cX8_tellRule 77 = .ok (.if_icmp .ne 16, 3) := by decide +kernel
theorem dX8_tellRule_80 : decode cX8_tellRule 80 = .ok (.aload_n 0, 1) := by decide +kernel
theorem dX8_tellRule_81 : decode cX8_tellRule 81 = .ok (.getfield 65, 3) := by decide +kernel
theorem dX8_tellRule_84 : decode cX8_tellRule 84 = .ok (.iconst 0, 1) := by decide +kernel
theorem dX8_tellRule_85 : decode cX8_tellRule 85 = .ok (.bipush 99, 2) := by decide +kernel
theorem dX8_tellRule_87 : decode cX8_tellRule 87 = .ok (.invokestatic 68, 3) := by decide +kernel
theorem dX8_tellRule_90 : decode cX8_tellRule 90 = .ok (.ifCond .ne 5, 3) := by decide +kernel
theorem dX8_tellRule_93 : decode cX8_tellRule 93 = .ok (.iconst 0, 1) := by decide +kernel
theorem dX8_tellRule_94 : decode cX8_tellRule 94 = .ok (.ireturn, 1) := by decide +kernel
theorem dX8_tellRule_95 : decode cX8_tellRule 95 = .ok (.aload_n 0, 1) := by decide +kernel
theorem dX8_tellRule_96 : decode cX8_tellRule 96 = .ok (.getfield 65, 3) := by decide +kernel
theorem dX8_tellRule_99 : decode cX8_tellRule 99 = .ok (.istore_n 3, 1) := by decide +kernel
theorem dX8_tellRule_100 : decode cX8_tellRule 100 = .ok (.aload_n 0, 1) := by decide +kernel
theorem dX8_tellRule_101 : decode cX8_tellRule 101 = .ok (.invokevirtual 29, 3) := by decide +kernel
theorem dX8_tellRule_104 : decode cX8_tellRule 104 = .ok (.aload_n 0, 1) := by decide +kernel
theorem dX8_tellRule_105 : decode cX8_tellRule 105 = .ok (.bipush 59, 2) := by decide +kernel
theorem dX8_tellRule_107 : decode cX8_tellRule 107 = .ok (.invokevirtual 72, 3) := by decide +kernel
theorem dX8_tellRule_110 : decode cX8_tellRule 110 = .ok (.ifCond .ne 5, 3) := by decide +kernel
theorem dX8_tellRule_113 : decode cX8_tellRule 113 = .ok (.iconst 0, 1) := by decide +kernel
theorem dX8_tellRule_114 : decode cX8_tellRule 114 = .ok (.ireturn, 1) := by decide +kernel
theorem dX8_tellRule_115 : decode cX8_tellRule 115 = .ok (.aload_n 0, 1) := by decide +kernel
theorem dX8_tellRule_116 : decode cX8_tellRule 116 = .ok (.invokevirtual 29, 3) := by decide +kernel
theorem dX8_tellRule_119 : decode cX8_tellRule 119 = .ok (.aload_n 0, 1) := by decide +kernel
theorem dX8_tellRule_120 : decode cX8_tellRule 120 = .ok (.getfield 18, 3) := by decide +kernel
theorem dX8_tellRule_123 : decode cX8_tellRule 123 = .ok (.iload_n 1, 1) := by decide +kernel
theorem dX8_tellRule_124 : decode cX8_tellRule 124 = .ok (.iload_n 2, 1) := by decide +kernel
theorem dX8_tellRule_125 : decode cX8_tellRule 125 = .ok (.iload_n 3, 1) := by decide +kernel
theorem dX8_tellRule_126 : decode cX8_tellRule 126 = .ok (.invokevirtual 75, 3) := by decide +kernel
theorem dX8_tellRule_129 : decode cX8_tellRule 129 = .ok (.iconst 1, 1) := by decide +kernel
theorem dX8_tellRule_130 : decode cX8_tellRule 130 = .ok (.ireturn, 1) := by decide +kernel
def f8_tellRule_b21    (m : lu_M) : Option (Int32 × lu_M) :=
  some ((0 : Int32), m)
set_option maxRecDepth 20000 in
theorem w8_tellRule_b21  {G : lu_G} {ρ : Nat → Nat}   (X : lu_X G RX8 cX8_tellRule 4 79 1882) (hret : (lu_me G).sig.returnType = (some .boolean))   : ∀  (m : lu_M), lu_Ab lu_TC G (lu_Q lu_TC G ρ lu_RVi lu_sn) (f8_tellRule_b21  m) 21 [] [] ρ 0 0 [] m := by
  intro  m
  unfold f8_tellRule_b21
  refine lu_iconst X dX8_tellRule_21 (pc2 := 22) rfl ic_0 ?_
  exact lu_zret X hret (by decide) dX8_tellRule_22
def f8_tellRule_b104   (v1 : Int32) (v2 : Int32) (v3 : Int32) (m : lu_M) : Option (Int32 × lu_M) :=
  lu_bi (f8_isByte (59 : Int32) m) fun x9 m10 =>
  if x9 = 0 then (some ((0 : Int32), m10))
  else (lu_bv (f8_advance m10) fun m11 =>
  lu_bv (f6_close 85 v1 v2 v3 m11) fun m12 =>
  some ((1 : Int32), m12))
set_option maxRecDepth 20000 in
theorem w8_tellRule_b104  {G : lu_G} {ρ : Nat → Nat}   (X : lu_X G RX8 cX8_tellRule 4 79 1882) (hret : (lu_me G).sig.returnType = (some .boolean))   : ∀ (v1 : Int32) (v2 : Int32) (v3 : Int32) (m : lu_M), lu_Ab lu_TC G (lu_Q lu_TC G ρ lu_RVi lu_sn) (f8_tellRule_b104  v1 v2 v3 m) 104 [(0, .ref (ρ 83)), (1, .int v1), (2, .int v2), (3, .int v3)] [] ρ 0 0 [] m := by
  intro v1 v2 v3 m
  unfold f8_tellRule_b104
  refine lu_aload_n X dX8_tellRule_104 (pc2 := 105) rfl rfl 0 rfl ?_
  refine lu_bipush X dX8_tellRule_105 (pc2 := 107) rfl bp_59 ?_
  refine lu_invVi X (c8_isByte _ (59 : Int32)) rfl q677 mvV_8_isByte kC_83 lC_83 (by decide) ⟨_, rfl, rfl⟩ rfl rfl (Nat.le_of_ble_eq_true rfl) (Nat.le_of_ble_eq_true rfl) (Nat.le_of_ble_eq_true rfl) ⟨Nat.zero_le _, Nat.zero_le _⟩ dX8_tellRule_107 (pc2 := 110) rfl rfl (fun x9 m10 => ?_)
  refine lu_if_ne (tgt := 115) X dX8_tellRule_110 (pc2 := 113) rfl (by decide) (fun _ => ?_) (fun _ => ?_)
  · refine lu_aload_n X dX8_tellRule_115 (pc2 := 116) rfl rfl 0 rfl ?_
    refine lu_invVv X (c8_advance _) rfl q585 mvV_8_advance kC_83 lC_83 (by decide) ⟨_, rfl, rfl⟩ rfl rfl (Nat.le_of_ble_eq_true rfl) (Nat.le_of_ble_eq_true rfl) (Nat.le_of_ble_eq_true rfl) ⟨Nat.zero_le _, Nat.zero_le _⟩ dX8_tellRule_116 (pc2 := 119) rfl rfl (fun m11 => ?_)
    refine lu_aload_n X dX8_tellRule_119 (pc2 := 120) rfl rfl 0 rfl ?_
    refine lu_getr (r2 := 85) X rfl fl8_18 rfl kC_83 lC_83 dX8_tellRule_120 (pc2 := 123) rfl ?_
    refine lu_iload_n X dX8_tellRule_123 (pc2 := 124) rfl rfl 1 rfl ?_
    refine lu_iload_n X dX8_tellRule_124 (pc2 := 125) rfl rfl 2 rfl ?_
    refine lu_iload_n X dX8_tellRule_125 (pc2 := 126) rfl rfl 3 rfl ?_
    refine lu_invVv X (c6_close _ kC_85 lC_85 v1 v2 v3) rfl q708 mvV_6_close kC_85 lC_85 (by decide) ⟨_, rfl, rfl⟩ rfl rfl (Nat.le_of_ble_eq_true rfl) (Nat.le_of_ble_eq_true rfl) (Nat.le_of_ble_eq_true rfl) ⟨Nat.zero_le _, Nat.zero_le _⟩ dX8_tellRule_126 (pc2 := 129) rfl rfl (fun m12 => ?_)
    refine lu_iconst X dX8_tellRule_129 (pc2 := 130) rfl ic_1 ?_
    exact lu_zret X hret (by decide) dX8_tellRule_130
  · refine lu_iconst X dX8_tellRule_113 (pc2 := 114) rfl ic_0 ?_
    exact lu_zret X hret (by decide) dX8_tellRule_114
def f8_tellRule_b93    (m : lu_M) : Option (Int32 × lu_M) :=
  some ((0 : Int32), m)
set_option maxRecDepth 20000 in
theorem w8_tellRule_b93  {G : lu_G} {ρ : Nat → Nat}   (X : lu_X G RX8 cX8_tellRule 4 79 1882) (hret : (lu_me G).sig.returnType = (some .boolean))   : ∀  (m : lu_M), lu_Ab lu_TC G (lu_Q lu_TC G ρ lu_RVi lu_sn) (f8_tellRule_b93  m) 93 [] [] ρ 0 0 [] m := by
  intro  m
  unfold f8_tellRule_b93
  refine lu_iconst X dX8_tellRule_93 (pc2 := 94) rfl ic_0 ?_
  exact lu_zret X hret (by decide) dX8_tellRule_94
def f8_tellRule_b50   (v1 : Int32) (m : lu_M) : Option (Int32 × lu_M) :=
  lu_bi (f8_doNamed m) fun x6 m7 =>
  if x6 = 0 then (some ((0 : Int32), m7))
  else (lu_bv (f8_advance m7) fun m8 =>
  if x6 = (3 : Int32) then (f8_tellRule_b104 v1 x6 (0 : Int32) m8)
  else (if (m8 83 3) = (2 : Int32) then (lu_bi (f11_isWithin (m8 83 6) (0 : Int32) (99 : Int32) m8) fun x13 m14 =>
  if x13 = 0 then (f8_tellRule_b93 m14)
  else (lu_nm ((m14 83 6)) fun x15 =>
  lu_bv (f8_advance m14) fun m16 =>
  f8_tellRule_b104 v1 x6 x15 m16))
  else (f8_tellRule_b93 m8)))
set_option maxRecDepth 20000 in
theorem w8_tellRule_b50  {G : lu_G} {ρ : Nat → Nat}   (X : lu_X G RX8 cX8_tellRule 4 79 1882) (hret : (lu_me G).sig.returnType = (some .boolean))   : ∀ (v1 : Int32) (m : lu_M), lu_Ab lu_TC G (lu_Q lu_TC G ρ lu_RVi lu_sn) (f8_tellRule_b50  v1 m) 50 [(0, .ref (ρ 83)), (1, .int v1)] [] ρ 0 0 [] m := by
  intro v1 m
  unfold f8_tellRule_b50
  refine lu_aload_n X dX8_tellRule_50 (pc2 := 51) rfl rfl 0 rfl ?_
  refine lu_invVi X (c8_doNamed _) rfl q700 mvV_8_doNamed kC_83 lC_83 (by decide) ⟨_, rfl, rfl⟩ rfl rfl (Nat.le_of_ble_eq_true rfl) (Nat.le_of_ble_eq_true rfl) (Nat.le_of_ble_eq_true rfl) ⟨Nat.zero_le _, Nat.zero_le _⟩ dX8_tellRule_51 (pc2 := 54) rfl rfl (fun x6 m7 => ?_)
  refine lu_istore_n (lv2 := [(2, .int x6), (0, .ref (ρ 83)), (1, .int v1)]) X dX8_tellRule_54 (pc2 := 55) rfl rfl (by decide) rfl ?_
  refine lu_iload_n X dX8_tellRule_55 (pc2 := 56) rfl rfl 0 rfl ?_
  refine lu_if_ne (tgt := 61) X dX8_tellRule_56 (pc2 := 59) rfl (by decide) (fun _ => ?_) (fun _ => ?_)
  · refine lu_aload_n X dX8_tellRule_61 (pc2 := 62) rfl rfl 1 rfl ?_
    refine lu_invVv X (c8_advance _) rfl q585 mvV_8_advance kC_83 lC_83 (by decide) ⟨_, rfl, rfl⟩ rfl rfl (Nat.le_of_ble_eq_true rfl) (Nat.le_of_ble_eq_true rfl) (Nat.le_of_ble_eq_true rfl) ⟨Nat.zero_le _, Nat.zero_le _⟩ dX8_tellRule_62 (pc2 := 65) rfl rfl (fun m8 => ?_)
    refine lu_iconst X dX8_tellRule_65 (pc2 := 66) rfl ic_0 ?_
    refine lu_istore_n (lv2 := [(3, .int (0 : Int32)), (2, .int x6), (0, .ref (ρ 83)), (1, .int v1)]) X dX8_tellRule_66 (pc2 := 67) rfl rfl (by decide) rfl ?_
    refine lu_iload_n X dX8_tellRule_67 (pc2 := 68) rfl rfl 1 rfl ?_
    refine lu_iconst X dX8_tellRule_68 (pc2 := 69) rfl ic_3 ?_
    refine lu_icmp_eq (tgt := 104) X dX8_tellRule_69 (pc2 := 72) rfl (by decide) (fun _ => ?_) (fun _ => ?_)
    · exact lu_sub [2, 3, 1, 0] rfl (w8_tellRule_b104 X hret v1 x6 (0 : Int32) m8)
    · refine lu_aload_n X dX8_tellRule_72 (pc2 := 73) rfl rfl 2 rfl ?_
      refine lu_get X fl8_32 rfl kC_83 lC_83 dX8_tellRule_73 (pc2 := 76) rfl ?_
      refine lu_iconst X dX8_tellRule_76 (pc2 := 77) rfl ic_2 ?_
      refine lu_icmp_ne (tgt := 93) X dX8_tellRule_77 (pc2 := 80) rfl (by decide) (fun _ => ?_) (fun _ => ?_)
      · exact lu_sub [] rfl (w8_tellRule_b93 X hret m8)
      · refine lu_aload_n X dX8_tellRule_80 (pc2 := 81) rfl rfl 2 rfl ?_
        refine lu_get X fl8_65 rfl kC_83 lC_83 dX8_tellRule_81 (pc2 := 84) rfl ?_
        refine lu_iconst X dX8_tellRule_84 (pc2 := 85) rfl ic_0 ?_
        refine lu_bipush X dX8_tellRule_85 (pc2 := 87) rfl bp_99 ?_
        refine lu_invNi X (c11_isWithin _ (m8 83 6) (0 : Int32) (99 : Int32)) rfl (by decide +kernel) mvS_11_isWithin rfl rfl (Nat.le_of_ble_eq_true rfl) (Nat.le_of_ble_eq_true rfl) (Nat.le_of_ble_eq_true rfl) ⟨Nat.zero_le _, Nat.zero_le _⟩ dX8_tellRule_87 (pc2 := 90) rfl rfl (fun x13 m14 => ?_)
        refine lu_if_ne (tgt := 95) X dX8_tellRule_90 (pc2 := 93) rfl (by decide) (fun _ => ?_) (fun _ => ?_)
        · refine lu_aload_n X dX8_tellRule_95 (pc2 := 96) rfl rfl 2 rfl ?_
          refine lu_get X fl8_65 rfl kC_83 lC_83 dX8_tellRule_96 (pc2 := 99) rfl ?_
          refine lu_topi (fun x15 => ?_)
          refine lu_istore_n (lv2 := [(3, .int x15), (2, .int x6), (0, .ref (ρ 83)), (1, .int v1)]) X dX8_tellRule_99 (pc2 := 100) rfl rfl (by decide) rfl ?_
          refine lu_aload_n X dX8_tellRule_100 (pc2 := 101) rfl rfl 2 rfl ?_
          refine lu_invVv X (c8_advance _) rfl q585 mvV_8_advance kC_83 lC_83 (by decide) ⟨_, rfl, rfl⟩ rfl rfl (Nat.le_of_ble_eq_true rfl) (Nat.le_of_ble_eq_true rfl) (Nat.le_of_ble_eq_true rfl) ⟨Nat.zero_le _, Nat.zero_le _⟩ dX8_tellRule_101 (pc2 := 104) rfl rfl (fun m16 => ?_)
          exact lu_sub [2, 3, 1, 0] rfl (w8_tellRule_b104 X hret v1 x6 x15 m16)
        · exact lu_sub [] rfl (w8_tellRule_b93 X hret m14)
  · refine lu_iconst X dX8_tellRule_59 (pc2 := 60) rfl ic_0 ?_
    exact lu_zret X hret (by decide) dX8_tellRule_60
def f8_tellRule  (m : lu_M) : Option (Int32 × lu_M) :=
  lu_bi (f8_kindNamed m) fun x1 m2 =>
  if x1 < 0 then (f8_tellRule_b21 m2)
  else (if (m2 85 0) < (8 : Int32) then (lu_bv (f8_advance m2) fun m3 =>
  lu_bi (f8_isNamed 6 m3) fun x4 m5 =>
  if x4 = 0 then (f8_tellRule_b50 x1 m5)
  else (lu_bv (f8_advance m5) fun m17 =>
  lu_bi (f8_tellCondition 6 (0 : Int32) m17) fun x18 m19 =>
  if x18 = 0 then (some ((0 : Int32), m19))
  else (f8_tellRule_b50 x1 m19)))
  else (f8_tellRule_b21 m2))
set_option maxRecDepth 20000 in
theorem c8_tellRule (l : Launch)    : lu_C lu_TC l yX8_tellRule cX8_tellRule 4 (some .boolean) 79 1882 (fun ρ sa => [.ref (ρ 83)]) (f8_tellRule ) lu_RVi lu_sn := by
  refine lu_met (cls := RX8) rfl (by decide +kernel) (fun _ _ => Nat.le_of_ble_eq_true rfl) ?_
  intro G ρ m hl X hret
  subst hl
  change lu_Ab lu_TC G (lu_Q lu_TC G ρ lu_RVi lu_sn) (f8_tellRule  m) 0 [(0, .ref (ρ 83))] [] ρ 0 0 [] m
  unfold f8_tellRule
  refine lu_aload_n X dX8_tellRule_0 (pc2 := 1) rfl rfl 0 rfl ?_
  refine lu_invVi X (c8_kindNamed _) rfl q601 mvV_8_kindNamed kC_83 lC_83 (by decide) ⟨_, rfl, rfl⟩ rfl rfl (Nat.le_of_ble_eq_true rfl) (Nat.le_of_ble_eq_true rfl) (Nat.le_of_ble_eq_true rfl) ⟨Nat.zero_le _, Nat.zero_le _⟩ dX8_tellRule_1 (pc2 := 4) rfl rfl (fun x1 m2 => ?_)
  refine lu_istore_n (lv2 := [(1, .int x1), (0, .ref (ρ 83))]) X dX8_tellRule_4 (pc2 := 5) rfl rfl (by decide) rfl ?_
  refine lu_iload_n X dX8_tellRule_5 (pc2 := 6) rfl rfl 0 rfl ?_
  refine lu_if_lt (tgt := 21) X dX8_tellRule_6 (pc2 := 9) rfl (by decide) (fun _ => ?_) (fun _ => ?_)
  · exact lu_sub [] rfl (w8_tellRule_b21 X hret m2)
  · refine lu_aload_n X dX8_tellRule_9 (pc2 := 10) rfl rfl 1 rfl ?_
    refine lu_getr (r2 := 85) X rfl fl8_18 rfl kC_83 lC_83 dX8_tellRule_10 (pc2 := 13) rfl ?_
    refine lu_get X fl8_39 rfl kC_85 lC_85 dX8_tellRule_13 (pc2 := 16) rfl ?_
    refine lu_bipush X dX8_tellRule_16 (pc2 := 18) rfl bp_8 ?_
    refine lu_icmp_lt (tgt := 23) X dX8_tellRule_18 (pc2 := 21) rfl (by decide) (fun _ => ?_) (fun _ => ?_)
    · refine lu_aload_n X dX8_tellRule_23 (pc2 := 24) rfl rfl 1 rfl ?_
      refine lu_invVv X (c8_advance _) rfl q585 mvV_8_advance kC_83 lC_83 (by decide) ⟨_, rfl, rfl⟩ rfl rfl (Nat.le_of_ble_eq_true rfl) (Nat.le_of_ble_eq_true rfl) (Nat.le_of_ble_eq_true rfl) ⟨Nat.zero_le _, Nat.zero_le _⟩ dX8_tellRule_24 (pc2 := 27) rfl rfl (fun m3 => ?_)
      refine lu_aload_n X dX8_tellRule_27 (pc2 := 28) rfl rfl 1 rfl ?_
      refine lu_ldcS (j := 6) (tx := "if") X rfl dX8_tellRule_28 (pc2 := 30) rfl ?_
      refine lu_invVi X (c8_isNamed _ (by decide)) rfl q606 mvV_8_isNamed kC_83 lC_83 (by decide) ⟨_, rfl, rfl⟩ rfl rfl (Nat.le_of_ble_eq_true rfl) (Nat.le_of_ble_eq_true rfl) (Nat.le_of_ble_eq_true rfl) ⟨Nat.zero_le _, Nat.zero_le _⟩ dX8_tellRule_30 (pc2 := 33) rfl rfl (fun x4 m5 => ?_)
      refine lu_if_eq (tgt := 50) X dX8_tellRule_33 (pc2 := 36) rfl (by decide) (fun _ => ?_) (fun _ => ?_)
      · exact lu_sub [1, 0] rfl (w8_tellRule_b50 X hret x1 m5)
      · refine lu_aload_n X dX8_tellRule_36 (pc2 := 37) rfl rfl 1 rfl ?_
        refine lu_invVv X (c8_advance _) rfl q585 mvV_8_advance kC_83 lC_83 (by decide) ⟨_, rfl, rfl⟩ rfl rfl (Nat.le_of_ble_eq_true rfl) (Nat.le_of_ble_eq_true rfl) (Nat.le_of_ble_eq_true rfl) ⟨Nat.zero_le _, Nat.zero_le _⟩ dX8_tellRule_37 (pc2 := 40) rfl rfl (fun m17 => ?_)
        refine lu_aload_n X dX8_tellRule_40 (pc2 := 41) rfl rfl 1 rfl ?_
        refine lu_iconst X dX8_tellRule_41 (pc2 := 42) rfl ic_0 ?_
        refine lu_invVi X (c8_tellCondition _ 6 (0 : Int32)) rfl q664 mvV_8_tellCondition kC_83 lC_83 (by decide) ⟨_, rfl, rfl⟩ rfl rfl (Nat.le_of_ble_eq_true rfl) (Nat.le_of_ble_eq_true rfl) (Nat.le_of_ble_eq_true rfl) ⟨Nat.zero_le _, Nat.zero_le _⟩ dX8_tellRule_42 (pc2 := 45) rfl rfl (fun x18 m19 => ?_)
        refine lu_if_ne (tgt := 50) X dX8_tellRule_45 (pc2 := 48) rfl (by decide) (fun _ => ?_) (fun _ => ?_)
        · exact lu_sub [1, 0] rfl (w8_tellRule_b50 X hret x1 m19)
        · refine lu_iconst X dX8_tellRule_48 (pc2 := 49) rfl ic_0 ?_
          exact lu_zret X hret (by decide) dX8_tellRule_49
    · exact lu_sub [] rfl (w8_tellRule_b21 X hret m2)

theorem dX8_tellAll_0 : decode cX8_tellAll 0 = .ok (.aload_n 0, 1) := by decide +kernel
theorem dX8_tellAll_1 : decode cX8_tellAll 1 = .ok (.getfield 18, 3) := by decide +kernel
theorem dX8_tellAll_4 : decode cX8_tellAll 4 = .ok (.invokevirtual 22, 3) := by decide +kernel
theorem dX8_tellAll_7 : decode cX8_tellAll 7 = .ok (.aload_n 0, 1) := by decide +kernel
theorem dX8_tellAll_8 : decode cX8_tellAll 8 = .ok (.iconst 0, 1) := by decide +kernel
theorem dX8_tellAll_9 : decode cX8_tellAll 9 = .ok (.putfield 25, 3) := by decide +kernel
theorem dX8_tellAll_12 : decode cX8_tellAll 12 = .ok (.aload_n 0, 1) := by decide +kernel
theorem dX8_tellAll_13 : decode cX8_tellAll 13 = .ok (.invokevirtual 29, 3) := by decide +kernel
theorem dX8_tellAll_16 : decode cX8_tellAll 16 = .ok (.iconst 1, 1) := by decide +kernel
theorem dX8_tellAll_17 : decode cX8_tellAll 17 = .ok (.istore_n 1, 1) := by decide +kernel
theorem dX8_tellAll_18 : decode cX8_tellAll 18 = .ok (.iconst 0, 1) := by decide +kernel
theorem dX8_tellAll_19 : decode cX8_tellAll 19 = .ok (.istore_n 2, 1) := by decide +kernel
theorem dX8_tellAll_20 : decode cX8_tellAll 20 = .ok (.iload_n 2, 1) := by decide +kernel
theorem dX8_tellAll_21 : decode cX8_tellAll 21 = .ok (.bipush 8, 2) := by decide +kernel
theorem dX8_tellAll_23 : decode cX8_tellAll 23 = .ok (.if_icmp .gt 25, 3) := by decide +kernel
theorem dX8_tellAll_26 : decode cX8_tellAll 26 = .ok (.iload_n 1, 1) := by decide +kernel
theorem dX8_tellAll_27 : decode cX8_tellAll 27 = .ok (.ifCond .eq 21, 3) := by decide +kernel
theorem dX8_tellAll_30 : decode cX8_tellAll 30 = .ok (.aload_n 0, 1) := by decide +kernel
theorem dX8_tellAll_31 : decode cX8_tellAll 31 = .ok (.getfield 32, 3) := by decide +kernel
theorem dX8_tellAll_34 : decode cX8_tellAll 34 = .ok (.ifCond .eq 14, 3) := by decide +kernel
theorem dX8_tellAll_37 : decode cX8_tellAll 37 = .ok (.aload_n 0, 1) := by decide +kernel
theorem dX8_tellAll_38 : decode cX8_tellAll 38 = .ok (.invokevirtual 35, 3) := by decide +kernel
theorem dX8_tellAll_41 : decode cX8_tellAll 41 = .ok (.istore_n 1, 1) := by decide +kernel
theorem dX8_tellAll_42 : decode cX8_tellAll 42 = .ok (.iinc 2 1, 3) := by decide +kernel
theorem dX8_tellAll_45 : decode cX8_tellAll 45 = .ok (.goto (-25), 3) := by decide +kernel
theorem dX8_tellAll_48 : decode cX8_tellAll 48 = .ok (.iload_n 1, 1) := by decide +kernel
theorem dX8_tellAll_49 : decode cX8_tellAll 49 = .ok (.ifCond .eq 13, 3) := by decide +kernel
theorem dX8_tellAll_52 : decode cX8_tellAll 52 = .ok (.aload_n 0, 1) := by decide +kernel
theorem dX8_tellAll_53 : decode cX8_tellAll 53 = .ok (.getfield 18, 3) := by decide +kernel
theorem dX8_tellAll_56 : decode cX8_tellAll 56 = .ok (.getfield 39, 3) := by decide +kernel
theorem dX8_tellAll_59 : decode cX8_tellAll 59 = .ok (.goto 10, 3) := by decide +kernel
theorem dX8_tellAll_62 : decode cX8_tellAll 62 = .ok (.bipush (-100), 2) := by decide +kernel
theorem dX8_tellAll_64 : decode cX8_tellAll 64 = .ok (.aload_n 0, 1) := by decide +kernel
theorem dX8_tellAll_65 : decode cX8_tellAll 65 = .ok (.getfield 42, 3) := by decide +kernel
theorem dX8_tellAll_68 : decode cX8_tellAll 68 = .ok (.isub, 1) := by decide +kernel
theorem dX8_tellAll_69 : decode cX8_tellAll 69 = .ok (.istore_n 2, 1) := by decide +kernel
theorem dX8_tellAll_70 : decode cX8_tellAll 70 = .ok (.aload_n 0, 1) := by decide +kernel
theorem dX8_tellAll_71 : decode cX8_tellAll 71 = .ok (.iconst 0, 1) := by decide +kernel
theorem dX8_tellAll_72 : decode cX8_tellAll 72 = .ok (.putfield 45, 3) := by decide +kernel
theorem dX8_tellAll_75 : decode cX8_tellAll 75 = .ok (.iload_n 2, 1) := by decide +kernel
theorem dX8_tellAll_76 : decode cX8_tellAll 76 = .ok (.ireturn, 1) := by decide +kernel
def f8_tellAll_b20B (K48 : Int32 → lu_M → Option (Int32 × lu_M)) (rec : Int32 → Int32 → lu_M → Option (Int32 × lu_M))  (v1 : Int32) (v2 : Int32) (m : lu_M) : Option (Int32 × lu_M) :=
  if (8 : Int32) < v2 then (K48 v1 m)
  else (if v1 = 0 then (K48 v1 m)
  else (if (m 83 3) = 0 then (K48 v1 m)
  else (lu_bi (f8_tellRule m) fun x4 m5 =>
  rec x4 (v2 + (1 : Int32)) m5)))
def f8_tellAll_b20 (K48 : Int32 → lu_M → Option (Int32 × lu_M))  : Nat → Int32 → Int32 → lu_M → Option (Int32 × lu_M)
  | 0, _, _, _ => none
  | n + 1, v1, v2, m => f8_tellAll_b20B K48 (f8_tellAll_b20 K48 n) v1 v2 m
set_option maxRecDepth 20000 in
theorem w8_tellAll_b20B  {G : lu_G} {ρ : Nat → Nat}  {K48 : Int32 → lu_M → Option (Int32 × lu_M)} {rec : Int32 → Int32 → lu_M → Option (Int32 × lu_M)} (X : lu_X G RX8 cX8_tellAll 3 80 1905) (hret : (lu_me G).sig.returnType = (some .int))  (hK48 : ∀ (v1 : Int32) (m : lu_M), lu_Ab lu_TC G (lu_Q lu_TC G ρ lu_RVi lu_sn) (K48 v1 m) 48 [(0, .ref (ρ 83)), (1, .int v1)] [] ρ 0 0 [] m) (hrec : ∀ (v1 : Int32) (v2 : Int32) (m : lu_M), lu_Ab lu_TC G (lu_Q lu_TC G ρ lu_RVi lu_sn) (rec v1 v2 m) 20 [(0, .ref (ρ 83)), (1, .int v1), (2, .int v2)] [] ρ 0 0 [] m) : ∀ (v1 : Int32) (v2 : Int32) (m : lu_M), lu_Ab lu_TC G (lu_Q lu_TC G ρ lu_RVi lu_sn) (f8_tellAll_b20B K48 rec v1 v2 m) 20 [(0, .ref (ρ 83)), (1, .int v1), (2, .int v2)] [] ρ 0 0 [] m := by
  intro v1 v2 m
  unfold f8_tellAll_b20B
  refine lu_iload_n X dX8_tellAll_20 (pc2 := 21) rfl rfl 2 rfl ?_
  refine lu_bipush X dX8_tellAll_21 (pc2 := 23) rfl bp_8 ?_
  refine lu_icmp_gt (tgt := 48) X dX8_tellAll_23 (pc2 := 26) rfl (by decide) (fun _ => ?_) (fun _ => ?_)
  · exact lu_sub [0, 1] rfl (hK48 v1 m)
  · refine lu_iload_n X dX8_tellAll_26 (pc2 := 27) rfl rfl 1 rfl ?_
    refine lu_if_eq (tgt := 48) X dX8_tellAll_27 (pc2 := 30) rfl (by decide) (fun _ => ?_) (fun _ => ?_)
    · exact lu_sub [0, 1] rfl (hK48 v1 m)
    · refine lu_aload_n X dX8_tellAll_30 (pc2 := 31) rfl rfl 0 rfl ?_
      refine lu_get X fl8_32 rfl kC_83 lC_83 dX8_tellAll_31 (pc2 := 34) rfl ?_
      refine lu_if_eq (tgt := 48) X dX8_tellAll_34 (pc2 := 37) rfl (by decide) (fun _ => ?_) (fun _ => ?_)
      · exact lu_sub [0, 1] rfl (hK48 v1 m)
      · refine lu_aload_n X dX8_tellAll_37 (pc2 := 38) rfl rfl 0 rfl ?_
        refine lu_invVi X (c8_tellRule _) rfl q597 mvV_8_tellRule kC_83 lC_83 (by decide) ⟨_, rfl, rfl⟩ rfl rfl (Nat.le_of_ble_eq_true rfl) (Nat.le_of_ble_eq_true rfl) (Nat.le_of_ble_eq_true rfl) ⟨Nat.zero_le _, Nat.zero_le _⟩ dX8_tellAll_38 (pc2 := 41) rfl rfl (fun x4 m5 => ?_)
        refine lu_istore_n (lv2 := [(1, .int x4), (0, .ref (ρ 83)), (2, .int v2)]) X dX8_tellAll_41 (pc2 := 42) rfl rfl (by decide) rfl ?_
        refine lu_iinc (lv2 := [(2, .int (v2 + (1 : Int32))), (1, .int x4), (0, .ref (ρ 83))]) X dX8_tellAll_42 (pc2 := 45) rfl 2 rfl (lu_ii _ ic_1) (by decide) rfl ?_
        refine lu_goto (tgt := 20) X dX8_tellAll_45 (by decide) ?_
        exact lu_sub [2, 1, 0] rfl (hrec x4 (v2 + (1 : Int32)) m5)
theorem w8_tellAll_b20  {G : lu_G} {ρ : Nat → Nat}  {K48 : Int32 → lu_M → Option (Int32 × lu_M)} (X : lu_X G RX8 cX8_tellAll 3 80 1905) (hret : (lu_me G).sig.returnType = (some .int))  (hK48 : ∀ (v1 : Int32) (m : lu_M), lu_Ab lu_TC G (lu_Q lu_TC G ρ lu_RVi lu_sn) (K48 v1 m) 48 [(0, .ref (ρ 83)), (1, .int v1)] [] ρ 0 0 [] m) : ∀ (n : Nat) (v1 : Int32) (v2 : Int32) (m : lu_M), lu_Ab lu_TC G (lu_Q lu_TC G ρ lu_RVi lu_sn) (f8_tellAll_b20 K48 n v1 v2 m) 20 [(0, .ref (ρ 83)), (1, .int v1), (2, .int v2)] [] ρ 0 0 [] m := by
  intro n
  induction n with
  | zero => intro v1 v2 m; exact lu_none
  | succ n ih => intro v1 v2 m; exact w8_tellAll_b20B X hret hK48 ih v1 v2 m
def f8_tellAll_b69   (s0 : Int32) (m : lu_M) : Option (Int32 × lu_M) :=
  lu_nm (lu_st m 83 1 (0 : Int32)) fun m6 =>
  some (s0, m6)
set_option maxRecDepth 20000 in
theorem w8_tellAll_b69  {G : lu_G} {ρ : Nat → Nat}   (X : lu_X G RX8 cX8_tellAll 3 80 1905) (hret : (lu_me G).sig.returnType = (some .int))   : ∀ (s0 : Int32) (m : lu_M), lu_Ab lu_TC G (lu_Q lu_TC G ρ lu_RVi lu_sn) (f8_tellAll_b69  s0 m) 69 [(0, .ref (ρ 83))] [.int s0] ρ 0 0 [] m := by
  intro s0 m
  unfold f8_tellAll_b69
  refine lu_istore_n (lv2 := [(2, .int s0), (0, .ref (ρ 83))]) X dX8_tellAll_69 (pc2 := 70) rfl rfl (by decide) rfl ?_
  refine lu_aload_n X dX8_tellAll_70 (pc2 := 71) rfl rfl 1 rfl ?_
  refine lu_iconst X dX8_tellAll_71 (pc2 := 72) rfl ic_0 ?_
  refine lu_put X fl8_45 rfl (Or.inl (by decide)) rfl (by decide +kernel) kC_83 lC_83 dX8_tellAll_72 (pc2 := 75) rfl (fun m6 => ?_)
  refine lu_iload_n X dX8_tellAll_75 (pc2 := 76) rfl rfl 0 rfl ?_
  exact lu_iret X hret dX8_tellAll_76
def f8_tellAll_b48   (v1 : Int32) (m : lu_M) : Option (Int32 × lu_M) :=
  if v1 = 0 then (f8_tellAll_b69 ((-100 : Int32) - (m 83 4)) m)
  else (f8_tellAll_b69 (m 85 0) m)
set_option maxRecDepth 20000 in
theorem w8_tellAll_b48  {G : lu_G} {ρ : Nat → Nat}   (X : lu_X G RX8 cX8_tellAll 3 80 1905) (hret : (lu_me G).sig.returnType = (some .int))   : ∀ (v1 : Int32) (m : lu_M), lu_Ab lu_TC G (lu_Q lu_TC G ρ lu_RVi lu_sn) (f8_tellAll_b48  v1 m) 48 [(0, .ref (ρ 83)), (1, .int v1)] [] ρ 0 0 [] m := by
  intro v1 m
  unfold f8_tellAll_b48
  refine lu_iload_n X dX8_tellAll_48 (pc2 := 49) rfl rfl 1 rfl ?_
  refine lu_if_eq (tgt := 62) X dX8_tellAll_49 (pc2 := 52) rfl (by decide) (fun _ => ?_) (fun _ => ?_)
  · refine lu_bipush X dX8_tellAll_62 (pc2 := 64) rfl bp_m100 ?_
    refine lu_aload_n X dX8_tellAll_64 (pc2 := 65) rfl rfl 0 rfl ?_
    refine lu_get X fl8_42 rfl kC_83 lC_83 dX8_tellAll_65 (pc2 := 68) rfl ?_
    refine lu_isub X dX8_tellAll_68 (pc2 := 69) rfl ?_
    exact lu_sub [0] rfl (w8_tellAll_b69 X hret ((-100 : Int32) - (m 83 4)) m)
  · refine lu_aload_n X dX8_tellAll_52 (pc2 := 53) rfl rfl 0 rfl ?_
    refine lu_getr (r2 := 85) X rfl fl8_18 rfl kC_83 lC_83 dX8_tellAll_53 (pc2 := 56) rfl ?_
    refine lu_get X fl8_39 rfl kC_85 lC_85 dX8_tellAll_56 (pc2 := 59) rfl ?_
    refine lu_goto (tgt := 69) X dX8_tellAll_59 (by decide) ?_
    exact lu_sub [0] rfl (w8_tellAll_b69 X hret (m 85 0) m)
def f8_tellAll  (m : lu_M) : Option (Int32 × lu_M) :=
  lu_bv (f6_clear 85 m) fun m1 =>
  lu_nm (lu_st m1 83 5 (0 : Int32)) fun m2 =>
  lu_bv (f8_advance m2) fun m3 =>
  f8_tellAll_b20 f8_tellAll_b48 lu_fu (1 : Int32) (0 : Int32) m3
set_option maxRecDepth 20000 in
theorem c8_tellAll (l : Launch)    : lu_C lu_TC l yX8_tellAll cX8_tellAll 3 (some .int) 80 1905 (fun ρ sa => [.ref (ρ 83)]) (f8_tellAll ) lu_RVi lu_sn := by
  refine lu_met (cls := RX8) rfl (by decide +kernel) (fun _ _ => Nat.le_of_ble_eq_true rfl) ?_
  intro G ρ m hl X hret
  subst hl
  change lu_Ab lu_TC G (lu_Q lu_TC G ρ lu_RVi lu_sn) (f8_tellAll  m) 0 [(0, .ref (ρ 83))] [] ρ 0 0 [] m
  unfold f8_tellAll
  refine lu_aload_n X dX8_tellAll_0 (pc2 := 1) rfl rfl 0 rfl ?_
  refine lu_getr (r2 := 85) X rfl fl8_18 rfl kC_83 lC_83 dX8_tellAll_1 (pc2 := 4) rfl ?_
  refine lu_invVv X (c6_clear _ kC_85 lC_85) rfl q581 mvV_6_clear kC_85 lC_85 (by decide) ⟨_, rfl, rfl⟩ rfl rfl (Nat.le_of_ble_eq_true rfl) (Nat.le_of_ble_eq_true rfl) (Nat.le_of_ble_eq_true rfl) ⟨Nat.zero_le _, Nat.zero_le _⟩ dX8_tellAll_4 (pc2 := 7) rfl rfl (fun m1 => ?_)
  refine lu_aload_n X dX8_tellAll_7 (pc2 := 8) rfl rfl 0 rfl ?_
  refine lu_iconst X dX8_tellAll_8 (pc2 := 9) rfl ic_0 ?_
  refine lu_put X fl8_25 rfl (Or.inl (by decide)) rfl (by decide +kernel) kC_83 lC_83 dX8_tellAll_9 (pc2 := 12) rfl (fun m2 => ?_)
  refine lu_aload_n X dX8_tellAll_12 (pc2 := 13) rfl rfl 0 rfl ?_
  refine lu_invVv X (c8_advance _) rfl q585 mvV_8_advance kC_83 lC_83 (by decide) ⟨_, rfl, rfl⟩ rfl rfl (Nat.le_of_ble_eq_true rfl) (Nat.le_of_ble_eq_true rfl) (Nat.le_of_ble_eq_true rfl) ⟨Nat.zero_le _, Nat.zero_le _⟩ dX8_tellAll_13 (pc2 := 16) rfl rfl (fun m3 => ?_)
  refine lu_iconst X dX8_tellAll_16 (pc2 := 17) rfl ic_1 ?_
  refine lu_istore_n (lv2 := [(1, .int (1 : Int32)), (0, .ref (ρ 83))]) X dX8_tellAll_17 (pc2 := 18) rfl rfl (by decide) rfl ?_
  refine lu_iconst X dX8_tellAll_18 (pc2 := 19) rfl ic_0 ?_
  refine lu_istore_n (lv2 := [(2, .int (0 : Int32)), (1, .int (1 : Int32)), (0, .ref (ρ 83))]) X dX8_tellAll_19 (pc2 := 20) rfl rfl (by decide) rfl ?_
  exact lu_sub [2, 1, 0] rfl (w8_tellAll_b20 X hret (w8_tellAll_b48 X hret) lu_fu (1 : Int32) (0 : Int32) m3)

theorem dX9_term_0 : decode cX9_term 0 = .ok (.aload_n 0, 1) := by decide +kernel
theorem dX9_term_1 : decode cX9_term 1 = .ok (.invokespecial 7, 3) := by decide +kernel
theorem dX9_term_4 : decode cX9_term 4 = .ok (.iconst 1, 1) := by decide +kernel
theorem dX9_term_5 : decode cX9_term 5 = .ok (.isub, 1) := by decide +kernel
theorem dX9_term_6 : decode cX9_term 6 = .ok (.ireturn, 1) := by decide +kernel
def f9_term (r0 : Nat) (m : lu_M) : Option (Int32 × lu_M) :=
  lu_bi (f2_term r0 m) fun x1 m2 =>
  some ((x1 - (1 : Int32)), m2)
set_option maxRecDepth 20000 in
theorem c9_term (l : Launch) {r0 : Nat} (hT_r0 : lu_TC.2 r0 = (10, 0, 0)) (hr_r0 : r0 < lu_TC.1)  : lu_C lu_TC l yX9_term cX9_term 1 (some .int) 2 40 (fun ρ sa => [.ref (ρ r0)]) (f9_term r0) lu_RVi lu_sn := by
  refine lu_met (cls := RX9) rfl (by decide +kernel) (fun _ _ => Nat.le_of_ble_eq_true rfl) ?_
  intro G ρ m hl X hret
  subst hl
  change lu_Ab lu_TC G (lu_Q lu_TC G ρ lu_RVi lu_sn) (f9_term r0 m) 0 [(0, .ref (ρ r0))] [] ρ 0 0 [] m
  unfold f9_term
  refine lu_aload_n X dX9_term_0 (pc2 := 1) rfl rfl 0 rfl ?_
  refine lu_invUi X (c2_term _ hT_r0 hr_r0) rfl q523 mvU9_2_term hT_r0 hr_r0 (by decide) (by decide) rfl rfl (Nat.le_of_ble_eq_true rfl) (Nat.le_of_ble_eq_true rfl) (Nat.le_of_ble_eq_true rfl) ⟨Nat.zero_le _, Nat.zero_le _⟩ dX9_term_1 (pc2 := 4) rfl rfl (fun x1 m2 => ?_)
  refine lu_iconst X dX9_term_4 (pc2 := 5) rfl ic_1 ?_
  refine lu_isub X dX9_term_5 (pc2 := 6) rfl ?_
  exact lu_iret X hret dX9_term_6

def g9_splits (r : Nat) (a1 : Int32) (m : lu_M) : Option (Int32 × lu_M) := if m r 0 = 3 then f3_splits r a1 m else none
theorem v9_splits {β : Type} {G : lu_G} {Q : β → State → Prop} {pc pc2 : Nat} {lv : List (Nat × Value)} {st rest : List Value} {ρ : Nat → Nat} {k n : Nat} {ex : va_W} {m : lu_M} {own : String} {cc : ByteArray} {nL fr lo index r : Nat} {a1 : Int32} {ov : Option (Int32 × lu_M)} {Ko : Int32 → lu_M → Option β} (X : lu_X G own cc nL fr lo) (ml : Cond.methodLink own index ⟨RX9, "splits", "(I)I"⟩ ∈ lu_ws) (hT : lu_TC.2 r = (10, 0, 0)) (hr : r < lu_TC.1) (hf : g9_splits r a1 m = ov) (hroom : (rest.map fun v => v.category).sum ≤ 8) (hfr : 1 + 1 ≤ fr) (hlo : 8 + (0 + 11) + 24 ≤ lo) (hk : k ≤ (lu_R G).cells ∧ n ≤ (lu_R G).slots) (d : decode cc pc = .ok (.invokevirtual index, 3)) (hp : pc + 3 = pc2) (hst : st = [.int a1].reverse ++ .ref (ρ r) :: rest) (kk : ∀ (x : Int32) (m9 : lu_M), lu_Ab lu_TC G Q (Ko x m9) pc2 lv (.int x :: rest) ρ k n ex m9) : lu_Ab lu_TC G Q (lu_bi ov Ko) pc lv st ρ k n ex m := by
  subst hf
  unfold g9_splits
  by_cases h3 : m r 0 = 3
  · rw [if_pos h3]
    exact lu_invOi X (c3_splits _ hT hr a1) rfl ml mvO_9_9_splits_3_splits hT hr (by decide) ⟨(RX9, TX9, 6), by rw [h3]; rfl, rfl⟩ rfl rfl hroom (Nat.le_trans (Nat.le_of_ble_eq_true rfl) hfr) (Nat.le_trans (Nat.le_of_ble_eq_true rfl) hlo) hk d hp hst kk
  rw [if_neg h3]
  exact lu_none

theorem dX9_swears_0 : decode cX9_swears 0 = .ok (.aload_n 0, 1) := by decide +kernel
theorem dX9_swears_1 : decode cX9_swears 1 = .ok (.bipush 51, 2) := by decide +kernel
theorem dX9_swears_3 : decode cX9_swears 3 = .ok (.invokevirtual 15, 3) := by decide +kernel
theorem dX9_swears_6 : decode cX9_swears 6 = .ok (.aload_n 0, 1) := by decide +kernel
theorem dX9_swears_7 : decode cX9_swears 7 = .ok (.iload_n 1, 1) := by decide +kernel
theorem dX9_swears_8 : decode cX9_swears 8 = .ok (.invokespecial 24, 3) := by decide +kernel
theorem dX9_swears_11 : decode cX9_swears 11 = .ok (.istore_n 2, 1) := by decide +kernel
theorem dX9_swears_12 : decode cX9_swears 12 = .ok (.iload_n 2, 1) := by decide +kernel
theorem dX9_swears_13 : decode cX9_swears 13 = .ok (.aload_n 0, 1) := by decide +kernel
theorem dX9_swears_14 : decode cX9_swears 14 = .ok (.aload_n 0, 1) := by decide +kernel
theorem dX9_swears_15 : decode cX9_swears 15 = .ok (.getfield 27, 3) := by decide +kernel
theorem dX9_swears_18 : decode cX9_swears 18 = .ok (.invokevirtual 31, 3) := by decide +kernel
theorem dX9_swears_21 : decode cX9_swears 21 = .ok (.isub, 1) := by decide +kernel
theorem dX9_swears_22 : decode cX9_swears 22 = .ok (.ireturn, 1) := by decide +kernel
def f9_swears (r0 : Nat) (a1 : Int32) (m : lu_M) : Option (Int32 × lu_M) :=
  lu_bv (g9_began r0 (51 : Int32) m) fun m1 =>
  lu_bi (f3_swears r0 a1 m1) fun x2 m3 =>
  lu_bi (g9_splits r0 (m3 r0 2) m3) fun x4 m5 =>
  some ((x2 - x4), m5)
set_option maxRecDepth 20000 in
theorem c9_swears (l : Launch) {r0 : Nat} (hT_r0 : lu_TC.2 r0 = (10, 0, 0)) (hr_r0 : r0 < lu_TC.1) (a1 : Int32) : lu_C lu_TC l yX9_swears cX9_swears 3 (some .int) 6 126 (fun ρ sa => [.ref (ρ r0), .int a1]) (f9_swears r0 a1) lu_RVi lu_sn := by
  refine lu_met (cls := RX9) rfl (by decide +kernel) (fun _ _ => Nat.le_of_ble_eq_true rfl) ?_
  intro G ρ m hl X hret
  subst hl
  change lu_Ab lu_TC G (lu_Q lu_TC G ρ lu_RVi lu_sn) (f9_swears r0 a1 m) 0 [(0, .ref (ρ r0)), (1, .int a1)] [] ρ 0 0 [] m
  unfold f9_swears
  refine lu_aload_n X dX9_swears_0 (pc2 := 1) rfl rfl 0 rfl ?_
  refine lu_bipush X dX9_swears_1 (pc2 := 3) rfl bp_51 ?_
  refine v9_began X q1017 hT_r0 hr_r0 rfl (Nat.le_of_ble_eq_true rfl) (Nat.le_of_ble_eq_true rfl) (Nat.le_of_ble_eq_true rfl) ⟨Nat.zero_le _, Nat.zero_le _⟩ dX9_swears_3 (pc2 := 6) rfl rfl (fun m1 => ?_)
  refine lu_aload_n X dX9_swears_6 (pc2 := 7) rfl rfl 0 rfl ?_
  refine lu_iload_n X dX9_swears_7 (pc2 := 8) rfl rfl 1 rfl ?_
  refine lu_invPi X (c3_swears _ hT_r0 hr_r0 a1) rfl q1085 mvP9_2_swears hT_r0 hr_r0 (by decide) (by decide) rfl rfl (Nat.le_of_ble_eq_true rfl) (Nat.le_of_ble_eq_true rfl) (Nat.le_of_ble_eq_true rfl) ⟨Nat.zero_le _, Nat.zero_le _⟩ dX9_swears_8 (pc2 := 11) rfl rfl (fun x2 m3 => ?_)
  refine lu_istore_n (lv2 := [(2, .int x2), (0, .ref (ρ r0)), (1, .int a1)]) X dX9_swears_11 (pc2 := 12) rfl rfl (by decide) rfl ?_
  refine lu_iload_n X dX9_swears_12 (pc2 := 13) rfl rfl 0 rfl ?_
  refine lu_aload_n X dX9_swears_13 (pc2 := 14) rfl rfl 1 rfl ?_
  refine lu_aload_n X dX9_swears_14 (pc2 := 15) rfl rfl 1 rfl ?_
  refine lu_get X fl9_27 rfl hT_r0 hr_r0 dX9_swears_15 (pc2 := 18) rfl ?_
  refine v9_splits X q1088 hT_r0 hr_r0 rfl (Nat.le_of_ble_eq_true rfl) (Nat.le_of_ble_eq_true rfl) (Nat.le_of_ble_eq_true rfl) ⟨Nat.zero_le _, Nat.zero_le _⟩ dX9_swears_18 (pc2 := 21) rfl rfl (fun x4 m5 => ?_)
  refine lu_isub X dX9_swears_21 (pc2 := 22) rfl ?_
  exact lu_iret X hret dX9_swears_22

theorem dX10_isPerson_0 : decode cX10_isPerson 0 = .ok (.iload_n 1, 1) := by decide +kernel
theorem dX10_isPerson_1 : decode cX10_isPerson 1 = .ok (.iconst 0, 1) := by decide +kernel
theorem dX10_isPerson_2 : decode cX10_isPerson 2 = .ok (.aload_n 0, 1) := by decide +kernel
theorem dX10_isPerson_3 : decode cX10_isPerson 3 = .ok (.getfield 72, 3) := by decide +kernel
theorem dX10_isPerson_6 : decode cX10_isPerson 6 = .ok (.iconst 1, 1) := by decide +kernel
theorem dX10_isPerson_7 : decode cX10_isPerson 7 = .ok (.isub, 1) := by decide +kernel
theorem dX10_isPerson_8 : decode cX10_isPerson 8 = .ok (.invokestatic 97, 3) := by decide +kernel
theorem dX10_isPerson_11 : decode cX10_isPerson 11 = .ok (.ireturn, 1) := by decide +kernel
def f10_isPerson (r0 : Nat) (a1 : Int32) (m : lu_M) : Option (Int32 × lu_M) :=
  lu_bi (f11_isWithin a1 (0 : Int32) ((m r0 0) - (1 : Int32)) m) fun x1 m2 =>
  lu_gd (decide (x1 = 0 ∨ x1 = 1)) (some (x1, m2))
set_option maxRecDepth 20000 in
theorem c10_isPerson (l : Launch) {r0 : Nat} (hT_r0 : lu_TC.2 r0 = (5, 0, 0)) (hr_r0 : r0 < lu_TC.1) (a1 : Int32) : lu_C lu_TC l yX10_isPerson cX10_isPerson 2 (some .boolean) 1 22 (fun ρ sa => [.ref (ρ r0), .int a1]) (f10_isPerson r0 a1) lu_RVi lu_sn := by
  refine lu_met (cls := RX10) rfl (by decide +kernel) (fun _ _ => Nat.le_of_ble_eq_true rfl) ?_
  intro G ρ m hl X hret
  subst hl
  change lu_Ab lu_TC G (lu_Q lu_TC G ρ lu_RVi lu_sn) (f10_isPerson r0 a1 m) 0 [(0, .ref (ρ r0)), (1, .int a1)] [] ρ 0 0 [] m
  unfold f10_isPerson
  refine lu_iload_n X dX10_isPerson_0 (pc2 := 1) rfl rfl 1 rfl ?_
  refine lu_iconst X dX10_isPerson_1 (pc2 := 2) rfl ic_0 ?_
  refine lu_aload_n X dX10_isPerson_2 (pc2 := 3) rfl rfl 0 rfl ?_
  refine lu_get X fl10_72 rfl hT_r0 hr_r0 dX10_isPerson_3 (pc2 := 6) rfl ?_
  refine lu_iconst X dX10_isPerson_6 (pc2 := 7) rfl ic_1 ?_
  refine lu_isub X dX10_isPerson_7 (pc2 := 8) rfl ?_
  refine lu_invNi X (c11_isWithin _ a1 (0 : Int32) ((m r0 0) - (1 : Int32))) rfl (by decide +kernel) mvS_11_isWithin rfl rfl (Nat.le_of_ble_eq_true rfl) (Nat.le_of_ble_eq_true rfl) (Nat.le_of_ble_eq_true rfl) ⟨Nat.zero_le _, Nat.zero_le _⟩ dX10_isPerson_8 (pc2 := 11) rfl rfl (fun x1 m2 => ?_)
  exact lu_zretG X hret dX10_isPerson_11

theorem dX10_isDeed_0 : decode cX10_isDeed 0 = .ok (.iload_n 1, 1) := by decide +kernel
theorem dX10_isDeed_1 : decode cX10_isDeed 1 = .ok (.iconst 0, 1) := by decide +kernel
theorem dX10_isDeed_2 : decode cX10_isDeed 2 = .ok (.aload_n 0, 1) := by decide +kernel
theorem dX10_isDeed_3 : decode cX10_isDeed 3 = .ok (.getfield 84, 3) := by decide +kernel
theorem dX10_isDeed_6 : decode cX10_isDeed 6 = .ok (.iconst 1, 1) := by decide +kernel
theorem dX10_isDeed_7 : decode cX10_isDeed 7 = .ok (.isub, 1) := by decide +kernel
theorem dX10_isDeed_8 : decode cX10_isDeed 8 = .ok (.invokestatic 97, 3) := by decide +kernel
theorem dX10_isDeed_11 : decode cX10_isDeed 11 = .ok (.ireturn, 1) := by decide +kernel
def f10_isDeed (r0 : Nat) (a1 : Int32) (m : lu_M) : Option (Int32 × lu_M) :=
  lu_bi (f11_isWithin a1 (0 : Int32) ((m r0 2) - (1 : Int32)) m) fun x1 m2 =>
  lu_gd (decide (x1 = 0 ∨ x1 = 1)) (some (x1, m2))
set_option maxRecDepth 20000 in
theorem c10_isDeed (l : Launch) {r0 : Nat} (hT_r0 : lu_TC.2 r0 = (5, 0, 0)) (hr_r0 : r0 < lu_TC.1) (a1 : Int32) : lu_C lu_TC l yX10_isDeed cX10_isDeed 2 (some .boolean) 1 22 (fun ρ sa => [.ref (ρ r0), .int a1]) (f10_isDeed r0 a1) lu_RVi lu_sn := by
  refine lu_met (cls := RX10) rfl (by decide +kernel) (fun _ _ => Nat.le_of_ble_eq_true rfl) ?_
  intro G ρ m hl X hret
  subst hl
  change lu_Ab lu_TC G (lu_Q lu_TC G ρ lu_RVi lu_sn) (f10_isDeed r0 a1 m) 0 [(0, .ref (ρ r0)), (1, .int a1)] [] ρ 0 0 [] m
  unfold f10_isDeed
  refine lu_iload_n X dX10_isDeed_0 (pc2 := 1) rfl rfl 1 rfl ?_
  refine lu_iconst X dX10_isDeed_1 (pc2 := 2) rfl ic_0 ?_
  refine lu_aload_n X dX10_isDeed_2 (pc2 := 3) rfl rfl 0 rfl ?_
  refine lu_get X fl10_84 rfl hT_r0 hr_r0 dX10_isDeed_3 (pc2 := 6) rfl ?_
  refine lu_iconst X dX10_isDeed_6 (pc2 := 7) rfl ic_1 ?_
  refine lu_isub X dX10_isDeed_7 (pc2 := 8) rfl ?_
  refine lu_invNi X (c11_isWithin _ a1 (0 : Int32) ((m r0 2) - (1 : Int32))) rfl (by decide +kernel) mvS_11_isWithin rfl rfl (Nat.le_of_ble_eq_true rfl) (Nat.le_of_ble_eq_true rfl) (Nat.le_of_ble_eq_true rfl) ⟨Nat.zero_le _, Nat.zero_le _⟩ dX10_isDeed_8 (pc2 := 11) rfl rfl (fun x1 m2 => ?_)
  exact lu_zretG X hret dX10_isDeed_11

theorem dX10_isDeedSet_0 : decode cX10_isDeedSet 0 = .ok (.iload_n 1, 1) := by decide +kernel
theorem dX10_isDeedSet_1 : decode cX10_isDeedSet 1 = .ok (.iconst 0, 1) := by decide +kernel
theorem dX10_isDeedSet_2 : decode cX10_isDeedSet 2 = .ok (.iconst 1, 1) := by decide +kernel
theorem dX10_isDeedSet_3 : decode cX10_isDeedSet 3 = .ok (.aload_n 0, 1) := by decide +kernel
theorem dX10_isDeedSet_4 : decode cX10_isDeedSet 4 = .ok (.getfield 84, 3) := by decide +kernel
theorem dX10_isDeedSet_7 : decode cX10_isDeedSet 7 = .ok (.ishl, 1) := by decide +kernel
theorem dX10_isDeedSet_8 : decode cX10_isDeedSet 8 = .ok (.iconst 1, 1) := by decide +kernel
theorem dX10_isDeedSet_9 : decode cX10_isDeedSet 9 = .ok (.isub, 1) := by decide +kernel
theorem dX10_isDeedSet_10 : decode cX10_isDeedSet 10 = .ok (.invokestatic 97, 3) := by decide +kernel
theorem dX10_isDeedSet_13 : decode cX10_isDeedSet 13 = .ok (.ireturn, 1) := by decide +kernel
def f10_isDeedSet (r0 : Nat) (a1 : Int32) (m : lu_M) : Option (Int32 × lu_M) :=
  lu_bi (f11_isWithin a1 (0 : Int32) (((1 : Int32) <<< ((m r0 2) &&& 31)) - (1 : Int32)) m) fun x1 m2 =>
  lu_gd (decide (x1 = 0 ∨ x1 = 1)) (some (x1, m2))
set_option maxRecDepth 20000 in
theorem c10_isDeedSet (l : Launch) {r0 : Nat} (hT_r0 : lu_TC.2 r0 = (5, 0, 0)) (hr_r0 : r0 < lu_TC.1) (a1 : Int32) : lu_C lu_TC l yX10_isDeedSet cX10_isDeedSet 2 (some .boolean) 1 22 (fun ρ sa => [.ref (ρ r0), .int a1]) (f10_isDeedSet r0 a1) lu_RVi lu_sn := by
  refine lu_met (cls := RX10) rfl (by decide +kernel) (fun _ _ => Nat.le_of_ble_eq_true rfl) ?_
  intro G ρ m hl X hret
  subst hl
  change lu_Ab lu_TC G (lu_Q lu_TC G ρ lu_RVi lu_sn) (f10_isDeedSet r0 a1 m) 0 [(0, .ref (ρ r0)), (1, .int a1)] [] ρ 0 0 [] m
  unfold f10_isDeedSet
  refine lu_iload_n X dX10_isDeedSet_0 (pc2 := 1) rfl rfl 1 rfl ?_
  refine lu_iconst X dX10_isDeedSet_1 (pc2 := 2) rfl ic_0 ?_
  refine lu_iconst X dX10_isDeedSet_2 (pc2 := 3) rfl ic_1 ?_
  refine lu_aload_n X dX10_isDeedSet_3 (pc2 := 4) rfl rfl 0 rfl ?_
  refine lu_get X fl10_84 rfl hT_r0 hr_r0 dX10_isDeedSet_4 (pc2 := 7) rfl ?_
  refine lu_ishl X dX10_isDeedSet_7 (pc2 := 8) rfl ?_
  refine lu_iconst X dX10_isDeedSet_8 (pc2 := 9) rfl ic_1 ?_
  refine lu_isub X dX10_isDeedSet_9 (pc2 := 10) rfl ?_
  refine lu_invNi X (c11_isWithin _ a1 (0 : Int32) (((1 : Int32) <<< ((m r0 2) &&& 31)) - (1 : Int32))) rfl (by decide +kernel) mvS_11_isWithin rfl rfl (Nat.le_of_ble_eq_true rfl) (Nat.le_of_ble_eq_true rfl) (Nat.le_of_ble_eq_true rfl) ⟨Nat.zero_le _, Nat.zero_le _⟩ dX10_isDeedSet_10 (pc2 := 13) rfl rfl (fun x1 m2 => ?_)
  exact lu_zretG X hret dX10_isDeedSet_13

theorem dX10_isAct_0 : decode cX10_isAct 0 = .ok (.iload_n 1, 1) := by decide +kernel
theorem dX10_isAct_1 : decode cX10_isAct 1 = .ok (.iconst 0, 1) := by decide +kernel
theorem dX10_isAct_2 : decode cX10_isAct 2 = .ok (.aload_n 0, 1) := by decide +kernel
theorem dX10_isAct_3 : decode cX10_isAct 3 = .ok (.getfield 72, 3) := by decide +kernel
theorem dX10_isAct_6 : decode cX10_isAct 6 = .ok (.invokestatic 97, 3) := by decide +kernel
theorem dX10_isAct_9 : decode cX10_isAct 9 = .ok (.ireturn, 1) := by decide +kernel
def f10_isAct (r0 : Nat) (a1 : Int32) (m : lu_M) : Option (Int32 × lu_M) :=
  lu_bi (f11_isWithin a1 (0 : Int32) (m r0 0) m) fun x1 m2 =>
  lu_gd (decide (x1 = 0 ∨ x1 = 1)) (some (x1, m2))
set_option maxRecDepth 20000 in
theorem c10_isAct (l : Launch) {r0 : Nat} (hT_r0 : lu_TC.2 r0 = (5, 0, 0)) (hr_r0 : r0 < lu_TC.1) (a1 : Int32) : lu_C lu_TC l yX10_isAct cX10_isAct 2 (some .boolean) 1 22 (fun ρ sa => [.ref (ρ r0), .int a1]) (f10_isAct r0 a1) lu_RVi lu_sn := by
  refine lu_met (cls := RX10) rfl (by decide +kernel) (fun _ _ => Nat.le_of_ble_eq_true rfl) ?_
  intro G ρ m hl X hret
  subst hl
  change lu_Ab lu_TC G (lu_Q lu_TC G ρ lu_RVi lu_sn) (f10_isAct r0 a1 m) 0 [(0, .ref (ρ r0)), (1, .int a1)] [] ρ 0 0 [] m
  unfold f10_isAct
  refine lu_iload_n X dX10_isAct_0 (pc2 := 1) rfl rfl 1 rfl ?_
  refine lu_iconst X dX10_isAct_1 (pc2 := 2) rfl ic_0 ?_
  refine lu_aload_n X dX10_isAct_2 (pc2 := 3) rfl rfl 0 rfl ?_
  refine lu_get X fl10_72 rfl hT_r0 hr_r0 dX10_isAct_3 (pc2 := 6) rfl ?_
  refine lu_invNi X (c11_isWithin _ a1 (0 : Int32) (m r0 0)) rfl (by decide +kernel) mvS_11_isWithin rfl rfl (Nat.le_of_ble_eq_true rfl) (Nat.le_of_ble_eq_true rfl) (Nat.le_of_ble_eq_true rfl) ⟨Nat.zero_le _, Nat.zero_le _⟩ dX10_isAct_6 (pc2 := 9) rfl rfl (fun x1 m2 => ?_)
  exact lu_zretG X hret dX10_isAct_9

theorem dX10_isOver_0 : decode cX10_isOver 0 = .ok (.aload_n 1, 1) := by decide +kernel
theorem dX10_isOver_1 : decode cX10_isOver 1 = .ok (.getfield 101, 3) := by decide +kernel
theorem dX10_isOver_4 : decode cX10_isOver 4 = .ok (.aload_n 0, 1) := by decide +kernel
theorem dX10_isOver_5 : decode cX10_isOver 5 = .ok (.getfield 40, 3) := by decide +kernel
theorem dX10_isOver_8 : decode cX10_isOver 8 = .ok (.if_icmp .lt 7, 3) := by decide +kernel
theorem dX10_isOver_11 : decode cX10_isOver 11 = .ok (.iconst 1, 1) := by decide +kernel
theorem dX10_isOver_12 : decode cX10_isOver 12 = .ok (.goto 4, 3) := by decide +kernel
theorem dX10_isOver_15 : decode cX10_isOver 15 = .ok (.iconst 0, 1) := by decide +kernel
theorem dX10_isOver_16 : decode cX10_isOver 16 = .ok (.ireturn, 1) := by decide +kernel
def f10_isOver_b16  (r0 : Nat) (r1 : Nat) (s0 : Int32) (m : lu_M) : Option (Int32 × lu_M) :=
  lu_gd (decide (s0 = 0 ∨ s0 = 1)) (some (s0, m))
set_option maxRecDepth 20000 in
theorem w10_isOver_b16  {G : lu_G} {ρ : Nat → Nat} {r0 : Nat} {r1 : Nat}  (X : lu_X G RX10 cX10_isOver 2 0 0) (hret : (lu_me G).sig.returnType = (some .boolean)) (hT_r0 : lu_TC.2 r0 = (5, 0, 0)) (hr_r0 : r0 < lu_TC.1) (hT_r1 : lu_TC.2 r1 = (6, 0, 0)) (hr_r1 : r1 < lu_TC.1)  : ∀ (s0 : Int32) (m : lu_M), lu_Ab lu_TC G (lu_Q lu_TC G ρ lu_RVi lu_sn) (f10_isOver_b16 r0 r1 s0 m) 16 [] [.int s0] ρ 0 0 [] m := by
  intro s0 m
  unfold f10_isOver_b16
  exact lu_zretG X hret dX10_isOver_16
def f10_isOver (r0 : Nat) (r1 : Nat) (m : lu_M) : Option (Int32 × lu_M) :=
  if (m r1 0) < (m r0 9) then (f10_isOver_b16 r0 r1 (0 : Int32) m)
  else (f10_isOver_b16 r0 r1 (1 : Int32) m)
set_option maxRecDepth 20000 in
theorem c10_isOver (l : Launch) {r0 : Nat} {r1 : Nat} (hT_r0 : lu_TC.2 r0 = (5, 0, 0)) (hr_r0 : r0 < lu_TC.1) (hT_r1 : lu_TC.2 r1 = (6, 0, 0)) (hr_r1 : r1 < lu_TC.1)  : lu_C lu_TC l yX10_isOver cX10_isOver 2 (some .boolean) 0 0 (fun ρ sa => [.ref (ρ r0), .ref (ρ r1)]) (f10_isOver r0 r1) lu_RVi lu_sn := by
  refine lu_met (cls := RX10) rfl (by decide +kernel) (fun _ _ => Nat.le_of_ble_eq_true rfl) ?_
  intro G ρ m hl X hret
  subst hl
  change lu_Ab lu_TC G (lu_Q lu_TC G ρ lu_RVi lu_sn) (f10_isOver r0 r1 m) 0 [(0, .ref (ρ r0)), (1, .ref (ρ r1))] [] ρ 0 0 [] m
  unfold f10_isOver
  refine lu_aload_n X dX10_isOver_0 (pc2 := 1) rfl rfl 1 rfl ?_
  refine lu_get X fl10_101 rfl hT_r1 hr_r1 dX10_isOver_1 (pc2 := 4) rfl ?_
  refine lu_aload_n X dX10_isOver_4 (pc2 := 5) rfl rfl 0 rfl ?_
  refine lu_get X fl10_40 rfl hT_r0 hr_r0 dX10_isOver_5 (pc2 := 8) rfl ?_
  refine lu_icmp_lt (tgt := 15) X dX10_isOver_8 (pc2 := 11) rfl (by decide) (fun _ => ?_) (fun _ => ?_)
  · refine lu_iconst X dX10_isOver_15 (pc2 := 16) rfl ic_0 ?_
    exact lu_sub [] rfl (w10_isOver_b16 X hret hT_r0 hr_r0 hT_r1 hr_r1 (0 : Int32) m)
  · refine lu_iconst X dX10_isOver_11 (pc2 := 12) rfl ic_1 ?_
    refine lu_goto (tgt := 16) X dX10_isOver_12 (by decide) ?_
    exact lu_sub [] rfl (w10_isOver_b16 X hret hT_r0 hr_r0 hT_r1 hr_r1 (1 : Int32) m)

def g3_term (r : Nat)  (m : lu_M) : Option (Int32 × lu_M) := if m r 0 = 1 then f3_term r  m else if m r 0 = 2 then f2_term r  m else if m r 0 = 3 then f9_term r  m else if m r 0 = 4 then f7_term r  m else if m r 0 = 5 then f4_term r  m else f3_term r  m
theorem v3_term {β : Type} {G : lu_G} {Q : β → State → Prop} {pc pc2 : Nat} {lv : List (Nat × Value)} {st rest : List Value} {ρ : Nat → Nat} {k n : Nat} {ex : va_W} {m : lu_M} {own : String} {cc : ByteArray} {nL fr lo index r : Nat}  {ov : Option (Int32 × lu_M)} {Ko : Int32 → lu_M → Option β} (X : lu_X G own cc nL fr lo) (ml : Cond.methodLink own index yX3_term ∈ lu_ws) (hT : lu_TC.2 r = (10, 0, 0)) (hr : r < lu_TC.1) (hf : g3_term r  m = ov) (hroom : (rest.map fun v => v.category).sum ≤ 8) (hfr : 2 + 1 ≤ fr) (hlo : 8 + (0 + 11) + 41 ≤ lo) (hk : k ≤ (lu_R G).cells ∧ n ≤ (lu_R G).slots) (d : decode cc pc = .ok (.invokevirtual index, 3)) (hp : pc + 3 = pc2) (hst : st = [].reverse ++ .ref (ρ r) :: rest) (kk : ∀ (x : Int32) (m9 : lu_M), lu_Ab lu_TC G Q (Ko x m9) pc2 lv (.int x :: rest) ρ k n ex m9) : lu_Ab lu_TC G Q (lu_bi ov Ko) pc lv st ρ k n ex m := by
  subst hf
  unfold g3_term
  by_cases h1 : m r 0 = 1
  · rw [if_pos h1]
    exact lu_invOi X (c3_term _ hT hr ) rfl ml mvO_0_3_term_3_term hT hr (by decide) ⟨(RX0, TX0, 6), by rw [h1]; rfl, rfl⟩ rfl rfl hroom (Nat.le_trans (Nat.le_of_ble_eq_true rfl) hfr) (Nat.le_trans (Nat.le_of_ble_eq_true rfl) hlo) hk d hp hst kk
  rw [if_neg h1]
  by_cases h2 : m r 0 = 2
  · rw [if_pos h2]
    exact lu_invOi X (c2_term _ hT hr ) rfl ml mvO_2_3_term_2_term hT hr (by decide) ⟨(RX2, TX2, 6), by rw [h2]; rfl, rfl⟩ rfl rfl hroom (Nat.le_trans (Nat.le_of_ble_eq_true rfl) hfr) (Nat.le_trans (Nat.le_of_ble_eq_true rfl) hlo) hk d hp hst kk
  rw [if_neg h2]
  by_cases h3 : m r 0 = 3
  · rw [if_pos h3]
    exact lu_invOi X (c9_term _ hT hr ) rfl ml mvO_9_3_term_9_term hT hr (by decide) ⟨(RX9, TX9, 6), by rw [h3]; rfl, rfl⟩ rfl rfl hroom (Nat.le_trans (Nat.le_of_ble_eq_true rfl) hfr) (Nat.le_trans (Nat.le_of_ble_eq_true rfl) hlo) hk d hp hst kk
  rw [if_neg h3]
  by_cases h4 : m r 0 = 4
  · rw [if_pos h4]
    exact lu_invOi X (c7_term _ hT hr ) rfl ml mvO_7_3_term_7_term hT hr (by decide) ⟨(RX7, TX7, 6), by rw [h4]; rfl, rfl⟩ rfl rfl hroom (Nat.le_trans (Nat.le_of_ble_eq_true rfl) hfr) (Nat.le_trans (Nat.le_of_ble_eq_true rfl) hlo) hk d hp hst kk
  rw [if_neg h4]
  by_cases h5 : m r 0 = 5
  · rw [if_pos h5]
    exact lu_invOi X (c4_term _ hT hr ) rfl ml mvO_4_3_term_4_term hT hr (by decide) ⟨(RX4, TX4, 6), by rw [h5]; rfl, rfl⟩ rfl rfl hroom (Nat.le_trans (Nat.le_of_ble_eq_true rfl) hfr) (Nat.le_trans (Nat.le_of_ble_eq_true rfl) hlo) hk d hp hst kk
  rw [if_neg h5]
  exact lu_invOi X (c3_term _ hT hr ) rfl ml mvO_3_3_term_3_term hT hr (by decide) ⟨(RX3, TX3, 6), by show lu_cl[lu_hk (m r 0)]? = _; unfold lu_hk; rw [if_neg h1, if_neg h2, if_neg h3, if_neg h4, if_neg h5]; rfl, rfl⟩ rfl rfl hroom (Nat.le_trans (Nat.le_of_ble_eq_true rfl) hfr) (Nat.le_trans (Nat.le_of_ble_eq_true rfl) hlo) hk d hp hst kk

theorem dX10_settle_0 : decode cX10_settle 0 = .ok (.iconst 0, 1) := by decide +kernel
theorem dX10_settle_1 : decode cX10_settle 1 = .ok (.istore_n 1, 1) := by decide +kernel
theorem dX10_settle_2 : decode cX10_settle 2 = .ok (.iload_n 1, 1) := by decide +kernel
theorem dX10_settle_3 : decode cX10_settle 3 = .ok (.bipush 6, 2) := by decide +kernel
theorem dX10_settle_5 : decode cX10_settle 5 = .ok (.if_icmp .ge 16, 3) := by decide +kernel
theorem dX10_settle_8 : decode cX10_settle 8 = .ok (.aload_n 0, 1) := by decide +kernel
theorem dX10_settle_9 : decode cX10_settle 9 = .ok (.getfield 37, 3) := by decide +kernel
theorem dX10_settle_12 : decode cX10_settle 12 = .ok (.iload_n 1, 1) := by decide +kernel
theorem dX10_settle_13 : decode cX10_settle 13 = .ok (.iconst 0, 1) := by decide +kernel
theorem dX10_settle_14 : decode cX10_settle 14 = .ok (.iastore, 1) := by decide +kernel
theorem dX10_settle_15 : decode cX10_settle 15 = .ok (.iinc 1 1, 3) := by decide +kernel
theorem dX10_settle_18 : decode cX10_settle 18 = .ok (.goto (-16), 3) := by decide +kernel
theorem dX10_settle_21 : decode cX10_settle 21 = .ok (.iconst 0, 1) := by decide +kernel
theorem dX10_settle_22 : decode cX10_settle 22 = .ok (.istore_n 1, 1) := by decide +kernel
theorem dX10_settle_23 : decode cX10_settle 23 = .ok (.iload_n 1, 1) := by decide +kernel
theorem dX10_settle_24 : decode cX10_settle 24 = .ok (.aload_n 0, 1) := by decide +kernel
theorem dX10_settle_25 : decode cX10_settle 25 = .ok (.getfield 84, 3) := by decide +kernel
theorem dX10_settle_28 : decode cX10_settle 28 = .ok (.if_icmp .ge 53, 3) := by decide +kernel
theorem dX10_settle_31 : decode cX10_settle 31 = .ok (.aload_n 0, 1) := by decide +kernel
theorem dX10_settle_32 : decode cX10_settle 32 = .ok (.getfield 34, 3) := by decide +kernel
theorem dX10_settle_35 : decode cX10_settle 35 = .ok (.iload_n 1, 1) := by decide +kernel
theorem dX10_settle_36 : decode cX10_settle 36 = .ok (.aload_n 0, 1) := by decide +kernel
theorem dX10_settle_37 : decode cX10_settle 37 = .ok (.getfield 25, 3) := by decide +kernel
theorem dX10_settle_40 : decode cX10_settle 40 = .ok (.iload_n 1, 1) := by decide +kernel
theorem dX10_settle_41 : decode cX10_settle 41 = .ok (.iaload, 1) := by decide +kernel
theorem dX10_settle_42 : decode cX10_settle 42 = .ok (.aload_n 0, 1) := by decide +kernel
theorem dX10_settle_43 : decode cX10_settle 43 = .ok (.getfield 11, 3) := by decide +kernel
theorem dX10_settle_46 : decode cX10_settle 46 = .ok (.aload_n 0, 1) := by decide +kernel
theorem dX10_settle_47 : decode cX10_settle 47 = .ok (.getfield 21, 3) := by decide +kernel
theorem dX10_settle_50 : decode cX10_settle 50 = .ok (.iload_n 1, 1) := by decide +kernel
theorem dX10_settle_51 : decode cX10_settle 51 = .ok (.iaload, 1) := by decide +kernel
theorem dX10_settle_52 : decode cX10_settle 52 = .ok (.aaload, 1) := by decide +kernel
theorem dX10_settle_53 : decode cX10_settle 53 = .ok (.invokevirtual 104, 3) := by decide +kernel
theorem dX10_settle_56 : decode cX10_settle 56 = .ok (.iadd, 1) := by decide +kernel
theorem dX10_settle_57 : decode cX10_settle 57 = .ok (.iastore, 1) := by decide +kernel
theorem dX10_settle_58 : decode cX10_settle 58 = .ok (.aload_n 0, 1) := by decide +kernel
theorem dX10_settle_59 : decode cX10_settle 59 = .ok (.getfield 37, 3) := by decide +kernel
theorem dX10_settle_62 : decode cX10_settle 62 = .ok (.aload_n 0, 1) := by decide +kernel
theorem dX10_settle_63 : decode cX10_settle 63 = .ok (.getfield 21, 3) := by decide +kernel
theorem dX10_settle_66 : decode cX10_settle 66 = .ok (.iload_n 1, 1) := by decide +kernel
theorem dX10_settle_67 : decode cX10_settle 67 = .ok (.iaload, 1) := by decide +kernel
theorem dX10_settle_68 : decode cX10_settle 68 = .ok (.dup2, 1) := by decide +kernel
theorem dX10_settle_69 : decode cX10_settle 69 = .ok (.iaload, 1) := by decide +kernel
theorem dX10_settle_70 : decode cX10_settle 70 = .ok (.iconst 1, 1) := by decide +kernel
theorem dX10_settle_71 : decode cX10_settle 71 = .ok (.iload_n 1, 1) := by decide +kernel
theorem dX10_settle_72 : decode cX10_settle 72 = .ok (.ishl, 1) := by decide +kernel
theorem dX10_settle_73 : decode cX10_settle 73 = .ok (.ior, 1) := by decide +kernel
theorem dX10_settle_74 : decode cX10_settle 74 = .ok (.iastore, 1) := by decide +kernel
theorem dX10_settle_75 : decode cX10_settle 75 = .ok (.iinc 1 1, 3) := by decide +kernel
theorem dX10_settle_78 : decode cX10_settle 78 = .ok (.goto (-55), 3) := by decide +kernel
theorem dX10_settle_81 : decode cX10_settle 81 = .ok (.return_, 1) := by decide +kernel
def f10_settle_b2B (K21 : lu_M → Option (lu_M)) (rec : Int32 → lu_M → Option (lu_M)) (r0 : Nat) (v1 : Int32) (m : lu_M) : Option (lu_M) :=
  if (6 : Int32) ≤ v1 then (K21 m)
  else (lu_gd (lu_ib v1 6) <|
  lu_nm (lu_st m (r0 + 13) v1.toNatClampNeg (0 : Int32)) fun m1 =>
  rec (v1 + (1 : Int32)) m1)
def f10_settle_b2 (K21 : lu_M → Option (lu_M)) (r0 : Nat) : Nat → Int32 → lu_M → Option (lu_M)
  | 0, _, _ => none
  | n + 1, v1, m => f10_settle_b2B K21 (f10_settle_b2 K21 r0 n) r0 v1 m
set_option maxRecDepth 20000 in
theorem w10_settle_b2B  {G : lu_G} {ρ : Nat → Nat} {r0 : Nat} {K21 : lu_M → Option (lu_M)} {rec : Int32 → lu_M → Option (lu_M)} (X : lu_X G RX10 cX10_settle 2 3 60) (hret : (lu_me G).sig.returnType = none) (hT_r0 : lu_TC.2 r0 = (5, 0, 0)) (hr_r0 : r0 < lu_TC.1) (hK21 : ∀  (m : lu_M), lu_Ab lu_TC G (lu_Q lu_TC G ρ lu_RVv lu_id) (K21 m) 21 [(0, .ref (ρ r0))] [] ρ 0 0 [] m) (hrec : ∀ (v1 : Int32) (m : lu_M), lu_Ab lu_TC G (lu_Q lu_TC G ρ lu_RVv lu_id) (rec v1 m) 2 [(0, .ref (ρ r0)), (1, .int v1)] [] ρ 0 0 [] m) : ∀ (v1 : Int32) (m : lu_M), lu_Ab lu_TC G (lu_Q lu_TC G ρ lu_RVv lu_id) (f10_settle_b2B K21 rec r0 v1 m) 2 [(0, .ref (ρ r0)), (1, .int v1)] [] ρ 0 0 [] m := by
  intro v1 m
  unfold f10_settle_b2B
  refine lu_iload_n X dX10_settle_2 (pc2 := 3) rfl rfl 1 rfl ?_
  refine lu_bipush X dX10_settle_3 (pc2 := 5) rfl bp_6 ?_
  refine lu_icmp_ge (tgt := 21) X dX10_settle_5 (pc2 := 8) rfl (by decide) (fun _ => ?_) (fun _ => ?_)
  · exact lu_sub [0] rfl (hK21 m)
  · refine lu_aload_n X dX10_settle_8 (pc2 := 9) rfl rfl 0 rfl ?_
    refine lu_getr (r2 := (r0 + 13)) X rfl fl10_37 rfl hT_r0 hr_r0 dX10_settle_9 (pc2 := 12) rfl ?_
    refine lu_iload_n X dX10_settle_12 (pc2 := 13) rfl rfl 1 rfl ?_
    refine lu_iconst X dX10_settle_13 (pc2 := 14) rfl ic_0 ?_
    refine lu_iast X ((koC_5_13 hT_r0 hr_r0).1) ((koC_5_13 hT_r0 hr_r0).2) dX10_settle_14 (pc2 := 15) rfl (fun m1 => ?_)
    refine lu_iinc (lv2 := [(1, .int (v1 + (1 : Int32))), (0, .ref (ρ r0))]) X dX10_settle_15 (pc2 := 18) rfl 1 rfl (lu_ii _ ic_1) (by decide) rfl ?_
    refine lu_goto (tgt := 2) X dX10_settle_18 (by decide) ?_
    exact lu_sub [1, 0] rfl (hrec (v1 + (1 : Int32)) m1)
theorem w10_settle_b2  {G : lu_G} {ρ : Nat → Nat} {r0 : Nat} {K21 : lu_M → Option (lu_M)} (X : lu_X G RX10 cX10_settle 2 3 60) (hret : (lu_me G).sig.returnType = none) (hT_r0 : lu_TC.2 r0 = (5, 0, 0)) (hr_r0 : r0 < lu_TC.1) (hK21 : ∀  (m : lu_M), lu_Ab lu_TC G (lu_Q lu_TC G ρ lu_RVv lu_id) (K21 m) 21 [(0, .ref (ρ r0))] [] ρ 0 0 [] m) : ∀ (n : Nat) (v1 : Int32) (m : lu_M), lu_Ab lu_TC G (lu_Q lu_TC G ρ lu_RVv lu_id) (f10_settle_b2 K21 r0 n v1 m) 2 [(0, .ref (ρ r0)), (1, .int v1)] [] ρ 0 0 [] m := by
  intro n
  induction n with
  | zero => intro v1 m; exact lu_none
  | succ n ih => intro v1 m; exact w10_settle_b2B X hret hT_r0 hr_r0 hK21 ih v1 m
def f10_settle_b23B (K81 : lu_M → Option (lu_M)) (rec : Int32 → lu_M → Option (lu_M)) (r0 : Nat) (v1 : Int32) (m : lu_M) : Option (lu_M) :=
  if (m r0 2) ≤ v1 then (K81 m)
  else (lu_gd (lu_ib v1 10) <|
  lu_gd (lu_ib v1 10) <|
  lu_gd (lu_ib (m (r0 + 8) v1.toNatClampNeg) 6) <|
  lu_bi (g3_term ((r0 + 1) + 1 + (m (r0 + 8) v1.toNatClampNeg).toNatClampNeg) m) fun x3 m4 =>
  lu_gd (lu_ib v1 10) <|
  lu_nm (lu_st m4 (r0 + 12) v1.toNatClampNeg ((m (r0 + 9) v1.toNatClampNeg) + x3)) fun m5 =>
  lu_gd (lu_ib v1 10) <|
  lu_gd (lu_ib (m5 (r0 + 8) v1.toNatClampNeg) 6) <|
  lu_gd (lu_ib (m5 (r0 + 8) v1.toNatClampNeg) 6) <|
  lu_nm (lu_st m5 (r0 + 13) (m5 (r0 + 8) v1.toNatClampNeg).toNatClampNeg ((m5 (r0 + 13) (m5 (r0 + 8) v1.toNatClampNeg).toNatClampNeg) ||| ((1 : Int32) <<< (v1 &&& 31)))) fun m6 =>
  rec (v1 + (1 : Int32)) m6)
def f10_settle_b23 (K81 : lu_M → Option (lu_M)) (r0 : Nat) : Nat → Int32 → lu_M → Option (lu_M)
  | 0, _, _ => none
  | n + 1, v1, m => f10_settle_b23B K81 (f10_settle_b23 K81 r0 n) r0 v1 m
set_option maxRecDepth 20000 in
theorem w10_settle_b23B  {G : lu_G} {ρ : Nat → Nat} {r0 : Nat} {K81 : lu_M → Option (lu_M)} {rec : Int32 → lu_M → Option (lu_M)} (X : lu_X G RX10 cX10_settle 2 3 60) (hret : (lu_me G).sig.returnType = none) (hT_r0 : lu_TC.2 r0 = (5, 0, 0)) (hr_r0 : r0 < lu_TC.1) (hK81 : ∀  (m : lu_M), lu_Ab lu_TC G (lu_Q lu_TC G ρ lu_RVv lu_id) (K81 m) 81 [] [] ρ 0 0 [] m) (hrec : ∀ (v1 : Int32) (m : lu_M), lu_Ab lu_TC G (lu_Q lu_TC G ρ lu_RVv lu_id) (rec v1 m) 23 [(0, .ref (ρ r0)), (1, .int v1)] [] ρ 0 0 [] m) : ∀ (v1 : Int32) (m : lu_M), lu_Ab lu_TC G (lu_Q lu_TC G ρ lu_RVv lu_id) (f10_settle_b23B K81 rec r0 v1 m) 23 [(0, .ref (ρ r0)), (1, .int v1)] [] ρ 0 0 [] m := by
  intro v1 m
  unfold f10_settle_b23B
  refine lu_iload_n X dX10_settle_23 (pc2 := 24) rfl rfl 1 rfl ?_
  refine lu_aload_n X dX10_settle_24 (pc2 := 25) rfl rfl 0 rfl ?_
  refine lu_get X fl10_84 rfl hT_r0 hr_r0 dX10_settle_25 (pc2 := 28) rfl ?_
  refine lu_icmp_ge (tgt := 81) X dX10_settle_28 (pc2 := 31) rfl (by decide) (fun _ => ?_) (fun _ => ?_)
  · exact lu_sub [] rfl (hK81 m)
  · refine lu_aload_n X dX10_settle_31 (pc2 := 32) rfl rfl 0 rfl ?_
    refine lu_getr (r2 := (r0 + 12)) X rfl fl10_34 rfl hT_r0 hr_r0 dX10_settle_32 (pc2 := 35) rfl ?_
    refine lu_iload_n X dX10_settle_35 (pc2 := 36) rfl rfl 1 rfl ?_
    refine lu_aload_n X dX10_settle_36 (pc2 := 37) rfl rfl 0 rfl ?_
    refine lu_getr (r2 := (r0 + 9)) X rfl fl10_25 rfl hT_r0 hr_r0 dX10_settle_37 (pc2 := 40) rfl ?_
    refine lu_iload_n X dX10_settle_40 (pc2 := 41) rfl rfl 1 rfl ?_
    refine lu_iald X ((koC_5_9 hT_r0 hr_r0).1) ((koC_5_9 hT_r0 hr_r0).2) dX10_settle_41 (pc2 := 42) rfl ?_
    refine lu_aload_n X dX10_settle_42 (pc2 := 43) rfl rfl 0 rfl ?_
    refine lu_getr (r2 := (r0 + 1)) X rfl fl10_11 rfl hT_r0 hr_r0 dX10_settle_43 (pc2 := 46) rfl ?_
    refine lu_aload_n X dX10_settle_46 (pc2 := 47) rfl rfl 0 rfl ?_
    refine lu_getr (r2 := (r0 + 8)) X rfl fl10_21 rfl hT_r0 hr_r0 dX10_settle_47 (pc2 := 50) rfl ?_
    refine lu_iload_n X dX10_settle_50 (pc2 := 51) rfl rfl 1 rfl ?_
    refine lu_iald X ((koC_5_8 hT_r0 hr_r0).1) ((koC_5_8 hT_r0 hr_r0).2) dX10_settle_51 (pc2 := 52) rfl ?_
    refine lu_aald X rfl rfl (by decide) (by decide) ((koC_5_1 hT_r0 hr_r0).1) ((koC_5_1 hT_r0 hr_r0).2) dX10_settle_52 (pc2 := 53) rfl (fun g2 => ?_)
    refine v3_term X q503 ((kaC_1_6_0 ((koC_5_1 hT_r0 hr_r0).1) ((koC_5_1 hT_r0 hr_r0).2) g2).1) ((kaC_1_6_0 ((koC_5_1 hT_r0 hr_r0).1) ((koC_5_1 hT_r0 hr_r0).2) g2).2) rfl (Nat.le_of_ble_eq_true rfl) (Nat.le_of_ble_eq_true rfl) (Nat.le_of_ble_eq_true rfl) ⟨Nat.zero_le _, Nat.zero_le _⟩ dX10_settle_53 (pc2 := 56) rfl rfl (fun x3 m4 => ?_)
    refine lu_iadd X dX10_settle_56 (pc2 := 57) rfl ?_
    refine lu_iast X ((koC_5_12 hT_r0 hr_r0).1) ((koC_5_12 hT_r0 hr_r0).2) dX10_settle_57 (pc2 := 58) rfl (fun m5 => ?_)
    refine lu_aload_n X dX10_settle_58 (pc2 := 59) rfl rfl 0 rfl ?_
    refine lu_getr (r2 := (r0 + 13)) X rfl fl10_37 rfl hT_r0 hr_r0 dX10_settle_59 (pc2 := 62) rfl ?_
    refine lu_aload_n X dX10_settle_62 (pc2 := 63) rfl rfl 0 rfl ?_
    refine lu_getr (r2 := (r0 + 8)) X rfl fl10_21 rfl hT_r0 hr_r0 dX10_settle_63 (pc2 := 66) rfl ?_
    refine lu_iload_n X dX10_settle_66 (pc2 := 67) rfl rfl 1 rfl ?_
    refine lu_iald X ((koC_5_8 hT_r0 hr_r0).1) ((koC_5_8 hT_r0 hr_r0).2) dX10_settle_67 (pc2 := 68) rfl ?_
    refine lu_dup2 X dX10_settle_68 (pc2 := 69) rfl rfl rfl ?_
    refine lu_iald X ((koC_5_13 hT_r0 hr_r0).1) ((koC_5_13 hT_r0 hr_r0).2) dX10_settle_69 (pc2 := 70) rfl ?_
    refine lu_iconst X dX10_settle_70 (pc2 := 71) rfl ic_1 ?_
    refine lu_iload_n X dX10_settle_71 (pc2 := 72) rfl rfl 1 rfl ?_
    refine lu_ishl X dX10_settle_72 (pc2 := 73) rfl ?_
    refine lu_ior X dX10_settle_73 (pc2 := 74) rfl ?_
    refine lu_iast X ((koC_5_13 hT_r0 hr_r0).1) ((koC_5_13 hT_r0 hr_r0).2) dX10_settle_74 (pc2 := 75) rfl (fun m6 => ?_)
    refine lu_iinc (lv2 := [(1, .int (v1 + (1 : Int32))), (0, .ref (ρ r0))]) X dX10_settle_75 (pc2 := 78) rfl 1 rfl (lu_ii _ ic_1) (by decide) rfl ?_
    refine lu_goto (tgt := 23) X dX10_settle_78 (by decide) ?_
    exact lu_sub [1, 0] rfl (hrec (v1 + (1 : Int32)) m6)
theorem w10_settle_b23  {G : lu_G} {ρ : Nat → Nat} {r0 : Nat} {K81 : lu_M → Option (lu_M)} (X : lu_X G RX10 cX10_settle 2 3 60) (hret : (lu_me G).sig.returnType = none) (hT_r0 : lu_TC.2 r0 = (5, 0, 0)) (hr_r0 : r0 < lu_TC.1) (hK81 : ∀  (m : lu_M), lu_Ab lu_TC G (lu_Q lu_TC G ρ lu_RVv lu_id) (K81 m) 81 [] [] ρ 0 0 [] m) : ∀ (n : Nat) (v1 : Int32) (m : lu_M), lu_Ab lu_TC G (lu_Q lu_TC G ρ lu_RVv lu_id) (f10_settle_b23 K81 r0 n v1 m) 23 [(0, .ref (ρ r0)), (1, .int v1)] [] ρ 0 0 [] m := by
  intro n
  induction n with
  | zero => intro v1 m; exact lu_none
  | succ n ih => intro v1 m; exact w10_settle_b23B X hret hT_r0 hr_r0 hK81 ih v1 m
def f10_settle_b81  (r0 : Nat)  (m : lu_M) : Option (lu_M) :=
  some m
set_option maxRecDepth 20000 in
theorem w10_settle_b81  {G : lu_G} {ρ : Nat → Nat} {r0 : Nat}  (X : lu_X G RX10 cX10_settle 2 3 60) (hret : (lu_me G).sig.returnType = none) (hT_r0 : lu_TC.2 r0 = (5, 0, 0)) (hr_r0 : r0 < lu_TC.1)  : ∀  (m : lu_M), lu_Ab lu_TC G (lu_Q lu_TC G ρ lu_RVv lu_id) (f10_settle_b81 r0 m) 81 [] [] ρ 0 0 [] m := by
  intro  m
  unfold f10_settle_b81
  exact lu_vret X hret dX10_settle_81
def f10_settle_b21  (r0 : Nat)  (m : lu_M) : Option (lu_M) :=
  f10_settle_b23 (f10_settle_b81 r0) r0 lu_fu (0 : Int32) m
set_option maxRecDepth 20000 in
theorem w10_settle_b21  {G : lu_G} {ρ : Nat → Nat} {r0 : Nat}  (X : lu_X G RX10 cX10_settle 2 3 60) (hret : (lu_me G).sig.returnType = none) (hT_r0 : lu_TC.2 r0 = (5, 0, 0)) (hr_r0 : r0 < lu_TC.1)  : ∀  (m : lu_M), lu_Ab lu_TC G (lu_Q lu_TC G ρ lu_RVv lu_id) (f10_settle_b21 r0 m) 21 [(0, .ref (ρ r0))] [] ρ 0 0 [] m := by
  intro  m
  unfold f10_settle_b21
  refine lu_iconst X dX10_settle_21 (pc2 := 22) rfl ic_0 ?_
  refine lu_istore_n (lv2 := [(1, .int (0 : Int32)), (0, .ref (ρ r0))]) X dX10_settle_22 (pc2 := 23) rfl rfl (by decide) rfl ?_
  exact lu_sub [1, 0] rfl (w10_settle_b23 X hret hT_r0 hr_r0 (w10_settle_b81 X hret hT_r0 hr_r0) lu_fu (0 : Int32) m)
def f10_settle (r0 : Nat) (m : lu_M) : Option (lu_M) :=
  f10_settle_b2 (f10_settle_b21 r0) r0 lu_fu (0 : Int32) m
set_option maxRecDepth 20000 in
theorem c10_settle (l : Launch) {r0 : Nat} (hT_r0 : lu_TC.2 r0 = (5, 0, 0)) (hr_r0 : r0 < lu_TC.1)  : lu_C lu_TC l yX10_settle cX10_settle 2 none 3 60 (fun ρ sa => [.ref (ρ r0)]) (f10_settle r0) lu_RVv lu_id := by
  refine lu_met (cls := RX10) rfl (by decide +kernel) (fun _ _ => Nat.le_of_ble_eq_true rfl) ?_
  intro G ρ m hl X hret
  subst hl
  change lu_Ab lu_TC G (lu_Q lu_TC G ρ lu_RVv lu_id) (f10_settle r0 m) 0 [(0, .ref (ρ r0))] [] ρ 0 0 [] m
  unfold f10_settle
  refine lu_iconst X dX10_settle_0 (pc2 := 1) rfl ic_0 ?_
  refine lu_istore_n (lv2 := [(1, .int (0 : Int32)), (0, .ref (ρ r0))]) X dX10_settle_1 (pc2 := 2) rfl rfl (by decide) rfl ?_
  exact lu_sub [1, 0] rfl (w10_settle_b2 X hret hT_r0 hr_r0 (w10_settle_b21 X hret hT_r0 hr_r0) lu_fu (0 : Int32) m)

theorem dX10_rest_0 : decode cX10_rest 0 = .ok (.aload_n 1, 1) := by decide +kernel
theorem dX10_rest_1 : decode cX10_rest 1 = .ok (.aload_n 0, 1) := by decide +kernel
theorem dX10_rest_2 : decode cX10_rest 2 = .ok (.getfield 58, 3) := by decide +kernel
theorem dX10_rest_5 : decode cX10_rest 5 = .ok (.invokevirtual 171, 3) := by decide +kernel
theorem dX10_rest_8 : decode cX10_rest 8 = .ok (.iconst 0, 1) := by decide +kernel
theorem dX10_rest_9 : decode cX10_rest 9 = .ok (.istore_n 2, 1) := by decide +kernel
theorem dX10_rest_10 : decode cX10_rest 10 = .ok (.iload_n 2, 1) := by decide +kernel
theorem dX10_rest_11 : decode cX10_rest 11 = .ok (.bipush 16, 2) := by decide +kernel
theorem dX10_rest_13 : decode cX10_rest 13 = .ok (.if_icmp .ge 24, 3) := by decide +kernel
theorem dX10_rest_16 : decode cX10_rest 16 = .ok (.aload_n 0, 1) := by decide +kernel
theorem dX10_rest_17 : decode cX10_rest 17 = .ok (.aload_n 1, 1) := by decide +kernel
theorem dX10_rest_18 : decode cX10_rest 18 = .ok (.invokevirtual 174, 3) := by decide +kernel
theorem dX10_rest_21 : decode cX10_rest 21 = .ok (.ifCond .ne 16, 3) := by decide +kernel
theorem dX10_rest_24 : decode cX10_rest 24 = .ok (.aload_n 0, 1) := by decide +kernel
theorem dX10_rest_25 : decode cX10_rest 25 = .ok (.aload_n 1, 1) := by decide +kernel
theorem dX10_rest_26 : decode cX10_rest 26 = .ok (.iconst 0, 1) := by decide +kernel
theorem dX10_rest_27 : decode cX10_rest 27 = .ok (.invokevirtual 178, 3) := by decide +kernel
theorem dX10_rest_30 : decode cX10_rest 30 = .ok (.pop, 1) := by decide +kernel
theorem dX10_rest_31 : decode cX10_rest 31 = .ok (.iinc 2 1, 3) := by decide +kernel
theorem dX10_rest_34 : decode cX10_rest 34 = .ok (.goto (-24), 3) := by decide +kernel
theorem dX10_rest_37 : decode cX10_rest 37 = .ok (.return_, 1) := by decide +kernel
def f10_rest_b10B (K37 : lu_M → Option (lu_M)) (rec : Int32 → lu_M → Option (lu_M)) (r0 : Nat) (r1 : Nat) (v2 : Int32) (m : lu_M) : Option (lu_M) :=
  if (16 : Int32) ≤ v2 then (K37 m)
  else (lu_bi (f10_isOver r0 r1 m) fun x2 m3 =>
  if x2 = 0 then (lu_bi (f10_pass r0 r1 (0 : Int32) m3) fun x4 m5 =>
  rec (v2 + (1 : Int32)) m5)
  else (K37 m3))
def f10_rest_b10 (K37 : lu_M → Option (lu_M)) (r0 : Nat) (r1 : Nat) : Nat → Int32 → lu_M → Option (lu_M)
  | 0, _, _ => none
  | n + 1, v2, m => f10_rest_b10B K37 (f10_rest_b10 K37 r0 r1 n) r0 r1 v2 m
set_option maxRecDepth 20000 in
theorem w10_rest_b10B  {G : lu_G} {ρ : Nat → Nat} {r0 : Nat} {r1 : Nat} {K37 : lu_M → Option (lu_M)} {rec : Int32 → lu_M → Option (lu_M)} (X : lu_X G RX10 cX10_rest 3 5 122) (hret : (lu_me G).sig.returnType = none) (hT_r0 : lu_TC.2 r0 = (5, 0, 0)) (hr_r0 : r0 < lu_TC.1) (hT_r1 : lu_TC.2 r1 = (6, 0, 0)) (hr_r1 : r1 < lu_TC.1) (hK37 : ∀  (m : lu_M), lu_Ab lu_TC G (lu_Q lu_TC G ρ lu_RVv lu_id) (K37 m) 37 [] [] ρ 0 0 [] m) (hrec : ∀ (v2 : Int32) (m : lu_M), lu_Ab lu_TC G (lu_Q lu_TC G ρ lu_RVv lu_id) (rec v2 m) 10 [(0, .ref (ρ r0)), (1, .ref (ρ r1)), (2, .int v2)] [] ρ 0 0 [] m) : ∀ (v2 : Int32) (m : lu_M), lu_Ab lu_TC G (lu_Q lu_TC G ρ lu_RVv lu_id) (f10_rest_b10B K37 rec r0 r1 v2 m) 10 [(0, .ref (ρ r0)), (1, .ref (ρ r1)), (2, .int v2)] [] ρ 0 0 [] m := by
  intro v2 m
  unfold f10_rest_b10B
  refine lu_iload_n X dX10_rest_10 (pc2 := 11) rfl rfl 2 rfl ?_
  refine lu_bipush X dX10_rest_11 (pc2 := 13) rfl bp_16 ?_
  refine lu_icmp_ge (tgt := 37) X dX10_rest_13 (pc2 := 16) rfl (by decide) (fun _ => ?_) (fun _ => ?_)
  · exact lu_sub [] rfl (hK37 m)
  · refine lu_aload_n X dX10_rest_16 (pc2 := 17) rfl rfl 0 rfl ?_
    refine lu_aload_n X dX10_rest_17 (pc2 := 18) rfl rfl 1 rfl ?_
    refine lu_invVi X (c10_isOver _ hT_r0 hr_r0 hT_r1 hr_r1) rfl q760 mvV_10_isOver hT_r0 hr_r0 (by decide) ⟨_, rfl, rfl⟩ rfl rfl (Nat.le_of_ble_eq_true rfl) (Nat.le_of_ble_eq_true rfl) (Nat.le_of_ble_eq_true rfl) ⟨Nat.zero_le _, Nat.zero_le _⟩ dX10_rest_18 (pc2 := 21) rfl rfl (fun x2 m3 => ?_)
    refine lu_if_ne (tgt := 37) X dX10_rest_21 (pc2 := 24) rfl (by decide) (fun _ => ?_) (fun _ => ?_)
    · exact lu_sub [] rfl (hK37 m3)
    · refine lu_aload_n X dX10_rest_24 (pc2 := 25) rfl rfl 0 rfl ?_
      refine lu_aload_n X dX10_rest_25 (pc2 := 26) rfl rfl 1 rfl ?_
      refine lu_iconst X dX10_rest_26 (pc2 := 27) rfl ic_0 ?_
      refine lu_invVi X (c10_pass _ hT_r0 hr_r0 hT_r1 hr_r1 (0 : Int32)) rfl q761 mvV_10_pass hT_r0 hr_r0 (by decide) ⟨_, rfl, rfl⟩ rfl rfl (Nat.le_of_ble_eq_true rfl) (Nat.le_of_ble_eq_true rfl) (Nat.le_of_ble_eq_true rfl) ⟨Nat.zero_le _, Nat.zero_le _⟩ dX10_rest_27 (pc2 := 30) rfl rfl (fun x4 m5 => ?_)
      refine lu_pop X dX10_rest_30 (pc2 := 31) rfl rfl ?_
      refine lu_iinc (lv2 := [(2, .int (v2 + (1 : Int32))), (0, .ref (ρ r0)), (1, .ref (ρ r1))]) X dX10_rest_31 (pc2 := 34) rfl 2 rfl (lu_ii _ ic_1) (by decide) rfl ?_
      refine lu_goto (tgt := 10) X dX10_rest_34 (by decide) ?_
      exact lu_sub [1, 2, 0] rfl (hrec (v2 + (1 : Int32)) m5)
theorem w10_rest_b10  {G : lu_G} {ρ : Nat → Nat} {r0 : Nat} {r1 : Nat} {K37 : lu_M → Option (lu_M)} (X : lu_X G RX10 cX10_rest 3 5 122) (hret : (lu_me G).sig.returnType = none) (hT_r0 : lu_TC.2 r0 = (5, 0, 0)) (hr_r0 : r0 < lu_TC.1) (hT_r1 : lu_TC.2 r1 = (6, 0, 0)) (hr_r1 : r1 < lu_TC.1) (hK37 : ∀  (m : lu_M), lu_Ab lu_TC G (lu_Q lu_TC G ρ lu_RVv lu_id) (K37 m) 37 [] [] ρ 0 0 [] m) : ∀ (n : Nat) (v2 : Int32) (m : lu_M), lu_Ab lu_TC G (lu_Q lu_TC G ρ lu_RVv lu_id) (f10_rest_b10 K37 r0 r1 n v2 m) 10 [(0, .ref (ρ r0)), (1, .ref (ρ r1)), (2, .int v2)] [] ρ 0 0 [] m := by
  intro n
  induction n with
  | zero => intro v2 m; exact lu_none
  | succ n ih => intro v2 m; exact w10_rest_b10B X hret hT_r0 hr_r0 hT_r1 hr_r1 hK37 ih v2 m
def f10_rest_b37  (r0 : Nat) (r1 : Nat)  (m : lu_M) : Option (lu_M) :=
  some m
set_option maxRecDepth 20000 in
theorem w10_rest_b37  {G : lu_G} {ρ : Nat → Nat} {r0 : Nat} {r1 : Nat}  (X : lu_X G RX10 cX10_rest 3 5 122) (hret : (lu_me G).sig.returnType = none) (hT_r0 : lu_TC.2 r0 = (5, 0, 0)) (hr_r0 : r0 < lu_TC.1) (hT_r1 : lu_TC.2 r1 = (6, 0, 0)) (hr_r1 : r1 < lu_TC.1)  : ∀  (m : lu_M), lu_Ab lu_TC G (lu_Q lu_TC G ρ lu_RVv lu_id) (f10_rest_b37 r0 r1 m) 37 [] [] ρ 0 0 [] m := by
  intro  m
  unfold f10_rest_b37
  exact lu_vret X hret dX10_rest_37
def f10_rest (r0 : Nat) (r1 : Nat) (m : lu_M) : Option (lu_M) :=
  lu_bv (f1_begin r1 (r0 + 28) m) fun m1 =>
  f10_rest_b10 (f10_rest_b37 r0 r1) r0 r1 lu_fu (0 : Int32) m1
set_option maxRecDepth 20000 in
theorem c10_rest (l : Launch) {r0 : Nat} {r1 : Nat} (hT_r0 : lu_TC.2 r0 = (5, 0, 0)) (hr_r0 : r0 < lu_TC.1) (hT_r1 : lu_TC.2 r1 = (6, 0, 0)) (hr_r1 : r1 < lu_TC.1)  : lu_C lu_TC l yX10_rest cX10_rest 3 none 5 122 (fun ρ sa => [.ref (ρ r0), .ref (ρ r1)]) (f10_rest r0 r1) lu_RVv lu_id := by
  refine lu_met (cls := RX10) rfl (by decide +kernel) (fun _ _ => Nat.le_of_ble_eq_true rfl) ?_
  intro G ρ m hl X hret
  subst hl
  change lu_Ab lu_TC G (lu_Q lu_TC G ρ lu_RVv lu_id) (f10_rest r0 r1 m) 0 [(0, .ref (ρ r0)), (1, .ref (ρ r1))] [] ρ 0 0 [] m
  unfold f10_rest
  refine lu_aload_n X dX10_rest_0 (pc2 := 1) rfl rfl 1 rfl ?_
  refine lu_aload_n X dX10_rest_1 (pc2 := 2) rfl rfl 0 rfl ?_
  refine lu_getr (r2 := (r0 + 28)) X rfl fl10_58 rfl hT_r0 hr_r0 dX10_rest_2 (pc2 := 5) rfl ?_
  refine lu_invVv X (c1_begin _ hT_r1 hr_r1 ((koC_5_28 hT_r0 hr_r0).1) ((koC_5_28 hT_r0 hr_r0).2)) rfl q752 mvV_1_begin hT_r1 hr_r1 (by decide) ⟨_, rfl, rfl⟩ rfl rfl (Nat.le_of_ble_eq_true rfl) (Nat.le_of_ble_eq_true rfl) (Nat.le_of_ble_eq_true rfl) ⟨Nat.zero_le _, Nat.zero_le _⟩ dX10_rest_5 (pc2 := 8) rfl rfl (fun m1 => ?_)
  refine lu_iconst X dX10_rest_8 (pc2 := 9) rfl ic_0 ?_
  refine lu_istore_n (lv2 := [(2, .int (0 : Int32)), (0, .ref (ρ r0)), (1, .ref (ρ r1))]) X dX10_rest_9 (pc2 := 10) rfl rfl (by decide) rfl ?_
  exact lu_sub [1, 2, 0] rfl (w10_rest_b10 X hret hT_r0 hr_r0 hT_r1 hr_r1 (w10_rest_b37 X hret hT_r0 hr_r0 hT_r1 hr_r1) lu_fu (0 : Int32) m1)

theorem dX10_overdueInTheEnd_0 : decode cX10_overdueInTheEnd 0 = .ok (.aload_n 0, 1) := by decide +kernel
theorem dX10_overdueInTheEnd_1 : decode cX10_overdueInTheEnd 1 = .ok (.aload_n 1, 1) := by decide +kernel
theorem dX10_overdueInTheEnd_2 : decode cX10_overdueInTheEnd 2 = .ok (.invokevirtual 182, 3) := by decide +kernel
theorem dX10_overdueInTheEnd_5 : decode cX10_overdueInTheEnd 5 = .ok (.iconst 0, 1) := by decide +kernel
theorem dX10_overdueInTheEnd_6 : decode cX10_overdueInTheEnd 6 = .ok (.istore_n 2, 1) := by decide +kernel
theorem dX10_overdueInTheEnd_7 : decode cX10_overdueInTheEnd 7 = .ok (.iconst 0, 1) := by decide +kernel
theorem dX10_overdueInTheEnd_8 : decode cX10_overdueInTheEnd 8 = .ok (.istore_n 3, 1) := by decide +kernel
theorem dX10_overdueInTheEnd_9 : decode cX10_overdueInTheEnd 9 = .ok (.iload_n 3, 1) := by decide +kernel
theorem dX10_overdueInTheEnd_10 : decode cX10_overdueInTheEnd 10 = .ok (.aload_n 0, 1) := by decide +kernel
theorem dX10_overdueInTheEnd_11 : decode cX10_overdueInTheEnd 11 = .ok (.getfield 84, 3) := by decide +kernel
theorem dX10_overdueInTheEnd_14 : decode cX10_overdueInTheEnd 14 = .ok (.if_icmp .ge 43, 3) := by decide +kernel
theorem dX10_overdueInTheEnd_17 : decode cX10_overdueInTheEnd 17 = .ok (.aload_n 1, 1) := by decide +kernel
theorem dX10_overdueInTheEnd_18 : decode cX10_overdueInTheEnd 18 = .ok (.iload_n 3, 1) := by decide +kernel
theorem dX10_overdueInTheEnd_19 : decode cX10_overdueInTheEnd 19 = .ok (.invokevirtual 149, 3) := by decide +kernel
theorem dX10_overdueInTheEnd_22 : decode cX10_overdueInTheEnd 22 = .ok (.ifCond .eq 29, 3) := by decide +kernel
theorem dX10_overdueInTheEnd_25 : decode cX10_overdueInTheEnd 25 = .ok (.aload_n 0, 1) := by decide +kernel
theorem dX10_overdueInTheEnd_26 : decode cX10_overdueInTheEnd 26 = .ok (.getfield 40, 3) := by decide +kernel
theorem dX10_overdueInTheEnd_29 : decode cX10_overdueInTheEnd 29 = .ok (.iconst 1, 1) := by decide +kernel
theorem dX10_overdueInTheEnd_30 : decode cX10_overdueInTheEnd 30 = .ok (.isub, 1) := by decide +kernel
theorem dX10_overdueInTheEnd_31 : decode cX10_overdueInTheEnd 31 = .ok (.aload_n 0, 1) := by decide +kernel
theorem dX10_overdueInTheEnd_32 : decode cX10_overdueInTheEnd 32 = .ok (.getfield 34, 3) := by decide +kernel
theorem dX10_overdueInTheEnd_35 : decode cX10_overdueInTheEnd 35 = .ok (.iload_n 3, 1) := by decide +kernel
theorem dX10_overdueInTheEnd_36 : decode cX10_overdueInTheEnd 36 = .ok (.iaload, 1) := by decide +kernel
theorem dX10_overdueInTheEnd_37 : decode cX10_overdueInTheEnd 37 = .ok (.if_icmp .le 14, 3) := by decide +kernel
theorem dX10_overdueInTheEnd_40 : decode cX10_overdueInTheEnd 40 = .ok (.iload_n 2, 1) := by decide +kernel
theorem dX10_overdueInTheEnd_41 : decode cX10_overdueInTheEnd 41 = .ok (.iconst 1, 1) := by decide +kernel
theorem dX10_overdueInTheEnd_42 : decode cX10_overdueInTheEnd 42 = .ok (.aload_n 0, 1) := by decide +kernel
theorem dX10_overdueInTheEnd_43 : decode cX10_overdueInTheEnd 43 = .ok (.getfield 21, 3) := by decide +kernel
theorem dX10_overdueInTheEnd_46 : decode cX10_overdueInTheEnd 46 = .ok (.iload_n 3, 1) := by decide +kernel
theorem dX10_overdueInTheEnd_47 : decode cX10_overdueInTheEnd 47 = .ok (.iaload, 1) := by decide +kernel
theorem dX10_overdueInTheEnd_48 : decode cX10_overdueInTheEnd 48 = .ok (.ishl, 1) := by decide +kernel
theorem dX10_overdueInTheEnd_49 : decode cX10_overdueInTheEnd 49 = .ok (.ior, 1) := by decide +kernel
theorem dX10_overdueInTheEnd_50 : decode cX10_overdueInTheEnd 50 = .ok (.istore_n 2, 1) := by decide +kernel
theorem dX10_overdueInTheEnd_51 : decode cX10_overdueInTheEnd 51 = .ok (.iinc 3 1, 3) := by decide +kernel
theorem dX10_overdueInTheEnd_54 : decode cX10_overdueInTheEnd 54 = .ok (.goto (-45), 3) := by decide +kernel
theorem dX10_overdueInTheEnd_57 : decode cX10_overdueInTheEnd 57 = .ok (.iload_n 2, 1) := by decide +kernel
theorem dX10_overdueInTheEnd_58 : decode cX10_overdueInTheEnd 58 = .ok (.ireturn, 1) := by decide +kernel
def f10_overdueInTheEnd_b51 (K9 : Int32 → Int32 → lu_M → Option (Int32 × lu_M)) (K57 : Int32 → lu_M → Option (Int32 × lu_M)) (r0 : Nat) (r1 : Nat) (v2 : Int32) (v3 : Int32) (m : lu_M) : Option (Int32 × lu_M) :=
  K9 v2 (v3 + (1 : Int32)) m
set_option maxRecDepth 20000 in
theorem w10_overdueInTheEnd_b51  {G : lu_G} {ρ : Nat → Nat} {r0 : Nat} {r1 : Nat} {K9 : Int32 → Int32 → lu_M → Option (Int32 × lu_M)} {K57 : Int32 → lu_M → Option (Int32 × lu_M)} (X : lu_X G RX10 cX10_overdueInTheEnd 4 6 144) (hret : (lu_me G).sig.returnType = (some .int)) (hT_r0 : lu_TC.2 r0 = (5, 0, 0)) (hr_r0 : r0 < lu_TC.1) (hT_r1 : lu_TC.2 r1 = (6, 0, 0)) (hr_r1 : r1 < lu_TC.1) (hK9 : ∀ (v2 : Int32) (v3 : Int32) (m : lu_M), lu_Ab lu_TC G (lu_Q lu_TC G ρ lu_RVi lu_sn) (K9 v2 v3 m) 9 [(0, .ref (ρ r0)), (1, .ref (ρ r1)), (2, .int v2), (3, .int v3)] [] ρ 0 0 [] m) (hK57 : ∀ (v2 : Int32) (m : lu_M), lu_Ab lu_TC G (lu_Q lu_TC G ρ lu_RVi lu_sn) (K57 v2 m) 57 [(2, .int v2)] [] ρ 0 0 [] m) : ∀ (v2 : Int32) (v3 : Int32) (m : lu_M), lu_Ab lu_TC G (lu_Q lu_TC G ρ lu_RVi lu_sn) (f10_overdueInTheEnd_b51 K9 K57 r0 r1 v2 v3 m) 51 [(0, .ref (ρ r0)), (1, .ref (ρ r1)), (2, .int v2), (3, .int v3)] [] ρ 0 0 [] m := by
  intro v2 v3 m
  unfold f10_overdueInTheEnd_b51
  refine lu_iinc (lv2 := [(3, .int (v3 + (1 : Int32))), (0, .ref (ρ r0)), (1, .ref (ρ r1)), (2, .int v2)]) X dX10_overdueInTheEnd_51 (pc2 := 54) rfl 3 rfl (lu_ii _ ic_1) (by decide) rfl ?_
  refine lu_goto (tgt := 9) X dX10_overdueInTheEnd_54 (by decide) ?_
  exact lu_sub [1, 2, 3, 0] rfl (hK9 v2 (v3 + (1 : Int32)) m)
def f10_overdueInTheEnd_b9B (K57 : Int32 → lu_M → Option (Int32 × lu_M)) (rec : Int32 → Int32 → lu_M → Option (Int32 × lu_M)) (r0 : Nat) (r1 : Nat) (v2 : Int32) (v3 : Int32) (m : lu_M) : Option (Int32 × lu_M) :=
  if (m r0 2) ≤ v3 then (K57 v2 m)
  else (lu_bi (f1_isStanding r1 v3 m) fun x2 m3 =>
  if x2 = 0 then (f10_overdueInTheEnd_b51 rec K57 r0 r1 v2 v3 m3)
  else (lu_gd (lu_ib v3 10) <|
  if ((m3 r0 9) - (1 : Int32)) ≤ (m3 (r0 + 12) v3.toNatClampNeg) then (f10_overdueInTheEnd_b51 rec K57 r0 r1 v2 v3 m3)
  else (lu_gd (lu_ib v3 10) <|
  lu_nm ((v2 ||| ((1 : Int32) <<< ((m3 (r0 + 8) v3.toNatClampNeg) &&& 31)))) fun x4 =>
  f10_overdueInTheEnd_b51 rec K57 r0 r1 x4 v3 m3)))
def f10_overdueInTheEnd_b9 (K57 : Int32 → lu_M → Option (Int32 × lu_M)) (r0 : Nat) (r1 : Nat) : Nat → Int32 → Int32 → lu_M → Option (Int32 × lu_M)
  | 0, _, _, _ => none
  | n + 1, v2, v3, m => f10_overdueInTheEnd_b9B K57 (f10_overdueInTheEnd_b9 K57 r0 r1 n) r0 r1 v2 v3 m
set_option maxRecDepth 20000 in
theorem w10_overdueInTheEnd_b9B  {G : lu_G} {ρ : Nat → Nat} {r0 : Nat} {r1 : Nat} {K57 : Int32 → lu_M → Option (Int32 × lu_M)} {rec : Int32 → Int32 → lu_M → Option (Int32 × lu_M)} (X : lu_X G RX10 cX10_overdueInTheEnd 4 6 144) (hret : (lu_me G).sig.returnType = (some .int)) (hT_r0 : lu_TC.2 r0 = (5, 0, 0)) (hr_r0 : r0 < lu_TC.1) (hT_r1 : lu_TC.2 r1 = (6, 0, 0)) (hr_r1 : r1 < lu_TC.1) (hK57 : ∀ (v2 : Int32) (m : lu_M), lu_Ab lu_TC G (lu_Q lu_TC G ρ lu_RVi lu_sn) (K57 v2 m) 57 [(2, .int v2)] [] ρ 0 0 [] m) (hrec : ∀ (v2 : Int32) (v3 : Int32) (m : lu_M), lu_Ab lu_TC G (lu_Q lu_TC G ρ lu_RVi lu_sn) (rec v2 v3 m) 9 [(0, .ref (ρ r0)), (1, .ref (ρ r1)), (2, .int v2), (3, .int v3)] [] ρ 0 0 [] m) : ∀ (v2 : Int32) (v3 : Int32) (m : lu_M), lu_Ab lu_TC G (lu_Q lu_TC G ρ lu_RVi lu_sn) (f10_overdueInTheEnd_b9B K57 rec r0 r1 v2 v3 m) 9 [(0, .ref (ρ r0)), (1, .ref (ρ r1)), (2, .int v2), (3, .int v3)] [] ρ 0 0 [] m := by
  intro v2 v3 m
  unfold f10_overdueInTheEnd_b9B
  refine lu_iload_n X dX10_overdueInTheEnd_9 (pc2 := 10) rfl rfl 3 rfl ?_
  refine lu_aload_n X dX10_overdueInTheEnd_10 (pc2 := 11) rfl rfl 0 rfl ?_
  refine lu_get X fl10_84 rfl hT_r0 hr_r0 dX10_overdueInTheEnd_11 (pc2 := 14) rfl ?_
  refine lu_icmp_ge (tgt := 57) X dX10_overdueInTheEnd_14 (pc2 := 17) rfl (by decide) (fun _ => ?_) (fun _ => ?_)
  · exact lu_sub [2] rfl (hK57 v2 m)
  · refine lu_aload_n X dX10_overdueInTheEnd_17 (pc2 := 18) rfl rfl 1 rfl ?_
    refine lu_iload_n X dX10_overdueInTheEnd_18 (pc2 := 19) rfl rfl 3 rfl ?_
    refine lu_invVi X (c1_isStanding _ hT_r1 hr_r1 v3) rfl q730 mvV_1_isStanding hT_r1 hr_r1 (by decide) ⟨_, rfl, rfl⟩ rfl rfl (Nat.le_of_ble_eq_true rfl) (Nat.le_of_ble_eq_true rfl) (Nat.le_of_ble_eq_true rfl) ⟨Nat.zero_le _, Nat.zero_le _⟩ dX10_overdueInTheEnd_19 (pc2 := 22) rfl rfl (fun x2 m3 => ?_)
    refine lu_if_eq (tgt := 51) X dX10_overdueInTheEnd_22 (pc2 := 25) rfl (by decide) (fun _ => ?_) (fun _ => ?_)
    · exact w10_overdueInTheEnd_b51 X hret hT_r0 hr_r0 hT_r1 hr_r1 hrec hK57 v2 v3 m3
    · refine lu_aload_n X dX10_overdueInTheEnd_25 (pc2 := 26) rfl rfl 0 rfl ?_
      refine lu_get X fl10_40 rfl hT_r0 hr_r0 dX10_overdueInTheEnd_26 (pc2 := 29) rfl ?_
      refine lu_iconst X dX10_overdueInTheEnd_29 (pc2 := 30) rfl ic_1 ?_
      refine lu_isub X dX10_overdueInTheEnd_30 (pc2 := 31) rfl ?_
      refine lu_aload_n X dX10_overdueInTheEnd_31 (pc2 := 32) rfl rfl 0 rfl ?_
      refine lu_getr (r2 := (r0 + 12)) X rfl fl10_34 rfl hT_r0 hr_r0 dX10_overdueInTheEnd_32 (pc2 := 35) rfl ?_
      refine lu_iload_n X dX10_overdueInTheEnd_35 (pc2 := 36) rfl rfl 3 rfl ?_
      refine lu_iald X ((koC_5_12 hT_r0 hr_r0).1) ((koC_5_12 hT_r0 hr_r0).2) dX10_overdueInTheEnd_36 (pc2 := 37) rfl ?_
      refine lu_icmp_le (tgt := 51) X dX10_overdueInTheEnd_37 (pc2 := 40) rfl (by decide) (fun _ => ?_) (fun _ => ?_)
      · exact w10_overdueInTheEnd_b51 X hret hT_r0 hr_r0 hT_r1 hr_r1 hrec hK57 v2 v3 m3
      · refine lu_iload_n X dX10_overdueInTheEnd_40 (pc2 := 41) rfl rfl 2 rfl ?_
        refine lu_iconst X dX10_overdueInTheEnd_41 (pc2 := 42) rfl ic_1 ?_
        refine lu_aload_n X dX10_overdueInTheEnd_42 (pc2 := 43) rfl rfl 0 rfl ?_
        refine lu_getr (r2 := (r0 + 8)) X rfl fl10_21 rfl hT_r0 hr_r0 dX10_overdueInTheEnd_43 (pc2 := 46) rfl ?_
        refine lu_iload_n X dX10_overdueInTheEnd_46 (pc2 := 47) rfl rfl 3 rfl ?_
        refine lu_iald X ((koC_5_8 hT_r0 hr_r0).1) ((koC_5_8 hT_r0 hr_r0).2) dX10_overdueInTheEnd_47 (pc2 := 48) rfl ?_
        refine lu_ishl X dX10_overdueInTheEnd_48 (pc2 := 49) rfl ?_
        refine lu_ior X dX10_overdueInTheEnd_49 (pc2 := 50) rfl ?_
        refine lu_topi (fun x4 => ?_)
        refine lu_istore_n (lv2 := [(2, .int x4), (0, .ref (ρ r0)), (1, .ref (ρ r1)), (3, .int v3)]) X dX10_overdueInTheEnd_50 (pc2 := 51) rfl rfl (by decide) rfl ?_
        exact lu_sub [1, 2, 0, 3] rfl (w10_overdueInTheEnd_b51 X hret hT_r0 hr_r0 hT_r1 hr_r1 hrec hK57 x4 v3 m3)
theorem w10_overdueInTheEnd_b9  {G : lu_G} {ρ : Nat → Nat} {r0 : Nat} {r1 : Nat} {K57 : Int32 → lu_M → Option (Int32 × lu_M)} (X : lu_X G RX10 cX10_overdueInTheEnd 4 6 144) (hret : (lu_me G).sig.returnType = (some .int)) (hT_r0 : lu_TC.2 r0 = (5, 0, 0)) (hr_r0 : r0 < lu_TC.1) (hT_r1 : lu_TC.2 r1 = (6, 0, 0)) (hr_r1 : r1 < lu_TC.1) (hK57 : ∀ (v2 : Int32) (m : lu_M), lu_Ab lu_TC G (lu_Q lu_TC G ρ lu_RVi lu_sn) (K57 v2 m) 57 [(2, .int v2)] [] ρ 0 0 [] m) : ∀ (n : Nat) (v2 : Int32) (v3 : Int32) (m : lu_M), lu_Ab lu_TC G (lu_Q lu_TC G ρ lu_RVi lu_sn) (f10_overdueInTheEnd_b9 K57 r0 r1 n v2 v3 m) 9 [(0, .ref (ρ r0)), (1, .ref (ρ r1)), (2, .int v2), (3, .int v3)] [] ρ 0 0 [] m := by
  intro n
  induction n with
  | zero => intro v2 v3 m; exact lu_none
  | succ n ih => intro v2 v3 m; exact w10_overdueInTheEnd_b9B X hret hT_r0 hr_r0 hT_r1 hr_r1 hK57 ih v2 v3 m
def f10_overdueInTheEnd_b57  (r0 : Nat) (r1 : Nat) (v2 : Int32) (m : lu_M) : Option (Int32 × lu_M) :=
  some (v2, m)
set_option maxRecDepth 20000 in
theorem w10_overdueInTheEnd_b57  {G : lu_G} {ρ : Nat → Nat} {r0 : Nat} {r1 : Nat}  (X : lu_X G RX10 cX10_overdueInTheEnd 4 6 144) (hret : (lu_me G).sig.returnType = (some .int)) (hT_r0 : lu_TC.2 r0 = (5, 0, 0)) (hr_r0 : r0 < lu_TC.1) (hT_r1 : lu_TC.2 r1 = (6, 0, 0)) (hr_r1 : r1 < lu_TC.1)  : ∀ (v2 : Int32) (m : lu_M), lu_Ab lu_TC G (lu_Q lu_TC G ρ lu_RVi lu_sn) (f10_overdueInTheEnd_b57 r0 r1 v2 m) 57 [(2, .int v2)] [] ρ 0 0 [] m := by
  intro v2 m
  unfold f10_overdueInTheEnd_b57
  refine lu_iload_n X dX10_overdueInTheEnd_57 (pc2 := 58) rfl rfl 0 rfl ?_
  exact lu_iret X hret dX10_overdueInTheEnd_58
def f10_overdueInTheEnd (r0 : Nat) (r1 : Nat) (m : lu_M) : Option (Int32 × lu_M) :=
  lu_bv (f10_rest r0 r1 m) fun m1 =>
  f10_overdueInTheEnd_b9 (f10_overdueInTheEnd_b57 r0 r1) r0 r1 lu_fu (0 : Int32) (0 : Int32) m1
set_option maxRecDepth 20000 in
theorem c10_overdueInTheEnd (l : Launch) {r0 : Nat} {r1 : Nat} (hT_r0 : lu_TC.2 r0 = (5, 0, 0)) (hr_r0 : r0 < lu_TC.1) (hT_r1 : lu_TC.2 r1 = (6, 0, 0)) (hr_r1 : r1 < lu_TC.1)  : lu_C lu_TC l yX10_overdueInTheEnd cX10_overdueInTheEnd 4 (some .int) 6 144 (fun ρ sa => [.ref (ρ r0), .ref (ρ r1)]) (f10_overdueInTheEnd r0 r1) lu_RVi lu_sn := by
  refine lu_met (cls := RX10) rfl (by decide +kernel) (fun _ _ => Nat.le_of_ble_eq_true rfl) ?_
  intro G ρ m hl X hret
  subst hl
  change lu_Ab lu_TC G (lu_Q lu_TC G ρ lu_RVi lu_sn) (f10_overdueInTheEnd r0 r1 m) 0 [(0, .ref (ρ r0)), (1, .ref (ρ r1))] [] ρ 0 0 [] m
  unfold f10_overdueInTheEnd
  refine lu_aload_n X dX10_overdueInTheEnd_0 (pc2 := 1) rfl rfl 0 rfl ?_
  refine lu_aload_n X dX10_overdueInTheEnd_1 (pc2 := 2) rfl rfl 1 rfl ?_
  refine lu_invVv X (c10_rest _ hT_r0 hr_r0 hT_r1 hr_r1) rfl q780 mvV_10_rest hT_r0 hr_r0 (by decide) ⟨_, rfl, rfl⟩ rfl rfl (Nat.le_of_ble_eq_true rfl) (Nat.le_of_ble_eq_true rfl) (Nat.le_of_ble_eq_true rfl) ⟨Nat.zero_le _, Nat.zero_le _⟩ dX10_overdueInTheEnd_2 (pc2 := 5) rfl rfl (fun m1 => ?_)
  refine lu_iconst X dX10_overdueInTheEnd_5 (pc2 := 6) rfl ic_0 ?_
  refine lu_istore_n (lv2 := [(2, .int (0 : Int32)), (0, .ref (ρ r0)), (1, .ref (ρ r1))]) X dX10_overdueInTheEnd_6 (pc2 := 7) rfl rfl (by decide) rfl ?_
  refine lu_iconst X dX10_overdueInTheEnd_7 (pc2 := 8) rfl ic_0 ?_
  refine lu_istore_n (lv2 := [(3, .int (0 : Int32)), (2, .int (0 : Int32)), (0, .ref (ρ r0)), (1, .ref (ρ r1))]) X dX10_overdueInTheEnd_8 (pc2 := 9) rfl rfl (by decide) rfl ?_
  exact lu_sub [2, 3, 1, 0] rfl (w10_overdueInTheEnd_b9 X hret hT_r0 hr_r0 hT_r1 hr_r1 (w10_overdueInTheEnd_b57 X hret hT_r0 hr_r0 hT_r1 hr_r1) lu_fu (0 : Int32) (0 : Int32) m1)

theorem dX10_netOf_0 : decode cX10_netOf 0 = .ok (.iconst 0, 1) := by decide +kernel
theorem dX10_netOf_1 : decode cX10_netOf 1 = .ok (.istore_n 2, 1) := by decide +kernel
theorem dX10_netOf_2 : decode cX10_netOf 2 = .ok (.iconst 0, 1) := by decide +kernel
theorem dX10_netOf_3 : decode cX10_netOf 3 = .ok (.istore_n 3, 1) := by decide +kernel
theorem dX10_netOf_4 : decode cX10_netOf 4 = .ok (.iload_n 3, 1) := by decide +kernel
theorem dX10_netOf_5 : decode cX10_netOf 5 = .ok (.aload_n 0, 1) := by decide +kernel
theorem dX10_netOf_6 : decode cX10_netOf 6 = .ok (.getfield 72, 3) := by decide +kernel
theorem dX10_netOf_9 : decode cX10_netOf 9 = .ok (.if_icmp .ge 29, 3) := by decide +kernel
theorem dX10_netOf_12 : decode cX10_netOf 12 = .ok (.iload_n 2, 1) := by decide +kernel
theorem dX10_netOf_13 : decode cX10_netOf 13 = .ok (.aload_n 0, 1) := by decide +kernel
theorem dX10_netOf_14 : decode cX10_netOf 14 = .ok (.getfield 52, 3) := by decide +kernel
theorem dX10_netOf_17 : decode cX10_netOf 17 = .ok (.iload_n 3, 1) := by decide +kernel
theorem dX10_netOf_18 : decode cX10_netOf 18 = .ok (.aaload, 1) := by decide +kernel
theorem dX10_netOf_19 : decode cX10_netOf 19 = .ok (.iload_n 1, 1) := by decide +kernel
theorem dX10_netOf_20 : decode cX10_netOf 20 = .ok (.iaload, 1) := by decide +kernel
theorem dX10_netOf_21 : decode cX10_netOf 21 = .ok (.aload_n 0, 1) := by decide +kernel
theorem dX10_netOf_22 : decode cX10_netOf 22 = .ok (.getfield 52, 3) := by decide +kernel
theorem dX10_netOf_25 : decode cX10_netOf 25 = .ok (.iload_n 1, 1) := by decide +kernel
theorem dX10_netOf_26 : decode cX10_netOf 26 = .ok (.aaload, 1) := by decide +kernel
theorem dX10_netOf_27 : decode cX10_netOf 27 = .ok (.iload_n 3, 1) := by decide +kernel
theorem dX10_netOf_28 : decode cX10_netOf 28 = .ok (.iaload, 1) := by decide +kernel
theorem dX10_netOf_29 : decode cX10_netOf 29 = .ok (.isub, 1) := by decide +kernel
theorem dX10_netOf_30 : decode cX10_netOf 30 = .ok (.iadd, 1) := by decide +kernel
theorem dX10_netOf_31 : decode cX10_netOf 31 = .ok (.istore_n 2, 1) := by decide +kernel
theorem dX10_netOf_32 : decode cX10_netOf 32 = .ok (.iinc 3 1, 3) := by decide +kernel
theorem dX10_netOf_35 : decode cX10_netOf 35 = .ok (.goto (-31), 3) := by decide +kernel
theorem dX10_netOf_38 : decode cX10_netOf 38 = .ok (.iload_n 2, 1) := by decide +kernel
theorem dX10_netOf_39 : decode cX10_netOf 39 = .ok (.ireturn, 1) := by decide +kernel
def f10_netOf_b4B (K38 : Int32 → lu_M → Option (Int32 × lu_M)) (rec : Int32 → Int32 → lu_M → Option (Int32 × lu_M)) (r0 : Nat) (a1 : Int32) (v2 : Int32) (v3 : Int32) (m : lu_M) : Option (Int32 × lu_M) :=
  if (m r0 0) ≤ v3 then (K38 v2 m)
  else (lu_gd (lu_ib v3 6) <|
  lu_gd (lu_ib a1 6) <|
  lu_gd (lu_ib a1 6) <|
  lu_gd (lu_ib v3 6) <|
  lu_nm ((v2 + ((m ((r0 + 21) + 1 + v3.toNatClampNeg) a1.toNatClampNeg) - (m ((r0 + 21) + 1 + a1.toNatClampNeg) v3.toNatClampNeg)))) fun x3 =>
  rec x3 (v3 + (1 : Int32)) m)
def f10_netOf_b4 (K38 : Int32 → lu_M → Option (Int32 × lu_M)) (r0 : Nat) (a1 : Int32) : Nat → Int32 → Int32 → lu_M → Option (Int32 × lu_M)
  | 0, _, _, _ => none
  | n + 1, v2, v3, m => f10_netOf_b4B K38 (f10_netOf_b4 K38 r0 a1 n) r0 a1 v2 v3 m
set_option maxRecDepth 20000 in
theorem w10_netOf_b4B  {G : lu_G} {ρ : Nat → Nat} {r0 : Nat} {a1 : Int32} {K38 : Int32 → lu_M → Option (Int32 × lu_M)} {rec : Int32 → Int32 → lu_M → Option (Int32 × lu_M)} (X : lu_X G RX10 cX10_netOf 4 0 0) (hret : (lu_me G).sig.returnType = (some .int)) (hT_r0 : lu_TC.2 r0 = (5, 0, 0)) (hr_r0 : r0 < lu_TC.1) (hK38 : ∀ (v2 : Int32) (m : lu_M), lu_Ab lu_TC G (lu_Q lu_TC G ρ lu_RVi lu_sn) (K38 v2 m) 38 [(2, .int v2)] [] ρ 0 0 [] m) (hrec : ∀ (v2 : Int32) (v3 : Int32) (m : lu_M), lu_Ab lu_TC G (lu_Q lu_TC G ρ lu_RVi lu_sn) (rec v2 v3 m) 4 [(0, .ref (ρ r0)), (1, .int a1), (2, .int v2), (3, .int v3)] [] ρ 0 0 [] m) : ∀ (v2 : Int32) (v3 : Int32) (m : lu_M), lu_Ab lu_TC G (lu_Q lu_TC G ρ lu_RVi lu_sn) (f10_netOf_b4B K38 rec r0 a1 v2 v3 m) 4 [(0, .ref (ρ r0)), (1, .int a1), (2, .int v2), (3, .int v3)] [] ρ 0 0 [] m := by
  intro v2 v3 m
  unfold f10_netOf_b4B
  refine lu_iload_n X dX10_netOf_4 (pc2 := 5) rfl rfl 3 rfl ?_
  refine lu_aload_n X dX10_netOf_5 (pc2 := 6) rfl rfl 0 rfl ?_
  refine lu_get X fl10_72 rfl hT_r0 hr_r0 dX10_netOf_6 (pc2 := 9) rfl ?_
  refine lu_icmp_ge (tgt := 38) X dX10_netOf_9 (pc2 := 12) rfl (by decide) (fun _ => ?_) (fun _ => ?_)
  · exact lu_sub [2] rfl (hK38 v2 m)
  · refine lu_iload_n X dX10_netOf_12 (pc2 := 13) rfl rfl 2 rfl ?_
    refine lu_aload_n X dX10_netOf_13 (pc2 := 14) rfl rfl 0 rfl ?_
    refine lu_getr (r2 := (r0 + 21)) X rfl fl10_52 rfl hT_r0 hr_r0 dX10_netOf_14 (pc2 := 17) rfl ?_
    refine lu_iload_n X dX10_netOf_17 (pc2 := 18) rfl rfl 3 rfl ?_
    refine lu_aald X rfl rfl (by decide) (by decide) ((koC_5_21 hT_r0 hr_r0).1) ((koC_5_21 hT_r0 hr_r0).2) dX10_netOf_18 (pc2 := 19) rfl (fun g1 => ?_)
    refine lu_iload_n X dX10_netOf_19 (pc2 := 20) rfl rfl 1 rfl ?_
    refine lu_iald X ((kaC_3_6_6 ((koC_5_21 hT_r0 hr_r0).1) ((koC_5_21 hT_r0 hr_r0).2) g1).1) ((kaC_3_6_6 ((koC_5_21 hT_r0 hr_r0).1) ((koC_5_21 hT_r0 hr_r0).2) g1).2) dX10_netOf_20 (pc2 := 21) rfl ?_
    refine lu_aload_n X dX10_netOf_21 (pc2 := 22) rfl rfl 0 rfl ?_
    refine lu_getr (r2 := (r0 + 21)) X rfl fl10_52 rfl hT_r0 hr_r0 dX10_netOf_22 (pc2 := 25) rfl ?_
    refine lu_iload_n X dX10_netOf_25 (pc2 := 26) rfl rfl 1 rfl ?_
    refine lu_aald X rfl rfl (by decide) (by decide) ((koC_5_21 hT_r0 hr_r0).1) ((koC_5_21 hT_r0 hr_r0).2) dX10_netOf_26 (pc2 := 27) rfl (fun g2 => ?_)
    refine lu_iload_n X dX10_netOf_27 (pc2 := 28) rfl rfl 3 rfl ?_
    refine lu_iald X ((kaC_3_6_6 ((koC_5_21 hT_r0 hr_r0).1) ((koC_5_21 hT_r0 hr_r0).2) g2).1) ((kaC_3_6_6 ((koC_5_21 hT_r0 hr_r0).1) ((koC_5_21 hT_r0 hr_r0).2) g2).2) dX10_netOf_28 (pc2 := 29) rfl ?_
    refine lu_isub X dX10_netOf_29 (pc2 := 30) rfl ?_
    refine lu_iadd X dX10_netOf_30 (pc2 := 31) rfl ?_
    refine lu_topi (fun x3 => ?_)
    refine lu_istore_n (lv2 := [(2, .int x3), (0, .ref (ρ r0)), (1, .int a1), (3, .int v3)]) X dX10_netOf_31 (pc2 := 32) rfl rfl (by decide) rfl ?_
    refine lu_iinc (lv2 := [(3, .int (v3 + (1 : Int32))), (2, .int x3), (0, .ref (ρ r0)), (1, .int a1)]) X dX10_netOf_32 (pc2 := 35) rfl 3 rfl (lu_ii _ ic_1) (by decide) rfl ?_
    refine lu_goto (tgt := 4) X dX10_netOf_35 (by decide) ?_
    exact lu_sub [2, 3, 1, 0] rfl (hrec x3 (v3 + (1 : Int32)) m)
theorem w10_netOf_b4  {G : lu_G} {ρ : Nat → Nat} {r0 : Nat} {a1 : Int32} {K38 : Int32 → lu_M → Option (Int32 × lu_M)} (X : lu_X G RX10 cX10_netOf 4 0 0) (hret : (lu_me G).sig.returnType = (some .int)) (hT_r0 : lu_TC.2 r0 = (5, 0, 0)) (hr_r0 : r0 < lu_TC.1) (hK38 : ∀ (v2 : Int32) (m : lu_M), lu_Ab lu_TC G (lu_Q lu_TC G ρ lu_RVi lu_sn) (K38 v2 m) 38 [(2, .int v2)] [] ρ 0 0 [] m) : ∀ (n : Nat) (v2 : Int32) (v3 : Int32) (m : lu_M), lu_Ab lu_TC G (lu_Q lu_TC G ρ lu_RVi lu_sn) (f10_netOf_b4 K38 r0 a1 n v2 v3 m) 4 [(0, .ref (ρ r0)), (1, .int a1), (2, .int v2), (3, .int v3)] [] ρ 0 0 [] m := by
  intro n
  induction n with
  | zero => intro v2 v3 m; exact lu_none
  | succ n ih => intro v2 v3 m; exact w10_netOf_b4B X hret hT_r0 hr_r0 hK38 ih v2 v3 m
def f10_netOf_b38  (r0 : Nat) (a1 : Int32) (v2 : Int32) (m : lu_M) : Option (Int32 × lu_M) :=
  some (v2, m)
set_option maxRecDepth 20000 in
theorem w10_netOf_b38  {G : lu_G} {ρ : Nat → Nat} {r0 : Nat} {a1 : Int32}  (X : lu_X G RX10 cX10_netOf 4 0 0) (hret : (lu_me G).sig.returnType = (some .int)) (hT_r0 : lu_TC.2 r0 = (5, 0, 0)) (hr_r0 : r0 < lu_TC.1)  : ∀ (v2 : Int32) (m : lu_M), lu_Ab lu_TC G (lu_Q lu_TC G ρ lu_RVi lu_sn) (f10_netOf_b38 r0 a1 v2 m) 38 [(2, .int v2)] [] ρ 0 0 [] m := by
  intro v2 m
  unfold f10_netOf_b38
  refine lu_iload_n X dX10_netOf_38 (pc2 := 39) rfl rfl 0 rfl ?_
  exact lu_iret X hret dX10_netOf_39
def f10_netOf (r0 : Nat) (a1 : Int32) (m : lu_M) : Option (Int32 × lu_M) :=
  f10_netOf_b4 (f10_netOf_b38 r0 a1) r0 a1 lu_fu (0 : Int32) (0 : Int32) m
set_option maxRecDepth 20000 in
theorem c10_netOf (l : Launch) {r0 : Nat} (hT_r0 : lu_TC.2 r0 = (5, 0, 0)) (hr_r0 : r0 < lu_TC.1) (a1 : Int32) : lu_C lu_TC l yX10_netOf cX10_netOf 4 (some .int) 0 0 (fun ρ sa => [.ref (ρ r0), .int a1]) (f10_netOf r0 a1) lu_RVi lu_sn := by
  refine lu_met (cls := RX10) rfl (by decide +kernel) (fun _ _ => Nat.le_of_ble_eq_true rfl) ?_
  intro G ρ m hl X hret
  subst hl
  change lu_Ab lu_TC G (lu_Q lu_TC G ρ lu_RVi lu_sn) (f10_netOf r0 a1 m) 0 [(0, .ref (ρ r0)), (1, .int a1)] [] ρ 0 0 [] m
  unfold f10_netOf
  refine lu_iconst X dX10_netOf_0 (pc2 := 1) rfl ic_0 ?_
  refine lu_istore_n (lv2 := [(2, .int (0 : Int32)), (0, .ref (ρ r0)), (1, .int a1)]) X dX10_netOf_1 (pc2 := 2) rfl rfl (by decide) rfl ?_
  refine lu_iconst X dX10_netOf_2 (pc2 := 3) rfl ic_0 ?_
  refine lu_istore_n (lv2 := [(3, .int (0 : Int32)), (2, .int (0 : Int32)), (0, .ref (ρ r0)), (1, .int a1)]) X dX10_netOf_3 (pc2 := 4) rfl rfl (by decide) rfl ?_
  exact lu_sub [2, 3, 1, 0] rfl (w10_netOf_b4 X hret hT_r0 hr_r0 (w10_netOf_b38 X hret hT_r0 hr_r0) lu_fu (0 : Int32) (0 : Int32) m)

theorem dX10_owedBy_0 : decode cX10_owedBy 0 = .ok (.iconst 0, 1) := by decide +kernel
theorem dX10_owedBy_1 : decode cX10_owedBy 1 = .ok (.istore_n 2, 1) := by decide +kernel
theorem dX10_owedBy_2 : decode cX10_owedBy 2 = .ok (.iconst 0, 1) := by decide +kernel
theorem dX10_owedBy_3 : decode cX10_owedBy 3 = .ok (.istore_n 3, 1) := by decide +kernel
theorem dX10_owedBy_4 : decode cX10_owedBy 4 = .ok (.iload_n 3, 1) := by decide +kernel
theorem dX10_owedBy_5 : decode cX10_owedBy 5 = .ok (.aload_n 0, 1) := by decide +kernel
theorem dX10_owedBy_6 : decode cX10_owedBy 6 = .ok (.getfield 72, 3) := by decide +kernel
theorem dX10_owedBy_9 : decode cX10_owedBy 9 = .ok (.if_icmp .ge 55, 3) := by decide +kernel
theorem dX10_owedBy_12 : decode cX10_owedBy 12 = .ok (.iconst 0, 1) := by decide +kernel
theorem dX10_owedBy_13 : decode cX10_owedBy 13 = .ok (.istore 4, 2) := by decide +kernel
theorem dX10_owedBy_15 : decode cX10_owedBy 15 = .ok (.iload 4, 2) := by decide +kernel
theorem dX10_owedBy_17 : decode cX10_owedBy 17 = .ok (.aload_n 0, 1) := by decide +kernel
theorem dX10_owedBy_18 : decode cX10_owedBy 18 = .ok (.getfield 72, 3) := by decide +kernel
theorem dX10_owedBy_21 : decode cX10_owedBy 21 = .ok (.if_icmp .ge 37, 3) := by decide +kernel
theorem dX10_owedBy_24 : decode cX10_owedBy 24 = .ok (.iload_n 1, 1) := by decide +kernel
theorem dX10_owedBy_25 : decode cX10_owedBy 25 = .ok (.iload_n 3, 1) := by decide +kernel
theorem dX10_owedBy_26 : decode cX10_owedBy 26 = .ok (.ishr, 1) := by decide +kernel
theorem dX10_owedBy_27 : decode cX10_owedBy 27 = .ok (.iconst 1, 1) := by decide +kernel
theorem dX10_owedBy_28 : decode cX10_owedBy 28 = .ok (.iand, 1) := by decide +kernel
theorem dX10_owedBy_29 : decode cX10_owedBy 29 = .ok (.iconst 1, 1) := by decide +kernel
theorem dX10_owedBy_30 : decode cX10_owedBy 30 = .ok (.if_icmp .ne 22, 3) := by decide +kernel
theorem dX10_owedBy_33 : decode cX10_owedBy 33 = .ok (.aload_n 0, 1) := by decide +kernel
theorem dX10_owedBy_34 : decode cX10_owedBy 34 = .ok (.getfield 52, 3) := by decide +kernel
theorem dX10_owedBy_37 : decode cX10_owedBy 37 = .ok (.iload_n 3, 1) := by decide +kernel
theorem dX10_owedBy_38 : decode cX10_owedBy 38 = .ok (.aaload, 1) := by decide +kernel
theorem dX10_owedBy_39 : decode cX10_owedBy 39 = .ok (.iload 4, 2) := by decide +kernel
theorem dX10_owedBy_41 : decode cX10_owedBy 41 = .ok (.iaload, 1) := by decide +kernel
theorem dX10_owedBy_42 : decode cX10_owedBy 42 = .ok (.ifCond .le 10, 3) := by decide +kernel
theorem dX10_owedBy_45 : decode cX10_owedBy 45 = .ok (.iload_n 2, 1) := by decide +kernel
theorem dX10_owedBy_46 : decode cX10_owedBy 46 = .ok (.iconst 1, 1) := by decide +kernel
theorem dX10_owedBy_47 : decode cX10_owedBy 47 = .ok (.iload 4, 2) := by decide +kernel
theorem dX10_owedBy_49 : decode cX10_owedBy 49 = .ok (.ishl, 1) := by decide +kernel
theorem dX10_owedBy_50 : decode cX10_owedBy 50 = .ok (.ior, 1) := by decide +kernel
theorem dX10_owedBy_51 : decode cX10_owedBy 51 = .ok (.istore_n 2, 1) := by decide +kernel
theorem dX10_owedBy_52 : decode cX10_owedBy 52 = .ok (.iinc 4 1, 3) := by decide +kernel
theorem dX10_owedBy_55 : decode cX10_owedBy 55 = .ok (.goto (-40), 3) := by decide +kernel
theorem dX10_owedBy_58 : decode cX10_owedBy 58 = .ok (.iinc 3 1, 3) := by decide +kernel
theorem dX10_owedBy_61 : decode cX10_owedBy 61 = .ok (.goto (-57), 3) := by decide +kernel
theorem dX10_owedBy_64 : decode cX10_owedBy 64 = .ok (.iload_n 2, 1) := by decide +kernel
theorem dX10_owedBy_65 : decode cX10_owedBy 65 = .ok (.ireturn, 1) := by decide +kernel
def f10_owedBy_b52 (K15 : Int32 → Int32 → Int32 → lu_M → Option (Int32 × lu_M)) (K58 : Int32 → Int32 → lu_M → Option (Int32 × lu_M)) (r0 : Nat) (a1 : Int32) (v2 : Int32) (v3 : Int32) (v4 : Int32) (m : lu_M) : Option (Int32 × lu_M) :=
  K15 v2 v3 (v4 + (1 : Int32)) m
set_option maxRecDepth 20000 in
theorem w10_owedBy_b52  {G : lu_G} {ρ : Nat → Nat} {r0 : Nat} {a1 : Int32} {K15 : Int32 → Int32 → Int32 → lu_M → Option (Int32 × lu_M)} {K58 : Int32 → Int32 → lu_M → Option (Int32 × lu_M)} (X : lu_X G RX10 cX10_owedBy 5 0 0) (hret : (lu_me G).sig.returnType = (some .int)) (hT_r0 : lu_TC.2 r0 = (5, 0, 0)) (hr_r0 : r0 < lu_TC.1) (hK15 : ∀ (v2 : Int32) (v3 : Int32) (v4 : Int32) (m : lu_M), lu_Ab lu_TC G (lu_Q lu_TC G ρ lu_RVi lu_sn) (K15 v2 v3 v4 m) 15 [(0, .ref (ρ r0)), (1, .int a1), (2, .int v2), (3, .int v3), (4, .int v4)] [] ρ 0 0 [] m) (hK58 : ∀ (v2 : Int32) (v3 : Int32) (m : lu_M), lu_Ab lu_TC G (lu_Q lu_TC G ρ lu_RVi lu_sn) (K58 v2 v3 m) 58 [(0, .ref (ρ r0)), (1, .int a1), (2, .int v2), (3, .int v3)] [] ρ 0 0 [] m) : ∀ (v2 : Int32) (v3 : Int32) (v4 : Int32) (m : lu_M), lu_Ab lu_TC G (lu_Q lu_TC G ρ lu_RVi lu_sn) (f10_owedBy_b52 K15 K58 r0 a1 v2 v3 v4 m) 52 [(0, .ref (ρ r0)), (1, .int a1), (2, .int v2), (3, .int v3), (4, .int v4)] [] ρ 0 0 [] m := by
  intro v2 v3 v4 m
  unfold f10_owedBy_b52
  refine lu_iinc (lv2 := [(4, .int (v4 + (1 : Int32))), (0, .ref (ρ r0)), (1, .int a1), (2, .int v2), (3, .int v3)]) X dX10_owedBy_52 (pc2 := 55) rfl 4 rfl (lu_ii _ ic_1) (by decide) rfl ?_
  refine lu_goto (tgt := 15) X dX10_owedBy_55 (by decide) ?_
  exact lu_sub [1, 2, 3, 4, 0] rfl (hK15 v2 v3 (v4 + (1 : Int32)) m)
def f10_owedBy_b15B (K58 : Int32 → Int32 → lu_M → Option (Int32 × lu_M)) (rec : Int32 → Int32 → Int32 → lu_M → Option (Int32 × lu_M)) (r0 : Nat) (a1 : Int32) (v2 : Int32) (v3 : Int32) (v4 : Int32) (m : lu_M) : Option (Int32 × lu_M) :=
  if (m r0 0) ≤ v4 then (K58 v2 v3 m)
  else (if ((a1 >>> (v3 &&& 31)) &&& (1 : Int32)) = (1 : Int32) then (lu_gd (lu_ib v3 6) <|
  lu_gd (lu_ib v4 6) <|
  if (m ((r0 + 21) + 1 + v3.toNatClampNeg) v4.toNatClampNeg) ≤ 0 then (f10_owedBy_b52 rec K58 r0 a1 v2 v3 v4 m)
  else (lu_nm ((v2 ||| ((1 : Int32) <<< (v4 &&& 31)))) fun x2 =>
  f10_owedBy_b52 rec K58 r0 a1 x2 v3 v4 m))
  else (f10_owedBy_b52 rec K58 r0 a1 v2 v3 v4 m))
def f10_owedBy_b15 (K58 : Int32 → Int32 → lu_M → Option (Int32 × lu_M)) (r0 : Nat) (a1 : Int32) : Nat → Int32 → Int32 → Int32 → lu_M → Option (Int32 × lu_M)
  | 0, _, _, _, _ => none
  | n + 1, v2, v3, v4, m => f10_owedBy_b15B K58 (f10_owedBy_b15 K58 r0 a1 n) r0 a1 v2 v3 v4 m
set_option maxRecDepth 20000 in
theorem w10_owedBy_b15B  {G : lu_G} {ρ : Nat → Nat} {r0 : Nat} {a1 : Int32} {K58 : Int32 → Int32 → lu_M → Option (Int32 × lu_M)} {rec : Int32 → Int32 → Int32 → lu_M → Option (Int32 × lu_M)} (X : lu_X G RX10 cX10_owedBy 5 0 0) (hret : (lu_me G).sig.returnType = (some .int)) (hT_r0 : lu_TC.2 r0 = (5, 0, 0)) (hr_r0 : r0 < lu_TC.1) (hK58 : ∀ (v2 : Int32) (v3 : Int32) (m : lu_M), lu_Ab lu_TC G (lu_Q lu_TC G ρ lu_RVi lu_sn) (K58 v2 v3 m) 58 [(0, .ref (ρ r0)), (1, .int a1), (2, .int v2), (3, .int v3)] [] ρ 0 0 [] m) (hrec : ∀ (v2 : Int32) (v3 : Int32) (v4 : Int32) (m : lu_M), lu_Ab lu_TC G (lu_Q lu_TC G ρ lu_RVi lu_sn) (rec v2 v3 v4 m) 15 [(0, .ref (ρ r0)), (1, .int a1), (2, .int v2), (3, .int v3), (4, .int v4)] [] ρ 0 0 [] m) : ∀ (v2 : Int32) (v3 : Int32) (v4 : Int32) (m : lu_M), lu_Ab lu_TC G (lu_Q lu_TC G ρ lu_RVi lu_sn) (f10_owedBy_b15B K58 rec r0 a1 v2 v3 v4 m) 15 [(0, .ref (ρ r0)), (1, .int a1), (2, .int v2), (3, .int v3), (4, .int v4)] [] ρ 0 0 [] m := by
  intro v2 v3 v4 m
  unfold f10_owedBy_b15B
  refine lu_iload X dX10_owedBy_15 (pc2 := 17) rfl 4 rfl ?_
  refine lu_aload_n X dX10_owedBy_17 (pc2 := 18) rfl rfl 0 rfl ?_
  refine lu_get X fl10_72 rfl hT_r0 hr_r0 dX10_owedBy_18 (pc2 := 21) rfl ?_
  refine lu_icmp_ge (tgt := 58) X dX10_owedBy_21 (pc2 := 24) rfl (by decide) (fun _ => ?_) (fun _ => ?_)
  · exact lu_sub [0, 1, 2, 3] rfl (hK58 v2 v3 m)
  · refine lu_iload_n X dX10_owedBy_24 (pc2 := 25) rfl rfl 1 rfl ?_
    refine lu_iload_n X dX10_owedBy_25 (pc2 := 26) rfl rfl 3 rfl ?_
    refine lu_ishr X dX10_owedBy_26 (pc2 := 27) rfl ?_
    refine lu_iconst X dX10_owedBy_27 (pc2 := 28) rfl ic_1 ?_
    refine lu_iand X dX10_owedBy_28 (pc2 := 29) rfl ?_
    refine lu_iconst X dX10_owedBy_29 (pc2 := 30) rfl ic_1 ?_
    refine lu_icmp_ne (tgt := 52) X dX10_owedBy_30 (pc2 := 33) rfl (by decide) (fun _ => ?_) (fun _ => ?_)
    · exact w10_owedBy_b52 X hret hT_r0 hr_r0 hrec hK58 v2 v3 v4 m
    · refine lu_aload_n X dX10_owedBy_33 (pc2 := 34) rfl rfl 0 rfl ?_
      refine lu_getr (r2 := (r0 + 21)) X rfl fl10_52 rfl hT_r0 hr_r0 dX10_owedBy_34 (pc2 := 37) rfl ?_
      refine lu_iload_n X dX10_owedBy_37 (pc2 := 38) rfl rfl 3 rfl ?_
      refine lu_aald X rfl rfl (by decide) (by decide) ((koC_5_21 hT_r0 hr_r0).1) ((koC_5_21 hT_r0 hr_r0).2) dX10_owedBy_38 (pc2 := 39) rfl (fun g1 => ?_)
      refine lu_iload X dX10_owedBy_39 (pc2 := 41) rfl 4 rfl ?_
      refine lu_iald X ((kaC_3_6_6 ((koC_5_21 hT_r0 hr_r0).1) ((koC_5_21 hT_r0 hr_r0).2) g1).1) ((kaC_3_6_6 ((koC_5_21 hT_r0 hr_r0).1) ((koC_5_21 hT_r0 hr_r0).2) g1).2) dX10_owedBy_41 (pc2 := 42) rfl ?_
      refine lu_if_le (tgt := 52) X dX10_owedBy_42 (pc2 := 45) rfl (by decide) (fun _ => ?_) (fun _ => ?_)
      · exact w10_owedBy_b52 X hret hT_r0 hr_r0 hrec hK58 v2 v3 v4 m
      · refine lu_iload_n X dX10_owedBy_45 (pc2 := 46) rfl rfl 2 rfl ?_
        refine lu_iconst X dX10_owedBy_46 (pc2 := 47) rfl ic_1 ?_
        refine lu_iload X dX10_owedBy_47 (pc2 := 49) rfl 4 rfl ?_
        refine lu_ishl X dX10_owedBy_49 (pc2 := 50) rfl ?_
        refine lu_ior X dX10_owedBy_50 (pc2 := 51) rfl ?_
        refine lu_topi (fun x2 => ?_)
        refine lu_istore_n (lv2 := [(2, .int x2), (0, .ref (ρ r0)), (1, .int a1), (3, .int v3), (4, .int v4)]) X dX10_owedBy_51 (pc2 := 52) rfl rfl (by decide) rfl ?_
        exact lu_sub [1, 2, 0, 3, 4] rfl (w10_owedBy_b52 X hret hT_r0 hr_r0 hrec hK58 x2 v3 v4 m)
theorem w10_owedBy_b15  {G : lu_G} {ρ : Nat → Nat} {r0 : Nat} {a1 : Int32} {K58 : Int32 → Int32 → lu_M → Option (Int32 × lu_M)} (X : lu_X G RX10 cX10_owedBy 5 0 0) (hret : (lu_me G).sig.returnType = (some .int)) (hT_r0 : lu_TC.2 r0 = (5, 0, 0)) (hr_r0 : r0 < lu_TC.1) (hK58 : ∀ (v2 : Int32) (v3 : Int32) (m : lu_M), lu_Ab lu_TC G (lu_Q lu_TC G ρ lu_RVi lu_sn) (K58 v2 v3 m) 58 [(0, .ref (ρ r0)), (1, .int a1), (2, .int v2), (3, .int v3)] [] ρ 0 0 [] m) : ∀ (n : Nat) (v2 : Int32) (v3 : Int32) (v4 : Int32) (m : lu_M), lu_Ab lu_TC G (lu_Q lu_TC G ρ lu_RVi lu_sn) (f10_owedBy_b15 K58 r0 a1 n v2 v3 v4 m) 15 [(0, .ref (ρ r0)), (1, .int a1), (2, .int v2), (3, .int v3), (4, .int v4)] [] ρ 0 0 [] m := by
  intro n
  induction n with
  | zero => intro v2 v3 v4 m; exact lu_none
  | succ n ih => intro v2 v3 v4 m; exact w10_owedBy_b15B X hret hT_r0 hr_r0 hK58 ih v2 v3 v4 m
def f10_owedBy_b58 (K4 : Int32 → Int32 → lu_M → Option (Int32 × lu_M)) (K64 : Int32 → lu_M → Option (Int32 × lu_M)) (r0 : Nat) (a1 : Int32) (v2 : Int32) (v3 : Int32) (m : lu_M) : Option (Int32 × lu_M) :=
  K4 v2 (v3 + (1 : Int32)) m
set_option maxRecDepth 20000 in
theorem w10_owedBy_b58  {G : lu_G} {ρ : Nat → Nat} {r0 : Nat} {a1 : Int32} {K4 : Int32 → Int32 → lu_M → Option (Int32 × lu_M)} {K64 : Int32 → lu_M → Option (Int32 × lu_M)} (X : lu_X G RX10 cX10_owedBy 5 0 0) (hret : (lu_me G).sig.returnType = (some .int)) (hT_r0 : lu_TC.2 r0 = (5, 0, 0)) (hr_r0 : r0 < lu_TC.1) (hK4 : ∀ (v2 : Int32) (v3 : Int32) (m : lu_M), lu_Ab lu_TC G (lu_Q lu_TC G ρ lu_RVi lu_sn) (K4 v2 v3 m) 4 [(0, .ref (ρ r0)), (1, .int a1), (2, .int v2), (3, .int v3)] [] ρ 0 0 [] m) (hK64 : ∀ (v2 : Int32) (m : lu_M), lu_Ab lu_TC G (lu_Q lu_TC G ρ lu_RVi lu_sn) (K64 v2 m) 64 [(2, .int v2)] [] ρ 0 0 [] m) : ∀ (v2 : Int32) (v3 : Int32) (m : lu_M), lu_Ab lu_TC G (lu_Q lu_TC G ρ lu_RVi lu_sn) (f10_owedBy_b58 K4 K64 r0 a1 v2 v3 m) 58 [(0, .ref (ρ r0)), (1, .int a1), (2, .int v2), (3, .int v3)] [] ρ 0 0 [] m := by
  intro v2 v3 m
  unfold f10_owedBy_b58
  refine lu_iinc (lv2 := [(3, .int (v3 + (1 : Int32))), (0, .ref (ρ r0)), (1, .int a1), (2, .int v2)]) X dX10_owedBy_58 (pc2 := 61) rfl 3 rfl (lu_ii _ ic_1) (by decide) rfl ?_
  refine lu_goto (tgt := 4) X dX10_owedBy_61 (by decide) ?_
  exact lu_sub [1, 2, 3, 0] rfl (hK4 v2 (v3 + (1 : Int32)) m)
def f10_owedBy_b4B (K64 : Int32 → lu_M → Option (Int32 × lu_M)) (rec : Int32 → Int32 → lu_M → Option (Int32 × lu_M)) (r0 : Nat) (a1 : Int32) (v2 : Int32) (v3 : Int32) (m : lu_M) : Option (Int32 × lu_M) :=
  if (m r0 0) ≤ v3 then (K64 v2 m)
  else (f10_owedBy_b15 (f10_owedBy_b58 rec K64 r0 a1) r0 a1 lu_fu v2 v3 (0 : Int32) m)
def f10_owedBy_b4 (K64 : Int32 → lu_M → Option (Int32 × lu_M)) (r0 : Nat) (a1 : Int32) : Nat → Int32 → Int32 → lu_M → Option (Int32 × lu_M)
  | 0, _, _, _ => none
  | n + 1, v2, v3, m => f10_owedBy_b4B K64 (f10_owedBy_b4 K64 r0 a1 n) r0 a1 v2 v3 m
set_option maxRecDepth 20000 in
theorem w10_owedBy_b4B  {G : lu_G} {ρ : Nat → Nat} {r0 : Nat} {a1 : Int32} {K64 : Int32 → lu_M → Option (Int32 × lu_M)} {rec : Int32 → Int32 → lu_M → Option (Int32 × lu_M)} (X : lu_X G RX10 cX10_owedBy 5 0 0) (hret : (lu_me G).sig.returnType = (some .int)) (hT_r0 : lu_TC.2 r0 = (5, 0, 0)) (hr_r0 : r0 < lu_TC.1) (hK64 : ∀ (v2 : Int32) (m : lu_M), lu_Ab lu_TC G (lu_Q lu_TC G ρ lu_RVi lu_sn) (K64 v2 m) 64 [(2, .int v2)] [] ρ 0 0 [] m) (hrec : ∀ (v2 : Int32) (v3 : Int32) (m : lu_M), lu_Ab lu_TC G (lu_Q lu_TC G ρ lu_RVi lu_sn) (rec v2 v3 m) 4 [(0, .ref (ρ r0)), (1, .int a1), (2, .int v2), (3, .int v3)] [] ρ 0 0 [] m) : ∀ (v2 : Int32) (v3 : Int32) (m : lu_M), lu_Ab lu_TC G (lu_Q lu_TC G ρ lu_RVi lu_sn) (f10_owedBy_b4B K64 rec r0 a1 v2 v3 m) 4 [(0, .ref (ρ r0)), (1, .int a1), (2, .int v2), (3, .int v3)] [] ρ 0 0 [] m := by
  intro v2 v3 m
  unfold f10_owedBy_b4B
  refine lu_iload_n X dX10_owedBy_4 (pc2 := 5) rfl rfl 3 rfl ?_
  refine lu_aload_n X dX10_owedBy_5 (pc2 := 6) rfl rfl 0 rfl ?_
  refine lu_get X fl10_72 rfl hT_r0 hr_r0 dX10_owedBy_6 (pc2 := 9) rfl ?_
  refine lu_icmp_ge (tgt := 64) X dX10_owedBy_9 (pc2 := 12) rfl (by decide) (fun _ => ?_) (fun _ => ?_)
  · exact lu_sub [2] rfl (hK64 v2 m)
  · refine lu_iconst X dX10_owedBy_12 (pc2 := 13) rfl ic_0 ?_
    refine lu_istore (lv2 := [(4, .int (0 : Int32)), (0, .ref (ρ r0)), (1, .int a1), (2, .int v2), (3, .int v3)]) X dX10_owedBy_13 (pc2 := 15) rfl (by decide) rfl ?_
    exact lu_sub [1, 2, 3, 4, 0] rfl (w10_owedBy_b15 X hret hT_r0 hr_r0 (w10_owedBy_b58 X hret hT_r0 hr_r0 hrec hK64) lu_fu v2 v3 (0 : Int32) m)
theorem w10_owedBy_b4  {G : lu_G} {ρ : Nat → Nat} {r0 : Nat} {a1 : Int32} {K64 : Int32 → lu_M → Option (Int32 × lu_M)} (X : lu_X G RX10 cX10_owedBy 5 0 0) (hret : (lu_me G).sig.returnType = (some .int)) (hT_r0 : lu_TC.2 r0 = (5, 0, 0)) (hr_r0 : r0 < lu_TC.1) (hK64 : ∀ (v2 : Int32) (m : lu_M), lu_Ab lu_TC G (lu_Q lu_TC G ρ lu_RVi lu_sn) (K64 v2 m) 64 [(2, .int v2)] [] ρ 0 0 [] m) : ∀ (n : Nat) (v2 : Int32) (v3 : Int32) (m : lu_M), lu_Ab lu_TC G (lu_Q lu_TC G ρ lu_RVi lu_sn) (f10_owedBy_b4 K64 r0 a1 n v2 v3 m) 4 [(0, .ref (ρ r0)), (1, .int a1), (2, .int v2), (3, .int v3)] [] ρ 0 0 [] m := by
  intro n
  induction n with
  | zero => intro v2 v3 m; exact lu_none
  | succ n ih => intro v2 v3 m; exact w10_owedBy_b4B X hret hT_r0 hr_r0 hK64 ih v2 v3 m
def f10_owedBy_b64  (r0 : Nat) (a1 : Int32) (v2 : Int32) (m : lu_M) : Option (Int32 × lu_M) :=
  some (v2, m)
set_option maxRecDepth 20000 in
theorem w10_owedBy_b64  {G : lu_G} {ρ : Nat → Nat} {r0 : Nat} {a1 : Int32}  (X : lu_X G RX10 cX10_owedBy 5 0 0) (hret : (lu_me G).sig.returnType = (some .int)) (hT_r0 : lu_TC.2 r0 = (5, 0, 0)) (hr_r0 : r0 < lu_TC.1)  : ∀ (v2 : Int32) (m : lu_M), lu_Ab lu_TC G (lu_Q lu_TC G ρ lu_RVi lu_sn) (f10_owedBy_b64 r0 a1 v2 m) 64 [(2, .int v2)] [] ρ 0 0 [] m := by
  intro v2 m
  unfold f10_owedBy_b64
  refine lu_iload_n X dX10_owedBy_64 (pc2 := 65) rfl rfl 0 rfl ?_
  exact lu_iret X hret dX10_owedBy_65
def f10_owedBy (r0 : Nat) (a1 : Int32) (m : lu_M) : Option (Int32 × lu_M) :=
  f10_owedBy_b4 (f10_owedBy_b64 r0 a1) r0 a1 lu_fu (0 : Int32) (0 : Int32) m
set_option maxRecDepth 20000 in
theorem c10_owedBy (l : Launch) {r0 : Nat} (hT_r0 : lu_TC.2 r0 = (5, 0, 0)) (hr_r0 : r0 < lu_TC.1) (a1 : Int32) : lu_C lu_TC l yX10_owedBy cX10_owedBy 5 (some .int) 0 0 (fun ρ sa => [.ref (ρ r0), .int a1]) (f10_owedBy r0 a1) lu_RVi lu_sn := by
  refine lu_met (cls := RX10) rfl (by decide +kernel) (fun _ _ => Nat.le_of_ble_eq_true rfl) ?_
  intro G ρ m hl X hret
  subst hl
  change lu_Ab lu_TC G (lu_Q lu_TC G ρ lu_RVi lu_sn) (f10_owedBy r0 a1 m) 0 [(0, .ref (ρ r0)), (1, .int a1)] [] ρ 0 0 [] m
  unfold f10_owedBy
  refine lu_iconst X dX10_owedBy_0 (pc2 := 1) rfl ic_0 ?_
  refine lu_istore_n (lv2 := [(2, .int (0 : Int32)), (0, .ref (ρ r0)), (1, .int a1)]) X dX10_owedBy_1 (pc2 := 2) rfl rfl (by decide) rfl ?_
  refine lu_iconst X dX10_owedBy_2 (pc2 := 3) rfl ic_0 ?_
  refine lu_istore_n (lv2 := [(3, .int (0 : Int32)), (2, .int (0 : Int32)), (0, .ref (ρ r0)), (1, .int a1)]) X dX10_owedBy_3 (pc2 := 4) rfl rfl (by decide) rfl ?_
  exact lu_sub [2, 3, 1, 0] rfl (w10_owedBy_b4 X hret hT_r0 hr_r0 (w10_owedBy_b64 X hret hT_r0 hr_r0) lu_fu (0 : Int32) (0 : Int32) m)

theorem dX10_loansGiven_0 : decode cX10_loansGiven 0 = .ok (.iconst 0, 1) := by decide +kernel
theorem dX10_loansGiven_1 : decode cX10_loansGiven 1 = .ok (.istore_n 1, 1) := by decide +kernel
theorem dX10_loansGiven_2 : decode cX10_loansGiven 2 = .ok (.iconst 0, 1) := by decide +kernel
theorem dX10_loansGiven_3 : decode cX10_loansGiven 3 = .ok (.istore_n 2, 1) := by decide +kernel
theorem dX10_loansGiven_4 : decode cX10_loansGiven 4 = .ok (.iload_n 2, 1) := by decide +kernel
theorem dX10_loansGiven_5 : decode cX10_loansGiven 5 = .ok (.aload_n 0, 1) := by decide +kernel
theorem dX10_loansGiven_6 : decode cX10_loansGiven 6 = .ok (.getfield 72, 3) := by decide +kernel
theorem dX10_loansGiven_9 : decode cX10_loansGiven 9 = .ok (.if_icmp .ge 39, 3) := by decide +kernel
theorem dX10_loansGiven_12 : decode cX10_loansGiven 12 = .ok (.iconst 0, 1) := by decide +kernel
theorem dX10_loansGiven_13 : decode cX10_loansGiven 13 = .ok (.istore_n 3, 1) := by decide +kernel
theorem dX10_loansGiven_14 : decode cX10_loansGiven 14 = .ok (.iload_n 3, 1) := by decide +kernel
theorem dX10_loansGiven_15 : decode cX10_loansGiven 15 = .ok (.aload_n 0, 1) := by decide +kernel
theorem dX10_loansGiven_16 : decode cX10_loansGiven 16 = .ok (.getfield 72, 3) := by decide +kernel
theorem dX10_loansGiven_19 : decode cX10_loansGiven 19 = .ok (.if_icmp .ge 23, 3) := by decide +kernel
theorem dX10_loansGiven_22 : decode cX10_loansGiven 22 = .ok (.aload_n 0, 1) := by decide +kernel
theorem dX10_loansGiven_23 : decode cX10_loansGiven 23 = .ok (.getfield 52, 3) := by decide +kernel
theorem dX10_loansGiven_26 : decode cX10_loansGiven 26 = .ok (.iload_n 2, 1) := by decide +kernel
theorem dX10_loansGiven_27 : decode cX10_loansGiven 27 = .ok (.aaload, 1) := by decide +kernel
theorem dX10_loansGiven_28 : decode cX10_loansGiven 28 = .ok (.iload_n 3, 1) := by decide +kernel
theorem dX10_loansGiven_29 : decode cX10_loansGiven 29 = .ok (.iaload, 1) := by decide +kernel
theorem dX10_loansGiven_30 : decode cX10_loansGiven 30 = .ok (.ifCond .le 6, 3) := by decide +kernel
theorem dX10_loansGiven_33 : decode cX10_loansGiven 33 = .ok (.iinc 1 1, 3) := by decide +kernel
theorem dX10_loansGiven_36 : decode cX10_loansGiven 36 = .ok (.iinc 3 1, 3) := by decide +kernel
theorem dX10_loansGiven_39 : decode cX10_loansGiven 39 = .ok (.goto (-25), 3) := by decide +kernel
theorem dX10_loansGiven_42 : decode cX10_loansGiven 42 = .ok (.iinc 2 1, 3) := by decide +kernel
theorem dX10_loansGiven_45 : decode cX10_loansGiven 45 = .ok (.goto (-41), 3) := by decide +kernel
theorem dX10_loansGiven_48 : decode cX10_loansGiven 48 = .ok (.iload_n 1, 1) := by decide +kernel
theorem dX10_loansGiven_49 : decode cX10_loansGiven 49 = .ok (.ireturn, 1) := by decide +kernel
def f10_loansGiven_b36 (K14 : Int32 → Int32 → Int32 → lu_M → Option (Int32 × lu_M)) (K42 : Int32 → Int32 → lu_M → Option (Int32 × lu_M)) (r0 : Nat) (v1 : Int32) (v2 : Int32) (v3 : Int32) (m : lu_M) : Option (Int32 × lu_M) :=
  K14 v1 v2 (v3 + (1 : Int32)) m
set_option maxRecDepth 20000 in
theorem w10_loansGiven_b36  {G : lu_G} {ρ : Nat → Nat} {r0 : Nat} {K14 : Int32 → Int32 → Int32 → lu_M → Option (Int32 × lu_M)} {K42 : Int32 → Int32 → lu_M → Option (Int32 × lu_M)} (X : lu_X G RX10 cX10_loansGiven 4 0 0) (hret : (lu_me G).sig.returnType = (some .int)) (hT_r0 : lu_TC.2 r0 = (5, 0, 0)) (hr_r0 : r0 < lu_TC.1) (hK14 : ∀ (v1 : Int32) (v2 : Int32) (v3 : Int32) (m : lu_M), lu_Ab lu_TC G (lu_Q lu_TC G ρ lu_RVi lu_sn) (K14 v1 v2 v3 m) 14 [(0, .ref (ρ r0)), (1, .int v1), (2, .int v2), (3, .int v3)] [] ρ 0 0 [] m) (hK42 : ∀ (v1 : Int32) (v2 : Int32) (m : lu_M), lu_Ab lu_TC G (lu_Q lu_TC G ρ lu_RVi lu_sn) (K42 v1 v2 m) 42 [(0, .ref (ρ r0)), (1, .int v1), (2, .int v2)] [] ρ 0 0 [] m) : ∀ (v1 : Int32) (v2 : Int32) (v3 : Int32) (m : lu_M), lu_Ab lu_TC G (lu_Q lu_TC G ρ lu_RVi lu_sn) (f10_loansGiven_b36 K14 K42 r0 v1 v2 v3 m) 36 [(0, .ref (ρ r0)), (1, .int v1), (2, .int v2), (3, .int v3)] [] ρ 0 0 [] m := by
  intro v1 v2 v3 m
  unfold f10_loansGiven_b36
  refine lu_iinc (lv2 := [(3, .int (v3 + (1 : Int32))), (0, .ref (ρ r0)), (1, .int v1), (2, .int v2)]) X dX10_loansGiven_36 (pc2 := 39) rfl 3 rfl (lu_ii _ ic_1) (by decide) rfl ?_
  refine lu_goto (tgt := 14) X dX10_loansGiven_39 (by decide) ?_
  exact lu_sub [1, 2, 3, 0] rfl (hK14 v1 v2 (v3 + (1 : Int32)) m)
def f10_loansGiven_b14B (K42 : Int32 → Int32 → lu_M → Option (Int32 × lu_M)) (rec : Int32 → Int32 → Int32 → lu_M → Option (Int32 × lu_M)) (r0 : Nat) (v1 : Int32) (v2 : Int32) (v3 : Int32) (m : lu_M) : Option (Int32 × lu_M) :=
  if (m r0 0) ≤ v3 then (K42 v1 v2 m)
  else (lu_gd (lu_ib v2 6) <|
  lu_gd (lu_ib v3 6) <|
  if (m ((r0 + 21) + 1 + v2.toNatClampNeg) v3.toNatClampNeg) ≤ 0 then (f10_loansGiven_b36 rec K42 r0 v1 v2 v3 m)
  else (f10_loansGiven_b36 rec K42 r0 (v1 + (1 : Int32)) v2 v3 m))
def f10_loansGiven_b14 (K42 : Int32 → Int32 → lu_M → Option (Int32 × lu_M)) (r0 : Nat) : Nat → Int32 → Int32 → Int32 → lu_M → Option (Int32 × lu_M)
  | 0, _, _, _, _ => none
  | n + 1, v1, v2, v3, m => f10_loansGiven_b14B K42 (f10_loansGiven_b14 K42 r0 n) r0 v1 v2 v3 m
set_option maxRecDepth 20000 in
theorem w10_loansGiven_b14B  {G : lu_G} {ρ : Nat → Nat} {r0 : Nat} {K42 : Int32 → Int32 → lu_M → Option (Int32 × lu_M)} {rec : Int32 → Int32 → Int32 → lu_M → Option (Int32 × lu_M)} (X : lu_X G RX10 cX10_loansGiven 4 0 0) (hret : (lu_me G).sig.returnType = (some .int)) (hT_r0 : lu_TC.2 r0 = (5, 0, 0)) (hr_r0 : r0 < lu_TC.1) (hK42 : ∀ (v1 : Int32) (v2 : Int32) (m : lu_M), lu_Ab lu_TC G (lu_Q lu_TC G ρ lu_RVi lu_sn) (K42 v1 v2 m) 42 [(0, .ref (ρ r0)), (1, .int v1), (2, .int v2)] [] ρ 0 0 [] m) (hrec : ∀ (v1 : Int32) (v2 : Int32) (v3 : Int32) (m : lu_M), lu_Ab lu_TC G (lu_Q lu_TC G ρ lu_RVi lu_sn) (rec v1 v2 v3 m) 14 [(0, .ref (ρ r0)), (1, .int v1), (2, .int v2), (3, .int v3)] [] ρ 0 0 [] m) : ∀ (v1 : Int32) (v2 : Int32) (v3 : Int32) (m : lu_M), lu_Ab lu_TC G (lu_Q lu_TC G ρ lu_RVi lu_sn) (f10_loansGiven_b14B K42 rec r0 v1 v2 v3 m) 14 [(0, .ref (ρ r0)), (1, .int v1), (2, .int v2), (3, .int v3)] [] ρ 0 0 [] m := by
  intro v1 v2 v3 m
  unfold f10_loansGiven_b14B
  refine lu_iload_n X dX10_loansGiven_14 (pc2 := 15) rfl rfl 3 rfl ?_
  refine lu_aload_n X dX10_loansGiven_15 (pc2 := 16) rfl rfl 0 rfl ?_
  refine lu_get X fl10_72 rfl hT_r0 hr_r0 dX10_loansGiven_16 (pc2 := 19) rfl ?_
  refine lu_icmp_ge (tgt := 42) X dX10_loansGiven_19 (pc2 := 22) rfl (by decide) (fun _ => ?_) (fun _ => ?_)
  · exact lu_sub [0, 1, 2] rfl (hK42 v1 v2 m)
  · refine lu_aload_n X dX10_loansGiven_22 (pc2 := 23) rfl rfl 0 rfl ?_
    refine lu_getr (r2 := (r0 + 21)) X rfl fl10_52 rfl hT_r0 hr_r0 dX10_loansGiven_23 (pc2 := 26) rfl ?_
    refine lu_iload_n X dX10_loansGiven_26 (pc2 := 27) rfl rfl 2 rfl ?_
    refine lu_aald X rfl rfl (by decide) (by decide) ((koC_5_21 hT_r0 hr_r0).1) ((koC_5_21 hT_r0 hr_r0).2) dX10_loansGiven_27 (pc2 := 28) rfl (fun g1 => ?_)
    refine lu_iload_n X dX10_loansGiven_28 (pc2 := 29) rfl rfl 3 rfl ?_
    refine lu_iald X ((kaC_3_6_6 ((koC_5_21 hT_r0 hr_r0).1) ((koC_5_21 hT_r0 hr_r0).2) g1).1) ((kaC_3_6_6 ((koC_5_21 hT_r0 hr_r0).1) ((koC_5_21 hT_r0 hr_r0).2) g1).2) dX10_loansGiven_29 (pc2 := 30) rfl ?_
    refine lu_if_le (tgt := 36) X dX10_loansGiven_30 (pc2 := 33) rfl (by decide) (fun _ => ?_) (fun _ => ?_)
    · exact w10_loansGiven_b36 X hret hT_r0 hr_r0 hrec hK42 v1 v2 v3 m
    · refine lu_iinc (lv2 := [(1, .int (v1 + (1 : Int32))), (0, .ref (ρ r0)), (2, .int v2), (3, .int v3)]) X dX10_loansGiven_33 (pc2 := 36) rfl 1 rfl (lu_ii _ ic_1) (by decide) rfl ?_
      exact lu_sub [1, 0, 2, 3] rfl (w10_loansGiven_b36 X hret hT_r0 hr_r0 hrec hK42 (v1 + (1 : Int32)) v2 v3 m)
theorem w10_loansGiven_b14  {G : lu_G} {ρ : Nat → Nat} {r0 : Nat} {K42 : Int32 → Int32 → lu_M → Option (Int32 × lu_M)} (X : lu_X G RX10 cX10_loansGiven 4 0 0) (hret : (lu_me G).sig.returnType = (some .int)) (hT_r0 : lu_TC.2 r0 = (5, 0, 0)) (hr_r0 : r0 < lu_TC.1) (hK42 : ∀ (v1 : Int32) (v2 : Int32) (m : lu_M), lu_Ab lu_TC G (lu_Q lu_TC G ρ lu_RVi lu_sn) (K42 v1 v2 m) 42 [(0, .ref (ρ r0)), (1, .int v1), (2, .int v2)] [] ρ 0 0 [] m) : ∀ (n : Nat) (v1 : Int32) (v2 : Int32) (v3 : Int32) (m : lu_M), lu_Ab lu_TC G (lu_Q lu_TC G ρ lu_RVi lu_sn) (f10_loansGiven_b14 K42 r0 n v1 v2 v3 m) 14 [(0, .ref (ρ r0)), (1, .int v1), (2, .int v2), (3, .int v3)] [] ρ 0 0 [] m := by
  intro n
  induction n with
  | zero => intro v1 v2 v3 m; exact lu_none
  | succ n ih => intro v1 v2 v3 m; exact w10_loansGiven_b14B X hret hT_r0 hr_r0 hK42 ih v1 v2 v3 m
def f10_loansGiven_b42 (K4 : Int32 → Int32 → lu_M → Option (Int32 × lu_M)) (K48 : Int32 → lu_M → Option (Int32 × lu_M)) (r0 : Nat) (v1 : Int32) (v2 : Int32) (m : lu_M) : Option (Int32 × lu_M) :=
  K4 v1 (v2 + (1 : Int32)) m
set_option maxRecDepth 20000 in
theorem w10_loansGiven_b42  {G : lu_G} {ρ : Nat → Nat} {r0 : Nat} {K4 : Int32 → Int32 → lu_M → Option (Int32 × lu_M)} {K48 : Int32 → lu_M → Option (Int32 × lu_M)} (X : lu_X G RX10 cX10_loansGiven 4 0 0) (hret : (lu_me G).sig.returnType = (some .int)) (hT_r0 : lu_TC.2 r0 = (5, 0, 0)) (hr_r0 : r0 < lu_TC.1) (hK4 : ∀ (v1 : Int32) (v2 : Int32) (m : lu_M), lu_Ab lu_TC G (lu_Q lu_TC G ρ lu_RVi lu_sn) (K4 v1 v2 m) 4 [(0, .ref (ρ r0)), (1, .int v1), (2, .int v2)] [] ρ 0 0 [] m) (hK48 : ∀ (v1 : Int32) (m : lu_M), lu_Ab lu_TC G (lu_Q lu_TC G ρ lu_RVi lu_sn) (K48 v1 m) 48 [(1, .int v1)] [] ρ 0 0 [] m) : ∀ (v1 : Int32) (v2 : Int32) (m : lu_M), lu_Ab lu_TC G (lu_Q lu_TC G ρ lu_RVi lu_sn) (f10_loansGiven_b42 K4 K48 r0 v1 v2 m) 42 [(0, .ref (ρ r0)), (1, .int v1), (2, .int v2)] [] ρ 0 0 [] m := by
  intro v1 v2 m
  unfold f10_loansGiven_b42
  refine lu_iinc (lv2 := [(2, .int (v2 + (1 : Int32))), (0, .ref (ρ r0)), (1, .int v1)]) X dX10_loansGiven_42 (pc2 := 45) rfl 2 rfl (lu_ii _ ic_1) (by decide) rfl ?_
  refine lu_goto (tgt := 4) X dX10_loansGiven_45 (by decide) ?_
  exact lu_sub [1, 2, 0] rfl (hK4 v1 (v2 + (1 : Int32)) m)
def f10_loansGiven_b4B (K48 : Int32 → lu_M → Option (Int32 × lu_M)) (rec : Int32 → Int32 → lu_M → Option (Int32 × lu_M)) (r0 : Nat) (v1 : Int32) (v2 : Int32) (m : lu_M) : Option (Int32 × lu_M) :=
  if (m r0 0) ≤ v2 then (K48 v1 m)
  else (f10_loansGiven_b14 (f10_loansGiven_b42 rec K48 r0) r0 lu_fu v1 v2 (0 : Int32) m)
def f10_loansGiven_b4 (K48 : Int32 → lu_M → Option (Int32 × lu_M)) (r0 : Nat) : Nat → Int32 → Int32 → lu_M → Option (Int32 × lu_M)
  | 0, _, _, _ => none
  | n + 1, v1, v2, m => f10_loansGiven_b4B K48 (f10_loansGiven_b4 K48 r0 n) r0 v1 v2 m
set_option maxRecDepth 20000 in
theorem w10_loansGiven_b4B  {G : lu_G} {ρ : Nat → Nat} {r0 : Nat} {K48 : Int32 → lu_M → Option (Int32 × lu_M)} {rec : Int32 → Int32 → lu_M → Option (Int32 × lu_M)} (X : lu_X G RX10 cX10_loansGiven 4 0 0) (hret : (lu_me G).sig.returnType = (some .int)) (hT_r0 : lu_TC.2 r0 = (5, 0, 0)) (hr_r0 : r0 < lu_TC.1) (hK48 : ∀ (v1 : Int32) (m : lu_M), lu_Ab lu_TC G (lu_Q lu_TC G ρ lu_RVi lu_sn) (K48 v1 m) 48 [(1, .int v1)] [] ρ 0 0 [] m) (hrec : ∀ (v1 : Int32) (v2 : Int32) (m : lu_M), lu_Ab lu_TC G (lu_Q lu_TC G ρ lu_RVi lu_sn) (rec v1 v2 m) 4 [(0, .ref (ρ r0)), (1, .int v1), (2, .int v2)] [] ρ 0 0 [] m) : ∀ (v1 : Int32) (v2 : Int32) (m : lu_M), lu_Ab lu_TC G (lu_Q lu_TC G ρ lu_RVi lu_sn) (f10_loansGiven_b4B K48 rec r0 v1 v2 m) 4 [(0, .ref (ρ r0)), (1, .int v1), (2, .int v2)] [] ρ 0 0 [] m := by
  intro v1 v2 m
  unfold f10_loansGiven_b4B
  refine lu_iload_n X dX10_loansGiven_4 (pc2 := 5) rfl rfl 2 rfl ?_
  refine lu_aload_n X dX10_loansGiven_5 (pc2 := 6) rfl rfl 0 rfl ?_
  refine lu_get X fl10_72 rfl hT_r0 hr_r0 dX10_loansGiven_6 (pc2 := 9) rfl ?_
  refine lu_icmp_ge (tgt := 48) X dX10_loansGiven_9 (pc2 := 12) rfl (by decide) (fun _ => ?_) (fun _ => ?_)
  · exact lu_sub [1] rfl (hK48 v1 m)
  · refine lu_iconst X dX10_loansGiven_12 (pc2 := 13) rfl ic_0 ?_
    refine lu_istore_n (lv2 := [(3, .int (0 : Int32)), (0, .ref (ρ r0)), (1, .int v1), (2, .int v2)]) X dX10_loansGiven_13 (pc2 := 14) rfl rfl (by decide) rfl ?_
    exact lu_sub [1, 2, 3, 0] rfl (w10_loansGiven_b14 X hret hT_r0 hr_r0 (w10_loansGiven_b42 X hret hT_r0 hr_r0 hrec hK48) lu_fu v1 v2 (0 : Int32) m)
theorem w10_loansGiven_b4  {G : lu_G} {ρ : Nat → Nat} {r0 : Nat} {K48 : Int32 → lu_M → Option (Int32 × lu_M)} (X : lu_X G RX10 cX10_loansGiven 4 0 0) (hret : (lu_me G).sig.returnType = (some .int)) (hT_r0 : lu_TC.2 r0 = (5, 0, 0)) (hr_r0 : r0 < lu_TC.1) (hK48 : ∀ (v1 : Int32) (m : lu_M), lu_Ab lu_TC G (lu_Q lu_TC G ρ lu_RVi lu_sn) (K48 v1 m) 48 [(1, .int v1)] [] ρ 0 0 [] m) : ∀ (n : Nat) (v1 : Int32) (v2 : Int32) (m : lu_M), lu_Ab lu_TC G (lu_Q lu_TC G ρ lu_RVi lu_sn) (f10_loansGiven_b4 K48 r0 n v1 v2 m) 4 [(0, .ref (ρ r0)), (1, .int v1), (2, .int v2)] [] ρ 0 0 [] m := by
  intro n
  induction n with
  | zero => intro v1 v2 m; exact lu_none
  | succ n ih => intro v1 v2 m; exact w10_loansGiven_b4B X hret hT_r0 hr_r0 hK48 ih v1 v2 m
def f10_loansGiven_b48  (r0 : Nat) (v1 : Int32) (m : lu_M) : Option (Int32 × lu_M) :=
  some (v1, m)
set_option maxRecDepth 20000 in
theorem w10_loansGiven_b48  {G : lu_G} {ρ : Nat → Nat} {r0 : Nat}  (X : lu_X G RX10 cX10_loansGiven 4 0 0) (hret : (lu_me G).sig.returnType = (some .int)) (hT_r0 : lu_TC.2 r0 = (5, 0, 0)) (hr_r0 : r0 < lu_TC.1)  : ∀ (v1 : Int32) (m : lu_M), lu_Ab lu_TC G (lu_Q lu_TC G ρ lu_RVi lu_sn) (f10_loansGiven_b48 r0 v1 m) 48 [(1, .int v1)] [] ρ 0 0 [] m := by
  intro v1 m
  unfold f10_loansGiven_b48
  refine lu_iload_n X dX10_loansGiven_48 (pc2 := 49) rfl rfl 0 rfl ?_
  exact lu_iret X hret dX10_loansGiven_49
def f10_loansGiven (r0 : Nat) (m : lu_M) : Option (Int32 × lu_M) :=
  f10_loansGiven_b4 (f10_loansGiven_b48 r0) r0 lu_fu (0 : Int32) (0 : Int32) m
set_option maxRecDepth 20000 in
theorem c10_loansGiven (l : Launch) {r0 : Nat} (hT_r0 : lu_TC.2 r0 = (5, 0, 0)) (hr_r0 : r0 < lu_TC.1)  : lu_C lu_TC l yX10_loansGiven cX10_loansGiven 4 (some .int) 0 0 (fun ρ sa => [.ref (ρ r0)]) (f10_loansGiven r0) lu_RVi lu_sn := by
  refine lu_met (cls := RX10) rfl (by decide +kernel) (fun _ _ => Nat.le_of_ble_eq_true rfl) ?_
  intro G ρ m hl X hret
  subst hl
  change lu_Ab lu_TC G (lu_Q lu_TC G ρ lu_RVi lu_sn) (f10_loansGiven r0 m) 0 [(0, .ref (ρ r0))] [] ρ 0 0 [] m
  unfold f10_loansGiven
  refine lu_iconst X dX10_loansGiven_0 (pc2 := 1) rfl ic_0 ?_
  refine lu_istore_n (lv2 := [(1, .int (0 : Int32)), (0, .ref (ρ r0))]) X dX10_loansGiven_1 (pc2 := 2) rfl rfl (by decide) rfl ?_
  refine lu_iconst X dX10_loansGiven_2 (pc2 := 3) rfl ic_0 ?_
  refine lu_istore_n (lv2 := [(2, .int (0 : Int32)), (1, .int (0 : Int32)), (0, .ref (ρ r0))]) X dX10_loansGiven_3 (pc2 := 4) rfl rfl (by decide) rfl ?_
  exact lu_sub [2, 1, 0] rfl (w10_loansGiven_b4 X hret hT_r0 hr_r0 (w10_loansGiven_b48 X hret hT_r0 hr_r0) lu_fu (0 : Int32) (0 : Int32) m)

theorem dX10_drawn_0 : decode cX10_drawn 0 = .ok (.aload_n 0, 1) := by decide +kernel
theorem dX10_drawn_1 : decode cX10_drawn 1 = .ok (.aload_n 0, 1) := by decide +kernel
theorem dX10_drawn_2 : decode cX10_drawn 2 = .ok (.getfield 44, 3) := by decide +kernel
theorem dX10_drawn_5 : decode cX10_drawn 5 = .ok (.ldc 185, 2) := by decide +kernel
theorem dX10_drawn_7 : decode cX10_drawn 7 = .ok (.imul, 1) := by decide +kernel
theorem dX10_drawn_8 : decode cX10_drawn 8 = .ok (.sipush 12345, 3) := by decide +kernel
theorem dX10_drawn_11 : decode cX10_drawn 11 = .ok (.iadd, 1) := by decide +kernel
theorem dX10_drawn_12 : decode cX10_drawn 12 = .ok (.putfield 44, 3) := by decide +kernel
theorem dX10_drawn_15 : decode cX10_drawn 15 = .ok (.aload_n 0, 1) := by decide +kernel
theorem dX10_drawn_16 : decode cX10_drawn 16 = .ok (.getfield 44, 3) := by decide +kernel
theorem dX10_drawn_19 : decode cX10_drawn 19 = .ok (.bipush 16, 2) := by decide +kernel
theorem dX10_drawn_21 : decode cX10_drawn 21 = .ok (.iushr, 1) := by decide +kernel
theorem dX10_drawn_22 : decode cX10_drawn 22 = .ok (.aload_n 0, 1) := by decide +kernel
theorem dX10_drawn_23 : decode cX10_drawn 23 = .ok (.getfield 72, 3) := by decide +kernel
theorem dX10_drawn_26 : decode cX10_drawn 26 = .ok (.iconst 1, 1) := by decide +kernel
theorem dX10_drawn_27 : decode cX10_drawn 27 = .ok (.iadd, 1) := by decide +kernel
theorem dX10_drawn_28 : decode cX10_drawn 28 = .ok (.irem, 1) := by decide +kernel
theorem dX10_drawn_29 : decode cX10_drawn 29 = .ok (.ireturn, 1) := by decide +kernel
def f10_drawn (r0 : Nat) (m : lu_M) : Option (Int32 × lu_M) :=
  lu_nm (lu_st m r0 10 (((m r0 10) * (1103515245 : Int32)) + (12345 : Int32))) fun m1 =>
  lu_gd (decide (¬ ((m1 r0 0) + (1 : Int32)) = 0)) <|
  some (((((m1 r0 10).toUInt32 >>> ((16 : Int32).toUInt32 &&& Int32.toUInt32 31)).toInt32) - (((m1 r0 10).toUInt32 >>> ((16 : Int32).toUInt32 &&& Int32.toUInt32 31)).toInt32) / ((m1 r0 0) + (1 : Int32)) * ((m1 r0 0) + (1 : Int32))), m1)
set_option maxRecDepth 20000 in
theorem c10_drawn (l : Launch) {r0 : Nat} (hT_r0 : lu_TC.2 r0 = (5, 0, 0)) (hr_r0 : r0 < lu_TC.1)  : lu_C lu_TC l yX10_drawn cX10_drawn 1 (some .int) 0 0 (fun ρ sa => [.ref (ρ r0)]) (f10_drawn r0) lu_RVi lu_sn := by
  refine lu_met (cls := RX10) rfl (by decide +kernel) (fun _ _ => Nat.le_of_ble_eq_true rfl) ?_
  intro G ρ m hl X hret
  subst hl
  change lu_Ab lu_TC G (lu_Q lu_TC G ρ lu_RVi lu_sn) (f10_drawn r0 m) 0 [(0, .ref (ρ r0))] [] ρ 0 0 [] m
  unfold f10_drawn
  refine lu_aload_n X dX10_drawn_0 (pc2 := 1) rfl rfl 0 rfl ?_
  refine lu_aload_n X dX10_drawn_1 (pc2 := 2) rfl rfl 0 rfl ?_
  refine lu_get X fl10_44 rfl hT_r0 hr_r0 dX10_drawn_2 (pc2 := 5) rfl ?_
  refine lu_ldc X q928 dX10_drawn_5 (pc2 := 7) rfl ?_
  refine lu_imul X dX10_drawn_7 (pc2 := 8) rfl ?_
  refine lu_sipush X dX10_drawn_8 (pc2 := 11) rfl sp_12345 ?_
  refine lu_iadd X dX10_drawn_11 (pc2 := 12) rfl ?_
  refine lu_put X fl10_44 rfl (Or.inl (by decide)) rfl (by decide +kernel) hT_r0 hr_r0 dX10_drawn_12 (pc2 := 15) rfl (fun m1 => ?_)
  refine lu_aload_n X dX10_drawn_15 (pc2 := 16) rfl rfl 0 rfl ?_
  refine lu_get X fl10_44 rfl hT_r0 hr_r0 dX10_drawn_16 (pc2 := 19) rfl ?_
  refine lu_bipush X dX10_drawn_19 (pc2 := 21) rfl bp_16 ?_
  refine lu_iushr X dX10_drawn_21 (pc2 := 22) rfl ?_
  refine lu_aload_n X dX10_drawn_22 (pc2 := 23) rfl rfl 0 rfl ?_
  refine lu_get X fl10_72 rfl hT_r0 hr_r0 dX10_drawn_23 (pc2 := 26) rfl ?_
  refine lu_iconst X dX10_drawn_26 (pc2 := 27) rfl ic_1 ?_
  refine lu_iadd X dX10_drawn_27 (pc2 := 28) rfl ?_
  refine lu_irem X dX10_drawn_28 (pc2 := 29) rfl ?_
  exact lu_iret X hret dX10_drawn_29

theorem dX10_isUndoneBy_0 : decode cX10_isUndoneBy 0 = .ok (.iload_n 2, 1) := by decide +kernel
theorem dX10_isUndoneBy_1 : decode cX10_isUndoneBy 1 = .ok (.aload_n 0, 1) := by decide +kernel
theorem dX10_isUndoneBy_2 : decode cX10_isUndoneBy 2 = .ok (.invokevirtual 104, 3) := by decide +kernel
theorem dX10_isUndoneBy_5 : decode cX10_isUndoneBy 5 = .ok (.iadd, 1) := by decide +kernel
theorem dX10_isUndoneBy_6 : decode cX10_isUndoneBy 6 = .ok (.istore 4, 2) := by decide +kernel
theorem dX10_isUndoneBy_8 : decode cX10_isUndoneBy 8 = .ok (.iload 4, 2) := by decide +kernel
theorem dX10_isUndoneBy_10 : decode cX10_isUndoneBy 10 = .ok (.iload_n 3, 1) := by decide +kernel
theorem dX10_isUndoneBy_11 : decode cX10_isUndoneBy 11 = .ok (.if_icmp .gt 21, 3) := by decide +kernel
theorem dX10_isUndoneBy_14 : decode cX10_isUndoneBy 14 = .ok (.aload_n 0, 1) := by decide +kernel
theorem dX10_isUndoneBy_15 : decode cX10_isUndoneBy 15 = .ok (.iload 4, 2) := by decide +kernel
theorem dX10_isUndoneBy_17 : decode cX10_isUndoneBy 17 = .ok (.invokevirtual 111, 3) := by decide +kernel
theorem dX10_isUndoneBy_20 : decode cX10_isUndoneBy 20 = .ok (.iload_n 1, 1) := by decide +kernel
theorem dX10_isUndoneBy_21 : decode cX10_isUndoneBy 21 = .ok (.if_icmp .lt 5, 3) := by decide +kernel
theorem dX10_isUndoneBy_24 : decode cX10_isUndoneBy 24 = .ok (.iconst 1, 1) := by decide +kernel
theorem dX10_isUndoneBy_25 : decode cX10_isUndoneBy 25 = .ok (.ireturn, 1) := by decide +kernel
theorem dX10_isUndoneBy_26 : decode cX10_isUndoneBy 26 = .ok (.iinc 4 1, 3) := by decide +kernel
theorem dX10_isUndoneBy_29 : decode cX10_isUndoneBy 29 = .ok (.goto (-21), 3) := by decide +kernel
theorem dX10_isUndoneBy_32 : decode cX10_isUndoneBy 32 = .ok (.iconst 0, 1) := by decide +kernel
theorem dX10_isUndoneBy_33 : decode cX10_isUndoneBy 33 = .ok (.ireturn, 1) := by decide +kernel
def f10_isUndoneBy_b8B (K24 : lu_M → Option (Int32 × lu_M)) (K32 : lu_M → Option (Int32 × lu_M)) (rec : Int32 → lu_M → Option (Int32 × lu_M)) (r0 : Nat) (a1 : Int32) (a2 : Int32) (a3 : Int32) (v4 : Int32) (m : lu_M) : Option (Int32 × lu_M) :=
  if a3 < v4 then (K32 m)
  else (lu_bi (g3_pull r0 v4 m) fun x4 m5 =>
  if x4 < a1 then (rec (v4 + (1 : Int32)) m5)
  else (K24 m5))
def f10_isUndoneBy_b8 (K24 : lu_M → Option (Int32 × lu_M)) (K32 : lu_M → Option (Int32 × lu_M)) (r0 : Nat) (a1 : Int32) (a2 : Int32) (a3 : Int32) : Nat → Int32 → lu_M → Option (Int32 × lu_M)
  | 0, _, _ => none
  | n + 1, v4, m => f10_isUndoneBy_b8B K24 K32 (f10_isUndoneBy_b8 K24 K32 r0 a1 a2 a3 n) r0 a1 a2 a3 v4 m
set_option maxRecDepth 20000 in
theorem w10_isUndoneBy_b8B  {G : lu_G} {ρ : Nat → Nat} {r0 : Nat} {a1 : Int32} {a2 : Int32} {a3 : Int32} {K24 : lu_M → Option (Int32 × lu_M)} {K32 : lu_M → Option (Int32 × lu_M)} {rec : Int32 → lu_M → Option (Int32 × lu_M)} (X : lu_X G RX10 cX10_isUndoneBy 5 3 63) (hret : (lu_me G).sig.returnType = (some .boolean)) (hT_r0 : lu_TC.2 r0 = (10, 0, 0)) (hr_r0 : r0 < lu_TC.1) (hK24 : ∀  (m : lu_M), lu_Ab lu_TC G (lu_Q lu_TC G ρ lu_RVi lu_sn) (K24 m) 24 [] [] ρ 0 0 [] m) (hK32 : ∀  (m : lu_M), lu_Ab lu_TC G (lu_Q lu_TC G ρ lu_RVi lu_sn) (K32 m) 32 [] [] ρ 0 0 [] m) (hrec : ∀ (v4 : Int32) (m : lu_M), lu_Ab lu_TC G (lu_Q lu_TC G ρ lu_RVi lu_sn) (rec v4 m) 8 [(0, .ref (ρ r0)), (1, .int a1), (3, .int a3), (4, .int v4)] [] ρ 0 0 [] m) : ∀ (v4 : Int32) (m : lu_M), lu_Ab lu_TC G (lu_Q lu_TC G ρ lu_RVi lu_sn) (f10_isUndoneBy_b8B K24 K32 rec r0 a1 a2 a3 v4 m) 8 [(0, .ref (ρ r0)), (1, .int a1), (3, .int a3), (4, .int v4)] [] ρ 0 0 [] m := by
  intro v4 m
  unfold f10_isUndoneBy_b8B
  refine lu_iload X dX10_isUndoneBy_8 (pc2 := 10) rfl 3 rfl ?_
  refine lu_iload_n X dX10_isUndoneBy_10 (pc2 := 11) rfl rfl 2 rfl ?_
  refine lu_icmp_gt (tgt := 32) X dX10_isUndoneBy_11 (pc2 := 14) rfl (by decide) (fun _ => ?_) (fun _ => ?_)
  · exact lu_sub [] rfl (hK32 m)
  · refine lu_aload_n X dX10_isUndoneBy_14 (pc2 := 15) rfl rfl 0 rfl ?_
    refine lu_iload X dX10_isUndoneBy_15 (pc2 := 17) rfl 3 rfl ?_
    refine v3_pull X q477 hT_r0 hr_r0 rfl (Nat.le_of_ble_eq_true rfl) (Nat.le_of_ble_eq_true rfl) (Nat.le_of_ble_eq_true rfl) ⟨Nat.zero_le _, Nat.zero_le _⟩ dX10_isUndoneBy_17 (pc2 := 20) rfl rfl (fun x4 m5 => ?_)
    refine lu_iload_n X dX10_isUndoneBy_20 (pc2 := 21) rfl rfl 1 rfl ?_
    refine lu_icmp_lt (tgt := 26) X dX10_isUndoneBy_21 (pc2 := 24) rfl (by decide) (fun _ => ?_) (fun _ => ?_)
    · refine lu_iinc (lv2 := [(4, .int (v4 + (1 : Int32))), (0, .ref (ρ r0)), (1, .int a1), (3, .int a3)]) X dX10_isUndoneBy_26 (pc2 := 29) rfl 3 rfl (lu_ii _ ic_1) (by decide) rfl ?_
      refine lu_goto (tgt := 8) X dX10_isUndoneBy_29 (by decide) ?_
      exact lu_sub [1, 2, 3, 0] rfl (hrec (v4 + (1 : Int32)) m5)
    · exact lu_sub [] rfl (hK24 m5)
theorem w10_isUndoneBy_b8  {G : lu_G} {ρ : Nat → Nat} {r0 : Nat} {a1 : Int32} {a2 : Int32} {a3 : Int32} {K24 : lu_M → Option (Int32 × lu_M)} {K32 : lu_M → Option (Int32 × lu_M)} (X : lu_X G RX10 cX10_isUndoneBy 5 3 63) (hret : (lu_me G).sig.returnType = (some .boolean)) (hT_r0 : lu_TC.2 r0 = (10, 0, 0)) (hr_r0 : r0 < lu_TC.1) (hK24 : ∀  (m : lu_M), lu_Ab lu_TC G (lu_Q lu_TC G ρ lu_RVi lu_sn) (K24 m) 24 [] [] ρ 0 0 [] m) (hK32 : ∀  (m : lu_M), lu_Ab lu_TC G (lu_Q lu_TC G ρ lu_RVi lu_sn) (K32 m) 32 [] [] ρ 0 0 [] m) : ∀ (n : Nat) (v4 : Int32) (m : lu_M), lu_Ab lu_TC G (lu_Q lu_TC G ρ lu_RVi lu_sn) (f10_isUndoneBy_b8 K24 K32 r0 a1 a2 a3 n v4 m) 8 [(0, .ref (ρ r0)), (1, .int a1), (3, .int a3), (4, .int v4)] [] ρ 0 0 [] m := by
  intro n
  induction n with
  | zero => intro v4 m; exact lu_none
  | succ n ih => intro v4 m; exact w10_isUndoneBy_b8B X hret hT_r0 hr_r0 hK24 hK32 ih v4 m
def f10_isUndoneBy_b24  (r0 : Nat) (a1 : Int32) (a2 : Int32) (a3 : Int32)  (m : lu_M) : Option (Int32 × lu_M) :=
  some ((1 : Int32), m)
set_option maxRecDepth 20000 in
theorem w10_isUndoneBy_b24  {G : lu_G} {ρ : Nat → Nat} {r0 : Nat} {a1 : Int32} {a2 : Int32} {a3 : Int32}  (X : lu_X G RX10 cX10_isUndoneBy 5 3 63) (hret : (lu_me G).sig.returnType = (some .boolean)) (hT_r0 : lu_TC.2 r0 = (10, 0, 0)) (hr_r0 : r0 < lu_TC.1)  : ∀  (m : lu_M), lu_Ab lu_TC G (lu_Q lu_TC G ρ lu_RVi lu_sn) (f10_isUndoneBy_b24 r0 a1 a2 a3 m) 24 [] [] ρ 0 0 [] m := by
  intro  m
  unfold f10_isUndoneBy_b24
  refine lu_iconst X dX10_isUndoneBy_24 (pc2 := 25) rfl ic_1 ?_
  exact lu_zret X hret (by decide) dX10_isUndoneBy_25
def f10_isUndoneBy_b32  (r0 : Nat) (a1 : Int32) (a2 : Int32) (a3 : Int32)  (m : lu_M) : Option (Int32 × lu_M) :=
  some ((0 : Int32), m)
set_option maxRecDepth 20000 in
theorem w10_isUndoneBy_b32  {G : lu_G} {ρ : Nat → Nat} {r0 : Nat} {a1 : Int32} {a2 : Int32} {a3 : Int32}  (X : lu_X G RX10 cX10_isUndoneBy 5 3 63) (hret : (lu_me G).sig.returnType = (some .boolean)) (hT_r0 : lu_TC.2 r0 = (10, 0, 0)) (hr_r0 : r0 < lu_TC.1)  : ∀  (m : lu_M), lu_Ab lu_TC G (lu_Q lu_TC G ρ lu_RVi lu_sn) (f10_isUndoneBy_b32 r0 a1 a2 a3 m) 32 [] [] ρ 0 0 [] m := by
  intro  m
  unfold f10_isUndoneBy_b32
  refine lu_iconst X dX10_isUndoneBy_32 (pc2 := 33) rfl ic_0 ?_
  exact lu_zret X hret (by decide) dX10_isUndoneBy_33
def f10_isUndoneBy (r0 : Nat) (a1 : Int32) (a2 : Int32) (a3 : Int32) (m : lu_M) : Option (Int32 × lu_M) :=
  lu_bi (g3_term r0 m) fun x1 m2 =>
  lu_nm ((a2 + x1)) fun x3 =>
  f10_isUndoneBy_b8 (f10_isUndoneBy_b24 r0 a1 a2 a3) (f10_isUndoneBy_b32 r0 a1 a2 a3) r0 a1 a2 a3 lu_fu x3 m2
set_option maxRecDepth 20000 in
theorem c10_isUndoneBy (l : Launch) {r0 : Nat} (hT_r0 : lu_TC.2 r0 = (10, 0, 0)) (hr_r0 : r0 < lu_TC.1) (a1 : Int32) (a2 : Int32) (a3 : Int32) : lu_C lu_TC l yX10_isUndoneBy cX10_isUndoneBy 5 (some .boolean) 3 63 (fun ρ sa => [.ref (ρ r0), .int a1, .int a2, .int a3]) (f10_isUndoneBy r0 a1 a2 a3) lu_RVi lu_sn := by
  refine lu_met (cls := RX10) rfl (by decide +kernel) (fun _ _ => Nat.le_of_ble_eq_true rfl) ?_
  intro G ρ m hl X hret
  subst hl
  change lu_Ab lu_TC G (lu_Q lu_TC G ρ lu_RVi lu_sn) (f10_isUndoneBy r0 a1 a2 a3 m) 0 [(0, .ref (ρ r0)), (1, .int a1), (2, .int a2), (3, .int a3)] [] ρ 0 0 [] m
  unfold f10_isUndoneBy
  refine lu_iload_n X dX10_isUndoneBy_0 (pc2 := 1) rfl rfl 2 rfl ?_
  refine lu_aload_n X dX10_isUndoneBy_1 (pc2 := 2) rfl rfl 0 rfl ?_
  refine v3_term X q503 hT_r0 hr_r0 rfl (Nat.le_of_ble_eq_true rfl) (Nat.le_of_ble_eq_true rfl) (Nat.le_of_ble_eq_true rfl) ⟨Nat.zero_le _, Nat.zero_le _⟩ dX10_isUndoneBy_2 (pc2 := 5) rfl rfl (fun x1 m2 => ?_)
  refine lu_iadd X dX10_isUndoneBy_5 (pc2 := 6) rfl ?_
  refine lu_topi (fun x3 => ?_)
  refine lu_istore (lv2 := [(4, .int x3), (0, .ref (ρ r0)), (1, .int a1), (2, .int a2), (3, .int a3)]) X dX10_isUndoneBy_6 (pc2 := 8) rfl (by decide) rfl ?_
  exact lu_sub [1, 2, 4, 0] rfl (w10_isUndoneBy_b8 X hret hT_r0 hr_r0 (w10_isUndoneBy_b24 X hret hT_r0 hr_r0) (w10_isUndoneBy_b32 X hret hT_r0 hr_r0) lu_fu x3 m2)

theorem dX10_wrongReports_0 : decode cX10_wrongReports 0 = .ok (.iconst 0, 1) := by decide +kernel
theorem dX10_wrongReports_1 : decode cX10_wrongReports 1 = .ok (.istore_n 2, 1) := by decide +kernel
theorem dX10_wrongReports_2 : decode cX10_wrongReports 2 = .ok (.iconst 0, 1) := by decide +kernel
theorem dX10_wrongReports_3 : decode cX10_wrongReports 3 = .ok (.istore_n 3, 1) := by decide +kernel
theorem dX10_wrongReports_4 : decode cX10_wrongReports 4 = .ok (.iload_n 3, 1) := by decide +kernel
theorem dX10_wrongReports_5 : decode cX10_wrongReports 5 = .ok (.aload_n 0, 1) := by decide +kernel
theorem dX10_wrongReports_6 : decode cX10_wrongReports 6 = .ok (.getfield 87, 3) := by decide +kernel
theorem dX10_wrongReports_9 : decode cX10_wrongReports 9 = .ok (.if_icmp .ge 67, 3) := by decide +kernel
theorem dX10_wrongReports_12 : decode cX10_wrongReports 12 = .ok (.aload_n 1, 1) := by decide +kernel
theorem dX10_wrongReports_13 : decode cX10_wrongReports 13 = .ok (.aload_n 0, 1) := by decide +kernel
theorem dX10_wrongReports_14 : decode cX10_wrongReports 14 = .ok (.getfield 49, 3) := by decide +kernel
theorem dX10_wrongReports_17 : decode cX10_wrongReports 17 = .ok (.iload_n 3, 1) := by decide +kernel
theorem dX10_wrongReports_18 : decode cX10_wrongReports 18 = .ok (.aaload, 1) := by decide +kernel
theorem dX10_wrongReports_19 : decode cX10_wrongReports 19 = .ok (.iconst 0, 1) := by decide +kernel
theorem dX10_wrongReports_20 : decode cX10_wrongReports 20 = .ok (.iaload, 1) := by decide +kernel
theorem dX10_wrongReports_21 : decode cX10_wrongReports 21 = .ok (.aload_n 0, 1) := by decide +kernel
theorem dX10_wrongReports_22 : decode cX10_wrongReports 22 = .ok (.getfield 49, 3) := by decide +kernel
theorem dX10_wrongReports_25 : decode cX10_wrongReports 25 = .ok (.iload_n 3, 1) := by decide +kernel
theorem dX10_wrongReports_26 : decode cX10_wrongReports 26 = .ok (.aaload, 1) := by decide +kernel
theorem dX10_wrongReports_27 : decode cX10_wrongReports 27 = .ok (.iconst 1, 1) := by decide +kernel
theorem dX10_wrongReports_28 : decode cX10_wrongReports 28 = .ok (.iaload, 1) := by decide +kernel
theorem dX10_wrongReports_29 : decode cX10_wrongReports 29 = .ok (.aload_n 0, 1) := by decide +kernel
theorem dX10_wrongReports_30 : decode cX10_wrongReports 30 = .ok (.getfield 49, 3) := by decide +kernel
theorem dX10_wrongReports_33 : decode cX10_wrongReports 33 = .ok (.iload_n 3, 1) := by decide +kernel
theorem dX10_wrongReports_34 : decode cX10_wrongReports 34 = .ok (.aaload, 1) := by decide +kernel
theorem dX10_wrongReports_35 : decode cX10_wrongReports 35 = .ok (.iconst 2, 1) := by decide +kernel
theorem dX10_wrongReports_36 : decode cX10_wrongReports 36 = .ok (.iaload, 1) := by decide +kernel
theorem dX10_wrongReports_37 : decode cX10_wrongReports 37 = .ok (.invokestatic 186, 3) := by decide +kernel
theorem dX10_wrongReports_40 : decode cX10_wrongReports 40 = .ok (.istore 4, 2) := by decide +kernel
theorem dX10_wrongReports_42 : decode cX10_wrongReports 42 = .ok (.iload 4, 2) := by decide +kernel
theorem dX10_wrongReports_44 : decode cX10_wrongReports 44 = .ok (.aload_n 0, 1) := by decide +kernel
theorem dX10_wrongReports_45 : decode cX10_wrongReports 45 = .ok (.getfield 49, 3) := by decide +kernel
theorem dX10_wrongReports_48 : decode cX10_wrongReports 48 = .ok (.iload_n 3, 1) := by decide +kernel
theorem dX10_wrongReports_49 : decode cX10_wrongReports 49 = .ok (.aaload, 1) := by decide +kernel
theorem dX10_wrongReports_50 : decode cX10_wrongReports 50 = .ok (.iconst 3, 1) := by decide +kernel
theorem dX10_wrongReports_51 : decode cX10_wrongReports 51 = .ok (.iaload, 1) := by decide +kernel
theorem dX10_wrongReports_52 : decode cX10_wrongReports 52 = .ok (.iconst 1, 1) := by decide +kernel
theorem dX10_wrongReports_53 : decode cX10_wrongReports 53 = .ok (.if_icmp .ne 7, 3) := by decide +kernel
theorem dX10_wrongReports_56 : decode cX10_wrongReports 56 = .ok (.iconst 1, 1) := by decide +kernel
theorem dX10_wrongReports_57 : decode cX10_wrongReports 57 = .ok (.goto 4, 3) := by decide +kernel
theorem dX10_wrongReports_60 : decode cX10_wrongReports 60 = .ok (.iconst 0, 1) := by decide +kernel
theorem dX10_wrongReports_61 : decode cX10_wrongReports 61 = .ok (.if_icmp .eq 9, 3) := by decide +kernel
theorem dX10_wrongReports_64 : decode cX10_wrongReports 64 = .ok (.iload_n 2, 1) := by decide +kernel
theorem dX10_wrongReports_65 : decode cX10_wrongReports 65 = .ok (.iconst 1, 1) := by decide +kernel
theorem dX10_wrongReports_66 : decode cX10_wrongReports 66 = .ok (.iload_n 3, 1) := by decide +kernel
theorem dX10_wrongReports_67 : decode cX10_wrongReports 67 = .ok (.ishl, 1) := by decide +kernel
theorem dX10_wrongReports_68 : decode cX10_wrongReports 68 = .ok (.ior, 1) := by decide +kernel
theorem dX10_wrongReports_69 : decode cX10_wrongReports 69 = .ok (.istore_n 2, 1) := by decide +kernel
theorem dX10_wrongReports_70 : decode cX10_wrongReports 70 = .ok (.iinc 3 1, 3) := by decide +kernel
theorem dX10_wrongReports_73 : decode cX10_wrongReports 73 = .ok (.goto (-69), 3) := by decide +kernel
theorem dX10_wrongReports_76 : decode cX10_wrongReports 76 = .ok (.iload_n 2, 1) := by decide +kernel
theorem dX10_wrongReports_77 : decode cX10_wrongReports 77 = .ok (.ireturn, 1) := by decide +kernel
def f10_wrongReports_b70 (K4 : Int32 → Int32 → lu_M → Option (Int32 × lu_M)) (K76 : Int32 → lu_M → Option (Int32 × lu_M)) (r0 : Nat) (r1 : Nat) (v2 : Int32) (v3 : Int32) (m : lu_M) : Option (Int32 × lu_M) :=
  K4 v2 (v3 + (1 : Int32)) m
set_option maxRecDepth 20000 in
theorem w10_wrongReports_b70  {G : lu_G} {ρ : Nat → Nat} {r0 : Nat} {r1 : Nat} {K4 : Int32 → Int32 → lu_M → Option (Int32 × lu_M)} {K76 : Int32 → lu_M → Option (Int32 × lu_M)} (X : lu_X G RX10 cX10_wrongReports 5 4 87) (hret : (lu_me G).sig.returnType = (some .int)) (hT_r0 : lu_TC.2 r0 = (5, 0, 0)) (hr_r0 : r0 < lu_TC.1) (hT_r1 : lu_TC.2 r1 = (10, 0, 0)) (hr_r1 : r1 < lu_TC.1) (hK4 : ∀ (v2 : Int32) (v3 : Int32) (m : lu_M), lu_Ab lu_TC G (lu_Q lu_TC G ρ lu_RVi lu_sn) (K4 v2 v3 m) 4 [(0, .ref (ρ r0)), (1, .ref (ρ r1)), (2, .int v2), (3, .int v3)] [] ρ 0 0 [] m) (hK76 : ∀ (v2 : Int32) (m : lu_M), lu_Ab lu_TC G (lu_Q lu_TC G ρ lu_RVi lu_sn) (K76 v2 m) 76 [(2, .int v2)] [] ρ 0 0 [] m) : ∀ (v2 : Int32) (v3 : Int32) (m : lu_M), lu_Ab lu_TC G (lu_Q lu_TC G ρ lu_RVi lu_sn) (f10_wrongReports_b70 K4 K76 r0 r1 v2 v3 m) 70 [(0, .ref (ρ r0)), (1, .ref (ρ r1)), (2, .int v2), (3, .int v3)] [] ρ 0 0 [] m := by
  intro v2 v3 m
  unfold f10_wrongReports_b70
  refine lu_iinc (lv2 := [(3, .int (v3 + (1 : Int32))), (0, .ref (ρ r0)), (1, .ref (ρ r1)), (2, .int v2)]) X dX10_wrongReports_70 (pc2 := 73) rfl 3 rfl (lu_ii _ ic_1) (by decide) rfl ?_
  refine lu_goto (tgt := 4) X dX10_wrongReports_73 (by decide) ?_
  exact lu_sub [1, 2, 3, 0] rfl (hK4 v2 (v3 + (1 : Int32)) m)
def f10_wrongReports_b61 (K4 : Int32 → Int32 → lu_M → Option (Int32 × lu_M)) (K76 : Int32 → lu_M → Option (Int32 × lu_M)) (r0 : Nat) (r1 : Nat) (v2 : Int32) (v3 : Int32) (s0 : Int32) (s1 : Int32) (m : lu_M) : Option (Int32 × lu_M) :=
  if s1 = s0 then (f10_wrongReports_b70 K4 K76 r0 r1 v2 v3 m)
  else (lu_nm ((v2 ||| ((1 : Int32) <<< (v3 &&& 31)))) fun x7 =>
  f10_wrongReports_b70 K4 K76 r0 r1 x7 v3 m)
set_option maxRecDepth 20000 in
theorem w10_wrongReports_b61  {G : lu_G} {ρ : Nat → Nat} {r0 : Nat} {r1 : Nat} {K4 : Int32 → Int32 → lu_M → Option (Int32 × lu_M)} {K76 : Int32 → lu_M → Option (Int32 × lu_M)} (X : lu_X G RX10 cX10_wrongReports 5 4 87) (hret : (lu_me G).sig.returnType = (some .int)) (hT_r0 : lu_TC.2 r0 = (5, 0, 0)) (hr_r0 : r0 < lu_TC.1) (hT_r1 : lu_TC.2 r1 = (10, 0, 0)) (hr_r1 : r1 < lu_TC.1) (hK4 : ∀ (v2 : Int32) (v3 : Int32) (m : lu_M), lu_Ab lu_TC G (lu_Q lu_TC G ρ lu_RVi lu_sn) (K4 v2 v3 m) 4 [(0, .ref (ρ r0)), (1, .ref (ρ r1)), (2, .int v2), (3, .int v3)] [] ρ 0 0 [] m) (hK76 : ∀ (v2 : Int32) (m : lu_M), lu_Ab lu_TC G (lu_Q lu_TC G ρ lu_RVi lu_sn) (K76 v2 m) 76 [(2, .int v2)] [] ρ 0 0 [] m) : ∀ (v2 : Int32) (v3 : Int32) (s0 : Int32) (s1 : Int32) (m : lu_M), lu_Ab lu_TC G (lu_Q lu_TC G ρ lu_RVi lu_sn) (f10_wrongReports_b61 K4 K76 r0 r1 v2 v3 s0 s1 m) 61 [(0, .ref (ρ r0)), (1, .ref (ρ r1)), (2, .int v2), (3, .int v3)] [.int s0, .int s1] ρ 0 0 [] m := by
  intro v2 v3 s0 s1 m
  unfold f10_wrongReports_b61
  refine lu_icmp_eq (tgt := 70) X dX10_wrongReports_61 (pc2 := 64) rfl (by decide) (fun _ => ?_) (fun _ => ?_)
  · exact w10_wrongReports_b70 X hret hT_r0 hr_r0 hT_r1 hr_r1 hK4 hK76 v2 v3 m
  · refine lu_iload_n X dX10_wrongReports_64 (pc2 := 65) rfl rfl 2 rfl ?_
    refine lu_iconst X dX10_wrongReports_65 (pc2 := 66) rfl ic_1 ?_
    refine lu_iload_n X dX10_wrongReports_66 (pc2 := 67) rfl rfl 3 rfl ?_
    refine lu_ishl X dX10_wrongReports_67 (pc2 := 68) rfl ?_
    refine lu_ior X dX10_wrongReports_68 (pc2 := 69) rfl ?_
    refine lu_topi (fun x7 => ?_)
    refine lu_istore_n (lv2 := [(2, .int x7), (0, .ref (ρ r0)), (1, .ref (ρ r1)), (3, .int v3)]) X dX10_wrongReports_69 (pc2 := 70) rfl rfl (by decide) rfl ?_
    exact lu_sub [1, 2, 0, 3] rfl (w10_wrongReports_b70 X hret hT_r0 hr_r0 hT_r1 hr_r1 hK4 hK76 x7 v3 m)
def f10_wrongReports_b4B (K76 : Int32 → lu_M → Option (Int32 × lu_M)) (rec : Int32 → Int32 → lu_M → Option (Int32 × lu_M)) (r0 : Nat) (r1 : Nat) (v2 : Int32) (v3 : Int32) (m : lu_M) : Option (Int32 × lu_M) :=
  if (m r0 11) ≤ v3 then (K76 v2 m)
  else (lu_gd (lu_ib v3 6) <|
  lu_gd (lu_ib v3 6) <|
  lu_gd (lu_ib v3 6) <|
  lu_bi (f10_isUndoneBy r1 (m ((r0 + 14) + 1 + v3.toNatClampNeg) 0) (m ((r0 + 14) + 1 + v3.toNatClampNeg) 1) (m ((r0 + 14) + 1 + v3.toNatClampNeg) 2) m) fun x4 m5 =>
  lu_gd (lu_ib v3 6) <|
  if (m5 ((r0 + 14) + 1 + v3.toNatClampNeg) 3) = (1 : Int32) then (f10_wrongReports_b61 rec K76 r0 r1 v2 v3 (1 : Int32) x4 m5)
  else (f10_wrongReports_b61 rec K76 r0 r1 v2 v3 (0 : Int32) x4 m5))
def f10_wrongReports_b4 (K76 : Int32 → lu_M → Option (Int32 × lu_M)) (r0 : Nat) (r1 : Nat) : Nat → Int32 → Int32 → lu_M → Option (Int32 × lu_M)
  | 0, _, _, _ => none
  | n + 1, v2, v3, m => f10_wrongReports_b4B K76 (f10_wrongReports_b4 K76 r0 r1 n) r0 r1 v2 v3 m
set_option maxRecDepth 20000 in
theorem w10_wrongReports_b4B  {G : lu_G} {ρ : Nat → Nat} {r0 : Nat} {r1 : Nat} {K76 : Int32 → lu_M → Option (Int32 × lu_M)} {rec : Int32 → Int32 → lu_M → Option (Int32 × lu_M)} (X : lu_X G RX10 cX10_wrongReports 5 4 87) (hret : (lu_me G).sig.returnType = (some .int)) (hT_r0 : lu_TC.2 r0 = (5, 0, 0)) (hr_r0 : r0 < lu_TC.1) (hT_r1 : lu_TC.2 r1 = (10, 0, 0)) (hr_r1 : r1 < lu_TC.1) (hK76 : ∀ (v2 : Int32) (m : lu_M), lu_Ab lu_TC G (lu_Q lu_TC G ρ lu_RVi lu_sn) (K76 v2 m) 76 [(2, .int v2)] [] ρ 0 0 [] m) (hrec : ∀ (v2 : Int32) (v3 : Int32) (m : lu_M), lu_Ab lu_TC G (lu_Q lu_TC G ρ lu_RVi lu_sn) (rec v2 v3 m) 4 [(0, .ref (ρ r0)), (1, .ref (ρ r1)), (2, .int v2), (3, .int v3)] [] ρ 0 0 [] m) : ∀ (v2 : Int32) (v3 : Int32) (m : lu_M), lu_Ab lu_TC G (lu_Q lu_TC G ρ lu_RVi lu_sn) (f10_wrongReports_b4B K76 rec r0 r1 v2 v3 m) 4 [(0, .ref (ρ r0)), (1, .ref (ρ r1)), (2, .int v2), (3, .int v3)] [] ρ 0 0 [] m := by
  intro v2 v3 m
  unfold f10_wrongReports_b4B
  refine lu_iload_n X dX10_wrongReports_4 (pc2 := 5) rfl rfl 3 rfl ?_
  refine lu_aload_n X dX10_wrongReports_5 (pc2 := 6) rfl rfl 0 rfl ?_
  refine lu_get X fl10_87 rfl hT_r0 hr_r0 dX10_wrongReports_6 (pc2 := 9) rfl ?_
  refine lu_icmp_ge (tgt := 76) X dX10_wrongReports_9 (pc2 := 12) rfl (by decide) (fun _ => ?_) (fun _ => ?_)
  · exact lu_sub [2] rfl (hK76 v2 m)
  · refine lu_aload_n X dX10_wrongReports_12 (pc2 := 13) rfl rfl 1 rfl ?_
    refine lu_aload_n X dX10_wrongReports_13 (pc2 := 14) rfl rfl 0 rfl ?_
    refine lu_getr (r2 := (r0 + 14)) X rfl fl10_49 rfl hT_r0 hr_r0 dX10_wrongReports_14 (pc2 := 17) rfl ?_
    refine lu_iload_n X dX10_wrongReports_17 (pc2 := 18) rfl rfl 3 rfl ?_
    refine lu_aald X rfl rfl (by decide) (by decide) ((koC_5_14 hT_r0 hr_r0).1) ((koC_5_14 hT_r0 hr_r0).2) dX10_wrongReports_18 (pc2 := 19) rfl (fun g1 => ?_)
    refine lu_iconst X dX10_wrongReports_19 (pc2 := 20) rfl ic_0 ?_
    refine lu_ialdK (q := 0) X (by decide) ((kaC_3_6_4 ((koC_5_14 hT_r0 hr_r0).1) ((koC_5_14 hT_r0 hr_r0).2) g1).1) ((kaC_3_6_4 ((koC_5_14 hT_r0 hr_r0).1) ((koC_5_14 hT_r0 hr_r0).2) g1).2) dX10_wrongReports_20 (pc2 := 21) rfl ?_
    refine lu_aload_n X dX10_wrongReports_21 (pc2 := 22) rfl rfl 0 rfl ?_
    refine lu_getr (r2 := (r0 + 14)) X rfl fl10_49 rfl hT_r0 hr_r0 dX10_wrongReports_22 (pc2 := 25) rfl ?_
    refine lu_iload_n X dX10_wrongReports_25 (pc2 := 26) rfl rfl 3 rfl ?_
    refine lu_aald X rfl rfl (by decide) (by decide) ((koC_5_14 hT_r0 hr_r0).1) ((koC_5_14 hT_r0 hr_r0).2) dX10_wrongReports_26 (pc2 := 27) rfl (fun g2 => ?_)
    refine lu_iconst X dX10_wrongReports_27 (pc2 := 28) rfl ic_1 ?_
    refine lu_ialdK (q := 1) X (by decide) ((kaC_3_6_4 ((koC_5_14 hT_r0 hr_r0).1) ((koC_5_14 hT_r0 hr_r0).2) g2).1) ((kaC_3_6_4 ((koC_5_14 hT_r0 hr_r0).1) ((koC_5_14 hT_r0 hr_r0).2) g2).2) dX10_wrongReports_28 (pc2 := 29) rfl ?_
    refine lu_aload_n X dX10_wrongReports_29 (pc2 := 30) rfl rfl 0 rfl ?_
    refine lu_getr (r2 := (r0 + 14)) X rfl fl10_49 rfl hT_r0 hr_r0 dX10_wrongReports_30 (pc2 := 33) rfl ?_
    refine lu_iload_n X dX10_wrongReports_33 (pc2 := 34) rfl rfl 3 rfl ?_
    refine lu_aald X rfl rfl (by decide) (by decide) ((koC_5_14 hT_r0 hr_r0).1) ((koC_5_14 hT_r0 hr_r0).2) dX10_wrongReports_34 (pc2 := 35) rfl (fun g3 => ?_)
    refine lu_iconst X dX10_wrongReports_35 (pc2 := 36) rfl ic_2 ?_
    refine lu_ialdK (q := 2) X (by decide) ((kaC_3_6_4 ((koC_5_14 hT_r0 hr_r0).1) ((koC_5_14 hT_r0 hr_r0).2) g3).1) ((kaC_3_6_4 ((koC_5_14 hT_r0 hr_r0).1) ((koC_5_14 hT_r0 hr_r0).2) g3).2) dX10_wrongReports_36 (pc2 := 37) rfl ?_
    refine lu_invSi X (c10_isUndoneBy _ hT_r1 hr_r1 (m ((r0 + 14) + 1 + v3.toNatClampNeg) 0) (m ((r0 + 14) + 1 + v3.toNatClampNeg) 1) (m ((r0 + 14) + 1 + v3.toNatClampNeg) 2)) rfl q909 mvS_10_isUndoneBy rfl rfl (Nat.le_of_ble_eq_true rfl) (Nat.le_of_ble_eq_true rfl) (Nat.le_of_ble_eq_true rfl) ⟨Nat.zero_le _, Nat.zero_le _⟩ dX10_wrongReports_37 (pc2 := 40) rfl rfl (fun x4 m5 => ?_)
    refine lu_istore (lv2 := [(4, .int x4), (0, .ref (ρ r0)), (1, .ref (ρ r1)), (2, .int v2), (3, .int v3)]) X dX10_wrongReports_40 (pc2 := 42) rfl (by decide) rfl ?_
    refine lu_iload X dX10_wrongReports_42 (pc2 := 44) rfl 0 rfl ?_
    refine lu_aload_n X dX10_wrongReports_44 (pc2 := 45) rfl rfl 1 rfl ?_
    refine lu_getr (r2 := (r0 + 14)) X rfl fl10_49 rfl hT_r0 hr_r0 dX10_wrongReports_45 (pc2 := 48) rfl ?_
    refine lu_iload_n X dX10_wrongReports_48 (pc2 := 49) rfl rfl 4 rfl ?_
    refine lu_aald X rfl rfl (by decide) (by decide) ((koC_5_14 hT_r0 hr_r0).1) ((koC_5_14 hT_r0 hr_r0).2) dX10_wrongReports_49 (pc2 := 50) rfl (fun g6 => ?_)
    refine lu_iconst X dX10_wrongReports_50 (pc2 := 51) rfl ic_3 ?_
    refine lu_ialdK (q := 3) X (by decide) ((kaC_3_6_4 ((koC_5_14 hT_r0 hr_r0).1) ((koC_5_14 hT_r0 hr_r0).2) g6).1) ((kaC_3_6_4 ((koC_5_14 hT_r0 hr_r0).1) ((koC_5_14 hT_r0 hr_r0).2) g6).2) dX10_wrongReports_51 (pc2 := 52) rfl ?_
    refine lu_iconst X dX10_wrongReports_52 (pc2 := 53) rfl ic_1 ?_
    refine lu_icmp_ne (tgt := 60) X dX10_wrongReports_53 (pc2 := 56) rfl (by decide) (fun _ => ?_) (fun _ => ?_)
    · refine lu_iconst X dX10_wrongReports_60 (pc2 := 61) rfl ic_0 ?_
      exact lu_sub [1, 2, 3, 4] rfl (w10_wrongReports_b61 X hret hT_r0 hr_r0 hT_r1 hr_r1 hrec hK76 v2 v3 (0 : Int32) x4 m5)
    · refine lu_iconst X dX10_wrongReports_56 (pc2 := 57) rfl ic_1 ?_
      refine lu_goto (tgt := 61) X dX10_wrongReports_57 (by decide) ?_
      exact lu_sub [1, 2, 3, 4] rfl (w10_wrongReports_b61 X hret hT_r0 hr_r0 hT_r1 hr_r1 hrec hK76 v2 v3 (1 : Int32) x4 m5)
theorem w10_wrongReports_b4  {G : lu_G} {ρ : Nat → Nat} {r0 : Nat} {r1 : Nat} {K76 : Int32 → lu_M → Option (Int32 × lu_M)} (X : lu_X G RX10 cX10_wrongReports 5 4 87) (hret : (lu_me G).sig.returnType = (some .int)) (hT_r0 : lu_TC.2 r0 = (5, 0, 0)) (hr_r0 : r0 < lu_TC.1) (hT_r1 : lu_TC.2 r1 = (10, 0, 0)) (hr_r1 : r1 < lu_TC.1) (hK76 : ∀ (v2 : Int32) (m : lu_M), lu_Ab lu_TC G (lu_Q lu_TC G ρ lu_RVi lu_sn) (K76 v2 m) 76 [(2, .int v2)] [] ρ 0 0 [] m) : ∀ (n : Nat) (v2 : Int32) (v3 : Int32) (m : lu_M), lu_Ab lu_TC G (lu_Q lu_TC G ρ lu_RVi lu_sn) (f10_wrongReports_b4 K76 r0 r1 n v2 v3 m) 4 [(0, .ref (ρ r0)), (1, .ref (ρ r1)), (2, .int v2), (3, .int v3)] [] ρ 0 0 [] m := by
  intro n
  induction n with
  | zero => intro v2 v3 m; exact lu_none
  | succ n ih => intro v2 v3 m; exact w10_wrongReports_b4B X hret hT_r0 hr_r0 hT_r1 hr_r1 hK76 ih v2 v3 m
def f10_wrongReports_b76  (r0 : Nat) (r1 : Nat) (v2 : Int32) (m : lu_M) : Option (Int32 × lu_M) :=
  some (v2, m)
set_option maxRecDepth 20000 in
theorem w10_wrongReports_b76  {G : lu_G} {ρ : Nat → Nat} {r0 : Nat} {r1 : Nat}  (X : lu_X G RX10 cX10_wrongReports 5 4 87) (hret : (lu_me G).sig.returnType = (some .int)) (hT_r0 : lu_TC.2 r0 = (5, 0, 0)) (hr_r0 : r0 < lu_TC.1) (hT_r1 : lu_TC.2 r1 = (10, 0, 0)) (hr_r1 : r1 < lu_TC.1)  : ∀ (v2 : Int32) (m : lu_M), lu_Ab lu_TC G (lu_Q lu_TC G ρ lu_RVi lu_sn) (f10_wrongReports_b76 r0 r1 v2 m) 76 [(2, .int v2)] [] ρ 0 0 [] m := by
  intro v2 m
  unfold f10_wrongReports_b76
  refine lu_iload_n X dX10_wrongReports_76 (pc2 := 77) rfl rfl 0 rfl ?_
  exact lu_iret X hret dX10_wrongReports_77
def f10_wrongReports (r0 : Nat) (r1 : Nat) (m : lu_M) : Option (Int32 × lu_M) :=
  f10_wrongReports_b4 (f10_wrongReports_b76 r0 r1) r0 r1 lu_fu (0 : Int32) (0 : Int32) m
set_option maxRecDepth 20000 in
theorem c10_wrongReports (l : Launch) {r0 : Nat} {r1 : Nat} (hT_r0 : lu_TC.2 r0 = (5, 0, 0)) (hr_r0 : r0 < lu_TC.1) (hT_r1 : lu_TC.2 r1 = (10, 0, 0)) (hr_r1 : r1 < lu_TC.1)  : lu_C lu_TC l yX10_wrongReports cX10_wrongReports 5 (some .int) 4 87 (fun ρ sa => [.ref (ρ r0), .ref (ρ r1)]) (f10_wrongReports r0 r1) lu_RVi lu_sn := by
  refine lu_met (cls := RX10) rfl (by decide +kernel) (fun _ _ => Nat.le_of_ble_eq_true rfl) ?_
  intro G ρ m hl X hret
  subst hl
  change lu_Ab lu_TC G (lu_Q lu_TC G ρ lu_RVi lu_sn) (f10_wrongReports r0 r1 m) 0 [(0, .ref (ρ r0)), (1, .ref (ρ r1))] [] ρ 0 0 [] m
  unfold f10_wrongReports
  refine lu_iconst X dX10_wrongReports_0 (pc2 := 1) rfl ic_0 ?_
  refine lu_istore_n (lv2 := [(2, .int (0 : Int32)), (0, .ref (ρ r0)), (1, .ref (ρ r1))]) X dX10_wrongReports_1 (pc2 := 2) rfl rfl (by decide) rfl ?_
  refine lu_iconst X dX10_wrongReports_2 (pc2 := 3) rfl ic_0 ?_
  refine lu_istore_n (lv2 := [(3, .int (0 : Int32)), (2, .int (0 : Int32)), (0, .ref (ρ r0)), (1, .ref (ρ r1))]) X dX10_wrongReports_3 (pc2 := 4) rfl rfl (by decide) rfl ?_
  exact lu_sub [2, 3, 1, 0] rfl (w10_wrongReports_b4 X hret hT_r0 hr_r0 hT_r1 hr_r1 (w10_wrongReports_b76 X hret hT_r0 hr_r0 hT_r1 hr_r1) lu_fu (0 : Int32) (0 : Int32) m)

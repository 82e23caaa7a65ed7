/-! WALKS of methods (written by a program out of their instructions): functions of the memory, and contracts -/
theorem dX12_onShelf_0 : decode cX12_onShelf 0 = .ok (.iload_n 1, 1) := by decide +kernel
theorem dX12_onShelf_1 : decode cX12_onShelf 1 = .ok (.invokestatic 397, 3) := by decide +kernel
theorem dX12_onShelf_4 : decode cX12_onShelf 4 = .ok (.ifCond .eq 35, 3) := by decide +kernel
theorem dX12_onShelf_7 : decode cX12_onShelf 7 = .ok (.aload_n 0, 1) := by decide +kernel
theorem dX12_onShelf_8 : decode cX12_onShelf 8 = .ok (.getfield 52, 3) := by decide +kernel
theorem dX12_onShelf_11 : decode cX12_onShelf 11 = .ok (.iload_n 1, 1) := by decide +kernel
theorem dX12_onShelf_12 : decode cX12_onShelf 12 = .ok (.iaload, 1) := by decide +kernel
theorem dX12_onShelf_13 : decode cX12_onShelf 13 = .ok (.iconst 1, 1) := by decide +kernel
theorem dX12_onShelf_14 : decode cX12_onShelf 14 = .ok (.if_icmp .ne 25, 3) := by decide +kernel
theorem dX12_onShelf_17 : decode cX12_onShelf 17 = .ok (.aload_n 0, 1) := by decide +kernel
theorem dX12_onShelf_18 : decode cX12_onShelf 18 = .ok (.aload_n 0, 1) := by decide +kernel
theorem dX12_onShelf_19 : decode cX12_onShelf 19 = .ok (.getfield 55, 3) := by decide +kernel
theorem dX12_onShelf_22 : decode cX12_onShelf 22 = .ok (.iload_n 1, 1) := by decide +kernel
theorem dX12_onShelf_23 : decode cX12_onShelf 23 = .ok (.iaload, 1) := by decide +kernel
theorem dX12_onShelf_24 : decode cX12_onShelf 24 = .ok (.invokevirtual 96, 3) := by decide +kernel
theorem dX12_onShelf_27 : decode cX12_onShelf 27 = .ok (.ifCond .eq 12, 3) := by decide +kernel
theorem dX12_onShelf_30 : decode cX12_onShelf 30 = .ok (.aload_n 0, 1) := by decide +kernel
theorem dX12_onShelf_31 : decode cX12_onShelf 31 = .ok (.getfield 55, 3) := by decide +kernel
theorem dX12_onShelf_34 : decode cX12_onShelf 34 = .ok (.iload_n 1, 1) := by decide +kernel
theorem dX12_onShelf_35 : decode cX12_onShelf 35 = .ok (.iaload, 1) := by decide +kernel
theorem dX12_onShelf_36 : decode cX12_onShelf 36 = .ok (.goto 4, 3) := by decide +kernel
theorem dX12_onShelf_39 : decode cX12_onShelf 39 = .ok (.iconst (-1), 1) := by decide +kernel
theorem dX12_onShelf_40 : decode cX12_onShelf 40 = .ok (.ireturn, 1) := by decide +kernel
def f12_onShelf_b40  (a1 : Int32) (s0 : Int32) (m : lu_M) : Option (Int32 × lu_M) :=
  some (s0, m)
set_option maxRecDepth 20000 in
theorem w12_onShelf_b40  {G : lu_G} {ρ : Nat → Nat} {a1 : Int32}  (X : lu_X G RX12 cX12_onShelf 2 2 46) (hret : (lu_me G).sig.returnType = (some .int))   : ∀ (s0 : Int32) (m : lu_M), lu_Ab lu_TM G (lu_Q lu_TM G ρ lu_RVi lu_sn) (f12_onShelf_b40 a1 s0 m) 40 [] [.int s0] ρ 0 0 [] m := by
  intro s0 m
  unfold f12_onShelf_b40
  exact lu_iret X hret dX12_onShelf_40
def f12_onShelf_b39  (a1 : Int32)  (m : lu_M) : Option (Int32 × lu_M) :=
  f12_onShelf_b40 a1 (-1 : Int32) m
set_option maxRecDepth 20000 in
theorem w12_onShelf_b39  {G : lu_G} {ρ : Nat → Nat} {a1 : Int32}  (X : lu_X G RX12 cX12_onShelf 2 2 46) (hret : (lu_me G).sig.returnType = (some .int))   : ∀  (m : lu_M), lu_Ab lu_TM G (lu_Q lu_TM G ρ lu_RVi lu_sn) (f12_onShelf_b39 a1 m) 39 [] [] ρ 0 0 [] m := by
  intro  m
  unfold f12_onShelf_b39
  refine lu_iconst X dX12_onShelf_39 (pc2 := 40) rfl ic_m1 ?_
  exact w12_onShelf_b40 X hret (-1 : Int32) m
def f12_onShelf (a1 : Int32) (m : lu_M) : Option (Int32 × lu_M) :=
  lu_bi (f12_isOne a1 m) fun x1 m2 =>
  if x1 = 0 then (f12_onShelf_b39 a1 m2)
  else (lu_gd (lu_ib a1 4) <|
  if (m2 15 a1.toNatClampNeg) = (1 : Int32) then (lu_gd (lu_ib a1 4) <|
  lu_bi (f12_isPerson (m2 16 a1.toNatClampNeg) m2) fun x3 m4 =>
  if x3 = 0 then (f12_onShelf_b39 a1 m4)
  else (lu_gd (lu_ib a1 4) <|
  f12_onShelf_b40 a1 (m4 16 a1.toNatClampNeg) m4))
  else (f12_onShelf_b39 a1 m2))
set_option maxRecDepth 20000 in
theorem c12_onShelf (l : Launch)   (a1 : Int32) : lu_C lu_TM l yX12_onShelf cX12_onShelf 2 (some .int) 2 46 (fun ρ sa => [.ref (ρ 0), .int a1]) (f12_onShelf a1) lu_RVi lu_sn := by
  refine lu_met (cls := RX12) rfl (by decide +kernel) (fun _ _ => Nat.le_of_ble_eq_true rfl) ?_
  intro G ρ m hl X hret
  subst hl
  change lu_Ab lu_TM G (lu_Q lu_TM G ρ lu_RVi lu_sn) (f12_onShelf a1 m) 0 [(0, .ref (ρ 0)), (1, .int a1)] [] ρ 0 0 [] m
  unfold f12_onShelf
  refine lu_iload_n X dX12_onShelf_0 (pc2 := 1) rfl rfl 1 rfl ?_
  refine lu_invSi X (c12_isOne _ a1) rfl q1704 mvS_12_isOne rfl rfl (Nat.le_of_ble_eq_true rfl) (Nat.le_of_ble_eq_true rfl) (Nat.le_of_ble_eq_true rfl) ⟨Nat.zero_le _, Nat.zero_le _⟩ dX12_onShelf_1 (pc2 := 4) rfl rfl (fun x1 m2 => ?_)
  refine lu_if_eq (tgt := 39) X dX12_onShelf_4 (pc2 := 7) rfl (by decide) (fun _ => ?_) (fun _ => ?_)
  · exact lu_sub [] rfl (w12_onShelf_b39 X hret m2)
  · refine lu_aload_n X dX12_onShelf_7 (pc2 := 8) rfl rfl 0 rfl ?_
    refine lu_getr (r2 := 15) X rfl fl12_52 rfl kM_0 lM_0 dX12_onShelf_8 (pc2 := 11) rfl ?_
    refine lu_iload_n X dX12_onShelf_11 (pc2 := 12) rfl rfl 1 rfl ?_
    refine lu_iald X kM_15 lM_15 dX12_onShelf_12 (pc2 := 13) rfl ?_
    refine lu_iconst X dX12_onShelf_13 (pc2 := 14) rfl ic_1 ?_
    refine lu_icmp_ne (tgt := 39) X dX12_onShelf_14 (pc2 := 17) rfl (by decide) (fun _ => ?_) (fun _ => ?_)
    · exact lu_sub [] rfl (w12_onShelf_b39 X hret m2)
    · refine lu_aload_n X dX12_onShelf_17 (pc2 := 18) rfl rfl 0 rfl ?_
      refine lu_aload_n X dX12_onShelf_18 (pc2 := 19) rfl rfl 0 rfl ?_
      refine lu_getr (r2 := 16) X rfl fl12_55 rfl kM_0 lM_0 dX12_onShelf_19 (pc2 := 22) rfl ?_
      refine lu_iload_n X dX12_onShelf_22 (pc2 := 23) rfl rfl 1 rfl ?_
      refine lu_iald X kM_16 lM_16 dX12_onShelf_23 (pc2 := 24) rfl ?_
      refine lu_invVi X (c12_isPerson _ (m2 16 a1.toNatClampNeg)) rfl q1272 mvV_12_isPerson kM_0 lM_0 (by decide) ⟨_, rfl, rfl⟩ rfl rfl (Nat.le_of_ble_eq_true rfl) (Nat.le_of_ble_eq_true rfl) (Nat.le_of_ble_eq_true rfl) ⟨Nat.zero_le _, Nat.zero_le _⟩ dX12_onShelf_24 (pc2 := 27) rfl rfl (fun x3 m4 => ?_)
      refine lu_if_eq (tgt := 39) X dX12_onShelf_27 (pc2 := 30) rfl (by decide) (fun _ => ?_) (fun _ => ?_)
      · exact lu_sub [] rfl (w12_onShelf_b39 X hret m4)
      · refine lu_aload_n X dX12_onShelf_30 (pc2 := 31) rfl rfl 0 rfl ?_
        refine lu_getr (r2 := 16) X rfl fl12_55 rfl kM_0 lM_0 dX12_onShelf_31 (pc2 := 34) rfl ?_
        refine lu_iload_n X dX12_onShelf_34 (pc2 := 35) rfl rfl 1 rfl ?_
        refine lu_iald X kM_16 lM_16 dX12_onShelf_35 (pc2 := 36) rfl ?_
        refine lu_goto (tgt := 40) X dX12_onShelf_36 (by decide) ?_
        exact lu_sub [] rfl (w12_onShelf_b40 X hret (m4 16 a1.toNatClampNeg) m4)

theorem dX12_taken_0 : decode cX12_taken 0 = .ok (.iload_n 1, 1) := by decide +kernel
theorem dX12_taken_1 : decode cX12_taken 1 = .ok (.invokestatic 397, 3) := by decide +kernel
theorem dX12_taken_4 : decode cX12_taken 4 = .ok (.ifCond .eq 29, 3) := by decide +kernel
theorem dX12_taken_7 : decode cX12_taken 7 = .ok (.iload_n 2, 1) := by decide +kernel
theorem dX12_taken_8 : decode cX12_taken 8 = .ok (.i2l, 1) := by decide +kernel
theorem dX12_taken_9 : decode cX12_taken 9 = .ok (.lconst 0, 1) := by decide +kernel
theorem dX12_taken_10 : decode cX12_taken 10 = .ok (.ldc2_w 75, 3) := by decide +kernel
theorem dX12_taken_13 : decode cX12_taken 13 = .ok (.invokestatic 64, 3) := by decide +kernel
theorem dX12_taken_16 : decode cX12_taken 16 = .ok (.ifCond .ne 19, 3) := by decide +kernel
theorem dX12_taken_19 : decode cX12_taken 19 = .ok (.iload_n 2, 1) := by decide +kernel
theorem dX12_taken_20 : decode cX12_taken 20 = .ok (.i2l, 1) := by decide +kernel
theorem dX12_taken_21 : decode cX12_taken 21 = .ok (.ldc2_w 417, 3) := by decide +kernel
theorem dX12_taken_24 : decode cX12_taken 24 = .ok (.ldc2_w 419, 3) := by decide +kernel
theorem dX12_taken_27 : decode cX12_taken 27 = .ok (.invokestatic 64, 3) := by decide +kernel
theorem dX12_taken_30 : decode cX12_taken 30 = .ok (.ifCond .ne 5, 3) := by decide +kernel
theorem dX12_taken_33 : decode cX12_taken 33 = .ok (.iconst (-1), 1) := by decide +kernel
theorem dX12_taken_34 : decode cX12_taken 34 = .ok (.ireturn, 1) := by decide +kernel
theorem dX12_taken_35 : decode cX12_taken 35 = .ok (.aload_n 0, 1) := by decide +kernel
theorem dX12_taken_36 : decode cX12_taken 36 = .ok (.iload_n 1, 1) := by decide +kernel
theorem dX12_taken_37 : decode cX12_taken 37 = .ok (.invokevirtual 421, 3) := by decide +kernel
theorem dX12_taken_40 : decode cX12_taken 40 = .ok (.istore_n 3, 1) := by decide +kernel
theorem dX12_taken_41 : decode cX12_taken 41 = .ok (.iload_n 3, 1) := by decide +kernel
theorem dX12_taken_42 : decode cX12_taken 42 = .ok (.ifCond .ge 16, 3) := by decide +kernel
theorem dX12_taken_45 : decode cX12_taken 45 = .ok (.aload_n 0, 1) := by decide +kernel
theorem dX12_taken_46 : decode cX12_taken 46 = .ok (.getfield 52, 3) := by decide +kernel
theorem dX12_taken_49 : decode cX12_taken 49 = .ok (.iload_n 1, 1) := by decide +kernel
theorem dX12_taken_50 : decode cX12_taken 50 = .ok (.iaload, 1) := by decide +kernel
theorem dX12_taken_51 : decode cX12_taken 51 = .ok (.iconst 2, 1) := by decide +kernel
theorem dX12_taken_52 : decode cX12_taken 52 = .ok (.if_icmp .ge 6, 3) := by decide +kernel
theorem dX12_taken_55 : decode cX12_taken 55 = .ok (.bipush (-11), 2) := by decide +kernel
theorem dX12_taken_57 : decode cX12_taken 57 = .ok (.ireturn, 1) := by decide +kernel
theorem dX12_taken_58 : decode cX12_taken 58 = .ok (.iload_n 3, 1) := by decide +kernel
theorem dX12_taken_59 : decode cX12_taken 59 = .ok (.ifCond .lt 30, 3) := by decide +kernel
theorem dX12_taken_62 : decode cX12_taken 62 = .ok (.iload_n 2, 1) := by decide +kernel
theorem dX12_taken_63 : decode cX12_taken 63 = .ok (.bipush 6, 2) := by decide +kernel
theorem dX12_taken_65 : decode cX12_taken 65 = .ok (.if_icmp .ge 20, 3) := by decide +kernel
theorem dX12_taken_68 : decode cX12_taken 68 = .ok (.aload_n 0, 1) := by decide +kernel
theorem dX12_taken_69 : decode cX12_taken 69 = .ok (.iload_n 3, 1) := by decide +kernel
theorem dX12_taken_70 : decode cX12_taken 70 = .ok (.iconst 0, 1) := by decide +kernel
theorem dX12_taken_71 : decode cX12_taken 71 = .ok (.invokevirtual 83, 3) := by decide +kernel
theorem dX12_taken_74 : decode cX12_taken 74 = .ok (.iload_n 2, 1) := by decide +kernel
theorem dX12_taken_75 : decode cX12_taken 75 = .ok (.invokestatic 135, 3) := by decide +kernel
theorem dX12_taken_78 : decode cX12_taken 78 = .ok (.ifCond .eq 7, 3) := by decide +kernel
theorem dX12_taken_81 : decode cX12_taken 81 = .ok (.iconst 1, 1) := by decide +kernel
theorem dX12_taken_82 : decode cX12_taken 82 = .ok (.goto 25, 3) := by decide +kernel
theorem dX12_taken_85 : decode cX12_taken 85 = .ok (.iconst 0, 1) := by decide +kernel
theorem dX12_taken_86 : decode cX12_taken 86 = .ok (.goto 21, 3) := by decide +kernel
theorem dX12_taken_89 : decode cX12_taken 89 = .ok (.iload_n 2, 1) := by decide +kernel
theorem dX12_taken_90 : decode cX12_taken 90 = .ok (.bipush 10, 2) := by decide +kernel
theorem dX12_taken_92 : decode cX12_taken 92 = .ok (.isub, 1) := by decide +kernel
theorem dX12_taken_93 : decode cX12_taken 93 = .ok (.aload_n 0, 1) := by decide +kernel
theorem dX12_taken_94 : decode cX12_taken 94 = .ok (.getfield 58, 3) := by decide +kernel
theorem dX12_taken_97 : decode cX12_taken 97 = .ok (.iload_n 1, 1) := by decide +kernel
theorem dX12_taken_98 : decode cX12_taken 98 = .ok (.iaload, 1) := by decide +kernel
theorem dX12_taken_99 : decode cX12_taken 99 = .ok (.if_icmp .ne 7, 3) := by decide +kernel
theorem dX12_taken_102 : decode cX12_taken 102 = .ok (.iconst 1, 1) := by decide +kernel
theorem dX12_taken_103 : decode cX12_taken 103 = .ok (.goto 4, 3) := by decide +kernel
theorem dX12_taken_106 : decode cX12_taken 106 = .ok (.iconst 0, 1) := by decide +kernel
theorem dX12_taken_107 : decode cX12_taken 107 = .ok (.istore 4, 2) := by decide +kernel
theorem dX12_taken_109 : decode cX12_taken 109 = .ok (.iload 4, 2) := by decide +kernel
theorem dX12_taken_111 : decode cX12_taken 111 = .ok (.ifCond .eq 12, 3) := by decide +kernel
theorem dX12_taken_114 : decode cX12_taken 114 = .ok (.aload_n 0, 1) := by decide +kernel
theorem dX12_taken_115 : decode cX12_taken 115 = .ok (.getfield 55, 3) := by decide +kernel
theorem dX12_taken_118 : decode cX12_taken 118 = .ok (.iload_n 1, 1) := by decide +kernel
theorem dX12_taken_119 : decode cX12_taken 119 = .ok (.iaload, 1) := by decide +kernel
theorem dX12_taken_120 : decode cX12_taken 120 = .ok (.goto 5, 3) := by decide +kernel
theorem dX12_taken_123 : decode cX12_taken 123 = .ok (.bipush (-13), 2) := by decide +kernel
theorem dX12_taken_125 : decode cX12_taken 125 = .ok (.ireturn, 1) := by decide +kernel
def f12_taken_b33  (a1 : Int32) (a2 : Int32)  (m : lu_M) : Option (Int32 × lu_M) :=
  some ((-1 : Int32), m)
set_option maxRecDepth 20000 in
theorem w12_taken_b33  {G : lu_G} {ρ : Nat → Nat} {a1 : Int32} {a2 : Int32}  (X : lu_X G RX12 cX12_taken 5 3 67) (hret : (lu_me G).sig.returnType = (some .int))   : ∀  (m : lu_M), lu_Ab lu_TM G (lu_Q lu_TM G ρ lu_RVi lu_sn) (f12_taken_b33 a1 a2 m) 33 [] [] ρ 0 0 [] m := by
  intro  m
  unfold f12_taken_b33
  refine lu_iconst X dX12_taken_33 (pc2 := 34) rfl ic_m1 ?_
  exact lu_iret X hret dX12_taken_34
def f12_taken_b125  (a1 : Int32) (a2 : Int32) (s0 : Int32) (m : lu_M) : Option (Int32 × lu_M) :=
  some (s0, m)
set_option maxRecDepth 20000 in
theorem w12_taken_b125  {G : lu_G} {ρ : Nat → Nat} {a1 : Int32} {a2 : Int32}  (X : lu_X G RX12 cX12_taken 5 3 67) (hret : (lu_me G).sig.returnType = (some .int))   : ∀ (s0 : Int32) (m : lu_M), lu_Ab lu_TM G (lu_Q lu_TM G ρ lu_RVi lu_sn) (f12_taken_b125 a1 a2 s0 m) 125 [] [.int s0] ρ 0 0 [] m := by
  intro s0 m
  unfold f12_taken_b125
  exact lu_iret X hret dX12_taken_125
def f12_taken_b107  (a1 : Int32) (a2 : Int32) (s0 : Int32) (m : lu_M) : Option (Int32 × lu_M) :=
  if s0 = 0 then (f12_taken_b125 a1 a2 (-13 : Int32) m)
  else (lu_gd (lu_ib a1 4) <|
  f12_taken_b125 a1 a2 (m 16 a1.toNatClampNeg) m)
set_option maxRecDepth 20000 in
theorem w12_taken_b107  {G : lu_G} {ρ : Nat → Nat} {a1 : Int32} {a2 : Int32}  (X : lu_X G RX12 cX12_taken 5 3 67) (hret : (lu_me G).sig.returnType = (some .int))   : ∀ (s0 : Int32) (m : lu_M), lu_Ab lu_TM G (lu_Q lu_TM G ρ lu_RVi lu_sn) (f12_taken_b107 a1 a2 s0 m) 107 [(0, .ref (ρ 0)), (1, .int a1)] [.int s0] ρ 0 0 [] m := by
  intro s0 m
  unfold f12_taken_b107
  refine lu_istore (lv2 := [(4, .int s0), (0, .ref (ρ 0)), (1, .int a1)]) X dX12_taken_107 (pc2 := 109) rfl (by decide) rfl ?_
  refine lu_iload X dX12_taken_109 (pc2 := 111) rfl 0 rfl ?_
  refine lu_if_eq (tgt := 123) X dX12_taken_111 (pc2 := 114) rfl (by decide) (fun _ => ?_) (fun _ => ?_)
  · refine lu_bipush X dX12_taken_123 (pc2 := 125) rfl bp_m13 ?_
    exact lu_sub [] rfl (w12_taken_b125 X hret (-13 : Int32) m)
  · refine lu_aload_n X dX12_taken_114 (pc2 := 115) rfl rfl 1 rfl ?_
    refine lu_getr (r2 := 16) X rfl fl12_55 rfl kM_0 lM_0 dX12_taken_115 (pc2 := 118) rfl ?_
    refine lu_iload_n X dX12_taken_118 (pc2 := 119) rfl rfl 2 rfl ?_
    refine lu_iald X kM_16 lM_16 dX12_taken_119 (pc2 := 120) rfl ?_
    refine lu_goto (tgt := 125) X dX12_taken_120 (by decide) ?_
    exact lu_sub [] rfl (w12_taken_b125 X hret (m 16 a1.toNatClampNeg) m)
def f12_taken_b85  (a1 : Int32) (a2 : Int32)  (m : lu_M) : Option (Int32 × lu_M) :=
  f12_taken_b107 a1 a2 (0 : Int32) m
set_option maxRecDepth 20000 in
theorem w12_taken_b85  {G : lu_G} {ρ : Nat → Nat} {a1 : Int32} {a2 : Int32}  (X : lu_X G RX12 cX12_taken 5 3 67) (hret : (lu_me G).sig.returnType = (some .int))   : ∀  (m : lu_M), lu_Ab lu_TM G (lu_Q lu_TM G ρ lu_RVi lu_sn) (f12_taken_b85 a1 a2 m) 85 [(0, .ref (ρ 0)), (1, .int a1)] [] ρ 0 0 [] m := by
  intro  m
  unfold f12_taken_b85
  refine lu_iconst X dX12_taken_85 (pc2 := 86) rfl ic_0 ?_
  refine lu_goto (tgt := 107) X dX12_taken_86 (by decide) ?_
  exact w12_taken_b107 X hret (0 : Int32) m
def f12_taken_b58  (a1 : Int32) (a2 : Int32) (v3 : Int32) (m : lu_M) : Option (Int32 × lu_M) :=
  if v3 < 0 then (lu_gd (lu_ib a1 4) <|
  if (a2 - (10 : Int32)) = (m 17 a1.toNatClampNeg) then (f12_taken_b107 a1 a2 (1 : Int32) m)
  else (f12_taken_b107 a1 a2 (0 : Int32) m))
  else (if (6 : Int32) ≤ a2 then (f12_taken_b85 a1 a2 m)
  else (lu_bi (f12_its v3 (0 : Int32) m) fun x7 m8 =>
  lu_bi (f12_isUnder x7 a2 m8) fun x9 m10 =>
  if x9 = 0 then (f12_taken_b85 a1 a2 m10)
  else (f12_taken_b107 a1 a2 (1 : Int32) m10)))
set_option maxRecDepth 20000 in
theorem w12_taken_b58  {G : lu_G} {ρ : Nat → Nat} {a1 : Int32} {a2 : Int32}  (X : lu_X G RX12 cX12_taken 5 3 67) (hret : (lu_me G).sig.returnType = (some .int))   : ∀ (v3 : Int32) (m : lu_M), lu_Ab lu_TM G (lu_Q lu_TM G ρ lu_RVi lu_sn) (f12_taken_b58 a1 a2 v3 m) 58 [(0, .ref (ρ 0)), (1, .int a1), (2, .int a2), (3, .int v3)] [] ρ 0 0 [] m := by
  intro v3 m
  unfold f12_taken_b58
  refine lu_iload_n X dX12_taken_58 (pc2 := 59) rfl rfl 3 rfl ?_
  refine lu_if_lt (tgt := 89) X dX12_taken_59 (pc2 := 62) rfl (by decide) (fun _ => ?_) (fun _ => ?_)
  · refine lu_iload_n X dX12_taken_89 (pc2 := 90) rfl rfl 2 rfl ?_
    refine lu_bipush X dX12_taken_90 (pc2 := 92) rfl bp_10 ?_
    refine lu_isub X dX12_taken_92 (pc2 := 93) rfl ?_
    refine lu_aload_n X dX12_taken_93 (pc2 := 94) rfl rfl 0 rfl ?_
    refine lu_getr (r2 := 17) X rfl fl12_58 rfl kM_0 lM_0 dX12_taken_94 (pc2 := 97) rfl ?_
    refine lu_iload_n X dX12_taken_97 (pc2 := 98) rfl rfl 1 rfl ?_
    refine lu_iald X kM_17 lM_17 dX12_taken_98 (pc2 := 99) rfl ?_
    refine lu_icmp_ne (tgt := 106) X dX12_taken_99 (pc2 := 102) rfl (by decide) (fun _ => ?_) (fun _ => ?_)
    · refine lu_iconst X dX12_taken_106 (pc2 := 107) rfl ic_0 ?_
      exact lu_sub [0, 1] rfl (w12_taken_b107 X hret (0 : Int32) m)
    · refine lu_iconst X dX12_taken_102 (pc2 := 103) rfl ic_1 ?_
      refine lu_goto (tgt := 107) X dX12_taken_103 (by decide) ?_
      exact lu_sub [0, 1] rfl (w12_taken_b107 X hret (1 : Int32) m)
  · refine lu_iload_n X dX12_taken_62 (pc2 := 63) rfl rfl 2 rfl ?_
    refine lu_bipush X dX12_taken_63 (pc2 := 65) rfl bp_6 ?_
    refine lu_icmp_ge (tgt := 85) X dX12_taken_65 (pc2 := 68) rfl (by decide) (fun _ => ?_) (fun _ => ?_)
    · exact lu_sub [0, 1] rfl (w12_taken_b85 X hret m)
    · refine lu_aload_n X dX12_taken_68 (pc2 := 69) rfl rfl 0 rfl ?_
      refine lu_iload_n X dX12_taken_69 (pc2 := 70) rfl rfl 3 rfl ?_
      refine lu_iconst X dX12_taken_70 (pc2 := 71) rfl ic_0 ?_
      refine lu_invVi X (c12_its _ v3 (0 : Int32)) rfl q1276 mvV_12_its kM_0 lM_0 (by decide) ⟨_, rfl, rfl⟩ rfl rfl (Nat.le_of_ble_eq_true rfl) (Nat.le_of_ble_eq_true rfl) (Nat.le_of_ble_eq_true rfl) ⟨Nat.zero_le _, Nat.zero_le _⟩ dX12_taken_71 (pc2 := 74) rfl rfl (fun x7 m8 => ?_)
      refine lu_iload_n X dX12_taken_74 (pc2 := 75) rfl rfl 2 rfl ?_
      refine lu_invSi X (c12_isUnder _ x7 a2) rfl q1302 mvS_12_isUnder rfl rfl (Nat.le_of_ble_eq_true rfl) (Nat.le_of_ble_eq_true rfl) (Nat.le_of_ble_eq_true rfl) ⟨Nat.zero_le _, Nat.zero_le _⟩ dX12_taken_75 (pc2 := 78) rfl rfl (fun x9 m10 => ?_)
      refine lu_if_eq (tgt := 85) X dX12_taken_78 (pc2 := 81) rfl (by decide) (fun _ => ?_) (fun _ => ?_)
      · exact lu_sub [0, 1] rfl (w12_taken_b85 X hret m10)
      · refine lu_iconst X dX12_taken_81 (pc2 := 82) rfl ic_1 ?_
        refine lu_goto (tgt := 107) X dX12_taken_82 (by decide) ?_
        exact lu_sub [0, 1] rfl (w12_taken_b107 X hret (1 : Int32) m10)
def f12_taken_b35  (a1 : Int32) (a2 : Int32)  (m : lu_M) : Option (Int32 × lu_M) :=
  lu_bi (f12_onShelf a1 m) fun x5 m6 =>
  if 0 ≤ x5 then (f12_taken_b58 a1 a2 x5 m6)
  else (lu_gd (lu_ib a1 4) <|
  if (2 : Int32) ≤ (m6 15 a1.toNatClampNeg) then (f12_taken_b58 a1 a2 x5 m6)
  else (some ((-11 : Int32), m6)))
set_option maxRecDepth 20000 in
theorem w12_taken_b35  {G : lu_G} {ρ : Nat → Nat} {a1 : Int32} {a2 : Int32}  (X : lu_X G RX12 cX12_taken 5 3 67) (hret : (lu_me G).sig.returnType = (some .int))   : ∀  (m : lu_M), lu_Ab lu_TM G (lu_Q lu_TM G ρ lu_RVi lu_sn) (f12_taken_b35 a1 a2 m) 35 [(0, .ref (ρ 0)), (1, .int a1), (2, .int a2)] [] ρ 0 0 [] m := by
  intro  m
  unfold f12_taken_b35
  refine lu_aload_n X dX12_taken_35 (pc2 := 36) rfl rfl 0 rfl ?_
  refine lu_iload_n X dX12_taken_36 (pc2 := 37) rfl rfl 1 rfl ?_
  refine lu_invVi X (c12_onShelf _ a1) rfl q1750 mvV_12_onShelf kM_0 lM_0 (by decide) ⟨_, rfl, rfl⟩ rfl rfl (Nat.le_of_ble_eq_true rfl) (Nat.le_of_ble_eq_true rfl) (Nat.le_of_ble_eq_true rfl) ⟨Nat.zero_le _, Nat.zero_le _⟩ dX12_taken_37 (pc2 := 40) rfl rfl (fun x5 m6 => ?_)
  refine lu_istore_n (lv2 := [(3, .int x5), (0, .ref (ρ 0)), (1, .int a1), (2, .int a2)]) X dX12_taken_40 (pc2 := 41) rfl rfl (by decide) rfl ?_
  refine lu_iload_n X dX12_taken_41 (pc2 := 42) rfl rfl 0 rfl ?_
  refine lu_if_ge (tgt := 58) X dX12_taken_42 (pc2 := 45) rfl (by decide) (fun _ => ?_) (fun _ => ?_)
  · exact lu_sub [1, 2, 3, 0] rfl (w12_taken_b58 X hret x5 m6)
  · refine lu_aload_n X dX12_taken_45 (pc2 := 46) rfl rfl 1 rfl ?_
    refine lu_getr (r2 := 15) X rfl fl12_52 rfl kM_0 lM_0 dX12_taken_46 (pc2 := 49) rfl ?_
    refine lu_iload_n X dX12_taken_49 (pc2 := 50) rfl rfl 2 rfl ?_
    refine lu_iald X kM_15 lM_15 dX12_taken_50 (pc2 := 51) rfl ?_
    refine lu_iconst X dX12_taken_51 (pc2 := 52) rfl ic_2 ?_
    refine lu_icmp_ge (tgt := 58) X dX12_taken_52 (pc2 := 55) rfl (by decide) (fun _ => ?_) (fun _ => ?_)
    · exact lu_sub [1, 2, 3, 0] rfl (w12_taken_b58 X hret x5 m6)
    · refine lu_bipush X dX12_taken_55 (pc2 := 57) rfl bp_m11 ?_
      exact lu_iret X hret dX12_taken_57
def f12_taken (a1 : Int32) (a2 : Int32) (m : lu_M) : Option (Int32 × lu_M) :=
  lu_bi (f12_isOne a1 m) fun x1 m2 =>
  if x1 = 0 then (f12_taken_b33 a1 a2 m2)
  else (lu_bi (f12_in a2.toInt64 (0 : Int64) (5 : Int64) m2) fun x3 m4 =>
  if x3 = 0 then (lu_bi (f12_in a2.toInt64 (10 : Int64) (14 : Int64) m4) fun x11 m12 =>
  if x11 = 0 then (f12_taken_b33 a1 a2 m12)
  else (f12_taken_b35 a1 a2 m12))
  else (f12_taken_b35 a1 a2 m4))
set_option maxRecDepth 20000 in
theorem c12_taken (l : Launch)   (a1 : Int32) (a2 : Int32) : lu_C lu_TM l yX12_taken cX12_taken 5 (some .int) 3 67 (fun ρ sa => [.ref (ρ 0), .int a1, .int a2]) (f12_taken a1 a2) lu_RVi lu_sn := by
  refine lu_met (cls := RX12) rfl (by decide +kernel) (fun _ _ => Nat.le_of_ble_eq_true rfl) ?_
  intro G ρ m hl X hret
  subst hl
  change lu_Ab lu_TM G (lu_Q lu_TM G ρ lu_RVi lu_sn) (f12_taken a1 a2 m) 0 [(0, .ref (ρ 0)), (1, .int a1), (2, .int a2)] [] ρ 0 0 [] m
  unfold f12_taken
  refine lu_iload_n X dX12_taken_0 (pc2 := 1) rfl rfl 1 rfl ?_
  refine lu_invSi X (c12_isOne _ a1) rfl q1704 mvS_12_isOne rfl rfl (Nat.le_of_ble_eq_true rfl) (Nat.le_of_ble_eq_true rfl) (Nat.le_of_ble_eq_true rfl) ⟨Nat.zero_le _, Nat.zero_le _⟩ dX12_taken_1 (pc2 := 4) rfl rfl (fun x1 m2 => ?_)
  refine lu_if_eq (tgt := 33) X dX12_taken_4 (pc2 := 7) rfl (by decide) (fun _ => ?_) (fun _ => ?_)
  · exact lu_sub [] rfl (w12_taken_b33 X hret m2)
  · refine lu_iload_n X dX12_taken_7 (pc2 := 8) rfl rfl 2 rfl ?_
    refine lu_i2l X dX12_taken_8 (pc2 := 9) rfl ?_
    refine lu_lconst (v := (0 : Int64)) X dX12_taken_9 (pc2 := 10) rfl (by decide) ?_
    refine lu_ldc2 X q1260 dX12_taken_10 (pc2 := 13) rfl ?_
    refine lu_invSi X (c12_in _ a2.toInt64 (0 : Int64) (5 : Int64)) rfl q1261 mvS_12_in rfl rfl (Nat.le_of_ble_eq_true rfl) (Nat.le_of_ble_eq_true rfl) (Nat.le_of_ble_eq_true rfl) ⟨Nat.zero_le _, Nat.zero_le _⟩ dX12_taken_13 (pc2 := 16) rfl rfl (fun x3 m4 => ?_)
    refine lu_if_ne (tgt := 35) X dX12_taken_16 (pc2 := 19) rfl (by decide) (fun _ => ?_) (fun _ => ?_)
    · exact w12_taken_b35 X hret m4
    · refine lu_iload_n X dX12_taken_19 (pc2 := 20) rfl rfl 2 rfl ?_
      refine lu_i2l X dX12_taken_20 (pc2 := 21) rfl ?_
      refine lu_ldc2 X q1748 dX12_taken_21 (pc2 := 24) rfl ?_
      refine lu_ldc2 X q1749 dX12_taken_24 (pc2 := 27) rfl ?_
      refine lu_invSi X (c12_in _ a2.toInt64 (10 : Int64) (14 : Int64)) rfl q1261 mvS_12_in rfl rfl (Nat.le_of_ble_eq_true rfl) (Nat.le_of_ble_eq_true rfl) (Nat.le_of_ble_eq_true rfl) ⟨Nat.zero_le _, Nat.zero_le _⟩ dX12_taken_27 (pc2 := 30) rfl rfl (fun x11 m12 => ?_)
      refine lu_if_ne (tgt := 35) X dX12_taken_30 (pc2 := 33) rfl (by decide) (fun _ => ?_) (fun _ => ?_)
      · exact w12_taken_b35 X hret m12
      · exact lu_sub [] rfl (w12_taken_b33 X hret m12)

theorem dX12_runs_0 : decode cX12_runs 0 = .ok (.aload_n 0, 1) := by decide +kernel
theorem dX12_runs_1 : decode cX12_runs 1 = .ok (.getfield 424, 3) := by decide +kernel
theorem dX12_runs_4 : decode cX12_runs 4 = .ok (.ifCond .ne 32, 3) := by decide +kernel
theorem dX12_runs_7 : decode cX12_runs 7 = .ok (.aload_n 0, 1) := by decide +kernel
theorem dX12_runs_8 : decode cX12_runs 8 = .ok (.getfield 427, 3) := by decide +kernel
theorem dX12_runs_11 : decode cX12_runs 11 = .ok (.bipush 30, 2) := by decide +kernel
theorem dX12_runs_13 : decode cX12_runs 13 = .ok (.if_icmp .ge 13, 3) := by decide +kernel
theorem dX12_runs_16 : decode cX12_runs 16 = .ok (.aload_n 0, 1) := by decide +kernel
theorem dX12_runs_17 : decode cX12_runs 17 = .ok (.getfield 61, 3) := by decide +kernel
theorem dX12_runs_20 : decode cX12_runs 20 = .ok (.aload_n 0, 1) := by decide +kernel
theorem dX12_runs_21 : decode cX12_runs 21 = .ok (.getfield 427, 3) := by decide +kernel
theorem dX12_runs_24 : decode cX12_runs 24 = .ok (.iload_n 1, 1) := by decide +kernel
theorem dX12_runs_25 : decode cX12_runs 25 = .ok (.iastore, 1) := by decide +kernel
theorem dX12_runs_26 : decode cX12_runs 26 = .ok (.aload_n 0, 1) := by decide +kernel
theorem dX12_runs_27 : decode cX12_runs 27 = .ok (.dup, 1) := by decide +kernel
theorem dX12_runs_28 : decode cX12_runs 28 = .ok (.getfield 427, 3) := by decide +kernel
theorem dX12_runs_31 : decode cX12_runs 31 = .ok (.iconst 1, 1) := by decide +kernel
theorem dX12_runs_32 : decode cX12_runs 32 = .ok (.iadd, 1) := by decide +kernel
theorem dX12_runs_33 : decode cX12_runs 33 = .ok (.putfield 427, 3) := by decide +kernel
theorem dX12_runs_36 : decode cX12_runs 36 = .ok (.return_, 1) := by decide +kernel
def f12_runs_b36  (a1 : Int32)  (m : lu_M) : Option (lu_M) :=
  some m
set_option maxRecDepth 20000 in
theorem w12_runs_b36  {G : lu_G} {ρ : Nat → Nat} {a1 : Int32}  (X : lu_X G RX12 cX12_runs 2 0 0) (hret : (lu_me G).sig.returnType = none)   : ∀  (m : lu_M), lu_Ab lu_TM G (lu_Q lu_TM G ρ lu_RVv lu_id) (f12_runs_b36 a1 m) 36 [] [] ρ 0 0 [] m := by
  intro  m
  unfold f12_runs_b36
  exact lu_vret X hret dX12_runs_36
def f12_runs_b26  (a1 : Int32)  (m : lu_M) : Option (lu_M) :=
  lu_nm (lu_st m 0 37 ((m 0 37) + (1 : Int32))) fun m1 =>
  f12_runs_b36 a1 m1
set_option maxRecDepth 20000 in
theorem w12_runs_b26  {G : lu_G} {ρ : Nat → Nat} {a1 : Int32}  (X : lu_X G RX12 cX12_runs 2 0 0) (hret : (lu_me G).sig.returnType = none)   : ∀  (m : lu_M), lu_Ab lu_TM G (lu_Q lu_TM G ρ lu_RVv lu_id) (f12_runs_b26 a1 m) 26 [(0, .ref (ρ 0))] [] ρ 0 0 [] m := by
  intro  m
  unfold f12_runs_b26
  refine lu_aload_n X dX12_runs_26 (pc2 := 27) rfl rfl 0 rfl ?_
  refine lu_dup X dX12_runs_27 (pc2 := 28) rfl rfl ?_
  refine lu_get X fl12_427 rfl kM_0 lM_0 dX12_runs_28 (pc2 := 31) rfl ?_
  refine lu_iconst X dX12_runs_31 (pc2 := 32) rfl ic_1 ?_
  refine lu_iadd X dX12_runs_32 (pc2 := 33) rfl ?_
  refine lu_put X fl12_427 rfl (Or.inl (by decide)) rfl (by decide +kernel) kM_0 lM_0 dX12_runs_33 (pc2 := 36) rfl (fun m1 => ?_)
  exact lu_sub [] rfl (w12_runs_b36 X hret m1)
def f12_runs (a1 : Int32) (m : lu_M) : Option (lu_M) :=
  if (m 0 41) = 0 then (if (30 : Int32) ≤ (m 0 37) then (f12_runs_b26 a1 m)
  else (lu_gd (lu_ib (m 0 37) 30) <|
  lu_nm (lu_st m 18 (m 0 37).toNatClampNeg a1) fun m2 =>
  f12_runs_b26 a1 m2))
  else (f12_runs_b36 a1 m)
set_option maxRecDepth 20000 in
theorem c12_runs (l : Launch)   (a1 : Int32) : lu_C lu_TM l yX12_runs cX12_runs 2 none 0 0 (fun ρ sa => [.ref (ρ 0), .int a1]) (f12_runs a1) lu_RVv lu_id := by
  refine lu_met (cls := RX12) rfl (by decide +kernel) (fun _ _ => Nat.le_of_ble_eq_true rfl) ?_
  intro G ρ m hl X hret
  subst hl
  change lu_Ab lu_TM G (lu_Q lu_TM G ρ lu_RVv lu_id) (f12_runs a1 m) 0 [(0, .ref (ρ 0)), (1, .int a1)] [] ρ 0 0 [] m
  unfold f12_runs
  refine lu_aload_n X dX12_runs_0 (pc2 := 1) rfl rfl 0 rfl ?_
  refine lu_get X fl12_424 rfl kM_0 lM_0 dX12_runs_1 (pc2 := 4) rfl ?_
  refine lu_if_ne (tgt := 36) X dX12_runs_4 (pc2 := 7) rfl (by decide) (fun _ => ?_) (fun _ => ?_)
  · exact lu_sub [] rfl (w12_runs_b36 X hret m)
  · refine lu_aload_n X dX12_runs_7 (pc2 := 8) rfl rfl 0 rfl ?_
    refine lu_get X fl12_427 rfl kM_0 lM_0 dX12_runs_8 (pc2 := 11) rfl ?_
    refine lu_bipush X dX12_runs_11 (pc2 := 13) rfl bp_30 ?_
    refine lu_icmp_ge (tgt := 26) X dX12_runs_13 (pc2 := 16) rfl (by decide) (fun _ => ?_) (fun _ => ?_)
    · exact lu_sub [0] rfl (w12_runs_b26 X hret m)
    · refine lu_aload_n X dX12_runs_16 (pc2 := 17) rfl rfl 0 rfl ?_
      refine lu_getr (r2 := 18) X rfl fl12_61 rfl kM_0 lM_0 dX12_runs_17 (pc2 := 20) rfl ?_
      refine lu_aload_n X dX12_runs_20 (pc2 := 21) rfl rfl 0 rfl ?_
      refine lu_get X fl12_427 rfl kM_0 lM_0 dX12_runs_21 (pc2 := 24) rfl ?_
      refine lu_iload_n X dX12_runs_24 (pc2 := 25) rfl rfl 1 rfl ?_
      refine lu_iast X kM_18 lM_18 dX12_runs_25 (pc2 := 26) rfl (fun m2 => ?_)
      exact lu_sub [0] rfl (w12_runs_b26 X hret m2)

theorem dX12_gives_0 : decode cX12_gives 0 = .ok (.aload_n 0, 1) := by decide +kernel
theorem dX12_gives_1 : decode cX12_gives 1 = .ok (.getfield 430, 3) := by decide +kernel
theorem dX12_gives_4 : decode cX12_gives 4 = .ok (.iconst 1, 1) := by decide +kernel
theorem dX12_gives_5 : decode cX12_gives 5 = .ok (.if_icmp .ne 9, 3) := by decide +kernel
theorem dX12_gives_8 : decode cX12_gives 8 = .ok (.aload_n 0, 1) := by decide +kernel
theorem dX12_gives_9 : decode cX12_gives 9 = .ok (.bipush 20, 2) := by decide +kernel
theorem dX12_gives_11 : decode cX12_gives 11 = .ok (.invokevirtual 433, 3) := by decide +kernel
theorem dX12_gives_14 : decode cX12_gives 14 = .ok (.aload_n 0, 1) := by decide +kernel
theorem dX12_gives_15 : decode cX12_gives 15 = .ok (.getfield 430, 3) := by decide +kernel
theorem dX12_gives_18 : decode cX12_gives 18 = .ok (.iconst 3, 1) := by decide +kernel
theorem dX12_gives_19 : decode cX12_gives 19 = .ok (.if_icmp .ne 9, 3) := by decide +kernel
theorem dX12_gives_22 : decode cX12_gives 22 = .ok (.aload_n 0, 1) := by decide +kernel
theorem dX12_gives_23 : decode cX12_gives 23 = .ok (.bipush 50, 2) := by decide +kernel
theorem dX12_gives_25 : decode cX12_gives 25 = .ok (.invokevirtual 433, 3) := by decide +kernel
theorem dX12_gives_28 : decode cX12_gives 28 = .ok (.aload_n 0, 1) := by decide +kernel
theorem dX12_gives_29 : decode cX12_gives 29 = .ok (.bipush 10, 2) := by decide +kernel
theorem dX12_gives_31 : decode cX12_gives 31 = .ok (.invokevirtual 433, 3) := by decide +kernel
theorem dX12_gives_34 : decode cX12_gives 34 = .ok (.iload_n 1, 1) := by decide +kernel
theorem dX12_gives_35 : decode cX12_gives 35 = .ok (.aload_n 0, 1) := by decide +kernel
theorem dX12_gives_36 : decode cX12_gives 36 = .ok (.getfield 436, 3) := by decide +kernel
theorem dX12_gives_39 : decode cX12_gives 39 = .ok (.isub, 1) := by decide +kernel
theorem dX12_gives_40 : decode cX12_gives 40 = .ok (.istore_n 2, 1) := by decide +kernel
theorem dX12_gives_41 : decode cX12_gives 41 = .ok (.aload_n 0, 1) := by decide +kernel
theorem dX12_gives_42 : decode cX12_gives 42 = .ok (.getfield 430, 3) := by decide +kernel
theorem dX12_gives_45 : decode cX12_gives 45 = .ok (.iconst 1, 1) := by decide +kernel
theorem dX12_gives_46 : decode cX12_gives 46 = .ok (.if_icmp .ne 12, 3) := by decide +kernel
theorem dX12_gives_49 : decode cX12_gives 49 = .ok (.iload_n 2, 1) := by decide +kernel
theorem dX12_gives_50 : decode cX12_gives 50 = .ok (.aload_n 0, 1) := by decide +kernel
theorem dX12_gives_51 : decode cX12_gives 51 = .ok (.getfield 439, 3) := by decide +kernel
theorem dX12_gives_54 : decode cX12_gives 54 = .ok (.iadd, 1) := by decide +kernel
theorem dX12_gives_55 : decode cX12_gives 55 = .ok (.goto 18, 3) := by decide +kernel
theorem dX12_gives_58 : decode cX12_gives 58 = .ok (.aload_n 0, 1) := by decide +kernel
theorem dX12_gives_59 : decode cX12_gives 59 = .ok (.getfield 430, 3) := by decide +kernel
theorem dX12_gives_62 : decode cX12_gives 62 = .ok (.iconst 3, 1) := by decide +kernel
theorem dX12_gives_63 : decode cX12_gives 63 = .ok (.if_icmp .ne 9, 3) := by decide +kernel
theorem dX12_gives_66 : decode cX12_gives 66 = .ok (.iload_n 2, 1) := by decide +kernel
theorem dX12_gives_67 : decode cX12_gives 67 = .ok (.iconst 3, 1) := by decide +kernel
theorem dX12_gives_68 : decode cX12_gives 68 = .ok (.imul, 1) := by decide +kernel
theorem dX12_gives_69 : decode cX12_gives 69 = .ok (.goto 4, 3) := by decide +kernel
theorem dX12_gives_72 : decode cX12_gives 72 = .ok (.iload_n 2, 1) := by decide +kernel
theorem dX12_gives_73 : decode cX12_gives 73 = .ok (.ireturn, 1) := by decide +kernel
def f12_gives_b73  (a1 : Int32) (s0 : Int32) (m : lu_M) : Option (Int32 × lu_M) :=
  some (s0, m)
set_option maxRecDepth 20000 in
theorem w12_gives_b73  {G : lu_G} {ρ : Nat → Nat} {a1 : Int32}  (X : lu_X G RX12 cX12_gives 3 1 21) (hret : (lu_me G).sig.returnType = (some .int))   : ∀ (s0 : Int32) (m : lu_M), lu_Ab lu_TM G (lu_Q lu_TM G ρ lu_RVi lu_sn) (f12_gives_b73 a1 s0 m) 73 [] [.int s0] ρ 0 0 [] m := by
  intro s0 m
  unfold f12_gives_b73
  exact lu_iret X hret dX12_gives_73
def f12_gives_b28  (a1 : Int32)  (m : lu_M) : Option (Int32 × lu_M) :=
  lu_bv (f12_runs (10 : Int32) m) fun m1 =>
  lu_nm ((a1 - (m1 0 39))) fun x2 =>
  if (m1 0 40) = (1 : Int32) then (f12_gives_b73 a1 (x2 + (m1 0 38)) m1)
  else (if (m1 0 40) = (3 : Int32) then (f12_gives_b73 a1 (x2 * (3 : Int32)) m1)
  else (f12_gives_b73 a1 x2 m1))
set_option maxRecDepth 20000 in
theorem w12_gives_b28  {G : lu_G} {ρ : Nat → Nat} {a1 : Int32}  (X : lu_X G RX12 cX12_gives 3 1 21) (hret : (lu_me G).sig.returnType = (some .int))   : ∀  (m : lu_M), lu_Ab lu_TM G (lu_Q lu_TM G ρ lu_RVi lu_sn) (f12_gives_b28 a1 m) 28 [(0, .ref (ρ 0)), (1, .int a1)] [] ρ 0 0 [] m := by
  intro  m
  unfold f12_gives_b28
  refine lu_aload_n X dX12_gives_28 (pc2 := 29) rfl rfl 0 rfl ?_
  refine lu_bipush X dX12_gives_29 (pc2 := 31) rfl bp_10 ?_
  refine lu_invVv X (c12_runs _ (10 : Int32)) rfl q1762 mvV_12_runs kM_0 lM_0 (by decide) ⟨_, rfl, rfl⟩ rfl rfl (Nat.le_of_ble_eq_true rfl) (Nat.le_of_ble_eq_true rfl) (Nat.le_of_ble_eq_true rfl) ⟨Nat.zero_le _, Nat.zero_le _⟩ dX12_gives_31 (pc2 := 34) rfl rfl (fun m1 => ?_)
  refine lu_iload_n X dX12_gives_34 (pc2 := 35) rfl rfl 1 rfl ?_
  refine lu_aload_n X dX12_gives_35 (pc2 := 36) rfl rfl 0 rfl ?_
  refine lu_get X fl12_436 rfl kM_0 lM_0 dX12_gives_36 (pc2 := 39) rfl ?_
  refine lu_isub X dX12_gives_39 (pc2 := 40) rfl ?_
  refine lu_topi (fun x2 => ?_)
  refine lu_istore_n (lv2 := [(2, .int x2), (0, .ref (ρ 0)), (1, .int a1)]) X dX12_gives_40 (pc2 := 41) rfl rfl (by decide) rfl ?_
  refine lu_aload_n X dX12_gives_41 (pc2 := 42) rfl rfl 1 rfl ?_
  refine lu_get X fl12_430 rfl kM_0 lM_0 dX12_gives_42 (pc2 := 45) rfl ?_
  refine lu_iconst X dX12_gives_45 (pc2 := 46) rfl ic_1 ?_
  refine lu_icmp_ne (tgt := 58) X dX12_gives_46 (pc2 := 49) rfl (by decide) (fun _ => ?_) (fun _ => ?_)
  · refine lu_aload_n X dX12_gives_58 (pc2 := 59) rfl rfl 1 rfl ?_
    refine lu_get X fl12_430 rfl kM_0 lM_0 dX12_gives_59 (pc2 := 62) rfl ?_
    refine lu_iconst X dX12_gives_62 (pc2 := 63) rfl ic_3 ?_
    refine lu_icmp_ne (tgt := 72) X dX12_gives_63 (pc2 := 66) rfl (by decide) (fun _ => ?_) (fun _ => ?_)
    · refine lu_iload_n X dX12_gives_72 (pc2 := 73) rfl rfl 0 rfl ?_
      exact lu_sub [] rfl (w12_gives_b73 X hret x2 m1)
    · refine lu_iload_n X dX12_gives_66 (pc2 := 67) rfl rfl 0 rfl ?_
      refine lu_iconst X dX12_gives_67 (pc2 := 68) rfl ic_3 ?_
      refine lu_imul X dX12_gives_68 (pc2 := 69) rfl ?_
      refine lu_goto (tgt := 73) X dX12_gives_69 (by decide) ?_
      exact lu_sub [] rfl (w12_gives_b73 X hret (x2 * (3 : Int32)) m1)
  · refine lu_iload_n X dX12_gives_49 (pc2 := 50) rfl rfl 0 rfl ?_
    refine lu_aload_n X dX12_gives_50 (pc2 := 51) rfl rfl 1 rfl ?_
    refine lu_get X fl12_439 rfl kM_0 lM_0 dX12_gives_51 (pc2 := 54) rfl ?_
    refine lu_iadd X dX12_gives_54 (pc2 := 55) rfl ?_
    refine lu_goto (tgt := 73) X dX12_gives_55 (by decide) ?_
    exact lu_sub [] rfl (w12_gives_b73 X hret (x2 + (m1 0 38)) m1)
def f12_gives_b14  (a1 : Int32)  (m : lu_M) : Option (Int32 × lu_M) :=
  if (m 0 40) = (3 : Int32) then (lu_bv (f12_runs (50 : Int32) m) fun m3 =>
  f12_gives_b28 a1 m3)
  else (f12_gives_b28 a1 m)
set_option maxRecDepth 20000 in
theorem w12_gives_b14  {G : lu_G} {ρ : Nat → Nat} {a1 : Int32}  (X : lu_X G RX12 cX12_gives 3 1 21) (hret : (lu_me G).sig.returnType = (some .int))   : ∀  (m : lu_M), lu_Ab lu_TM G (lu_Q lu_TM G ρ lu_RVi lu_sn) (f12_gives_b14 a1 m) 14 [(0, .ref (ρ 0)), (1, .int a1)] [] ρ 0 0 [] m := by
  intro  m
  unfold f12_gives_b14
  refine lu_aload_n X dX12_gives_14 (pc2 := 15) rfl rfl 0 rfl ?_
  refine lu_get X fl12_430 rfl kM_0 lM_0 dX12_gives_15 (pc2 := 18) rfl ?_
  refine lu_iconst X dX12_gives_18 (pc2 := 19) rfl ic_3 ?_
  refine lu_icmp_ne (tgt := 28) X dX12_gives_19 (pc2 := 22) rfl (by decide) (fun _ => ?_) (fun _ => ?_)
  · exact w12_gives_b28 X hret m
  · refine lu_aload_n X dX12_gives_22 (pc2 := 23) rfl rfl 0 rfl ?_
    refine lu_bipush X dX12_gives_23 (pc2 := 25) rfl bp_50 ?_
    refine lu_invVv X (c12_runs _ (50 : Int32)) rfl q1762 mvV_12_runs kM_0 lM_0 (by decide) ⟨_, rfl, rfl⟩ rfl rfl (Nat.le_of_ble_eq_true rfl) (Nat.le_of_ble_eq_true rfl) (Nat.le_of_ble_eq_true rfl) ⟨Nat.zero_le _, Nat.zero_le _⟩ dX12_gives_25 (pc2 := 28) rfl rfl (fun m3 => ?_)
    exact w12_gives_b28 X hret m3
def f12_gives (a1 : Int32) (m : lu_M) : Option (Int32 × lu_M) :=
  if (m 0 40) = (1 : Int32) then (lu_bv (f12_runs (20 : Int32) m) fun m4 =>
  f12_gives_b14 a1 m4)
  else (f12_gives_b14 a1 m)
set_option maxRecDepth 20000 in
theorem c12_gives (l : Launch)   (a1 : Int32) : lu_C lu_TM l yX12_gives cX12_gives 3 (some .int) 1 21 (fun ρ sa => [.ref (ρ 0), .int a1]) (f12_gives a1) lu_RVi lu_sn := by
  refine lu_met (cls := RX12) rfl (by decide +kernel) (fun _ _ => Nat.le_of_ble_eq_true rfl) ?_
  intro G ρ m hl X hret
  subst hl
  change lu_Ab lu_TM G (lu_Q lu_TM G ρ lu_RVi lu_sn) (f12_gives a1 m) 0 [(0, .ref (ρ 0)), (1, .int a1)] [] ρ 0 0 [] m
  unfold f12_gives
  refine lu_aload_n X dX12_gives_0 (pc2 := 1) rfl rfl 0 rfl ?_
  refine lu_get X fl12_430 rfl kM_0 lM_0 dX12_gives_1 (pc2 := 4) rfl ?_
  refine lu_iconst X dX12_gives_4 (pc2 := 5) rfl ic_1 ?_
  refine lu_icmp_ne (tgt := 14) X dX12_gives_5 (pc2 := 8) rfl (by decide) (fun _ => ?_) (fun _ => ?_)
  · exact w12_gives_b14 X hret m
  · refine lu_aload_n X dX12_gives_8 (pc2 := 9) rfl rfl 0 rfl ?_
    refine lu_bipush X dX12_gives_9 (pc2 := 11) rfl bp_20 ?_
    refine lu_invVv X (c12_runs _ (20 : Int32)) rfl q1762 mvV_12_runs kM_0 lM_0 (by decide) ⟨_, rfl, rfl⟩ rfl rfl (Nat.le_of_ble_eq_true rfl) (Nat.le_of_ble_eq_true rfl) (Nat.le_of_ble_eq_true rfl) ⟨Nat.zero_le _, Nat.zero_le _⟩ dX12_gives_11 (pc2 := 14) rfl rfl (fun m4 => ?_)
    exact w12_gives_b14 X hret m4

theorem dX12_takes_0 : decode cX12_takes 0 = .ok (.aload_n 0, 1) := by decide +kernel
theorem dX12_takes_1 : decode cX12_takes 1 = .ok (.getfield 430, 3) := by decide +kernel
theorem dX12_takes_4 : decode cX12_takes 4 = .ok (.iconst 2, 1) := by decide +kernel
theorem dX12_takes_5 : decode cX12_takes 5 = .ok (.if_icmp .eq 11, 3) := by decide +kernel
theorem dX12_takes_8 : decode cX12_takes 8 = .ok (.aload_n 0, 1) := by decide +kernel
theorem dX12_takes_9 : decode cX12_takes 9 = .ok (.getfield 430, 3) := by decide +kernel
theorem dX12_takes_12 : decode cX12_takes 12 = .ok (.iconst 3, 1) := by decide +kernel
theorem dX12_takes_13 : decode cX12_takes 13 = .ok (.if_icmp .ne 7, 3) := by decide +kernel
theorem dX12_takes_16 : decode cX12_takes 16 = .ok (.iconst 1, 1) := by decide +kernel
theorem dX12_takes_17 : decode cX12_takes 17 = .ok (.goto 4, 3) := by decide +kernel
theorem dX12_takes_20 : decode cX12_takes 20 = .ok (.iconst 0, 1) := by decide +kernel
theorem dX12_takes_21 : decode cX12_takes 21 = .ok (.istore_n 2, 1) := by decide +kernel
theorem dX12_takes_22 : decode cX12_takes 22 = .ok (.iload_n 2, 1) := by decide +kernel
theorem dX12_takes_23 : decode cX12_takes 23 = .ok (.ifCond .eq 9, 3) := by decide +kernel
theorem dX12_takes_26 : decode cX12_takes 26 = .ok (.aload_n 0, 1) := by decide +kernel
theorem dX12_takes_27 : decode cX12_takes 27 = .ok (.bipush 30, 2) := by decide +kernel
theorem dX12_takes_29 : decode cX12_takes 29 = .ok (.invokevirtual 433, 3) := by decide +kernel
theorem dX12_takes_32 : decode cX12_takes 32 = .ok (.aload_n 0, 1) := by decide +kernel
theorem dX12_takes_33 : decode cX12_takes 33 = .ok (.getfield 430, 3) := by decide +kernel
theorem dX12_takes_36 : decode cX12_takes 36 = .ok (.iconst 5, 1) := by decide +kernel
theorem dX12_takes_37 : decode cX12_takes 37 = .ok (.if_icmp .ne 9, 3) := by decide +kernel
theorem dX12_takes_40 : decode cX12_takes 40 = .ok (.aload_n 0, 1) := by decide +kernel
theorem dX12_takes_41 : decode cX12_takes 41 = .ok (.bipush 60, 2) := by decide +kernel
theorem dX12_takes_43 : decode cX12_takes 43 = .ok (.invokevirtual 433, 3) := by decide +kernel
theorem dX12_takes_46 : decode cX12_takes 46 = .ok (.aload_n 0, 1) := by decide +kernel
theorem dX12_takes_47 : decode cX12_takes 47 = .ok (.bipush 11, 2) := by decide +kernel
theorem dX12_takes_49 : decode cX12_takes 49 = .ok (.invokevirtual 433, 3) := by decide +kernel
theorem dX12_takes_52 : decode cX12_takes 52 = .ok (.aload_n 0, 1) := by decide +kernel
theorem dX12_takes_53 : decode cX12_takes 53 = .ok (.iload_n 1, 1) := by decide +kernel
theorem dX12_takes_54 : decode cX12_takes 54 = .ok (.invokevirtual 442, 3) := by decide +kernel
theorem dX12_takes_57 : decode cX12_takes 57 = .ok (.iconst 2, 1) := by decide +kernel
theorem dX12_takes_58 : decode cX12_takes 58 = .ok (.imul, 1) := by decide +kernel
theorem dX12_takes_59 : decode cX12_takes 59 = .ok (.istore_n 3, 1) := by decide +kernel
theorem dX12_takes_60 : decode cX12_takes 60 = .ok (.iload_n 2, 1) := by decide +kernel
theorem dX12_takes_61 : decode cX12_takes 61 = .ok (.ifCond .eq 9, 3) := by decide +kernel
theorem dX12_takes_64 : decode cX12_takes 64 = .ok (.iconst 0, 1) := by decide +kernel
theorem dX12_takes_65 : decode cX12_takes 65 = .ok (.iload_n 3, 1) := by decide +kernel
theorem dX12_takes_66 : decode cX12_takes 66 = .ok (.isub, 1) := by decide +kernel
theorem dX12_takes_67 : decode cX12_takes 67 = .ok (.goto 21, 3) := by decide +kernel
theorem dX12_takes_70 : decode cX12_takes 70 = .ok (.aload_n 0, 1) := by decide +kernel
theorem dX12_takes_71 : decode cX12_takes 71 = .ok (.getfield 430, 3) := by decide +kernel
theorem dX12_takes_74 : decode cX12_takes 74 = .ok (.iconst 5, 1) := by decide +kernel
theorem dX12_takes_75 : decode cX12_takes 75 = .ok (.if_icmp .ne 12, 3) := by decide +kernel
theorem dX12_takes_78 : decode cX12_takes 78 = .ok (.iload_n 3, 1) := by decide +kernel
theorem dX12_takes_79 : decode cX12_takes 79 = .ok (.aload_n 0, 1) := by decide +kernel
theorem dX12_takes_80 : decode cX12_takes 80 = .ok (.getfield 436, 3) := by decide +kernel
theorem dX12_takes_83 : decode cX12_takes 83 = .ok (.ixor, 1) := by decide +kernel
theorem dX12_takes_84 : decode cX12_takes 84 = .ok (.goto 4, 3) := by decide +kernel
theorem dX12_takes_87 : decode cX12_takes 87 = .ok (.iload_n 3, 1) := by decide +kernel
theorem dX12_takes_88 : decode cX12_takes 88 = .ok (.ireturn, 1) := by decide +kernel
def f12_takes_b88  (a1 : Int32) (s0 : Int32) (m : lu_M) : Option (Int32 × lu_M) :=
  some (s0, m)
set_option maxRecDepth 20000 in
theorem w12_takes_b88  {G : lu_G} {ρ : Nat → Nat} {a1 : Int32}  (X : lu_X G RX12 cX12_takes 4 2 43) (hret : (lu_me G).sig.returnType = (some .int))   : ∀ (s0 : Int32) (m : lu_M), lu_Ab lu_TM G (lu_Q lu_TM G ρ lu_RVi lu_sn) (f12_takes_b88 a1 s0 m) 88 [] [.int s0] ρ 0 0 [] m := by
  intro s0 m
  unfold f12_takes_b88
  exact lu_iret X hret dX12_takes_88
def f12_takes_b46  (a1 : Int32) (v2 : Int32) (m : lu_M) : Option (Int32 × lu_M) :=
  lu_bv (f12_runs (11 : Int32) m) fun m1 =>
  lu_bi (f12_gives a1 m1) fun x2 m3 =>
  lu_nm ((x2 * (2 : Int32))) fun x4 =>
  if v2 = 0 then (if (m3 0 40) = (5 : Int32) then (f12_takes_b88 a1 (x4 ^^^ (m3 0 39)) m3)
  else (f12_takes_b88 a1 x4 m3))
  else (f12_takes_b88 a1 ((0 : Int32) - x4) m3)
set_option maxRecDepth 20000 in
theorem w12_takes_b46  {G : lu_G} {ρ : Nat → Nat} {a1 : Int32}  (X : lu_X G RX12 cX12_takes 4 2 43) (hret : (lu_me G).sig.returnType = (some .int))   : ∀ (v2 : Int32) (m : lu_M), lu_Ab lu_TM G (lu_Q lu_TM G ρ lu_RVi lu_sn) (f12_takes_b46 a1 v2 m) 46 [(0, .ref (ρ 0)), (1, .int a1), (2, .int v2)] [] ρ 0 0 [] m := by
  intro v2 m
  unfold f12_takes_b46
  refine lu_aload_n X dX12_takes_46 (pc2 := 47) rfl rfl 0 rfl ?_
  refine lu_bipush X dX12_takes_47 (pc2 := 49) rfl bp_11 ?_
  refine lu_invVv X (c12_runs _ (11 : Int32)) rfl q1762 mvV_12_runs kM_0 lM_0 (by decide) ⟨_, rfl, rfl⟩ rfl rfl (Nat.le_of_ble_eq_true rfl) (Nat.le_of_ble_eq_true rfl) (Nat.le_of_ble_eq_true rfl) ⟨Nat.zero_le _, Nat.zero_le _⟩ dX12_takes_49 (pc2 := 52) rfl rfl (fun m1 => ?_)
  refine lu_aload_n X dX12_takes_52 (pc2 := 53) rfl rfl 0 rfl ?_
  refine lu_iload_n X dX12_takes_53 (pc2 := 54) rfl rfl 1 rfl ?_
  refine lu_invVi X (c12_gives _ a1) rfl q1758 mvV_12_gives kM_0 lM_0 (by decide) ⟨_, rfl, rfl⟩ rfl rfl (Nat.le_of_ble_eq_true rfl) (Nat.le_of_ble_eq_true rfl) (Nat.le_of_ble_eq_true rfl) ⟨Nat.zero_le _, Nat.zero_le _⟩ dX12_takes_54 (pc2 := 57) rfl rfl (fun x2 m3 => ?_)
  refine lu_iconst X dX12_takes_57 (pc2 := 58) rfl ic_2 ?_
  refine lu_imul X dX12_takes_58 (pc2 := 59) rfl ?_
  refine lu_topi (fun x4 => ?_)
  refine lu_istore_n (lv2 := [(3, .int x4), (0, .ref (ρ 0)), (1, .int a1), (2, .int v2)]) X dX12_takes_59 (pc2 := 60) rfl rfl (by decide) rfl ?_
  refine lu_iload_n X dX12_takes_60 (pc2 := 61) rfl rfl 3 rfl ?_
  refine lu_if_eq (tgt := 70) X dX12_takes_61 (pc2 := 64) rfl (by decide) (fun _ => ?_) (fun _ => ?_)
  · refine lu_aload_n X dX12_takes_70 (pc2 := 71) rfl rfl 1 rfl ?_
    refine lu_get X fl12_430 rfl kM_0 lM_0 dX12_takes_71 (pc2 := 74) rfl ?_
    refine lu_iconst X dX12_takes_74 (pc2 := 75) rfl ic_5 ?_
    refine lu_icmp_ne (tgt := 87) X dX12_takes_75 (pc2 := 78) rfl (by decide) (fun _ => ?_) (fun _ => ?_)
    · refine lu_iload_n X dX12_takes_87 (pc2 := 88) rfl rfl 0 rfl ?_
      exact lu_sub [] rfl (w12_takes_b88 X hret x4 m3)
    · refine lu_iload_n X dX12_takes_78 (pc2 := 79) rfl rfl 0 rfl ?_
      refine lu_aload_n X dX12_takes_79 (pc2 := 80) rfl rfl 1 rfl ?_
      refine lu_get X fl12_436 rfl kM_0 lM_0 dX12_takes_80 (pc2 := 83) rfl ?_
      refine lu_ixor X dX12_takes_83 (pc2 := 84) rfl ?_
      refine lu_goto (tgt := 88) X dX12_takes_84 (by decide) ?_
      exact lu_sub [] rfl (w12_takes_b88 X hret (x4 ^^^ (m3 0 39)) m3)
  · refine lu_iconst X dX12_takes_64 (pc2 := 65) rfl ic_0 ?_
    refine lu_iload_n X dX12_takes_65 (pc2 := 66) rfl rfl 0 rfl ?_
    refine lu_isub X dX12_takes_66 (pc2 := 67) rfl ?_
    refine lu_goto (tgt := 88) X dX12_takes_67 (by decide) ?_
    exact lu_sub [] rfl (w12_takes_b88 X hret ((0 : Int32) - x4) m3)
def f12_takes_b32  (a1 : Int32) (v2 : Int32) (m : lu_M) : Option (Int32 × lu_M) :=
  if (m 0 40) = (5 : Int32) then (lu_bv (f12_runs (60 : Int32) m) fun m5 =>
  f12_takes_b46 a1 v2 m5)
  else (f12_takes_b46 a1 v2 m)
set_option maxRecDepth 20000 in
theorem w12_takes_b32  {G : lu_G} {ρ : Nat → Nat} {a1 : Int32}  (X : lu_X G RX12 cX12_takes 4 2 43) (hret : (lu_me G).sig.returnType = (some .int))   : ∀ (v2 : Int32) (m : lu_M), lu_Ab lu_TM G (lu_Q lu_TM G ρ lu_RVi lu_sn) (f12_takes_b32 a1 v2 m) 32 [(0, .ref (ρ 0)), (1, .int a1), (2, .int v2)] [] ρ 0 0 [] m := by
  intro v2 m
  unfold f12_takes_b32
  refine lu_aload_n X dX12_takes_32 (pc2 := 33) rfl rfl 0 rfl ?_
  refine lu_get X fl12_430 rfl kM_0 lM_0 dX12_takes_33 (pc2 := 36) rfl ?_
  refine lu_iconst X dX12_takes_36 (pc2 := 37) rfl ic_5 ?_
  refine lu_icmp_ne (tgt := 46) X dX12_takes_37 (pc2 := 40) rfl (by decide) (fun _ => ?_) (fun _ => ?_)
  · exact w12_takes_b46 X hret v2 m
  · refine lu_aload_n X dX12_takes_40 (pc2 := 41) rfl rfl 0 rfl ?_
    refine lu_bipush X dX12_takes_41 (pc2 := 43) rfl bp_60 ?_
    refine lu_invVv X (c12_runs _ (60 : Int32)) rfl q1762 mvV_12_runs kM_0 lM_0 (by decide) ⟨_, rfl, rfl⟩ rfl rfl (Nat.le_of_ble_eq_true rfl) (Nat.le_of_ble_eq_true rfl) (Nat.le_of_ble_eq_true rfl) ⟨Nat.zero_le _, Nat.zero_le _⟩ dX12_takes_43 (pc2 := 46) rfl rfl (fun m5 => ?_)
    exact w12_takes_b46 X hret v2 m5
def f12_takes_b21  (a1 : Int32) (s0 : Int32) (m : lu_M) : Option (Int32 × lu_M) :=
  if s0 = 0 then (f12_takes_b32 a1 s0 m)
  else (lu_bv (f12_runs (30 : Int32) m) fun m6 =>
  f12_takes_b32 a1 s0 m6)
set_option maxRecDepth 20000 in
theorem w12_takes_b21  {G : lu_G} {ρ : Nat → Nat} {a1 : Int32}  (X : lu_X G RX12 cX12_takes 4 2 43) (hret : (lu_me G).sig.returnType = (some .int))   : ∀ (s0 : Int32) (m : lu_M), lu_Ab lu_TM G (lu_Q lu_TM G ρ lu_RVi lu_sn) (f12_takes_b21 a1 s0 m) 21 [(0, .ref (ρ 0)), (1, .int a1)] [.int s0] ρ 0 0 [] m := by
  intro s0 m
  unfold f12_takes_b21
  refine lu_istore_n (lv2 := [(2, .int s0), (0, .ref (ρ 0)), (1, .int a1)]) X dX12_takes_21 (pc2 := 22) rfl rfl (by decide) rfl ?_
  refine lu_iload_n X dX12_takes_22 (pc2 := 23) rfl rfl 0 rfl ?_
  refine lu_if_eq (tgt := 32) X dX12_takes_23 (pc2 := 26) rfl (by decide) (fun _ => ?_) (fun _ => ?_)
  · exact lu_sub [1, 2, 0] rfl (w12_takes_b32 X hret s0 m)
  · refine lu_aload_n X dX12_takes_26 (pc2 := 27) rfl rfl 1 rfl ?_
    refine lu_bipush X dX12_takes_27 (pc2 := 29) rfl bp_30 ?_
    refine lu_invVv X (c12_runs _ (30 : Int32)) rfl q1762 mvV_12_runs kM_0 lM_0 (by decide) ⟨_, rfl, rfl⟩ rfl rfl (Nat.le_of_ble_eq_true rfl) (Nat.le_of_ble_eq_true rfl) (Nat.le_of_ble_eq_true rfl) ⟨Nat.zero_le _, Nat.zero_le _⟩ dX12_takes_29 (pc2 := 32) rfl rfl (fun m6 => ?_)
    exact lu_sub [1, 2, 0] rfl (w12_takes_b32 X hret s0 m6)
def f12_takes_b16  (a1 : Int32)  (m : lu_M) : Option (Int32 × lu_M) :=
  f12_takes_b21 a1 (1 : Int32) m
set_option maxRecDepth 20000 in
theorem w12_takes_b16  {G : lu_G} {ρ : Nat → Nat} {a1 : Int32}  (X : lu_X G RX12 cX12_takes 4 2 43) (hret : (lu_me G).sig.returnType = (some .int))   : ∀  (m : lu_M), lu_Ab lu_TM G (lu_Q lu_TM G ρ lu_RVi lu_sn) (f12_takes_b16 a1 m) 16 [(0, .ref (ρ 0)), (1, .int a1)] [] ρ 0 0 [] m := by
  intro  m
  unfold f12_takes_b16
  refine lu_iconst X dX12_takes_16 (pc2 := 17) rfl ic_1 ?_
  refine lu_goto (tgt := 21) X dX12_takes_17 (by decide) ?_
  exact w12_takes_b21 X hret (1 : Int32) m
def f12_takes (a1 : Int32) (m : lu_M) : Option (Int32 × lu_M) :=
  if (m 0 40) = (2 : Int32) then (f12_takes_b16 a1 m)
  else (if (m 0 40) = (3 : Int32) then (f12_takes_b16 a1 m)
  else (f12_takes_b21 a1 (0 : Int32) m))
set_option maxRecDepth 20000 in
theorem c12_takes (l : Launch)   (a1 : Int32) : lu_C lu_TM l yX12_takes cX12_takes 4 (some .int) 2 43 (fun ρ sa => [.ref (ρ 0), .int a1]) (f12_takes a1) lu_RVi lu_sn := by
  refine lu_met (cls := RX12) rfl (by decide +kernel) (fun _ _ => Nat.le_of_ble_eq_true rfl) ?_
  intro G ρ m hl X hret
  subst hl
  change lu_Ab lu_TM G (lu_Q lu_TM G ρ lu_RVi lu_sn) (f12_takes a1 m) 0 [(0, .ref (ρ 0)), (1, .int a1)] [] ρ 0 0 [] m
  unfold f12_takes
  refine lu_aload_n X dX12_takes_0 (pc2 := 1) rfl rfl 0 rfl ?_
  refine lu_get X fl12_430 rfl kM_0 lM_0 dX12_takes_1 (pc2 := 4) rfl ?_
  refine lu_iconst X dX12_takes_4 (pc2 := 5) rfl ic_2 ?_
  refine lu_icmp_eq (tgt := 16) X dX12_takes_5 (pc2 := 8) rfl (by decide) (fun _ => ?_) (fun _ => ?_)
  · exact w12_takes_b16 X hret m
  · refine lu_aload_n X dX12_takes_8 (pc2 := 9) rfl rfl 0 rfl ?_
    refine lu_get X fl12_430 rfl kM_0 lM_0 dX12_takes_9 (pc2 := 12) rfl ?_
    refine lu_iconst X dX12_takes_12 (pc2 := 13) rfl ic_3 ?_
    refine lu_icmp_ne (tgt := 20) X dX12_takes_13 (pc2 := 16) rfl (by decide) (fun _ => ?_) (fun _ => ?_)
    · refine lu_iconst X dX12_takes_20 (pc2 := 21) rfl ic_0 ?_
      exact w12_takes_b21 X hret (0 : Int32) m
    · exact w12_takes_b16 X hret m

theorem dX12_plainSplits_0 : decode cX12_plainSplits 0 = .ok (.aload_n 0, 1) := by decide +kernel
theorem dX12_plainSplits_1 : decode cX12_plainSplits 1 = .ok (.bipush 12, 2) := by decide +kernel
theorem dX12_plainSplits_3 : decode cX12_plainSplits 3 = .ok (.invokevirtual 433, 3) := by decide +kernel
theorem dX12_plainSplits_6 : decode cX12_plainSplits 6 = .ok (.aload_n 0, 1) := by decide +kernel
theorem dX12_plainSplits_7 : decode cX12_plainSplits 7 = .ok (.getfield 436, 3) := by decide +kernel
theorem dX12_plainSplits_10 : decode cX12_plainSplits 10 = .ok (.aload_n 0, 1) := by decide +kernel
theorem dX12_plainSplits_11 : decode cX12_plainSplits 11 = .ok (.getfield 439, 3) := by decide +kernel
theorem dX12_plainSplits_14 : decode cX12_plainSplits 14 = .ok (.if_icmp .ne 10, 3) := by decide +kernel
theorem dX12_plainSplits_17 : decode cX12_plainSplits 17 = .ok (.aload_n 0, 1) := by decide +kernel
theorem dX12_plainSplits_18 : decode cX12_plainSplits 18 = .ok (.iconst 1, 1) := by decide +kernel
theorem dX12_plainSplits_19 : decode cX12_plainSplits 19 = .ok (.putfield 424, 3) := by decide +kernel
theorem dX12_plainSplits_22 : decode cX12_plainSplits 22 = .ok (.iconst 0, 1) := by decide +kernel
theorem dX12_plainSplits_23 : decode cX12_plainSplits 23 = .ok (.ireturn, 1) := by decide +kernel
theorem dX12_plainSplits_24 : decode cX12_plainSplits 24 = .ok (.iload_n 1, 1) := by decide +kernel
theorem dX12_plainSplits_25 : decode cX12_plainSplits 25 = .ok (.aload_n 0, 1) := by decide +kernel
theorem dX12_plainSplits_26 : decode cX12_plainSplits 26 = .ok (.getfield 436, 3) := by decide +kernel
theorem dX12_plainSplits_29 : decode cX12_plainSplits 29 = .ok (.aload_n 0, 1) := by decide +kernel
theorem dX12_plainSplits_30 : decode cX12_plainSplits 30 = .ok (.getfield 439, 3) := by decide +kernel
theorem dX12_plainSplits_33 : decode cX12_plainSplits 33 = .ok (.isub, 1) := by decide +kernel
theorem dX12_plainSplits_34 : decode cX12_plainSplits 34 = .ok (.irem, 1) := by decide +kernel
theorem dX12_plainSplits_35 : decode cX12_plainSplits 35 = .ok (.ireturn, 1) := by decide +kernel
def f12_plainSplits (a1 : Int32) (m : lu_M) : Option (Int32 × lu_M) :=
  lu_bv (f12_runs (12 : Int32) m) fun m1 =>
  if (m1 0 39) = (m1 0 38) then (lu_nm (lu_st m1 0 41 (1 : Int32)) fun m2 =>
  some ((0 : Int32), m2))
  else (lu_gd (decide (¬ ((m1 0 39) - (m1 0 38)) = 0)) <|
  some ((a1 - a1 / ((m1 0 39) - (m1 0 38)) * ((m1 0 39) - (m1 0 38))), m1))
set_option maxRecDepth 20000 in
theorem c12_plainSplits (l : Launch)   (a1 : Int32) : lu_C lu_TM l yX12_plainSplits cX12_plainSplits 2 (some .int) 1 21 (fun ρ sa => [.ref (ρ 0), .int a1]) (f12_plainSplits a1) lu_RVi lu_sn := by
  refine lu_met (cls := RX12) rfl (by decide +kernel) (fun _ _ => Nat.le_of_ble_eq_true rfl) ?_
  intro G ρ m hl X hret
  subst hl
  change lu_Ab lu_TM G (lu_Q lu_TM G ρ lu_RVi lu_sn) (f12_plainSplits a1 m) 0 [(0, .ref (ρ 0)), (1, .int a1)] [] ρ 0 0 [] m
  unfold f12_plainSplits
  refine lu_aload_n X dX12_plainSplits_0 (pc2 := 1) rfl rfl 0 rfl ?_
  refine lu_bipush X dX12_plainSplits_1 (pc2 := 3) rfl bp_12 ?_
  refine lu_invVv X (c12_runs _ (12 : Int32)) rfl q1762 mvV_12_runs kM_0 lM_0 (by decide) ⟨_, rfl, rfl⟩ rfl rfl (Nat.le_of_ble_eq_true rfl) (Nat.le_of_ble_eq_true rfl) (Nat.le_of_ble_eq_true rfl) ⟨Nat.zero_le _, Nat.zero_le _⟩ dX12_plainSplits_3 (pc2 := 6) rfl rfl (fun m1 => ?_)
  refine lu_aload_n X dX12_plainSplits_6 (pc2 := 7) rfl rfl 0 rfl ?_
  refine lu_get X fl12_436 rfl kM_0 lM_0 dX12_plainSplits_7 (pc2 := 10) rfl ?_
  refine lu_aload_n X dX12_plainSplits_10 (pc2 := 11) rfl rfl 0 rfl ?_
  refine lu_get X fl12_439 rfl kM_0 lM_0 dX12_plainSplits_11 (pc2 := 14) rfl ?_
  refine lu_icmp_ne (tgt := 24) X dX12_plainSplits_14 (pc2 := 17) rfl (by decide) (fun _ => ?_) (fun _ => ?_)
  · refine lu_iload_n X dX12_plainSplits_24 (pc2 := 25) rfl rfl 1 rfl ?_
    refine lu_aload_n X dX12_plainSplits_25 (pc2 := 26) rfl rfl 0 rfl ?_
    refine lu_get X fl12_436 rfl kM_0 lM_0 dX12_plainSplits_26 (pc2 := 29) rfl ?_
    refine lu_aload_n X dX12_plainSplits_29 (pc2 := 30) rfl rfl 0 rfl ?_
    refine lu_get X fl12_439 rfl kM_0 lM_0 dX12_plainSplits_30 (pc2 := 33) rfl ?_
    refine lu_isub X dX12_plainSplits_33 (pc2 := 34) rfl ?_
    refine lu_irem X dX12_plainSplits_34 (pc2 := 35) rfl ?_
    exact lu_iret X hret dX12_plainSplits_35
  · refine lu_aload_n X dX12_plainSplits_17 (pc2 := 18) rfl rfl 0 rfl ?_
    refine lu_iconst X dX12_plainSplits_18 (pc2 := 19) rfl ic_1 ?_
    refine lu_putzK X (by decide) fl12_424 rfl (Or.inl (by decide)) rfl (by decide +kernel) kM_0 lM_0 dX12_plainSplits_19 (pc2 := 22) rfl (fun m2 => ?_)
    refine lu_iconst X dX12_plainSplits_22 (pc2 := 23) rfl ic_0 ?_
    exact lu_iret X hret dX12_plainSplits_23

theorem dX12_splits_0 : decode cX12_splits 0 = .ok (.aload_n 0, 1) := by decide +kernel
theorem dX12_splits_1 : decode cX12_splits 1 = .ok (.getfield 430, 3) := by decide +kernel
theorem dX12_splits_4 : decode cX12_splits 4 = .ok (.iconst 4, 1) := by decide +kernel
theorem dX12_splits_5 : decode cX12_splits 5 = .ok (.if_icmp .ne 17, 3) := by decide +kernel
theorem dX12_splits_8 : decode cX12_splits 8 = .ok (.aload_n 0, 1) := by decide +kernel
theorem dX12_splits_9 : decode cX12_splits 9 = .ok (.bipush 40, 2) := by decide +kernel
theorem dX12_splits_11 : decode cX12_splits 11 = .ok (.invokevirtual 433, 3) := by decide +kernel
theorem dX12_splits_14 : decode cX12_splits 14 = .ok (.aload_n 0, 1) := by decide +kernel
theorem dX12_splits_15 : decode cX12_splits 15 = .ok (.iload_n 1, 1) := by decide +kernel
theorem dX12_splits_16 : decode cX12_splits 16 = .ok (.iconst 5, 1) := by decide +kernel
theorem dX12_splits_17 : decode cX12_splits 17 = .ok (.iadd, 1) := by decide +kernel
theorem dX12_splits_18 : decode cX12_splits 18 = .ok (.invokevirtual 445, 3) := by decide +kernel
theorem dX12_splits_21 : decode cX12_splits 21 = .ok (.ireturn, 1) := by decide +kernel
theorem dX12_splits_22 : decode cX12_splits 22 = .ok (.aload_n 0, 1) := by decide +kernel
theorem dX12_splits_23 : decode cX12_splits 23 = .ok (.getfield 430, 3) := by decide +kernel
theorem dX12_splits_26 : decode cX12_splits 26 = .ok (.iconst 5, 1) := by decide +kernel
theorem dX12_splits_27 : decode cX12_splits 27 = .ok (.if_icmp .ne 45, 3) := by decide +kernel
theorem dX12_splits_30 : decode cX12_splits 30 = .ok (.aload_n 0, 1) := by decide +kernel
theorem dX12_splits_31 : decode cX12_splits 31 = .ok (.bipush 61, 2) := by decide +kernel
theorem dX12_splits_33 : decode cX12_splits 33 = .ok (.invokevirtual 433, 3) := by decide +kernel
theorem dX12_splits_36 : decode cX12_splits 36 = .ok (.aload_n 0, 1) := by decide +kernel
theorem dX12_splits_37 : decode cX12_splits 37 = .ok (.bipush 40, 2) := by decide +kernel
theorem dX12_splits_39 : decode cX12_splits 39 = .ok (.invokevirtual 433, 3) := by decide +kernel
theorem dX12_splits_42 : decode cX12_splits 42 = .ok (.aload_n 0, 1) := by decide +kernel
theorem dX12_splits_43 : decode cX12_splits 43 = .ok (.iload_n 1, 1) := by decide +kernel
theorem dX12_splits_44 : decode cX12_splits 44 = .ok (.iconst 5, 1) := by decide +kernel
theorem dX12_splits_45 : decode cX12_splits 45 = .ok (.iadd, 1) := by decide +kernel
theorem dX12_splits_46 : decode cX12_splits 46 = .ok (.invokevirtual 445, 3) := by decide +kernel
theorem dX12_splits_49 : decode cX12_splits 49 = .ok (.istore_n 2, 1) := by decide +kernel
theorem dX12_splits_50 : decode cX12_splits 50 = .ok (.aload_n 0, 1) := by decide +kernel
theorem dX12_splits_51 : decode cX12_splits 51 = .ok (.getfield 424, 3) := by decide +kernel
theorem dX12_splits_54 : decode cX12_splits 54 = .ok (.ifCond .eq 7, 3) := by decide +kernel
theorem dX12_splits_57 : decode cX12_splits 57 = .ok (.iconst 0, 1) := by decide +kernel
theorem dX12_splits_58 : decode cX12_splits 58 = .ok (.goto 13, 3) := by decide +kernel
theorem dX12_splits_61 : decode cX12_splits 61 = .ok (.iload_n 2, 1) := by decide +kernel
theorem dX12_splits_62 : decode cX12_splits 62 = .ok (.aload_n 0, 1) := by decide +kernel
theorem dX12_splits_63 : decode cX12_splits 63 = .ok (.aload_n 0, 1) := by decide +kernel
theorem dX12_splits_64 : decode cX12_splits 64 = .ok (.getfield 439, 3) := by decide +kernel
theorem dX12_splits_67 : decode cX12_splits 67 = .ok (.invokevirtual 442, 3) := by decide +kernel
theorem dX12_splits_70 : decode cX12_splits 70 = .ok (.iadd, 1) := by decide +kernel
theorem dX12_splits_71 : decode cX12_splits 71 = .ok (.ireturn, 1) := by decide +kernel
theorem dX12_splits_72 : decode cX12_splits 72 = .ok (.aload_n 0, 1) := by decide +kernel
theorem dX12_splits_73 : decode cX12_splits 73 = .ok (.iload_n 1, 1) := by decide +kernel
theorem dX12_splits_74 : decode cX12_splits 74 = .ok (.invokevirtual 445, 3) := by decide +kernel
theorem dX12_splits_77 : decode cX12_splits 77 = .ok (.ireturn, 1) := by decide +kernel
def f12_splits_b71  (a1 : Int32) (s0 : Int32) (m : lu_M) : Option (Int32 × lu_M) :=
  some (s0, m)
set_option maxRecDepth 20000 in
theorem w12_splits_b71  {G : lu_G} {ρ : Nat → Nat} {a1 : Int32}  (X : lu_X G RX12 cX12_splits 3 2 43) (hret : (lu_me G).sig.returnType = (some .int))   : ∀ (s0 : Int32) (m : lu_M), lu_Ab lu_TM G (lu_Q lu_TM G ρ lu_RVi lu_sn) (f12_splits_b71 a1 s0 m) 71 [] [.int s0] ρ 0 0 [] m := by
  intro s0 m
  unfold f12_splits_b71
  exact lu_iret X hret dX12_splits_71
def f12_splits (a1 : Int32) (m : lu_M) : Option (Int32 × lu_M) :=
  if (m 0 40) = (4 : Int32) then (lu_bv (f12_runs (40 : Int32) m) fun m9 =>
  lu_bi (f12_plainSplits (a1 + (5 : Int32)) m9) fun x10 m11 =>
  some (x10, m11))
  else (if (m 0 40) = (5 : Int32) then (lu_bv (f12_runs (61 : Int32) m) fun m3 =>
  lu_bv (f12_runs (40 : Int32) m3) fun m4 =>
  lu_bi (f12_plainSplits (a1 + (5 : Int32)) m4) fun x5 m6 =>
  if (m6 0 41) = 0 then (lu_bi (f12_gives (m6 0 38) m6) fun x7 m8 =>
  f12_splits_b71 a1 (x5 + x7) m8)
  else (f12_splits_b71 a1 (0 : Int32) m6))
  else (lu_bi (f12_plainSplits a1 m) fun x1 m2 =>
  some (x1, m2)))
set_option maxRecDepth 20000 in
theorem c12_splits (l : Launch)   (a1 : Int32) : lu_C lu_TM l yX12_splits cX12_splits 3 (some .int) 2 43 (fun ρ sa => [.ref (ρ 0), .int a1]) (f12_splits a1) lu_RVi lu_sn := by
  refine lu_met (cls := RX12) rfl (by decide +kernel) (fun _ _ => Nat.le_of_ble_eq_true rfl) ?_
  intro G ρ m hl X hret
  subst hl
  change lu_Ab lu_TM G (lu_Q lu_TM G ρ lu_RVi lu_sn) (f12_splits a1 m) 0 [(0, .ref (ρ 0)), (1, .int a1)] [] ρ 0 0 [] m
  unfold f12_splits
  refine lu_aload_n X dX12_splits_0 (pc2 := 1) rfl rfl 0 rfl ?_
  refine lu_get X fl12_430 rfl kM_0 lM_0 dX12_splits_1 (pc2 := 4) rfl ?_
  refine lu_iconst X dX12_splits_4 (pc2 := 5) rfl ic_4 ?_
  refine lu_icmp_ne (tgt := 22) X dX12_splits_5 (pc2 := 8) rfl (by decide) (fun _ => ?_) (fun _ => ?_)
  · refine lu_aload_n X dX12_splits_22 (pc2 := 23) rfl rfl 0 rfl ?_
    refine lu_get X fl12_430 rfl kM_0 lM_0 dX12_splits_23 (pc2 := 26) rfl ?_
    refine lu_iconst X dX12_splits_26 (pc2 := 27) rfl ic_5 ?_
    refine lu_icmp_ne (tgt := 72) X dX12_splits_27 (pc2 := 30) rfl (by decide) (fun _ => ?_) (fun _ => ?_)
    · refine lu_aload_n X dX12_splits_72 (pc2 := 73) rfl rfl 0 rfl ?_
      refine lu_iload_n X dX12_splits_73 (pc2 := 74) rfl rfl 1 rfl ?_
      refine lu_invVi X (c12_plainSplits _ a1) rfl q1774 mvV_12_plainSplits kM_0 lM_0 (by decide) ⟨_, rfl, rfl⟩ rfl rfl (Nat.le_of_ble_eq_true rfl) (Nat.le_of_ble_eq_true rfl) (Nat.le_of_ble_eq_true rfl) ⟨Nat.zero_le _, Nat.zero_le _⟩ dX12_splits_74 (pc2 := 77) rfl rfl (fun x1 m2 => ?_)
      exact lu_iret X hret dX12_splits_77
    · refine lu_aload_n X dX12_splits_30 (pc2 := 31) rfl rfl 0 rfl ?_
      refine lu_bipush X dX12_splits_31 (pc2 := 33) rfl bp_61 ?_
      refine lu_invVv X (c12_runs _ (61 : Int32)) rfl q1762 mvV_12_runs kM_0 lM_0 (by decide) ⟨_, rfl, rfl⟩ rfl rfl (Nat.le_of_ble_eq_true rfl) (Nat.le_of_ble_eq_true rfl) (Nat.le_of_ble_eq_true rfl) ⟨Nat.zero_le _, Nat.zero_le _⟩ dX12_splits_33 (pc2 := 36) rfl rfl (fun m3 => ?_)
      refine lu_aload_n X dX12_splits_36 (pc2 := 37) rfl rfl 0 rfl ?_
      refine lu_bipush X dX12_splits_37 (pc2 := 39) rfl bp_40 ?_
      refine lu_invVv X (c12_runs _ (40 : Int32)) rfl q1762 mvV_12_runs kM_0 lM_0 (by decide) ⟨_, rfl, rfl⟩ rfl rfl (Nat.le_of_ble_eq_true rfl) (Nat.le_of_ble_eq_true rfl) (Nat.le_of_ble_eq_true rfl) ⟨Nat.zero_le _, Nat.zero_le _⟩ dX12_splits_39 (pc2 := 42) rfl rfl (fun m4 => ?_)
      refine lu_aload_n X dX12_splits_42 (pc2 := 43) rfl rfl 0 rfl ?_
      refine lu_iload_n X dX12_splits_43 (pc2 := 44) rfl rfl 1 rfl ?_
      refine lu_iconst X dX12_splits_44 (pc2 := 45) rfl ic_5 ?_
      refine lu_iadd X dX12_splits_45 (pc2 := 46) rfl ?_
      refine lu_invVi X (c12_plainSplits _ (a1 + (5 : Int32))) rfl q1774 mvV_12_plainSplits kM_0 lM_0 (by decide) ⟨_, rfl, rfl⟩ rfl rfl (Nat.le_of_ble_eq_true rfl) (Nat.le_of_ble_eq_true rfl) (Nat.le_of_ble_eq_true rfl) ⟨Nat.zero_le _, Nat.zero_le _⟩ dX12_splits_46 (pc2 := 49) rfl rfl (fun x5 m6 => ?_)
      refine lu_istore_n (lv2 := [(2, .int x5), (0, .ref (ρ 0)), (1, .int a1)]) X dX12_splits_49 (pc2 := 50) rfl rfl (by decide) rfl ?_
      refine lu_aload_n X dX12_splits_50 (pc2 := 51) rfl rfl 1 rfl ?_
      refine lu_get X fl12_424 rfl kM_0 lM_0 dX12_splits_51 (pc2 := 54) rfl ?_
      refine lu_if_eq (tgt := 61) X dX12_splits_54 (pc2 := 57) rfl (by decide) (fun _ => ?_) (fun _ => ?_)
      · refine lu_iload_n X dX12_splits_61 (pc2 := 62) rfl rfl 0 rfl ?_
        refine lu_aload_n X dX12_splits_62 (pc2 := 63) rfl rfl 1 rfl ?_
        refine lu_aload_n X dX12_splits_63 (pc2 := 64) rfl rfl 1 rfl ?_
        refine lu_get X fl12_439 rfl kM_0 lM_0 dX12_splits_64 (pc2 := 67) rfl ?_
        refine lu_invVi X (c12_gives _ (m6 0 38)) rfl q1758 mvV_12_gives kM_0 lM_0 (by decide) ⟨_, rfl, rfl⟩ rfl rfl (Nat.le_of_ble_eq_true rfl) (Nat.le_of_ble_eq_true rfl) (Nat.le_of_ble_eq_true rfl) ⟨Nat.zero_le _, Nat.zero_le _⟩ dX12_splits_67 (pc2 := 70) rfl rfl (fun x7 m8 => ?_)
        refine lu_iadd X dX12_splits_70 (pc2 := 71) rfl ?_
        exact lu_sub [] rfl (w12_splits_b71 X hret (x5 + x7) m8)
      · refine lu_iconst X dX12_splits_57 (pc2 := 58) rfl ic_0 ?_
        refine lu_goto (tgt := 71) X dX12_splits_58 (by decide) ?_
        exact lu_sub [] rfl (w12_splits_b71 X hret (0 : Int32) m6)
  · refine lu_aload_n X dX12_splits_8 (pc2 := 9) rfl rfl 0 rfl ?_
    refine lu_bipush X dX12_splits_9 (pc2 := 11) rfl bp_40 ?_
    refine lu_invVv X (c12_runs _ (40 : Int32)) rfl q1762 mvV_12_runs kM_0 lM_0 (by decide) ⟨_, rfl, rfl⟩ rfl rfl (Nat.le_of_ble_eq_true rfl) (Nat.le_of_ble_eq_true rfl) (Nat.le_of_ble_eq_true rfl) ⟨Nat.zero_le _, Nat.zero_le _⟩ dX12_splits_11 (pc2 := 14) rfl rfl (fun m9 => ?_)
    refine lu_aload_n X dX12_splits_14 (pc2 := 15) rfl rfl 0 rfl ?_
    refine lu_iload_n X dX12_splits_15 (pc2 := 16) rfl rfl 1 rfl ?_
    refine lu_iconst X dX12_splits_16 (pc2 := 17) rfl ic_5 ?_
    refine lu_iadd X dX12_splits_17 (pc2 := 18) rfl ?_
    refine lu_invVi X (c12_plainSplits _ (a1 + (5 : Int32))) rfl q1774 mvV_12_plainSplits kM_0 lM_0 (by decide) ⟨_, rfl, rfl⟩ rfl rfl (Nat.le_of_ble_eq_true rfl) (Nat.le_of_ble_eq_true rfl) (Nat.le_of_ble_eq_true rfl) ⟨Nat.zero_le _, Nat.zero_le _⟩ dX12_splits_18 (pc2 := 21) rfl rfl (fun x10 m11 => ?_)
    exact lu_iret X hret dX12_splits_21

theorem dX12_swears_0 : decode cX12_swears 0 = .ok (.aload_n 0, 1) := by decide +kernel
theorem dX12_swears_1 : decode cX12_swears 1 = .ok (.getfield 430, 3) := by decide +kernel
theorem dX12_swears_4 : decode cX12_swears 4 = .ok (.iconst 3, 1) := by decide +kernel
theorem dX12_swears_5 : decode cX12_swears 5 = .ok (.if_icmp .ne 9, 3) := by decide +kernel
theorem dX12_swears_8 : decode cX12_swears 8 = .ok (.aload_n 0, 1) := by decide +kernel
theorem dX12_swears_9 : decode cX12_swears 9 = .ok (.bipush 51, 2) := by decide +kernel
theorem dX12_swears_11 : decode cX12_swears 11 = .ok (.invokevirtual 433, 3) := by decide +kernel
theorem dX12_swears_14 : decode cX12_swears 14 = .ok (.aload_n 0, 1) := by decide +kernel
theorem dX12_swears_15 : decode cX12_swears 15 = .ok (.bipush 13, 2) := by decide +kernel
theorem dX12_swears_17 : decode cX12_swears 17 = .ok (.invokevirtual 433, 3) := by decide +kernel
theorem dX12_swears_20 : decode cX12_swears 20 = .ok (.aload_n 0, 1) := by decide +kernel
theorem dX12_swears_21 : decode cX12_swears 21 = .ok (.iload_n 1, 1) := by decide +kernel
theorem dX12_swears_22 : decode cX12_swears 22 = .ok (.invokevirtual 448, 3) := by decide +kernel
theorem dX12_swears_25 : decode cX12_swears 25 = .ok (.aload_n 0, 1) := by decide +kernel
theorem dX12_swears_26 : decode cX12_swears 26 = .ok (.getfield 439, 3) := by decide +kernel
theorem dX12_swears_29 : decode cX12_swears 29 = .ok (.ixor, 1) := by decide +kernel
theorem dX12_swears_30 : decode cX12_swears 30 = .ok (.istore_n 2, 1) := by decide +kernel
theorem dX12_swears_31 : decode cX12_swears 31 = .ok (.aload_n 0, 1) := by decide +kernel
theorem dX12_swears_32 : decode cX12_swears 32 = .ok (.getfield 430, 3) := by decide +kernel
theorem dX12_swears_35 : decode cX12_swears 35 = .ok (.iconst 3, 1) := by decide +kernel
theorem dX12_swears_36 : decode cX12_swears 36 = .ok (.if_icmp .ne 16, 3) := by decide +kernel
theorem dX12_swears_39 : decode cX12_swears 39 = .ok (.iload_n 2, 1) := by decide +kernel
theorem dX12_swears_40 : decode cX12_swears 40 = .ok (.aload_n 0, 1) := by decide +kernel
theorem dX12_swears_41 : decode cX12_swears 41 = .ok (.aload_n 0, 1) := by decide +kernel
theorem dX12_swears_42 : decode cX12_swears 42 = .ok (.getfield 436, 3) := by decide +kernel
theorem dX12_swears_45 : decode cX12_swears 45 = .ok (.invokevirtual 451, 3) := by decide +kernel
theorem dX12_swears_48 : decode cX12_swears 48 = .ok (.isub, 1) := by decide +kernel
theorem dX12_swears_49 : decode cX12_swears 49 = .ok (.goto 4, 3) := by decide +kernel
theorem dX12_swears_52 : decode cX12_swears 52 = .ok (.iload_n 2, 1) := by decide +kernel
theorem dX12_swears_53 : decode cX12_swears 53 = .ok (.ireturn, 1) := by decide +kernel
def f12_swears_b53  (a1 : Int32) (s0 : Int32) (m : lu_M) : Option (Int32 × lu_M) :=
  some (s0, m)
set_option maxRecDepth 20000 in
theorem w12_swears_b53  {G : lu_G} {ρ : Nat → Nat} {a1 : Int32}  (X : lu_X G RX12 cX12_swears 3 3 66) (hret : (lu_me G).sig.returnType = (some .int))   : ∀ (s0 : Int32) (m : lu_M), lu_Ab lu_TM G (lu_Q lu_TM G ρ lu_RVi lu_sn) (f12_swears_b53 a1 s0 m) 53 [] [.int s0] ρ 0 0 [] m := by
  intro s0 m
  unfold f12_swears_b53
  exact lu_iret X hret dX12_swears_53
def f12_swears_b14  (a1 : Int32)  (m : lu_M) : Option (Int32 × lu_M) :=
  lu_bv (f12_runs (13 : Int32) m) fun m1 =>
  lu_bi (f12_takes a1 m1) fun x2 m3 =>
  lu_nm ((x2 ^^^ (m3 0 38))) fun x4 =>
  if (m3 0 40) = (3 : Int32) then (lu_bi (f12_splits (m3 0 39) m3) fun x5 m6 =>
  f12_swears_b53 a1 (x4 - x5) m6)
  else (f12_swears_b53 a1 x4 m3)
set_option maxRecDepth 20000 in
theorem w12_swears_b14  {G : lu_G} {ρ : Nat → Nat} {a1 : Int32}  (X : lu_X G RX12 cX12_swears 3 3 66) (hret : (lu_me G).sig.returnType = (some .int))   : ∀  (m : lu_M), lu_Ab lu_TM G (lu_Q lu_TM G ρ lu_RVi lu_sn) (f12_swears_b14 a1 m) 14 [(0, .ref (ρ 0)), (1, .int a1)] [] ρ 0 0 [] m := by
  intro  m
  unfold f12_swears_b14
  refine lu_aload_n X dX12_swears_14 (pc2 := 15) rfl rfl 0 rfl ?_
  refine lu_bipush X dX12_swears_15 (pc2 := 17) rfl bp_13 ?_
  refine lu_invVv X (c12_runs _ (13 : Int32)) rfl q1762 mvV_12_runs kM_0 lM_0 (by decide) ⟨_, rfl, rfl⟩ rfl rfl (Nat.le_of_ble_eq_true rfl) (Nat.le_of_ble_eq_true rfl) (Nat.le_of_ble_eq_true rfl) ⟨Nat.zero_le _, Nat.zero_le _⟩ dX12_swears_17 (pc2 := 20) rfl rfl (fun m1 => ?_)
  refine lu_aload_n X dX12_swears_20 (pc2 := 21) rfl rfl 0 rfl ?_
  refine lu_iload_n X dX12_swears_21 (pc2 := 22) rfl rfl 1 rfl ?_
  refine lu_invVi X (c12_takes _ a1) rfl q1766 mvV_12_takes kM_0 lM_0 (by decide) ⟨_, rfl, rfl⟩ rfl rfl (Nat.le_of_ble_eq_true rfl) (Nat.le_of_ble_eq_true rfl) (Nat.le_of_ble_eq_true rfl) ⟨Nat.zero_le _, Nat.zero_le _⟩ dX12_swears_22 (pc2 := 25) rfl rfl (fun x2 m3 => ?_)
  refine lu_aload_n X dX12_swears_25 (pc2 := 26) rfl rfl 0 rfl ?_
  refine lu_get X fl12_439 rfl kM_0 lM_0 dX12_swears_26 (pc2 := 29) rfl ?_
  refine lu_ixor X dX12_swears_29 (pc2 := 30) rfl ?_
  refine lu_topi (fun x4 => ?_)
  refine lu_istore_n (lv2 := [(2, .int x4), (0, .ref (ρ 0)), (1, .int a1)]) X dX12_swears_30 (pc2 := 31) rfl rfl (by decide) rfl ?_
  refine lu_aload_n X dX12_swears_31 (pc2 := 32) rfl rfl 1 rfl ?_
  refine lu_get X fl12_430 rfl kM_0 lM_0 dX12_swears_32 (pc2 := 35) rfl ?_
  refine lu_iconst X dX12_swears_35 (pc2 := 36) rfl ic_3 ?_
  refine lu_icmp_ne (tgt := 52) X dX12_swears_36 (pc2 := 39) rfl (by decide) (fun _ => ?_) (fun _ => ?_)
  · refine lu_iload_n X dX12_swears_52 (pc2 := 53) rfl rfl 0 rfl ?_
    exact lu_sub [] rfl (w12_swears_b53 X hret x4 m3)
  · refine lu_iload_n X dX12_swears_39 (pc2 := 40) rfl rfl 0 rfl ?_
    refine lu_aload_n X dX12_swears_40 (pc2 := 41) rfl rfl 1 rfl ?_
    refine lu_aload_n X dX12_swears_41 (pc2 := 42) rfl rfl 1 rfl ?_
    refine lu_get X fl12_436 rfl kM_0 lM_0 dX12_swears_42 (pc2 := 45) rfl ?_
    refine lu_invVi X (c12_splits _ (m3 0 39)) rfl q1770 mvV_12_splits kM_0 lM_0 (by decide) ⟨_, rfl, rfl⟩ rfl rfl (Nat.le_of_ble_eq_true rfl) (Nat.le_of_ble_eq_true rfl) (Nat.le_of_ble_eq_true rfl) ⟨Nat.zero_le _, Nat.zero_le _⟩ dX12_swears_45 (pc2 := 48) rfl rfl (fun x5 m6 => ?_)
    refine lu_isub X dX12_swears_48 (pc2 := 49) rfl ?_
    refine lu_goto (tgt := 53) X dX12_swears_49 (by decide) ?_
    exact lu_sub [] rfl (w12_swears_b53 X hret (x4 - x5) m6)
def f12_swears (a1 : Int32) (m : lu_M) : Option (Int32 × lu_M) :=
  if (m 0 40) = (3 : Int32) then (lu_bv (f12_runs (51 : Int32) m) fun m7 =>
  f12_swears_b14 a1 m7)
  else (f12_swears_b14 a1 m)
set_option maxRecDepth 20000 in
theorem c12_swears (l : Launch)   (a1 : Int32) : lu_C lu_TM l yX12_swears cX12_swears 3 (some .int) 3 66 (fun ρ sa => [.ref (ρ 0), .int a1]) (f12_swears a1) lu_RVi lu_sn := by
  refine lu_met (cls := RX12) rfl (by decide +kernel) (fun _ _ => Nat.le_of_ble_eq_true rfl) ?_
  intro G ρ m hl X hret
  subst hl
  change lu_Ab lu_TM G (lu_Q lu_TM G ρ lu_RVi lu_sn) (f12_swears a1 m) 0 [(0, .ref (ρ 0)), (1, .int a1)] [] ρ 0 0 [] m
  unfold f12_swears
  refine lu_aload_n X dX12_swears_0 (pc2 := 1) rfl rfl 0 rfl ?_
  refine lu_get X fl12_430 rfl kM_0 lM_0 dX12_swears_1 (pc2 := 4) rfl ?_
  refine lu_iconst X dX12_swears_4 (pc2 := 5) rfl ic_3 ?_
  refine lu_icmp_ne (tgt := 14) X dX12_swears_5 (pc2 := 8) rfl (by decide) (fun _ => ?_) (fun _ => ?_)
  · exact w12_swears_b14 X hret m
  · refine lu_aload_n X dX12_swears_8 (pc2 := 9) rfl rfl 0 rfl ?_
    refine lu_bipush X dX12_swears_9 (pc2 := 11) rfl bp_51 ?_
    refine lu_invVv X (c12_runs _ (51 : Int32)) rfl q1762 mvV_12_runs kM_0 lM_0 (by decide) ⟨_, rfl, rfl⟩ rfl rfl (Nat.le_of_ble_eq_true rfl) (Nat.le_of_ble_eq_true rfl) (Nat.le_of_ble_eq_true rfl) ⟨Nat.zero_le _, Nat.zero_le _⟩ dX12_swears_11 (pc2 := 14) rfl rfl (fun m7 => ?_)
    exact w12_swears_b14 X hret m7

theorem dX12_act_0 : decode cX12_act 0 = .ok (.aload_n 0, 1) := by decide +kernel
theorem dX12_act_1 : decode cX12_act 1 = .ok (.iconst 0, 1) := by decide +kernel
theorem dX12_act_2 : decode cX12_act 2 = .ok (.putfield 427, 3) := by decide +kernel
theorem dX12_act_5 : decode cX12_act 5 = .ok (.aload_n 0, 1) := by decide +kernel
theorem dX12_act_6 : decode cX12_act 6 = .ok (.iconst 0, 1) := by decide +kernel
theorem dX12_act_7 : decode cX12_act 7 = .ok (.putfield 424, 3) := by decide +kernel
theorem dX12_act_10 : decode cX12_act 10 = .ok (.aload_n 0, 1) := by decide +kernel
theorem dX12_act_11 : decode cX12_act 11 = .ok (.aload_n 0, 1) := by decide +kernel
theorem dX12_act_12 : decode cX12_act 12 = .ok (.iload_n 1, 1) := by decide +kernel
theorem dX12_act_13 : decode cX12_act 13 = .ok (.invokevirtual 421, 3) := by decide +kernel
theorem dX12_act_16 : decode cX12_act 16 = .ok (.putfield 439, 3) := by decide +kernel
theorem dX12_act_19 : decode cX12_act 19 = .ok (.aload_n 0, 1) := by decide +kernel
theorem dX12_act_20 : decode cX12_act 20 = .ok (.getfield 439, 3) := by decide +kernel
theorem dX12_act_23 : decode cX12_act 23 = .ok (.ifCond .lt 15, 3) := by decide +kernel
theorem dX12_act_26 : decode cX12_act 26 = .ok (.iload_n 2, 1) := by decide +kernel
theorem dX12_act_27 : decode cX12_act 27 = .ok (.i2l, 1) := by decide +kernel
theorem dX12_act_28 : decode cX12_act 28 = .ok (.lconst 0, 1) := by decide +kernel
theorem dX12_act_29 : decode cX12_act 29 = .ok (.ldc2_w 220, 3) := by decide +kernel
theorem dX12_act_32 : decode cX12_act 32 = .ok (.invokestatic 64, 3) := by decide +kernel
theorem dX12_act_35 : decode cX12_act 35 = .ok (.ifCond .ne 5, 3) := by decide +kernel
theorem dX12_act_38 : decode cX12_act 38 = .ok (.iconst 0, 1) := by decide +kernel
theorem dX12_act_39 : decode cX12_act 39 = .ok (.ireturn, 1) := by decide +kernel
theorem dX12_act_40 : decode cX12_act 40 = .ok (.aload_n 0, 1) := by decide +kernel
theorem dX12_act_41 : decode cX12_act 41 = .ok (.aload_n 0, 1) := by decide +kernel
theorem dX12_act_42 : decode cX12_act 42 = .ok (.aload_n 0, 1) := by decide +kernel
theorem dX12_act_43 : decode cX12_act 43 = .ok (.getfield 439, 3) := by decide +kernel
theorem dX12_act_46 : decode cX12_act 46 = .ok (.iconst 1, 1) := by decide +kernel
theorem dX12_act_47 : decode cX12_act 47 = .ok (.invokevirtual 83, 3) := by decide +kernel
theorem dX12_act_50 : decode cX12_act 50 = .ok (.putfield 436, 3) := by decide +kernel
theorem dX12_act_53 : decode cX12_act 53 = .ok (.aload_n 0, 1) := by decide +kernel
theorem dX12_act_54 : decode cX12_act 54 = .ok (.aload_n 0, 1) := by decide +kernel
theorem dX12_act_55 : decode cX12_act 55 = .ok (.aload_n 0, 1) := by decide +kernel
theorem dX12_act_56 : decode cX12_act 56 = .ok (.getfield 439, 3) := by decide +kernel
theorem dX12_act_59 : decode cX12_act 59 = .ok (.iconst 0, 1) := by decide +kernel
theorem dX12_act_60 : decode cX12_act 60 = .ok (.invokevirtual 83, 3) := by decide +kernel
theorem dX12_act_63 : decode cX12_act 63 = .ok (.putfield 430, 3) := by decide +kernel
theorem dX12_act_66 : decode cX12_act 66 = .ok (.iload_n 2, 1) := by decide +kernel
theorem dX12_act_67 : decode cX12_act 67 = .ok (.ifCond .ne 11, 3) := by decide +kernel
theorem dX12_act_70 : decode cX12_act 70 = .ok (.aload_n 0, 1) := by decide +kernel
theorem dX12_act_71 : decode cX12_act 71 = .ok (.iload_n 3, 1) := by decide +kernel
theorem dX12_act_72 : decode cX12_act 72 = .ok (.invokevirtual 442, 3) := by decide +kernel
theorem dX12_act_75 : decode cX12_act 75 = .ok (.goto 34, 3) := by decide +kernel
theorem dX12_act_78 : decode cX12_act 78 = .ok (.iload_n 2, 1) := by decide +kernel
theorem dX12_act_79 : decode cX12_act 79 = .ok (.iconst 1, 1) := by decide +kernel
theorem dX12_act_80 : decode cX12_act 80 = .ok (.if_icmp .ne 11, 3) := by decide +kernel
theorem dX12_act_83 : decode cX12_act 83 = .ok (.aload_n 0, 1) := by decide +kernel
theorem dX12_act_84 : decode cX12_act 84 = .ok (.iload_n 3, 1) := by decide +kernel
theorem dX12_act_85 : decode cX12_act 85 = .ok (.invokevirtual 448, 3) := by decide +kernel
theorem dX12_act_88 : decode cX12_act 88 = .ok (.goto 21, 3) := by decide +kernel
theorem dX12_act_91 : decode cX12_act 91 = .ok (.iload_n 2, 1) := by decide +kernel
theorem dX12_act_92 : decode cX12_act 92 = .ok (.iconst 2, 1) := by decide +kernel
theorem dX12_act_93 : decode cX12_act 93 = .ok (.if_icmp .ne 11, 3) := by decide +kernel
theorem dX12_act_96 : decode cX12_act 96 = .ok (.aload_n 0, 1) := by decide +kernel
theorem dX12_act_97 : decode cX12_act 97 = .ok (.iload_n 3, 1) := by decide +kernel
theorem dX12_act_98 : decode cX12_act 98 = .ok (.invokevirtual 451, 3) := by decide +kernel
theorem dX12_act_101 : decode cX12_act 101 = .ok (.goto 8, 3) := by decide +kernel
theorem dX12_act_104 : decode cX12_act 104 = .ok (.aload_n 0, 1) := by decide +kernel
theorem dX12_act_105 : decode cX12_act 105 = .ok (.iload_n 3, 1) := by decide +kernel
theorem dX12_act_106 : decode cX12_act 106 = .ok (.invokevirtual 454, 3) := by decide +kernel
theorem dX12_act_109 : decode cX12_act 109 = .ok (.istore 4, 2) := by decide +kernel
theorem dX12_act_111 : decode cX12_act 111 = .ok (.aload_n 0, 1) := by decide +kernel
theorem dX12_act_112 : decode cX12_act 112 = .ok (.getfield 424, 3) := by decide +kernel
theorem dX12_act_115 : decode cX12_act 115 = .ok (.ifCond .eq 8, 3) := by decide +kernel
theorem dX12_act_118 : decode cX12_act 118 = .ok (.bipush (-15), 2) := by decide +kernel
theorem dX12_act_120 : decode cX12_act 120 = .ok (.goto 5, 3) := by decide +kernel
theorem dX12_act_123 : decode cX12_act 123 = .ok (.iload 4, 2) := by decide +kernel
theorem dX12_act_125 : decode cX12_act 125 = .ok (.ireturn, 1) := by decide +kernel
def f12_act_b38  (a1 : Int32) (a2 : Int32) (a3 : Int32)  (m : lu_M) : Option (Int32 × lu_M) :=
  some ((0 : Int32), m)
set_option maxRecDepth 20000 in
theorem w12_act_b38  {G : lu_G} {ρ : Nat → Nat} {a1 : Int32} {a2 : Int32} {a3 : Int32}  (X : lu_X G RX12 cX12_act 5 4 88) (hret : (lu_me G).sig.returnType = (some .int))   : ∀  (m : lu_M), lu_Ab lu_TM G (lu_Q lu_TM G ρ lu_RVi lu_sn) (f12_act_b38 a1 a2 a3 m) 38 [] [] ρ 0 0 [] m := by
  intro  m
  unfold f12_act_b38
  refine lu_iconst X dX12_act_38 (pc2 := 39) rfl ic_0 ?_
  exact lu_iret X hret dX12_act_39
def f12_act_b125  (a1 : Int32) (a2 : Int32) (a3 : Int32) (s0 : Int32) (m : lu_M) : Option (Int32 × lu_M) :=
  some (s0, m)
set_option maxRecDepth 20000 in
theorem w12_act_b125  {G : lu_G} {ρ : Nat → Nat} {a1 : Int32} {a2 : Int32} {a3 : Int32}  (X : lu_X G RX12 cX12_act 5 4 88) (hret : (lu_me G).sig.returnType = (some .int))   : ∀ (s0 : Int32) (m : lu_M), lu_Ab lu_TM G (lu_Q lu_TM G ρ lu_RVi lu_sn) (f12_act_b125 a1 a2 a3 s0 m) 125 [] [.int s0] ρ 0 0 [] m := by
  intro s0 m
  unfold f12_act_b125
  exact lu_iret X hret dX12_act_125
def f12_act_b109  (a1 : Int32) (a2 : Int32) (a3 : Int32) (s0 : Int32) (m : lu_M) : Option (Int32 × lu_M) :=
  if (m 0 41) = 0 then (f12_act_b125 a1 a2 a3 s0 m)
  else (f12_act_b125 a1 a2 a3 (-15 : Int32) m)
set_option maxRecDepth 20000 in
theorem w12_act_b109  {G : lu_G} {ρ : Nat → Nat} {a1 : Int32} {a2 : Int32} {a3 : Int32}  (X : lu_X G RX12 cX12_act 5 4 88) (hret : (lu_me G).sig.returnType = (some .int))   : ∀ (s0 : Int32) (m : lu_M), lu_Ab lu_TM G (lu_Q lu_TM G ρ lu_RVi lu_sn) (f12_act_b109 a1 a2 a3 s0 m) 109 [(0, .ref (ρ 0))] [.int s0] ρ 0 0 [] m := by
  intro s0 m
  unfold f12_act_b109
  refine lu_istore (lv2 := [(4, .int s0), (0, .ref (ρ 0))]) X dX12_act_109 (pc2 := 111) rfl (by decide) rfl ?_
  refine lu_aload_n X dX12_act_111 (pc2 := 112) rfl rfl 1 rfl ?_
  refine lu_get X fl12_424 rfl kM_0 lM_0 dX12_act_112 (pc2 := 115) rfl ?_
  refine lu_if_eq (tgt := 123) X dX12_act_115 (pc2 := 118) rfl (by decide) (fun _ => ?_) (fun _ => ?_)
  · refine lu_iload X dX12_act_123 (pc2 := 125) rfl 0 rfl ?_
    exact lu_sub [] rfl (w12_act_b125 X hret s0 m)
  · refine lu_bipush X dX12_act_118 (pc2 := 120) rfl bp_m15 ?_
    refine lu_goto (tgt := 125) X dX12_act_120 (by decide) ?_
    exact lu_sub [] rfl (w12_act_b125 X hret (-15 : Int32) m)
def f12_act (a1 : Int32) (a2 : Int32) (a3 : Int32) (m : lu_M) : Option (Int32 × lu_M) :=
  lu_nm (lu_st m 0 37 (0 : Int32)) fun m1 =>
  lu_nm (lu_st m1 0 41 (0 : Int32)) fun m2 =>
  lu_bi (f12_onShelf a1 m2) fun x3 m4 =>
  lu_nm (lu_st m4 0 38 x3) fun m5 =>
  if (m5 0 38) < 0 then (f12_act_b38 a1 a2 a3 m5)
  else (lu_bi (f12_in a2.toInt64 (0 : Int64) (3 : Int64) m5) fun x6 m7 =>
  if x6 = 0 then (f12_act_b38 a1 a2 a3 m7)
  else (lu_bi (f12_its (m7 0 38) (1 : Int32) m7) fun x8 m9 =>
  lu_nm (lu_st m9 0 39 x8) fun m10 =>
  lu_bi (f12_its (m10 0 38) (0 : Int32) m10) fun x11 m12 =>
  lu_nm (lu_st m12 0 40 x11) fun m13 =>
  if a2 = 0 then (lu_bi (f12_gives a3 m13) fun x20 m21 =>
  f12_act_b109 a1 a2 a3 x20 m21)
  else (if a2 = (1 : Int32) then (lu_bi (f12_takes a3 m13) fun x18 m19 =>
  f12_act_b109 a1 a2 a3 x18 m19)
  else (if a2 = (2 : Int32) then (lu_bi (f12_splits a3 m13) fun x16 m17 =>
  f12_act_b109 a1 a2 a3 x16 m17)
  else (lu_bi (f12_swears a3 m13) fun x14 m15 =>
  f12_act_b109 a1 a2 a3 x14 m15)))))
set_option maxRecDepth 20000 in
theorem c12_act (l : Launch)   (a1 : Int32) (a2 : Int32) (a3 : Int32) : lu_C lu_TM l yX12_act cX12_act 5 (some .int) 4 88 (fun ρ sa => [.ref (ρ 0), .int a1, .int a2, .int a3]) (f12_act a1 a2 a3) lu_RVi lu_sn := by
  refine lu_met (cls := RX12) rfl (by decide +kernel) (fun _ _ => Nat.le_of_ble_eq_true rfl) ?_
  intro G ρ m hl X hret
  subst hl
  change lu_Ab lu_TM G (lu_Q lu_TM G ρ lu_RVi lu_sn) (f12_act a1 a2 a3 m) 0 [(0, .ref (ρ 0)), (1, .int a1), (2, .int a2), (3, .int a3)] [] ρ 0 0 [] m
  unfold f12_act
  refine lu_aload_n X dX12_act_0 (pc2 := 1) rfl rfl 0 rfl ?_
  refine lu_iconst X dX12_act_1 (pc2 := 2) rfl ic_0 ?_
  refine lu_put X fl12_427 rfl (Or.inl (by decide)) rfl (by decide +kernel) kM_0 lM_0 dX12_act_2 (pc2 := 5) rfl (fun m1 => ?_)
  refine lu_aload_n X dX12_act_5 (pc2 := 6) rfl rfl 0 rfl ?_
  refine lu_iconst X dX12_act_6 (pc2 := 7) rfl ic_0 ?_
  refine lu_putzK X (by decide) fl12_424 rfl (Or.inl (by decide)) rfl (by decide +kernel) kM_0 lM_0 dX12_act_7 (pc2 := 10) rfl (fun m2 => ?_)
  refine lu_aload_n X dX12_act_10 (pc2 := 11) rfl rfl 0 rfl ?_
  refine lu_aload_n X dX12_act_11 (pc2 := 12) rfl rfl 0 rfl ?_
  refine lu_iload_n X dX12_act_12 (pc2 := 13) rfl rfl 1 rfl ?_
  refine lu_invVi X (c12_onShelf _ a1) rfl q1750 mvV_12_onShelf kM_0 lM_0 (by decide) ⟨_, rfl, rfl⟩ rfl rfl (Nat.le_of_ble_eq_true rfl) (Nat.le_of_ble_eq_true rfl) (Nat.le_of_ble_eq_true rfl) ⟨Nat.zero_le _, Nat.zero_le _⟩ dX12_act_13 (pc2 := 16) rfl rfl (fun x3 m4 => ?_)
  refine lu_put X fl12_439 rfl (Or.inl (by decide)) rfl (by decide +kernel) kM_0 lM_0 dX12_act_16 (pc2 := 19) rfl (fun m5 => ?_)
  refine lu_aload_n X dX12_act_19 (pc2 := 20) rfl rfl 0 rfl ?_
  refine lu_get X fl12_439 rfl kM_0 lM_0 dX12_act_20 (pc2 := 23) rfl ?_
  refine lu_if_lt (tgt := 38) X dX12_act_23 (pc2 := 26) rfl (by decide) (fun _ => ?_) (fun _ => ?_)
  · exact lu_sub [] rfl (w12_act_b38 X hret m5)
  · refine lu_iload_n X dX12_act_26 (pc2 := 27) rfl rfl 2 rfl ?_
    refine lu_i2l X dX12_act_27 (pc2 := 28) rfl ?_
    refine lu_lconst (v := (0 : Int64)) X dX12_act_28 (pc2 := 29) rfl (by decide) ?_
    refine lu_ldc2 X q1503 dX12_act_29 (pc2 := 32) rfl ?_
    refine lu_invSi X (c12_in _ a2.toInt64 (0 : Int64) (3 : Int64)) rfl q1261 mvS_12_in rfl rfl (Nat.le_of_ble_eq_true rfl) (Nat.le_of_ble_eq_true rfl) (Nat.le_of_ble_eq_true rfl) ⟨Nat.zero_le _, Nat.zero_le _⟩ dX12_act_32 (pc2 := 35) rfl rfl (fun x6 m7 => ?_)
    refine lu_if_ne (tgt := 40) X dX12_act_35 (pc2 := 38) rfl (by decide) (fun _ => ?_) (fun _ => ?_)
    · refine lu_aload_n X dX12_act_40 (pc2 := 41) rfl rfl 0 rfl ?_
      refine lu_aload_n X dX12_act_41 (pc2 := 42) rfl rfl 0 rfl ?_
      refine lu_aload_n X dX12_act_42 (pc2 := 43) rfl rfl 0 rfl ?_
      refine lu_get X fl12_439 rfl kM_0 lM_0 dX12_act_43 (pc2 := 46) rfl ?_
      refine lu_iconst X dX12_act_46 (pc2 := 47) rfl ic_1 ?_
      refine lu_invVi X (c12_its _ (m7 0 38) (1 : Int32)) rfl q1276 mvV_12_its kM_0 lM_0 (by decide) ⟨_, rfl, rfl⟩ rfl rfl (Nat.le_of_ble_eq_true rfl) (Nat.le_of_ble_eq_true rfl) (Nat.le_of_ble_eq_true rfl) ⟨Nat.zero_le _, Nat.zero_le _⟩ dX12_act_47 (pc2 := 50) rfl rfl (fun x8 m9 => ?_)
      refine lu_put X fl12_436 rfl (Or.inl (by decide)) rfl (by decide +kernel) kM_0 lM_0 dX12_act_50 (pc2 := 53) rfl (fun m10 => ?_)
      refine lu_aload_n X dX12_act_53 (pc2 := 54) rfl rfl 0 rfl ?_
      refine lu_aload_n X dX12_act_54 (pc2 := 55) rfl rfl 0 rfl ?_
      refine lu_aload_n X dX12_act_55 (pc2 := 56) rfl rfl 0 rfl ?_
      refine lu_get X fl12_439 rfl kM_0 lM_0 dX12_act_56 (pc2 := 59) rfl ?_
      refine lu_iconst X dX12_act_59 (pc2 := 60) rfl ic_0 ?_
      refine lu_invVi X (c12_its _ (m10 0 38) (0 : Int32)) rfl q1276 mvV_12_its kM_0 lM_0 (by decide) ⟨_, rfl, rfl⟩ rfl rfl (Nat.le_of_ble_eq_true rfl) (Nat.le_of_ble_eq_true rfl) (Nat.le_of_ble_eq_true rfl) ⟨Nat.zero_le _, Nat.zero_le _⟩ dX12_act_60 (pc2 := 63) rfl rfl (fun x11 m12 => ?_)
      refine lu_put X fl12_430 rfl (Or.inl (by decide)) rfl (by decide +kernel) kM_0 lM_0 dX12_act_63 (pc2 := 66) rfl (fun m13 => ?_)
      refine lu_iload_n X dX12_act_66 (pc2 := 67) rfl rfl 2 rfl ?_
      refine lu_if_ne (tgt := 78) X dX12_act_67 (pc2 := 70) rfl (by decide) (fun _ => ?_) (fun _ => ?_)
      · refine lu_iload_n X dX12_act_78 (pc2 := 79) rfl rfl 2 rfl ?_
        refine lu_iconst X dX12_act_79 (pc2 := 80) rfl ic_1 ?_
        refine lu_icmp_ne (tgt := 91) X dX12_act_80 (pc2 := 83) rfl (by decide) (fun _ => ?_) (fun _ => ?_)
        · refine lu_iload_n X dX12_act_91 (pc2 := 92) rfl rfl 2 rfl ?_
          refine lu_iconst X dX12_act_92 (pc2 := 93) rfl ic_2 ?_
          refine lu_icmp_ne (tgt := 104) X dX12_act_93 (pc2 := 96) rfl (by decide) (fun _ => ?_) (fun _ => ?_)
          · refine lu_aload_n X dX12_act_104 (pc2 := 105) rfl rfl 0 rfl ?_
            refine lu_iload_n X dX12_act_105 (pc2 := 106) rfl rfl 3 rfl ?_
            refine lu_invVi X (c12_swears _ a3) rfl q1778 mvV_12_swears kM_0 lM_0 (by decide) ⟨_, rfl, rfl⟩ rfl rfl (Nat.le_of_ble_eq_true rfl) (Nat.le_of_ble_eq_true rfl) (Nat.le_of_ble_eq_true rfl) ⟨Nat.zero_le _, Nat.zero_le _⟩ dX12_act_106 (pc2 := 109) rfl rfl (fun x14 m15 => ?_)
            exact lu_sub [0] rfl (w12_act_b109 X hret x14 m15)
          · refine lu_aload_n X dX12_act_96 (pc2 := 97) rfl rfl 0 rfl ?_
            refine lu_iload_n X dX12_act_97 (pc2 := 98) rfl rfl 3 rfl ?_
            refine lu_invVi X (c12_splits _ a3) rfl q1770 mvV_12_splits kM_0 lM_0 (by decide) ⟨_, rfl, rfl⟩ rfl rfl (Nat.le_of_ble_eq_true rfl) (Nat.le_of_ble_eq_true rfl) (Nat.le_of_ble_eq_true rfl) ⟨Nat.zero_le _, Nat.zero_le _⟩ dX12_act_98 (pc2 := 101) rfl rfl (fun x16 m17 => ?_)
            refine lu_goto (tgt := 109) X dX12_act_101 (by decide) ?_
            exact lu_sub [0] rfl (w12_act_b109 X hret x16 m17)
        · refine lu_aload_n X dX12_act_83 (pc2 := 84) rfl rfl 0 rfl ?_
          refine lu_iload_n X dX12_act_84 (pc2 := 85) rfl rfl 3 rfl ?_
          refine lu_invVi X (c12_takes _ a3) rfl q1766 mvV_12_takes kM_0 lM_0 (by decide) ⟨_, rfl, rfl⟩ rfl rfl (Nat.le_of_ble_eq_true rfl) (Nat.le_of_ble_eq_true rfl) (Nat.le_of_ble_eq_true rfl) ⟨Nat.zero_le _, Nat.zero_le _⟩ dX12_act_85 (pc2 := 88) rfl rfl (fun x18 m19 => ?_)
          refine lu_goto (tgt := 109) X dX12_act_88 (by decide) ?_
          exact lu_sub [0] rfl (w12_act_b109 X hret x18 m19)
      · refine lu_aload_n X dX12_act_70 (pc2 := 71) rfl rfl 0 rfl ?_
        refine lu_iload_n X dX12_act_71 (pc2 := 72) rfl rfl 3 rfl ?_
        refine lu_invVi X (c12_gives _ a3) rfl q1758 mvV_12_gives kM_0 lM_0 (by decide) ⟨_, rfl, rfl⟩ rfl rfl (Nat.le_of_ble_eq_true rfl) (Nat.le_of_ble_eq_true rfl) (Nat.le_of_ble_eq_true rfl) ⟨Nat.zero_le _, Nat.zero_le _⟩ dX12_act_72 (pc2 := 75) rfl rfl (fun x20 m21 => ?_)
        refine lu_goto (tgt := 109) X dX12_act_75 (by decide) ?_
        exact lu_sub [0] rfl (w12_act_b109 X hret x20 m21)
    · exact lu_sub [] rfl (w12_act_b38 X hret m7)

theorem dX12_traced_0 : decode cX12_traced 0 = .ok (.aload_n 0, 1) := by decide +kernel
theorem dX12_traced_1 : decode cX12_traced 1 = .ok (.getfield 427, 3) := by decide +kernel
theorem dX12_traced_4 : decode cX12_traced 4 = .ok (.bipush 30, 2) := by decide +kernel
theorem dX12_traced_6 : decode cX12_traced 6 = .ok (.if_icmp .ge 10, 3) := by decide +kernel
theorem dX12_traced_9 : decode cX12_traced 9 = .ok (.aload_n 0, 1) := by decide +kernel
theorem dX12_traced_10 : decode cX12_traced 10 = .ok (.getfield 427, 3) := by decide +kernel
theorem dX12_traced_13 : decode cX12_traced 13 = .ok (.goto 5, 3) := by decide +kernel
theorem dX12_traced_16 : decode cX12_traced 16 = .ok (.bipush 30, 2) := by decide +kernel
theorem dX12_traced_18 : decode cX12_traced 18 = .ok (.ireturn, 1) := by decide +kernel
def f12_traced_b18   (s0 : Int32) (m : lu_M) : Option (Int32 × lu_M) :=
  some (s0, m)
set_option maxRecDepth 20000 in
theorem w12_traced_b18  {G : lu_G} {ρ : Nat → Nat}   (X : lu_X G RX12 cX12_traced 1 0 0) (hret : (lu_me G).sig.returnType = (some .int))   : ∀ (s0 : Int32) (m : lu_M), lu_Ab lu_TM G (lu_Q lu_TM G ρ lu_RVi lu_sn) (f12_traced_b18  s0 m) 18 [] [.int s0] ρ 0 0 [] m := by
  intro s0 m
  unfold f12_traced_b18
  exact lu_iret X hret dX12_traced_18
def f12_traced  (m : lu_M) : Option (Int32 × lu_M) :=
  if (30 : Int32) ≤ (m 0 37) then (f12_traced_b18 (30 : Int32) m)
  else (f12_traced_b18 (m 0 37) m)
set_option maxRecDepth 20000 in
theorem c12_traced (l : Launch)    : lu_C lu_TM l yX12_traced cX12_traced 1 (some .int) 0 0 (fun ρ sa => [.ref (ρ 0)]) (f12_traced ) lu_RVi lu_sn := by
  refine lu_met (cls := RX12) rfl (by decide +kernel) (fun _ _ => Nat.le_of_ble_eq_true rfl) ?_
  intro G ρ m hl X hret
  subst hl
  change lu_Ab lu_TM G (lu_Q lu_TM G ρ lu_RVi lu_sn) (f12_traced  m) 0 [(0, .ref (ρ 0))] [] ρ 0 0 [] m
  unfold f12_traced
  refine lu_aload_n X dX12_traced_0 (pc2 := 1) rfl rfl 0 rfl ?_
  refine lu_get X fl12_427 rfl kM_0 lM_0 dX12_traced_1 (pc2 := 4) rfl ?_
  refine lu_bipush X dX12_traced_4 (pc2 := 6) rfl bp_30 ?_
  refine lu_icmp_ge (tgt := 16) X dX12_traced_6 (pc2 := 9) rfl (by decide) (fun _ => ?_) (fun _ => ?_)
  · refine lu_bipush X dX12_traced_16 (pc2 := 18) rfl bp_30 ?_
    exact lu_sub [] rfl (w12_traced_b18 X hret (30 : Int32) m)
  · refine lu_aload_n X dX12_traced_9 (pc2 := 10) rfl rfl 0 rfl ?_
    refine lu_get X fl12_427 rfl kM_0 lM_0 dX12_traced_10 (pc2 := 13) rfl ?_
    refine lu_goto (tgt := 18) X dX12_traced_13 (by decide) ?_
    exact lu_sub [] rfl (w12_traced_b18 X hret (m 0 37) m)

theorem dX12_trace_0 : decode cX12_trace 0 = .ok (.iload_n 1, 1) := by decide +kernel
theorem dX12_trace_1 : decode cX12_trace 1 = .ok (.i2l, 1) := by decide +kernel
theorem dX12_trace_2 : decode cX12_trace 2 = .ok (.lconst 0, 1) := by decide +kernel
theorem dX12_trace_3 : decode cX12_trace 3 = .ok (.aload_n 0, 1) := by decide +kernel
theorem dX12_trace_4 : decode cX12_trace 4 = .ok (.invokevirtual 457, 3) := by decide +kernel
theorem dX12_trace_7 : decode cX12_trace 7 = .ok (.iconst 1, 1) := by decide +kernel
theorem dX12_trace_8 : decode cX12_trace 8 = .ok (.isub, 1) := by decide +kernel
theorem dX12_trace_9 : decode cX12_trace 9 = .ok (.i2l, 1) := by decide +kernel
theorem dX12_trace_10 : decode cX12_trace 10 = .ok (.invokestatic 64, 3) := by decide +kernel
theorem dX12_trace_13 : decode cX12_trace 13 = .ok (.ifCond .eq 12, 3) := by decide +kernel
theorem dX12_trace_16 : decode cX12_trace 16 = .ok (.aload_n 0, 1) := by decide +kernel
theorem dX12_trace_17 : decode cX12_trace 17 = .ok (.getfield 61, 3) := by decide +kernel
theorem dX12_trace_20 : decode cX12_trace 20 = .ok (.iload_n 1, 1) := by decide +kernel
theorem dX12_trace_21 : decode cX12_trace 21 = .ok (.iaload, 1) := by decide +kernel
theorem dX12_trace_22 : decode cX12_trace 22 = .ok (.goto 5, 3) := by decide +kernel
theorem dX12_trace_25 : decode cX12_trace 25 = .ok (.bipush (-3), 2) := by decide +kernel
theorem dX12_trace_27 : decode cX12_trace 27 = .ok (.ireturn, 1) := by decide +kernel
def f12_trace_b27  (a1 : Int32) (s0 : Int32) (m : lu_M) : Option (Int32 × lu_M) :=
  some (s0, m)
set_option maxRecDepth 20000 in
theorem w12_trace_b27  {G : lu_G} {ρ : Nat → Nat} {a1 : Int32}  (X : lu_X G RX12 cX12_trace 2 1 25) (hret : (lu_me G).sig.returnType = (some .int))   : ∀ (s0 : Int32) (m : lu_M), lu_Ab lu_TM G (lu_Q lu_TM G ρ lu_RVi lu_sn) (f12_trace_b27 a1 s0 m) 27 [] [.int s0] ρ 0 0 [] m := by
  intro s0 m
  unfold f12_trace_b27
  exact lu_iret X hret dX12_trace_27
def f12_trace (a1 : Int32) (m : lu_M) : Option (Int32 × lu_M) :=
  lu_bi (f12_traced m) fun x1 m2 =>
  lu_bi (f12_in a1.toInt64 (0 : Int64) ((x1 - (1 : Int32)).toInt64) m2) fun x3 m4 =>
  if x3 = 0 then (f12_trace_b27 a1 (-3 : Int32) m4)
  else (lu_gd (lu_ib a1 30) <|
  f12_trace_b27 a1 (m4 18 a1.toNatClampNeg) m4)
set_option maxRecDepth 20000 in
theorem c12_trace (l : Launch)   (a1 : Int32) : lu_C lu_TM l yX12_trace cX12_trace 2 (some .int) 1 25 (fun ρ sa => [.ref (ρ 0), .int a1]) (f12_trace a1) lu_RVi lu_sn := by
  refine lu_met (cls := RX12) rfl (by decide +kernel) (fun _ _ => Nat.le_of_ble_eq_true rfl) ?_
  intro G ρ m hl X hret
  subst hl
  change lu_Ab lu_TM G (lu_Q lu_TM G ρ lu_RVi lu_sn) (f12_trace a1 m) 0 [(0, .ref (ρ 0)), (1, .int a1)] [] ρ 0 0 [] m
  unfold f12_trace
  refine lu_iload_n X dX12_trace_0 (pc2 := 1) rfl rfl 1 rfl ?_
  refine lu_i2l X dX12_trace_1 (pc2 := 2) rfl ?_
  refine lu_lconst (v := (0 : Int64)) X dX12_trace_2 (pc2 := 3) rfl (by decide) ?_
  refine lu_aload_n X dX12_trace_3 (pc2 := 4) rfl rfl 0 rfl ?_
  refine lu_invVi X (c12_traced _) rfl q1786 mvV_12_traced kM_0 lM_0 (by decide) ⟨_, rfl, rfl⟩ rfl rfl (Nat.le_of_ble_eq_true rfl) (Nat.le_of_ble_eq_true rfl) (Nat.le_of_ble_eq_true rfl) ⟨Nat.zero_le _, Nat.zero_le _⟩ dX12_trace_4 (pc2 := 7) rfl rfl (fun x1 m2 => ?_)
  refine lu_iconst X dX12_trace_7 (pc2 := 8) rfl ic_1 ?_
  refine lu_isub X dX12_trace_8 (pc2 := 9) rfl ?_
  refine lu_i2l X dX12_trace_9 (pc2 := 10) rfl ?_
  refine lu_invSi X (c12_in _ a1.toInt64 (0 : Int64) ((x1 - (1 : Int32)).toInt64)) rfl q1261 mvS_12_in rfl rfl (Nat.le_of_ble_eq_true rfl) (Nat.le_of_ble_eq_true rfl) (Nat.le_of_ble_eq_true rfl) ⟨Nat.zero_le _, Nat.zero_le _⟩ dX12_trace_10 (pc2 := 13) rfl rfl (fun x3 m4 => ?_)
  refine lu_if_eq (tgt := 25) X dX12_trace_13 (pc2 := 16) rfl (by decide) (fun _ => ?_) (fun _ => ?_)
  · refine lu_bipush X dX12_trace_25 (pc2 := 27) rfl bp_m3 ?_
    exact lu_sub [] rfl (w12_trace_b27 X hret (-3 : Int32) m4)
  · refine lu_aload_n X dX12_trace_16 (pc2 := 17) rfl rfl 0 rfl ?_
    refine lu_getr (r2 := 18) X rfl fl12_61 rfl kM_0 lM_0 dX12_trace_17 (pc2 := 20) rfl ?_
    refine lu_iload_n X dX12_trace_20 (pc2 := 21) rfl rfl 1 rfl ?_
    refine lu_iald X kM_18 lM_18 dX12_trace_21 (pc2 := 22) rfl ?_
    refine lu_goto (tgt := 27) X dX12_trace_22 (by decide) ?_
    exact lu_sub [] rfl (w12_trace_b27 X hret (m4 18 a1.toNatClampNeg) m4)

theorem dX12_loans_0 : decode cX12_loans 0 = .ok (.iconst 0, 1) := by decide +kernel
theorem dX12_loans_1 : decode cX12_loans 1 = .ok (.istore_n 1, 1) := by decide +kernel
theorem dX12_loans_2 : decode cX12_loans 2 = .ok (.iconst 0, 1) := by decide +kernel
theorem dX12_loans_3 : decode cX12_loans 3 = .ok (.istore_n 2, 1) := by decide +kernel
theorem dX12_loans_4 : decode cX12_loans 4 = .ok (.iload_n 2, 1) := by decide +kernel
theorem dX12_loans_5 : decode cX12_loans 5 = .ok (.bipush 36, 2) := by decide +kernel
theorem dX12_loans_7 : decode cX12_loans 7 = .ok (.if_icmp .ge 29, 3) := by decide +kernel
theorem dX12_loans_10 : decode cX12_loans 10 = .ok (.iload_n 1, 1) := by decide +kernel
theorem dX12_loans_11 : decode cX12_loans 11 = .ok (.aload_n 0, 1) := by decide +kernel
theorem dX12_loans_12 : decode cX12_loans 12 = .ok (.getfield 7, 3) := by decide +kernel
theorem dX12_loans_15 : decode cX12_loans 15 = .ok (.bipush 76, 2) := by decide +kernel
theorem dX12_loans_17 : decode cX12_loans 17 = .ok (.iload_n 2, 1) := by decide +kernel
theorem dX12_loans_18 : decode cX12_loans 18 = .ok (.iadd, 1) := by decide +kernel
theorem dX12_loans_19 : decode cX12_loans 19 = .ok (.iaload, 1) := by decide +kernel
theorem dX12_loans_20 : decode cX12_loans 20 = .ok (.ifCond .le 7, 3) := by decide +kernel
theorem dX12_loans_23 : decode cX12_loans 23 = .ok (.iconst 1, 1) := by decide +kernel
theorem dX12_loans_24 : decode cX12_loans 24 = .ok (.goto 4, 3) := by decide +kernel
theorem dX12_loans_27 : decode cX12_loans 27 = .ok (.iconst 0, 1) := by decide +kernel
theorem dX12_loans_28 : decode cX12_loans 28 = .ok (.iadd, 1) := by decide +kernel
theorem dX12_loans_29 : decode cX12_loans 29 = .ok (.istore_n 1, 1) := by decide +kernel
theorem dX12_loans_30 : decode cX12_loans 30 = .ok (.iinc 2 1, 3) := by decide +kernel
theorem dX12_loans_33 : decode cX12_loans 33 = .ok (.goto (-29), 3) := by decide +kernel
theorem dX12_loans_36 : decode cX12_loans 36 = .ok (.iload_n 1, 1) := by decide +kernel
theorem dX12_loans_37 : decode cX12_loans 37 = .ok (.ireturn, 1) := by decide +kernel
def f12_loans_b28 (K4 : Int32 → Int32 → lu_M → Option (Int32 × lu_M)) (K36 : Int32 → lu_M → Option (Int32 × lu_M))  (v2 : Int32) (s0 : Int32) (s1 : Int32) (m : lu_M) : Option (Int32 × lu_M) :=
  lu_nm ((s1 + s0)) fun x1 =>
  K4 x1 (v2 + (1 : Int32)) m
set_option maxRecDepth 20000 in
theorem w12_loans_b28  {G : lu_G} {ρ : Nat → Nat}  {K4 : Int32 → Int32 → lu_M → Option (Int32 × lu_M)} {K36 : Int32 → lu_M → Option (Int32 × lu_M)} (X : lu_X G RX12 cX12_loans 3 0 0) (hret : (lu_me G).sig.returnType = (some .int))  (hK4 : ∀ (v1 : Int32) (v2 : Int32) (m : lu_M), lu_Ab lu_TM G (lu_Q lu_TM G ρ lu_RVi lu_sn) (K4 v1 v2 m) 4 [(0, .ref (ρ 0)), (1, .int v1), (2, .int v2)] [] ρ 0 0 [] m) (hK36 : ∀ (v1 : Int32) (m : lu_M), lu_Ab lu_TM G (lu_Q lu_TM G ρ lu_RVi lu_sn) (K36 v1 m) 36 [(1, .int v1)] [] ρ 0 0 [] m) : ∀ (v2 : Int32) (s0 : Int32) (s1 : Int32) (m : lu_M), lu_Ab lu_TM G (lu_Q lu_TM G ρ lu_RVi lu_sn) (f12_loans_b28 K4 K36 v2 s0 s1 m) 28 [(0, .ref (ρ 0)), (2, .int v2)] [.int s0, .int s1] ρ 0 0 [] m := by
  intro v2 s0 s1 m
  unfold f12_loans_b28
  refine lu_iadd X dX12_loans_28 (pc2 := 29) rfl ?_
  refine lu_topi (fun x1 => ?_)
  refine lu_istore_n (lv2 := [(1, .int x1), (0, .ref (ρ 0)), (2, .int v2)]) X dX12_loans_29 (pc2 := 30) rfl rfl (by decide) rfl ?_
  refine lu_iinc (lv2 := [(2, .int (v2 + (1 : Int32))), (1, .int x1), (0, .ref (ρ 0))]) X dX12_loans_30 (pc2 := 33) rfl 2 rfl (lu_ii _ ic_1) (by decide) rfl ?_
  refine lu_goto (tgt := 4) X dX12_loans_33 (by decide) ?_
  exact lu_sub [2, 1, 0] rfl (hK4 x1 (v2 + (1 : Int32)) m)
def f12_loans_b4B (K36 : Int32 → lu_M → Option (Int32 × lu_M)) (rec : Int32 → Int32 → lu_M → Option (Int32 × lu_M))  (v1 : Int32) (v2 : Int32) (m : lu_M) : Option (Int32 × lu_M) :=
  if (36 : Int32) ≤ v2 then (K36 v1 m)
  else (lu_gd (lu_ib ((76 : Int32) + v2) 368) <|
  if (m 1 ((76 : Int32) + v2).toNatClampNeg) ≤ 0 then (f12_loans_b28 rec K36 v2 (0 : Int32) v1 m)
  else (f12_loans_b28 rec K36 v2 (1 : Int32) v1 m))
def f12_loans_b4 (K36 : Int32 → lu_M → Option (Int32 × lu_M))  : Nat → Int32 → Int32 → lu_M → Option (Int32 × lu_M)
  | 0, _, _, _ => none
  | n + 1, v1, v2, m => f12_loans_b4B K36 (f12_loans_b4 K36 n) v1 v2 m
set_option maxRecDepth 20000 in
theorem w12_loans_b4B  {G : lu_G} {ρ : Nat → Nat}  {K36 : Int32 → lu_M → Option (Int32 × lu_M)} {rec : Int32 → Int32 → lu_M → Option (Int32 × lu_M)} (X : lu_X G RX12 cX12_loans 3 0 0) (hret : (lu_me G).sig.returnType = (some .int))  (hK36 : ∀ (v1 : Int32) (m : lu_M), lu_Ab lu_TM G (lu_Q lu_TM G ρ lu_RVi lu_sn) (K36 v1 m) 36 [(1, .int v1)] [] ρ 0 0 [] m) (hrec : ∀ (v1 : Int32) (v2 : Int32) (m : lu_M), lu_Ab lu_TM G (lu_Q lu_TM G ρ lu_RVi lu_sn) (rec v1 v2 m) 4 [(0, .ref (ρ 0)), (1, .int v1), (2, .int v2)] [] ρ 0 0 [] m) : ∀ (v1 : Int32) (v2 : Int32) (m : lu_M), lu_Ab lu_TM G (lu_Q lu_TM G ρ lu_RVi lu_sn) (f12_loans_b4B K36 rec v1 v2 m) 4 [(0, .ref (ρ 0)), (1, .int v1), (2, .int v2)] [] ρ 0 0 [] m := by
  intro v1 v2 m
  unfold f12_loans_b4B
  refine lu_iload_n X dX12_loans_4 (pc2 := 5) rfl rfl 2 rfl ?_
  refine lu_bipush X dX12_loans_5 (pc2 := 7) rfl bp_36 ?_
  refine lu_icmp_ge (tgt := 36) X dX12_loans_7 (pc2 := 10) rfl (by decide) (fun _ => ?_) (fun _ => ?_)
  · exact lu_sub [1] rfl (hK36 v1 m)
  · refine lu_iload_n X dX12_loans_10 (pc2 := 11) rfl rfl 1 rfl ?_
    refine lu_aload_n X dX12_loans_11 (pc2 := 12) rfl rfl 0 rfl ?_
    refine lu_getr (r2 := 1) X rfl fl12_7 rfl kM_0 lM_0 dX12_loans_12 (pc2 := 15) rfl ?_
    refine lu_bipush X dX12_loans_15 (pc2 := 17) rfl bp_76 ?_
    refine lu_iload_n X dX12_loans_17 (pc2 := 18) rfl rfl 2 rfl ?_
    refine lu_iadd X dX12_loans_18 (pc2 := 19) rfl ?_
    refine lu_iald X kM_1 lM_1 dX12_loans_19 (pc2 := 20) rfl ?_
    refine lu_if_le (tgt := 27) X dX12_loans_20 (pc2 := 23) rfl (by decide) (fun _ => ?_) (fun _ => ?_)
    · refine lu_iconst X dX12_loans_27 (pc2 := 28) rfl ic_0 ?_
      exact lu_sub [0, 2] rfl (w12_loans_b28 X hret hrec hK36 v2 (0 : Int32) v1 m)
    · refine lu_iconst X dX12_loans_23 (pc2 := 24) rfl ic_1 ?_
      refine lu_goto (tgt := 28) X dX12_loans_24 (by decide) ?_
      exact lu_sub [0, 2] rfl (w12_loans_b28 X hret hrec hK36 v2 (1 : Int32) v1 m)
theorem w12_loans_b4  {G : lu_G} {ρ : Nat → Nat}  {K36 : Int32 → lu_M → Option (Int32 × lu_M)} (X : lu_X G RX12 cX12_loans 3 0 0) (hret : (lu_me G).sig.returnType = (some .int))  (hK36 : ∀ (v1 : Int32) (m : lu_M), lu_Ab lu_TM G (lu_Q lu_TM G ρ lu_RVi lu_sn) (K36 v1 m) 36 [(1, .int v1)] [] ρ 0 0 [] m) : ∀ (n : Nat) (v1 : Int32) (v2 : Int32) (m : lu_M), lu_Ab lu_TM G (lu_Q lu_TM G ρ lu_RVi lu_sn) (f12_loans_b4 K36 n v1 v2 m) 4 [(0, .ref (ρ 0)), (1, .int v1), (2, .int v2)] [] ρ 0 0 [] m := by
  intro n
  induction n with
  | zero => intro v1 v2 m; exact lu_none
  | succ n ih => intro v1 v2 m; exact w12_loans_b4B X hret hK36 ih v1 v2 m
def f12_loans_b36   (v1 : Int32) (m : lu_M) : Option (Int32 × lu_M) :=
  some (v1, m)
set_option maxRecDepth 20000 in
theorem w12_loans_b36  {G : lu_G} {ρ : Nat → Nat}   (X : lu_X G RX12 cX12_loans 3 0 0) (hret : (lu_me G).sig.returnType = (some .int))   : ∀ (v1 : Int32) (m : lu_M), lu_Ab lu_TM G (lu_Q lu_TM G ρ lu_RVi lu_sn) (f12_loans_b36  v1 m) 36 [(1, .int v1)] [] ρ 0 0 [] m := by
  intro v1 m
  unfold f12_loans_b36
  refine lu_iload_n X dX12_loans_36 (pc2 := 37) rfl rfl 0 rfl ?_
  exact lu_iret X hret dX12_loans_37
def f12_loans  (m : lu_M) : Option (Int32 × lu_M) :=
  f12_loans_b4 f12_loans_b36 lu_fu (0 : Int32) (0 : Int32) m
set_option maxRecDepth 20000 in
theorem c12_loans (l : Launch)    : lu_C lu_TM l yX12_loans cX12_loans 3 (some .int) 0 0 (fun ρ sa => [.ref (ρ 0)]) (f12_loans ) lu_RVi lu_sn := by
  refine lu_met (cls := RX12) rfl (by decide +kernel) (fun _ _ => Nat.le_of_ble_eq_true rfl) ?_
  intro G ρ m hl X hret
  subst hl
  change lu_Ab lu_TM G (lu_Q lu_TM G ρ lu_RVi lu_sn) (f12_loans  m) 0 [(0, .ref (ρ 0))] [] ρ 0 0 [] m
  unfold f12_loans
  refine lu_iconst X dX12_loans_0 (pc2 := 1) rfl ic_0 ?_
  refine lu_istore_n (lv2 := [(1, .int (0 : Int32)), (0, .ref (ρ 0))]) X dX12_loans_1 (pc2 := 2) rfl rfl (by decide) rfl ?_
  refine lu_iconst X dX12_loans_2 (pc2 := 3) rfl ic_0 ?_
  refine lu_istore_n (lv2 := [(2, .int (0 : Int32)), (1, .int (0 : Int32)), (0, .ref (ρ 0))]) X dX12_loans_3 (pc2 := 4) rfl rfl (by decide) rfl ?_
  exact lu_sub [2, 1, 0] rfl (w12_loans_b4 X hret (w12_loans_b36 X hret) lu_fu (0 : Int32) (0 : Int32) m)

theorem dX12_many_0 : decode cX12_many 0 = .ok (.iload_n 1, 1) := by decide +kernel
theorem dX12_many_1 : decode cX12_many 1 = .ok (.tableswitch 96 0 7 #[47, 54, 61, 68, 76, 81, 86, 91], 47) := by decide +kernel
theorem dX12_many_48 : decode cX12_many 48 = .ok (.aload_n 0, 1) := by decide +kernel
theorem dX12_many_49 : decode cX12_many 49 = .ok (.getfield 7, 3) := by decide +kernel
theorem dX12_many_52 : decode cX12_many 52 = .ok (.iconst 0, 1) := by decide +kernel
theorem dX12_many_53 : decode cX12_many 53 = .ok (.iaload, 1) := by decide +kernel
theorem dX12_many_54 : decode cX12_many 54 = .ok (.ireturn, 1) := by decide +kernel
theorem dX12_many_55 : decode cX12_many 55 = .ok (.aload_n 0, 1) := by decide +kernel
theorem dX12_many_56 : decode cX12_many 56 = .ok (.getfield 7, 3) := by decide +kernel
theorem dX12_many_59 : decode cX12_many 59 = .ok (.iconst 1, 1) := by decide +kernel
theorem dX12_many_60 : decode cX12_many 60 = .ok (.iaload, 1) := by decide +kernel
theorem dX12_many_61 : decode cX12_many 61 = .ok (.ireturn, 1) := by decide +kernel
theorem dX12_many_62 : decode cX12_many 62 = .ok (.aload_n 0, 1) := by decide +kernel
theorem dX12_many_63 : decode cX12_many 63 = .ok (.getfield 7, 3) := by decide +kernel
theorem dX12_many_66 : decode cX12_many 66 = .ok (.iconst 5, 1) := by decide +kernel
theorem dX12_many_67 : decode cX12_many 67 = .ok (.iaload, 1) := by decide +kernel
theorem dX12_many_68 : decode cX12_many 68 = .ok (.ireturn, 1) := by decide +kernel
theorem dX12_many_69 : decode cX12_many 69 = .ok (.aload_n 0, 1) := by decide +kernel
theorem dX12_many_70 : decode cX12_many 70 = .ok (.getfield 7, 3) := by decide +kernel
theorem dX12_many_73 : decode cX12_many 73 = .ok (.bipush 6, 2) := by decide +kernel
theorem dX12_many_75 : decode cX12_many 75 = .ok (.iaload, 1) := by decide +kernel
theorem dX12_many_76 : decode cX12_many 76 = .ok (.ireturn, 1) := by decide +kernel
theorem dX12_many_77 : decode cX12_many 77 = .ok (.aload_n 0, 1) := by decide +kernel
theorem dX12_many_78 : decode cX12_many 78 = .ok (.getfield 264, 3) := by decide +kernel
theorem dX12_many_81 : decode cX12_many 81 = .ok (.ireturn, 1) := by decide +kernel
theorem dX12_many_82 : decode cX12_many 82 = .ok (.aload_n 0, 1) := by decide +kernel
theorem dX12_many_83 : decode cX12_many 83 = .ok (.getfield 275, 3) := by decide +kernel
theorem dX12_many_86 : decode cX12_many 86 = .ok (.ireturn, 1) := by decide +kernel
theorem dX12_many_87 : decode cX12_many 87 = .ok (.aload_n 0, 1) := by decide +kernel
theorem dX12_many_88 : decode cX12_many 88 = .ok (.invokevirtual 457, 3) := by decide +kernel
theorem dX12_many_91 : decode cX12_many 91 = .ok (.ireturn, 1) := by decide +kernel
theorem dX12_many_92 : decode cX12_many 92 = .ok (.aload_n 0, 1) := by decide +kernel
theorem dX12_many_93 : decode cX12_many 93 = .ok (.invokevirtual 460, 3) := by decide +kernel
theorem dX12_many_96 : decode cX12_many 96 = .ok (.ireturn, 1) := by decide +kernel
theorem dX12_many_97 : decode cX12_many 97 = .ok (.iconst (-1), 1) := by decide +kernel
theorem dX12_many_98 : decode cX12_many 98 = .ok (.ireturn, 1) := by decide +kernel
def f12_many (a1 : Int32) (m : lu_M) : Option (Int32 × lu_M) :=
  if a1 = (0 : Int32) then (some ((m 1 0), m))
  else (if a1 = (1 : Int32) then (some ((m 1 1), m))
  else (if a1 = (2 : Int32) then (some ((m 1 5), m))
  else (if a1 = (3 : Int32) then (some ((m 1 6), m))
  else (if a1 = (4 : Int32) then (some ((m 0 21), m))
  else (if a1 = (5 : Int32) then (some ((m 0 23), m))
  else (if a1 = (6 : Int32) then (lu_bi (f12_traced m) fun x1 m2 =>
  some (x1, m2))
  else (if a1 = (7 : Int32) then (lu_bi (f12_loans m) fun x3 m4 =>
  some (x3, m4))
  else (some ((-1 : Int32), m)))))))))
set_option maxRecDepth 20000 in
theorem c12_many (l : Launch)   (a1 : Int32) : lu_C lu_TM l yX12_many cX12_many 2 (some .int) 1 22 (fun ρ sa => [.ref (ρ 0), .int a1]) (f12_many a1) lu_RVi lu_sn := by
  refine lu_met (cls := RX12) rfl (by decide +kernel) (fun _ _ => Nat.le_of_ble_eq_true rfl) ?_
  intro G ρ m hl X hret
  subst hl
  change lu_Ab lu_TM G (lu_Q lu_TM G ρ lu_RVi lu_sn) (f12_many a1 m) 0 [(0, .ref (ρ 0)), (1, .int a1)] [] ρ 0 0 [] m
  unfold f12_many
  refine lu_iload_n X dX12_many_0 (pc2 := 1) rfl rfl 1 rfl ?_
  refine lu_ite (fun c0 => ?_) (fun c0 => ?_)
  · refine lu_tsIn X c0 dX12_many_1 (tgt := 48) (by decide) (by decide) rfl (by decide) ?_
    refine lu_aload_n X dX12_many_48 (pc2 := 49) rfl rfl 0 rfl ?_
    refine lu_getr (r2 := 1) X rfl fl12_7 rfl kM_0 lM_0 dX12_many_49 (pc2 := 52) rfl ?_
    refine lu_iconst X dX12_many_52 (pc2 := 53) rfl ic_0 ?_
    refine lu_ialdK (q := 0) X (by decide) kM_1 lM_1 dX12_many_53 (pc2 := 54) rfl ?_
    exact lu_iret X hret dX12_many_54
  · refine lu_ite (fun c1 => ?_) (fun c1 => ?_)
    · refine lu_tsIn X c1 dX12_many_1 (tgt := 55) (by decide) (by decide) rfl (by decide) ?_
      refine lu_aload_n X dX12_many_55 (pc2 := 56) rfl rfl 0 rfl ?_
      refine lu_getr (r2 := 1) X rfl fl12_7 rfl kM_0 lM_0 dX12_many_56 (pc2 := 59) rfl ?_
      refine lu_iconst X dX12_many_59 (pc2 := 60) rfl ic_1 ?_
      refine lu_ialdK (q := 1) X (by decide) kM_1 lM_1 dX12_many_60 (pc2 := 61) rfl ?_
      exact lu_iret X hret dX12_many_61
    · refine lu_ite (fun c2 => ?_) (fun c2 => ?_)
      · refine lu_tsIn X c2 dX12_many_1 (tgt := 62) (by decide) (by decide) rfl (by decide) ?_
        refine lu_aload_n X dX12_many_62 (pc2 := 63) rfl rfl 0 rfl ?_
        refine lu_getr (r2 := 1) X rfl fl12_7 rfl kM_0 lM_0 dX12_many_63 (pc2 := 66) rfl ?_
        refine lu_iconst X dX12_many_66 (pc2 := 67) rfl ic_5 ?_
        refine lu_ialdK (q := 5) X (by decide) kM_1 lM_1 dX12_many_67 (pc2 := 68) rfl ?_
        exact lu_iret X hret dX12_many_68
      · refine lu_ite (fun c3 => ?_) (fun c3 => ?_)
        · refine lu_tsIn X c3 dX12_many_1 (tgt := 69) (by decide) (by decide) rfl (by decide) ?_
          refine lu_aload_n X dX12_many_69 (pc2 := 70) rfl rfl 0 rfl ?_
          refine lu_getr (r2 := 1) X rfl fl12_7 rfl kM_0 lM_0 dX12_many_70 (pc2 := 73) rfl ?_
          refine lu_bipush X dX12_many_73 (pc2 := 75) rfl bp_6 ?_
          refine lu_ialdK (q := 6) X (by decide) kM_1 lM_1 dX12_many_75 (pc2 := 76) rfl ?_
          exact lu_iret X hret dX12_many_76
        · refine lu_ite (fun c4 => ?_) (fun c4 => ?_)
          · refine lu_tsIn X c4 dX12_many_1 (tgt := 77) (by decide) (by decide) rfl (by decide) ?_
            refine lu_aload_n X dX12_many_77 (pc2 := 78) rfl rfl 0 rfl ?_
            refine lu_get X fl12_264 rfl kM_0 lM_0 dX12_many_78 (pc2 := 81) rfl ?_
            exact lu_iret X hret dX12_many_81
          · refine lu_ite (fun c5 => ?_) (fun c5 => ?_)
            · refine lu_tsIn X c5 dX12_many_1 (tgt := 82) (by decide) (by decide) rfl (by decide) ?_
              refine lu_aload_n X dX12_many_82 (pc2 := 83) rfl rfl 0 rfl ?_
              refine lu_get X fl12_275 rfl kM_0 lM_0 dX12_many_83 (pc2 := 86) rfl ?_
              exact lu_iret X hret dX12_many_86
            · refine lu_ite (fun c6 => ?_) (fun c6 => ?_)
              · refine lu_tsIn X c6 dX12_many_1 (tgt := 87) (by decide) (by decide) rfl (by decide) ?_
                refine lu_aload_n X dX12_many_87 (pc2 := 88) rfl rfl 0 rfl ?_
                refine lu_invVi X (c12_traced _) rfl q1786 mvV_12_traced kM_0 lM_0 (by decide) ⟨_, rfl, rfl⟩ rfl rfl (Nat.le_of_ble_eq_true rfl) (Nat.le_of_ble_eq_true rfl) (Nat.le_of_ble_eq_true rfl) ⟨Nat.zero_le _, Nat.zero_le _⟩ dX12_many_88 (pc2 := 91) rfl rfl (fun x1 m2 => ?_)
                exact lu_iret X hret dX12_many_91
              · refine lu_ite (fun c7 => ?_) (fun c7 => ?_)
                · refine lu_tsIn X c7 dX12_many_1 (tgt := 92) (by decide) (by decide) rfl (by decide) ?_
                  refine lu_aload_n X dX12_many_92 (pc2 := 93) rfl rfl 0 rfl ?_
                  refine lu_invVi X (c12_loans _) rfl q1794 mvV_12_loans kM_0 lM_0 (by decide) ⟨_, rfl, rfl⟩ rfl rfl (Nat.le_of_ble_eq_true rfl) (Nat.le_of_ble_eq_true rfl) (Nat.le_of_ble_eq_true rfl) ⟨Nat.zero_le _, Nat.zero_le _⟩ dX12_many_93 (pc2 := 96) rfl rfl (fun x3 m4 => ?_)
                  exact lu_iret X hret dX12_many_96
                · refine lu_tsOut (tgt := 97) X dX12_many_1 (by have h0 := lv_neT c0 (a := 0) (by decide); have h1 := lv_neT c1 (a := 1) (by decide); have h2 := lv_neT c2 (a := 2) (by decide); have h3 := lv_neT c3 (a := 3) (by decide); have h4 := lv_neT c4 (a := 4) (by decide); have h5 := lv_neT c5 (a := 5) (by decide); have h6 := lv_neT c6 (a := 6) (by decide); have h7 := lv_neT c7 (a := 7) (by decide); omega) (by decide) ?_
                  refine lu_iconst X dX12_many_97 (pc2 := 98) rfl ic_m1 ?_
                  exact lu_iret X hret dX12_many_98

theorem dX12_keep_0 : decode cX12_keep 0 = .ok (.iconst 0, 1) := by decide +kernel
theorem dX12_keep_1 : decode cX12_keep 1 = .ok (.istore_n 1, 1) := by decide +kernel
theorem dX12_keep_2 : decode cX12_keep 2 = .ok (.iload_n 1, 1) := by decide +kernel
theorem dX12_keep_3 : decode cX12_keep 3 = .ok (.sipush 368, 3) := by decide +kernel
theorem dX12_keep_6 : decode cX12_keep 6 = .ok (.if_icmp .ge 21, 3) := by decide +kernel
theorem dX12_keep_9 : decode cX12_keep 9 = .ok (.aload_n 0, 1) := by decide +kernel
theorem dX12_keep_10 : decode cX12_keep 10 = .ok (.getfield 13, 3) := by decide +kernel
theorem dX12_keep_13 : decode cX12_keep 13 = .ok (.iload_n 1, 1) := by decide +kernel
theorem dX12_keep_14 : decode cX12_keep 14 = .ok (.aload_n 0, 1) := by decide +kernel
theorem dX12_keep_15 : decode cX12_keep 15 = .ok (.getfield 7, 3) := by decide +kernel
theorem dX12_keep_18 : decode cX12_keep 18 = .ok (.iload_n 1, 1) := by decide +kernel
theorem dX12_keep_19 : decode cX12_keep 19 = .ok (.iaload, 1) := by decide +kernel
theorem dX12_keep_20 : decode cX12_keep 20 = .ok (.iastore, 1) := by decide +kernel
theorem dX12_keep_21 : decode cX12_keep 21 = .ok (.iinc 1 1, 3) := by decide +kernel
theorem dX12_keep_24 : decode cX12_keep 24 = .ok (.goto (-22), 3) := by decide +kernel
theorem dX12_keep_27 : decode cX12_keep 27 = .ok (.aload_n 0, 1) := by decide +kernel
theorem dX12_keep_28 : decode cX12_keep 28 = .ok (.iconst 1, 1) := by decide +kernel
theorem dX12_keep_29 : decode cX12_keep 29 = .ok (.putfield 463, 3) := by decide +kernel
theorem dX12_keep_32 : decode cX12_keep 32 = .ok (.iconst 1, 1) := by decide +kernel
theorem dX12_keep_33 : decode cX12_keep 33 = .ok (.ireturn, 1) := by decide +kernel
def f12_keep_b2B (K27 : lu_M → Option (Int32 × lu_M)) (rec : Int32 → lu_M → Option (Int32 × lu_M))  (v1 : Int32) (m : lu_M) : Option (Int32 × lu_M) :=
  if (368 : Int32) ≤ v1 then (K27 m)
  else (lu_gd (lu_ib v1 368) <|
  lu_gd (lu_ib v1 368) <|
  lu_nm (lu_st m 2 v1.toNatClampNeg (m 1 v1.toNatClampNeg)) fun m1 =>
  rec (v1 + (1 : Int32)) m1)
def f12_keep_b2 (K27 : lu_M → Option (Int32 × lu_M))  : Nat → Int32 → lu_M → Option (Int32 × lu_M)
  | 0, _, _ => none
  | n + 1, v1, m => f12_keep_b2B K27 (f12_keep_b2 K27 n) v1 m
set_option maxRecDepth 20000 in
theorem w12_keep_b2B  {G : lu_G} {ρ : Nat → Nat}  {K27 : lu_M → Option (Int32 × lu_M)} {rec : Int32 → lu_M → Option (Int32 × lu_M)} (X : lu_X G RX12 cX12_keep 2 0 0) (hret : (lu_me G).sig.returnType = (some .int))  (hK27 : ∀  (m : lu_M), lu_Ab lu_TM G (lu_Q lu_TM G ρ lu_RVi lu_sn) (K27 m) 27 [(0, .ref (ρ 0))] [] ρ 0 0 [] m) (hrec : ∀ (v1 : Int32) (m : lu_M), lu_Ab lu_TM G (lu_Q lu_TM G ρ lu_RVi lu_sn) (rec v1 m) 2 [(0, .ref (ρ 0)), (1, .int v1)] [] ρ 0 0 [] m) : ∀ (v1 : Int32) (m : lu_M), lu_Ab lu_TM G (lu_Q lu_TM G ρ lu_RVi lu_sn) (f12_keep_b2B K27 rec v1 m) 2 [(0, .ref (ρ 0)), (1, .int v1)] [] ρ 0 0 [] m := by
  intro v1 m
  unfold f12_keep_b2B
  refine lu_iload_n X dX12_keep_2 (pc2 := 3) rfl rfl 1 rfl ?_
  refine lu_sipush X dX12_keep_3 (pc2 := 6) rfl sp_368 ?_
  refine lu_icmp_ge (tgt := 27) X dX12_keep_6 (pc2 := 9) rfl (by decide) (fun _ => ?_) (fun _ => ?_)
  · exact lu_sub [0] rfl (hK27 m)
  · refine lu_aload_n X dX12_keep_9 (pc2 := 10) rfl rfl 0 rfl ?_
    refine lu_getr (r2 := 2) X rfl fl12_13 rfl kM_0 lM_0 dX12_keep_10 (pc2 := 13) rfl ?_
    refine lu_iload_n X dX12_keep_13 (pc2 := 14) rfl rfl 1 rfl ?_
    refine lu_aload_n X dX12_keep_14 (pc2 := 15) rfl rfl 0 rfl ?_
    refine lu_getr (r2 := 1) X rfl fl12_7 rfl kM_0 lM_0 dX12_keep_15 (pc2 := 18) rfl ?_
    refine lu_iload_n X dX12_keep_18 (pc2 := 19) rfl rfl 1 rfl ?_
    refine lu_iald X kM_1 lM_1 dX12_keep_19 (pc2 := 20) rfl ?_
    refine lu_iast X kM_2 lM_2 dX12_keep_20 (pc2 := 21) rfl (fun m1 => ?_)
    refine lu_iinc (lv2 := [(1, .int (v1 + (1 : Int32))), (0, .ref (ρ 0))]) X dX12_keep_21 (pc2 := 24) rfl 1 rfl (lu_ii _ ic_1) (by decide) rfl ?_
    refine lu_goto (tgt := 2) X dX12_keep_24 (by decide) ?_
    exact lu_sub [1, 0] rfl (hrec (v1 + (1 : Int32)) m1)
theorem w12_keep_b2  {G : lu_G} {ρ : Nat → Nat}  {K27 : lu_M → Option (Int32 × lu_M)} (X : lu_X G RX12 cX12_keep 2 0 0) (hret : (lu_me G).sig.returnType = (some .int))  (hK27 : ∀  (m : lu_M), lu_Ab lu_TM G (lu_Q lu_TM G ρ lu_RVi lu_sn) (K27 m) 27 [(0, .ref (ρ 0))] [] ρ 0 0 [] m) : ∀ (n : Nat) (v1 : Int32) (m : lu_M), lu_Ab lu_TM G (lu_Q lu_TM G ρ lu_RVi lu_sn) (f12_keep_b2 K27 n v1 m) 2 [(0, .ref (ρ 0)), (1, .int v1)] [] ρ 0 0 [] m := by
  intro n
  induction n with
  | zero => intro v1 m; exact lu_none
  | succ n ih => intro v1 m; exact w12_keep_b2B X hret hK27 ih v1 m
def f12_keep_b27    (m : lu_M) : Option (Int32 × lu_M) :=
  lu_nm (lu_st m 0 3 (1 : Int32)) fun m2 =>
  some ((1 : Int32), m2)
set_option maxRecDepth 20000 in
theorem w12_keep_b27  {G : lu_G} {ρ : Nat → Nat}   (X : lu_X G RX12 cX12_keep 2 0 0) (hret : (lu_me G).sig.returnType = (some .int))   : ∀  (m : lu_M), lu_Ab lu_TM G (lu_Q lu_TM G ρ lu_RVi lu_sn) (f12_keep_b27  m) 27 [(0, .ref (ρ 0))] [] ρ 0 0 [] m := by
  intro  m
  unfold f12_keep_b27
  refine lu_aload_n X dX12_keep_27 (pc2 := 28) rfl rfl 0 rfl ?_
  refine lu_iconst X dX12_keep_28 (pc2 := 29) rfl ic_1 ?_
  refine lu_putzK X (by decide) fl12_463 rfl (Or.inl (by decide)) rfl (by decide +kernel) kM_0 lM_0 dX12_keep_29 (pc2 := 32) rfl (fun m2 => ?_)
  refine lu_iconst X dX12_keep_32 (pc2 := 33) rfl ic_1 ?_
  exact lu_iret X hret dX12_keep_33
def f12_keep  (m : lu_M) : Option (Int32 × lu_M) :=
  f12_keep_b2 f12_keep_b27 lu_fu (0 : Int32) m
set_option maxRecDepth 20000 in
theorem c12_keep (l : Launch)    : lu_C lu_TM l yX12_keep cX12_keep 2 (some .int) 0 0 (fun ρ sa => [.ref (ρ 0)]) (f12_keep ) lu_RVi lu_sn := by
  refine lu_met (cls := RX12) rfl (by decide +kernel) (fun _ _ => Nat.le_of_ble_eq_true rfl) ?_
  intro G ρ m hl X hret
  subst hl
  change lu_Ab lu_TM G (lu_Q lu_TM G ρ lu_RVi lu_sn) (f12_keep  m) 0 [(0, .ref (ρ 0))] [] ρ 0 0 [] m
  unfold f12_keep
  refine lu_iconst X dX12_keep_0 (pc2 := 1) rfl ic_0 ?_
  refine lu_istore_n (lv2 := [(1, .int (0 : Int32)), (0, .ref (ρ 0))]) X dX12_keep_1 (pc2 := 2) rfl rfl (by decide) rfl ?_
  exact lu_sub [1, 0] rfl (w12_keep_b2 X hret (w12_keep_b27 X hret) lu_fu (0 : Int32) m)

theorem dX12_again_0 : decode cX12_again 0 = .ok (.aload_n 0, 1) := by decide +kernel
theorem dX12_again_1 : decode cX12_again 1 = .ok (.getfield 463, 3) := by decide +kernel
theorem dX12_again_4 : decode cX12_again 4 = .ok (.ifCond .ne 6, 3) := by decide +kernel
theorem dX12_again_7 : decode cX12_again 7 = .ok (.bipush (-3), 2) := by decide +kernel
theorem dX12_again_9 : decode cX12_again 9 = .ok (.ireturn, 1) := by decide +kernel
theorem dX12_again_10 : decode cX12_again 10 = .ok (.iconst 0, 1) := by decide +kernel
theorem dX12_again_11 : decode cX12_again 11 = .ok (.istore_n 1, 1) := by decide +kernel
theorem dX12_again_12 : decode cX12_again 12 = .ok (.iload_n 1, 1) := by decide +kernel
theorem dX12_again_13 : decode cX12_again 13 = .ok (.sipush 368, 3) := by decide +kernel
theorem dX12_again_16 : decode cX12_again 16 = .ok (.if_icmp .ge 21, 3) := by decide +kernel
theorem dX12_again_19 : decode cX12_again 19 = .ok (.aload_n 0, 1) := by decide +kernel
theorem dX12_again_20 : decode cX12_again 20 = .ok (.getfield 7, 3) := by decide +kernel
theorem dX12_again_23 : decode cX12_again 23 = .ok (.iload_n 1, 1) := by decide +kernel
theorem dX12_again_24 : decode cX12_again 24 = .ok (.aload_n 0, 1) := by decide +kernel
theorem dX12_again_25 : decode cX12_again 25 = .ok (.getfield 13, 3) := by decide +kernel
theorem dX12_again_28 : decode cX12_again 28 = .ok (.iload_n 1, 1) := by decide +kernel
theorem dX12_again_29 : decode cX12_again 29 = .ok (.iaload, 1) := by decide +kernel
theorem dX12_again_30 : decode cX12_again 30 = .ok (.iastore, 1) := by decide +kernel
theorem dX12_again_31 : decode cX12_again 31 = .ok (.iinc 1 1, 3) := by decide +kernel
theorem dX12_again_34 : decode cX12_again 34 = .ok (.goto (-22), 3) := by decide +kernel
theorem dX12_again_37 : decode cX12_again 37 = .ok (.aload_n 0, 1) := by decide +kernel
theorem dX12_again_38 : decode cX12_again 38 = .ok (.getfield 7, 3) := by decide +kernel
theorem dX12_again_41 : decode cX12_again 41 = .ok (.iconst 0, 1) := by decide +kernel
theorem dX12_again_42 : decode cX12_again 42 = .ok (.iaload, 1) := by decide +kernel
theorem dX12_again_43 : decode cX12_again 43 = .ok (.ireturn, 1) := by decide +kernel
def f12_again_b12B (K37 : lu_M → Option (Int32 × lu_M)) (rec : Int32 → lu_M → Option (Int32 × lu_M))  (v1 : Int32) (m : lu_M) : Option (Int32 × lu_M) :=
  if (368 : Int32) ≤ v1 then (K37 m)
  else (lu_gd (lu_ib v1 368) <|
  lu_gd (lu_ib v1 368) <|
  lu_nm (lu_st m 1 v1.toNatClampNeg (m 2 v1.toNatClampNeg)) fun m1 =>
  rec (v1 + (1 : Int32)) m1)
def f12_again_b12 (K37 : lu_M → Option (Int32 × lu_M))  : Nat → Int32 → lu_M → Option (Int32 × lu_M)
  | 0, _, _ => none
  | n + 1, v1, m => f12_again_b12B K37 (f12_again_b12 K37 n) v1 m
set_option maxRecDepth 20000 in
theorem w12_again_b12B  {G : lu_G} {ρ : Nat → Nat}  {K37 : lu_M → Option (Int32 × lu_M)} {rec : Int32 → lu_M → Option (Int32 × lu_M)} (X : lu_X G RX12 cX12_again 2 0 0) (hret : (lu_me G).sig.returnType = (some .int))  (hK37 : ∀  (m : lu_M), lu_Ab lu_TM G (lu_Q lu_TM G ρ lu_RVi lu_sn) (K37 m) 37 [(0, .ref (ρ 0))] [] ρ 0 0 [] m) (hrec : ∀ (v1 : Int32) (m : lu_M), lu_Ab lu_TM G (lu_Q lu_TM G ρ lu_RVi lu_sn) (rec v1 m) 12 [(0, .ref (ρ 0)), (1, .int v1)] [] ρ 0 0 [] m) : ∀ (v1 : Int32) (m : lu_M), lu_Ab lu_TM G (lu_Q lu_TM G ρ lu_RVi lu_sn) (f12_again_b12B K37 rec v1 m) 12 [(0, .ref (ρ 0)), (1, .int v1)] [] ρ 0 0 [] m := by
  intro v1 m
  unfold f12_again_b12B
  refine lu_iload_n X dX12_again_12 (pc2 := 13) rfl rfl 1 rfl ?_
  refine lu_sipush X dX12_again_13 (pc2 := 16) rfl sp_368 ?_
  refine lu_icmp_ge (tgt := 37) X dX12_again_16 (pc2 := 19) rfl (by decide) (fun _ => ?_) (fun _ => ?_)
  · exact lu_sub [0] rfl (hK37 m)
  · refine lu_aload_n X dX12_again_19 (pc2 := 20) rfl rfl 0 rfl ?_
    refine lu_getr (r2 := 1) X rfl fl12_7 rfl kM_0 lM_0 dX12_again_20 (pc2 := 23) rfl ?_
    refine lu_iload_n X dX12_again_23 (pc2 := 24) rfl rfl 1 rfl ?_
    refine lu_aload_n X dX12_again_24 (pc2 := 25) rfl rfl 0 rfl ?_
    refine lu_getr (r2 := 2) X rfl fl12_13 rfl kM_0 lM_0 dX12_again_25 (pc2 := 28) rfl ?_
    refine lu_iload_n X dX12_again_28 (pc2 := 29) rfl rfl 1 rfl ?_
    refine lu_iald X kM_2 lM_2 dX12_again_29 (pc2 := 30) rfl ?_
    refine lu_iast X kM_1 lM_1 dX12_again_30 (pc2 := 31) rfl (fun m1 => ?_)
    refine lu_iinc (lv2 := [(1, .int (v1 + (1 : Int32))), (0, .ref (ρ 0))]) X dX12_again_31 (pc2 := 34) rfl 1 rfl (lu_ii _ ic_1) (by decide) rfl ?_
    refine lu_goto (tgt := 12) X dX12_again_34 (by decide) ?_
    exact lu_sub [1, 0] rfl (hrec (v1 + (1 : Int32)) m1)
theorem w12_again_b12  {G : lu_G} {ρ : Nat → Nat}  {K37 : lu_M → Option (Int32 × lu_M)} (X : lu_X G RX12 cX12_again 2 0 0) (hret : (lu_me G).sig.returnType = (some .int))  (hK37 : ∀  (m : lu_M), lu_Ab lu_TM G (lu_Q lu_TM G ρ lu_RVi lu_sn) (K37 m) 37 [(0, .ref (ρ 0))] [] ρ 0 0 [] m) : ∀ (n : Nat) (v1 : Int32) (m : lu_M), lu_Ab lu_TM G (lu_Q lu_TM G ρ lu_RVi lu_sn) (f12_again_b12 K37 n v1 m) 12 [(0, .ref (ρ 0)), (1, .int v1)] [] ρ 0 0 [] m := by
  intro n
  induction n with
  | zero => intro v1 m; exact lu_none
  | succ n ih => intro v1 m; exact w12_again_b12B X hret hK37 ih v1 m
def f12_again_b37    (m : lu_M) : Option (Int32 × lu_M) :=
  some ((m 1 0), m)
set_option maxRecDepth 20000 in
theorem w12_again_b37  {G : lu_G} {ρ : Nat → Nat}   (X : lu_X G RX12 cX12_again 2 0 0) (hret : (lu_me G).sig.returnType = (some .int))   : ∀  (m : lu_M), lu_Ab lu_TM G (lu_Q lu_TM G ρ lu_RVi lu_sn) (f12_again_b37  m) 37 [(0, .ref (ρ 0))] [] ρ 0 0 [] m := by
  intro  m
  unfold f12_again_b37
  refine lu_aload_n X dX12_again_37 (pc2 := 38) rfl rfl 0 rfl ?_
  refine lu_getr (r2 := 1) X rfl fl12_7 rfl kM_0 lM_0 dX12_again_38 (pc2 := 41) rfl ?_
  refine lu_iconst X dX12_again_41 (pc2 := 42) rfl ic_0 ?_
  refine lu_ialdK (q := 0) X (by decide) kM_1 lM_1 dX12_again_42 (pc2 := 43) rfl ?_
  exact lu_iret X hret dX12_again_43
def f12_again  (m : lu_M) : Option (Int32 × lu_M) :=
  if (m 0 3) = 0 then (some ((-3 : Int32), m))
  else (f12_again_b12 f12_again_b37 lu_fu (0 : Int32) m)
set_option maxRecDepth 20000 in
theorem c12_again (l : Launch)    : lu_C lu_TM l yX12_again cX12_again 2 (some .int) 0 0 (fun ρ sa => [.ref (ρ 0)]) (f12_again ) lu_RVi lu_sn := by
  refine lu_met (cls := RX12) rfl (by decide +kernel) (fun _ _ => Nat.le_of_ble_eq_true rfl) ?_
  intro G ρ m hl X hret
  subst hl
  change lu_Ab lu_TM G (lu_Q lu_TM G ρ lu_RVi lu_sn) (f12_again  m) 0 [(0, .ref (ρ 0))] [] ρ 0 0 [] m
  unfold f12_again
  refine lu_aload_n X dX12_again_0 (pc2 := 1) rfl rfl 0 rfl ?_
  refine lu_get X fl12_463 rfl kM_0 lM_0 dX12_again_1 (pc2 := 4) rfl ?_
  refine lu_if_ne (tgt := 10) X dX12_again_4 (pc2 := 7) rfl (by decide) (fun _ => ?_) (fun _ => ?_)
  · refine lu_iconst X dX12_again_10 (pc2 := 11) rfl ic_0 ?_
    refine lu_istore_n (lv2 := [(1, .int (0 : Int32)), (0, .ref (ρ 0))]) X dX12_again_11 (pc2 := 12) rfl rfl (by decide) rfl ?_
    exact lu_sub [1, 0] rfl (w12_again_b12 X hret (w12_again_b37 X hret) lu_fu (0 : Int32) m)
  · refine lu_bipush X dX12_again_7 (pc2 := 9) rfl bp_m3 ?_
    exact lu_iret X hret dX12_again_9

/-! WALKS of methods (written by a program out of their instructions): functions of the memory, and contracts -/
theorem dX11_actsRefused_0 : decode cX11_actsRefused 0 = .ok (.iload_n 1, 1) := by decide +kernel
theorem dX11_actsRefused_1 : decode cX11_actsRefused 1 = .ok (.iconst 0, 1) := by decide +kernel
theorem dX11_actsRefused_2 : decode cX11_actsRefused 2 = .ok (.iconst 3, 1) := by decide +kernel
theorem dX11_actsRefused_3 : decode cX11_actsRefused 3 = .ok (.invokestatic 92, 3) := by decide +kernel
theorem dX11_actsRefused_6 : decode cX11_actsRefused 6 = .ok (.ifCond .eq 13, 3) := by decide +kernel
theorem dX11_actsRefused_9 : decode cX11_actsRefused 9 = .ok (.iload_n 2, 1) := by decide +kernel
theorem dX11_actsRefused_10 : decode cX11_actsRefused 10 = .ok (.iconst 0, 1) := by decide +kernel
theorem dX11_actsRefused_11 : decode cX11_actsRefused 11 = .ok (.bipush 20, 2) := by decide +kernel
theorem dX11_actsRefused_13 : decode cX11_actsRefused 13 = .ok (.invokestatic 92, 3) := by decide +kernel
theorem dX11_actsRefused_16 : decode cX11_actsRefused 16 = .ok (.ifCond .ne 5, 3) := by decide +kernel
theorem dX11_actsRefused_19 : decode cX11_actsRefused 19 = .ok (.iconst (-1), 1) := by decide +kernel
theorem dX11_actsRefused_20 : decode cX11_actsRefused 20 = .ok (.ireturn, 1) := by decide +kernel
theorem dX11_actsRefused_21 : decode cX11_actsRefused 21 = .ok (.aload_n 0, 1) := by decide +kernel
theorem dX11_actsRefused_22 : decode cX11_actsRefused 22 = .ok (.getfield 74, 3) := by decide +kernel
theorem dX11_actsRefused_25 : decode cX11_actsRefused 25 = .ok (.iload_n 1, 1) := by decide +kernel
theorem dX11_actsRefused_26 : decode cX11_actsRefused 26 = .ok (.iaload, 1) := by decide +kernel
theorem dX11_actsRefused_27 : decode cX11_actsRefused 27 = .ok (.iconst (-1), 1) := by decide +kernel
theorem dX11_actsRefused_28 : decode cX11_actsRefused 28 = .ok (.if_icmp .ne 6, 3) := by decide +kernel
theorem dX11_actsRefused_31 : decode cX11_actsRefused 31 = .ok (.bipush (-11), 2) := by decide +kernel
theorem dX11_actsRefused_33 : decode cX11_actsRefused 33 = .ok (.ireturn, 1) := by decide +kernel
theorem dX11_actsRefused_34 : decode cX11_actsRefused 34 = .ok (.aload_n 0, 1) := by decide +kernel
theorem dX11_actsRefused_35 : decode cX11_actsRefused 35 = .ok (.getfield 74, 3) := by decide +kernel
theorem dX11_actsRefused_38 : decode cX11_actsRefused 38 = .ok (.iload_n 1, 1) := by decide +kernel
theorem dX11_actsRefused_39 : decode cX11_actsRefused 39 = .ok (.iaload, 1) := by decide +kernel
theorem dX11_actsRefused_40 : decode cX11_actsRefused 40 = .ok (.ifCond .ne 7, 3) := by decide +kernel
theorem dX11_actsRefused_43 : decode cX11_actsRefused 43 = .ok (.iconst 0, 1) := by decide +kernel
theorem dX11_actsRefused_44 : decode cX11_actsRefused 44 = .ok (.goto 5, 3) := by decide +kernel
theorem dX11_actsRefused_47 : decode cX11_actsRefused 47 = .ok (.bipush (-13), 2) := by decide +kernel
theorem dX11_actsRefused_49 : decode cX11_actsRefused 49 = .ok (.ireturn, 1) := by decide +kernel
def f11_actsRefused_b19  (a1 : Int32) (a2 : Int32)  (m : lu_M) : Option (Int32 × lu_M) :=
  some ((-1 : Int32), m)
set_option maxRecDepth 20000 in
theorem w11_actsRefused_b19  {G : lu_G} {ρ : Nat → Nat} {a1 : Int32} {a2 : Int32}  (X : lu_X G RX11 cX11_actsRefused 3 1 22) (hret : (lu_me G).sig.returnType = (some .int))   : ∀  (m : lu_M), lu_Ab lu_TC G (lu_Q lu_TC G ρ lu_RVi lu_sn) (f11_actsRefused_b19 a1 a2 m) 19 [] [] ρ 0 0 [] m := by
  intro  m
  unfold f11_actsRefused_b19
  refine lu_iconst X dX11_actsRefused_19 (pc2 := 20) rfl ic_m1 ?_
  exact lu_iret X hret dX11_actsRefused_20
def f11_actsRefused_b49  (a1 : Int32) (a2 : Int32) (s0 : Int32) (m : lu_M) : Option (Int32 × lu_M) :=
  some (s0, m)
set_option maxRecDepth 20000 in
theorem w11_actsRefused_b49  {G : lu_G} {ρ : Nat → Nat} {a1 : Int32} {a2 : Int32}  (X : lu_X G RX11 cX11_actsRefused 3 1 22) (hret : (lu_me G).sig.returnType = (some .int))   : ∀ (s0 : Int32) (m : lu_M), lu_Ab lu_TC G (lu_Q lu_TC G ρ lu_RVi lu_sn) (f11_actsRefused_b49 a1 a2 s0 m) 49 [] [.int s0] ρ 0 0 [] m := by
  intro s0 m
  unfold f11_actsRefused_b49
  exact lu_iret X hret dX11_actsRefused_49
def f11_actsRefused (a1 : Int32) (a2 : Int32) (m : lu_M) : Option (Int32 × lu_M) :=
  lu_bi (f11_isWithin a1 (0 : Int32) (3 : Int32) m) fun x1 m2 =>
  if x1 = 0 then (f11_actsRefused_b19 a1 a2 m2)
  else (lu_bi (f11_isWithin a2 (0 : Int32) (20 : Int32) m2) fun x3 m4 =>
  if x3 = 0 then (f11_actsRefused_b19 a1 a2 m4)
  else (lu_gd (lu_ib a1 4) <|
  if (m4 104 a1.toNatClampNeg) = (-1 : Int32) then (some ((-11 : Int32), m4))
  else (lu_gd (lu_ib a1 4) <|
  if (m4 104 a1.toNatClampNeg) = 0 then (f11_actsRefused_b49 a1 a2 (0 : Int32) m4)
  else (f11_actsRefused_b49 a1 a2 (-13 : Int32) m4))))
set_option maxRecDepth 20000 in
theorem c11_actsRefused (l : Launch)   (a1 : Int32) (a2 : Int32) : lu_C lu_TC l yX11_actsRefused cX11_actsRefused 3 (some .int) 1 22 (fun ρ sa => [.ref (ρ 0), .int a1, .int a2]) (f11_actsRefused a1 a2) lu_RVi lu_sn := by
  refine lu_met (cls := RX11) rfl (by decide +kernel) (fun _ _ => Nat.le_of_ble_eq_true rfl) ?_
  intro G ρ m hl X hret
  subst hl
  change lu_Ab lu_TC G (lu_Q lu_TC G ρ lu_RVi lu_sn) (f11_actsRefused a1 a2 m) 0 [(0, .ref (ρ 0)), (1, .int a1), (2, .int a2)] [] ρ 0 0 [] m
  unfold f11_actsRefused
  refine lu_iload_n X dX11_actsRefused_0 (pc2 := 1) rfl rfl 1 rfl ?_
  refine lu_iconst X dX11_actsRefused_1 (pc2 := 2) rfl ic_0 ?_
  refine lu_iconst X dX11_actsRefused_2 (pc2 := 3) rfl ic_3 ?_
  refine lu_invSi X (c11_isWithin _ a1 (0 : Int32) (3 : Int32)) rfl q433 mvS_11_isWithin rfl rfl (Nat.le_of_ble_eq_true rfl) (Nat.le_of_ble_eq_true rfl) (Nat.le_of_ble_eq_true rfl) ⟨Nat.zero_le _, Nat.zero_le _⟩ dX11_actsRefused_3 (pc2 := 6) rfl rfl (fun x1 m2 => ?_)
  refine lu_if_eq (tgt := 19) X dX11_actsRefused_6 (pc2 := 9) rfl (by decide) (fun _ => ?_) (fun _ => ?_)
  · exact lu_sub [] rfl (w11_actsRefused_b19 X hret m2)
  · refine lu_iload_n X dX11_actsRefused_9 (pc2 := 10) rfl rfl 2 rfl ?_
    refine lu_iconst X dX11_actsRefused_10 (pc2 := 11) rfl ic_0 ?_
    refine lu_bipush X dX11_actsRefused_11 (pc2 := 13) rfl bp_20 ?_
    refine lu_invSi X (c11_isWithin _ a2 (0 : Int32) (20 : Int32)) rfl q433 mvS_11_isWithin rfl rfl (Nat.le_of_ble_eq_true rfl) (Nat.le_of_ble_eq_true rfl) (Nat.le_of_ble_eq_true rfl) ⟨Nat.zero_le _, Nat.zero_le _⟩ dX11_actsRefused_13 (pc2 := 16) rfl rfl (fun x3 m4 => ?_)
    refine lu_if_ne (tgt := 21) X dX11_actsRefused_16 (pc2 := 19) rfl (by decide) (fun _ => ?_) (fun _ => ?_)
    · refine lu_aload_n X dX11_actsRefused_21 (pc2 := 22) rfl rfl 0 rfl ?_
      refine lu_getr (r2 := 104) X rfl fl11_74 rfl kC_0 lC_0 dX11_actsRefused_22 (pc2 := 25) rfl ?_
      refine lu_iload_n X dX11_actsRefused_25 (pc2 := 26) rfl rfl 1 rfl ?_
      refine lu_iald X kC_104 lC_104 dX11_actsRefused_26 (pc2 := 27) rfl ?_
      refine lu_iconst X dX11_actsRefused_27 (pc2 := 28) rfl ic_m1 ?_
      refine lu_icmp_ne (tgt := 34) X dX11_actsRefused_28 (pc2 := 31) rfl (by decide) (fun _ => ?_) (fun _ => ?_)
      · refine lu_aload_n X dX11_actsRefused_34 (pc2 := 35) rfl rfl 0 rfl ?_
        refine lu_getr (r2 := 104) X rfl fl11_74 rfl kC_0 lC_0 dX11_actsRefused_35 (pc2 := 38) rfl ?_
        refine lu_iload_n X dX11_actsRefused_38 (pc2 := 39) rfl rfl 1 rfl ?_
        refine lu_iald X kC_104 lC_104 dX11_actsRefused_39 (pc2 := 40) rfl ?_
        refine lu_if_ne (tgt := 47) X dX11_actsRefused_40 (pc2 := 43) rfl (by decide) (fun _ => ?_) (fun _ => ?_)
        · refine lu_bipush X dX11_actsRefused_47 (pc2 := 49) rfl bp_m13 ?_
          exact lu_sub [] rfl (w11_actsRefused_b49 X hret (-13 : Int32) m4)
        · refine lu_iconst X dX11_actsRefused_43 (pc2 := 44) rfl ic_0 ?_
          refine lu_goto (tgt := 49) X dX11_actsRefused_44 (by decide) ?_
          exact lu_sub [] rfl (w11_actsRefused_b49 X hret (0 : Int32) m4)
      · refine lu_bipush X dX11_actsRefused_31 (pc2 := 33) rfl bp_m11 ?_
        exact lu_iret X hret dX11_actsRefused_33
    · exact lu_sub [] rfl (w11_actsRefused_b19 X hret m4)

theorem dX11_goAll_0 : decode cX11_goAll 0 = .ok (.aload_n 0, 1) := by decide +kernel
theorem dX11_goAll_1 : decode cX11_goAll 1 = .ok (.iload_n 1, 1) := by decide +kernel
theorem dX11_goAll_2 : decode cX11_goAll 2 = .ok (.iload_n 3, 1) := by decide +kernel
theorem dX11_goAll_3 : decode cX11_goAll 3 = .ok (.invokevirtual 296, 3) := by decide +kernel
theorem dX11_goAll_6 : decode cX11_goAll 6 = .ok (.istore 4, 2) := by decide +kernel
theorem dX11_goAll_8 : decode cX11_goAll 8 = .ok (.iload 4, 2) := by decide +kernel
theorem dX11_goAll_10 : decode cX11_goAll 10 = .ok (.ifCond .eq 6, 3) := by decide +kernel
theorem dX11_goAll_13 : decode cX11_goAll 13 = .ok (.iload 4, 2) := by decide +kernel
theorem dX11_goAll_15 : decode cX11_goAll 15 = .ok (.ireturn, 1) := by decide +kernel
theorem dX11_goAll_16 : decode cX11_goAll 16 = .ok (.iconst 0, 1) := by decide +kernel
theorem dX11_goAll_17 : decode cX11_goAll 17 = .ok (.istore 5, 2) := by decide +kernel
theorem dX11_goAll_19 : decode cX11_goAll 19 = .ok (.iconst 0, 1) := by decide +kernel
theorem dX11_goAll_20 : decode cX11_goAll 20 = .ok (.istore 6, 2) := by decide +kernel
theorem dX11_goAll_22 : decode cX11_goAll 22 = .ok (.iload 6, 2) := by decide +kernel
theorem dX11_goAll_24 : decode cX11_goAll 24 = .ok (.iload_n 3, 1) := by decide +kernel
theorem dX11_goAll_25 : decode cX11_goAll 25 = .ok (.if_icmp .ge 96, 3) := by decide +kernel
theorem dX11_goAll_28 : decode cX11_goAll 28 = .ok (.iload_n 2, 1) := by decide +kernel
theorem dX11_goAll_29 : decode cX11_goAll 29 = .ok (.iload 6, 2) := by decide +kernel
theorem dX11_goAll_31 : decode cX11_goAll 31 = .ok (.iadd, 1) := by decide +kernel
theorem dX11_goAll_32 : decode cX11_goAll 32 = .ok (.istore 7, 2) := by decide +kernel
theorem dX11_goAll_34 : decode cX11_goAll 34 = .ok (.iload 7, 2) := by decide +kernel
theorem dX11_goAll_36 : decode cX11_goAll 36 = .ok (.iconst 0, 1) := by decide +kernel
theorem dX11_goAll_37 : decode cX11_goAll 37 = .ok (.aload_n 0, 1) := by decide +kernel
theorem dX11_goAll_38 : decode cX11_goAll 38 = .ok (.getfield 77, 3) := by decide +kernel
theorem dX11_goAll_41 : decode cX11_goAll 41 = .ok (.iload_n 1, 1) := by decide +kernel
theorem dX11_goAll_42 : decode cX11_goAll 42 = .ok (.iaload, 1) := by decide +kernel
theorem dX11_goAll_43 : decode cX11_goAll 43 = .ok (.iconst 1, 1) := by decide +kernel
theorem dX11_goAll_44 : decode cX11_goAll 44 = .ok (.isub, 1) := by decide +kernel
theorem dX11_goAll_45 : decode cX11_goAll 45 = .ok (.invokestatic 92, 3) := by decide +kernel
theorem dX11_goAll_48 : decode cX11_goAll 48 = .ok (.ifCond .ne 6, 3) := by decide +kernel
theorem dX11_goAll_51 : decode cX11_goAll 51 = .ok (.bipush (-12), 2) := by decide +kernel
theorem dX11_goAll_53 : decode cX11_goAll 53 = .ok (.ireturn, 1) := by decide +kernel
theorem dX11_goAll_54 : decode cX11_goAll 54 = .ok (.aload_n 0, 1) := by decide +kernel
theorem dX11_goAll_55 : decode cX11_goAll 55 = .ok (.getfield 80, 3) := by decide +kernel
theorem dX11_goAll_58 : decode cX11_goAll 58 = .ok (.iload_n 1, 1) := by decide +kernel
theorem dX11_goAll_59 : decode cX11_goAll 59 = .ok (.aaload, 1) := by decide +kernel
theorem dX11_goAll_60 : decode cX11_goAll 60 = .ok (.iload 7, 2) := by decide +kernel
theorem dX11_goAll_62 : decode cX11_goAll 62 = .ok (.iaload, 1) := by decide +kernel
theorem dX11_goAll_63 : decode cX11_goAll 63 = .ok (.istore 8, 2) := by decide +kernel
theorem dX11_goAll_65 : decode cX11_goAll 65 = .ok (.aload_n 0, 1) := by decide +kernel
theorem dX11_goAll_66 : decode cX11_goAll 66 = .ok (.getfield 18, 3) := by decide +kernel
theorem dX11_goAll_69 : decode cX11_goAll 69 = .ok (.iload 8, 2) := by decide +kernel
theorem dX11_goAll_71 : decode cX11_goAll 71 = .ok (.invokevirtual 290, 3) := by decide +kernel
theorem dX11_goAll_74 : decode cX11_goAll 74 = .ok (.ifCond .eq 41, 3) := by decide +kernel
theorem dX11_goAll_77 : decode cX11_goAll 77 = .ok (.aload_n 0, 1) := by decide +kernel
theorem dX11_goAll_78 : decode cX11_goAll 78 = .ok (.getfield 18, 3) := by decide +kernel
theorem dX11_goAll_81 : decode cX11_goAll 81 = .ok (.aload_n 0, 1) := by decide +kernel
theorem dX11_goAll_82 : decode cX11_goAll 82 = .ok (.getfield 18, 3) := by decide +kernel
theorem dX11_goAll_85 : decode cX11_goAll 85 = .ok (.getfield 115, 3) := by decide +kernel
theorem dX11_goAll_88 : decode cX11_goAll 88 = .ok (.invokevirtual 168, 3) := by decide +kernel
theorem dX11_goAll_91 : decode cX11_goAll 91 = .ok (.ifCond .ne 24, 3) := by decide +kernel
theorem dX11_goAll_94 : decode cX11_goAll 94 = .ok (.iload 5, 2) := by decide +kernel
theorem dX11_goAll_96 : decode cX11_goAll 96 = .ok (.aload_n 0, 1) := by decide +kernel
theorem dX11_goAll_97 : decode cX11_goAll 97 = .ok (.getfield 18, 3) := by decide +kernel
theorem dX11_goAll_100 : decode cX11_goAll 100 = .ok (.aload_n 0, 1) := by decide +kernel
theorem dX11_goAll_101 : decode cX11_goAll 101 = .ok (.getfield 18, 3) := by decide +kernel
theorem dX11_goAll_104 : decode cX11_goAll 104 = .ok (.getfield 115, 3) := by decide +kernel
theorem dX11_goAll_107 : decode cX11_goAll 107 = .ok (.iload 8, 2) := by decide +kernel
theorem dX11_goAll_109 : decode cX11_goAll 109 = .ok (.invokevirtual 195, 3) := by decide +kernel
theorem dX11_goAll_112 : decode cX11_goAll 112 = .ok (.iadd, 1) := by decide +kernel
theorem dX11_goAll_113 : decode cX11_goAll 113 = .ok (.istore 5, 2) := by decide +kernel
theorem dX11_goAll_115 : decode cX11_goAll 115 = .ok (.iinc 6 1, 3) := by decide +kernel
theorem dX11_goAll_118 : decode cX11_goAll 118 = .ok (.goto (-96), 3) := by decide +kernel
theorem dX11_goAll_121 : decode cX11_goAll 121 = .ok (.iload 5, 2) := by decide +kernel
theorem dX11_goAll_123 : decode cX11_goAll 123 = .ok (.ireturn, 1) := by decide +kernel
def f11_goAll_b115 (K22 : Int32 → Int32 → lu_M → Option (Int32 × lu_M)) (K121 : Int32 → lu_M → Option (Int32 × lu_M)) (a1 : Int32) (a2 : Int32) (a3 : Int32) (v5 : Int32) (v6 : Int32) (m : lu_M) : Option (Int32 × lu_M) :=
  K22 v5 (v6 + (1 : Int32)) m
set_option maxRecDepth 20000 in
theorem w11_goAll_b115  {G : lu_G} {ρ : Nat → Nat} {a1 : Int32} {a2 : Int32} {a3 : Int32} {K22 : Int32 → Int32 → lu_M → Option (Int32 × lu_M)} {K121 : Int32 → lu_M → Option (Int32 × lu_M)} (X : lu_X G RX11 cX11_goAll 9 5 122) (hret : (lu_me G).sig.returnType = (some .int))  (hK22 : ∀ (v5 : Int32) (v6 : Int32) (m : lu_M), lu_Ab lu_TC G (lu_Q lu_TC G ρ lu_RVi lu_sn) (K22 v5 v6 m) 22 [(0, .ref (ρ 0)), (1, .int a1), (2, .int a2), (3, .int a3), (5, .int v5), (6, .int v6)] [] ρ 0 0 [] m) (hK121 : ∀ (v5 : Int32) (m : lu_M), lu_Ab lu_TC G (lu_Q lu_TC G ρ lu_RVi lu_sn) (K121 v5 m) 121 [(5, .int v5)] [] ρ 0 0 [] m) : ∀ (v5 : Int32) (v6 : Int32) (m : lu_M), lu_Ab lu_TC G (lu_Q lu_TC G ρ lu_RVi lu_sn) (f11_goAll_b115 K22 K121 a1 a2 a3 v5 v6 m) 115 [(0, .ref (ρ 0)), (1, .int a1), (2, .int a2), (3, .int a3), (5, .int v5), (6, .int v6)] [] ρ 0 0 [] m := by
  intro v5 v6 m
  unfold f11_goAll_b115
  refine lu_iinc (lv2 := [(6, .int (v6 + (1 : Int32))), (0, .ref (ρ 0)), (1, .int a1), (2, .int a2), (3, .int a3), (5, .int v5)]) X dX11_goAll_115 (pc2 := 118) rfl 5 rfl (lu_ii _ ic_1) (by decide) rfl ?_
  refine lu_goto (tgt := 22) X dX11_goAll_118 (by decide) ?_
  exact lu_sub [1, 2, 3, 4, 5, 0] rfl (hK22 v5 (v6 + (1 : Int32)) m)
def f11_goAll_b22B (K51 : lu_M → Option (Int32 × lu_M)) (K121 : Int32 → lu_M → Option (Int32 × lu_M)) (rec : Int32 → Int32 → lu_M → Option (Int32 × lu_M)) (a1 : Int32) (a2 : Int32) (a3 : Int32) (v5 : Int32) (v6 : Int32) (m : lu_M) : Option (Int32 × lu_M) :=
  if a3 ≤ v6 then (K121 v5 m)
  else (lu_nm ((a2 + v6)) fun x3 =>
  lu_gd (lu_ib a1 4) <|
  lu_bi (f11_isWithin x3 (0 : Int32) ((m 105 a1.toNatClampNeg) - (1 : Int32)) m) fun x4 m5 =>
  if x4 = 0 then (K51 m5)
  else (lu_gd (lu_ib a1 4) <|
  lu_gd (lu_ib x3 40) <|
  lu_nm ((m5 (106 + 1 + a1.toNatClampNeg) x3.toNatClampNeg)) fun x7 =>
  lu_bi (f10_isAct 1 x7 m5) fun x8 m9 =>
  if x8 = 0 then (f11_goAll_b115 rec K121 a1 a2 a3 v5 v6 m9)
  else (lu_bi (f10_isOver 1 29 m9) fun x10 m11 =>
  if x10 = 0 then (lu_bi (f10_pass 1 29 x7 m11) fun x12 m13 =>
  lu_nm ((v5 + x12)) fun x14 =>
  f11_goAll_b115 rec K121 a1 a2 a3 x14 v6 m13)
  else (f11_goAll_b115 rec K121 a1 a2 a3 v5 v6 m11))))
def f11_goAll_b22 (K51 : lu_M → Option (Int32 × lu_M)) (K121 : Int32 → lu_M → Option (Int32 × lu_M)) (a1 : Int32) (a2 : Int32) (a3 : Int32) : Nat → Int32 → Int32 → lu_M → Option (Int32 × lu_M)
  | 0, _, _, _ => none
  | n + 1, v5, v6, m => f11_goAll_b22B K51 K121 (f11_goAll_b22 K51 K121 a1 a2 a3 n) a1 a2 a3 v5 v6 m
set_option maxRecDepth 20000 in
theorem w11_goAll_b22B  {G : lu_G} {ρ : Nat → Nat} {a1 : Int32} {a2 : Int32} {a3 : Int32} {K51 : lu_M → Option (Int32 × lu_M)} {K121 : Int32 → lu_M → Option (Int32 × lu_M)} {rec : Int32 → Int32 → lu_M → Option (Int32 × lu_M)} (X : lu_X G RX11 cX11_goAll 9 5 122) (hret : (lu_me G).sig.returnType = (some .int))  (hK51 : ∀  (m : lu_M), lu_Ab lu_TC G (lu_Q lu_TC G ρ lu_RVi lu_sn) (K51 m) 51 [] [] ρ 0 0 [] m) (hK121 : ∀ (v5 : Int32) (m : lu_M), lu_Ab lu_TC G (lu_Q lu_TC G ρ lu_RVi lu_sn) (K121 v5 m) 121 [(5, .int v5)] [] ρ 0 0 [] m) (hrec : ∀ (v5 : Int32) (v6 : Int32) (m : lu_M), lu_Ab lu_TC G (lu_Q lu_TC G ρ lu_RVi lu_sn) (rec v5 v6 m) 22 [(0, .ref (ρ 0)), (1, .int a1), (2, .int a2), (3, .int a3), (5, .int v5), (6, .int v6)] [] ρ 0 0 [] m) : ∀ (v5 : Int32) (v6 : Int32) (m : lu_M), lu_Ab lu_TC G (lu_Q lu_TC G ρ lu_RVi lu_sn) (f11_goAll_b22B K51 K121 rec a1 a2 a3 v5 v6 m) 22 [(0, .ref (ρ 0)), (1, .int a1), (2, .int a2), (3, .int a3), (5, .int v5), (6, .int v6)] [] ρ 0 0 [] m := by
  intro v5 v6 m
  unfold f11_goAll_b22B
  refine lu_iload X dX11_goAll_22 (pc2 := 24) rfl 5 rfl ?_
  refine lu_iload_n X dX11_goAll_24 (pc2 := 25) rfl rfl 3 rfl ?_
  refine lu_icmp_ge (tgt := 121) X dX11_goAll_25 (pc2 := 28) rfl (by decide) (fun _ => ?_) (fun _ => ?_)
  · exact lu_sub [4] rfl (hK121 v5 m)
  · refine lu_iload_n X dX11_goAll_28 (pc2 := 29) rfl rfl 2 rfl ?_
    refine lu_iload X dX11_goAll_29 (pc2 := 31) rfl 5 rfl ?_
    refine lu_iadd X dX11_goAll_31 (pc2 := 32) rfl ?_
    refine lu_topi (fun x3 => ?_)
    refine lu_istore (lv2 := [(7, .int x3), (0, .ref (ρ 0)), (1, .int a1), (2, .int a2), (3, .int a3), (5, .int v5), (6, .int v6)]) X dX11_goAll_32 (pc2 := 34) rfl (by decide) rfl ?_
    refine lu_iload X dX11_goAll_34 (pc2 := 36) rfl 0 rfl ?_
    refine lu_iconst X dX11_goAll_36 (pc2 := 37) rfl ic_0 ?_
    refine lu_aload_n X dX11_goAll_37 (pc2 := 38) rfl rfl 1 rfl ?_
    refine lu_getr (r2 := 105) X rfl fl11_77 rfl kC_0 lC_0 dX11_goAll_38 (pc2 := 41) rfl ?_
    refine lu_iload_n X dX11_goAll_41 (pc2 := 42) rfl rfl 2 rfl ?_
    refine lu_iald X kC_105 lC_105 dX11_goAll_42 (pc2 := 43) rfl ?_
    refine lu_iconst X dX11_goAll_43 (pc2 := 44) rfl ic_1 ?_
    refine lu_isub X dX11_goAll_44 (pc2 := 45) rfl ?_
    refine lu_invSi X (c11_isWithin _ x3 (0 : Int32) ((m 105 a1.toNatClampNeg) - (1 : Int32))) rfl q433 mvS_11_isWithin rfl rfl (Nat.le_of_ble_eq_true rfl) (Nat.le_of_ble_eq_true rfl) (Nat.le_of_ble_eq_true rfl) ⟨Nat.zero_le _, Nat.zero_le _⟩ dX11_goAll_45 (pc2 := 48) rfl rfl (fun x4 m5 => ?_)
    refine lu_if_ne (tgt := 54) X dX11_goAll_48 (pc2 := 51) rfl (by decide) (fun _ => ?_) (fun _ => ?_)
    · refine lu_aload_n X dX11_goAll_54 (pc2 := 55) rfl rfl 1 rfl ?_
      refine lu_getr (r2 := 106) X rfl fl11_80 rfl kC_0 lC_0 dX11_goAll_55 (pc2 := 58) rfl ?_
      refine lu_iload_n X dX11_goAll_58 (pc2 := 59) rfl rfl 2 rfl ?_
      refine lu_aald X rfl rfl (by decide) (by decide) kC_106 lC_106 dX11_goAll_59 (pc2 := 60) rfl (fun g6 => ?_)
      refine lu_iload X dX11_goAll_60 (pc2 := 62) rfl 0 rfl ?_
      refine lu_iald X ((kaC_3_4_40 kC_106 lC_106 g6).1) ((kaC_3_4_40 kC_106 lC_106 g6).2) dX11_goAll_62 (pc2 := 63) rfl ?_
      refine lu_topi (fun x7 => ?_)
      refine lu_istore (lv2 := [(8, .int x7), (7, .int x3), (0, .ref (ρ 0)), (1, .int a1), (2, .int a2), (3, .int a3), (5, .int v5), (6, .int v6)]) X dX11_goAll_63 (pc2 := 65) rfl (by decide) rfl ?_
      refine lu_aload_n X dX11_goAll_65 (pc2 := 66) rfl rfl 2 rfl ?_
      refine lu_getr (r2 := 1) X rfl fl11_18 rfl kC_0 lC_0 dX11_goAll_66 (pc2 := 69) rfl ?_
      refine lu_iload X dX11_goAll_69 (pc2 := 71) rfl 0 rfl ?_
      refine lu_invVi X (c10_isAct _ kC_1 lC_1 x7) rfl q949 mvV_10_isAct kC_1 lC_1 (by decide) ⟨_, rfl, rfl⟩ rfl rfl (Nat.le_of_ble_eq_true rfl) (Nat.le_of_ble_eq_true rfl) (Nat.le_of_ble_eq_true rfl) ⟨Nat.zero_le _, Nat.zero_le _⟩ dX11_goAll_71 (pc2 := 74) rfl rfl (fun x8 m9 => ?_)
      refine lu_if_eq (tgt := 115) X dX11_goAll_74 (pc2 := 77) rfl (by decide) (fun _ => ?_) (fun _ => ?_)
      · exact lu_sub [2, 3, 4, 5, 6, 7] rfl (w11_goAll_b115 X hret hrec hK121 v5 v6 m9)
      · refine lu_aload_n X dX11_goAll_77 (pc2 := 78) rfl rfl 2 rfl ?_
        refine lu_getr (r2 := 1) X rfl fl11_18 rfl kC_0 lC_0 dX11_goAll_78 (pc2 := 81) rfl ?_
        refine lu_aload_n X dX11_goAll_81 (pc2 := 82) rfl rfl 2 rfl ?_
        refine lu_getr (r2 := 1) X rfl fl11_18 rfl kC_0 lC_0 dX11_goAll_82 (pc2 := 85) rfl ?_
        refine lu_getr (r2 := 29) X rfl fl11_115 rfl kC_1 lC_1 dX11_goAll_85 (pc2 := 88) rfl ?_
        refine lu_invVi X (c10_isOver _ kC_1 lC_1 kC_29 lC_29) rfl q565 mvV_10_isOver kC_1 lC_1 (by decide) ⟨_, rfl, rfl⟩ rfl rfl (Nat.le_of_ble_eq_true rfl) (Nat.le_of_ble_eq_true rfl) (Nat.le_of_ble_eq_true rfl) ⟨Nat.zero_le _, Nat.zero_le _⟩ dX11_goAll_88 (pc2 := 91) rfl rfl (fun x10 m11 => ?_)
        refine lu_if_ne (tgt := 115) X dX11_goAll_91 (pc2 := 94) rfl (by decide) (fun _ => ?_) (fun _ => ?_)
        · exact lu_sub [2, 3, 4, 5, 6, 7] rfl (w11_goAll_b115 X hret hrec hK121 v5 v6 m11)
        · refine lu_iload X dX11_goAll_94 (pc2 := 96) rfl 6 rfl ?_
          refine lu_aload_n X dX11_goAll_96 (pc2 := 97) rfl rfl 2 rfl ?_
          refine lu_getr (r2 := 1) X rfl fl11_18 rfl kC_0 lC_0 dX11_goAll_97 (pc2 := 100) rfl ?_
          refine lu_aload_n X dX11_goAll_100 (pc2 := 101) rfl rfl 2 rfl ?_
          refine lu_getr (r2 := 1) X rfl fl11_18 rfl kC_0 lC_0 dX11_goAll_101 (pc2 := 104) rfl ?_
          refine lu_getr (r2 := 29) X rfl fl11_115 rfl kC_1 lC_1 dX11_goAll_104 (pc2 := 107) rfl ?_
          refine lu_iload X dX11_goAll_107 (pc2 := 109) rfl 0 rfl ?_
          refine lu_invVi X (c10_pass _ kC_1 lC_1 kC_29 lC_29 x7) rfl q721 mvV_10_pass kC_1 lC_1 (by decide) ⟨_, rfl, rfl⟩ rfl rfl (Nat.le_of_ble_eq_true rfl) (Nat.le_of_ble_eq_true rfl) (Nat.le_of_ble_eq_true rfl) ⟨Nat.zero_le _, Nat.zero_le _⟩ dX11_goAll_109 (pc2 := 112) rfl rfl (fun x12 m13 => ?_)
          refine lu_iadd X dX11_goAll_112 (pc2 := 113) rfl ?_
          refine lu_topi (fun x14 => ?_)
          refine lu_istore (lv2 := [(5, .int x14), (8, .int x7), (7, .int x3), (0, .ref (ρ 0)), (1, .int a1), (2, .int a2), (3, .int a3), (6, .int v6)]) X dX11_goAll_113 (pc2 := 115) rfl (by decide) rfl ?_
          exact lu_sub [3, 4, 5, 6, 0, 7] rfl (w11_goAll_b115 X hret hrec hK121 x14 v6 m13)
    · exact lu_sub [] rfl (hK51 m5)
theorem w11_goAll_b22  {G : lu_G} {ρ : Nat → Nat} {a1 : Int32} {a2 : Int32} {a3 : Int32} {K51 : lu_M → Option (Int32 × lu_M)} {K121 : Int32 → lu_M → Option (Int32 × lu_M)} (X : lu_X G RX11 cX11_goAll 9 5 122) (hret : (lu_me G).sig.returnType = (some .int))  (hK51 : ∀  (m : lu_M), lu_Ab lu_TC G (lu_Q lu_TC G ρ lu_RVi lu_sn) (K51 m) 51 [] [] ρ 0 0 [] m) (hK121 : ∀ (v5 : Int32) (m : lu_M), lu_Ab lu_TC G (lu_Q lu_TC G ρ lu_RVi lu_sn) (K121 v5 m) 121 [(5, .int v5)] [] ρ 0 0 [] m) : ∀ (n : Nat) (v5 : Int32) (v6 : Int32) (m : lu_M), lu_Ab lu_TC G (lu_Q lu_TC G ρ lu_RVi lu_sn) (f11_goAll_b22 K51 K121 a1 a2 a3 n v5 v6 m) 22 [(0, .ref (ρ 0)), (1, .int a1), (2, .int a2), (3, .int a3), (5, .int v5), (6, .int v6)] [] ρ 0 0 [] m := by
  intro n
  induction n with
  | zero => intro v5 v6 m; exact lu_none
  | succ n ih => intro v5 v6 m; exact w11_goAll_b22B X hret hK51 hK121 ih v5 v6 m
def f11_goAll_b51  (a1 : Int32) (a2 : Int32) (a3 : Int32)  (m : lu_M) : Option (Int32 × lu_M) :=
  some ((-12 : Int32), m)
set_option maxRecDepth 20000 in
theorem w11_goAll_b51  {G : lu_G} {ρ : Nat → Nat} {a1 : Int32} {a2 : Int32} {a3 : Int32}  (X : lu_X G RX11 cX11_goAll 9 5 122) (hret : (lu_me G).sig.returnType = (some .int))   : ∀  (m : lu_M), lu_Ab lu_TC G (lu_Q lu_TC G ρ lu_RVi lu_sn) (f11_goAll_b51 a1 a2 a3 m) 51 [] [] ρ 0 0 [] m := by
  intro  m
  unfold f11_goAll_b51
  refine lu_bipush X dX11_goAll_51 (pc2 := 53) rfl bp_m12 ?_
  exact lu_iret X hret dX11_goAll_53
def f11_goAll_b121  (a1 : Int32) (a2 : Int32) (a3 : Int32) (v5 : Int32) (m : lu_M) : Option (Int32 × lu_M) :=
  some (v5, m)
set_option maxRecDepth 20000 in
theorem w11_goAll_b121  {G : lu_G} {ρ : Nat → Nat} {a1 : Int32} {a2 : Int32} {a3 : Int32}  (X : lu_X G RX11 cX11_goAll 9 5 122) (hret : (lu_me G).sig.returnType = (some .int))   : ∀ (v5 : Int32) (m : lu_M), lu_Ab lu_TC G (lu_Q lu_TC G ρ lu_RVi lu_sn) (f11_goAll_b121 a1 a2 a3 v5 m) 121 [(5, .int v5)] [] ρ 0 0 [] m := by
  intro v5 m
  unfold f11_goAll_b121
  refine lu_iload X dX11_goAll_121 (pc2 := 123) rfl 0 rfl ?_
  exact lu_iret X hret dX11_goAll_123
def f11_goAll (a1 : Int32) (a2 : Int32) (a3 : Int32) (m : lu_M) : Option (Int32 × lu_M) :=
  lu_bi (f11_actsRefused a1 a3 m) fun x1 m2 =>
  if x1 = 0 then (f11_goAll_b22 (f11_goAll_b51 a1 a2 a3) (f11_goAll_b121 a1 a2 a3) a1 a2 a3 lu_fu (0 : Int32) (0 : Int32) m2)
  else (some (x1, m2))
set_option maxRecDepth 20000 in
theorem c11_goAll (l : Launch)   (a1 : Int32) (a2 : Int32) (a3 : Int32) : lu_C lu_TC l yX11_goAll cX11_goAll 9 (some .int) 5 122 (fun ρ sa => [.ref (ρ 0), .int a1, .int a2, .int a3]) (f11_goAll a1 a2 a3) lu_RVi lu_sn := by
  refine lu_met (cls := RX11) rfl (by decide +kernel) (fun _ _ => Nat.le_of_ble_eq_true rfl) ?_
  intro G ρ m hl X hret
  subst hl
  change lu_Ab lu_TC G (lu_Q lu_TC G ρ lu_RVi lu_sn) (f11_goAll a1 a2 a3 m) 0 [(0, .ref (ρ 0)), (1, .int a1), (2, .int a2), (3, .int a3)] [] ρ 0 0 [] m
  unfold f11_goAll
  refine lu_aload_n X dX11_goAll_0 (pc2 := 1) rfl rfl 0 rfl ?_
  refine lu_iload_n X dX11_goAll_1 (pc2 := 2) rfl rfl 1 rfl ?_
  refine lu_iload_n X dX11_goAll_2 (pc2 := 3) rfl rfl 3 rfl ?_
  refine lu_invVi X (c11_actsRefused _ a1 a3) rfl q972 mvV_11_actsRefused kC_0 lC_0 (by decide) ⟨_, rfl, rfl⟩ rfl rfl (Nat.le_of_ble_eq_true rfl) (Nat.le_of_ble_eq_true rfl) (Nat.le_of_ble_eq_true rfl) ⟨Nat.zero_le _, Nat.zero_le _⟩ dX11_goAll_3 (pc2 := 6) rfl rfl (fun x1 m2 => ?_)
  refine lu_istore (lv2 := [(4, .int x1), (0, .ref (ρ 0)), (1, .int a1), (2, .int a2), (3, .int a3)]) X dX11_goAll_6 (pc2 := 8) rfl (by decide) rfl ?_
  refine lu_iload X dX11_goAll_8 (pc2 := 10) rfl 0 rfl ?_
  refine lu_if_eq (tgt := 16) X dX11_goAll_10 (pc2 := 13) rfl (by decide) (fun _ => ?_) (fun _ => ?_)
  · refine lu_iconst X dX11_goAll_16 (pc2 := 17) rfl ic_0 ?_
    refine lu_istore (lv2 := [(5, .int (0 : Int32)), (4, .int x1), (0, .ref (ρ 0)), (1, .int a1), (2, .int a2), (3, .int a3)]) X dX11_goAll_17 (pc2 := 19) rfl (by decide) rfl ?_
    refine lu_iconst X dX11_goAll_19 (pc2 := 20) rfl ic_0 ?_
    refine lu_istore (lv2 := [(6, .int (0 : Int32)), (5, .int (0 : Int32)), (4, .int x1), (0, .ref (ρ 0)), (1, .int a1), (2, .int a2), (3, .int a3)]) X dX11_goAll_20 (pc2 := 22) rfl (by decide) rfl ?_
    exact lu_sub [3, 4, 5, 6, 1, 0] rfl (w11_goAll_b22 X hret (w11_goAll_b51 X hret) (w11_goAll_b121 X hret) lu_fu (0 : Int32) (0 : Int32) m2)
  · refine lu_iload X dX11_goAll_13 (pc2 := 15) rfl 0 rfl ?_
    exact lu_iret X hret dX11_goAll_15

theorem dX11_wouldBe_0 : decode cX11_wouldBe 0 = .ok (.aload_n 0, 1) := by decide +kernel
theorem dX11_wouldBe_1 : decode cX11_wouldBe 1 = .ok (.iload_n 1, 1) := by decide +kernel
theorem dX11_wouldBe_2 : decode cX11_wouldBe 2 = .ok (.iload_n 3, 1) := by decide +kernel
theorem dX11_wouldBe_3 : decode cX11_wouldBe 3 = .ok (.invokevirtual 296, 3) := by decide +kernel
theorem dX11_wouldBe_6 : decode cX11_wouldBe 6 = .ok (.istore 4, 2) := by decide +kernel
theorem dX11_wouldBe_8 : decode cX11_wouldBe 8 = .ok (.iload 4, 2) := by decide +kernel
theorem dX11_wouldBe_10 : decode cX11_wouldBe 10 = .ok (.ifCond .eq 6, 3) := by decide +kernel
theorem dX11_wouldBe_13 : decode cX11_wouldBe 13 = .ok (.iload 4, 2) := by decide +kernel
theorem dX11_wouldBe_15 : decode cX11_wouldBe 15 = .ok (.ireturn, 1) := by decide +kernel
theorem dX11_wouldBe_16 : decode cX11_wouldBe 16 = .ok (.aload_n 0, 1) := by decide +kernel
theorem dX11_wouldBe_17 : decode cX11_wouldBe 17 = .ok (.getfield 32, 3) := by decide +kernel
theorem dX11_wouldBe_20 : decode cX11_wouldBe 20 = .ok (.aload_n 0, 1) := by decide +kernel
theorem dX11_wouldBe_21 : decode cX11_wouldBe 21 = .ok (.getfield 18, 3) := by decide +kernel
theorem dX11_wouldBe_24 : decode cX11_wouldBe 24 = .ok (.getfield 115, 3) := by decide +kernel
theorem dX11_wouldBe_27 : decode cX11_wouldBe 27 = .ok (.invokevirtual 203, 3) := by decide +kernel
theorem dX11_wouldBe_30 : decode cX11_wouldBe 30 = .ok (.iconst 0, 1) := by decide +kernel
theorem dX11_wouldBe_31 : decode cX11_wouldBe 31 = .ok (.istore 5, 2) := by decide +kernel
theorem dX11_wouldBe_33 : decode cX11_wouldBe 33 = .ok (.iload 5, 2) := by decide +kernel
theorem dX11_wouldBe_35 : decode cX11_wouldBe 35 = .ok (.iload_n 3, 1) := by decide +kernel
theorem dX11_wouldBe_36 : decode cX11_wouldBe 36 = .ok (.if_icmp .ge 89, 3) := by decide +kernel
theorem dX11_wouldBe_39 : decode cX11_wouldBe 39 = .ok (.iload_n 2, 1) := by decide +kernel
theorem dX11_wouldBe_40 : decode cX11_wouldBe 40 = .ok (.iload 5, 2) := by decide +kernel
theorem dX11_wouldBe_42 : decode cX11_wouldBe 42 = .ok (.iadd, 1) := by decide +kernel
theorem dX11_wouldBe_43 : decode cX11_wouldBe 43 = .ok (.istore 6, 2) := by decide +kernel
theorem dX11_wouldBe_45 : decode cX11_wouldBe 45 = .ok (.iload 6, 2) := by decide +kernel
theorem dX11_wouldBe_47 : decode cX11_wouldBe 47 = .ok (.iconst 0, 1) := by decide +kernel
theorem dX11_wouldBe_48 : decode cX11_wouldBe 48 = .ok (.aload_n 0, 1) := by decide +kernel
theorem dX11_wouldBe_49 : decode cX11_wouldBe 49 = .ok (.getfield 77, 3) := by decide +kernel
theorem dX11_wouldBe_52 : decode cX11_wouldBe 52 = .ok (.iload_n 1, 1) := by decide +kernel
theorem dX11_wouldBe_53 : decode cX11_wouldBe 53 = .ok (.iaload, 1) := by decide +kernel
theorem dX11_wouldBe_54 : decode cX11_wouldBe 54 = .ok (.iconst 1, 1) := by decide +kernel
theorem dX11_wouldBe_55 : decode cX11_wouldBe 55 = .ok (.isub, 1) := by decide +kernel
theorem dX11_wouldBe_56 : decode cX11_wouldBe 56 = .ok (.invokestatic 92, 3) := by decide +kernel
theorem dX11_wouldBe_59 : decode cX11_wouldBe 59 = .ok (.ifCond .ne 6, 3) := by decide +kernel
theorem dX11_wouldBe_62 : decode cX11_wouldBe 62 = .ok (.bipush (-12), 2) := by decide +kernel
theorem dX11_wouldBe_64 : decode cX11_wouldBe 64 = .ok (.ireturn, 1) := by decide +kernel
theorem dX11_wouldBe_65 : decode cX11_wouldBe 65 = .ok (.aload_n 0, 1) := by decide +kernel
theorem dX11_wouldBe_66 : decode cX11_wouldBe 66 = .ok (.getfield 80, 3) := by decide +kernel
theorem dX11_wouldBe_69 : decode cX11_wouldBe 69 = .ok (.iload_n 1, 1) := by decide +kernel
theorem dX11_wouldBe_70 : decode cX11_wouldBe 70 = .ok (.aaload, 1) := by decide +kernel
theorem dX11_wouldBe_71 : decode cX11_wouldBe 71 = .ok (.iload 6, 2) := by decide +kernel
theorem dX11_wouldBe_73 : decode cX11_wouldBe 73 = .ok (.iaload, 1) := by decide +kernel
theorem dX11_wouldBe_74 : decode cX11_wouldBe 74 = .ok (.istore 7, 2) := by decide +kernel
theorem dX11_wouldBe_76 : decode cX11_wouldBe 76 = .ok (.aload_n 0, 1) := by decide +kernel
theorem dX11_wouldBe_77 : decode cX11_wouldBe 77 = .ok (.getfield 18, 3) := by decide +kernel
theorem dX11_wouldBe_80 : decode cX11_wouldBe 80 = .ok (.iload 7, 2) := by decide +kernel
theorem dX11_wouldBe_82 : decode cX11_wouldBe 82 = .ok (.invokevirtual 290, 3) := by decide +kernel
theorem dX11_wouldBe_85 : decode cX11_wouldBe 85 = .ok (.ifCond .eq 17, 3) := by decide +kernel
theorem dX11_wouldBe_88 : decode cX11_wouldBe 88 = .ok (.aload_n 0, 1) := by decide +kernel
theorem dX11_wouldBe_89 : decode cX11_wouldBe 89 = .ok (.getfield 18, 3) := by decide +kernel
theorem dX11_wouldBe_92 : decode cX11_wouldBe 92 = .ok (.aload_n 0, 1) := by decide +kernel
theorem dX11_wouldBe_93 : decode cX11_wouldBe 93 = .ok (.getfield 32, 3) := by decide +kernel
theorem dX11_wouldBe_96 : decode cX11_wouldBe 96 = .ok (.invokevirtual 168, 3) := by decide +kernel
theorem dX11_wouldBe_99 : decode cX11_wouldBe 99 = .ok (.ifCond .eq 6, 3) := by decide +kernel
theorem dX11_wouldBe_102 : decode cX11_wouldBe 102 = .ok (.bipush (-4), 2) := by decide +kernel
theorem dX11_wouldBe_104 : decode cX11_wouldBe 104 = .ok (.ireturn, 1) := by decide +kernel
theorem dX11_wouldBe_105 : decode cX11_wouldBe 105 = .ok (.aload_n 0, 1) := by decide +kernel
theorem dX11_wouldBe_106 : decode cX11_wouldBe 106 = .ok (.getfield 18, 3) := by decide +kernel
theorem dX11_wouldBe_109 : decode cX11_wouldBe 109 = .ok (.aload_n 0, 1) := by decide +kernel
theorem dX11_wouldBe_110 : decode cX11_wouldBe 110 = .ok (.getfield 32, 3) := by decide +kernel
theorem dX11_wouldBe_113 : decode cX11_wouldBe 113 = .ok (.iload 7, 2) := by decide +kernel
theorem dX11_wouldBe_115 : decode cX11_wouldBe 115 = .ok (.invokevirtual 195, 3) := by decide +kernel
theorem dX11_wouldBe_118 : decode cX11_wouldBe 118 = .ok (.pop, 1) := by decide +kernel
theorem dX11_wouldBe_119 : decode cX11_wouldBe 119 = .ok (.iinc 5 1, 3) := by decide +kernel
theorem dX11_wouldBe_122 : decode cX11_wouldBe 122 = .ok (.goto (-89), 3) := by decide +kernel
theorem dX11_wouldBe_125 : decode cX11_wouldBe 125 = .ok (.aload_n 0, 1) := by decide +kernel
theorem dX11_wouldBe_126 : decode cX11_wouldBe 126 = .ok (.getfield 32, 3) := by decide +kernel
theorem dX11_wouldBe_129 : decode cX11_wouldBe 129 = .ok (.getfield 165, 3) := by decide +kernel
theorem dX11_wouldBe_132 : decode cX11_wouldBe 132 = .ok (.ireturn, 1) := by decide +kernel
def f11_wouldBe_b33B (K62 : lu_M → Option (Int32 × lu_M)) (K102 : lu_M → Option (Int32 × lu_M)) (K125 : lu_M → Option (Int32 × lu_M)) (rec : Int32 → lu_M → Option (Int32 × lu_M)) (a1 : Int32) (a2 : Int32) (a3 : Int32) (v5 : Int32) (m : lu_M) : Option (Int32 × lu_M) :=
  if a3 ≤ v5 then (K125 m)
  else (lu_nm ((a2 + v5)) fun x4 =>
  lu_gd (lu_ib a1 4) <|
  lu_bi (f11_isWithin x4 (0 : Int32) ((m 105 a1.toNatClampNeg) - (1 : Int32)) m) fun x5 m6 =>
  if x5 = 0 then (K62 m6)
  else (lu_gd (lu_ib a1 4) <|
  lu_gd (lu_ib x4 40) <|
  lu_nm ((m6 (106 + 1 + a1.toNatClampNeg) x4.toNatClampNeg)) fun x8 =>
  lu_bi (f10_isAct 1 x8 m6) fun x9 m10 =>
  if x9 = 0 then (K102 m10)
  else (lu_bi (f10_isOver 1 73 m10) fun x11 m12 =>
  if x11 = 0 then (lu_bi (f10_pass 1 73 x8 m12) fun x13 m14 =>
  rec (v5 + (1 : Int32)) m14)
  else (K102 m12))))
def f11_wouldBe_b33 (K62 : lu_M → Option (Int32 × lu_M)) (K102 : lu_M → Option (Int32 × lu_M)) (K125 : lu_M → Option (Int32 × lu_M)) (a1 : Int32) (a2 : Int32) (a3 : Int32) : Nat → Int32 → lu_M → Option (Int32 × lu_M)
  | 0, _, _ => none
  | n + 1, v5, m => f11_wouldBe_b33B K62 K102 K125 (f11_wouldBe_b33 K62 K102 K125 a1 a2 a3 n) a1 a2 a3 v5 m
set_option maxRecDepth 20000 in
theorem w11_wouldBe_b33B  {G : lu_G} {ρ : Nat → Nat} {a1 : Int32} {a2 : Int32} {a3 : Int32} {K62 : lu_M → Option (Int32 × lu_M)} {K102 : lu_M → Option (Int32 × lu_M)} {K125 : lu_M → Option (Int32 × lu_M)} {rec : Int32 → lu_M → Option (Int32 × lu_M)} (X : lu_X G RX11 cX11_wouldBe 8 5 122) (hret : (lu_me G).sig.returnType = (some .int))  (hK62 : ∀  (m : lu_M), lu_Ab lu_TC G (lu_Q lu_TC G ρ lu_RVi lu_sn) (K62 m) 62 [] [] ρ 0 0 [] m) (hK102 : ∀  (m : lu_M), lu_Ab lu_TC G (lu_Q lu_TC G ρ lu_RVi lu_sn) (K102 m) 102 [] [] ρ 0 0 [] m) (hK125 : ∀  (m : lu_M), lu_Ab lu_TC G (lu_Q lu_TC G ρ lu_RVi lu_sn) (K125 m) 125 [(0, .ref (ρ 0))] [] ρ 0 0 [] m) (hrec : ∀ (v5 : Int32) (m : lu_M), lu_Ab lu_TC G (lu_Q lu_TC G ρ lu_RVi lu_sn) (rec v5 m) 33 [(0, .ref (ρ 0)), (1, .int a1), (2, .int a2), (3, .int a3), (5, .int v5)] [] ρ 0 0 [] m) : ∀ (v5 : Int32) (m : lu_M), lu_Ab lu_TC G (lu_Q lu_TC G ρ lu_RVi lu_sn) (f11_wouldBe_b33B K62 K102 K125 rec a1 a2 a3 v5 m) 33 [(0, .ref (ρ 0)), (1, .int a1), (2, .int a2), (3, .int a3), (5, .int v5)] [] ρ 0 0 [] m := by
  intro v5 m
  unfold f11_wouldBe_b33B
  refine lu_iload X dX11_wouldBe_33 (pc2 := 35) rfl 4 rfl ?_
  refine lu_iload_n X dX11_wouldBe_35 (pc2 := 36) rfl rfl 3 rfl ?_
  refine lu_icmp_ge (tgt := 125) X dX11_wouldBe_36 (pc2 := 39) rfl (by decide) (fun _ => ?_) (fun _ => ?_)
  · exact lu_sub [0] rfl (hK125 m)
  · refine lu_iload_n X dX11_wouldBe_39 (pc2 := 40) rfl rfl 2 rfl ?_
    refine lu_iload X dX11_wouldBe_40 (pc2 := 42) rfl 4 rfl ?_
    refine lu_iadd X dX11_wouldBe_42 (pc2 := 43) rfl ?_
    refine lu_topi (fun x4 => ?_)
    refine lu_istore (lv2 := [(6, .int x4), (0, .ref (ρ 0)), (1, .int a1), (2, .int a2), (3, .int a3), (5, .int v5)]) X dX11_wouldBe_43 (pc2 := 45) rfl (by decide) rfl ?_
    refine lu_iload X dX11_wouldBe_45 (pc2 := 47) rfl 0 rfl ?_
    refine lu_iconst X dX11_wouldBe_47 (pc2 := 48) rfl ic_0 ?_
    refine lu_aload_n X dX11_wouldBe_48 (pc2 := 49) rfl rfl 1 rfl ?_
    refine lu_getr (r2 := 105) X rfl fl11_77 rfl kC_0 lC_0 dX11_wouldBe_49 (pc2 := 52) rfl ?_
    refine lu_iload_n X dX11_wouldBe_52 (pc2 := 53) rfl rfl 2 rfl ?_
    refine lu_iald X kC_105 lC_105 dX11_wouldBe_53 (pc2 := 54) rfl ?_
    refine lu_iconst X dX11_wouldBe_54 (pc2 := 55) rfl ic_1 ?_
    refine lu_isub X dX11_wouldBe_55 (pc2 := 56) rfl ?_
    refine lu_invSi X (c11_isWithin _ x4 (0 : Int32) ((m 105 a1.toNatClampNeg) - (1 : Int32))) rfl q433 mvS_11_isWithin rfl rfl (Nat.le_of_ble_eq_true rfl) (Nat.le_of_ble_eq_true rfl) (Nat.le_of_ble_eq_true rfl) ⟨Nat.zero_le _, Nat.zero_le _⟩ dX11_wouldBe_56 (pc2 := 59) rfl rfl (fun x5 m6 => ?_)
    refine lu_if_ne (tgt := 65) X dX11_wouldBe_59 (pc2 := 62) rfl (by decide) (fun _ => ?_) (fun _ => ?_)
    · refine lu_aload_n X dX11_wouldBe_65 (pc2 := 66) rfl rfl 1 rfl ?_
      refine lu_getr (r2 := 106) X rfl fl11_80 rfl kC_0 lC_0 dX11_wouldBe_66 (pc2 := 69) rfl ?_
      refine lu_iload_n X dX11_wouldBe_69 (pc2 := 70) rfl rfl 2 rfl ?_
      refine lu_aald X rfl rfl (by decide) (by decide) kC_106 lC_106 dX11_wouldBe_70 (pc2 := 71) rfl (fun g7 => ?_)
      refine lu_iload X dX11_wouldBe_71 (pc2 := 73) rfl 0 rfl ?_
      refine lu_iald X ((kaC_3_4_40 kC_106 lC_106 g7).1) ((kaC_3_4_40 kC_106 lC_106 g7).2) dX11_wouldBe_73 (pc2 := 74) rfl ?_
      refine lu_topi (fun x8 => ?_)
      refine lu_istore (lv2 := [(7, .int x8), (6, .int x4), (0, .ref (ρ 0)), (1, .int a1), (2, .int a2), (3, .int a3), (5, .int v5)]) X dX11_wouldBe_74 (pc2 := 76) rfl (by decide) rfl ?_
      refine lu_aload_n X dX11_wouldBe_76 (pc2 := 77) rfl rfl 2 rfl ?_
      refine lu_getr (r2 := 1) X rfl fl11_18 rfl kC_0 lC_0 dX11_wouldBe_77 (pc2 := 80) rfl ?_
      refine lu_iload X dX11_wouldBe_80 (pc2 := 82) rfl 0 rfl ?_
      refine lu_invVi X (c10_isAct _ kC_1 lC_1 x8) rfl q949 mvV_10_isAct kC_1 lC_1 (by decide) ⟨_, rfl, rfl⟩ rfl rfl (Nat.le_of_ble_eq_true rfl) (Nat.le_of_ble_eq_true rfl) (Nat.le_of_ble_eq_true rfl) ⟨Nat.zero_le _, Nat.zero_le _⟩ dX11_wouldBe_82 (pc2 := 85) rfl rfl (fun x9 m10 => ?_)
      refine lu_if_eq (tgt := 102) X dX11_wouldBe_85 (pc2 := 88) rfl (by decide) (fun _ => ?_) (fun _ => ?_)
      · exact lu_sub [] rfl (hK102 m10)
      · refine lu_aload_n X dX11_wouldBe_88 (pc2 := 89) rfl rfl 2 rfl ?_
        refine lu_getr (r2 := 1) X rfl fl11_18 rfl kC_0 lC_0 dX11_wouldBe_89 (pc2 := 92) rfl ?_
        refine lu_aload_n X dX11_wouldBe_92 (pc2 := 93) rfl rfl 2 rfl ?_
        refine lu_getr (r2 := 73) X rfl fl11_32 rfl kC_0 lC_0 dX11_wouldBe_93 (pc2 := 96) rfl ?_
        refine lu_invVi X (c10_isOver _ kC_1 lC_1 kC_73 lC_73) rfl q565 mvV_10_isOver kC_1 lC_1 (by decide) ⟨_, rfl, rfl⟩ rfl rfl (Nat.le_of_ble_eq_true rfl) (Nat.le_of_ble_eq_true rfl) (Nat.le_of_ble_eq_true rfl) ⟨Nat.zero_le _, Nat.zero_le _⟩ dX11_wouldBe_96 (pc2 := 99) rfl rfl (fun x11 m12 => ?_)
        refine lu_if_eq (tgt := 105) X dX11_wouldBe_99 (pc2 := 102) rfl (by decide) (fun _ => ?_) (fun _ => ?_)
        · refine lu_aload_n X dX11_wouldBe_105 (pc2 := 106) rfl rfl 2 rfl ?_
          refine lu_getr (r2 := 1) X rfl fl11_18 rfl kC_0 lC_0 dX11_wouldBe_106 (pc2 := 109) rfl ?_
          refine lu_aload_n X dX11_wouldBe_109 (pc2 := 110) rfl rfl 2 rfl ?_
          refine lu_getr (r2 := 73) X rfl fl11_32 rfl kC_0 lC_0 dX11_wouldBe_110 (pc2 := 113) rfl ?_
          refine lu_iload X dX11_wouldBe_113 (pc2 := 115) rfl 0 rfl ?_
          refine lu_invVi X (c10_pass _ kC_1 lC_1 kC_73 lC_73 x8) rfl q721 mvV_10_pass kC_1 lC_1 (by decide) ⟨_, rfl, rfl⟩ rfl rfl (Nat.le_of_ble_eq_true rfl) (Nat.le_of_ble_eq_true rfl) (Nat.le_of_ble_eq_true rfl) ⟨Nat.zero_le _, Nat.zero_le _⟩ dX11_wouldBe_115 (pc2 := 118) rfl rfl (fun x13 m14 => ?_)
          refine lu_pop X dX11_wouldBe_118 (pc2 := 119) rfl rfl ?_
          refine lu_iinc (lv2 := [(5, .int (v5 + (1 : Int32))), (7, .int x8), (6, .int x4), (0, .ref (ρ 0)), (1, .int a1), (2, .int a2), (3, .int a3)]) X dX11_wouldBe_119 (pc2 := 122) rfl 6 rfl (lu_ii _ ic_1) (by decide) rfl ?_
          refine lu_goto (tgt := 33) X dX11_wouldBe_122 (by decide) ?_
          exact lu_sub [3, 4, 5, 6, 0] rfl (hrec (v5 + (1 : Int32)) m14)
        · exact lu_sub [] rfl (hK102 m12)
    · exact lu_sub [] rfl (hK62 m6)
theorem w11_wouldBe_b33  {G : lu_G} {ρ : Nat → Nat} {a1 : Int32} {a2 : Int32} {a3 : Int32} {K62 : lu_M → Option (Int32 × lu_M)} {K102 : lu_M → Option (Int32 × lu_M)} {K125 : lu_M → Option (Int32 × lu_M)} (X : lu_X G RX11 cX11_wouldBe 8 5 122) (hret : (lu_me G).sig.returnType = (some .int))  (hK62 : ∀  (m : lu_M), lu_Ab lu_TC G (lu_Q lu_TC G ρ lu_RVi lu_sn) (K62 m) 62 [] [] ρ 0 0 [] m) (hK102 : ∀  (m : lu_M), lu_Ab lu_TC G (lu_Q lu_TC G ρ lu_RVi lu_sn) (K102 m) 102 [] [] ρ 0 0 [] m) (hK125 : ∀  (m : lu_M), lu_Ab lu_TC G (lu_Q lu_TC G ρ lu_RVi lu_sn) (K125 m) 125 [(0, .ref (ρ 0))] [] ρ 0 0 [] m) : ∀ (n : Nat) (v5 : Int32) (m : lu_M), lu_Ab lu_TC G (lu_Q lu_TC G ρ lu_RVi lu_sn) (f11_wouldBe_b33 K62 K102 K125 a1 a2 a3 n v5 m) 33 [(0, .ref (ρ 0)), (1, .int a1), (2, .int a2), (3, .int a3), (5, .int v5)] [] ρ 0 0 [] m := by
  intro n
  induction n with
  | zero => intro v5 m; exact lu_none
  | succ n ih => intro v5 m; exact w11_wouldBe_b33B X hret hK62 hK102 hK125 ih v5 m
def f11_wouldBe_b62  (a1 : Int32) (a2 : Int32) (a3 : Int32)  (m : lu_M) : Option (Int32 × lu_M) :=
  some ((-12 : Int32), m)
set_option maxRecDepth 20000 in
theorem w11_wouldBe_b62  {G : lu_G} {ρ : Nat → Nat} {a1 : Int32} {a2 : Int32} {a3 : Int32}  (X : lu_X G RX11 cX11_wouldBe 8 5 122) (hret : (lu_me G).sig.returnType = (some .int))   : ∀  (m : lu_M), lu_Ab lu_TC G (lu_Q lu_TC G ρ lu_RVi lu_sn) (f11_wouldBe_b62 a1 a2 a3 m) 62 [] [] ρ 0 0 [] m := by
  intro  m
  unfold f11_wouldBe_b62
  refine lu_bipush X dX11_wouldBe_62 (pc2 := 64) rfl bp_m12 ?_
  exact lu_iret X hret dX11_wouldBe_64
def f11_wouldBe_b102  (a1 : Int32) (a2 : Int32) (a3 : Int32)  (m : lu_M) : Option (Int32 × lu_M) :=
  some ((-4 : Int32), m)
set_option maxRecDepth 20000 in
theorem w11_wouldBe_b102  {G : lu_G} {ρ : Nat → Nat} {a1 : Int32} {a2 : Int32} {a3 : Int32}  (X : lu_X G RX11 cX11_wouldBe 8 5 122) (hret : (lu_me G).sig.returnType = (some .int))   : ∀  (m : lu_M), lu_Ab lu_TC G (lu_Q lu_TC G ρ lu_RVi lu_sn) (f11_wouldBe_b102 a1 a2 a3 m) 102 [] [] ρ 0 0 [] m := by
  intro  m
  unfold f11_wouldBe_b102
  refine lu_bipush X dX11_wouldBe_102 (pc2 := 104) rfl bp_m4 ?_
  exact lu_iret X hret dX11_wouldBe_104
def f11_wouldBe_b125  (a1 : Int32) (a2 : Int32) (a3 : Int32)  (m : lu_M) : Option (Int32 × lu_M) :=
  some ((m 73 5), m)
set_option maxRecDepth 20000 in
theorem w11_wouldBe_b125  {G : lu_G} {ρ : Nat → Nat} {a1 : Int32} {a2 : Int32} {a3 : Int32}  (X : lu_X G RX11 cX11_wouldBe 8 5 122) (hret : (lu_me G).sig.returnType = (some .int))   : ∀  (m : lu_M), lu_Ab lu_TC G (lu_Q lu_TC G ρ lu_RVi lu_sn) (f11_wouldBe_b125 a1 a2 a3 m) 125 [(0, .ref (ρ 0))] [] ρ 0 0 [] m := by
  intro  m
  unfold f11_wouldBe_b125
  refine lu_aload_n X dX11_wouldBe_125 (pc2 := 126) rfl rfl 0 rfl ?_
  refine lu_getr (r2 := 73) X rfl fl11_32 rfl kC_0 lC_0 dX11_wouldBe_126 (pc2 := 129) rfl ?_
  refine lu_get X fl11_165 rfl kC_73 lC_73 dX11_wouldBe_129 (pc2 := 132) rfl ?_
  exact lu_iret X hret dX11_wouldBe_132
def f11_wouldBe (a1 : Int32) (a2 : Int32) (a3 : Int32) (m : lu_M) : Option (Int32 × lu_M) :=
  lu_bi (f11_actsRefused a1 a3 m) fun x1 m2 =>
  if x1 = 0 then (lu_bv (f1_begin 73 29 m2) fun m3 =>
  f11_wouldBe_b33 (f11_wouldBe_b62 a1 a2 a3) (f11_wouldBe_b102 a1 a2 a3) (f11_wouldBe_b125 a1 a2 a3) a1 a2 a3 lu_fu (0 : Int32) m3)
  else (some (x1, m2))
set_option maxRecDepth 20000 in
theorem c11_wouldBe (l : Launch)   (a1 : Int32) (a2 : Int32) (a3 : Int32) : lu_C lu_TC l yX11_wouldBe cX11_wouldBe 8 (some .int) 5 122 (fun ρ sa => [.ref (ρ 0), .int a1, .int a2, .int a3]) (f11_wouldBe a1 a2 a3) lu_RVi lu_sn := by
  refine lu_met (cls := RX11) rfl (by decide +kernel) (fun _ _ => Nat.le_of_ble_eq_true rfl) ?_
  intro G ρ m hl X hret
  subst hl
  change lu_Ab lu_TC G (lu_Q lu_TC G ρ lu_RVi lu_sn) (f11_wouldBe a1 a2 a3 m) 0 [(0, .ref (ρ 0)), (1, .int a1), (2, .int a2), (3, .int a3)] [] ρ 0 0 [] m
  unfold f11_wouldBe
  refine lu_aload_n X dX11_wouldBe_0 (pc2 := 1) rfl rfl 0 rfl ?_
  refine lu_iload_n X dX11_wouldBe_1 (pc2 := 2) rfl rfl 1 rfl ?_
  refine lu_iload_n X dX11_wouldBe_2 (pc2 := 3) rfl rfl 3 rfl ?_
  refine lu_invVi X (c11_actsRefused _ a1 a3) rfl q972 mvV_11_actsRefused kC_0 lC_0 (by decide) ⟨_, rfl, rfl⟩ rfl rfl (Nat.le_of_ble_eq_true rfl) (Nat.le_of_ble_eq_true rfl) (Nat.le_of_ble_eq_true rfl) ⟨Nat.zero_le _, Nat.zero_le _⟩ dX11_wouldBe_3 (pc2 := 6) rfl rfl (fun x1 m2 => ?_)
  refine lu_istore (lv2 := [(4, .int x1), (0, .ref (ρ 0)), (1, .int a1), (2, .int a2), (3, .int a3)]) X dX11_wouldBe_6 (pc2 := 8) rfl (by decide) rfl ?_
  refine lu_iload X dX11_wouldBe_8 (pc2 := 10) rfl 0 rfl ?_
  refine lu_if_eq (tgt := 16) X dX11_wouldBe_10 (pc2 := 13) rfl (by decide) (fun _ => ?_) (fun _ => ?_)
  · refine lu_aload_n X dX11_wouldBe_16 (pc2 := 17) rfl rfl 1 rfl ?_
    refine lu_getr (r2 := 73) X rfl fl11_32 rfl kC_0 lC_0 dX11_wouldBe_17 (pc2 := 20) rfl ?_
    refine lu_aload_n X dX11_wouldBe_20 (pc2 := 21) rfl rfl 1 rfl ?_
    refine lu_getr (r2 := 1) X rfl fl11_18 rfl kC_0 lC_0 dX11_wouldBe_21 (pc2 := 24) rfl ?_
    refine lu_getr (r2 := 29) X rfl fl11_115 rfl kC_1 lC_1 dX11_wouldBe_24 (pc2 := 27) rfl ?_
    refine lu_invVv X (c1_begin _ kC_73 lC_73 kC_29 lC_29) rfl q766 mvV_1_begin kC_73 lC_73 (by decide) ⟨_, rfl, rfl⟩ rfl rfl (Nat.le_of_ble_eq_true rfl) (Nat.le_of_ble_eq_true rfl) (Nat.le_of_ble_eq_true rfl) ⟨Nat.zero_le _, Nat.zero_le _⟩ dX11_wouldBe_27 (pc2 := 30) rfl rfl (fun m3 => ?_)
    refine lu_iconst X dX11_wouldBe_30 (pc2 := 31) rfl ic_0 ?_
    refine lu_istore (lv2 := [(5, .int (0 : Int32)), (4, .int x1), (0, .ref (ρ 0)), (1, .int a1), (2, .int a2), (3, .int a3)]) X dX11_wouldBe_31 (pc2 := 33) rfl (by decide) rfl ?_
    exact lu_sub [2, 3, 4, 5, 0] rfl (w11_wouldBe_b33 X hret (w11_wouldBe_b62 X hret) (w11_wouldBe_b102 X hret) (w11_wouldBe_b125 X hret) lu_fu (0 : Int32) m3)
  · refine lu_iload X dX11_wouldBe_13 (pc2 := 15) rfl 0 rfl ?_
    exact lu_iret X hret dX11_wouldBe_15

theorem dX11_shelf_0 : decode cX11_shelf 0 = .ok (.iload_n 1, 1) := by decide +kernel
theorem dX11_shelf_1 : decode cX11_shelf 1 = .ok (.iconst 0, 1) := by decide +kernel
theorem dX11_shelf_2 : decode cX11_shelf 2 = .ok (.iconst 3, 1) := by decide +kernel
theorem dX11_shelf_3 : decode cX11_shelf 3 = .ok (.invokestatic 92, 3) := by decide +kernel
theorem dX11_shelf_6 : decode cX11_shelf 6 = .ok (.ifCond .eq 12, 3) := by decide +kernel
theorem dX11_shelf_9 : decode cX11_shelf 9 = .ok (.iload_n 2, 1) := by decide +kernel
theorem dX11_shelf_10 : decode cX11_shelf 10 = .ok (.iconst 0, 1) := by decide +kernel
theorem dX11_shelf_11 : decode cX11_shelf 11 = .ok (.iconst 2, 1) := by decide +kernel
theorem dX11_shelf_12 : decode cX11_shelf 12 = .ok (.invokestatic 92, 3) := by decide +kernel
theorem dX11_shelf_15 : decode cX11_shelf 15 = .ok (.ifCond .ne 5, 3) := by decide +kernel
theorem dX11_shelf_18 : decode cX11_shelf 18 = .ok (.iconst (-1), 1) := by decide +kernel
theorem dX11_shelf_19 : decode cX11_shelf 19 = .ok (.ireturn, 1) := by decide +kernel
theorem dX11_shelf_20 : decode cX11_shelf 20 = .ok (.iload_n 2, 1) := by decide +kernel
theorem dX11_shelf_21 : decode cX11_shelf 21 = .ok (.ifCond .ne 16, 3) := by decide +kernel
theorem dX11_shelf_24 : decode cX11_shelf 24 = .ok (.aload_n 0, 1) := by decide +kernel
theorem dX11_shelf_25 : decode cX11_shelf 25 = .ok (.getfield 18, 3) := by decide +kernel
theorem dX11_shelf_28 : decode cX11_shelf 28 = .ok (.iload_n 3, 1) := by decide +kernel
theorem dX11_shelf_29 : decode cX11_shelf 29 = .ok (.invokevirtual 102, 3) := by decide +kernel
theorem dX11_shelf_32 : decode cX11_shelf 32 = .ok (.ifCond .ne 5, 3) := by decide +kernel
theorem dX11_shelf_35 : decode cX11_shelf 35 = .ok (.iconst (-1), 1) := by decide +kernel
theorem dX11_shelf_36 : decode cX11_shelf 36 = .ok (.ireturn, 1) := by decide +kernel
theorem dX11_shelf_37 : decode cX11_shelf 37 = .ok (.iload_n 2, 1) := by decide +kernel
theorem dX11_shelf_38 : decode cX11_shelf 38 = .ok (.iconst 1, 1) := by decide +kernel
theorem dX11_shelf_39 : decode cX11_shelf 39 = .ok (.if_icmp .ne 14, 3) := by decide +kernel
theorem dX11_shelf_42 : decode cX11_shelf 42 = .ok (.iload_n 3, 1) := by decide +kernel
theorem dX11_shelf_43 : decode cX11_shelf 43 = .ok (.iconst 0, 1) := by decide +kernel
theorem dX11_shelf_44 : decode cX11_shelf 44 = .ok (.iconst 3, 1) := by decide +kernel
theorem dX11_shelf_45 : decode cX11_shelf 45 = .ok (.invokestatic 92, 3) := by decide +kernel
theorem dX11_shelf_48 : decode cX11_shelf 48 = .ok (.ifCond .ne 5, 3) := by decide +kernel
theorem dX11_shelf_51 : decode cX11_shelf 51 = .ok (.iconst (-1), 1) := by decide +kernel
theorem dX11_shelf_52 : decode cX11_shelf 52 = .ok (.ireturn, 1) := by decide +kernel
theorem dX11_shelf_53 : decode cX11_shelf 53 = .ok (.iload_n 2, 1) := by decide +kernel
theorem dX11_shelf_54 : decode cX11_shelf 54 = .ok (.iconst 1, 1) := by decide +kernel
theorem dX11_shelf_55 : decode cX11_shelf 55 = .ok (.if_icmp .ne 51, 3) := by decide +kernel
theorem dX11_shelf_58 : decode cX11_shelf 58 = .ok (.aload_n 0, 1) := by decide +kernel
theorem dX11_shelf_59 : decode cX11_shelf 59 = .ok (.getfield 83, 3) := by decide +kernel
theorem dX11_shelf_62 : decode cX11_shelf 62 = .ok (.iload_n 1, 1) := by decide +kernel
theorem dX11_shelf_63 : decode cX11_shelf 63 = .ok (.aload_n 0, 1) := by decide +kernel
theorem dX11_shelf_64 : decode cX11_shelf 64 = .ok (.getfield 74, 3) := by decide +kernel
theorem dX11_shelf_67 : decode cX11_shelf 67 = .ok (.iload_n 3, 1) := by decide +kernel
theorem dX11_shelf_68 : decode cX11_shelf 68 = .ok (.iaload, 1) := by decide +kernel
theorem dX11_shelf_69 : decode cX11_shelf 69 = .ok (.iconst (-1), 1) := by decide +kernel
theorem dX11_shelf_70 : decode cX11_shelf 70 = .ok (.if_icmp .ne 7, 3) := by decide +kernel
theorem dX11_shelf_73 : decode cX11_shelf 73 = .ok (.iconst 2, 1) := by decide +kernel
theorem dX11_shelf_74 : decode cX11_shelf 74 = .ok (.goto 4, 3) := by decide +kernel
theorem dX11_shelf_77 : decode cX11_shelf 77 = .ok (.iconst 1, 1) := by decide +kernel
theorem dX11_shelf_78 : decode cX11_shelf 78 = .ok (.iastore, 1) := by decide +kernel
theorem dX11_shelf_79 : decode cX11_shelf 79 = .ok (.aload_n 0, 1) := by decide +kernel
theorem dX11_shelf_80 : decode cX11_shelf 80 = .ok (.getfield 86, 3) := by decide +kernel
theorem dX11_shelf_83 : decode cX11_shelf 83 = .ok (.iload_n 1, 1) := by decide +kernel
theorem dX11_shelf_84 : decode cX11_shelf 84 = .ok (.aload_n 0, 1) := by decide +kernel
theorem dX11_shelf_85 : decode cX11_shelf 85 = .ok (.getfield 74, 3) := by decide +kernel
theorem dX11_shelf_88 : decode cX11_shelf 88 = .ok (.iload_n 3, 1) := by decide +kernel
theorem dX11_shelf_89 : decode cX11_shelf 89 = .ok (.iaload, 1) := by decide +kernel
theorem dX11_shelf_90 : decode cX11_shelf 90 = .ok (.iastore, 1) := by decide +kernel
theorem dX11_shelf_91 : decode cX11_shelf 91 = .ok (.aload_n 0, 1) := by decide +kernel
theorem dX11_shelf_92 : decode cX11_shelf 92 = .ok (.getfield 89, 3) := by decide +kernel
theorem dX11_shelf_95 : decode cX11_shelf 95 = .ok (.iload_n 1, 1) := by decide +kernel
theorem dX11_shelf_96 : decode cX11_shelf 96 = .ok (.aload_n 0, 1) := by decide +kernel
theorem dX11_shelf_97 : decode cX11_shelf 97 = .ok (.getfield 77, 3) := by decide +kernel
theorem dX11_shelf_100 : decode cX11_shelf 100 = .ok (.iload_n 3, 1) := by decide +kernel
theorem dX11_shelf_101 : decode cX11_shelf 101 = .ok (.iaload, 1) := by decide +kernel
theorem dX11_shelf_102 : decode cX11_shelf 102 = .ok (.iastore, 1) := by decide +kernel
theorem dX11_shelf_103 : decode cX11_shelf 103 = .ok (.goto 24, 3) := by decide +kernel
theorem dX11_shelf_106 : decode cX11_shelf 106 = .ok (.aload_n 0, 1) := by decide +kernel
theorem dX11_shelf_107 : decode cX11_shelf 107 = .ok (.getfield 83, 3) := by decide +kernel
theorem dX11_shelf_110 : decode cX11_shelf 110 = .ok (.iload_n 1, 1) := by decide +kernel
theorem dX11_shelf_111 : decode cX11_shelf 111 = .ok (.iload_n 2, 1) := by decide +kernel
theorem dX11_shelf_112 : decode cX11_shelf 112 = .ok (.iastore, 1) := by decide +kernel
theorem dX11_shelf_113 : decode cX11_shelf 113 = .ok (.aload_n 0, 1) := by decide +kernel
theorem dX11_shelf_114 : decode cX11_shelf 114 = .ok (.getfield 86, 3) := by decide +kernel
theorem dX11_shelf_117 : decode cX11_shelf 117 = .ok (.iload_n 1, 1) := by decide +kernel
theorem dX11_shelf_118 : decode cX11_shelf 118 = .ok (.iload_n 3, 1) := by decide +kernel
theorem dX11_shelf_119 : decode cX11_shelf 119 = .ok (.iastore, 1) := by decide +kernel
theorem dX11_shelf_120 : decode cX11_shelf 120 = .ok (.aload_n 0, 1) := by decide +kernel
theorem dX11_shelf_121 : decode cX11_shelf 121 = .ok (.getfield 89, 3) := by decide +kernel
theorem dX11_shelf_124 : decode cX11_shelf 124 = .ok (.iload_n 1, 1) := by decide +kernel
theorem dX11_shelf_125 : decode cX11_shelf 125 = .ok (.iconst 0, 1) := by decide +kernel
theorem dX11_shelf_126 : decode cX11_shelf 126 = .ok (.iastore, 1) := by decide +kernel
theorem dX11_shelf_127 : decode cX11_shelf 127 = .ok (.iconst 1, 1) := by decide +kernel
theorem dX11_shelf_128 : decode cX11_shelf 128 = .ok (.ireturn, 1) := by decide +kernel
def f11_shelf_b18  (a1 : Int32) (a2 : Int32) (a3 : Int32)  (m : lu_M) : Option (Int32 × lu_M) :=
  some ((-1 : Int32), m)
set_option maxRecDepth 20000 in
theorem w11_shelf_b18  {G : lu_G} {ρ : Nat → Nat} {a1 : Int32} {a2 : Int32} {a3 : Int32}  (X : lu_X G RX11 cX11_shelf 4 2 43) (hret : (lu_me G).sig.returnType = (some .int))   : ∀  (m : lu_M), lu_Ab lu_TC G (lu_Q lu_TC G ρ lu_RVi lu_sn) (f11_shelf_b18 a1 a2 a3 m) 18 [] [] ρ 0 0 [] m := by
  intro  m
  unfold f11_shelf_b18
  refine lu_iconst X dX11_shelf_18 (pc2 := 19) rfl ic_m1 ?_
  exact lu_iret X hret dX11_shelf_19
def f11_shelf_b127  (a1 : Int32) (a2 : Int32) (a3 : Int32)  (m : lu_M) : Option (Int32 × lu_M) :=
  some ((1 : Int32), m)
set_option maxRecDepth 20000 in
theorem w11_shelf_b127  {G : lu_G} {ρ : Nat → Nat} {a1 : Int32} {a2 : Int32} {a3 : Int32}  (X : lu_X G RX11 cX11_shelf 4 2 43) (hret : (lu_me G).sig.returnType = (some .int))   : ∀  (m : lu_M), lu_Ab lu_TC G (lu_Q lu_TC G ρ lu_RVi lu_sn) (f11_shelf_b127 a1 a2 a3 m) 127 [] [] ρ 0 0 [] m := by
  intro  m
  unfold f11_shelf_b127
  refine lu_iconst X dX11_shelf_127 (pc2 := 128) rfl ic_1 ?_
  exact lu_iret X hret dX11_shelf_128
def f11_shelf_b78  (a1 : Int32) (a2 : Int32) (a3 : Int32) (s0 : Int32) (s1 : Int32) (m : lu_M) : Option (Int32 × lu_M) :=
  lu_gd (lu_ib s1 4) <|
  lu_nm (lu_st m 111 s1.toNatClampNeg s0) fun m8 =>
  lu_gd (lu_ib a3 4) <|
  lu_gd (lu_ib a1 4) <|
  lu_nm (lu_st m8 112 a1.toNatClampNeg (m8 104 a3.toNatClampNeg)) fun m9 =>
  lu_gd (lu_ib a3 4) <|
  lu_gd (lu_ib a1 4) <|
  lu_nm (lu_st m9 113 a1.toNatClampNeg (m9 105 a3.toNatClampNeg)) fun m10 =>
  f11_shelf_b127 a1 a2 a3 m10
set_option maxRecDepth 20000 in
theorem w11_shelf_b78  {G : lu_G} {ρ : Nat → Nat} {a1 : Int32} {a2 : Int32} {a3 : Int32}  (X : lu_X G RX11 cX11_shelf 4 2 43) (hret : (lu_me G).sig.returnType = (some .int))   : ∀ (s0 : Int32) (s1 : Int32) (m : lu_M), lu_Ab lu_TC G (lu_Q lu_TC G ρ lu_RVi lu_sn) (f11_shelf_b78 a1 a2 a3 s0 s1 m) 78 [(0, .ref (ρ 0)), (1, .int a1), (3, .int a3)] [.int s0, .int s1, .ref (ρ 111)] ρ 0 0 [] m := by
  intro s0 s1 m
  unfold f11_shelf_b78
  refine lu_iast X kC_111 lC_111 dX11_shelf_78 (pc2 := 79) rfl (fun m8 => ?_)
  refine lu_aload_n X dX11_shelf_79 (pc2 := 80) rfl rfl 0 rfl ?_
  refine lu_getr (r2 := 112) X rfl fl11_86 rfl kC_0 lC_0 dX11_shelf_80 (pc2 := 83) rfl ?_
  refine lu_iload_n X dX11_shelf_83 (pc2 := 84) rfl rfl 1 rfl ?_
  refine lu_aload_n X dX11_shelf_84 (pc2 := 85) rfl rfl 0 rfl ?_
  refine lu_getr (r2 := 104) X rfl fl11_74 rfl kC_0 lC_0 dX11_shelf_85 (pc2 := 88) rfl ?_
  refine lu_iload_n X dX11_shelf_88 (pc2 := 89) rfl rfl 2 rfl ?_
  refine lu_iald X kC_104 lC_104 dX11_shelf_89 (pc2 := 90) rfl ?_
  refine lu_iast X kC_112 lC_112 dX11_shelf_90 (pc2 := 91) rfl (fun m9 => ?_)
  refine lu_aload_n X dX11_shelf_91 (pc2 := 92) rfl rfl 0 rfl ?_
  refine lu_getr (r2 := 113) X rfl fl11_89 rfl kC_0 lC_0 dX11_shelf_92 (pc2 := 95) rfl ?_
  refine lu_iload_n X dX11_shelf_95 (pc2 := 96) rfl rfl 1 rfl ?_
  refine lu_aload_n X dX11_shelf_96 (pc2 := 97) rfl rfl 0 rfl ?_
  refine lu_getr (r2 := 105) X rfl fl11_77 rfl kC_0 lC_0 dX11_shelf_97 (pc2 := 100) rfl ?_
  refine lu_iload_n X dX11_shelf_100 (pc2 := 101) rfl rfl 2 rfl ?_
  refine lu_iald X kC_105 lC_105 dX11_shelf_101 (pc2 := 102) rfl ?_
  refine lu_iast X kC_113 lC_113 dX11_shelf_102 (pc2 := 103) rfl (fun m10 => ?_)
  refine lu_goto (tgt := 127) X dX11_shelf_103 (by decide) ?_
  exact lu_sub [] rfl (w11_shelf_b127 X hret m10)
def f11_shelf_b53  (a1 : Int32) (a2 : Int32) (a3 : Int32)  (m : lu_M) : Option (Int32 × lu_M) :=
  if a2 = (1 : Int32) then (lu_gd (lu_ib a3 4) <|
  if (m 104 a3.toNatClampNeg) = (-1 : Int32) then (f11_shelf_b78 a1 a2 a3 (2 : Int32) a1 m)
  else (f11_shelf_b78 a1 a2 a3 (1 : Int32) a1 m))
  else (lu_gd (lu_ib a1 4) <|
  lu_nm (lu_st m 111 a1.toNatClampNeg a2) fun m5 =>
  lu_gd (lu_ib a1 4) <|
  lu_nm (lu_st m5 112 a1.toNatClampNeg a3) fun m6 =>
  lu_gd (lu_ib a1 4) <|
  lu_nm (lu_st m6 113 a1.toNatClampNeg (0 : Int32)) fun m7 =>
  f11_shelf_b127 a1 a2 a3 m7)
set_option maxRecDepth 20000 in
theorem w11_shelf_b53  {G : lu_G} {ρ : Nat → Nat} {a1 : Int32} {a2 : Int32} {a3 : Int32}  (X : lu_X G RX11 cX11_shelf 4 2 43) (hret : (lu_me G).sig.returnType = (some .int))   : ∀  (m : lu_M), lu_Ab lu_TC G (lu_Q lu_TC G ρ lu_RVi lu_sn) (f11_shelf_b53 a1 a2 a3 m) 53 [(0, .ref (ρ 0)), (1, .int a1), (2, .int a2), (3, .int a3)] [] ρ 0 0 [] m := by
  intro  m
  unfold f11_shelf_b53
  refine lu_iload_n X dX11_shelf_53 (pc2 := 54) rfl rfl 2 rfl ?_
  refine lu_iconst X dX11_shelf_54 (pc2 := 55) rfl ic_1 ?_
  refine lu_icmp_ne (tgt := 106) X dX11_shelf_55 (pc2 := 58) rfl (by decide) (fun _ => ?_) (fun _ => ?_)
  · refine lu_aload_n X dX11_shelf_106 (pc2 := 107) rfl rfl 0 rfl ?_
    refine lu_getr (r2 := 111) X rfl fl11_83 rfl kC_0 lC_0 dX11_shelf_107 (pc2 := 110) rfl ?_
    refine lu_iload_n X dX11_shelf_110 (pc2 := 111) rfl rfl 1 rfl ?_
    refine lu_iload_n X dX11_shelf_111 (pc2 := 112) rfl rfl 2 rfl ?_
    refine lu_iast X kC_111 lC_111 dX11_shelf_112 (pc2 := 113) rfl (fun m5 => ?_)
    refine lu_aload_n X dX11_shelf_113 (pc2 := 114) rfl rfl 0 rfl ?_
    refine lu_getr (r2 := 112) X rfl fl11_86 rfl kC_0 lC_0 dX11_shelf_114 (pc2 := 117) rfl ?_
    refine lu_iload_n X dX11_shelf_117 (pc2 := 118) rfl rfl 1 rfl ?_
    refine lu_iload_n X dX11_shelf_118 (pc2 := 119) rfl rfl 3 rfl ?_
    refine lu_iast X kC_112 lC_112 dX11_shelf_119 (pc2 := 120) rfl (fun m6 => ?_)
    refine lu_aload_n X dX11_shelf_120 (pc2 := 121) rfl rfl 0 rfl ?_
    refine lu_getr (r2 := 113) X rfl fl11_89 rfl kC_0 lC_0 dX11_shelf_121 (pc2 := 124) rfl ?_
    refine lu_iload_n X dX11_shelf_124 (pc2 := 125) rfl rfl 1 rfl ?_
    refine lu_iconst X dX11_shelf_125 (pc2 := 126) rfl ic_0 ?_
    refine lu_iast X kC_113 lC_113 dX11_shelf_126 (pc2 := 127) rfl (fun m7 => ?_)
    exact lu_sub [] rfl (w11_shelf_b127 X hret m7)
  · refine lu_aload_n X dX11_shelf_58 (pc2 := 59) rfl rfl 0 rfl ?_
    refine lu_getr (r2 := 111) X rfl fl11_83 rfl kC_0 lC_0 dX11_shelf_59 (pc2 := 62) rfl ?_
    refine lu_iload_n X dX11_shelf_62 (pc2 := 63) rfl rfl 1 rfl ?_
    refine lu_aload_n X dX11_shelf_63 (pc2 := 64) rfl rfl 0 rfl ?_
    refine lu_getr (r2 := 104) X rfl fl11_74 rfl kC_0 lC_0 dX11_shelf_64 (pc2 := 67) rfl ?_
    refine lu_iload_n X dX11_shelf_67 (pc2 := 68) rfl rfl 3 rfl ?_
    refine lu_iald X kC_104 lC_104 dX11_shelf_68 (pc2 := 69) rfl ?_
    refine lu_iconst X dX11_shelf_69 (pc2 := 70) rfl ic_m1 ?_
    refine lu_icmp_ne (tgt := 77) X dX11_shelf_70 (pc2 := 73) rfl (by decide) (fun _ => ?_) (fun _ => ?_)
    · refine lu_iconst X dX11_shelf_77 (pc2 := 78) rfl ic_1 ?_
      exact lu_sub [0, 1, 3] rfl (w11_shelf_b78 X hret (1 : Int32) a1 m)
    · refine lu_iconst X dX11_shelf_73 (pc2 := 74) rfl ic_2 ?_
      refine lu_goto (tgt := 78) X dX11_shelf_74 (by decide) ?_
      exact lu_sub [0, 1, 3] rfl (w11_shelf_b78 X hret (2 : Int32) a1 m)
def f11_shelf_b37  (a1 : Int32) (a2 : Int32) (a3 : Int32)  (m : lu_M) : Option (Int32 × lu_M) :=
  if a2 = (1 : Int32) then (lu_bi (f11_isWithin a3 (0 : Int32) (3 : Int32) m) fun x11 m12 =>
  if x11 = 0 then (some ((-1 : Int32), m12))
  else (f11_shelf_b53 a1 a2 a3 m12))
  else (f11_shelf_b53 a1 a2 a3 m)
set_option maxRecDepth 20000 in
theorem w11_shelf_b37  {G : lu_G} {ρ : Nat → Nat} {a1 : Int32} {a2 : Int32} {a3 : Int32}  (X : lu_X G RX11 cX11_shelf 4 2 43) (hret : (lu_me G).sig.returnType = (some .int))   : ∀  (m : lu_M), lu_Ab lu_TC G (lu_Q lu_TC G ρ lu_RVi lu_sn) (f11_shelf_b37 a1 a2 a3 m) 37 [(0, .ref (ρ 0)), (1, .int a1), (2, .int a2), (3, .int a3)] [] ρ 0 0 [] m := by
  intro  m
  unfold f11_shelf_b37
  refine lu_iload_n X dX11_shelf_37 (pc2 := 38) rfl rfl 2 rfl ?_
  refine lu_iconst X dX11_shelf_38 (pc2 := 39) rfl ic_1 ?_
  refine lu_icmp_ne (tgt := 53) X dX11_shelf_39 (pc2 := 42) rfl (by decide) (fun _ => ?_) (fun _ => ?_)
  · exact w11_shelf_b53 X hret m
  · refine lu_iload_n X dX11_shelf_42 (pc2 := 43) rfl rfl 3 rfl ?_
    refine lu_iconst X dX11_shelf_43 (pc2 := 44) rfl ic_0 ?_
    refine lu_iconst X dX11_shelf_44 (pc2 := 45) rfl ic_3 ?_
    refine lu_invSi X (c11_isWithin _ a3 (0 : Int32) (3 : Int32)) rfl q433 mvS_11_isWithin rfl rfl (Nat.le_of_ble_eq_true rfl) (Nat.le_of_ble_eq_true rfl) (Nat.le_of_ble_eq_true rfl) ⟨Nat.zero_le _, Nat.zero_le _⟩ dX11_shelf_45 (pc2 := 48) rfl rfl (fun x11 m12 => ?_)
    refine lu_if_ne (tgt := 53) X dX11_shelf_48 (pc2 := 51) rfl (by decide) (fun _ => ?_) (fun _ => ?_)
    · exact w11_shelf_b53 X hret m12
    · refine lu_iconst X dX11_shelf_51 (pc2 := 52) rfl ic_m1 ?_
      exact lu_iret X hret dX11_shelf_52
def f11_shelf (a1 : Int32) (a2 : Int32) (a3 : Int32) (m : lu_M) : Option (Int32 × lu_M) :=
  lu_bi (f11_isWithin a1 (0 : Int32) (3 : Int32) m) fun x1 m2 =>
  if x1 = 0 then (f11_shelf_b18 a1 a2 a3 m2)
  else (lu_bi (f11_isWithin a2 (0 : Int32) (2 : Int32) m2) fun x3 m4 =>
  if x3 = 0 then (f11_shelf_b18 a1 a2 a3 m4)
  else (if a2 = 0 then (lu_bi (f10_isPerson 1 a3 m4) fun x13 m14 =>
  if x13 = 0 then (some ((-1 : Int32), m14))
  else (f11_shelf_b37 a1 a2 a3 m14))
  else (f11_shelf_b37 a1 a2 a3 m4)))
set_option maxRecDepth 20000 in
theorem c11_shelf (l : Launch)   (a1 : Int32) (a2 : Int32) (a3 : Int32) : lu_C lu_TC l yX11_shelf cX11_shelf 4 (some .int) 2 43 (fun ρ sa => [.ref (ρ 0), .int a1, .int a2, .int a3]) (f11_shelf a1 a2 a3) lu_RVi lu_sn := by
  refine lu_met (cls := RX11) rfl (by decide +kernel) (fun _ _ => Nat.le_of_ble_eq_true rfl) ?_
  intro G ρ m hl X hret
  subst hl
  change lu_Ab lu_TC G (lu_Q lu_TC G ρ lu_RVi lu_sn) (f11_shelf a1 a2 a3 m) 0 [(0, .ref (ρ 0)), (1, .int a1), (2, .int a2), (3, .int a3)] [] ρ 0 0 [] m
  unfold f11_shelf
  refine lu_iload_n X dX11_shelf_0 (pc2 := 1) rfl rfl 1 rfl ?_
  refine lu_iconst X dX11_shelf_1 (pc2 := 2) rfl ic_0 ?_
  refine lu_iconst X dX11_shelf_2 (pc2 := 3) rfl ic_3 ?_
  refine lu_invSi X (c11_isWithin _ a1 (0 : Int32) (3 : Int32)) rfl q433 mvS_11_isWithin rfl rfl (Nat.le_of_ble_eq_true rfl) (Nat.le_of_ble_eq_true rfl) (Nat.le_of_ble_eq_true rfl) ⟨Nat.zero_le _, Nat.zero_le _⟩ dX11_shelf_3 (pc2 := 6) rfl rfl (fun x1 m2 => ?_)
  refine lu_if_eq (tgt := 18) X dX11_shelf_6 (pc2 := 9) rfl (by decide) (fun _ => ?_) (fun _ => ?_)
  · exact lu_sub [] rfl (w11_shelf_b18 X hret m2)
  · refine lu_iload_n X dX11_shelf_9 (pc2 := 10) rfl rfl 2 rfl ?_
    refine lu_iconst X dX11_shelf_10 (pc2 := 11) rfl ic_0 ?_
    refine lu_iconst X dX11_shelf_11 (pc2 := 12) rfl ic_2 ?_
    refine lu_invSi X (c11_isWithin _ a2 (0 : Int32) (2 : Int32)) rfl q433 mvS_11_isWithin rfl rfl (Nat.le_of_ble_eq_true rfl) (Nat.le_of_ble_eq_true rfl) (Nat.le_of_ble_eq_true rfl) ⟨Nat.zero_le _, Nat.zero_le _⟩ dX11_shelf_12 (pc2 := 15) rfl rfl (fun x3 m4 => ?_)
    refine lu_if_ne (tgt := 20) X dX11_shelf_15 (pc2 := 18) rfl (by decide) (fun _ => ?_) (fun _ => ?_)
    · refine lu_iload_n X dX11_shelf_20 (pc2 := 21) rfl rfl 2 rfl ?_
      refine lu_if_ne (tgt := 37) X dX11_shelf_21 (pc2 := 24) rfl (by decide) (fun _ => ?_) (fun _ => ?_)
      · exact w11_shelf_b37 X hret m4
      · refine lu_aload_n X dX11_shelf_24 (pc2 := 25) rfl rfl 0 rfl ?_
        refine lu_getr (r2 := 1) X rfl fl11_18 rfl kC_0 lC_0 dX11_shelf_25 (pc2 := 28) rfl ?_
        refine lu_iload_n X dX11_shelf_28 (pc2 := 29) rfl rfl 3 rfl ?_
        refine lu_invVi X (c10_isPerson _ kC_1 lC_1 a3) rfl q440 mvV_10_isPerson kC_1 lC_1 (by decide) ⟨_, rfl, rfl⟩ rfl rfl (Nat.le_of_ble_eq_true rfl) (Nat.le_of_ble_eq_true rfl) (Nat.le_of_ble_eq_true rfl) ⟨Nat.zero_le _, Nat.zero_le _⟩ dX11_shelf_29 (pc2 := 32) rfl rfl (fun x13 m14 => ?_)
        refine lu_if_ne (tgt := 37) X dX11_shelf_32 (pc2 := 35) rfl (by decide) (fun _ => ?_) (fun _ => ?_)
        · exact w11_shelf_b37 X hret m14
        · refine lu_iconst X dX11_shelf_35 (pc2 := 36) rfl ic_m1 ?_
          exact lu_iret X hret dX11_shelf_36
    · exact lu_sub [] rfl (w11_shelf_b18 X hret m4)

theorem dX11_holdsPerson_0 : decode cX11_holdsPerson 0 = .ok (.aload_n 0, 1) := by decide +kernel
theorem dX11_holdsPerson_1 : decode cX11_holdsPerson 1 = .ok (.getfield 83, 3) := by decide +kernel
theorem dX11_holdsPerson_4 : decode cX11_holdsPerson 4 = .ok (.iload_n 1, 1) := by decide +kernel
theorem dX11_holdsPerson_5 : decode cX11_holdsPerson 5 = .ok (.iaload, 1) := by decide +kernel
theorem dX11_holdsPerson_6 : decode cX11_holdsPerson 6 = .ok (.ifCond .ne 23, 3) := by decide +kernel
theorem dX11_holdsPerson_9 : decode cX11_holdsPerson 9 = .ok (.aload_n 0, 1) := by decide +kernel
theorem dX11_holdsPerson_10 : decode cX11_holdsPerson 10 = .ok (.getfield 18, 3) := by decide +kernel
theorem dX11_holdsPerson_13 : decode cX11_holdsPerson 13 = .ok (.aload_n 0, 1) := by decide +kernel
theorem dX11_holdsPerson_14 : decode cX11_holdsPerson 14 = .ok (.getfield 86, 3) := by decide +kernel
theorem dX11_holdsPerson_17 : decode cX11_holdsPerson 17 = .ok (.iload_n 1, 1) := by decide +kernel
theorem dX11_holdsPerson_18 : decode cX11_holdsPerson 18 = .ok (.iaload, 1) := by decide +kernel
theorem dX11_holdsPerson_19 : decode cX11_holdsPerson 19 = .ok (.invokevirtual 102, 3) := by decide +kernel
theorem dX11_holdsPerson_22 : decode cX11_holdsPerson 22 = .ok (.ifCond .eq 7, 3) := by decide +kernel
theorem dX11_holdsPerson_25 : decode cX11_holdsPerson 25 = .ok (.iconst 1, 1) := by decide +kernel
theorem dX11_holdsPerson_26 : decode cX11_holdsPerson 26 = .ok (.goto 4, 3) := by decide +kernel
theorem dX11_holdsPerson_29 : decode cX11_holdsPerson 29 = .ok (.iconst 0, 1) := by decide +kernel
theorem dX11_holdsPerson_30 : decode cX11_holdsPerson 30 = .ok (.ireturn, 1) := by decide +kernel
def f11_holdsPerson_b30  (a1 : Int32) (s0 : Int32) (m : lu_M) : Option (Int32 × lu_M) :=
  lu_gd (decide (s0 = 0 ∨ s0 = 1)) (some (s0, m))
set_option maxRecDepth 20000 in
theorem w11_holdsPerson_b30  {G : lu_G} {ρ : Nat → Nat} {a1 : Int32}  (X : lu_X G RX11 cX11_holdsPerson 2 2 43) (hret : (lu_me G).sig.returnType = (some .boolean))   : ∀ (s0 : Int32) (m : lu_M), lu_Ab lu_TC G (lu_Q lu_TC G ρ lu_RVi lu_sn) (f11_holdsPerson_b30 a1 s0 m) 30 [] [.int s0] ρ 0 0 [] m := by
  intro s0 m
  unfold f11_holdsPerson_b30
  exact lu_zretG X hret dX11_holdsPerson_30
def f11_holdsPerson_b29  (a1 : Int32)  (m : lu_M) : Option (Int32 × lu_M) :=
  f11_holdsPerson_b30 a1 (0 : Int32) m
set_option maxRecDepth 20000 in
theorem w11_holdsPerson_b29  {G : lu_G} {ρ : Nat → Nat} {a1 : Int32}  (X : lu_X G RX11 cX11_holdsPerson 2 2 43) (hret : (lu_me G).sig.returnType = (some .boolean))   : ∀  (m : lu_M), lu_Ab lu_TC G (lu_Q lu_TC G ρ lu_RVi lu_sn) (f11_holdsPerson_b29 a1 m) 29 [] [] ρ 0 0 [] m := by
  intro  m
  unfold f11_holdsPerson_b29
  refine lu_iconst X dX11_holdsPerson_29 (pc2 := 30) rfl ic_0 ?_
  exact w11_holdsPerson_b30 X hret (0 : Int32) m
def f11_holdsPerson (a1 : Int32) (m : lu_M) : Option (Int32 × lu_M) :=
  lu_gd (lu_ib a1 4) <|
  if (m 111 a1.toNatClampNeg) = 0 then (lu_gd (lu_ib a1 4) <|
  lu_bi (f10_isPerson 1 (m 112 a1.toNatClampNeg) m) fun x1 m2 =>
  if x1 = 0 then (f11_holdsPerson_b29 a1 m2)
  else (f11_holdsPerson_b30 a1 (1 : Int32) m2))
  else (f11_holdsPerson_b29 a1 m)
set_option maxRecDepth 20000 in
theorem c11_holdsPerson (l : Launch)   (a1 : Int32) : lu_C lu_TC l yX11_holdsPerson cX11_holdsPerson 2 (some .boolean) 2 43 (fun ρ sa => [.ref (ρ 0), .int a1]) (f11_holdsPerson a1) lu_RVi lu_sn := by
  refine lu_met (cls := RX11) rfl (by decide +kernel) (fun _ _ => Nat.le_of_ble_eq_true rfl) ?_
  intro G ρ m hl X hret
  subst hl
  change lu_Ab lu_TC G (lu_Q lu_TC G ρ lu_RVi lu_sn) (f11_holdsPerson a1 m) 0 [(0, .ref (ρ 0)), (1, .int a1)] [] ρ 0 0 [] m
  unfold f11_holdsPerson
  refine lu_aload_n X dX11_holdsPerson_0 (pc2 := 1) rfl rfl 0 rfl ?_
  refine lu_getr (r2 := 111) X rfl fl11_83 rfl kC_0 lC_0 dX11_holdsPerson_1 (pc2 := 4) rfl ?_
  refine lu_iload_n X dX11_holdsPerson_4 (pc2 := 5) rfl rfl 1 rfl ?_
  refine lu_iald X kC_111 lC_111 dX11_holdsPerson_5 (pc2 := 6) rfl ?_
  refine lu_if_ne (tgt := 29) X dX11_holdsPerson_6 (pc2 := 9) rfl (by decide) (fun _ => ?_) (fun _ => ?_)
  · exact lu_sub [] rfl (w11_holdsPerson_b29 X hret m)
  · refine lu_aload_n X dX11_holdsPerson_9 (pc2 := 10) rfl rfl 0 rfl ?_
    refine lu_getr (r2 := 1) X rfl fl11_18 rfl kC_0 lC_0 dX11_holdsPerson_10 (pc2 := 13) rfl ?_
    refine lu_aload_n X dX11_holdsPerson_13 (pc2 := 14) rfl rfl 0 rfl ?_
    refine lu_getr (r2 := 112) X rfl fl11_86 rfl kC_0 lC_0 dX11_holdsPerson_14 (pc2 := 17) rfl ?_
    refine lu_iload_n X dX11_holdsPerson_17 (pc2 := 18) rfl rfl 1 rfl ?_
    refine lu_iald X kC_112 lC_112 dX11_holdsPerson_18 (pc2 := 19) rfl ?_
    refine lu_invVi X (c10_isPerson _ kC_1 lC_1 (m 112 a1.toNatClampNeg)) rfl q440 mvV_10_isPerson kC_1 lC_1 (by decide) ⟨_, rfl, rfl⟩ rfl rfl (Nat.le_of_ble_eq_true rfl) (Nat.le_of_ble_eq_true rfl) (Nat.le_of_ble_eq_true rfl) ⟨Nat.zero_le _, Nat.zero_le _⟩ dX11_holdsPerson_19 (pc2 := 22) rfl rfl (fun x1 m2 => ?_)
    refine lu_if_eq (tgt := 29) X dX11_holdsPerson_22 (pc2 := 25) rfl (by decide) (fun _ => ?_) (fun _ => ?_)
    · exact lu_sub [] rfl (w11_holdsPerson_b29 X hret m2)
    · refine lu_iconst X dX11_holdsPerson_25 (pc2 := 26) rfl ic_1 ?_
      refine lu_goto (tgt := 30) X dX11_holdsPerson_26 (by decide) ?_
      exact lu_sub [] rfl (w11_holdsPerson_b30 X hret (1 : Int32) m2)

theorem dX11_taken_0 : decode cX11_taken 0 = .ok (.iload_n 1, 1) := by decide +kernel
theorem dX11_taken_1 : decode cX11_taken 1 = .ok (.iconst 0, 1) := by decide +kernel
theorem dX11_taken_2 : decode cX11_taken 2 = .ok (.iconst 3, 1) := by decide +kernel
theorem dX11_taken_3 : decode cX11_taken 3 = .ok (.invokestatic 92, 3) := by decide +kernel
theorem dX11_taken_6 : decode cX11_taken 6 = .ok (.ifCond .ne 5, 3) := by decide +kernel
theorem dX11_taken_9 : decode cX11_taken 9 = .ok (.iconst (-1), 1) := by decide +kernel
theorem dX11_taken_10 : decode cX11_taken 10 = .ok (.ireturn, 1) := by decide +kernel
theorem dX11_taken_11 : decode cX11_taken 11 = .ok (.iload_n 2, 1) := by decide +kernel
theorem dX11_taken_12 : decode cX11_taken 12 = .ok (.iconst 0, 1) := by decide +kernel
theorem dX11_taken_13 : decode cX11_taken 13 = .ok (.iconst 5, 1) := by decide +kernel
theorem dX11_taken_14 : decode cX11_taken 14 = .ok (.invokestatic 92, 3) := by decide +kernel
theorem dX11_taken_17 : decode cX11_taken 17 = .ok (.ifCond .ne 16, 3) := by decide +kernel
theorem dX11_taken_20 : decode cX11_taken 20 = .ok (.iload_n 2, 1) := by decide +kernel
theorem dX11_taken_21 : decode cX11_taken 21 = .ok (.bipush 10, 2) := by decide +kernel
theorem dX11_taken_23 : decode cX11_taken 23 = .ok (.bipush 14, 2) := by decide +kernel
theorem dX11_taken_25 : decode cX11_taken 25 = .ok (.invokestatic 92, 3) := by decide +kernel
theorem dX11_taken_28 : decode cX11_taken 28 = .ok (.ifCond .ne 5, 3) := by decide +kernel
theorem dX11_taken_31 : decode cX11_taken 31 = .ok (.iconst (-1), 1) := by decide +kernel
theorem dX11_taken_32 : decode cX11_taken 32 = .ok (.ireturn, 1) := by decide +kernel
theorem dX11_taken_33 : decode cX11_taken 33 = .ok (.aload_n 0, 1) := by decide +kernel
theorem dX11_taken_34 : decode cX11_taken 34 = .ok (.getfield 83, 3) := by decide +kernel
theorem dX11_taken_37 : decode cX11_taken 37 = .ok (.iload_n 1, 1) := by decide +kernel
theorem dX11_taken_38 : decode cX11_taken 38 = .ok (.iaload, 1) := by decide +kernel
theorem dX11_taken_39 : decode cX11_taken 39 = .ok (.iconst 1, 1) := by decide +kernel
theorem dX11_taken_40 : decode cX11_taken 40 = .ok (.if_icmp .ne 28, 3) := by decide +kernel
theorem dX11_taken_43 : decode cX11_taken 43 = .ok (.iload_n 2, 1) := by decide +kernel
theorem dX11_taken_44 : decode cX11_taken 44 = .ok (.bipush 10, 2) := by decide +kernel
theorem dX11_taken_46 : decode cX11_taken 46 = .ok (.isub, 1) := by decide +kernel
theorem dX11_taken_47 : decode cX11_taken 47 = .ok (.aload_n 0, 1) := by decide +kernel
theorem dX11_taken_48 : decode cX11_taken 48 = .ok (.getfield 86, 3) := by decide +kernel
theorem dX11_taken_51 : decode cX11_taken 51 = .ok (.iload_n 1, 1) := by decide +kernel
theorem dX11_taken_52 : decode cX11_taken 52 = .ok (.iaload, 1) := by decide +kernel
theorem dX11_taken_53 : decode cX11_taken 53 = .ok (.if_icmp .ne 12, 3) := by decide +kernel
theorem dX11_taken_56 : decode cX11_taken 56 = .ok (.aload_n 0, 1) := by decide +kernel
theorem dX11_taken_57 : decode cX11_taken 57 = .ok (.getfield 89, 3) := by decide +kernel
theorem dX11_taken_60 : decode cX11_taken 60 = .ok (.iload_n 1, 1) := by decide +kernel
theorem dX11_taken_61 : decode cX11_taken 61 = .ok (.iaload, 1) := by decide +kernel
theorem dX11_taken_62 : decode cX11_taken 62 = .ok (.goto 5, 3) := by decide +kernel
theorem dX11_taken_65 : decode cX11_taken 65 = .ok (.bipush (-13), 2) := by decide +kernel
theorem dX11_taken_67 : decode cX11_taken 67 = .ok (.ireturn, 1) := by decide +kernel
theorem dX11_taken_68 : decode cX11_taken 68 = .ok (.aload_n 0, 1) := by decide +kernel
theorem dX11_taken_69 : decode cX11_taken 69 = .ok (.iload_n 1, 1) := by decide +kernel
theorem dX11_taken_70 : decode cX11_taken 70 = .ok (.invokevirtual 299, 3) := by decide +kernel
theorem dX11_taken_73 : decode cX11_taken 73 = .ok (.ifCond .ne 6, 3) := by decide +kernel
theorem dX11_taken_76 : decode cX11_taken 76 = .ok (.bipush (-11), 2) := by decide +kernel
theorem dX11_taken_78 : decode cX11_taken 78 = .ok (.ireturn, 1) := by decide +kernel
theorem dX11_taken_79 : decode cX11_taken 79 = .ok (.aload_n 0, 1) := by decide +kernel
theorem dX11_taken_80 : decode cX11_taken 80 = .ok (.getfield 86, 3) := by decide +kernel
theorem dX11_taken_83 : decode cX11_taken 83 = .ok (.iload_n 1, 1) := by decide +kernel
theorem dX11_taken_84 : decode cX11_taken 84 = .ok (.iaload, 1) := by decide +kernel
theorem dX11_taken_85 : decode cX11_taken 85 = .ok (.istore_n 3, 1) := by decide +kernel
theorem dX11_taken_86 : decode cX11_taken 86 = .ok (.aload_n 0, 1) := by decide +kernel
theorem dX11_taken_87 : decode cX11_taken 87 = .ok (.getfield 18, 3) := by decide +kernel
theorem dX11_taken_90 : decode cX11_taken 90 = .ok (.getfield 99, 3) := by decide +kernel
theorem dX11_taken_93 : decode cX11_taken 93 = .ok (.iload_n 3, 1) := by decide +kernel
theorem dX11_taken_94 : decode cX11_taken 94 = .ok (.aaload, 1) := by decide +kernel
theorem dX11_taken_95 : decode cX11_taken 95 = .ok (.getfield 106, 3) := by decide +kernel
theorem dX11_taken_98 : decode cX11_taken 98 = .ok (.iload_n 2, 1) := by decide +kernel
theorem dX11_taken_99 : decode cX11_taken 99 = .ok (.invokestatic 302, 3) := by decide +kernel
theorem dX11_taken_102 : decode cX11_taken 102 = .ok (.ifCond .eq 7, 3) := by decide +kernel
theorem dX11_taken_105 : decode cX11_taken 105 = .ok (.iload_n 3, 1) := by decide +kernel
theorem dX11_taken_106 : decode cX11_taken 106 = .ok (.goto 5, 3) := by decide +kernel
theorem dX11_taken_109 : decode cX11_taken 109 = .ok (.bipush (-13), 2) := by decide +kernel
theorem dX11_taken_111 : decode cX11_taken 111 = .ok (.ireturn, 1) := by decide +kernel
def f11_taken_b111  (a1 : Int32) (a2 : Int32) (s0 : Int32) (m : lu_M) : Option (Int32 × lu_M) :=
  some (s0, m)
set_option maxRecDepth 20000 in
theorem w11_taken_b111  {G : lu_G} {ρ : Nat → Nat} {a1 : Int32} {a2 : Int32}  (X : lu_X G RX11 cX11_taken 4 3 64) (hret : (lu_me G).sig.returnType = (some .int))   : ∀ (s0 : Int32) (m : lu_M), lu_Ab lu_TC G (lu_Q lu_TC G ρ lu_RVi lu_sn) (f11_taken_b111 a1 a2 s0 m) 111 [] [.int s0] ρ 0 0 [] m := by
  intro s0 m
  unfold f11_taken_b111
  exact lu_iret X hret dX11_taken_111
def f11_taken_b67  (a1 : Int32) (a2 : Int32) (s0 : Int32) (m : lu_M) : Option (Int32 × lu_M) :=
  some (s0, m)
set_option maxRecDepth 20000 in
theorem w11_taken_b67  {G : lu_G} {ρ : Nat → Nat} {a1 : Int32} {a2 : Int32}  (X : lu_X G RX11 cX11_taken 4 3 64) (hret : (lu_me G).sig.returnType = (some .int))   : ∀ (s0 : Int32) (m : lu_M), lu_Ab lu_TC G (lu_Q lu_TC G ρ lu_RVi lu_sn) (f11_taken_b67 a1 a2 s0 m) 67 [] [.int s0] ρ 0 0 [] m := by
  intro s0 m
  unfold f11_taken_b67
  exact lu_iret X hret dX11_taken_67
def f11_taken_b33  (a1 : Int32) (a2 : Int32)  (m : lu_M) : Option (Int32 × lu_M) :=
  lu_gd (lu_ib a1 4) <|
  if (m 111 a1.toNatClampNeg) = (1 : Int32) then (lu_gd (lu_ib a1 4) <|
  if (a2 - (10 : Int32)) = (m 112 a1.toNatClampNeg) then (lu_gd (lu_ib a1 4) <|
  f11_taken_b67 a1 a2 (m 113 a1.toNatClampNeg) m)
  else (f11_taken_b67 a1 a2 (-13 : Int32) m))
  else (lu_bi (f11_holdsPerson a1 m) fun x5 m6 =>
  if x5 = 0 then (some ((-11 : Int32), m6))
  else (lu_gd (lu_ib a1 4) <|
  lu_nm ((m6 112 a1.toNatClampNeg)) fun x7 =>
  lu_gd (lu_ib x7 6) <|
  lu_bi (f11_isUnder (m6 (2 + 1 + x7.toNatClampNeg) 0) a2 m6) fun x9 m10 =>
  if x9 = 0 then (f11_taken_b111 a1 a2 (-13 : Int32) m10)
  else (f11_taken_b111 a1 a2 x7 m10)))
set_option maxRecDepth 20000 in
theorem w11_taken_b33  {G : lu_G} {ρ : Nat → Nat} {a1 : Int32} {a2 : Int32}  (X : lu_X G RX11 cX11_taken 4 3 64) (hret : (lu_me G).sig.returnType = (some .int))   : ∀  (m : lu_M), lu_Ab lu_TC G (lu_Q lu_TC G ρ lu_RVi lu_sn) (f11_taken_b33 a1 a2 m) 33 [(0, .ref (ρ 0)), (1, .int a1), (2, .int a2)] [] ρ 0 0 [] m := by
  intro  m
  unfold f11_taken_b33
  refine lu_aload_n X dX11_taken_33 (pc2 := 34) rfl rfl 0 rfl ?_
  refine lu_getr (r2 := 111) X rfl fl11_83 rfl kC_0 lC_0 dX11_taken_34 (pc2 := 37) rfl ?_
  refine lu_iload_n X dX11_taken_37 (pc2 := 38) rfl rfl 1 rfl ?_
  refine lu_iald X kC_111 lC_111 dX11_taken_38 (pc2 := 39) rfl ?_
  refine lu_iconst X dX11_taken_39 (pc2 := 40) rfl ic_1 ?_
  refine lu_icmp_ne (tgt := 68) X dX11_taken_40 (pc2 := 43) rfl (by decide) (fun _ => ?_) (fun _ => ?_)
  · refine lu_aload_n X dX11_taken_68 (pc2 := 69) rfl rfl 0 rfl ?_
    refine lu_iload_n X dX11_taken_69 (pc2 := 70) rfl rfl 1 rfl ?_
    refine lu_invVi X (c11_holdsPerson _ a1) rfl q988 mvV_11_holdsPerson kC_0 lC_0 (by decide) ⟨_, rfl, rfl⟩ rfl rfl (Nat.le_of_ble_eq_true rfl) (Nat.le_of_ble_eq_true rfl) (Nat.le_of_ble_eq_true rfl) ⟨Nat.zero_le _, Nat.zero_le _⟩ dX11_taken_70 (pc2 := 73) rfl rfl (fun x5 m6 => ?_)
    refine lu_if_ne (tgt := 79) X dX11_taken_73 (pc2 := 76) rfl (by decide) (fun _ => ?_) (fun _ => ?_)
    · refine lu_aload_n X dX11_taken_79 (pc2 := 80) rfl rfl 0 rfl ?_
      refine lu_getr (r2 := 112) X rfl fl11_86 rfl kC_0 lC_0 dX11_taken_80 (pc2 := 83) rfl ?_
      refine lu_iload_n X dX11_taken_83 (pc2 := 84) rfl rfl 1 rfl ?_
      refine lu_iald X kC_112 lC_112 dX11_taken_84 (pc2 := 85) rfl ?_
      refine lu_topi (fun x7 => ?_)
      refine lu_istore_n (lv2 := [(3, .int x7), (0, .ref (ρ 0)), (1, .int a1), (2, .int a2)]) X dX11_taken_85 (pc2 := 86) rfl rfl (by decide) rfl ?_
      refine lu_aload_n X dX11_taken_86 (pc2 := 87) rfl rfl 1 rfl ?_
      refine lu_getr (r2 := 1) X rfl fl11_18 rfl kC_0 lC_0 dX11_taken_87 (pc2 := 90) rfl ?_
      refine lu_getr (r2 := 2) X rfl fl11_99 rfl kC_1 lC_1 dX11_taken_90 (pc2 := 93) rfl ?_
      refine lu_iload_n X dX11_taken_93 (pc2 := 94) rfl rfl 0 rfl ?_
      refine lu_aald X rfl rfl (by decide) (by decide) kC_2 lC_2 dX11_taken_94 (pc2 := 95) rfl (fun g8 => ?_)
      refine lu_get X fl11_106 rfl ((kaC_1_6_0 kC_2 lC_2 g8).1) ((kaC_1_6_0 kC_2 lC_2 g8).2) dX11_taken_95 (pc2 := 98) rfl ?_
      refine lu_iload_n X dX11_taken_98 (pc2 := 99) rfl rfl 3 rfl ?_
      refine lu_invSi X (c11_isUnder _ (m6 (2 + 1 + x7.toNatClampNeg) 0) a2) rfl q992 mvS_11_isUnder rfl rfl (Nat.le_of_ble_eq_true rfl) (Nat.le_of_ble_eq_true rfl) (Nat.le_of_ble_eq_true rfl) ⟨Nat.zero_le _, Nat.zero_le _⟩ dX11_taken_99 (pc2 := 102) rfl rfl (fun x9 m10 => ?_)
      refine lu_if_eq (tgt := 109) X dX11_taken_102 (pc2 := 105) rfl (by decide) (fun _ => ?_) (fun _ => ?_)
      · refine lu_bipush X dX11_taken_109 (pc2 := 111) rfl bp_m13 ?_
        exact lu_sub [] rfl (w11_taken_b111 X hret (-13 : Int32) m10)
      · refine lu_iload_n X dX11_taken_105 (pc2 := 106) rfl rfl 0 rfl ?_
        refine lu_goto (tgt := 111) X dX11_taken_106 (by decide) ?_
        exact lu_sub [] rfl (w11_taken_b111 X hret x7 m10)
    · refine lu_bipush X dX11_taken_76 (pc2 := 78) rfl bp_m11 ?_
      exact lu_iret X hret dX11_taken_78
  · refine lu_iload_n X dX11_taken_43 (pc2 := 44) rfl rfl 2 rfl ?_
    refine lu_bipush X dX11_taken_44 (pc2 := 46) rfl bp_10 ?_
    refine lu_isub X dX11_taken_46 (pc2 := 47) rfl ?_
    refine lu_aload_n X dX11_taken_47 (pc2 := 48) rfl rfl 0 rfl ?_
    refine lu_getr (r2 := 112) X rfl fl11_86 rfl kC_0 lC_0 dX11_taken_48 (pc2 := 51) rfl ?_
    refine lu_iload_n X dX11_taken_51 (pc2 := 52) rfl rfl 1 rfl ?_
    refine lu_iald X kC_112 lC_112 dX11_taken_52 (pc2 := 53) rfl ?_
    refine lu_icmp_ne (tgt := 65) X dX11_taken_53 (pc2 := 56) rfl (by decide) (fun _ => ?_) (fun _ => ?_)
    · refine lu_bipush X dX11_taken_65 (pc2 := 67) rfl bp_m13 ?_
      exact lu_sub [] rfl (w11_taken_b67 X hret (-13 : Int32) m)
    · refine lu_aload_n X dX11_taken_56 (pc2 := 57) rfl rfl 0 rfl ?_
      refine lu_getr (r2 := 113) X rfl fl11_89 rfl kC_0 lC_0 dX11_taken_57 (pc2 := 60) rfl ?_
      refine lu_iload_n X dX11_taken_60 (pc2 := 61) rfl rfl 1 rfl ?_
      refine lu_iald X kC_113 lC_113 dX11_taken_61 (pc2 := 62) rfl ?_
      refine lu_goto (tgt := 67) X dX11_taken_62 (by decide) ?_
      exact lu_sub [] rfl (w11_taken_b67 X hret (m 113 a1.toNatClampNeg) m)
def f11_taken (a1 : Int32) (a2 : Int32) (m : lu_M) : Option (Int32 × lu_M) :=
  lu_bi (f11_isWithin a1 (0 : Int32) (3 : Int32) m) fun x1 m2 =>
  if x1 = 0 then (some ((-1 : Int32), m2))
  else (lu_bi (f11_isWithin a2 (0 : Int32) (5 : Int32) m2) fun x3 m4 =>
  if x3 = 0 then (lu_bi (f11_isWithin a2 (10 : Int32) (14 : Int32) m4) fun x11 m12 =>
  if x11 = 0 then (some ((-1 : Int32), m12))
  else (f11_taken_b33 a1 a2 m12))
  else (f11_taken_b33 a1 a2 m4))
set_option maxRecDepth 20000 in
theorem c11_taken (l : Launch)   (a1 : Int32) (a2 : Int32) : lu_C lu_TC l yX11_taken cX11_taken 4 (some .int) 3 64 (fun ρ sa => [.ref (ρ 0), .int a1, .int a2]) (f11_taken a1 a2) lu_RVi lu_sn := by
  refine lu_met (cls := RX11) rfl (by decide +kernel) (fun _ _ => Nat.le_of_ble_eq_true rfl) ?_
  intro G ρ m hl X hret
  subst hl
  change lu_Ab lu_TC G (lu_Q lu_TC G ρ lu_RVi lu_sn) (f11_taken a1 a2 m) 0 [(0, .ref (ρ 0)), (1, .int a1), (2, .int a2)] [] ρ 0 0 [] m
  unfold f11_taken
  refine lu_iload_n X dX11_taken_0 (pc2 := 1) rfl rfl 1 rfl ?_
  refine lu_iconst X dX11_taken_1 (pc2 := 2) rfl ic_0 ?_
  refine lu_iconst X dX11_taken_2 (pc2 := 3) rfl ic_3 ?_
  refine lu_invSi X (c11_isWithin _ a1 (0 : Int32) (3 : Int32)) rfl q433 mvS_11_isWithin rfl rfl (Nat.le_of_ble_eq_true rfl) (Nat.le_of_ble_eq_true rfl) (Nat.le_of_ble_eq_true rfl) ⟨Nat.zero_le _, Nat.zero_le _⟩ dX11_taken_3 (pc2 := 6) rfl rfl (fun x1 m2 => ?_)
  refine lu_if_ne (tgt := 11) X dX11_taken_6 (pc2 := 9) rfl (by decide) (fun _ => ?_) (fun _ => ?_)
  · refine lu_iload_n X dX11_taken_11 (pc2 := 12) rfl rfl 2 rfl ?_
    refine lu_iconst X dX11_taken_12 (pc2 := 13) rfl ic_0 ?_
    refine lu_iconst X dX11_taken_13 (pc2 := 14) rfl ic_5 ?_
    refine lu_invSi X (c11_isWithin _ a2 (0 : Int32) (5 : Int32)) rfl q433 mvS_11_isWithin rfl rfl (Nat.le_of_ble_eq_true rfl) (Nat.le_of_ble_eq_true rfl) (Nat.le_of_ble_eq_true rfl) ⟨Nat.zero_le _, Nat.zero_le _⟩ dX11_taken_14 (pc2 := 17) rfl rfl (fun x3 m4 => ?_)
    refine lu_if_ne (tgt := 33) X dX11_taken_17 (pc2 := 20) rfl (by decide) (fun _ => ?_) (fun _ => ?_)
    · exact w11_taken_b33 X hret m4
    · refine lu_iload_n X dX11_taken_20 (pc2 := 21) rfl rfl 2 rfl ?_
      refine lu_bipush X dX11_taken_21 (pc2 := 23) rfl bp_10 ?_
      refine lu_bipush X dX11_taken_23 (pc2 := 25) rfl bp_14 ?_
      refine lu_invSi X (c11_isWithin _ a2 (10 : Int32) (14 : Int32)) rfl q433 mvS_11_isWithin rfl rfl (Nat.le_of_ble_eq_true rfl) (Nat.le_of_ble_eq_true rfl) (Nat.le_of_ble_eq_true rfl) ⟨Nat.zero_le _, Nat.zero_le _⟩ dX11_taken_25 (pc2 := 28) rfl rfl (fun x11 m12 => ?_)
      refine lu_if_ne (tgt := 33) X dX11_taken_28 (pc2 := 31) rfl (by decide) (fun _ => ?_) (fun _ => ?_)
      · exact w11_taken_b33 X hret m12
      · refine lu_iconst X dX11_taken_31 (pc2 := 32) rfl ic_m1 ?_
        exact lu_iret X hret dX11_taken_32
  · refine lu_iconst X dX11_taken_9 (pc2 := 10) rfl ic_m1 ?_
    exact lu_iret X hret dX11_taken_10

def g3_splits (r : Nat) (a1 : Int32) (m : lu_M) : Option (Int32 × lu_M) := if m r 0 = 1 then f3_splits r a1 m else if m r 0 = 2 then f3_splits r a1 m else if m r 0 = 3 then f3_splits r a1 m else if m r 0 = 4 then f7_splits r a1 m else if m r 0 = 5 then f4_splits r a1 m else f3_splits r a1 m
theorem v3_splits {β : Type} {G : lu_G} {Q : β → State → Prop} {pc pc2 : Nat} {lv : List (Nat × Value)} {st rest : List Value} {ρ : Nat → Nat} {k n : Nat} {ex : va_W} {m : lu_M} {own : String} {cc : ByteArray} {nL fr lo index r : Nat} {a1 : Int32} {ov : Option (Int32 × lu_M)} {Ko : Int32 → lu_M → Option β} (X : lu_X G own cc nL fr lo) (ml : Cond.methodLink own index yX3_splits ∈ lu_ws) (hT : lu_TC.2 r = (10, 0, 0)) (hr : r < lu_TC.1) (hf : g3_splits r a1 m = ov) (hroom : (rest.map fun v => v.category).sum ≤ 8) (hfr : 3 + 1 ≤ fr) (hlo : 8 + (0 + 11) + 67 ≤ lo) (hk : k ≤ (lu_R G).cells ∧ n ≤ (lu_R G).slots) (d : decode cc pc = .ok (.invokevirtual index, 3)) (hp : pc + 3 = pc2) (hst : st = [.int a1].reverse ++ .ref (ρ r) :: rest) (kk : ∀ (x : Int32) (m9 : lu_M), lu_Ab lu_TC G Q (Ko x m9) pc2 lv (.int x :: rest) ρ k n ex m9) : lu_Ab lu_TC G Q (lu_bi ov Ko) pc lv st ρ k n ex m := by
  subst hf
  unfold g3_splits
  by_cases h1 : m r 0 = 1
  · rw [if_pos h1]
    exact lu_invOi X (c3_splits _ hT hr a1) rfl ml mvO_0_3_splits_3_splits hT hr (by decide) ⟨(RX0, TX0, 6), by rw [h1]; rfl, rfl⟩ rfl rfl hroom (Nat.le_trans (Nat.le_of_ble_eq_true rfl) hfr) (Nat.le_trans (Nat.le_of_ble_eq_true rfl) hlo) hk d hp hst kk
  rw [if_neg h1]
  by_cases h2 : m r 0 = 2
  · rw [if_pos h2]
    exact lu_invOi X (c3_splits _ hT hr a1) rfl ml mvO_2_3_splits_3_splits hT hr (by decide) ⟨(RX2, TX2, 6), by rw [h2]; rfl, rfl⟩ rfl rfl hroom (Nat.le_trans (Nat.le_of_ble_eq_true rfl) hfr) (Nat.le_trans (Nat.le_of_ble_eq_true rfl) hlo) hk d hp hst kk
  rw [if_neg h2]
  by_cases h3 : m r 0 = 3
  · rw [if_pos h3]
    exact lu_invOi X (c3_splits _ hT hr a1) rfl ml mvO_9_3_splits_3_splits hT hr (by decide) ⟨(RX9, TX9, 6), by rw [h3]; rfl, rfl⟩ rfl rfl hroom (Nat.le_trans (Nat.le_of_ble_eq_true rfl) hfr) (Nat.le_trans (Nat.le_of_ble_eq_true rfl) hlo) hk d hp hst kk
  rw [if_neg h3]
  by_cases h4 : m r 0 = 4
  · rw [if_pos h4]
    exact lu_invOi X (c7_splits _ hT hr a1) rfl ml mvO_7_3_splits_7_splits hT hr (by decide) ⟨(RX7, TX7, 6), by rw [h4]; rfl, rfl⟩ rfl rfl hroom (Nat.le_trans (Nat.le_of_ble_eq_true rfl) hfr) (Nat.le_trans (Nat.le_of_ble_eq_true rfl) hlo) hk d hp hst kk
  rw [if_neg h4]
  by_cases h5 : m r 0 = 5
  · rw [if_pos h5]
    exact lu_invOi X (c4_splits _ hT hr a1) rfl ml mvO_4_3_splits_4_splits hT hr (by decide) ⟨(RX4, TX4, 6), by rw [h5]; rfl, rfl⟩ rfl rfl hroom (Nat.le_trans (Nat.le_of_ble_eq_true rfl) hfr) (Nat.le_trans (Nat.le_of_ble_eq_true rfl) hlo) hk d hp hst kk
  rw [if_neg h5]
  exact lu_invOi X (c3_splits _ hT hr a1) rfl ml mvO_3_3_splits_3_splits hT hr (by decide) ⟨(RX3, TX3, 6), by show lu_cl[lu_hk (m r 0)]? = _; unfold lu_hk; rw [if_neg h1, if_neg h2, if_neg h3, if_neg h4, if_neg h5]; rfl, rfl⟩ rfl rfl hroom (Nat.le_trans (Nat.le_of_ble_eq_true rfl) hfr) (Nat.le_trans (Nat.le_of_ble_eq_true rfl) hlo) hk d hp hst kk

def g3_swears (r : Nat) (a1 : Int32) (m : lu_M) : Option (Int32 × lu_M) := if m r 0 = 1 then f3_swears r a1 m else if m r 0 = 2 then f3_swears r a1 m else if m r 0 = 3 then f9_swears r a1 m else if m r 0 = 4 then f3_swears r a1 m else if m r 0 = 5 then f3_swears r a1 m else f3_swears r a1 m
theorem v3_swears {β : Type} {G : lu_G} {Q : β → State → Prop} {pc pc2 : Nat} {lv : List (Nat × Value)} {st rest : List Value} {ρ : Nat → Nat} {k n : Nat} {ex : va_W} {m : lu_M} {own : String} {cc : ByteArray} {nL fr lo index r : Nat} {a1 : Int32} {ov : Option (Int32 × lu_M)} {Ko : Int32 → lu_M → Option β} (X : lu_X G own cc nL fr lo) (ml : Cond.methodLink own index yX3_swears ∈ lu_ws) (hT : lu_TC.2 r = (10, 0, 0)) (hr : r < lu_TC.1) (hf : g3_swears r a1 m = ov) (hroom : (rest.map fun v => v.category).sum ≤ 8) (hfr : 6 + 1 ≤ fr) (hlo : 8 + (0 + 11) + 129 ≤ lo) (hk : k ≤ (lu_R G).cells ∧ n ≤ (lu_R G).slots) (d : decode cc pc = .ok (.invokevirtual index, 3)) (hp : pc + 3 = pc2) (hst : st = [.int a1].reverse ++ .ref (ρ r) :: rest) (kk : ∀ (x : Int32) (m9 : lu_M), lu_Ab lu_TC G Q (Ko x m9) pc2 lv (.int x :: rest) ρ k n ex m9) : lu_Ab lu_TC G Q (lu_bi ov Ko) pc lv st ρ k n ex m := by
  subst hf
  unfold g3_swears
  by_cases h1 : m r 0 = 1
  · rw [if_pos h1]
    exact lu_invOi X (c3_swears _ hT hr a1) rfl ml mvO_0_3_swears_3_swears hT hr (by decide) ⟨(RX0, TX0, 6), by rw [h1]; rfl, rfl⟩ rfl rfl hroom (Nat.le_trans (Nat.le_of_ble_eq_true rfl) hfr) (Nat.le_trans (Nat.le_of_ble_eq_true rfl) hlo) hk d hp hst kk
  rw [if_neg h1]
  by_cases h2 : m r 0 = 2
  · rw [if_pos h2]
    exact lu_invOi X (c3_swears _ hT hr a1) rfl ml mvO_2_3_swears_3_swears hT hr (by decide) ⟨(RX2, TX2, 6), by rw [h2]; rfl, rfl⟩ rfl rfl hroom (Nat.le_trans (Nat.le_of_ble_eq_true rfl) hfr) (Nat.le_trans (Nat.le_of_ble_eq_true rfl) hlo) hk d hp hst kk
  rw [if_neg h2]
  by_cases h3 : m r 0 = 3
  · rw [if_pos h3]
    exact lu_invOi X (c9_swears _ hT hr a1) rfl ml mvO_9_3_swears_9_swears hT hr (by decide) ⟨(RX9, TX9, 6), by rw [h3]; rfl, rfl⟩ rfl rfl hroom (Nat.le_trans (Nat.le_of_ble_eq_true rfl) hfr) (Nat.le_trans (Nat.le_of_ble_eq_true rfl) hlo) hk d hp hst kk
  rw [if_neg h3]
  by_cases h4 : m r 0 = 4
  · rw [if_pos h4]
    exact lu_invOi X (c3_swears _ hT hr a1) rfl ml mvO_7_3_swears_3_swears hT hr (by decide) ⟨(RX7, TX7, 6), by rw [h4]; rfl, rfl⟩ rfl rfl hroom (Nat.le_trans (Nat.le_of_ble_eq_true rfl) hfr) (Nat.le_trans (Nat.le_of_ble_eq_true rfl) hlo) hk d hp hst kk
  rw [if_neg h4]
  by_cases h5 : m r 0 = 5
  · rw [if_pos h5]
    exact lu_invOi X (c3_swears _ hT hr a1) rfl ml mvO_4_3_swears_3_swears hT hr (by decide) ⟨(RX4, TX4, 6), by rw [h5]; rfl, rfl⟩ rfl rfl hroom (Nat.le_trans (Nat.le_of_ble_eq_true rfl) hfr) (Nat.le_trans (Nat.le_of_ble_eq_true rfl) hlo) hk d hp hst kk
  rw [if_neg h5]
  exact lu_invOi X (c3_swears _ hT hr a1) rfl ml mvO_3_3_swears_3_swears hT hr (by decide) ⟨(RX3, TX3, 6), by show lu_cl[lu_hk (m r 0)]? = _; unfold lu_hk; rw [if_neg h1, if_neg h2, if_neg h3, if_neg h4, if_neg h5]; rfl, rfl⟩ rfl rfl hroom (Nat.le_trans (Nat.le_of_ble_eq_true rfl) hfr) (Nat.le_trans (Nat.le_of_ble_eq_true rfl) hlo) hk d hp hst kk

theorem dX11_act_0 : decode cX11_act 0 = .ok (.aload_n 0, 1) := by decide +kernel
theorem dX11_act_1 : decode cX11_act 1 = .ok (.getfield 9, 3) := by decide +kernel
theorem dX11_act_4 : decode cX11_act 4 = .ok (.iconst 0, 1) := by decide +kernel
theorem dX11_act_5 : decode cX11_act 5 = .ok (.iconst 0, 1) := by decide +kernel
theorem dX11_act_6 : decode cX11_act 6 = .ok (.iastore, 1) := by decide +kernel
theorem dX11_act_7 : decode cX11_act 7 = .ok (.iload_n 1, 1) := by decide +kernel
theorem dX11_act_8 : decode cX11_act 8 = .ok (.iconst 0, 1) := by decide +kernel
theorem dX11_act_9 : decode cX11_act 9 = .ok (.iconst 3, 1) := by decide +kernel
theorem dX11_act_10 : decode cX11_act 10 = .ok (.invokestatic 92, 3) := by decide +kernel
theorem dX11_act_13 : decode cX11_act 13 = .ok (.ifCond .eq 20, 3) := by decide +kernel
theorem dX11_act_16 : decode cX11_act 16 = .ok (.iload_n 2, 1) := by decide +kernel
theorem dX11_act_17 : decode cX11_act 17 = .ok (.iconst 0, 1) := by decide +kernel
theorem dX11_act_18 : decode cX11_act 18 = .ok (.iconst 3, 1) := by decide +kernel
theorem dX11_act_19 : decode cX11_act 19 = .ok (.invokestatic 92, 3) := by decide +kernel
theorem dX11_act_22 : decode cX11_act 22 = .ok (.ifCond .eq 11, 3) := by decide +kernel
theorem dX11_act_25 : decode cX11_act 25 = .ok (.aload_n 0, 1) := by decide +kernel
theorem dX11_act_26 : decode cX11_act 26 = .ok (.iload_n 1, 1) := by decide +kernel
theorem dX11_act_27 : decode cX11_act 27 = .ok (.invokevirtual 299, 3) := by decide +kernel
theorem dX11_act_30 : decode cX11_act 30 = .ok (.ifCond .ne 5, 3) := by decide +kernel
theorem dX11_act_33 : decode cX11_act 33 = .ok (.iconst 0, 1) := by decide +kernel
theorem dX11_act_34 : decode cX11_act 34 = .ok (.ireturn, 1) := by decide +kernel
theorem dX11_act_35 : decode cX11_act 35 = .ok (.aload_n 0, 1) := by decide +kernel
theorem dX11_act_36 : decode cX11_act 36 = .ok (.getfield 18, 3) := by decide +kernel
theorem dX11_act_39 : decode cX11_act 39 = .ok (.getfield 99, 3) := by decide +kernel
theorem dX11_act_42 : decode cX11_act 42 = .ok (.aload_n 0, 1) := by decide +kernel
theorem dX11_act_43 : decode cX11_act 43 = .ok (.getfield 86, 3) := by decide +kernel
theorem dX11_act_46 : decode cX11_act 46 = .ok (.iload_n 1, 1) := by decide +kernel
theorem dX11_act_47 : decode cX11_act 47 = .ok (.iaload, 1) := by decide +kernel
theorem dX11_act_48 : decode cX11_act 48 = .ok (.aaload, 1) := by decide +kernel
theorem dX11_act_49 : decode cX11_act 49 = .ok (.astore 4, 2) := by decide +kernel
theorem dX11_act_51 : decode cX11_act 51 = .ok (.aload 4, 2) := by decide +kernel
theorem dX11_act_53 : decode cX11_act 53 = .ok (.iconst 0, 1) := by decide +kernel
theorem dX11_act_54 : decode cX11_act 54 = .ok (.putfield 306, 3) := by decide +kernel
theorem dX11_act_57 : decode cX11_act 57 = .ok (.iload_n 2, 1) := by decide +kernel
theorem dX11_act_58 : decode cX11_act 58 = .ok (.tableswitch 59 0 2 #[26, 37, 48], 26) := by decide +kernel
theorem dX11_act_84 : decode cX11_act 84 = .ok (.aload 4, 2) := by decide +kernel
theorem dX11_act_86 : decode cX11_act 86 = .ok (.iload_n 3, 1) := by decide +kernel
theorem dX11_act_87 : decode cX11_act 87 = .ok (.invokevirtual 309, 3) := by decide +kernel
theorem dX11_act_90 : decode cX11_act 90 = .ok (.istore 5, 2) := by decide +kernel
theorem dX11_act_92 : decode cX11_act 92 = .ok (.goto 33, 3) := by decide +kernel
theorem dX11_act_95 : decode cX11_act 95 = .ok (.aload 4, 2) := by decide +kernel
theorem dX11_act_97 : decode cX11_act 97 = .ok (.iload_n 3, 1) := by decide +kernel
theorem dX11_act_98 : decode cX11_act 98 = .ok (.invokevirtual 312, 3) := by decide +kernel
theorem dX11_act_101 : decode cX11_act 101 = .ok (.istore 5, 2) := by decide +kernel
theorem dX11_act_103 : decode cX11_act 103 = .ok (.goto 22, 3) := by decide +kernel
theorem dX11_act_106 : decode cX11_act 106 = .ok (.aload 4, 2) := by decide +kernel
theorem dX11_act_108 : decode cX11_act 108 = .ok (.iload_n 3, 1) := by decide +kernel
theorem dX11_act_109 : decode cX11_act 109 = .ok (.invokevirtual 315, 3) := by decide +kernel
theorem dX11_act_112 : decode cX11_act 112 = .ok (.istore 5, 2) := by decide +kernel
theorem dX11_act_114 : decode cX11_act 114 = .ok (.goto 11, 3) := by decide +kernel
theorem dX11_act_117 : decode cX11_act 117 = .ok (.aload 4, 2) := by decide +kernel
theorem dX11_act_119 : decode cX11_act 119 = .ok (.iload_n 3, 1) := by decide +kernel
theorem dX11_act_120 : decode cX11_act 120 = .ok (.invokevirtual 318, 3) := by decide +kernel
theorem dX11_act_123 : decode cX11_act 123 = .ok (.istore 5, 2) := by decide +kernel
theorem dX11_act_125 : decode cX11_act 125 = .ok (.aload 4, 2) := by decide +kernel
theorem dX11_act_127 : decode cX11_act 127 = .ok (.getfield 306, 3) := by decide +kernel
theorem dX11_act_130 : decode cX11_act 130 = .ok (.ifCond .eq 8, 3) := by decide +kernel
theorem dX11_act_133 : decode cX11_act 133 = .ok (.bipush (-15), 2) := by decide +kernel
theorem dX11_act_135 : decode cX11_act 135 = .ok (.goto 5, 3) := by decide +kernel
theorem dX11_act_138 : decode cX11_act 138 = .ok (.iload 5, 2) := by decide +kernel
theorem dX11_act_140 : decode cX11_act 140 = .ok (.ireturn, 1) := by decide +kernel
def f11_act_b33  (a1 : Int32) (a2 : Int32) (a3 : Int32)  (m : lu_M) : Option (Int32 × lu_M) :=
  some ((0 : Int32), m)
set_option maxRecDepth 20000 in
theorem w11_act_b33  {G : lu_G} {ρ : Nat → Nat} {a1 : Int32} {a2 : Int32} {a3 : Int32}  (X : lu_X G RX11 cX11_act 6 7 148) (hret : (lu_me G).sig.returnType = (some .int))   : ∀  (m : lu_M), lu_Ab lu_TC G (lu_Q lu_TC G ρ lu_RVi lu_sn) (f11_act_b33 a1 a2 a3 m) 33 [] [] ρ 0 0 [] m := by
  intro  m
  unfold f11_act_b33
  refine lu_iconst X dX11_act_33 (pc2 := 34) rfl ic_0 ?_
  exact lu_iret X hret dX11_act_34
def f11_act_b140  (a1 : Int32) (a2 : Int32) (a3 : Int32) (s0 : Int32) (m : lu_M) : Option (Int32 × lu_M) :=
  some (s0, m)
set_option maxRecDepth 20000 in
theorem w11_act_b140  {G : lu_G} {ρ : Nat → Nat} {a1 : Int32} {a2 : Int32} {a3 : Int32}  (X : lu_X G RX11 cX11_act 6 7 148) (hret : (lu_me G).sig.returnType = (some .int))   : ∀ (s0 : Int32) (m : lu_M), lu_Ab lu_TC G (lu_Q lu_TC G ρ lu_RVi lu_sn) (f11_act_b140 a1 a2 a3 s0 m) 140 [] [.int s0] ρ 0 0 [] m := by
  intro s0 m
  unfold f11_act_b140
  exact lu_iret X hret dX11_act_140
def f11_act_b125  (a1 : Int32) (a2 : Int32) (a3 : Int32) (v4 : Nat) (v5 : Int32) (m : lu_M) : Option (Int32 × lu_M) :=
  if (m v4 4) = 0 then (f11_act_b140 a1 a2 a3 v5 m)
  else (f11_act_b140 a1 a2 a3 (-15 : Int32) m)
set_option maxRecDepth 20000 in
theorem w11_act_b125  {G : lu_G} {ρ : Nat → Nat} {a1 : Int32} {a2 : Int32} {a3 : Int32}  (X : lu_X G RX11 cX11_act 6 7 148) (hret : (lu_me G).sig.returnType = (some .int))   : ∀ (v4 : Nat) (v5 : Int32) (m : lu_M), lu_TC.2 v4 = (10, 0, 0) → v4 < lu_TC.1 → lu_Ab lu_TC G (lu_Q lu_TC G ρ lu_RVi lu_sn) (f11_act_b125 a1 a2 a3 v4 v5 m) 125 [(4, .ref (ρ v4)), (5, .int v5)] [] ρ 0 0 [] m := by
  intro v4 v5 m hT_v4 hr_v4
  unfold f11_act_b125
  refine lu_aload X dX11_act_125 (pc2 := 127) rfl 0 rfl ?_
  refine lu_get X fl11_306 rfl hT_v4 hr_v4 dX11_act_127 (pc2 := 130) rfl ?_
  refine lu_if_eq (tgt := 138) X dX11_act_130 (pc2 := 133) rfl (by decide) (fun _ => ?_) (fun _ => ?_)
  · refine lu_iload X dX11_act_138 (pc2 := 140) rfl 1 rfl ?_
    exact lu_sub [] rfl (w11_act_b140 X hret v5 m)
  · refine lu_bipush X dX11_act_133 (pc2 := 135) rfl bp_m15 ?_
    refine lu_goto (tgt := 140) X dX11_act_135 (by decide) ?_
    exact lu_sub [] rfl (w11_act_b140 X hret (-15 : Int32) m)
def f11_act (a1 : Int32) (a2 : Int32) (a3 : Int32) (m : lu_M) : Option (Int32 × lu_M) :=
  lu_nm (lu_st m 114 0 (0 : Int32)) fun m1 =>
  lu_bi (f11_isWithin a1 (0 : Int32) (3 : Int32) m1) fun x2 m3 =>
  if x2 = 0 then (f11_act_b33 a1 a2 a3 m3)
  else (lu_bi (f11_isWithin a2 (0 : Int32) (3 : Int32) m3) fun x4 m5 =>
  if x4 = 0 then (f11_act_b33 a1 a2 a3 m5)
  else (lu_bi (f11_holdsPerson a1 m5) fun x6 m7 =>
  if x6 = 0 then (f11_act_b33 a1 a2 a3 m7)
  else (lu_gd (lu_ib a1 4) <|
  lu_gd (lu_ib (m7 112 a1.toNatClampNeg) 6) <|
  lu_nm (lu_st m7 (2 + 1 + (m7 112 a1.toNatClampNeg).toNatClampNeg) 4 (0 : Int32)) fun m9 =>
  if a2 = (0 : Int32) then (lu_bi (g3_gives (2 + 1 + (m7 112 a1.toNatClampNeg).toNatClampNeg) a3 m9) fun x10 m11 =>
  f11_act_b125 a1 a2 a3 (2 + 1 + (m7 112 a1.toNatClampNeg).toNatClampNeg) x10 m11)
  else (if a2 = (1 : Int32) then (lu_bi (g3_takes (2 + 1 + (m7 112 a1.toNatClampNeg).toNatClampNeg) a3 m9) fun x12 m13 =>
  f11_act_b125 a1 a2 a3 (2 + 1 + (m7 112 a1.toNatClampNeg).toNatClampNeg) x12 m13)
  else (if a2 = (2 : Int32) then (lu_bi (g3_splits (2 + 1 + (m7 112 a1.toNatClampNeg).toNatClampNeg) a3 m9) fun x14 m15 =>
  f11_act_b125 a1 a2 a3 (2 + 1 + (m7 112 a1.toNatClampNeg).toNatClampNeg) x14 m15)
  else (lu_bi (g3_swears (2 + 1 + (m7 112 a1.toNatClampNeg).toNatClampNeg) a3 m9) fun x16 m17 =>
  f11_act_b125 a1 a2 a3 (2 + 1 + (m7 112 a1.toNatClampNeg).toNatClampNeg) x16 m17))))))
set_option maxRecDepth 20000 in
theorem c11_act (l : Launch)   (a1 : Int32) (a2 : Int32) (a3 : Int32) : lu_C lu_TC l yX11_act cX11_act 6 (some .int) 7 148 (fun ρ sa => [.ref (ρ 0), .int a1, .int a2, .int a3]) (f11_act a1 a2 a3) lu_RVi lu_sn := by
  refine lu_met (cls := RX11) rfl (by decide +kernel) (fun _ _ => Nat.le_of_ble_eq_true rfl) ?_
  intro G ρ m hl X hret
  subst hl
  change lu_Ab lu_TC G (lu_Q lu_TC G ρ lu_RVi lu_sn) (f11_act a1 a2 a3 m) 0 [(0, .ref (ρ 0)), (1, .int a1), (2, .int a2), (3, .int a3)] [] ρ 0 0 [] m
  unfold f11_act
  refine lu_aload_n X dX11_act_0 (pc2 := 1) rfl rfl 0 rfl ?_
  refine lu_getr (r2 := 114) X rfl fl11_9 rfl kC_0 lC_0 dX11_act_1 (pc2 := 4) rfl ?_
  refine lu_iconst X dX11_act_4 (pc2 := 5) rfl ic_0 ?_
  refine lu_iconst X dX11_act_5 (pc2 := 6) rfl ic_0 ?_
  refine lu_iastK (q := 0) X (by decide) kC_114 lC_114 dX11_act_6 (pc2 := 7) rfl (fun m1 => ?_)
  refine lu_iload_n X dX11_act_7 (pc2 := 8) rfl rfl 1 rfl ?_
  refine lu_iconst X dX11_act_8 (pc2 := 9) rfl ic_0 ?_
  refine lu_iconst X dX11_act_9 (pc2 := 10) rfl ic_3 ?_
  refine lu_invSi X (c11_isWithin _ a1 (0 : Int32) (3 : Int32)) rfl q433 mvS_11_isWithin rfl rfl (Nat.le_of_ble_eq_true rfl) (Nat.le_of_ble_eq_true rfl) (Nat.le_of_ble_eq_true rfl) ⟨Nat.zero_le _, Nat.zero_le _⟩ dX11_act_10 (pc2 := 13) rfl rfl (fun x2 m3 => ?_)
  refine lu_if_eq (tgt := 33) X dX11_act_13 (pc2 := 16) rfl (by decide) (fun _ => ?_) (fun _ => ?_)
  · exact lu_sub [] rfl (w11_act_b33 X hret m3)
  · refine lu_iload_n X dX11_act_16 (pc2 := 17) rfl rfl 2 rfl ?_
    refine lu_iconst X dX11_act_17 (pc2 := 18) rfl ic_0 ?_
    refine lu_iconst X dX11_act_18 (pc2 := 19) rfl ic_3 ?_
    refine lu_invSi X (c11_isWithin _ a2 (0 : Int32) (3 : Int32)) rfl q433 mvS_11_isWithin rfl rfl (Nat.le_of_ble_eq_true rfl) (Nat.le_of_ble_eq_true rfl) (Nat.le_of_ble_eq_true rfl) ⟨Nat.zero_le _, Nat.zero_le _⟩ dX11_act_19 (pc2 := 22) rfl rfl (fun x4 m5 => ?_)
    refine lu_if_eq (tgt := 33) X dX11_act_22 (pc2 := 25) rfl (by decide) (fun _ => ?_) (fun _ => ?_)
    · exact lu_sub [] rfl (w11_act_b33 X hret m5)
    · refine lu_aload_n X dX11_act_25 (pc2 := 26) rfl rfl 0 rfl ?_
      refine lu_iload_n X dX11_act_26 (pc2 := 27) rfl rfl 1 rfl ?_
      refine lu_invVi X (c11_holdsPerson _ a1) rfl q988 mvV_11_holdsPerson kC_0 lC_0 (by decide) ⟨_, rfl, rfl⟩ rfl rfl (Nat.le_of_ble_eq_true rfl) (Nat.le_of_ble_eq_true rfl) (Nat.le_of_ble_eq_true rfl) ⟨Nat.zero_le _, Nat.zero_le _⟩ dX11_act_27 (pc2 := 30) rfl rfl (fun x6 m7 => ?_)
      refine lu_if_ne (tgt := 35) X dX11_act_30 (pc2 := 33) rfl (by decide) (fun _ => ?_) (fun _ => ?_)
      · refine lu_aload_n X dX11_act_35 (pc2 := 36) rfl rfl 0 rfl ?_
        refine lu_getr (r2 := 1) X rfl fl11_18 rfl kC_0 lC_0 dX11_act_36 (pc2 := 39) rfl ?_
        refine lu_getr (r2 := 2) X rfl fl11_99 rfl kC_1 lC_1 dX11_act_39 (pc2 := 42) rfl ?_
        refine lu_aload_n X dX11_act_42 (pc2 := 43) rfl rfl 0 rfl ?_
        refine lu_getr (r2 := 112) X rfl fl11_86 rfl kC_0 lC_0 dX11_act_43 (pc2 := 46) rfl ?_
        refine lu_iload_n X dX11_act_46 (pc2 := 47) rfl rfl 1 rfl ?_
        refine lu_iald X kC_112 lC_112 dX11_act_47 (pc2 := 48) rfl ?_
        refine lu_aald X rfl rfl (by decide) (by decide) kC_2 lC_2 dX11_act_48 (pc2 := 49) rfl (fun g8 => ?_)
        refine lu_astore (lv2 := [(4, .ref (ρ (2 + 1 + (m7 112 a1.toNatClampNeg).toNatClampNeg))), (0, .ref (ρ 0)), (1, .int a1), (2, .int a2), (3, .int a3)]) X dX11_act_49 (pc2 := 51) rfl (by decide) rfl ?_
        refine lu_aload X dX11_act_51 (pc2 := 53) rfl 0 rfl ?_
        refine lu_iconst X dX11_act_53 (pc2 := 54) rfl ic_0 ?_
        refine lu_putzK X (by decide) fl11_306 rfl (Or.inr (by decide)) rfl (by decide +kernel) ((kaC_1_6_0 kC_2 lC_2 g8).1) ((kaC_1_6_0 kC_2 lC_2 g8).2) dX11_act_54 (pc2 := 57) rfl (fun m9 => ?_)
        refine lu_iload_n X dX11_act_57 (pc2 := 58) rfl rfl 3 rfl ?_
        refine lu_ite (fun c0 => ?_) (fun c0 => ?_)
        · refine lu_tsIn X c0 dX11_act_58 (tgt := 84) (by decide) (by decide) rfl (by decide) ?_
          refine lu_aload X dX11_act_84 (pc2 := 86) rfl 0 rfl ?_
          refine lu_iload_n X dX11_act_86 (pc2 := 87) rfl rfl 4 rfl ?_
          refine v3_gives X q997 ((kaC_1_6_0 kC_2 lC_2 g8).1) ((kaC_1_6_0 kC_2 lC_2 g8).2) rfl (Nat.le_of_ble_eq_true rfl) (Nat.le_of_ble_eq_true rfl) (Nat.le_of_ble_eq_true rfl) ⟨Nat.zero_le _, Nat.zero_le _⟩ dX11_act_87 (pc2 := 90) rfl rfl (fun x10 m11 => ?_)
          refine lu_istore (lv2 := [(5, .int x10), (4, .ref (ρ (2 + 1 + (m7 112 a1.toNatClampNeg).toNatClampNeg))), (0, .ref (ρ 0)), (1, .int a1), (2, .int a2), (3, .int a3)]) X dX11_act_90 (pc2 := 92) rfl (by decide) rfl ?_
          refine lu_goto (tgt := 125) X dX11_act_92 (by decide) ?_
          exact lu_sub [1, 0] rfl (w11_act_b125 X hret (2 + 1 + (m7 112 a1.toNatClampNeg).toNatClampNeg) x10 m11 ((kaC_1_6_0 kC_2 lC_2 g8).1) ((kaC_1_6_0 kC_2 lC_2 g8).2))
        · refine lu_ite (fun c1 => ?_) (fun c1 => ?_)
          · refine lu_tsIn X c1 dX11_act_58 (tgt := 95) (by decide) (by decide) rfl (by decide) ?_
            refine lu_aload X dX11_act_95 (pc2 := 97) rfl 0 rfl ?_
            refine lu_iload_n X dX11_act_97 (pc2 := 98) rfl rfl 4 rfl ?_
            refine v3_takes X q1025 ((kaC_1_6_0 kC_2 lC_2 g8).1) ((kaC_1_6_0 kC_2 lC_2 g8).2) rfl (Nat.le_of_ble_eq_true rfl) (Nat.le_of_ble_eq_true rfl) (Nat.le_of_ble_eq_true rfl) ⟨Nat.zero_le _, Nat.zero_le _⟩ dX11_act_98 (pc2 := 101) rfl rfl (fun x12 m13 => ?_)
            refine lu_istore (lv2 := [(5, .int x12), (4, .ref (ρ (2 + 1 + (m7 112 a1.toNatClampNeg).toNatClampNeg))), (0, .ref (ρ 0)), (1, .int a1), (2, .int a2), (3, .int a3)]) X dX11_act_101 (pc2 := 103) rfl (by decide) rfl ?_
            refine lu_goto (tgt := 125) X dX11_act_103 (by decide) ?_
            exact lu_sub [1, 0] rfl (w11_act_b125 X hret (2 + 1 + (m7 112 a1.toNatClampNeg).toNatClampNeg) x12 m13 ((kaC_1_6_0 kC_2 lC_2 g8).1) ((kaC_1_6_0 kC_2 lC_2 g8).2))
          · refine lu_ite (fun c2 => ?_) (fun c2 => ?_)
            · refine lu_tsIn X c2 dX11_act_58 (tgt := 106) (by decide) (by decide) rfl (by decide) ?_
              refine lu_aload X dX11_act_106 (pc2 := 108) rfl 0 rfl ?_
              refine lu_iload_n X dX11_act_108 (pc2 := 109) rfl rfl 4 rfl ?_
              refine v3_splits X q1051 ((kaC_1_6_0 kC_2 lC_2 g8).1) ((kaC_1_6_0 kC_2 lC_2 g8).2) rfl (Nat.le_of_ble_eq_true rfl) (Nat.le_of_ble_eq_true rfl) (Nat.le_of_ble_eq_true rfl) ⟨Nat.zero_le _, Nat.zero_le _⟩ dX11_act_109 (pc2 := 112) rfl rfl (fun x14 m15 => ?_)
              refine lu_istore (lv2 := [(5, .int x14), (4, .ref (ρ (2 + 1 + (m7 112 a1.toNatClampNeg).toNatClampNeg))), (0, .ref (ρ 0)), (1, .int a1), (2, .int a2), (3, .int a3)]) X dX11_act_112 (pc2 := 114) rfl (by decide) rfl ?_
              refine lu_goto (tgt := 125) X dX11_act_114 (by decide) ?_
              exact lu_sub [1, 0] rfl (w11_act_b125 X hret (2 + 1 + (m7 112 a1.toNatClampNeg).toNatClampNeg) x14 m15 ((kaC_1_6_0 kC_2 lC_2 g8).1) ((kaC_1_6_0 kC_2 lC_2 g8).2))
            · refine lu_tsOut (tgt := 117) X dX11_act_58 (by have h0 := lv_neT c0 (a := 0) (by decide); have h1 := lv_neT c1 (a := 1) (by decide); have h2 := lv_neT c2 (a := 2) (by decide); omega) (by decide) ?_
              refine lu_aload X dX11_act_117 (pc2 := 119) rfl 0 rfl ?_
              refine lu_iload_n X dX11_act_119 (pc2 := 120) rfl rfl 4 rfl ?_
              refine v3_swears X q1074 ((kaC_1_6_0 kC_2 lC_2 g8).1) ((kaC_1_6_0 kC_2 lC_2 g8).2) rfl (Nat.le_of_ble_eq_true rfl) (Nat.le_of_ble_eq_true rfl) (Nat.le_of_ble_eq_true rfl) ⟨Nat.zero_le _, Nat.zero_le _⟩ dX11_act_120 (pc2 := 123) rfl rfl (fun x16 m17 => ?_)
              refine lu_istore (lv2 := [(5, .int x16), (4, .ref (ρ (2 + 1 + (m7 112 a1.toNatClampNeg).toNatClampNeg))), (0, .ref (ρ 0)), (1, .int a1), (2, .int a2), (3, .int a3)]) X dX11_act_123 (pc2 := 125) rfl (by decide) rfl ?_
              exact lu_sub [1, 0] rfl (w11_act_b125 X hret (2 + 1 + (m7 112 a1.toNatClampNeg).toNatClampNeg) x16 m17 ((kaC_1_6_0 kC_2 lC_2 g8).1) ((kaC_1_6_0 kC_2 lC_2 g8).2))
      · exact lu_sub [] rfl (w11_act_b33 X hret m7)

theorem dX11_trace_0 : decode cX11_trace 0 = .ok (.iload_n 1, 1) := by decide +kernel
theorem dX11_trace_1 : decode cX11_trace 1 = .ok (.iconst 0, 1) := by decide +kernel
theorem dX11_trace_2 : decode cX11_trace 2 = .ok (.aload_n 0, 1) := by decide +kernel
theorem dX11_trace_3 : decode cX11_trace 3 = .ok (.getfield 9, 3) := by decide +kernel
theorem dX11_trace_6 : decode cX11_trace 6 = .ok (.iconst 0, 1) := by decide +kernel
theorem dX11_trace_7 : decode cX11_trace 7 = .ok (.iaload, 1) := by decide +kernel
theorem dX11_trace_8 : decode cX11_trace 8 = .ok (.iconst 1, 1) := by decide +kernel
theorem dX11_trace_9 : decode cX11_trace 9 = .ok (.isub, 1) := by decide +kernel
theorem dX11_trace_10 : decode cX11_trace 10 = .ok (.invokestatic 92, 3) := by decide +kernel
theorem dX11_trace_13 : decode cX11_trace 13 = .ok (.ifCond .eq 14, 3) := by decide +kernel
theorem dX11_trace_16 : decode cX11_trace 16 = .ok (.aload_n 0, 1) := by decide +kernel
theorem dX11_trace_17 : decode cX11_trace 17 = .ok (.getfield 9, 3) := by decide +kernel
theorem dX11_trace_20 : decode cX11_trace 20 = .ok (.iload_n 1, 1) := by decide +kernel
theorem dX11_trace_21 : decode cX11_trace 21 = .ok (.iconst 1, 1) := by decide +kernel
theorem dX11_trace_22 : decode cX11_trace 22 = .ok (.iadd, 1) := by decide +kernel
theorem dX11_trace_23 : decode cX11_trace 23 = .ok (.iaload, 1) := by decide +kernel
theorem dX11_trace_24 : decode cX11_trace 24 = .ok (.goto 5, 3) := by decide +kernel
theorem dX11_trace_27 : decode cX11_trace 27 = .ok (.bipush (-3), 2) := by decide +kernel
theorem dX11_trace_29 : decode cX11_trace 29 = .ok (.ireturn, 1) := by decide +kernel
def f11_trace_b29  (a1 : Int32) (s0 : Int32) (m : lu_M) : Option (Int32 × lu_M) :=
  some (s0, m)
set_option maxRecDepth 20000 in
theorem w11_trace_b29  {G : lu_G} {ρ : Nat → Nat} {a1 : Int32}  (X : lu_X G RX11 cX11_trace 2 1 22) (hret : (lu_me G).sig.returnType = (some .int))   : ∀ (s0 : Int32) (m : lu_M), lu_Ab lu_TC G (lu_Q lu_TC G ρ lu_RVi lu_sn) (f11_trace_b29 a1 s0 m) 29 [] [.int s0] ρ 0 0 [] m := by
  intro s0 m
  unfold f11_trace_b29
  exact lu_iret X hret dX11_trace_29
def f11_trace (a1 : Int32) (m : lu_M) : Option (Int32 × lu_M) :=
  lu_bi (f11_isWithin a1 (0 : Int32) ((m 114 0) - (1 : Int32)) m) fun x1 m2 =>
  if x1 = 0 then (f11_trace_b29 a1 (-3 : Int32) m2)
  else (lu_gd (lu_ib (a1 + (1 : Int32)) 31) <|
  f11_trace_b29 a1 (m2 114 (a1 + (1 : Int32)).toNatClampNeg) m2)
set_option maxRecDepth 20000 in
theorem c11_trace (l : Launch)   (a1 : Int32) : lu_C lu_TC l yX11_trace cX11_trace 2 (some .int) 1 22 (fun ρ sa => [.ref (ρ 0), .int a1]) (f11_trace a1) lu_RVi lu_sn := by
  refine lu_met (cls := RX11) rfl (by decide +kernel) (fun _ _ => Nat.le_of_ble_eq_true rfl) ?_
  intro G ρ m hl X hret
  subst hl
  change lu_Ab lu_TC G (lu_Q lu_TC G ρ lu_RVi lu_sn) (f11_trace a1 m) 0 [(0, .ref (ρ 0)), (1, .int a1)] [] ρ 0 0 [] m
  unfold f11_trace
  refine lu_iload_n X dX11_trace_0 (pc2 := 1) rfl rfl 1 rfl ?_
  refine lu_iconst X dX11_trace_1 (pc2 := 2) rfl ic_0 ?_
  refine lu_aload_n X dX11_trace_2 (pc2 := 3) rfl rfl 0 rfl ?_
  refine lu_getr (r2 := 114) X rfl fl11_9 rfl kC_0 lC_0 dX11_trace_3 (pc2 := 6) rfl ?_
  refine lu_iconst X dX11_trace_6 (pc2 := 7) rfl ic_0 ?_
  refine lu_ialdK (q := 0) X (by decide) kC_114 lC_114 dX11_trace_7 (pc2 := 8) rfl ?_
  refine lu_iconst X dX11_trace_8 (pc2 := 9) rfl ic_1 ?_
  refine lu_isub X dX11_trace_9 (pc2 := 10) rfl ?_
  refine lu_invSi X (c11_isWithin _ a1 (0 : Int32) ((m 114 0) - (1 : Int32))) rfl q433 mvS_11_isWithin rfl rfl (Nat.le_of_ble_eq_true rfl) (Nat.le_of_ble_eq_true rfl) (Nat.le_of_ble_eq_true rfl) ⟨Nat.zero_le _, Nat.zero_le _⟩ dX11_trace_10 (pc2 := 13) rfl rfl (fun x1 m2 => ?_)
  refine lu_if_eq (tgt := 27) X dX11_trace_13 (pc2 := 16) rfl (by decide) (fun _ => ?_) (fun _ => ?_)
  · refine lu_bipush X dX11_trace_27 (pc2 := 29) rfl bp_m3 ?_
    exact lu_sub [] rfl (w11_trace_b29 X hret (-3 : Int32) m2)
  · refine lu_aload_n X dX11_trace_16 (pc2 := 17) rfl rfl 0 rfl ?_
    refine lu_getr (r2 := 114) X rfl fl11_9 rfl kC_0 lC_0 dX11_trace_17 (pc2 := 20) rfl ?_
    refine lu_iload_n X dX11_trace_20 (pc2 := 21) rfl rfl 1 rfl ?_
    refine lu_iconst X dX11_trace_21 (pc2 := 22) rfl ic_1 ?_
    refine lu_iadd X dX11_trace_22 (pc2 := 23) rfl ?_
    refine lu_iald X kC_114 lC_114 dX11_trace_23 (pc2 := 24) rfl ?_
    refine lu_goto (tgt := 29) X dX11_trace_24 (by decide) ?_
    exact lu_sub [] rfl (w11_trace_b29 X hret (m2 114 (a1 + (1 : Int32)).toNatClampNeg) m2)

theorem dX11_many_0 : decode cX11_many 0 = .ok (.iload_n 1, 1) := by decide +kernel
theorem dX11_many_1 : decode cX11_many 1 = .ok (.tableswitch 110 0 7 #[47, 55, 66, 74, 82, 87, 95, 102], 47) := by decide +kernel
theorem dX11_many_48 : decode cX11_many 48 = .ok (.aload_n 0, 1) := by decide +kernel
theorem dX11_many_49 : decode cX11_many 49 = .ok (.getfield 18, 3) := by decide +kernel
theorem dX11_many_52 : decode cX11_many 52 = .ok (.getfield 96, 3) := by decide +kernel
theorem dX11_many_55 : decode cX11_many 55 = .ok (.ireturn, 1) := by decide +kernel
theorem dX11_many_56 : decode cX11_many 56 = .ok (.aload_n 0, 1) := by decide +kernel
theorem dX11_many_57 : decode cX11_many 57 = .ok (.getfield 18, 3) := by decide +kernel
theorem dX11_many_60 : decode cX11_many 60 = .ok (.getfield 182, 3) := by decide +kernel
theorem dX11_many_63 : decode cX11_many 63 = .ok (.getfield 321, 3) := by decide +kernel
theorem dX11_many_66 : decode cX11_many 66 = .ok (.ireturn, 1) := by decide +kernel
theorem dX11_many_67 : decode cX11_many 67 = .ok (.aload_n 0, 1) := by decide +kernel
theorem dX11_many_68 : decode cX11_many 68 = .ok (.getfield 18, 3) := by decide +kernel
theorem dX11_many_71 : decode cX11_many 71 = .ok (.getfield 138, 3) := by decide +kernel
theorem dX11_many_74 : decode cX11_many 74 = .ok (.ireturn, 1) := by decide +kernel
theorem dX11_many_75 : decode cX11_many 75 = .ok (.aload_n 0, 1) := by decide +kernel
theorem dX11_many_76 : decode cX11_many 76 = .ok (.getfield 18, 3) := by decide +kernel
theorem dX11_many_79 : decode cX11_many 79 = .ok (.getfield 267, 3) := by decide +kernel
theorem dX11_many_82 : decode cX11_many 82 = .ok (.ireturn, 1) := by decide +kernel
theorem dX11_many_83 : decode cX11_many 83 = .ok (.aload_n 0, 1) := by decide +kernel
theorem dX11_many_84 : decode cX11_many 84 = .ok (.getfield 70, 3) := by decide +kernel
theorem dX11_many_87 : decode cX11_many 87 = .ok (.ireturn, 1) := by decide +kernel
theorem dX11_many_88 : decode cX11_many 88 = .ok (.aload_n 0, 1) := by decide +kernel
theorem dX11_many_89 : decode cX11_many 89 = .ok (.getfield 48, 3) := by decide +kernel
theorem dX11_many_92 : decode cX11_many 92 = .ok (.getfield 172, 3) := by decide +kernel
theorem dX11_many_95 : decode cX11_many 95 = .ok (.ireturn, 1) := by decide +kernel
theorem dX11_many_96 : decode cX11_many 96 = .ok (.aload_n 0, 1) := by decide +kernel
theorem dX11_many_97 : decode cX11_many 97 = .ok (.getfield 9, 3) := by decide +kernel
theorem dX11_many_100 : decode cX11_many 100 = .ok (.iconst 0, 1) := by decide +kernel
theorem dX11_many_101 : decode cX11_many 101 = .ok (.iaload, 1) := by decide +kernel
theorem dX11_many_102 : decode cX11_many 102 = .ok (.ireturn, 1) := by decide +kernel
theorem dX11_many_103 : decode cX11_many 103 = .ok (.aload_n 0, 1) := by decide +kernel
theorem dX11_many_104 : decode cX11_many 104 = .ok (.getfield 18, 3) := by decide +kernel
theorem dX11_many_107 : decode cX11_many 107 = .ok (.invokevirtual 322, 3) := by decide +kernel
theorem dX11_many_110 : decode cX11_many 110 = .ok (.ireturn, 1) := by decide +kernel
theorem dX11_many_111 : decode cX11_many 111 = .ok (.iconst (-1), 1) := by decide +kernel
theorem dX11_many_112 : decode cX11_many 112 = .ok (.ireturn, 1) := by decide +kernel
def f11_many (a1 : Int32) (m : lu_M) : Option (Int32 × lu_M) :=
  if a1 = (0 : Int32) then (some ((m 1 0), m))
  else (if a1 = (1 : Int32) then (some ((m 30 0), m))
  else (if a1 = (2 : Int32) then (some ((m 1 2), m))
  else (if a1 = (3 : Int32) then (some ((m 1 11), m))
  else (if a1 = (4 : Int32) then (some ((m 0 9), m))
  else (if a1 = (5 : Int32) then (some ((m 83 1), m))
  else (if a1 = (6 : Int32) then (some ((m 114 0), m))
  else (if a1 = (7 : Int32) then (lu_bi (f10_loansGiven 1 m) fun x1 m2 =>
  some (x1, m2))
  else (some ((-1 : Int32), m)))))))))
set_option maxRecDepth 20000 in
theorem c11_many (l : Launch)   (a1 : Int32) : lu_C lu_TC l yX11_many cX11_many 2 (some .int) 1 23 (fun ρ sa => [.ref (ρ 0), .int a1]) (f11_many a1) lu_RVi lu_sn := by
  refine lu_met (cls := RX11) rfl (by decide +kernel) (fun _ _ => Nat.le_of_ble_eq_true rfl) ?_
  intro G ρ m hl X hret
  subst hl
  change lu_Ab lu_TC G (lu_Q lu_TC G ρ lu_RVi lu_sn) (f11_many a1 m) 0 [(0, .ref (ρ 0)), (1, .int a1)] [] ρ 0 0 [] m
  unfold f11_many
  refine lu_iload_n X dX11_many_0 (pc2 := 1) rfl rfl 1 rfl ?_
  refine lu_ite (fun c0 => ?_) (fun c0 => ?_)
  · refine lu_tsIn X c0 dX11_many_1 (tgt := 48) (by decide) (by decide) rfl (by decide) ?_
    refine lu_aload_n X dX11_many_48 (pc2 := 49) rfl rfl 0 rfl ?_
    refine lu_getr (r2 := 1) X rfl fl11_18 rfl kC_0 lC_0 dX11_many_49 (pc2 := 52) rfl ?_
    refine lu_get X fl11_96 rfl kC_1 lC_1 dX11_many_52 (pc2 := 55) rfl ?_
    exact lu_iret X hret dX11_many_55
  · refine lu_ite (fun c1 => ?_) (fun c1 => ?_)
    · refine lu_tsIn X c1 dX11_many_1 (tgt := 56) (by decide) (by decide) rfl (by decide) ?_
      refine lu_aload_n X dX11_many_56 (pc2 := 57) rfl rfl 0 rfl ?_
      refine lu_getr (r2 := 1) X rfl fl11_18 rfl kC_0 lC_0 dX11_many_57 (pc2 := 60) rfl ?_
      refine lu_getr (r2 := 30) X rfl fl11_182 rfl kC_1 lC_1 dX11_many_60 (pc2 := 63) rfl ?_
      refine lu_get X fl11_321 rfl kC_30 lC_30 dX11_many_63 (pc2 := 66) rfl ?_
      exact lu_iret X hret dX11_many_66
    · refine lu_ite (fun c2 => ?_) (fun c2 => ?_)
      · refine lu_tsIn X c2 dX11_many_1 (tgt := 67) (by decide) (by decide) rfl (by decide) ?_
        refine lu_aload_n X dX11_many_67 (pc2 := 68) rfl rfl 0 rfl ?_
        refine lu_getr (r2 := 1) X rfl fl11_18 rfl kC_0 lC_0 dX11_many_68 (pc2 := 71) rfl ?_
        refine lu_get X fl11_138 rfl kC_1 lC_1 dX11_many_71 (pc2 := 74) rfl ?_
        exact lu_iret X hret dX11_many_74
      · refine lu_ite (fun c3 => ?_) (fun c3 => ?_)
        · refine lu_tsIn X c3 dX11_many_1 (tgt := 75) (by decide) (by decide) rfl (by decide) ?_
          refine lu_aload_n X dX11_many_75 (pc2 := 76) rfl rfl 0 rfl ?_
          refine lu_getr (r2 := 1) X rfl fl11_18 rfl kC_0 lC_0 dX11_many_76 (pc2 := 79) rfl ?_
          refine lu_get X fl11_267 rfl kC_1 lC_1 dX11_many_79 (pc2 := 82) rfl ?_
          exact lu_iret X hret dX11_many_82
        · refine lu_ite (fun c4 => ?_) (fun c4 => ?_)
          · refine lu_tsIn X c4 dX11_many_1 (tgt := 83) (by decide) (by decide) rfl (by decide) ?_
            refine lu_aload_n X dX11_many_83 (pc2 := 84) rfl rfl 0 rfl ?_
            refine lu_get X fl11_70 rfl kC_0 lC_0 dX11_many_84 (pc2 := 87) rfl ?_
            exact lu_iret X hret dX11_many_87
          · refine lu_ite (fun c5 => ?_) (fun c5 => ?_)
            · refine lu_tsIn X c5 dX11_many_1 (tgt := 88) (by decide) (by decide) rfl (by decide) ?_
              refine lu_aload_n X dX11_many_88 (pc2 := 89) rfl rfl 0 rfl ?_
              refine lu_getr (r2 := 83) X rfl fl11_48 rfl kC_0 lC_0 dX11_many_89 (pc2 := 92) rfl ?_
              refine lu_get X fl11_172 rfl kC_83 lC_83 dX11_many_92 (pc2 := 95) rfl ?_
              exact lu_iret X hret dX11_many_95
            · refine lu_ite (fun c6 => ?_) (fun c6 => ?_)
              · refine lu_tsIn X c6 dX11_many_1 (tgt := 96) (by decide) (by decide) rfl (by decide) ?_
                refine lu_aload_n X dX11_many_96 (pc2 := 97) rfl rfl 0 rfl ?_
                refine lu_getr (r2 := 114) X rfl fl11_9 rfl kC_0 lC_0 dX11_many_97 (pc2 := 100) rfl ?_
                refine lu_iconst X dX11_many_100 (pc2 := 101) rfl ic_0 ?_
                refine lu_ialdK (q := 0) X (by decide) kC_114 lC_114 dX11_many_101 (pc2 := 102) rfl ?_
                exact lu_iret X hret dX11_many_102
              · refine lu_ite (fun c7 => ?_) (fun c7 => ?_)
                · refine lu_tsIn X c7 dX11_many_1 (tgt := 103) (by decide) (by decide) rfl (by decide) ?_
                  refine lu_aload_n X dX11_many_103 (pc2 := 104) rfl rfl 0 rfl ?_
                  refine lu_getr (r2 := 1) X rfl fl11_18 rfl kC_0 lC_0 dX11_many_104 (pc2 := 107) rfl ?_
                  refine lu_invVi X (c10_loansGiven _ kC_1 lC_1) rfl q1102 mvV_10_loansGiven kC_1 lC_1 (by decide) ⟨_, rfl, rfl⟩ rfl rfl (Nat.le_of_ble_eq_true rfl) (Nat.le_of_ble_eq_true rfl) (Nat.le_of_ble_eq_true rfl) ⟨Nat.zero_le _, Nat.zero_le _⟩ dX11_many_107 (pc2 := 110) rfl rfl (fun x1 m2 => ?_)
                  exact lu_iret X hret dX11_many_110
                · refine lu_tsOut (tgt := 111) X dX11_many_1 (by have h0 := lv_neT c0 (a := 0) (by decide); have h1 := lv_neT c1 (a := 1) (by decide); have h2 := lv_neT c2 (a := 2) (by decide); have h3 := lv_neT c3 (a := 3) (by decide); have h4 := lv_neT c4 (a := 4) (by decide); have h5 := lv_neT c5 (a := 5) (by decide); have h6 := lv_neT c6 (a := 6) (by decide); have h7 := lv_neT c7 (a := 7) (by decide); omega) (by decide) ?_
                  refine lu_iconst X dX11_many_111 (pc2 := 112) rfl ic_m1 ?_
                  exact lu_iret X hret dX11_many_112

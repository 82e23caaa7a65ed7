/-! WALKS of methods (written by a program out of their instructions): functions of the memory, and contracts -/
theorem dX11_personOf_0 : decode cX11_personOf 0 = .ok (.aload_n 0, 1) := by decide +kernel
theorem dX11_personOf_1 : decode cX11_personOf 1 = .ok (.getfield 18, 3) := by decide +kernel
theorem dX11_personOf_4 : decode cX11_personOf 4 = .ok (.iload_n 1, 1) := by decide +kernel
theorem dX11_personOf_5 : decode cX11_personOf 5 = .ok (.invokevirtual 102, 3) := by decide +kernel
theorem dX11_personOf_8 : decode cX11_personOf 8 = .ok (.ifCond .ne 5, 3) := by decide +kernel
theorem dX11_personOf_11 : decode cX11_personOf 11 = .ok (.iconst (-1), 1) := by decide +kernel
theorem dX11_personOf_12 : decode cX11_personOf 12 = .ok (.ireturn, 1) := by decide +kernel
theorem dX11_personOf_13 : decode cX11_personOf 13 = .ok (.iload_n 2, 1) := by decide +kernel
theorem dX11_personOf_14 : decode cX11_personOf 14 = .ok (.tableswitch 132 0 5 #[38, 51, 64, 77, 93, 116], 38) := by decide +kernel
theorem dX11_personOf_52 : decode cX11_personOf 52 = .ok (.aload_n 0, 1) := by decide +kernel
theorem dX11_personOf_53 : decode cX11_personOf 53 = .ok (.getfield 18, 3) := by decide +kernel
theorem dX11_personOf_56 : decode cX11_personOf 56 = .ok (.getfield 99, 3) := by decide +kernel
theorem dX11_personOf_59 : decode cX11_personOf 59 = .ok (.iload_n 1, 1) := by decide +kernel
theorem dX11_personOf_60 : decode cX11_personOf 60 = .ok (.aaload, 1) := by decide +kernel
theorem dX11_personOf_61 : decode cX11_personOf 61 = .ok (.getfield 106, 3) := by decide +kernel
theorem dX11_personOf_64 : decode cX11_personOf 64 = .ok (.ireturn, 1) := by decide +kernel
theorem dX11_personOf_65 : decode cX11_personOf 65 = .ok (.aload_n 0, 1) := by decide +kernel
theorem dX11_personOf_66 : decode cX11_personOf 66 = .ok (.getfield 18, 3) := by decide +kernel
theorem dX11_personOf_69 : decode cX11_personOf 69 = .ok (.getfield 99, 3) := by decide +kernel
theorem dX11_personOf_72 : decode cX11_personOf 72 = .ok (.iload_n 1, 1) := by decide +kernel
theorem dX11_personOf_73 : decode cX11_personOf 73 = .ok (.aaload, 1) := by decide +kernel
theorem dX11_personOf_74 : decode cX11_personOf 74 = .ok (.getfield 109, 3) := by decide +kernel
theorem dX11_personOf_77 : decode cX11_personOf 77 = .ok (.ireturn, 1) := by decide +kernel
theorem dX11_personOf_78 : decode cX11_personOf 78 = .ok (.aload_n 0, 1) := by decide +kernel
theorem dX11_personOf_79 : decode cX11_personOf 79 = .ok (.getfield 18, 3) := by decide +kernel
theorem dX11_personOf_82 : decode cX11_personOf 82 = .ok (.getfield 99, 3) := by decide +kernel
theorem dX11_personOf_85 : decode cX11_personOf 85 = .ok (.iload_n 1, 1) := by decide +kernel
theorem dX11_personOf_86 : decode cX11_personOf 86 = .ok (.aaload, 1) := by decide +kernel
theorem dX11_personOf_87 : decode cX11_personOf 87 = .ok (.getfield 112, 3) := by decide +kernel
theorem dX11_personOf_90 : decode cX11_personOf 90 = .ok (.ireturn, 1) := by decide +kernel
theorem dX11_personOf_91 : decode cX11_personOf 91 = .ok (.aload_n 0, 1) := by decide +kernel
theorem dX11_personOf_92 : decode cX11_personOf 92 = .ok (.getfield 18, 3) := by decide +kernel
theorem dX11_personOf_95 : decode cX11_personOf 95 = .ok (.iload_n 1, 1) := by decide +kernel
theorem dX11_personOf_96 : decode cX11_personOf 96 = .ok (.aload_n 0, 1) := by decide +kernel
theorem dX11_personOf_97 : decode cX11_personOf 97 = .ok (.getfield 18, 3) := by decide +kernel
theorem dX11_personOf_100 : decode cX11_personOf 100 = .ok (.getfield 115, 3) := by decide +kernel
theorem dX11_personOf_103 : decode cX11_personOf 103 = .ok (.invokevirtual 118, 3) := by decide +kernel
theorem dX11_personOf_106 : decode cX11_personOf 106 = .ok (.ireturn, 1) := by decide +kernel
theorem dX11_personOf_107 : decode cX11_personOf 107 = .ok (.aload_n 0, 1) := by decide +kernel
theorem dX11_personOf_108 : decode cX11_personOf 108 = .ok (.getfield 18, 3) := by decide +kernel
theorem dX11_personOf_111 : decode cX11_personOf 111 = .ok (.getfield 99, 3) := by decide +kernel
theorem dX11_personOf_114 : decode cX11_personOf 114 = .ok (.iload_n 1, 1) := by decide +kernel
theorem dX11_personOf_115 : decode cX11_personOf 115 = .ok (.aaload, 1) := by decide +kernel
theorem dX11_personOf_116 : decode cX11_personOf 116 = .ok (.aload_n 0, 1) := by decide +kernel
theorem dX11_personOf_117 : decode cX11_personOf 117 = .ok (.getfield 18, 3) := by decide +kernel
theorem dX11_personOf_120 : decode cX11_personOf 120 = .ok (.getfield 115, 3) := by decide +kernel
theorem dX11_personOf_123 : decode cX11_personOf 123 = .ok (.getfield 122, 3) := by decide +kernel
theorem dX11_personOf_126 : decode cX11_personOf 126 = .ok (.invokevirtual 125, 3) := by decide +kernel
theorem dX11_personOf_129 : decode cX11_personOf 129 = .ok (.ireturn, 1) := by decide +kernel
theorem dX11_personOf_130 : decode cX11_personOf 130 = .ok (.aload_n 0, 1) := by decide +kernel
theorem dX11_personOf_131 : decode cX11_personOf 131 = .ok (.getfield 18, 3) := by decide +kernel
theorem dX11_personOf_134 : decode cX11_personOf 134 = .ok (.iload_n 1, 1) := by decide +kernel
theorem dX11_personOf_135 : decode cX11_personOf 135 = .ok (.aload_n 0, 1) := by decide +kernel
theorem dX11_personOf_136 : decode cX11_personOf 136 = .ok (.getfield 18, 3) := by decide +kernel
theorem dX11_personOf_139 : decode cX11_personOf 139 = .ok (.getfield 115, 3) := by decide +kernel
theorem dX11_personOf_142 : decode cX11_personOf 142 = .ok (.invokevirtual 129, 3) := by decide +kernel
theorem dX11_personOf_145 : decode cX11_personOf 145 = .ok (.ireturn, 1) := by decide +kernel
theorem dX11_personOf_146 : decode cX11_personOf 146 = .ok (.iconst (-1), 1) := by decide +kernel
theorem dX11_personOf_147 : decode cX11_personOf 147 = .ok (.ireturn, 1) := by decide +kernel
def f11_personOf (a1 : Int32) (a2 : Int32) (m : lu_M) : Option (Int32 × lu_M) :=
  lu_bi (f10_isPerson 1 a1 m) fun x1 m2 =>
  if x1 = 0 then (some ((-1 : Int32), m2))
  else (if a2 = (0 : Int32) then (lu_gd (lu_ib a1 6) <|
  some ((m2 (2 + 1 + a1.toNatClampNeg) 0), m2))
  else (if a2 = (1 : Int32) then (lu_gd (lu_ib a1 6) <|
  some ((m2 (2 + 1 + a1.toNatClampNeg) 2), m2))
  else (if a2 = (2 : Int32) then (lu_gd (lu_ib a1 6) <|
  some ((m2 (2 + 1 + a1.toNatClampNeg) 3), m2))
  else (if a2 = (3 : Int32) then (lu_bi (f10_borne 1 a1 29 m2) fun x6 m7 =>
  some (x6, m7))
  else (if a2 = (4 : Int32) then (lu_gd (lu_ib a1 6) <|
  lu_bi (g3_pull (2 + 1 + a1.toNatClampNeg) (m2 29 0) m2) fun x9 m10 =>
  some (x9, m10))
  else (if a2 = (5 : Int32) then (lu_bi (f10_choice 1 a1 29 m2) fun x11 m12 =>
  some (x11, m12))
  else (some ((-1 : Int32), m2))))))))
set_option maxRecDepth 20000 in
theorem c11_personOf (l : Launch)   (a1 : Int32) (a2 : Int32) : lu_C lu_TC l yX11_personOf cX11_personOf 3 (some .int) 4 98 (fun ρ sa => [.ref (ρ 0), .int a1, .int a2]) (f11_personOf a1 a2) lu_RVi lu_sn := by
  refine lu_met (cls := RX11) rfl (by decide +kernel) (fun _ _ => Nat.le_of_ble_eq_true rfl) ?_
  intro G ρ m hl X hret
  subst hl
  change lu_Ab lu_TC G (lu_Q lu_TC G ρ lu_RVi lu_sn) (f11_personOf a1 a2 m) 0 [(0, .ref (ρ 0)), (1, .int a1), (2, .int a2)] [] ρ 0 0 [] m
  unfold f11_personOf
  refine lu_aload_n X dX11_personOf_0 (pc2 := 1) rfl rfl 0 rfl ?_
  refine lu_getr (r2 := 1) X rfl fl11_18 rfl kC_0 lC_0 dX11_personOf_1 (pc2 := 4) rfl ?_
  refine lu_iload_n X dX11_personOf_4 (pc2 := 5) rfl rfl 1 rfl ?_
  refine lu_invVi X (c10_isPerson _ kC_1 lC_1 a1) rfl q440 mvV_10_isPerson kC_1 lC_1 (by decide) ⟨_, rfl, rfl⟩ rfl rfl (Nat.le_of_ble_eq_true rfl) (Nat.le_of_ble_eq_true rfl) (Nat.le_of_ble_eq_true rfl) ⟨Nat.zero_le _, Nat.zero_le _⟩ dX11_personOf_5 (pc2 := 8) rfl rfl (fun x1 m2 => ?_)
  refine lu_if_ne (tgt := 13) X dX11_personOf_8 (pc2 := 11) rfl (by decide) (fun _ => ?_) (fun _ => ?_)
  · refine lu_iload_n X dX11_personOf_13 (pc2 := 14) rfl rfl 2 rfl ?_
    refine lu_ite (fun c0 => ?_) (fun c0 => ?_)
    · refine lu_tsIn X c0 dX11_personOf_14 (tgt := 52) (by decide) (by decide) rfl (by decide) ?_
      refine lu_aload_n X dX11_personOf_52 (pc2 := 53) rfl rfl 0 rfl ?_
      refine lu_getr (r2 := 1) X rfl fl11_18 rfl kC_0 lC_0 dX11_personOf_53 (pc2 := 56) rfl ?_
      refine lu_getr (r2 := 2) X rfl fl11_99 rfl kC_1 lC_1 dX11_personOf_56 (pc2 := 59) rfl ?_
      refine lu_iload_n X dX11_personOf_59 (pc2 := 60) rfl rfl 1 rfl ?_
      refine lu_aald X rfl rfl (by decide) (by decide) kC_2 lC_2 dX11_personOf_60 (pc2 := 61) rfl (fun g3 => ?_)
      refine lu_get X fl11_106 rfl ((kaC_1_6_0 kC_2 lC_2 g3).1) ((kaC_1_6_0 kC_2 lC_2 g3).2) dX11_personOf_61 (pc2 := 64) rfl ?_
      exact lu_iret X hret dX11_personOf_64
    · refine lu_ite (fun c1 => ?_) (fun c1 => ?_)
      · refine lu_tsIn X c1 dX11_personOf_14 (tgt := 65) (by decide) (by decide) rfl (by decide) ?_
        refine lu_aload_n X dX11_personOf_65 (pc2 := 66) rfl rfl 0 rfl ?_
        refine lu_getr (r2 := 1) X rfl fl11_18 rfl kC_0 lC_0 dX11_personOf_66 (pc2 := 69) rfl ?_
        refine lu_getr (r2 := 2) X rfl fl11_99 rfl kC_1 lC_1 dX11_personOf_69 (pc2 := 72) rfl ?_
        refine lu_iload_n X dX11_personOf_72 (pc2 := 73) rfl rfl 1 rfl ?_
        refine lu_aald X rfl rfl (by decide) (by decide) kC_2 lC_2 dX11_personOf_73 (pc2 := 74) rfl (fun g4 => ?_)
        refine lu_get X fl11_109 rfl ((kaC_1_6_0 kC_2 lC_2 g4).1) ((kaC_1_6_0 kC_2 lC_2 g4).2) dX11_personOf_74 (pc2 := 77) rfl ?_
        exact lu_iret X hret dX11_personOf_77
      · refine lu_ite (fun c2 => ?_) (fun c2 => ?_)
        · refine lu_tsIn X c2 dX11_personOf_14 (tgt := 78) (by decide) (by decide) rfl (by decide) ?_
          refine lu_aload_n X dX11_personOf_78 (pc2 := 79) rfl rfl 0 rfl ?_
          refine lu_getr (r2 := 1) X rfl fl11_18 rfl kC_0 lC_0 dX11_personOf_79 (pc2 := 82) rfl ?_
          refine lu_getr (r2 := 2) X rfl fl11_99 rfl kC_1 lC_1 dX11_personOf_82 (pc2 := 85) rfl ?_
          refine lu_iload_n X dX11_personOf_85 (pc2 := 86) rfl rfl 1 rfl ?_
          refine lu_aald X rfl rfl (by decide) (by decide) kC_2 lC_2 dX11_personOf_86 (pc2 := 87) rfl (fun g5 => ?_)
          refine lu_get X fl11_112 rfl ((kaC_1_6_0 kC_2 lC_2 g5).1) ((kaC_1_6_0 kC_2 lC_2 g5).2) dX11_personOf_87 (pc2 := 90) rfl ?_
          exact lu_iret X hret dX11_personOf_90
        · refine lu_ite (fun c3 => ?_) (fun c3 => ?_)
          · refine lu_tsIn X c3 dX11_personOf_14 (tgt := 91) (by decide) (by decide) rfl (by decide) ?_
            refine lu_aload_n X dX11_personOf_91 (pc2 := 92) rfl rfl 0 rfl ?_
            refine lu_getr (r2 := 1) X rfl fl11_18 rfl kC_0 lC_0 dX11_personOf_92 (pc2 := 95) rfl ?_
            refine lu_iload_n X dX11_personOf_95 (pc2 := 96) rfl rfl 1 rfl ?_
            refine lu_aload_n X dX11_personOf_96 (pc2 := 97) rfl rfl 0 rfl ?_
            refine lu_getr (r2 := 1) X rfl fl11_18 rfl kC_0 lC_0 dX11_personOf_97 (pc2 := 100) rfl ?_
            refine lu_getr (r2 := 29) X rfl fl11_115 rfl kC_1 lC_1 dX11_personOf_100 (pc2 := 103) rfl ?_
            refine lu_invVi X (c10_borne _ kC_1 lC_1 kC_29 lC_29 a1) rfl q445 mvV_10_borne kC_1 lC_1 (by decide) ⟨_, rfl, rfl⟩ rfl rfl (Nat.le_of_ble_eq_true rfl) (Nat.le_of_ble_eq_true rfl) (Nat.le_of_ble_eq_true rfl) ⟨Nat.zero_le _, Nat.zero_le _⟩ dX11_personOf_103 (pc2 := 106) rfl rfl (fun x6 m7 => ?_)
            exact lu_iret X hret dX11_personOf_106
          · refine lu_ite (fun c4 => ?_) (fun c4 => ?_)
            · refine lu_tsIn X c4 dX11_personOf_14 (tgt := 107) (by decide) (by decide) rfl (by decide) ?_
              refine lu_aload_n X dX11_personOf_107 (pc2 := 108) rfl rfl 0 rfl ?_
              refine lu_getr (r2 := 1) X rfl fl11_18 rfl kC_0 lC_0 dX11_personOf_108 (pc2 := 111) rfl ?_
              refine lu_getr (r2 := 2) X rfl fl11_99 rfl kC_1 lC_1 dX11_personOf_111 (pc2 := 114) rfl ?_
              refine lu_iload_n X dX11_personOf_114 (pc2 := 115) rfl rfl 1 rfl ?_
              refine lu_aald X rfl rfl (by decide) (by decide) kC_2 lC_2 dX11_personOf_115 (pc2 := 116) rfl (fun g8 => ?_)
              refine lu_aload_n X dX11_personOf_116 (pc2 := 117) rfl rfl 0 rfl ?_
              refine lu_getr (r2 := 1) X rfl fl11_18 rfl kC_0 lC_0 dX11_personOf_117 (pc2 := 120) rfl ?_
              refine lu_getr (r2 := 29) X rfl fl11_115 rfl kC_1 lC_1 dX11_personOf_120 (pc2 := 123) rfl ?_
              refine lu_get X fl11_122 rfl kC_29 lC_29 dX11_personOf_123 (pc2 := 126) rfl ?_
              refine v3_pull X q449 ((kaC_1_6_0 kC_2 lC_2 g8).1) ((kaC_1_6_0 kC_2 lC_2 g8).2) rfl (Nat.le_of_ble_eq_true rfl) (Nat.le_of_ble_eq_true rfl) (Nat.le_of_ble_eq_true rfl) ⟨Nat.zero_le _, Nat.zero_le _⟩ dX11_personOf_126 (pc2 := 129) rfl rfl (fun x9 m10 => ?_)
              exact lu_iret X hret dX11_personOf_129
            · refine lu_ite (fun c5 => ?_) (fun c5 => ?_)
              · refine lu_tsIn X c5 dX11_personOf_14 (tgt := 130) (by decide) (by decide) rfl (by decide) ?_
                refine lu_aload_n X dX11_personOf_130 (pc2 := 131) rfl rfl 0 rfl ?_
                refine lu_getr (r2 := 1) X rfl fl11_18 rfl kC_0 lC_0 dX11_personOf_131 (pc2 := 134) rfl ?_
                refine lu_iload_n X dX11_personOf_134 (pc2 := 135) rfl rfl 1 rfl ?_
                refine lu_aload_n X dX11_personOf_135 (pc2 := 136) rfl rfl 0 rfl ?_
                refine lu_getr (r2 := 1) X rfl fl11_18 rfl kC_0 lC_0 dX11_personOf_136 (pc2 := 139) rfl ?_
                refine lu_getr (r2 := 29) X rfl fl11_115 rfl kC_1 lC_1 dX11_personOf_139 (pc2 := 142) rfl ?_
                refine lu_invVi X (c10_choice _ kC_1 lC_1 kC_29 lC_29 a1) rfl q473 mvV_10_choice kC_1 lC_1 (by decide) ⟨_, rfl, rfl⟩ rfl rfl (Nat.le_of_ble_eq_true rfl) (Nat.le_of_ble_eq_true rfl) (Nat.le_of_ble_eq_true rfl) ⟨Nat.zero_le _, Nat.zero_le _⟩ dX11_personOf_142 (pc2 := 145) rfl rfl (fun x11 m12 => ?_)
                exact lu_iret X hret dX11_personOf_145
              · refine lu_tsOut (tgt := 146) X dX11_personOf_14 (by have h0 := lv_neT c0 (a := 0) (by decide); have h1 := lv_neT c1 (a := 1) (by decide); have h2 := lv_neT c2 (a := 2) (by decide); have h3 := lv_neT c3 (a := 3) (by decide); have h4 := lv_neT c4 (a := 4) (by decide); have h5 := lv_neT c5 (a := 5) (by decide); omega) (by decide) ?_
                refine lu_iconst X dX11_personOf_146 (pc2 := 147) rfl ic_m1 ?_
                exact lu_iret X hret dX11_personOf_147
  · refine lu_iconst X dX11_personOf_11 (pc2 := 12) rfl ic_m1 ?_
    exact lu_iret X hret dX11_personOf_12

theorem dX11_change_0 : decode cX11_change 0 = .ok (.aload_n 0, 1) := by decide +kernel
theorem dX11_change_1 : decode cX11_change 1 = .ok (.getfield 18, 3) := by decide +kernel
theorem dX11_change_4 : decode cX11_change 4 = .ok (.iload_n 1, 1) := by decide +kernel
theorem dX11_change_5 : decode cX11_change 5 = .ok (.invokevirtual 102, 3) := by decide +kernel
theorem dX11_change_8 : decode cX11_change 8 = .ok (.ifCond .eq 22, 3) := by decide +kernel
theorem dX11_change_11 : decode cX11_change 11 = .ok (.iload_n 2, 1) := by decide +kernel
theorem dX11_change_12 : decode cX11_change 12 = .ok (.iconst 1, 1) := by decide +kernel
theorem dX11_change_13 : decode cX11_change 13 = .ok (.iconst 2, 1) := by decide +kernel
theorem dX11_change_14 : decode cX11_change 14 = .ok (.invokestatic 92, 3) := by decide +kernel
theorem dX11_change_17 : decode cX11_change 17 = .ok (.ifCond .eq 13, 3) := by decide +kernel
theorem dX11_change_20 : decode cX11_change 20 = .ok (.iload_n 3, 1) := by decide +kernel
theorem dX11_change_21 : decode cX11_change 21 = .ok (.iconst 1, 1) := by decide +kernel
theorem dX11_change_22 : decode cX11_change 22 = .ok (.bipush 9, 2) := by decide +kernel
theorem dX11_change_24 : decode cX11_change 24 = .ok (.invokestatic 92, 3) := by decide +kernel
theorem dX11_change_27 : decode cX11_change 27 = .ok (.ifCond .ne 5, 3) := by decide +kernel
theorem dX11_change_30 : decode cX11_change 30 = .ok (.iconst (-1), 1) := by decide +kernel
theorem dX11_change_31 : decode cX11_change 31 = .ok (.ireturn, 1) := by decide +kernel
theorem dX11_change_32 : decode cX11_change 32 = .ok (.aload_n 0, 1) := by decide +kernel
theorem dX11_change_33 : decode cX11_change 33 = .ok (.getfield 18, 3) := by decide +kernel
theorem dX11_change_36 : decode cX11_change 36 = .ok (.getfield 99, 3) := by decide +kernel
theorem dX11_change_39 : decode cX11_change 39 = .ok (.iload_n 1, 1) := by decide +kernel
theorem dX11_change_40 : decode cX11_change 40 = .ok (.aaload, 1) := by decide +kernel
theorem dX11_change_41 : decode cX11_change 41 = .ok (.astore 4, 2) := by decide +kernel
theorem dX11_change_43 : decode cX11_change 43 = .ok (.iload_n 2, 1) := by decide +kernel
theorem dX11_change_44 : decode cX11_change 44 = .ok (.iconst 2, 1) := by decide +kernel
theorem dX11_change_45 : decode cX11_change 45 = .ok (.if_icmp .ne 19, 3) := by decide +kernel
theorem dX11_change_48 : decode cX11_change 48 = .ok (.aload 4, 2) := by decide +kernel
theorem dX11_change_50 : decode cX11_change 50 = .ok (.getfield 112, 3) := by decide +kernel
theorem dX11_change_53 : decode cX11_change 53 = .ok (.istore 5, 2) := by decide +kernel
theorem dX11_change_55 : decode cX11_change 55 = .ok (.aload 4, 2) := by decide +kernel
theorem dX11_change_57 : decode cX11_change 57 = .ok (.iload_n 3, 1) := by decide +kernel
theorem dX11_change_58 : decode cX11_change 58 = .ok (.putfield 112, 3) := by decide +kernel
theorem dX11_change_61 : decode cX11_change 61 = .ok (.iload 5, 2) := by decide +kernel
theorem dX11_change_63 : decode cX11_change 63 = .ok (.ireturn, 1) := by decide +kernel
theorem dX11_change_64 : decode cX11_change 64 = .ok (.aload 4, 2) := by decide +kernel
theorem dX11_change_66 : decode cX11_change 66 = .ok (.getfield 109, 3) := by decide +kernel
theorem dX11_change_69 : decode cX11_change 69 = .ok (.istore 5, 2) := by decide +kernel
theorem dX11_change_71 : decode cX11_change 71 = .ok (.aload 4, 2) := by decide +kernel
theorem dX11_change_73 : decode cX11_change 73 = .ok (.iload_n 3, 1) := by decide +kernel
theorem dX11_change_74 : decode cX11_change 74 = .ok (.putfield 109, 3) := by decide +kernel
theorem dX11_change_77 : decode cX11_change 77 = .ok (.aload_n 0, 1) := by decide +kernel
theorem dX11_change_78 : decode cX11_change 78 = .ok (.getfield 18, 3) := by decide +kernel
theorem dX11_change_81 : decode cX11_change 81 = .ok (.invokevirtual 132, 3) := by decide +kernel
theorem dX11_change_84 : decode cX11_change 84 = .ok (.iload 5, 2) := by decide +kernel
theorem dX11_change_86 : decode cX11_change 86 = .ok (.ireturn, 1) := by decide +kernel
def f11_change_b30  (a1 : Int32) (a2 : Int32) (a3 : Int32)  (m : lu_M) : Option (Int32 × lu_M) :=
  some ((-1 : Int32), m)
set_option maxRecDepth 20000 in
theorem w11_change_b30  {G : lu_G} {ρ : Nat → Nat} {a1 : Int32} {a2 : Int32} {a3 : Int32}  (X : lu_X G RX11 cX11_change 6 4 81) (hret : (lu_me G).sig.returnType = (some .int))   : ∀  (m : lu_M), lu_Ab lu_TC G (lu_Q lu_TC G ρ lu_RVi lu_sn) (f11_change_b30 a1 a2 a3 m) 30 [] [] ρ 0 0 [] m := by
  intro  m
  unfold f11_change_b30
  refine lu_iconst X dX11_change_30 (pc2 := 31) rfl ic_m1 ?_
  exact lu_iret X hret dX11_change_31
def f11_change (a1 : Int32) (a2 : Int32) (a3 : Int32) (m : lu_M) : Option (Int32 × lu_M) :=
  lu_bi (f10_isPerson 1 a1 m) fun x1 m2 =>
  if x1 = 0 then (f11_change_b30 a1 a2 a3 m2)
  else (lu_bi (f11_isWithin a2 (1 : Int32) (2 : Int32) m2) fun x3 m4 =>
  if x3 = 0 then (f11_change_b30 a1 a2 a3 m4)
  else (lu_bi (f11_isWithin a3 (1 : Int32) (9 : Int32) m4) fun x5 m6 =>
  if x5 = 0 then (f11_change_b30 a1 a2 a3 m6)
  else (lu_gd (lu_ib a1 6) <|
  if a2 = (2 : Int32) then (lu_nm ((m6 (2 + 1 + a1.toNatClampNeg) 3)) fun x11 =>
  lu_nm (lu_st m6 (2 + 1 + a1.toNatClampNeg) 3 a3) fun m12 =>
  some (x11, m12))
  else (lu_nm ((m6 (2 + 1 + a1.toNatClampNeg) 2)) fun x8 =>
  lu_nm (lu_st m6 (2 + 1 + a1.toNatClampNeg) 2 a3) fun m9 =>
  lu_bv (f10_settle 1 m9) fun m10 =>
  some (x8, m10)))))
set_option maxRecDepth 20000 in
theorem c11_change (l : Launch)   (a1 : Int32) (a2 : Int32) (a3 : Int32) : lu_C lu_TC l yX11_change cX11_change 6 (some .int) 4 81 (fun ρ sa => [.ref (ρ 0), .int a1, .int a2, .int a3]) (f11_change a1 a2 a3) lu_RVi lu_sn := by
  refine lu_met (cls := RX11) rfl (by decide +kernel) (fun _ _ => Nat.le_of_ble_eq_true rfl) ?_
  intro G ρ m hl X hret
  subst hl
  change lu_Ab lu_TC G (lu_Q lu_TC G ρ lu_RVi lu_sn) (f11_change a1 a2 a3 m) 0 [(0, .ref (ρ 0)), (1, .int a1), (2, .int a2), (3, .int a3)] [] ρ 0 0 [] m
  unfold f11_change
  refine lu_aload_n X dX11_change_0 (pc2 := 1) rfl rfl 0 rfl ?_
  refine lu_getr (r2 := 1) X rfl fl11_18 rfl kC_0 lC_0 dX11_change_1 (pc2 := 4) rfl ?_
  refine lu_iload_n X dX11_change_4 (pc2 := 5) rfl rfl 1 rfl ?_
  refine lu_invVi X (c10_isPerson _ kC_1 lC_1 a1) rfl q440 mvV_10_isPerson kC_1 lC_1 (by decide) ⟨_, rfl, rfl⟩ rfl rfl (Nat.le_of_ble_eq_true rfl) (Nat.le_of_ble_eq_true rfl) (Nat.le_of_ble_eq_true rfl) ⟨Nat.zero_le _, Nat.zero_le _⟩ dX11_change_5 (pc2 := 8) rfl rfl (fun x1 m2 => ?_)
  refine lu_if_eq (tgt := 30) X dX11_change_8 (pc2 := 11) rfl (by decide) (fun _ => ?_) (fun _ => ?_)
  · exact lu_sub [] rfl (w11_change_b30 X hret m2)
  · refine lu_iload_n X dX11_change_11 (pc2 := 12) rfl rfl 2 rfl ?_
    refine lu_iconst X dX11_change_12 (pc2 := 13) rfl ic_1 ?_
    refine lu_iconst X dX11_change_13 (pc2 := 14) rfl ic_2 ?_
    refine lu_invSi X (c11_isWithin _ a2 (1 : Int32) (2 : Int32)) rfl q433 mvS_11_isWithin rfl rfl (Nat.le_of_ble_eq_true rfl) (Nat.le_of_ble_eq_true rfl) (Nat.le_of_ble_eq_true rfl) ⟨Nat.zero_le _, Nat.zero_le _⟩ dX11_change_14 (pc2 := 17) rfl rfl (fun x3 m4 => ?_)
    refine lu_if_eq (tgt := 30) X dX11_change_17 (pc2 := 20) rfl (by decide) (fun _ => ?_) (fun _ => ?_)
    · exact lu_sub [] rfl (w11_change_b30 X hret m4)
    · refine lu_iload_n X dX11_change_20 (pc2 := 21) rfl rfl 3 rfl ?_
      refine lu_iconst X dX11_change_21 (pc2 := 22) rfl ic_1 ?_
      refine lu_bipush X dX11_change_22 (pc2 := 24) rfl bp_9 ?_
      refine lu_invSi X (c11_isWithin _ a3 (1 : Int32) (9 : Int32)) rfl q433 mvS_11_isWithin rfl rfl (Nat.le_of_ble_eq_true rfl) (Nat.le_of_ble_eq_true rfl) (Nat.le_of_ble_eq_true rfl) ⟨Nat.zero_le _, Nat.zero_le _⟩ dX11_change_24 (pc2 := 27) rfl rfl (fun x5 m6 => ?_)
      refine lu_if_ne (tgt := 32) X dX11_change_27 (pc2 := 30) rfl (by decide) (fun _ => ?_) (fun _ => ?_)
      · refine lu_aload_n X dX11_change_32 (pc2 := 33) rfl rfl 0 rfl ?_
        refine lu_getr (r2 := 1) X rfl fl11_18 rfl kC_0 lC_0 dX11_change_33 (pc2 := 36) rfl ?_
        refine lu_getr (r2 := 2) X rfl fl11_99 rfl kC_1 lC_1 dX11_change_36 (pc2 := 39) rfl ?_
        refine lu_iload_n X dX11_change_39 (pc2 := 40) rfl rfl 1 rfl ?_
        refine lu_aald X rfl rfl (by decide) (by decide) kC_2 lC_2 dX11_change_40 (pc2 := 41) rfl (fun g7 => ?_)
        refine lu_astore (lv2 := [(4, .ref (ρ (2 + 1 + a1.toNatClampNeg))), (0, .ref (ρ 0)), (1, .int a1), (2, .int a2), (3, .int a3)]) X dX11_change_41 (pc2 := 43) rfl (by decide) rfl ?_
        refine lu_iload_n X dX11_change_43 (pc2 := 44) rfl rfl 3 rfl ?_
        refine lu_iconst X dX11_change_44 (pc2 := 45) rfl ic_2 ?_
        refine lu_icmp_ne (tgt := 64) X dX11_change_45 (pc2 := 48) rfl (by decide) (fun _ => ?_) (fun _ => ?_)
        · refine lu_aload X dX11_change_64 (pc2 := 66) rfl 0 rfl ?_
          refine lu_get X fl11_109 rfl ((kaC_1_6_0 kC_2 lC_2 g7).1) ((kaC_1_6_0 kC_2 lC_2 g7).2) dX11_change_66 (pc2 := 69) rfl ?_
          refine lu_topi (fun x8 => ?_)
          refine lu_istore (lv2 := [(5, .int x8), (4, .ref (ρ (2 + 1 + a1.toNatClampNeg))), (0, .ref (ρ 0)), (1, .int a1), (2, .int a2), (3, .int a3)]) X dX11_change_69 (pc2 := 71) rfl (by decide) rfl ?_
          refine lu_aload X dX11_change_71 (pc2 := 73) rfl 1 rfl ?_
          refine lu_iload_n X dX11_change_73 (pc2 := 74) rfl rfl 5 rfl ?_
          refine lu_put X fl11_109 rfl (Or.inr (by decide)) rfl (by decide +kernel) ((kaC_1_6_0 kC_2 lC_2 g7).1) ((kaC_1_6_0 kC_2 lC_2 g7).2) dX11_change_74 (pc2 := 77) rfl (fun m9 => ?_)
          refine lu_aload_n X dX11_change_77 (pc2 := 78) rfl rfl 2 rfl ?_
          refine lu_getr (r2 := 1) X rfl fl11_18 rfl kC_0 lC_0 dX11_change_78 (pc2 := 81) rfl ?_
          refine lu_invVv X (c10_settle _ kC_1 lC_1) rfl q499 mvV_10_settle kC_1 lC_1 (by decide) ⟨_, rfl, rfl⟩ rfl rfl (Nat.le_of_ble_eq_true rfl) (Nat.le_of_ble_eq_true rfl) (Nat.le_of_ble_eq_true rfl) ⟨Nat.zero_le _, Nat.zero_le _⟩ dX11_change_81 (pc2 := 84) rfl rfl (fun m10 => ?_)
          refine lu_iload X dX11_change_84 (pc2 := 86) rfl 0 rfl ?_
          exact lu_iret X hret dX11_change_86
        · refine lu_aload X dX11_change_48 (pc2 := 50) rfl 0 rfl ?_
          refine lu_get X fl11_112 rfl ((kaC_1_6_0 kC_2 lC_2 g7).1) ((kaC_1_6_0 kC_2 lC_2 g7).2) dX11_change_50 (pc2 := 53) rfl ?_
          refine lu_topi (fun x11 => ?_)
          refine lu_istore (lv2 := [(5, .int x11), (4, .ref (ρ (2 + 1 + a1.toNatClampNeg))), (0, .ref (ρ 0)), (1, .int a1), (2, .int a2), (3, .int a3)]) X dX11_change_53 (pc2 := 55) rfl (by decide) rfl ?_
          refine lu_aload X dX11_change_55 (pc2 := 57) rfl 1 rfl ?_
          refine lu_iload_n X dX11_change_57 (pc2 := 58) rfl rfl 5 rfl ?_
          refine lu_put X fl11_112 rfl (Or.inr (by decide)) rfl (by decide +kernel) ((kaC_1_6_0 kC_2 lC_2 g7).1) ((kaC_1_6_0 kC_2 lC_2 g7).2) dX11_change_58 (pc2 := 61) rfl (fun m12 => ?_)
          refine lu_iload X dX11_change_61 (pc2 := 63) rfl 0 rfl ?_
          exact lu_iret X hret dX11_change_63
      · exact lu_sub [] rfl (w11_change_b30 X hret m6)

theorem dX11_deed_0 : decode cX11_deed 0 = .ok (.aload_n 0, 1) := by decide +kernel
theorem dX11_deed_1 : decode cX11_deed 1 = .ok (.getfield 18, 3) := by decide +kernel
theorem dX11_deed_4 : decode cX11_deed 4 = .ok (.iload_n 1, 1) := by decide +kernel
theorem dX11_deed_5 : decode cX11_deed 5 = .ok (.invokevirtual 102, 3) := by decide +kernel
theorem dX11_deed_8 : decode cX11_deed 8 = .ok (.ifCond .eq 23, 3) := by decide +kernel
theorem dX11_deed_11 : decode cX11_deed 11 = .ok (.iload_n 2, 1) := by decide +kernel
theorem dX11_deed_12 : decode cX11_deed 12 = .ok (.iconst 0, 1) := by decide +kernel
theorem dX11_deed_13 : decode cX11_deed 13 = .ok (.bipush 15, 2) := by decide +kernel
theorem dX11_deed_15 : decode cX11_deed 15 = .ok (.invokestatic 92, 3) := by decide +kernel
theorem dX11_deed_18 : decode cX11_deed 18 = .ok (.ifCond .eq 13, 3) := by decide +kernel
theorem dX11_deed_21 : decode cX11_deed 21 = .ok (.iload_n 3, 1) := by decide +kernel
theorem dX11_deed_22 : decode cX11_deed 22 = .ok (.iconst 1, 1) := by decide +kernel
theorem dX11_deed_23 : decode cX11_deed 23 = .ok (.bipush 9, 2) := by decide +kernel
theorem dX11_deed_25 : decode cX11_deed 25 = .ok (.invokestatic 92, 3) := by decide +kernel
theorem dX11_deed_28 : decode cX11_deed 28 = .ok (.ifCond .ne 5, 3) := by decide +kernel
theorem dX11_deed_31 : decode cX11_deed 31 = .ok (.iconst (-1), 1) := by decide +kernel
theorem dX11_deed_32 : decode cX11_deed 32 = .ok (.ireturn, 1) := by decide +kernel
theorem dX11_deed_33 : decode cX11_deed 33 = .ok (.iload 4, 2) := by decide +kernel
theorem dX11_deed_35 : decode cX11_deed 35 = .ok (.iconst (-1), 1) := by decide +kernel
theorem dX11_deed_36 : decode cX11_deed 36 = .ok (.if_icmp .eq 17, 3) := by decide +kernel
theorem dX11_deed_39 : decode cX11_deed 39 = .ok (.aload_n 0, 1) := by decide +kernel
theorem dX11_deed_40 : decode cX11_deed 40 = .ok (.getfield 18, 3) := by decide +kernel
theorem dX11_deed_43 : decode cX11_deed 43 = .ok (.iload 4, 2) := by decide +kernel
theorem dX11_deed_45 : decode cX11_deed 45 = .ok (.invokevirtual 135, 3) := by decide +kernel
theorem dX11_deed_48 : decode cX11_deed 48 = .ok (.ifCond .ne 5, 3) := by decide +kernel
theorem dX11_deed_51 : decode cX11_deed 51 = .ok (.iconst (-1), 1) := by decide +kernel
theorem dX11_deed_52 : decode cX11_deed 52 = .ok (.ireturn, 1) := by decide +kernel
theorem dX11_deed_53 : decode cX11_deed 53 = .ok (.aload_n 0, 1) := by decide +kernel
theorem dX11_deed_54 : decode cX11_deed 54 = .ok (.getfield 18, 3) := by decide +kernel
theorem dX11_deed_57 : decode cX11_deed 57 = .ok (.getfield 138, 3) := by decide +kernel
theorem dX11_deed_60 : decode cX11_deed 60 = .ok (.bipush 10, 2) := by decide +kernel
theorem dX11_deed_62 : decode cX11_deed 62 = .ok (.if_icmp .lt 6, 3) := by decide +kernel
theorem dX11_deed_65 : decode cX11_deed 65 = .ok (.bipush (-2), 2) := by decide +kernel
theorem dX11_deed_67 : decode cX11_deed 67 = .ok (.ireturn, 1) := by decide +kernel
theorem dX11_deed_68 : decode cX11_deed 68 = .ok (.iload_n 2, 1) := by decide +kernel
theorem dX11_deed_69 : decode cX11_deed 69 = .ok (.aload_n 0, 1) := by decide +kernel
theorem dX11_deed_70 : decode cX11_deed 70 = .ok (.getfield 18, 3) := by decide +kernel
theorem dX11_deed_73 : decode cX11_deed 73 = .ok (.getfield 115, 3) := by decide +kernel
theorem dX11_deed_76 : decode cX11_deed 76 = .ok (.getfield 122, 3) := by decide +kernel
theorem dX11_deed_79 : decode cX11_deed 79 = .ok (.if_icmp .ge 6, 3) := by decide +kernel
theorem dX11_deed_82 : decode cX11_deed 82 = .ok (.bipush (-4), 2) := by decide +kernel
theorem dX11_deed_84 : decode cX11_deed 84 = .ok (.ireturn, 1) := by decide +kernel
theorem dX11_deed_85 : decode cX11_deed 85 = .ok (.aload_n 0, 1) := by decide +kernel
theorem dX11_deed_86 : decode cX11_deed 86 = .ok (.getfield 18, 3) := by decide +kernel
theorem dX11_deed_89 : decode cX11_deed 89 = .ok (.getfield 138, 3) := by decide +kernel
theorem dX11_deed_92 : decode cX11_deed 92 = .ok (.istore 5, 2) := by decide +kernel
theorem dX11_deed_94 : decode cX11_deed 94 = .ok (.aload_n 0, 1) := by decide +kernel
theorem dX11_deed_95 : decode cX11_deed 95 = .ok (.getfield 18, 3) := by decide +kernel
theorem dX11_deed_98 : decode cX11_deed 98 = .ok (.getfield 141, 3) := by decide +kernel
theorem dX11_deed_101 : decode cX11_deed 101 = .ok (.iload 5, 2) := by decide +kernel
theorem dX11_deed_103 : decode cX11_deed 103 = .ok (.iload_n 1, 1) := by decide +kernel
theorem dX11_deed_104 : decode cX11_deed 104 = .ok (.iastore, 1) := by decide +kernel
theorem dX11_deed_105 : decode cX11_deed 105 = .ok (.aload_n 0, 1) := by decide +kernel
theorem dX11_deed_106 : decode cX11_deed 106 = .ok (.getfield 18, 3) := by decide +kernel
theorem dX11_deed_109 : decode cX11_deed 109 = .ok (.getfield 144, 3) := by decide +kernel
theorem dX11_deed_112 : decode cX11_deed 112 = .ok (.iload 5, 2) := by decide +kernel
theorem dX11_deed_114 : decode cX11_deed 114 = .ok (.iload_n 2, 1) := by decide +kernel
theorem dX11_deed_115 : decode cX11_deed 115 = .ok (.iastore, 1) := by decide +kernel
theorem dX11_deed_116 : decode cX11_deed 116 = .ok (.aload_n 0, 1) := by decide +kernel
theorem dX11_deed_117 : decode cX11_deed 117 = .ok (.getfield 18, 3) := by decide +kernel
theorem dX11_deed_120 : decode cX11_deed 120 = .ok (.getfield 147, 3) := by decide +kernel
theorem dX11_deed_123 : decode cX11_deed 123 = .ok (.iload 5, 2) := by decide +kernel
theorem dX11_deed_125 : decode cX11_deed 125 = .ok (.iload_n 3, 1) := by decide +kernel
theorem dX11_deed_126 : decode cX11_deed 126 = .ok (.iastore, 1) := by decide +kernel
theorem dX11_deed_127 : decode cX11_deed 127 = .ok (.aload_n 0, 1) := by decide +kernel
theorem dX11_deed_128 : decode cX11_deed 128 = .ok (.getfield 18, 3) := by decide +kernel
theorem dX11_deed_131 : decode cX11_deed 131 = .ok (.getfield 150, 3) := by decide +kernel
theorem dX11_deed_134 : decode cX11_deed 134 = .ok (.iload 5, 2) := by decide +kernel
theorem dX11_deed_136 : decode cX11_deed 136 = .ok (.iload 4, 2) := by decide +kernel
theorem dX11_deed_138 : decode cX11_deed 138 = .ok (.iastore, 1) := by decide +kernel
theorem dX11_deed_139 : decode cX11_deed 139 = .ok (.aload_n 0, 1) := by decide +kernel
theorem dX11_deed_140 : decode cX11_deed 140 = .ok (.getfield 18, 3) := by decide +kernel
theorem dX11_deed_143 : decode cX11_deed 143 = .ok (.iload 5, 2) := by decide +kernel
theorem dX11_deed_145 : decode cX11_deed 145 = .ok (.iconst 1, 1) := by decide +kernel
theorem dX11_deed_146 : decode cX11_deed 146 = .ok (.iadd, 1) := by decide +kernel
theorem dX11_deed_147 : decode cX11_deed 147 = .ok (.putfield 138, 3) := by decide +kernel
theorem dX11_deed_150 : decode cX11_deed 150 = .ok (.aload_n 0, 1) := by decide +kernel
theorem dX11_deed_151 : decode cX11_deed 151 = .ok (.getfield 18, 3) := by decide +kernel
theorem dX11_deed_154 : decode cX11_deed 154 = .ok (.invokevirtual 132, 3) := by decide +kernel
theorem dX11_deed_157 : decode cX11_deed 157 = .ok (.iload 5, 2) := by decide +kernel
theorem dX11_deed_159 : decode cX11_deed 159 = .ok (.ireturn, 1) := by decide +kernel
def f11_deed_b31  (a1 : Int32) (a2 : Int32) (a3 : Int32) (a4 : Int32)  (m : lu_M) : Option (Int32 × lu_M) :=
  some ((-1 : Int32), m)
set_option maxRecDepth 20000 in
theorem w11_deed_b31  {G : lu_G} {ρ : Nat → Nat} {a1 : Int32} {a2 : Int32} {a3 : Int32} {a4 : Int32}  (X : lu_X G RX11 cX11_deed 6 4 81) (hret : (lu_me G).sig.returnType = (some .int))   : ∀  (m : lu_M), lu_Ab lu_TC G (lu_Q lu_TC G ρ lu_RVi lu_sn) (f11_deed_b31 a1 a2 a3 a4 m) 31 [] [] ρ 0 0 [] m := by
  intro  m
  unfold f11_deed_b31
  refine lu_iconst X dX11_deed_31 (pc2 := 32) rfl ic_m1 ?_
  exact lu_iret X hret dX11_deed_32
def f11_deed_b53  (a1 : Int32) (a2 : Int32) (a3 : Int32) (a4 : Int32)  (m : lu_M) : Option (Int32 × lu_M) :=
  if (m 1 2) < (10 : Int32) then (if (m 29 0) ≤ a2 then (lu_nm ((m 1 2)) fun x7 =>
  lu_gd (lu_ib x7 10) <|
  lu_nm (lu_st m 9 x7.toNatClampNeg a1) fun m8 =>
  lu_gd (lu_ib x7 10) <|
  lu_nm (lu_st m8 10 x7.toNatClampNeg a2) fun m9 =>
  lu_gd (lu_ib x7 10) <|
  lu_nm (lu_st m9 11 x7.toNatClampNeg a3) fun m10 =>
  lu_gd (lu_ib x7 10) <|
  lu_nm (lu_st m10 12 x7.toNatClampNeg a4) fun m11 =>
  lu_nm (lu_st m11 1 2 (x7 + (1 : Int32))) fun m12 =>
  lu_bv (f10_settle 1 m12) fun m13 =>
  some (x7, m13))
  else (some ((-4 : Int32), m)))
  else (some ((-2 : Int32), m))
set_option maxRecDepth 20000 in
theorem w11_deed_b53  {G : lu_G} {ρ : Nat → Nat} {a1 : Int32} {a2 : Int32} {a3 : Int32} {a4 : Int32}  (X : lu_X G RX11 cX11_deed 6 4 81) (hret : (lu_me G).sig.returnType = (some .int))   : ∀  (m : lu_M), lu_Ab lu_TC G (lu_Q lu_TC G ρ lu_RVi lu_sn) (f11_deed_b53 a1 a2 a3 a4 m) 53 [(0, .ref (ρ 0)), (1, .int a1), (2, .int a2), (3, .int a3), (4, .int a4)] [] ρ 0 0 [] m := by
  intro  m
  unfold f11_deed_b53
  refine lu_aload_n X dX11_deed_53 (pc2 := 54) rfl rfl 0 rfl ?_
  refine lu_getr (r2 := 1) X rfl fl11_18 rfl kC_0 lC_0 dX11_deed_54 (pc2 := 57) rfl ?_
  refine lu_get X fl11_138 rfl kC_1 lC_1 dX11_deed_57 (pc2 := 60) rfl ?_
  refine lu_bipush X dX11_deed_60 (pc2 := 62) rfl bp_10 ?_
  refine lu_icmp_lt (tgt := 68) X dX11_deed_62 (pc2 := 65) rfl (by decide) (fun _ => ?_) (fun _ => ?_)
  · refine lu_iload_n X dX11_deed_68 (pc2 := 69) rfl rfl 2 rfl ?_
    refine lu_aload_n X dX11_deed_69 (pc2 := 70) rfl rfl 0 rfl ?_
    refine lu_getr (r2 := 1) X rfl fl11_18 rfl kC_0 lC_0 dX11_deed_70 (pc2 := 73) rfl ?_
    refine lu_getr (r2 := 29) X rfl fl11_115 rfl kC_1 lC_1 dX11_deed_73 (pc2 := 76) rfl ?_
    refine lu_get X fl11_122 rfl kC_29 lC_29 dX11_deed_76 (pc2 := 79) rfl ?_
    refine lu_icmp_ge (tgt := 85) X dX11_deed_79 (pc2 := 82) rfl (by decide) (fun _ => ?_) (fun _ => ?_)
    · refine lu_aload_n X dX11_deed_85 (pc2 := 86) rfl rfl 0 rfl ?_
      refine lu_getr (r2 := 1) X rfl fl11_18 rfl kC_0 lC_0 dX11_deed_86 (pc2 := 89) rfl ?_
      refine lu_get X fl11_138 rfl kC_1 lC_1 dX11_deed_89 (pc2 := 92) rfl ?_
      refine lu_topi (fun x7 => ?_)
      refine lu_istore (lv2 := [(5, .int x7), (0, .ref (ρ 0)), (1, .int a1), (2, .int a2), (3, .int a3), (4, .int a4)]) X dX11_deed_92 (pc2 := 94) rfl (by decide) rfl ?_
      refine lu_aload_n X dX11_deed_94 (pc2 := 95) rfl rfl 1 rfl ?_
      refine lu_getr (r2 := 1) X rfl fl11_18 rfl kC_0 lC_0 dX11_deed_95 (pc2 := 98) rfl ?_
      refine lu_getr (r2 := 9) X rfl fl11_141 rfl kC_1 lC_1 dX11_deed_98 (pc2 := 101) rfl ?_
      refine lu_iload X dX11_deed_101 (pc2 := 103) rfl 0 rfl ?_
      refine lu_iload_n X dX11_deed_103 (pc2 := 104) rfl rfl 2 rfl ?_
      refine lu_iast X kC_9 lC_9 dX11_deed_104 (pc2 := 105) rfl (fun m8 => ?_)
      refine lu_aload_n X dX11_deed_105 (pc2 := 106) rfl rfl 1 rfl ?_
      refine lu_getr (r2 := 1) X rfl fl11_18 rfl kC_0 lC_0 dX11_deed_106 (pc2 := 109) rfl ?_
      refine lu_getr (r2 := 10) X rfl fl11_144 rfl kC_1 lC_1 dX11_deed_109 (pc2 := 112) rfl ?_
      refine lu_iload X dX11_deed_112 (pc2 := 114) rfl 0 rfl ?_
      refine lu_iload_n X dX11_deed_114 (pc2 := 115) rfl rfl 3 rfl ?_
      refine lu_iast X kC_10 lC_10 dX11_deed_115 (pc2 := 116) rfl (fun m9 => ?_)
      refine lu_aload_n X dX11_deed_116 (pc2 := 117) rfl rfl 1 rfl ?_
      refine lu_getr (r2 := 1) X rfl fl11_18 rfl kC_0 lC_0 dX11_deed_117 (pc2 := 120) rfl ?_
      refine lu_getr (r2 := 11) X rfl fl11_147 rfl kC_1 lC_1 dX11_deed_120 (pc2 := 123) rfl ?_
      refine lu_iload X dX11_deed_123 (pc2 := 125) rfl 0 rfl ?_
      refine lu_iload_n X dX11_deed_125 (pc2 := 126) rfl rfl 4 rfl ?_
      refine lu_iast X kC_11 lC_11 dX11_deed_126 (pc2 := 127) rfl (fun m10 => ?_)
      refine lu_aload_n X dX11_deed_127 (pc2 := 128) rfl rfl 1 rfl ?_
      refine lu_getr (r2 := 1) X rfl fl11_18 rfl kC_0 lC_0 dX11_deed_128 (pc2 := 131) rfl ?_
      refine lu_getr (r2 := 12) X rfl fl11_150 rfl kC_1 lC_1 dX11_deed_131 (pc2 := 134) rfl ?_
      refine lu_iload X dX11_deed_134 (pc2 := 136) rfl 0 rfl ?_
      refine lu_iload X dX11_deed_136 (pc2 := 138) rfl 5 rfl ?_
      refine lu_iast X kC_12 lC_12 dX11_deed_138 (pc2 := 139) rfl (fun m11 => ?_)
      refine lu_aload_n X dX11_deed_139 (pc2 := 140) rfl rfl 1 rfl ?_
      refine lu_getr (r2 := 1) X rfl fl11_18 rfl kC_0 lC_0 dX11_deed_140 (pc2 := 143) rfl ?_
      refine lu_iload X dX11_deed_143 (pc2 := 145) rfl 0 rfl ?_
      refine lu_iconst X dX11_deed_145 (pc2 := 146) rfl ic_1 ?_
      refine lu_iadd X dX11_deed_146 (pc2 := 147) rfl ?_
      refine lu_put X fl11_138 rfl (Or.inl (by decide)) rfl (by decide +kernel) kC_1 lC_1 dX11_deed_147 (pc2 := 150) rfl (fun m12 => ?_)
      refine lu_aload_n X dX11_deed_150 (pc2 := 151) rfl rfl 1 rfl ?_
      refine lu_getr (r2 := 1) X rfl fl11_18 rfl kC_0 lC_0 dX11_deed_151 (pc2 := 154) rfl ?_
      refine lu_invVv X (c10_settle _ kC_1 lC_1) rfl q499 mvV_10_settle kC_1 lC_1 (by decide) ⟨_, rfl, rfl⟩ rfl rfl (Nat.le_of_ble_eq_true rfl) (Nat.le_of_ble_eq_true rfl) (Nat.le_of_ble_eq_true rfl) ⟨Nat.zero_le _, Nat.zero_le _⟩ dX11_deed_154 (pc2 := 157) rfl rfl (fun m13 => ?_)
      refine lu_iload X dX11_deed_157 (pc2 := 159) rfl 0 rfl ?_
      exact lu_iret X hret dX11_deed_159
    · refine lu_bipush X dX11_deed_82 (pc2 := 84) rfl bp_m4 ?_
      exact lu_iret X hret dX11_deed_84
  · refine lu_bipush X dX11_deed_65 (pc2 := 67) rfl bp_m2 ?_
    exact lu_iret X hret dX11_deed_67
def f11_deed (a1 : Int32) (a2 : Int32) (a3 : Int32) (a4 : Int32) (m : lu_M) : Option (Int32 × lu_M) :=
  lu_bi (f10_isPerson 1 a1 m) fun x1 m2 =>
  if x1 = 0 then (f11_deed_b31 a1 a2 a3 a4 m2)
  else (lu_bi (f11_isWithin a2 (0 : Int32) (15 : Int32) m2) fun x3 m4 =>
  if x3 = 0 then (f11_deed_b31 a1 a2 a3 a4 m4)
  else (lu_bi (f11_isWithin a3 (1 : Int32) (9 : Int32) m4) fun x5 m6 =>
  if x5 = 0 then (f11_deed_b31 a1 a2 a3 a4 m6)
  else (if a4 = (-1 : Int32) then (f11_deed_b53 a1 a2 a3 a4 m6)
  else (lu_bi (f10_isDeed 1 a4 m6) fun x14 m15 =>
  if x14 = 0 then (some ((-1 : Int32), m15))
  else (f11_deed_b53 a1 a2 a3 a4 m15)))))
set_option maxRecDepth 20000 in
theorem c11_deed (l : Launch)   (a1 : Int32) (a2 : Int32) (a3 : Int32) (a4 : Int32) : lu_C lu_TC l yX11_deed cX11_deed 6 (some .int) 4 81 (fun ρ sa => [.ref (ρ 0), .int a1, .int a2, .int a3, .int a4]) (f11_deed a1 a2 a3 a4) lu_RVi lu_sn := by
  refine lu_met (cls := RX11) rfl (by decide +kernel) (fun _ _ => Nat.le_of_ble_eq_true rfl) ?_
  intro G ρ m hl X hret
  subst hl
  change lu_Ab lu_TC G (lu_Q lu_TC G ρ lu_RVi lu_sn) (f11_deed a1 a2 a3 a4 m) 0 [(0, .ref (ρ 0)), (1, .int a1), (2, .int a2), (3, .int a3), (4, .int a4)] [] ρ 0 0 [] m
  unfold f11_deed
  refine lu_aload_n X dX11_deed_0 (pc2 := 1) rfl rfl 0 rfl ?_
  refine lu_getr (r2 := 1) X rfl fl11_18 rfl kC_0 lC_0 dX11_deed_1 (pc2 := 4) rfl ?_
  refine lu_iload_n X dX11_deed_4 (pc2 := 5) rfl rfl 1 rfl ?_
  refine lu_invVi X (c10_isPerson _ kC_1 lC_1 a1) rfl q440 mvV_10_isPerson kC_1 lC_1 (by decide) ⟨_, rfl, rfl⟩ rfl rfl (Nat.le_of_ble_eq_true rfl) (Nat.le_of_ble_eq_true rfl) (Nat.le_of_ble_eq_true rfl) ⟨Nat.zero_le _, Nat.zero_le _⟩ dX11_deed_5 (pc2 := 8) rfl rfl (fun x1 m2 => ?_)
  refine lu_if_eq (tgt := 31) X dX11_deed_8 (pc2 := 11) rfl (by decide) (fun _ => ?_) (fun _ => ?_)
  · exact lu_sub [] rfl (w11_deed_b31 X hret m2)
  · refine lu_iload_n X dX11_deed_11 (pc2 := 12) rfl rfl 2 rfl ?_
    refine lu_iconst X dX11_deed_12 (pc2 := 13) rfl ic_0 ?_
    refine lu_bipush X dX11_deed_13 (pc2 := 15) rfl bp_15 ?_
    refine lu_invSi X (c11_isWithin _ a2 (0 : Int32) (15 : Int32)) rfl q433 mvS_11_isWithin rfl rfl (Nat.le_of_ble_eq_true rfl) (Nat.le_of_ble_eq_true rfl) (Nat.le_of_ble_eq_true rfl) ⟨Nat.zero_le _, Nat.zero_le _⟩ dX11_deed_15 (pc2 := 18) rfl rfl (fun x3 m4 => ?_)
    refine lu_if_eq (tgt := 31) X dX11_deed_18 (pc2 := 21) rfl (by decide) (fun _ => ?_) (fun _ => ?_)
    · exact lu_sub [] rfl (w11_deed_b31 X hret m4)
    · refine lu_iload_n X dX11_deed_21 (pc2 := 22) rfl rfl 3 rfl ?_
      refine lu_iconst X dX11_deed_22 (pc2 := 23) rfl ic_1 ?_
      refine lu_bipush X dX11_deed_23 (pc2 := 25) rfl bp_9 ?_
      refine lu_invSi X (c11_isWithin _ a3 (1 : Int32) (9 : Int32)) rfl q433 mvS_11_isWithin rfl rfl (Nat.le_of_ble_eq_true rfl) (Nat.le_of_ble_eq_true rfl) (Nat.le_of_ble_eq_true rfl) ⟨Nat.zero_le _, Nat.zero_le _⟩ dX11_deed_25 (pc2 := 28) rfl rfl (fun x5 m6 => ?_)
      refine lu_if_ne (tgt := 33) X dX11_deed_28 (pc2 := 31) rfl (by decide) (fun _ => ?_) (fun _ => ?_)
      · refine lu_iload X dX11_deed_33 (pc2 := 35) rfl 4 rfl ?_
        refine lu_iconst X dX11_deed_35 (pc2 := 36) rfl ic_m1 ?_
        refine lu_icmp_eq (tgt := 53) X dX11_deed_36 (pc2 := 39) rfl (by decide) (fun _ => ?_) (fun _ => ?_)
        · exact w11_deed_b53 X hret m6
        · refine lu_aload_n X dX11_deed_39 (pc2 := 40) rfl rfl 0 rfl ?_
          refine lu_getr (r2 := 1) X rfl fl11_18 rfl kC_0 lC_0 dX11_deed_40 (pc2 := 43) rfl ?_
          refine lu_iload X dX11_deed_43 (pc2 := 45) rfl 4 rfl ?_
          refine lu_invVi X (c10_isDeed _ kC_1 lC_1 a4) rfl q533 mvV_10_isDeed kC_1 lC_1 (by decide) ⟨_, rfl, rfl⟩ rfl rfl (Nat.le_of_ble_eq_true rfl) (Nat.le_of_ble_eq_true rfl) (Nat.le_of_ble_eq_true rfl) ⟨Nat.zero_le _, Nat.zero_le _⟩ dX11_deed_45 (pc2 := 48) rfl rfl (fun x14 m15 => ?_)
          refine lu_if_ne (tgt := 53) X dX11_deed_48 (pc2 := 51) rfl (by decide) (fun _ => ?_) (fun _ => ?_)
          · exact w11_deed_b53 X hret m15
          · refine lu_iconst X dX11_deed_51 (pc2 := 52) rfl ic_m1 ?_
            exact lu_iret X hret dX11_deed_52
      · exact lu_sub [] rfl (w11_deed_b31 X hret m6)

theorem dX11_deedOf_0 : decode cX11_deedOf 0 = .ok (.aload_n 0, 1) := by decide +kernel
theorem dX11_deedOf_1 : decode cX11_deedOf 1 = .ok (.getfield 18, 3) := by decide +kernel
theorem dX11_deedOf_4 : decode cX11_deedOf 4 = .ok (.iload_n 1, 1) := by decide +kernel
theorem dX11_deedOf_5 : decode cX11_deedOf 5 = .ok (.invokevirtual 135, 3) := by decide +kernel
theorem dX11_deedOf_8 : decode cX11_deedOf 8 = .ok (.ifCond .ne 5, 3) := by decide +kernel
theorem dX11_deedOf_11 : decode cX11_deedOf 11 = .ok (.iconst (-1), 1) := by decide +kernel
theorem dX11_deedOf_12 : decode cX11_deedOf 12 = .ok (.ireturn, 1) := by decide +kernel
theorem dX11_deedOf_13 : decode cX11_deedOf 13 = .ok (.iload_n 2, 1) := by decide +kernel
theorem dX11_deedOf_14 : decode cX11_deedOf 14 = .ok (.tableswitch 100 0 5 #[38, 48, 58, 68, 78, 90], 38) := by decide +kernel
theorem dX11_deedOf_52 : decode cX11_deedOf 52 = .ok (.aload_n 0, 1) := by decide +kernel
theorem dX11_deedOf_53 : decode cX11_deedOf 53 = .ok (.getfield 18, 3) := by decide +kernel
theorem dX11_deedOf_56 : decode cX11_deedOf 56 = .ok (.getfield 141, 3) := by decide +kernel
theorem dX11_deedOf_59 : decode cX11_deedOf 59 = .ok (.iload_n 1, 1) := by decide +kernel
theorem dX11_deedOf_60 : decode cX11_deedOf 60 = .ok (.iaload, 1) := by decide +kernel
theorem dX11_deedOf_61 : decode cX11_deedOf 61 = .ok (.ireturn, 1) := by decide +kernel
theorem dX11_deedOf_62 : decode cX11_deedOf 62 = .ok (.aload_n 0, 1) := by decide +kernel
theorem dX11_deedOf_63 : decode cX11_deedOf 63 = .ok (.getfield 18, 3) := by decide +kernel
theorem dX11_deedOf_66 : decode cX11_deedOf 66 = .ok (.getfield 144, 3) := by decide +kernel
theorem dX11_deedOf_69 : decode cX11_deedOf 69 = .ok (.iload_n 1, 1) := by decide +kernel
theorem dX11_deedOf_70 : decode cX11_deedOf 70 = .ok (.iaload, 1) := by decide +kernel
theorem dX11_deedOf_71 : decode cX11_deedOf 71 = .ok (.ireturn, 1) := by decide +kernel
theorem dX11_deedOf_72 : decode cX11_deedOf 72 = .ok (.aload_n 0, 1) := by decide +kernel
theorem dX11_deedOf_73 : decode cX11_deedOf 73 = .ok (.getfield 18, 3) := by decide +kernel
theorem dX11_deedOf_76 : decode cX11_deedOf 76 = .ok (.getfield 147, 3) := by decide +kernel
theorem dX11_deedOf_79 : decode cX11_deedOf 79 = .ok (.iload_n 1, 1) := by decide +kernel
theorem dX11_deedOf_80 : decode cX11_deedOf 80 = .ok (.iaload, 1) := by decide +kernel
theorem dX11_deedOf_81 : decode cX11_deedOf 81 = .ok (.ireturn, 1) := by decide +kernel
theorem dX11_deedOf_82 : decode cX11_deedOf 82 = .ok (.aload_n 0, 1) := by decide +kernel
theorem dX11_deedOf_83 : decode cX11_deedOf 83 = .ok (.getfield 18, 3) := by decide +kernel
theorem dX11_deedOf_86 : decode cX11_deedOf 86 = .ok (.getfield 150, 3) := by decide +kernel
theorem dX11_deedOf_89 : decode cX11_deedOf 89 = .ok (.iload_n 1, 1) := by decide +kernel
theorem dX11_deedOf_90 : decode cX11_deedOf 90 = .ok (.iaload, 1) := by decide +kernel
theorem dX11_deedOf_91 : decode cX11_deedOf 91 = .ok (.ireturn, 1) := by decide +kernel
theorem dX11_deedOf_92 : decode cX11_deedOf 92 = .ok (.aload_n 0, 1) := by decide +kernel
theorem dX11_deedOf_93 : decode cX11_deedOf 93 = .ok (.getfield 18, 3) := by decide +kernel
theorem dX11_deedOf_96 : decode cX11_deedOf 96 = .ok (.getfield 115, 3) := by decide +kernel
theorem dX11_deedOf_99 : decode cX11_deedOf 99 = .ok (.iload_n 1, 1) := by decide +kernel
theorem dX11_deedOf_100 : decode cX11_deedOf 100 = .ok (.invokevirtual 153, 3) := by decide +kernel
theorem dX11_deedOf_103 : decode cX11_deedOf 103 = .ok (.ireturn, 1) := by decide +kernel
theorem dX11_deedOf_104 : decode cX11_deedOf 104 = .ok (.aload_n 0, 1) := by decide +kernel
theorem dX11_deedOf_105 : decode cX11_deedOf 105 = .ok (.getfield 18, 3) := by decide +kernel
theorem dX11_deedOf_108 : decode cX11_deedOf 108 = .ok (.getfield 156, 3) := by decide +kernel
theorem dX11_deedOf_111 : decode cX11_deedOf 111 = .ok (.iload_n 1, 1) := by decide +kernel
theorem dX11_deedOf_112 : decode cX11_deedOf 112 = .ok (.iaload, 1) := by decide +kernel
theorem dX11_deedOf_113 : decode cX11_deedOf 113 = .ok (.ireturn, 1) := by decide +kernel
theorem dX11_deedOf_114 : decode cX11_deedOf 114 = .ok (.iconst (-1), 1) := by decide +kernel
theorem dX11_deedOf_115 : decode cX11_deedOf 115 = .ok (.ireturn, 1) := by decide +kernel
def f11_deedOf (a1 : Int32) (a2 : Int32) (m : lu_M) : Option (Int32 × lu_M) :=
  lu_bi (f10_isDeed 1 a1 m) fun x1 m2 =>
  if x1 = 0 then (some ((-1 : Int32), m2))
  else (if a2 = (0 : Int32) then (lu_gd (lu_ib a1 10) <|
  some ((m2 9 a1.toNatClampNeg), m2))
  else (if a2 = (1 : Int32) then (lu_gd (lu_ib a1 10) <|
  some ((m2 10 a1.toNatClampNeg), m2))
  else (if a2 = (2 : Int32) then (lu_gd (lu_ib a1 10) <|
  some ((m2 11 a1.toNatClampNeg), m2))
  else (if a2 = (3 : Int32) then (lu_gd (lu_ib a1 10) <|
  some ((m2 12 a1.toNatClampNeg), m2))
  else (if a2 = (4 : Int32) then (lu_bi (f1_how 29 a1 m2) fun x3 m4 =>
  some (x3, m4))
  else (if a2 = (5 : Int32) then (lu_gd (lu_ib a1 10) <|
  some ((m2 13 a1.toNatClampNeg), m2))
  else (some ((-1 : Int32), m2))))))))
set_option maxRecDepth 20000 in
theorem c11_deedOf (l : Launch)   (a1 : Int32) (a2 : Int32) : lu_C lu_TC l yX11_deedOf cX11_deedOf 3 (some .int) 2 43 (fun ρ sa => [.ref (ρ 0), .int a1, .int a2]) (f11_deedOf a1 a2) lu_RVi lu_sn := by
  refine lu_met (cls := RX11) rfl (by decide +kernel) (fun _ _ => Nat.le_of_ble_eq_true rfl) ?_
  intro G ρ m hl X hret
  subst hl
  change lu_Ab lu_TC G (lu_Q lu_TC G ρ lu_RVi lu_sn) (f11_deedOf a1 a2 m) 0 [(0, .ref (ρ 0)), (1, .int a1), (2, .int a2)] [] ρ 0 0 [] m
  unfold f11_deedOf
  refine lu_aload_n X dX11_deedOf_0 (pc2 := 1) rfl rfl 0 rfl ?_
  refine lu_getr (r2 := 1) X rfl fl11_18 rfl kC_0 lC_0 dX11_deedOf_1 (pc2 := 4) rfl ?_
  refine lu_iload_n X dX11_deedOf_4 (pc2 := 5) rfl rfl 1 rfl ?_
  refine lu_invVi X (c10_isDeed _ kC_1 lC_1 a1) rfl q533 mvV_10_isDeed kC_1 lC_1 (by decide) ⟨_, rfl, rfl⟩ rfl rfl (Nat.le_of_ble_eq_true rfl) (Nat.le_of_ble_eq_true rfl) (Nat.le_of_ble_eq_true rfl) ⟨Nat.zero_le _, Nat.zero_le _⟩ dX11_deedOf_5 (pc2 := 8) rfl rfl (fun x1 m2 => ?_)
  refine lu_if_ne (tgt := 13) X dX11_deedOf_8 (pc2 := 11) rfl (by decide) (fun _ => ?_) (fun _ => ?_)
  · refine lu_iload_n X dX11_deedOf_13 (pc2 := 14) rfl rfl 2 rfl ?_
    refine lu_ite (fun c0 => ?_) (fun c0 => ?_)
    · refine lu_tsIn X c0 dX11_deedOf_14 (tgt := 52) (by decide) (by decide) rfl (by decide) ?_
      refine lu_aload_n X dX11_deedOf_52 (pc2 := 53) rfl rfl 0 rfl ?_
      refine lu_getr (r2 := 1) X rfl fl11_18 rfl kC_0 lC_0 dX11_deedOf_53 (pc2 := 56) rfl ?_
      refine lu_getr (r2 := 9) X rfl fl11_141 rfl kC_1 lC_1 dX11_deedOf_56 (pc2 := 59) rfl ?_
      refine lu_iload_n X dX11_deedOf_59 (pc2 := 60) rfl rfl 1 rfl ?_
      refine lu_iald X kC_9 lC_9 dX11_deedOf_60 (pc2 := 61) rfl ?_
      exact lu_iret X hret dX11_deedOf_61
    · refine lu_ite (fun c1 => ?_) (fun c1 => ?_)
      · refine lu_tsIn X c1 dX11_deedOf_14 (tgt := 62) (by decide) (by decide) rfl (by decide) ?_
        refine lu_aload_n X dX11_deedOf_62 (pc2 := 63) rfl rfl 0 rfl ?_
        refine lu_getr (r2 := 1) X rfl fl11_18 rfl kC_0 lC_0 dX11_deedOf_63 (pc2 := 66) rfl ?_
        refine lu_getr (r2 := 10) X rfl fl11_144 rfl kC_1 lC_1 dX11_deedOf_66 (pc2 := 69) rfl ?_
        refine lu_iload_n X dX11_deedOf_69 (pc2 := 70) rfl rfl 1 rfl ?_
        refine lu_iald X kC_10 lC_10 dX11_deedOf_70 (pc2 := 71) rfl ?_
        exact lu_iret X hret dX11_deedOf_71
      · refine lu_ite (fun c2 => ?_) (fun c2 => ?_)
        · refine lu_tsIn X c2 dX11_deedOf_14 (tgt := 72) (by decide) (by decide) rfl (by decide) ?_
          refine lu_aload_n X dX11_deedOf_72 (pc2 := 73) rfl rfl 0 rfl ?_
          refine lu_getr (r2 := 1) X rfl fl11_18 rfl kC_0 lC_0 dX11_deedOf_73 (pc2 := 76) rfl ?_
          refine lu_getr (r2 := 11) X rfl fl11_147 rfl kC_1 lC_1 dX11_deedOf_76 (pc2 := 79) rfl ?_
          refine lu_iload_n X dX11_deedOf_79 (pc2 := 80) rfl rfl 1 rfl ?_
          refine lu_iald X kC_11 lC_11 dX11_deedOf_80 (pc2 := 81) rfl ?_
          exact lu_iret X hret dX11_deedOf_81
        · refine lu_ite (fun c3 => ?_) (fun c3 => ?_)
          · refine lu_tsIn X c3 dX11_deedOf_14 (tgt := 82) (by decide) (by decide) rfl (by decide) ?_
            refine lu_aload_n X dX11_deedOf_82 (pc2 := 83) rfl rfl 0 rfl ?_
            refine lu_getr (r2 := 1) X rfl fl11_18 rfl kC_0 lC_0 dX11_deedOf_83 (pc2 := 86) rfl ?_
            refine lu_getr (r2 := 12) X rfl fl11_150 rfl kC_1 lC_1 dX11_deedOf_86 (pc2 := 89) rfl ?_
            refine lu_iload_n X dX11_deedOf_89 (pc2 := 90) rfl rfl 1 rfl ?_
            refine lu_iald X kC_12 lC_12 dX11_deedOf_90 (pc2 := 91) rfl ?_
            exact lu_iret X hret dX11_deedOf_91
          · refine lu_ite (fun c4 => ?_) (fun c4 => ?_)
            · refine lu_tsIn X c4 dX11_deedOf_14 (tgt := 92) (by decide) (by decide) rfl (by decide) ?_
              refine lu_aload_n X dX11_deedOf_92 (pc2 := 93) rfl rfl 0 rfl ?_
              refine lu_getr (r2 := 1) X rfl fl11_18 rfl kC_0 lC_0 dX11_deedOf_93 (pc2 := 96) rfl ?_
              refine lu_getr (r2 := 29) X rfl fl11_115 rfl kC_1 lC_1 dX11_deedOf_96 (pc2 := 99) rfl ?_
              refine lu_iload_n X dX11_deedOf_99 (pc2 := 100) rfl rfl 1 rfl ?_
              refine lu_invVi X (c1_how _ kC_29 lC_29 a1) rfl q541 mvV_1_how kC_29 lC_29 (by decide) ⟨_, rfl, rfl⟩ rfl rfl (Nat.le_of_ble_eq_true rfl) (Nat.le_of_ble_eq_true rfl) (Nat.le_of_ble_eq_true rfl) ⟨Nat.zero_le _, Nat.zero_le _⟩ dX11_deedOf_100 (pc2 := 103) rfl rfl (fun x3 m4 => ?_)
              exact lu_iret X hret dX11_deedOf_103
            · refine lu_ite (fun c5 => ?_) (fun c5 => ?_)
              · refine lu_tsIn X c5 dX11_deedOf_14 (tgt := 104) (by decide) (by decide) rfl (by decide) ?_
                refine lu_aload_n X dX11_deedOf_104 (pc2 := 105) rfl rfl 0 rfl ?_
                refine lu_getr (r2 := 1) X rfl fl11_18 rfl kC_0 lC_0 dX11_deedOf_105 (pc2 := 108) rfl ?_
                refine lu_getr (r2 := 13) X rfl fl11_156 rfl kC_1 lC_1 dX11_deedOf_108 (pc2 := 111) rfl ?_
                refine lu_iload_n X dX11_deedOf_111 (pc2 := 112) rfl rfl 1 rfl ?_
                refine lu_iald X kC_13 lC_13 dX11_deedOf_112 (pc2 := 113) rfl ?_
                exact lu_iret X hret dX11_deedOf_113
              · refine lu_tsOut (tgt := 114) X dX11_deedOf_14 (by have h0 := lv_neT c0 (a := 0) (by decide); have h1 := lv_neT c1 (a := 1) (by decide); have h2 := lv_neT c2 (a := 2) (by decide); have h3 := lv_neT c3 (a := 3) (by decide); have h4 := lv_neT c4 (a := 4) (by decide); have h5 := lv_neT c5 (a := 5) (by decide); omega) (by decide) ?_
                refine lu_iconst X dX11_deedOf_114 (pc2 := 115) rfl ic_m1 ?_
                exact lu_iret X hret dX11_deedOf_115
  · refine lu_iconst X dX11_deedOf_11 (pc2 := 12) rfl ic_m1 ?_
    exact lu_iret X hret dX11_deedOf_12

theorem dX11_ends_0 : decode cX11_ends 0 = .ok (.iload_n 1, 1) := by decide +kernel
theorem dX11_ends_1 : decode cX11_ends 1 = .ok (.iconst 1, 1) := by decide +kernel
theorem dX11_ends_2 : decode cX11_ends 2 = .ok (.bipush 16, 2) := by decide +kernel
theorem dX11_ends_4 : decode cX11_ends 4 = .ok (.invokestatic 92, 3) := by decide +kernel
theorem dX11_ends_7 : decode cX11_ends 7 = .ok (.ifCond .ne 5, 3) := by decide +kernel
theorem dX11_ends_10 : decode cX11_ends 10 = .ok (.iconst (-1), 1) := by decide +kernel
theorem dX11_ends_11 : decode cX11_ends 11 = .ok (.ireturn, 1) := by decide +kernel
theorem dX11_ends_12 : decode cX11_ends 12 = .ok (.iload_n 1, 1) := by decide +kernel
theorem dX11_ends_13 : decode cX11_ends 13 = .ok (.aload_n 0, 1) := by decide +kernel
theorem dX11_ends_14 : decode cX11_ends 14 = .ok (.getfield 18, 3) := by decide +kernel
theorem dX11_ends_17 : decode cX11_ends 17 = .ok (.getfield 115, 3) := by decide +kernel
theorem dX11_ends_20 : decode cX11_ends 20 = .ok (.getfield 122, 3) := by decide +kernel
theorem dX11_ends_23 : decode cX11_ends 23 = .ok (.if_icmp .ge 6, 3) := by decide +kernel
theorem dX11_ends_26 : decode cX11_ends 26 = .ok (.bipush (-4), 2) := by decide +kernel
theorem dX11_ends_28 : decode cX11_ends 28 = .ok (.ireturn, 1) := by decide +kernel
theorem dX11_ends_29 : decode cX11_ends 29 = .ok (.aload_n 0, 1) := by decide +kernel
theorem dX11_ends_30 : decode cX11_ends 30 = .ok (.getfield 18, 3) := by decide +kernel
theorem dX11_ends_33 : decode cX11_ends 33 = .ok (.getfield 159, 3) := by decide +kernel
theorem dX11_ends_36 : decode cX11_ends 36 = .ok (.istore_n 2, 1) := by decide +kernel
theorem dX11_ends_37 : decode cX11_ends 37 = .ok (.aload_n 0, 1) := by decide +kernel
theorem dX11_ends_38 : decode cX11_ends 38 = .ok (.getfield 18, 3) := by decide +kernel
theorem dX11_ends_41 : decode cX11_ends 41 = .ok (.iload_n 1, 1) := by decide +kernel
theorem dX11_ends_42 : decode cX11_ends 42 = .ok (.putfield 159, 3) := by decide +kernel
theorem dX11_ends_45 : decode cX11_ends 45 = .ok (.iload_n 2, 1) := by decide +kernel
theorem dX11_ends_46 : decode cX11_ends 46 = .ok (.ireturn, 1) := by decide +kernel
def f11_ends (a1 : Int32) (m : lu_M) : Option (Int32 × lu_M) :=
  lu_bi (f11_isWithin a1 (1 : Int32) (16 : Int32) m) fun x1 m2 =>
  if x1 = 0 then (some ((-1 : Int32), m2))
  else (if (m2 29 0) ≤ a1 then (lu_nm ((m2 1 9)) fun x3 =>
  lu_nm (lu_st m2 1 9 a1) fun m4 =>
  some (x3, m4))
  else (some ((-4 : Int32), m2)))
set_option maxRecDepth 20000 in
theorem c11_ends (l : Launch)   (a1 : Int32) : lu_C lu_TC l yX11_ends cX11_ends 3 (some .int) 1 22 (fun ρ sa => [.ref (ρ 0), .int a1]) (f11_ends a1) lu_RVi lu_sn := by
  refine lu_met (cls := RX11) rfl (by decide +kernel) (fun _ _ => Nat.le_of_ble_eq_true rfl) ?_
  intro G ρ m hl X hret
  subst hl
  change lu_Ab lu_TC G (lu_Q lu_TC G ρ lu_RVi lu_sn) (f11_ends a1 m) 0 [(0, .ref (ρ 0)), (1, .int a1)] [] ρ 0 0 [] m
  unfold f11_ends
  refine lu_iload_n X dX11_ends_0 (pc2 := 1) rfl rfl 1 rfl ?_
  refine lu_iconst X dX11_ends_1 (pc2 := 2) rfl ic_1 ?_
  refine lu_bipush X dX11_ends_2 (pc2 := 4) rfl bp_16 ?_
  refine lu_invSi X (c11_isWithin _ a1 (1 : Int32) (16 : Int32)) rfl q433 mvS_11_isWithin rfl rfl (Nat.le_of_ble_eq_true rfl) (Nat.le_of_ble_eq_true rfl) (Nat.le_of_ble_eq_true rfl) ⟨Nat.zero_le _, Nat.zero_le _⟩ dX11_ends_4 (pc2 := 7) rfl rfl (fun x1 m2 => ?_)
  refine lu_if_ne (tgt := 12) X dX11_ends_7 (pc2 := 10) rfl (by decide) (fun _ => ?_) (fun _ => ?_)
  · refine lu_iload_n X dX11_ends_12 (pc2 := 13) rfl rfl 1 rfl ?_
    refine lu_aload_n X dX11_ends_13 (pc2 := 14) rfl rfl 0 rfl ?_
    refine lu_getr (r2 := 1) X rfl fl11_18 rfl kC_0 lC_0 dX11_ends_14 (pc2 := 17) rfl ?_
    refine lu_getr (r2 := 29) X rfl fl11_115 rfl kC_1 lC_1 dX11_ends_17 (pc2 := 20) rfl ?_
    refine lu_get X fl11_122 rfl kC_29 lC_29 dX11_ends_20 (pc2 := 23) rfl ?_
    refine lu_icmp_ge (tgt := 29) X dX11_ends_23 (pc2 := 26) rfl (by decide) (fun _ => ?_) (fun _ => ?_)
    · refine lu_aload_n X dX11_ends_29 (pc2 := 30) rfl rfl 0 rfl ?_
      refine lu_getr (r2 := 1) X rfl fl11_18 rfl kC_0 lC_0 dX11_ends_30 (pc2 := 33) rfl ?_
      refine lu_get X fl11_159 rfl kC_1 lC_1 dX11_ends_33 (pc2 := 36) rfl ?_
      refine lu_topi (fun x3 => ?_)
      refine lu_istore_n (lv2 := [(2, .int x3), (0, .ref (ρ 0)), (1, .int a1)]) X dX11_ends_36 (pc2 := 37) rfl rfl (by decide) rfl ?_
      refine lu_aload_n X dX11_ends_37 (pc2 := 38) rfl rfl 1 rfl ?_
      refine lu_getr (r2 := 1) X rfl fl11_18 rfl kC_0 lC_0 dX11_ends_38 (pc2 := 41) rfl ?_
      refine lu_iload_n X dX11_ends_41 (pc2 := 42) rfl rfl 2 rfl ?_
      refine lu_put X fl11_159 rfl (Or.inl (by decide)) rfl (by decide +kernel) kC_1 lC_1 dX11_ends_42 (pc2 := 45) rfl (fun m4 => ?_)
      refine lu_iload_n X dX11_ends_45 (pc2 := 46) rfl rfl 0 rfl ?_
      exact lu_iret X hret dX11_ends_46
    · refine lu_bipush X dX11_ends_26 (pc2 := 28) rfl bp_m4 ?_
      exact lu_iret X hret dX11_ends_28
  · refine lu_iconst X dX11_ends_10 (pc2 := 11) rfl ic_m1 ?_
    exact lu_iret X hret dX11_ends_11

theorem dX11_anew_0 : decode cX11_anew 0 = .ok (.aload_n 0, 1) := by decide +kernel
theorem dX11_anew_1 : decode cX11_anew 1 = .ok (.getfield 18, 3) := by decide +kernel
theorem dX11_anew_4 : decode cX11_anew 4 = .ok (.getfield 115, 3) := by decide +kernel
theorem dX11_anew_7 : decode cX11_anew 7 = .ok (.getfield 122, 3) := by decide +kernel
theorem dX11_anew_10 : decode cX11_anew 10 = .ok (.istore_n 1, 1) := by decide +kernel
theorem dX11_anew_11 : decode cX11_anew 11 = .ok (.aload_n 0, 1) := by decide +kernel
theorem dX11_anew_12 : decode cX11_anew 12 = .ok (.getfield 18, 3) := by decide +kernel
theorem dX11_anew_15 : decode cX11_anew 15 = .ok (.getfield 115, 3) := by decide +kernel
theorem dX11_anew_18 : decode cX11_anew 18 = .ok (.invokevirtual 162, 3) := by decide +kernel
theorem dX11_anew_21 : decode cX11_anew 21 = .ok (.iload_n 1, 1) := by decide +kernel
theorem dX11_anew_22 : decode cX11_anew 22 = .ok (.ireturn, 1) := by decide +kernel
def f11_anew  (m : lu_M) : Option (Int32 × lu_M) :=
  lu_nm ((m 29 0)) fun x1 =>
  lu_bv (f1_clear 29 m) fun m2 =>
  some (x1, m2)
set_option maxRecDepth 20000 in
theorem c11_anew (l : Launch)    : lu_C lu_TC l yX11_anew cX11_anew 2 (some .int) 1 20 (fun ρ sa => [.ref (ρ 0)]) (f11_anew ) lu_RVi lu_sn := by
  refine lu_met (cls := RX11) rfl (by decide +kernel) (fun _ _ => Nat.le_of_ble_eq_true rfl) ?_
  intro G ρ m hl X hret
  subst hl
  change lu_Ab lu_TC G (lu_Q lu_TC G ρ lu_RVi lu_sn) (f11_anew  m) 0 [(0, .ref (ρ 0))] [] ρ 0 0 [] m
  unfold f11_anew
  refine lu_aload_n X dX11_anew_0 (pc2 := 1) rfl rfl 0 rfl ?_
  refine lu_getr (r2 := 1) X rfl fl11_18 rfl kC_0 lC_0 dX11_anew_1 (pc2 := 4) rfl ?_
  refine lu_getr (r2 := 29) X rfl fl11_115 rfl kC_1 lC_1 dX11_anew_4 (pc2 := 7) rfl ?_
  refine lu_get X fl11_122 rfl kC_29 lC_29 dX11_anew_7 (pc2 := 10) rfl ?_
  refine lu_topi (fun x1 => ?_)
  refine lu_istore_n (lv2 := [(1, .int x1), (0, .ref (ρ 0))]) X dX11_anew_10 (pc2 := 11) rfl rfl (by decide) rfl ?_
  refine lu_aload_n X dX11_anew_11 (pc2 := 12) rfl rfl 1 rfl ?_
  refine lu_getr (r2 := 1) X rfl fl11_18 rfl kC_0 lC_0 dX11_anew_12 (pc2 := 15) rfl ?_
  refine lu_getr (r2 := 29) X rfl fl11_115 rfl kC_1 lC_1 dX11_anew_15 (pc2 := 18) rfl ?_
  refine lu_invVv X (c1_clear _ kC_29 lC_29) rfl q557 mvV_1_clear kC_29 lC_29 (by decide) ⟨_, rfl, rfl⟩ rfl rfl (Nat.le_of_ble_eq_true rfl) (Nat.le_of_ble_eq_true rfl) (Nat.le_of_ble_eq_true rfl) ⟨Nat.zero_le _, Nat.zero_le _⟩ dX11_anew_18 (pc2 := 21) rfl rfl (fun m2 => ?_)
  refine lu_iload_n X dX11_anew_21 (pc2 := 22) rfl rfl 0 rfl ?_
  exact lu_iret X hret dX11_anew_22

theorem dX11_state_0 : decode cX11_state 0 = .ok (.iload_n 1, 1) := by decide +kernel
theorem dX11_state_1 : decode cX11_state 1 = .ok (.tableswitch 84 0 3 #[31, 42, 50, 61], 31) := by decide +kernel
theorem dX11_state_32 : decode cX11_state 32 = .ok (.aload_n 0, 1) := by decide +kernel
theorem dX11_state_33 : decode cX11_state 33 = .ok (.getfield 18, 3) := by decide +kernel
theorem dX11_state_36 : decode cX11_state 36 = .ok (.getfield 115, 3) := by decide +kernel
theorem dX11_state_39 : decode cX11_state 39 = .ok (.getfield 122, 3) := by decide +kernel
theorem dX11_state_42 : decode cX11_state 42 = .ok (.ireturn, 1) := by decide +kernel
theorem dX11_state_43 : decode cX11_state 43 = .ok (.aload_n 0, 1) := by decide +kernel
theorem dX11_state_44 : decode cX11_state 44 = .ok (.getfield 18, 3) := by decide +kernel
theorem dX11_state_47 : decode cX11_state 47 = .ok (.getfield 159, 3) := by decide +kernel
theorem dX11_state_50 : decode cX11_state 50 = .ok (.ireturn, 1) := by decide +kernel
theorem dX11_state_51 : decode cX11_state 51 = .ok (.aload_n 0, 1) := by decide +kernel
theorem dX11_state_52 : decode cX11_state 52 = .ok (.getfield 18, 3) := by decide +kernel
theorem dX11_state_55 : decode cX11_state 55 = .ok (.getfield 115, 3) := by decide +kernel
theorem dX11_state_58 : decode cX11_state 58 = .ok (.getfield 165, 3) := by decide +kernel
theorem dX11_state_61 : decode cX11_state 61 = .ok (.ireturn, 1) := by decide +kernel
theorem dX11_state_62 : decode cX11_state 62 = .ok (.aload_n 0, 1) := by decide +kernel
theorem dX11_state_63 : decode cX11_state 63 = .ok (.getfield 18, 3) := by decide +kernel
theorem dX11_state_66 : decode cX11_state 66 = .ok (.aload_n 0, 1) := by decide +kernel
theorem dX11_state_67 : decode cX11_state 67 = .ok (.getfield 18, 3) := by decide +kernel
theorem dX11_state_70 : decode cX11_state 70 = .ok (.getfield 115, 3) := by decide +kernel
theorem dX11_state_73 : decode cX11_state 73 = .ok (.invokevirtual 168, 3) := by decide +kernel
theorem dX11_state_76 : decode cX11_state 76 = .ok (.ifCond .eq 7, 3) := by decide +kernel
theorem dX11_state_79 : decode cX11_state 79 = .ok (.iconst 1, 1) := by decide +kernel
theorem dX11_state_80 : decode cX11_state 80 = .ok (.goto 4, 3) := by decide +kernel
theorem dX11_state_83 : decode cX11_state 83 = .ok (.iconst 0, 1) := by decide +kernel
theorem dX11_state_84 : decode cX11_state 84 = .ok (.ireturn, 1) := by decide +kernel
theorem dX11_state_85 : decode cX11_state 85 = .ok (.iconst (-1), 1) := by decide +kernel
theorem dX11_state_86 : decode cX11_state 86 = .ok (.ireturn, 1) := by decide +kernel
def f11_state_b84  (a1 : Int32) (s0 : Int32) (m : lu_M) : Option (Int32 × lu_M) :=
  some (s0, m)
set_option maxRecDepth 20000 in
theorem w11_state_b84  {G : lu_G} {ρ : Nat → Nat} {a1 : Int32}  (X : lu_X G RX11 cX11_state 2 1 21) (hret : (lu_me G).sig.returnType = (some .int))   : ∀ (s0 : Int32) (m : lu_M), lu_Ab lu_TC G (lu_Q lu_TC G ρ lu_RVi lu_sn) (f11_state_b84 a1 s0 m) 84 [] [.int s0] ρ 0 0 [] m := by
  intro s0 m
  unfold f11_state_b84
  exact lu_iret X hret dX11_state_84
def f11_state (a1 : Int32) (m : lu_M) : Option (Int32 × lu_M) :=
  if a1 = (0 : Int32) then (some ((m 29 0), m))
  else (if a1 = (1 : Int32) then (some ((m 1 9), m))
  else (if a1 = (2 : Int32) then (some ((m 29 5), m))
  else (if a1 = (3 : Int32) then (lu_bi (f10_isOver 1 29 m) fun x1 m2 =>
  if x1 = 0 then (f11_state_b84 a1 (0 : Int32) m2)
  else (f11_state_b84 a1 (1 : Int32) m2))
  else (some ((-1 : Int32), m)))))
set_option maxRecDepth 20000 in
theorem c11_state (l : Launch)   (a1 : Int32) : lu_C lu_TC l yX11_state cX11_state 2 (some .int) 1 21 (fun ρ sa => [.ref (ρ 0), .int a1]) (f11_state a1) lu_RVi lu_sn := by
  refine lu_met (cls := RX11) rfl (by decide +kernel) (fun _ _ => Nat.le_of_ble_eq_true rfl) ?_
  intro G ρ m hl X hret
  subst hl
  change lu_Ab lu_TC G (lu_Q lu_TC G ρ lu_RVi lu_sn) (f11_state a1 m) 0 [(0, .ref (ρ 0)), (1, .int a1)] [] ρ 0 0 [] m
  unfold f11_state
  refine lu_iload_n X dX11_state_0 (pc2 := 1) rfl rfl 1 rfl ?_
  refine lu_ite (fun c0 => ?_) (fun c0 => ?_)
  · refine lu_tsIn X c0 dX11_state_1 (tgt := 32) (by decide) (by decide) rfl (by decide) ?_
    refine lu_aload_n X dX11_state_32 (pc2 := 33) rfl rfl 0 rfl ?_
    refine lu_getr (r2 := 1) X rfl fl11_18 rfl kC_0 lC_0 dX11_state_33 (pc2 := 36) rfl ?_
    refine lu_getr (r2 := 29) X rfl fl11_115 rfl kC_1 lC_1 dX11_state_36 (pc2 := 39) rfl ?_
    refine lu_get X fl11_122 rfl kC_29 lC_29 dX11_state_39 (pc2 := 42) rfl ?_
    exact lu_iret X hret dX11_state_42
  · refine lu_ite (fun c1 => ?_) (fun c1 => ?_)
    · refine lu_tsIn X c1 dX11_state_1 (tgt := 43) (by decide) (by decide) rfl (by decide) ?_
      refine lu_aload_n X dX11_state_43 (pc2 := 44) rfl rfl 0 rfl ?_
      refine lu_getr (r2 := 1) X rfl fl11_18 rfl kC_0 lC_0 dX11_state_44 (pc2 := 47) rfl ?_
      refine lu_get X fl11_159 rfl kC_1 lC_1 dX11_state_47 (pc2 := 50) rfl ?_
      exact lu_iret X hret dX11_state_50
    · refine lu_ite (fun c2 => ?_) (fun c2 => ?_)
      · refine lu_tsIn X c2 dX11_state_1 (tgt := 51) (by decide) (by decide) rfl (by decide) ?_
        refine lu_aload_n X dX11_state_51 (pc2 := 52) rfl rfl 0 rfl ?_
        refine lu_getr (r2 := 1) X rfl fl11_18 rfl kC_0 lC_0 dX11_state_52 (pc2 := 55) rfl ?_
        refine lu_getr (r2 := 29) X rfl fl11_115 rfl kC_1 lC_1 dX11_state_55 (pc2 := 58) rfl ?_
        refine lu_get X fl11_165 rfl kC_29 lC_29 dX11_state_58 (pc2 := 61) rfl ?_
        exact lu_iret X hret dX11_state_61
      · refine lu_ite (fun c3 => ?_) (fun c3 => ?_)
        · refine lu_tsIn X c3 dX11_state_1 (tgt := 62) (by decide) (by decide) rfl (by decide) ?_
          refine lu_aload_n X dX11_state_62 (pc2 := 63) rfl rfl 0 rfl ?_
          refine lu_getr (r2 := 1) X rfl fl11_18 rfl kC_0 lC_0 dX11_state_63 (pc2 := 66) rfl ?_
          refine lu_aload_n X dX11_state_66 (pc2 := 67) rfl rfl 0 rfl ?_
          refine lu_getr (r2 := 1) X rfl fl11_18 rfl kC_0 lC_0 dX11_state_67 (pc2 := 70) rfl ?_
          refine lu_getr (r2 := 29) X rfl fl11_115 rfl kC_1 lC_1 dX11_state_70 (pc2 := 73) rfl ?_
          refine lu_invVi X (c10_isOver _ kC_1 lC_1 kC_29 lC_29) rfl q565 mvV_10_isOver kC_1 lC_1 (by decide) ⟨_, rfl, rfl⟩ rfl rfl (Nat.le_of_ble_eq_true rfl) (Nat.le_of_ble_eq_true rfl) (Nat.le_of_ble_eq_true rfl) ⟨Nat.zero_le _, Nat.zero_le _⟩ dX11_state_73 (pc2 := 76) rfl rfl (fun x1 m2 => ?_)
          refine lu_if_eq (tgt := 83) X dX11_state_76 (pc2 := 79) rfl (by decide) (fun _ => ?_) (fun _ => ?_)
          · refine lu_iconst X dX11_state_83 (pc2 := 84) rfl ic_0 ?_
            exact lu_sub [] rfl (w11_state_b84 X hret (0 : Int32) m2)
          · refine lu_iconst X dX11_state_79 (pc2 := 80) rfl ic_1 ?_
            refine lu_goto (tgt := 84) X dX11_state_80 (by decide) ?_
            exact lu_sub [] rfl (w11_state_b84 X hret (1 : Int32) m2)
        · refine lu_tsOut (tgt := 85) X dX11_state_1 (by have h0 := lv_neT c0 (a := 0) (by decide); have h1 := lv_neT c1 (a := 1) (by decide); have h2 := lv_neT c2 (a := 2) (by decide); have h3 := lv_neT c3 (a := 3) (by decide); omega) (by decide) ?_
          refine lu_iconst X dX11_state_85 (pc2 := 86) rfl ic_m1 ?_
          exact lu_iret X hret dX11_state_86

theorem dX11_feed_0 : decode cX11_feed 0 = .ok (.iload_n 3, 1) := by decide +kernel
theorem dX11_feed_1 : decode cX11_feed 1 = .ok (.iconst 1, 1) := by decide +kernel
theorem dX11_feed_2 : decode cX11_feed 2 = .ok (.bipush 8, 2) := by decide +kernel
theorem dX11_feed_4 : decode cX11_feed 4 = .ok (.invokestatic 92, 3) := by decide +kernel
theorem dX11_feed_7 : decode cX11_feed 7 = .ok (.ifCond .ne 5, 3) := by decide +kernel
theorem dX11_feed_10 : decode cX11_feed 10 = .ok (.iconst (-1), 1) := by decide +kernel
theorem dX11_feed_11 : decode cX11_feed 11 = .ok (.ireturn, 1) := by decide +kernel
theorem dX11_feed_12 : decode cX11_feed 12 = .ok (.aload_n 0, 1) := by decide +kernel
theorem dX11_feed_13 : decode cX11_feed 13 = .ok (.getfield 48, 3) := by decide +kernel
theorem dX11_feed_16 : decode cX11_feed 16 = .ok (.getfield 172, 3) := by decide +kernel
theorem dX11_feed_19 : decode cX11_feed 19 = .ok (.iload_n 3, 1) := by decide +kernel
theorem dX11_feed_20 : decode cX11_feed 20 = .ok (.iadd, 1) := by decide +kernel
theorem dX11_feed_21 : decode cX11_feed 21 = .ok (.sipush 200, 3) := by decide +kernel
theorem dX11_feed_24 : decode cX11_feed 24 = .ok (.if_icmp .le 6, 3) := by decide +kernel
theorem dX11_feed_27 : decode cX11_feed 27 = .ok (.bipush (-2), 2) := by decide +kernel
theorem dX11_feed_29 : decode cX11_feed 29 = .ok (.ireturn, 1) := by decide +kernel
theorem dX11_feed_30 : decode cX11_feed 30 = .ok (.iconst 0, 1) := by decide +kernel
theorem dX11_feed_31 : decode cX11_feed 31 = .ok (.istore 4, 2) := by decide +kernel
theorem dX11_feed_33 : decode cX11_feed 33 = .ok (.iload 4, 2) := by decide +kernel
theorem dX11_feed_35 : decode cX11_feed 35 = .ok (.iload_n 3, 1) := by decide +kernel
theorem dX11_feed_36 : decode cX11_feed 36 = .ok (.if_icmp .ge 39, 3) := by decide +kernel
theorem dX11_feed_39 : decode cX11_feed 39 = .ok (.aload_n 0, 1) := by decide +kernel
theorem dX11_feed_40 : decode cX11_feed 40 = .ok (.getfield 48, 3) := by decide +kernel
theorem dX11_feed_43 : decode cX11_feed 43 = .ok (.getfield 175, 3) := by decide +kernel
theorem dX11_feed_46 : decode cX11_feed 46 = .ok (.aload_n 0, 1) := by decide +kernel
theorem dX11_feed_47 : decode cX11_feed 47 = .ok (.getfield 48, 3) := by decide +kernel
theorem dX11_feed_50 : decode cX11_feed 50 = .ok (.getfield 172, 3) := by decide +kernel
theorem dX11_feed_53 : decode cX11_feed 53 = .ok (.iload 4, 2) := by decide +kernel
theorem dX11_feed_55 : decode cX11_feed 55 = .ok (.iadd, 1) := by decide +kernel
theorem dX11_feed_56 : decode cX11_feed 56 = .ok (.lload_n 1, 1) := by decide +kernel
theorem dX11_feed_57 : decode cX11_feed 57 = .ok (.bipush 8, 2) := by decide +kernel
theorem dX11_feed_59 : decode cX11_feed 59 = .ok (.iload 4, 2) := by decide +kernel
theorem dX11_feed_61 : decode cX11_feed 61 = .ok (.imul, 1) := by decide +kernel
theorem dX11_feed_62 : decode cX11_feed 62 = .ok (.lushr, 1) := by decide +kernel
theorem dX11_feed_63 : decode cX11_feed 63 = .ok (.l2i, 1) := by decide +kernel
theorem dX11_feed_64 : decode cX11_feed 64 = .ok (.sipush 255, 3) := by decide +kernel
theorem dX11_feed_67 : decode cX11_feed 67 = .ok (.iand, 1) := by decide +kernel
theorem dX11_feed_68 : decode cX11_feed 68 = .ok (.iastore, 1) := by decide +kernel
theorem dX11_feed_69 : decode cX11_feed 69 = .ok (.iinc 4 1, 3) := by decide +kernel
theorem dX11_feed_72 : decode cX11_feed 72 = .ok (.goto (-39), 3) := by decide +kernel
theorem dX11_feed_75 : decode cX11_feed 75 = .ok (.aload_n 0, 1) := by decide +kernel
theorem dX11_feed_76 : decode cX11_feed 76 = .ok (.getfield 48, 3) := by decide +kernel
theorem dX11_feed_79 : decode cX11_feed 79 = .ok (.dup, 1) := by decide +kernel
theorem dX11_feed_80 : decode cX11_feed 80 = .ok (.getfield 172, 3) := by decide +kernel
theorem dX11_feed_83 : decode cX11_feed 83 = .ok (.iload_n 3, 1) := by decide +kernel
theorem dX11_feed_84 : decode cX11_feed 84 = .ok (.iadd, 1) := by decide +kernel
theorem dX11_feed_85 : decode cX11_feed 85 = .ok (.putfield 172, 3) := by decide +kernel
theorem dX11_feed_88 : decode cX11_feed 88 = .ok (.aload_n 0, 1) := by decide +kernel
theorem dX11_feed_89 : decode cX11_feed 89 = .ok (.getfield 48, 3) := by decide +kernel
theorem dX11_feed_92 : decode cX11_feed 92 = .ok (.getfield 172, 3) := by decide +kernel
theorem dX11_feed_95 : decode cX11_feed 95 = .ok (.ireturn, 1) := by decide +kernel
def f11_feed_b33B (K75 : lu_M → Option (Int32 × lu_M)) (rec : Int32 → lu_M → Option (Int32 × lu_M)) (a1 : Int64) (a3 : Int32) (v4 : Int32) (m : lu_M) : Option (Int32 × lu_M) :=
  if a3 ≤ v4 then (K75 m)
  else (lu_gd (lu_ib ((m 83 1) + v4) 200) <|
  lu_nm (lu_st m 84 ((m 83 1) + v4).toNatClampNeg ((((a1.toUInt64 >>> (((8 : Int32) * v4).toInt64.toUInt64 &&& Int64.toUInt64 63)).toInt64).toInt32) &&& (255 : Int32))) fun m3 =>
  rec (v4 + (1 : Int32)) m3)
def f11_feed_b33 (K75 : lu_M → Option (Int32 × lu_M)) (a1 : Int64) (a3 : Int32) : Nat → Int32 → lu_M → Option (Int32 × lu_M)
  | 0, _, _ => none
  | n + 1, v4, m => f11_feed_b33B K75 (f11_feed_b33 K75 a1 a3 n) a1 a3 v4 m
set_option maxRecDepth 20000 in
theorem w11_feed_b33B  {G : lu_G} {ρ : Nat → Nat} {a1 : Int64} {a3 : Int32} {K75 : lu_M → Option (Int32 × lu_M)} {rec : Int32 → lu_M → Option (Int32 × lu_M)} (X : lu_X G RX11 cX11_feed 5 1 22) (hret : (lu_me G).sig.returnType = (some .int))  (hK75 : ∀  (m : lu_M), lu_Ab lu_TC G (lu_Q lu_TC G ρ lu_RVi lu_sn) (K75 m) 75 [(0, .ref (ρ 0)), (3, .int a3)] [] ρ 0 0 [] m) (hrec : ∀ (v4 : Int32) (m : lu_M), lu_Ab lu_TC G (lu_Q lu_TC G ρ lu_RVi lu_sn) (rec v4 m) 33 [(0, .ref (ρ 0)), (1, .long a1), (3, .int a3), (4, .int v4)] [] ρ 0 0 [] m) : ∀ (v4 : Int32) (m : lu_M), lu_Ab lu_TC G (lu_Q lu_TC G ρ lu_RVi lu_sn) (f11_feed_b33B K75 rec a1 a3 v4 m) 33 [(0, .ref (ρ 0)), (1, .long a1), (3, .int a3), (4, .int v4)] [] ρ 0 0 [] m := by
  intro v4 m
  unfold f11_feed_b33B
  refine lu_iload X dX11_feed_33 (pc2 := 35) rfl 3 rfl ?_
  refine lu_iload_n X dX11_feed_35 (pc2 := 36) rfl rfl 2 rfl ?_
  refine lu_icmp_ge (tgt := 75) X dX11_feed_36 (pc2 := 39) rfl (by decide) (fun _ => ?_) (fun _ => ?_)
  · exact lu_sub [0, 2] rfl (hK75 m)
  · refine lu_aload_n X dX11_feed_39 (pc2 := 40) rfl rfl 0 rfl ?_
    refine lu_getr (r2 := 83) X rfl fl11_48 rfl kC_0 lC_0 dX11_feed_40 (pc2 := 43) rfl ?_
    refine lu_getr (r2 := 84) X rfl fl11_175 rfl kC_83 lC_83 dX11_feed_43 (pc2 := 46) rfl ?_
    refine lu_aload_n X dX11_feed_46 (pc2 := 47) rfl rfl 0 rfl ?_
    refine lu_getr (r2 := 83) X rfl fl11_48 rfl kC_0 lC_0 dX11_feed_47 (pc2 := 50) rfl ?_
    refine lu_get X fl11_172 rfl kC_83 lC_83 dX11_feed_50 (pc2 := 53) rfl ?_
    refine lu_iload X dX11_feed_53 (pc2 := 55) rfl 3 rfl ?_
    refine lu_iadd X dX11_feed_55 (pc2 := 56) rfl ?_
    refine lu_lload_n X dX11_feed_56 (pc2 := 57) rfl rfl 1 rfl ?_
    refine lu_bipush X dX11_feed_57 (pc2 := 59) rfl bp_8 ?_
    refine lu_iload X dX11_feed_59 (pc2 := 61) rfl 3 rfl ?_
    refine lu_imul X dX11_feed_61 (pc2 := 62) rfl ?_
    refine lu_lushr X dX11_feed_62 (pc2 := 63) rfl ?_
    refine lu_l2i X dX11_feed_63 (pc2 := 64) rfl ?_
    refine lu_sipush X dX11_feed_64 (pc2 := 67) rfl sp_255 ?_
    refine lu_iand X dX11_feed_67 (pc2 := 68) rfl ?_
    refine lu_iast X kC_84 lC_84 dX11_feed_68 (pc2 := 69) rfl (fun m3 => ?_)
    refine lu_iinc (lv2 := [(4, .int (v4 + (1 : Int32))), (0, .ref (ρ 0)), (1, .long a1), (3, .int a3)]) X dX11_feed_69 (pc2 := 72) rfl 3 rfl (lu_ii _ ic_1) (by decide) rfl ?_
    refine lu_goto (tgt := 33) X dX11_feed_72 (by decide) ?_
    exact lu_sub [1, 2, 3, 0] rfl (hrec (v4 + (1 : Int32)) m3)
theorem w11_feed_b33  {G : lu_G} {ρ : Nat → Nat} {a1 : Int64} {a3 : Int32} {K75 : lu_M → Option (Int32 × lu_M)} (X : lu_X G RX11 cX11_feed 5 1 22) (hret : (lu_me G).sig.returnType = (some .int))  (hK75 : ∀  (m : lu_M), lu_Ab lu_TC G (lu_Q lu_TC G ρ lu_RVi lu_sn) (K75 m) 75 [(0, .ref (ρ 0)), (3, .int a3)] [] ρ 0 0 [] m) : ∀ (n : Nat) (v4 : Int32) (m : lu_M), lu_Ab lu_TC G (lu_Q lu_TC G ρ lu_RVi lu_sn) (f11_feed_b33 K75 a1 a3 n v4 m) 33 [(0, .ref (ρ 0)), (1, .long a1), (3, .int a3), (4, .int v4)] [] ρ 0 0 [] m := by
  intro n
  induction n with
  | zero => intro v4 m; exact lu_none
  | succ n ih => intro v4 m; exact w11_feed_b33B X hret hK75 ih v4 m
def f11_feed_b75  (a1 : Int64) (a3 : Int32)  (m : lu_M) : Option (Int32 × lu_M) :=
  lu_nm (lu_st m 83 1 ((m 83 1) + a3)) fun m4 =>
  some ((m4 83 1), m4)
set_option maxRecDepth 20000 in
theorem w11_feed_b75  {G : lu_G} {ρ : Nat → Nat} {a1 : Int64} {a3 : Int32}  (X : lu_X G RX11 cX11_feed 5 1 22) (hret : (lu_me G).sig.returnType = (some .int))   : ∀  (m : lu_M), lu_Ab lu_TC G (lu_Q lu_TC G ρ lu_RVi lu_sn) (f11_feed_b75 a1 a3 m) 75 [(0, .ref (ρ 0)), (3, .int a3)] [] ρ 0 0 [] m := by
  intro  m
  unfold f11_feed_b75
  refine lu_aload_n X dX11_feed_75 (pc2 := 76) rfl rfl 0 rfl ?_
  refine lu_getr (r2 := 83) X rfl fl11_48 rfl kC_0 lC_0 dX11_feed_76 (pc2 := 79) rfl ?_
  refine lu_dup X dX11_feed_79 (pc2 := 80) rfl rfl ?_
  refine lu_get X fl11_172 rfl kC_83 lC_83 dX11_feed_80 (pc2 := 83) rfl ?_
  refine lu_iload_n X dX11_feed_83 (pc2 := 84) rfl rfl 1 rfl ?_
  refine lu_iadd X dX11_feed_84 (pc2 := 85) rfl ?_
  refine lu_put X fl11_172 rfl (Or.inl (by decide)) rfl (by decide +kernel) kC_83 lC_83 dX11_feed_85 (pc2 := 88) rfl (fun m4 => ?_)
  refine lu_aload_n X dX11_feed_88 (pc2 := 89) rfl rfl 0 rfl ?_
  refine lu_getr (r2 := 83) X rfl fl11_48 rfl kC_0 lC_0 dX11_feed_89 (pc2 := 92) rfl ?_
  refine lu_get X fl11_172 rfl kC_83 lC_83 dX11_feed_92 (pc2 := 95) rfl ?_
  exact lu_iret X hret dX11_feed_95
def f11_feed (a1 : Int64) (a3 : Int32) (m : lu_M) : Option (Int32 × lu_M) :=
  lu_bi (f11_isWithin a3 (1 : Int32) (8 : Int32) m) fun x1 m2 =>
  if x1 = 0 then (some ((-1 : Int32), m2))
  else (if ((m2 83 1) + a3) ≤ (200 : Int32) then (f11_feed_b33 (f11_feed_b75 a1 a3) a1 a3 lu_fu (0 : Int32) m2)
  else (some ((-2 : Int32), m2)))
set_option maxRecDepth 20000 in
theorem c11_feed (l : Launch)   (a1 : Int64) (a3 : Int32) : lu_C lu_TC l yX11_feed cX11_feed 5 (some .int) 1 22 (fun ρ sa => [.ref (ρ 0), .long a1, .int a3]) (f11_feed a1 a3) lu_RVi lu_sn := by
  refine lu_met (cls := RX11) rfl (by decide +kernel) (fun _ _ => Nat.le_of_ble_eq_true rfl) ?_
  intro G ρ m hl X hret
  subst hl
  change lu_Ab lu_TC G (lu_Q lu_TC G ρ lu_RVi lu_sn) (f11_feed a1 a3 m) 0 [(0, .ref (ρ 0)), (1, .long a1), (3, .int a3)] [] ρ 0 0 [] m
  unfold f11_feed
  refine lu_iload_n X dX11_feed_0 (pc2 := 1) rfl rfl 2 rfl ?_
  refine lu_iconst X dX11_feed_1 (pc2 := 2) rfl ic_1 ?_
  refine lu_bipush X dX11_feed_2 (pc2 := 4) rfl bp_8 ?_
  refine lu_invSi X (c11_isWithin _ a3 (1 : Int32) (8 : Int32)) rfl q433 mvS_11_isWithin rfl rfl (Nat.le_of_ble_eq_true rfl) (Nat.le_of_ble_eq_true rfl) (Nat.le_of_ble_eq_true rfl) ⟨Nat.zero_le _, Nat.zero_le _⟩ dX11_feed_4 (pc2 := 7) rfl rfl (fun x1 m2 => ?_)
  refine lu_if_ne (tgt := 12) X dX11_feed_7 (pc2 := 10) rfl (by decide) (fun _ => ?_) (fun _ => ?_)
  · refine lu_aload_n X dX11_feed_12 (pc2 := 13) rfl rfl 0 rfl ?_
    refine lu_getr (r2 := 83) X rfl fl11_48 rfl kC_0 lC_0 dX11_feed_13 (pc2 := 16) rfl ?_
    refine lu_get X fl11_172 rfl kC_83 lC_83 dX11_feed_16 (pc2 := 19) rfl ?_
    refine lu_iload_n X dX11_feed_19 (pc2 := 20) rfl rfl 2 rfl ?_
    refine lu_iadd X dX11_feed_20 (pc2 := 21) rfl ?_
    refine lu_sipush X dX11_feed_21 (pc2 := 24) rfl sp_200 ?_
    refine lu_icmp_le (tgt := 30) X dX11_feed_24 (pc2 := 27) rfl (by decide) (fun _ => ?_) (fun _ => ?_)
    · refine lu_iconst X dX11_feed_30 (pc2 := 31) rfl ic_0 ?_
      refine lu_istore (lv2 := [(4, .int (0 : Int32)), (0, .ref (ρ 0)), (1, .long a1), (3, .int a3)]) X dX11_feed_31 (pc2 := 33) rfl (by decide) rfl ?_
      exact lu_sub [1, 2, 3, 0] rfl (w11_feed_b33 X hret (w11_feed_b75 X hret) lu_fu (0 : Int32) m2)
    · refine lu_bipush X dX11_feed_27 (pc2 := 29) rfl bp_m2 ?_
      exact lu_iret X hret dX11_feed_29
  · refine lu_iconst X dX11_feed_10 (pc2 := 11) rfl ic_m1 ?_
    exact lu_iret X hret dX11_feed_11

theorem dX11_rules_0 : decode cX11_rules 0 = .ok (.aload_n 0, 1) := by decide +kernel
theorem dX11_rules_1 : decode cX11_rules 1 = .ok (.getfield 48, 3) := by decide +kernel
theorem dX11_rules_4 : decode cX11_rules 4 = .ok (.invokevirtual 178, 3) := by decide +kernel
theorem dX11_rules_7 : decode cX11_rules 7 = .ok (.istore_n 1, 1) := by decide +kernel
theorem dX11_rules_8 : decode cX11_rules 8 = .ok (.iload_n 1, 1) := by decide +kernel
theorem dX11_rules_9 : decode cX11_rules 9 = .ok (.ifCond .lt 20, 3) := by decide +kernel
theorem dX11_rules_12 : decode cX11_rules 12 = .ok (.aload_n 0, 1) := by decide +kernel
theorem dX11_rules_13 : decode cX11_rules 13 = .ok (.getfield 18, 3) := by decide +kernel
theorem dX11_rules_16 : decode cX11_rules 16 = .ok (.getfield 182, 3) := by decide +kernel
theorem dX11_rules_19 : decode cX11_rules 19 = .ok (.aload_n 0, 1) := by decide +kernel
theorem dX11_rules_20 : decode cX11_rules 20 = .ok (.getfield 48, 3) := by decide +kernel
theorem dX11_rules_23 : decode cX11_rules 23 = .ok (.getfield 186, 3) := by decide +kernel
theorem dX11_rules_26 : decode cX11_rules 26 = .ok (.invokevirtual 189, 3) := by decide +kernel
theorem dX11_rules_29 : decode cX11_rules 29 = .ok (.iload_n 1, 1) := by decide +kernel
theorem dX11_rules_30 : decode cX11_rules 30 = .ok (.ireturn, 1) := by decide +kernel
def f11_rules_b29   (v1 : Int32) (m : lu_M) : Option (Int32 × lu_M) :=
  some (v1, m)
set_option maxRecDepth 20000 in
theorem w11_rules_b29  {G : lu_G} {ρ : Nat → Nat}   (X : lu_X G RX11 cX11_rules 2 81 1927) (hret : (lu_me G).sig.returnType = (some .int))   : ∀ (v1 : Int32) (m : lu_M), lu_Ab lu_TC G (lu_Q lu_TC G ρ lu_RVi lu_sn) (f11_rules_b29  v1 m) 29 [(1, .int v1)] [] ρ 0 0 [] m := by
  intro v1 m
  unfold f11_rules_b29
  refine lu_iload_n X dX11_rules_29 (pc2 := 30) rfl rfl 0 rfl ?_
  exact lu_iret X hret dX11_rules_30
def f11_rules  (m : lu_M) : Option (Int32 × lu_M) :=
  lu_bi (f8_tellAll m) fun x1 m2 =>
  if x1 < 0 then (f11_rules_b29 x1 m2)
  else (lu_bv (f6_copy 30 85 m2) fun m3 =>
  f11_rules_b29 x1 m3)
set_option maxRecDepth 20000 in
theorem c11_rules (l : Launch)    : lu_C lu_TC l yX11_rules cX11_rules 2 (some .int) 81 1927 (fun ρ sa => [.ref (ρ 0)]) (f11_rules ) lu_RVi lu_sn := by
  refine lu_met (cls := RX11) rfl (by decide +kernel) (fun _ _ => Nat.le_of_ble_eq_true rfl) ?_
  intro G ρ m hl X hret
  subst hl
  change lu_Ab lu_TC G (lu_Q lu_TC G ρ lu_RVi lu_sn) (f11_rules  m) 0 [(0, .ref (ρ 0))] [] ρ 0 0 [] m
  unfold f11_rules
  refine lu_aload_n X dX11_rules_0 (pc2 := 1) rfl rfl 0 rfl ?_
  refine lu_getr (r2 := 83) X rfl fl11_48 rfl kC_0 lC_0 dX11_rules_1 (pc2 := 4) rfl ?_
  refine lu_invVi X (c8_tellAll _) rfl q577 mvV_8_tellAll kC_83 lC_83 (by decide) ⟨_, rfl, rfl⟩ rfl rfl (Nat.le_of_ble_eq_true rfl) (Nat.le_of_ble_eq_true rfl) (Nat.le_of_ble_eq_true rfl) ⟨Nat.zero_le _, Nat.zero_le _⟩ dX11_rules_4 (pc2 := 7) rfl rfl (fun x1 m2 => ?_)
  refine lu_istore_n (lv2 := [(1, .int x1), (0, .ref (ρ 0))]) X dX11_rules_7 (pc2 := 8) rfl rfl (by decide) rfl ?_
  refine lu_iload_n X dX11_rules_8 (pc2 := 9) rfl rfl 0 rfl ?_
  refine lu_if_lt (tgt := 29) X dX11_rules_9 (pc2 := 12) rfl (by decide) (fun _ => ?_) (fun _ => ?_)
  · exact lu_sub [0] rfl (w11_rules_b29 X hret x1 m2)
  · refine lu_aload_n X dX11_rules_12 (pc2 := 13) rfl rfl 1 rfl ?_
    refine lu_getr (r2 := 1) X rfl fl11_18 rfl kC_0 lC_0 dX11_rules_13 (pc2 := 16) rfl ?_
    refine lu_getr (r2 := 30) X rfl fl11_182 rfl kC_1 lC_1 dX11_rules_16 (pc2 := 19) rfl ?_
    refine lu_aload_n X dX11_rules_19 (pc2 := 20) rfl rfl 1 rfl ?_
    refine lu_getr (r2 := 83) X rfl fl11_48 rfl kC_0 lC_0 dX11_rules_20 (pc2 := 23) rfl ?_
    refine lu_getr (r2 := 85) X rfl fl11_186 rfl kC_83 lC_83 dX11_rules_23 (pc2 := 26) rfl ?_
    refine lu_invVv X (c6_copy _ kC_30 lC_30 kC_85 lC_85) rfl q712 mvV_6_copy kC_30 lC_30 (by decide) ⟨_, rfl, rfl⟩ rfl rfl (Nat.le_of_ble_eq_true rfl) (Nat.le_of_ble_eq_true rfl) (Nat.le_of_ble_eq_true rfl) ⟨Nat.zero_le _, Nat.zero_le _⟩ dX11_rules_26 (pc2 := 29) rfl rfl (fun m3 => ?_)
    exact lu_sub [0] rfl (w11_rules_b29 X hret x1 m3)

theorem dX11_year_0 : decode cX11_year 0 = .ok (.aload_n 0, 1) := by decide +kernel
theorem dX11_year_1 : decode cX11_year 1 = .ok (.getfield 18, 3) := by decide +kernel
theorem dX11_year_4 : decode cX11_year 4 = .ok (.aload_n 0, 1) := by decide +kernel
theorem dX11_year_5 : decode cX11_year 5 = .ok (.getfield 18, 3) := by decide +kernel
theorem dX11_year_8 : decode cX11_year 8 = .ok (.getfield 115, 3) := by decide +kernel
theorem dX11_year_11 : decode cX11_year 11 = .ok (.invokevirtual 168, 3) := by decide +kernel
theorem dX11_year_14 : decode cX11_year 14 = .ok (.ifCond .eq 6, 3) := by decide +kernel
theorem dX11_year_17 : decode cX11_year 17 = .ok (.bipush (-4), 2) := by decide +kernel
theorem dX11_year_19 : decode cX11_year 19 = .ok (.ireturn, 1) := by decide +kernel
theorem dX11_year_20 : decode cX11_year 20 = .ok (.aload_n 0, 1) := by decide +kernel
theorem dX11_year_21 : decode cX11_year 21 = .ok (.getfield 18, 3) := by decide +kernel
theorem dX11_year_24 : decode cX11_year 24 = .ok (.aload_n 0, 1) := by decide +kernel
theorem dX11_year_25 : decode cX11_year 25 = .ok (.getfield 18, 3) := by decide +kernel
theorem dX11_year_28 : decode cX11_year 28 = .ok (.getfield 115, 3) := by decide +kernel
theorem dX11_year_31 : decode cX11_year 31 = .ok (.iconst 0, 1) := by decide +kernel
theorem dX11_year_32 : decode cX11_year 32 = .ok (.invokevirtual 195, 3) := by decide +kernel
theorem dX11_year_35 : decode cX11_year 35 = .ok (.ireturn, 1) := by decide +kernel
def f11_year  (m : lu_M) : Option (Int32 × lu_M) :=
  lu_bi (f10_isOver 1 29 m) fun x1 m2 =>
  if x1 = 0 then (lu_bi (f10_pass 1 29 (0 : Int32) m2) fun x3 m4 =>
  some (x3, m4))
  else (some ((-4 : Int32), m2))
set_option maxRecDepth 20000 in
theorem c11_year (l : Launch)    : lu_C lu_TC l yX11_year cX11_year 1 (some .int) 5 122 (fun ρ sa => [.ref (ρ 0)]) (f11_year ) lu_RVi lu_sn := by
  refine lu_met (cls := RX11) rfl (by decide +kernel) (fun _ _ => Nat.le_of_ble_eq_true rfl) ?_
  intro G ρ m hl X hret
  subst hl
  change lu_Ab lu_TC G (lu_Q lu_TC G ρ lu_RVi lu_sn) (f11_year  m) 0 [(0, .ref (ρ 0))] [] ρ 0 0 [] m
  unfold f11_year
  refine lu_aload_n X dX11_year_0 (pc2 := 1) rfl rfl 0 rfl ?_
  refine lu_getr (r2 := 1) X rfl fl11_18 rfl kC_0 lC_0 dX11_year_1 (pc2 := 4) rfl ?_
  refine lu_aload_n X dX11_year_4 (pc2 := 5) rfl rfl 0 rfl ?_
  refine lu_getr (r2 := 1) X rfl fl11_18 rfl kC_0 lC_0 dX11_year_5 (pc2 := 8) rfl ?_
  refine lu_getr (r2 := 29) X rfl fl11_115 rfl kC_1 lC_1 dX11_year_8 (pc2 := 11) rfl ?_
  refine lu_invVi X (c10_isOver _ kC_1 lC_1 kC_29 lC_29) rfl q565 mvV_10_isOver kC_1 lC_1 (by decide) ⟨_, rfl, rfl⟩ rfl rfl (Nat.le_of_ble_eq_true rfl) (Nat.le_of_ble_eq_true rfl) (Nat.le_of_ble_eq_true rfl) ⟨Nat.zero_le _, Nat.zero_le _⟩ dX11_year_11 (pc2 := 14) rfl rfl (fun x1 m2 => ?_)
  refine lu_if_eq (tgt := 20) X dX11_year_14 (pc2 := 17) rfl (by decide) (fun _ => ?_) (fun _ => ?_)
  · refine lu_aload_n X dX11_year_20 (pc2 := 21) rfl rfl 0 rfl ?_
    refine lu_getr (r2 := 1) X rfl fl11_18 rfl kC_0 lC_0 dX11_year_21 (pc2 := 24) rfl ?_
    refine lu_aload_n X dX11_year_24 (pc2 := 25) rfl rfl 0 rfl ?_
    refine lu_getr (r2 := 1) X rfl fl11_18 rfl kC_0 lC_0 dX11_year_25 (pc2 := 28) rfl ?_
    refine lu_getr (r2 := 29) X rfl fl11_115 rfl kC_1 lC_1 dX11_year_28 (pc2 := 31) rfl ?_
    refine lu_iconst X dX11_year_31 (pc2 := 32) rfl ic_0 ?_
    refine lu_invVi X (c10_pass _ kC_1 lC_1 kC_29 lC_29 (0 : Int32)) rfl q721 mvV_10_pass kC_1 lC_1 (by decide) ⟨_, rfl, rfl⟩ rfl rfl (Nat.le_of_ble_eq_true rfl) (Nat.le_of_ble_eq_true rfl) (Nat.le_of_ble_eq_true rfl) ⟨Nat.zero_le _, Nat.zero_le _⟩ dX11_year_32 (pc2 := 35) rfl rfl (fun x3 m4 => ?_)
    exact lu_iret X hret dX11_year_35
  · refine lu_bipush X dX11_year_17 (pc2 := 19) rfl bp_m4 ?_
    exact lu_iret X hret dX11_year_19

theorem dX11_standing_0 : decode cX11_standing 0 = .ok (.iload_n 1, 1) := by decide +kernel
theorem dX11_standing_1 : decode cX11_standing 1 = .ok (.iconst 0, 1) := by decide +kernel
theorem dX11_standing_2 : decode cX11_standing 2 = .ok (.iconst 4, 1) := by decide +kernel
theorem dX11_standing_3 : decode cX11_standing 3 = .ok (.invokestatic 92, 3) := by decide +kernel
theorem dX11_standing_6 : decode cX11_standing 6 = .ok (.ifCond .ne 5, 3) := by decide +kernel
theorem dX11_standing_9 : decode cX11_standing 9 = .ok (.iconst (-1), 1) := by decide +kernel
theorem dX11_standing_10 : decode cX11_standing 10 = .ok (.ireturn, 1) := by decide +kernel
theorem dX11_standing_11 : decode cX11_standing 11 = .ok (.iconst 0, 1) := by decide +kernel
theorem dX11_standing_12 : decode cX11_standing 12 = .ok (.istore_n 2, 1) := by decide +kernel
theorem dX11_standing_13 : decode cX11_standing 13 = .ok (.iconst 0, 1) := by decide +kernel
theorem dX11_standing_14 : decode cX11_standing 14 = .ok (.istore_n 3, 1) := by decide +kernel
theorem dX11_standing_15 : decode cX11_standing 15 = .ok (.iload_n 3, 1) := by decide +kernel
theorem dX11_standing_16 : decode cX11_standing 16 = .ok (.aload_n 0, 1) := by decide +kernel
theorem dX11_standing_17 : decode cX11_standing 17 = .ok (.getfield 18, 3) := by decide +kernel
theorem dX11_standing_20 : decode cX11_standing 20 = .ok (.getfield 138, 3) := by decide +kernel
theorem dX11_standing_23 : decode cX11_standing 23 = .ok (.if_icmp .ge 30, 3) := by decide +kernel
theorem dX11_standing_26 : decode cX11_standing 26 = .ok (.aload_n 0, 1) := by decide +kernel
theorem dX11_standing_27 : decode cX11_standing 27 = .ok (.getfield 18, 3) := by decide +kernel
theorem dX11_standing_30 : decode cX11_standing 30 = .ok (.getfield 115, 3) := by decide +kernel
theorem dX11_standing_33 : decode cX11_standing 33 = .ok (.iload_n 3, 1) := by decide +kernel
theorem dX11_standing_34 : decode cX11_standing 34 = .ok (.invokevirtual 153, 3) := by decide +kernel
theorem dX11_standing_37 : decode cX11_standing 37 = .ok (.iload_n 1, 1) := by decide +kernel
theorem dX11_standing_38 : decode cX11_standing 38 = .ok (.if_icmp .ne 9, 3) := by decide +kernel
theorem dX11_standing_41 : decode cX11_standing 41 = .ok (.iload_n 2, 1) := by decide +kernel
theorem dX11_standing_42 : decode cX11_standing 42 = .ok (.iconst 1, 1) := by decide +kernel
theorem dX11_standing_43 : decode cX11_standing 43 = .ok (.iload_n 3, 1) := by decide +kernel
theorem dX11_standing_44 : decode cX11_standing 44 = .ok (.ishl, 1) := by decide +kernel
theorem dX11_standing_45 : decode cX11_standing 45 = .ok (.ior, 1) := by decide +kernel
theorem dX11_standing_46 : decode cX11_standing 46 = .ok (.istore_n 2, 1) := by decide +kernel
theorem dX11_standing_47 : decode cX11_standing 47 = .ok (.iinc 3 1, 3) := by decide +kernel
theorem dX11_standing_50 : decode cX11_standing 50 = .ok (.goto (-35), 3) := by decide +kernel
theorem dX11_standing_53 : decode cX11_standing 53 = .ok (.iload_n 2, 1) := by decide +kernel
theorem dX11_standing_54 : decode cX11_standing 54 = .ok (.ireturn, 1) := by decide +kernel
def f11_standing_b47 (K15 : Int32 → Int32 → lu_M → Option (Int32 × lu_M)) (K53 : Int32 → lu_M → Option (Int32 × lu_M)) (a1 : Int32) (v2 : Int32) (v3 : Int32) (m : lu_M) : Option (Int32 × lu_M) :=
  K15 v2 (v3 + (1 : Int32)) m
set_option maxRecDepth 20000 in
theorem w11_standing_b47  {G : lu_G} {ρ : Nat → Nat} {a1 : Int32} {K15 : Int32 → Int32 → lu_M → Option (Int32 × lu_M)} {K53 : Int32 → lu_M → Option (Int32 × lu_M)} (X : lu_X G RX11 cX11_standing 4 2 42) (hret : (lu_me G).sig.returnType = (some .int))  (hK15 : ∀ (v2 : Int32) (v3 : Int32) (m : lu_M), lu_Ab lu_TC G (lu_Q lu_TC G ρ lu_RVi lu_sn) (K15 v2 v3 m) 15 [(0, .ref (ρ 0)), (1, .int a1), (2, .int v2), (3, .int v3)] [] ρ 0 0 [] m) (hK53 : ∀ (v2 : Int32) (m : lu_M), lu_Ab lu_TC G (lu_Q lu_TC G ρ lu_RVi lu_sn) (K53 v2 m) 53 [(2, .int v2)] [] ρ 0 0 [] m) : ∀ (v2 : Int32) (v3 : Int32) (m : lu_M), lu_Ab lu_TC G (lu_Q lu_TC G ρ lu_RVi lu_sn) (f11_standing_b47 K15 K53 a1 v2 v3 m) 47 [(0, .ref (ρ 0)), (1, .int a1), (2, .int v2), (3, .int v3)] [] ρ 0 0 [] m := by
  intro v2 v3 m
  unfold f11_standing_b47
  refine lu_iinc (lv2 := [(3, .int (v3 + (1 : Int32))), (0, .ref (ρ 0)), (1, .int a1), (2, .int v2)]) X dX11_standing_47 (pc2 := 50) rfl 3 rfl (lu_ii _ ic_1) (by decide) rfl ?_
  refine lu_goto (tgt := 15) X dX11_standing_50 (by decide) ?_
  exact lu_sub [1, 2, 3, 0] rfl (hK15 v2 (v3 + (1 : Int32)) m)
def f11_standing_b15B (K53 : Int32 → lu_M → Option (Int32 × lu_M)) (rec : Int32 → Int32 → lu_M → Option (Int32 × lu_M)) (a1 : Int32) (v2 : Int32) (v3 : Int32) (m : lu_M) : Option (Int32 × lu_M) :=
  if (m 1 2) ≤ v3 then (K53 v2 m)
  else (lu_bi (f1_how 29 v3 m) fun x3 m4 =>
  if x3 = a1 then (lu_nm ((v2 ||| ((1 : Int32) <<< (v3 &&& 31)))) fun x5 =>
  f11_standing_b47 rec K53 a1 x5 v3 m4)
  else (f11_standing_b47 rec K53 a1 v2 v3 m4))
def f11_standing_b15 (K53 : Int32 → lu_M → Option (Int32 × lu_M)) (a1 : Int32) : Nat → Int32 → Int32 → lu_M → Option (Int32 × lu_M)
  | 0, _, _, _ => none
  | n + 1, v2, v3, m => f11_standing_b15B K53 (f11_standing_b15 K53 a1 n) a1 v2 v3 m
set_option maxRecDepth 20000 in
theorem w11_standing_b15B  {G : lu_G} {ρ : Nat → Nat} {a1 : Int32} {K53 : Int32 → lu_M → Option (Int32 × lu_M)} {rec : Int32 → Int32 → lu_M → Option (Int32 × lu_M)} (X : lu_X G RX11 cX11_standing 4 2 42) (hret : (lu_me G).sig.returnType = (some .int))  (hK53 : ∀ (v2 : Int32) (m : lu_M), lu_Ab lu_TC G (lu_Q lu_TC G ρ lu_RVi lu_sn) (K53 v2 m) 53 [(2, .int v2)] [] ρ 0 0 [] m) (hrec : ∀ (v2 : Int32) (v3 : Int32) (m : lu_M), lu_Ab lu_TC G (lu_Q lu_TC G ρ lu_RVi lu_sn) (rec v2 v3 m) 15 [(0, .ref (ρ 0)), (1, .int a1), (2, .int v2), (3, .int v3)] [] ρ 0 0 [] m) : ∀ (v2 : Int32) (v3 : Int32) (m : lu_M), lu_Ab lu_TC G (lu_Q lu_TC G ρ lu_RVi lu_sn) (f11_standing_b15B K53 rec a1 v2 v3 m) 15 [(0, .ref (ρ 0)), (1, .int a1), (2, .int v2), (3, .int v3)] [] ρ 0 0 [] m := by
  intro v2 v3 m
  unfold f11_standing_b15B
  refine lu_iload_n X dX11_standing_15 (pc2 := 16) rfl rfl 3 rfl ?_
  refine lu_aload_n X dX11_standing_16 (pc2 := 17) rfl rfl 0 rfl ?_
  refine lu_getr (r2 := 1) X rfl fl11_18 rfl kC_0 lC_0 dX11_standing_17 (pc2 := 20) rfl ?_
  refine lu_get X fl11_138 rfl kC_1 lC_1 dX11_standing_20 (pc2 := 23) rfl ?_
  refine lu_icmp_ge (tgt := 53) X dX11_standing_23 (pc2 := 26) rfl (by decide) (fun _ => ?_) (fun _ => ?_)
  · exact lu_sub [2] rfl (hK53 v2 m)
  · refine lu_aload_n X dX11_standing_26 (pc2 := 27) rfl rfl 0 rfl ?_
    refine lu_getr (r2 := 1) X rfl fl11_18 rfl kC_0 lC_0 dX11_standing_27 (pc2 := 30) rfl ?_
    refine lu_getr (r2 := 29) X rfl fl11_115 rfl kC_1 lC_1 dX11_standing_30 (pc2 := 33) rfl ?_
    refine lu_iload_n X dX11_standing_33 (pc2 := 34) rfl rfl 3 rfl ?_
    refine lu_invVi X (c1_how _ kC_29 lC_29 v3) rfl q541 mvV_1_how kC_29 lC_29 (by decide) ⟨_, rfl, rfl⟩ rfl rfl (Nat.le_of_ble_eq_true rfl) (Nat.le_of_ble_eq_true rfl) (Nat.le_of_ble_eq_true rfl) ⟨Nat.zero_le _, Nat.zero_le _⟩ dX11_standing_34 (pc2 := 37) rfl rfl (fun x3 m4 => ?_)
    refine lu_iload_n X dX11_standing_37 (pc2 := 38) rfl rfl 1 rfl ?_
    refine lu_icmp_ne (tgt := 47) X dX11_standing_38 (pc2 := 41) rfl (by decide) (fun _ => ?_) (fun _ => ?_)
    · exact w11_standing_b47 X hret hrec hK53 v2 v3 m4
    · refine lu_iload_n X dX11_standing_41 (pc2 := 42) rfl rfl 2 rfl ?_
      refine lu_iconst X dX11_standing_42 (pc2 := 43) rfl ic_1 ?_
      refine lu_iload_n X dX11_standing_43 (pc2 := 44) rfl rfl 3 rfl ?_
      refine lu_ishl X dX11_standing_44 (pc2 := 45) rfl ?_
      refine lu_ior X dX11_standing_45 (pc2 := 46) rfl ?_
      refine lu_topi (fun x5 => ?_)
      refine lu_istore_n (lv2 := [(2, .int x5), (0, .ref (ρ 0)), (1, .int a1), (3, .int v3)]) X dX11_standing_46 (pc2 := 47) rfl rfl (by decide) rfl ?_
      exact lu_sub [1, 2, 0, 3] rfl (w11_standing_b47 X hret hrec hK53 x5 v3 m4)
theorem w11_standing_b15  {G : lu_G} {ρ : Nat → Nat} {a1 : Int32} {K53 : Int32 → lu_M → Option (Int32 × lu_M)} (X : lu_X G RX11 cX11_standing 4 2 42) (hret : (lu_me G).sig.returnType = (some .int))  (hK53 : ∀ (v2 : Int32) (m : lu_M), lu_Ab lu_TC G (lu_Q lu_TC G ρ lu_RVi lu_sn) (K53 v2 m) 53 [(2, .int v2)] [] ρ 0 0 [] m) : ∀ (n : Nat) (v2 : Int32) (v3 : Int32) (m : lu_M), lu_Ab lu_TC G (lu_Q lu_TC G ρ lu_RVi lu_sn) (f11_standing_b15 K53 a1 n v2 v3 m) 15 [(0, .ref (ρ 0)), (1, .int a1), (2, .int v2), (3, .int v3)] [] ρ 0 0 [] m := by
  intro n
  induction n with
  | zero => intro v2 v3 m; exact lu_none
  | succ n ih => intro v2 v3 m; exact w11_standing_b15B X hret hK53 ih v2 v3 m
def f11_standing_b53  (a1 : Int32) (v2 : Int32) (m : lu_M) : Option (Int32 × lu_M) :=
  some (v2, m)
set_option maxRecDepth 20000 in
theorem w11_standing_b53  {G : lu_G} {ρ : Nat → Nat} {a1 : Int32}  (X : lu_X G RX11 cX11_standing 4 2 42) (hret : (lu_me G).sig.returnType = (some .int))   : ∀ (v2 : Int32) (m : lu_M), lu_Ab lu_TC G (lu_Q lu_TC G ρ lu_RVi lu_sn) (f11_standing_b53 a1 v2 m) 53 [(2, .int v2)] [] ρ 0 0 [] m := by
  intro v2 m
  unfold f11_standing_b53
  refine lu_iload_n X dX11_standing_53 (pc2 := 54) rfl rfl 0 rfl ?_
  exact lu_iret X hret dX11_standing_54
def f11_standing (a1 : Int32) (m : lu_M) : Option (Int32 × lu_M) :=
  lu_bi (f11_isWithin a1 (0 : Int32) (4 : Int32) m) fun x1 m2 =>
  if x1 = 0 then (some ((-1 : Int32), m2))
  else (f11_standing_b15 (f11_standing_b53 a1) a1 lu_fu (0 : Int32) (0 : Int32) m2)
set_option maxRecDepth 20000 in
theorem c11_standing (l : Launch)   (a1 : Int32) : lu_C lu_TC l yX11_standing cX11_standing 4 (some .int) 2 42 (fun ρ sa => [.ref (ρ 0), .int a1]) (f11_standing a1) lu_RVi lu_sn := by
  refine lu_met (cls := RX11) rfl (by decide +kernel) (fun _ _ => Nat.le_of_ble_eq_true rfl) ?_
  intro G ρ m hl X hret
  subst hl
  change lu_Ab lu_TC G (lu_Q lu_TC G ρ lu_RVi lu_sn) (f11_standing a1 m) 0 [(0, .ref (ρ 0)), (1, .int a1)] [] ρ 0 0 [] m
  unfold f11_standing
  refine lu_iload_n X dX11_standing_0 (pc2 := 1) rfl rfl 1 rfl ?_
  refine lu_iconst X dX11_standing_1 (pc2 := 2) rfl ic_0 ?_
  refine lu_iconst X dX11_standing_2 (pc2 := 3) rfl ic_4 ?_
  refine lu_invSi X (c11_isWithin _ a1 (0 : Int32) (4 : Int32)) rfl q433 mvS_11_isWithin rfl rfl (Nat.le_of_ble_eq_true rfl) (Nat.le_of_ble_eq_true rfl) (Nat.le_of_ble_eq_true rfl) ⟨Nat.zero_le _, Nat.zero_le _⟩ dX11_standing_3 (pc2 := 6) rfl rfl (fun x1 m2 => ?_)
  refine lu_if_ne (tgt := 11) X dX11_standing_6 (pc2 := 9) rfl (by decide) (fun _ => ?_) (fun _ => ?_)
  · refine lu_iconst X dX11_standing_11 (pc2 := 12) rfl ic_0 ?_
    refine lu_istore_n (lv2 := [(2, .int (0 : Int32)), (0, .ref (ρ 0)), (1, .int a1)]) X dX11_standing_12 (pc2 := 13) rfl rfl (by decide) rfl ?_
    refine lu_iconst X dX11_standing_13 (pc2 := 14) rfl ic_0 ?_
    refine lu_istore_n (lv2 := [(3, .int (0 : Int32)), (2, .int (0 : Int32)), (0, .ref (ρ 0)), (1, .int a1)]) X dX11_standing_14 (pc2 := 15) rfl rfl (by decide) rfl ?_
    exact lu_sub [2, 3, 1, 0] rfl (w11_standing_b15 X hret (w11_standing_b53 X hret) lu_fu (0 : Int32) (0 : Int32) m2)
  · refine lu_iconst X dX11_standing_9 (pc2 := 10) rfl ic_m1 ?_
    exact lu_iret X hret dX11_standing_10

theorem dX11_leaves_0 : decode cX11_leaves 0 = .ok (.aload_n 0, 1) := by decide +kernel
theorem dX11_leaves_1 : decode cX11_leaves 1 = .ok (.getfield 18, 3) := by decide +kernel
theorem dX11_leaves_4 : decode cX11_leaves 4 = .ok (.iload_n 1, 1) := by decide +kernel
theorem dX11_leaves_5 : decode cX11_leaves 5 = .ok (.invokevirtual 102, 3) := by decide +kernel
theorem dX11_leaves_8 : decode cX11_leaves 8 = .ok (.ifCond .ne 5, 3) := by decide +kernel
theorem dX11_leaves_11 : decode cX11_leaves 11 = .ok (.iconst (-1), 1) := by decide +kernel
theorem dX11_leaves_12 : decode cX11_leaves 12 = .ok (.ireturn, 1) := by decide +kernel
theorem dX11_leaves_13 : decode cX11_leaves 13 = .ok (.aload_n 0, 1) := by decide +kernel
theorem dX11_leaves_14 : decode cX11_leaves 14 = .ok (.getfield 18, 3) := by decide +kernel
theorem dX11_leaves_17 : decode cX11_leaves 17 = .ok (.aload_n 0, 1) := by decide +kernel
theorem dX11_leaves_18 : decode cX11_leaves 18 = .ok (.getfield 32, 3) := by decide +kernel
theorem dX11_leaves_21 : decode cX11_leaves 21 = .ok (.invokevirtual 199, 3) := by decide +kernel
theorem dX11_leaves_24 : decode cX11_leaves 24 = .ok (.aload_n 0, 1) := by decide +kernel
theorem dX11_leaves_25 : decode cX11_leaves 25 = .ok (.getfield 18, 3) := by decide +kernel
theorem dX11_leaves_28 : decode cX11_leaves 28 = .ok (.iload_n 1, 1) := by decide +kernel
theorem dX11_leaves_29 : decode cX11_leaves 29 = .ok (.aload_n 0, 1) := by decide +kernel
theorem dX11_leaves_30 : decode cX11_leaves 30 = .ok (.getfield 32, 3) := by decide +kernel
theorem dX11_leaves_33 : decode cX11_leaves 33 = .ok (.invokevirtual 118, 3) := by decide +kernel
theorem dX11_leaves_36 : decode cX11_leaves 36 = .ok (.ireturn, 1) := by decide +kernel
def f11_leaves (a1 : Int32) (m : lu_M) : Option (Int32 × lu_M) :=
  lu_bi (f10_isPerson 1 a1 m) fun x1 m2 =>
  if x1 = 0 then (some ((-1 : Int32), m2))
  else (lu_bv (f10_rest 1 73 m2) fun m3 =>
  lu_bi (f10_borne 1 a1 73 m3) fun x4 m5 =>
  some (x4, m5))
set_option maxRecDepth 20000 in
theorem c11_leaves (l : Launch)   (a1 : Int32) : lu_C lu_TC l yX11_leaves cX11_leaves 2 (some .int) 6 144 (fun ρ sa => [.ref (ρ 0), .int a1]) (f11_leaves a1) lu_RVi lu_sn := by
  refine lu_met (cls := RX11) rfl (by decide +kernel) (fun _ _ => Nat.le_of_ble_eq_true rfl) ?_
  intro G ρ m hl X hret
  subst hl
  change lu_Ab lu_TC G (lu_Q lu_TC G ρ lu_RVi lu_sn) (f11_leaves a1 m) 0 [(0, .ref (ρ 0)), (1, .int a1)] [] ρ 0 0 [] m
  unfold f11_leaves
  refine lu_aload_n X dX11_leaves_0 (pc2 := 1) rfl rfl 0 rfl ?_
  refine lu_getr (r2 := 1) X rfl fl11_18 rfl kC_0 lC_0 dX11_leaves_1 (pc2 := 4) rfl ?_
  refine lu_iload_n X dX11_leaves_4 (pc2 := 5) rfl rfl 1 rfl ?_
  refine lu_invVi X (c10_isPerson _ kC_1 lC_1 a1) rfl q440 mvV_10_isPerson kC_1 lC_1 (by decide) ⟨_, rfl, rfl⟩ rfl rfl (Nat.le_of_ble_eq_true rfl) (Nat.le_of_ble_eq_true rfl) (Nat.le_of_ble_eq_true rfl) ⟨Nat.zero_le _, Nat.zero_le _⟩ dX11_leaves_5 (pc2 := 8) rfl rfl (fun x1 m2 => ?_)
  refine lu_if_ne (tgt := 13) X dX11_leaves_8 (pc2 := 11) rfl (by decide) (fun _ => ?_) (fun _ => ?_)
  · refine lu_aload_n X dX11_leaves_13 (pc2 := 14) rfl rfl 0 rfl ?_
    refine lu_getr (r2 := 1) X rfl fl11_18 rfl kC_0 lC_0 dX11_leaves_14 (pc2 := 17) rfl ?_
    refine lu_aload_n X dX11_leaves_17 (pc2 := 18) rfl rfl 0 rfl ?_
    refine lu_getr (r2 := 73) X rfl fl11_32 rfl kC_0 lC_0 dX11_leaves_18 (pc2 := 21) rfl ?_
    refine lu_invVv X (c10_rest _ kC_1 lC_1 kC_73 lC_73) rfl q748 mvV_10_rest kC_1 lC_1 (by decide) ⟨_, rfl, rfl⟩ rfl rfl (Nat.le_of_ble_eq_true rfl) (Nat.le_of_ble_eq_true rfl) (Nat.le_of_ble_eq_true rfl) ⟨Nat.zero_le _, Nat.zero_le _⟩ dX11_leaves_21 (pc2 := 24) rfl rfl (fun m3 => ?_)
    refine lu_aload_n X dX11_leaves_24 (pc2 := 25) rfl rfl 0 rfl ?_
    refine lu_getr (r2 := 1) X rfl fl11_18 rfl kC_0 lC_0 dX11_leaves_25 (pc2 := 28) rfl ?_
    refine lu_iload_n X dX11_leaves_28 (pc2 := 29) rfl rfl 1 rfl ?_
    refine lu_aload_n X dX11_leaves_29 (pc2 := 30) rfl rfl 0 rfl ?_
    refine lu_getr (r2 := 73) X rfl fl11_32 rfl kC_0 lC_0 dX11_leaves_30 (pc2 := 33) rfl ?_
    refine lu_invVi X (c10_borne _ kC_1 lC_1 kC_73 lC_73 a1) rfl q445 mvV_10_borne kC_1 lC_1 (by decide) ⟨_, rfl, rfl⟩ rfl rfl (Nat.le_of_ble_eq_true rfl) (Nat.le_of_ble_eq_true rfl) (Nat.le_of_ble_eq_true rfl) ⟨Nat.zero_le _, Nat.zero_le _⟩ dX11_leaves_33 (pc2 := 36) rfl rfl (fun x4 m5 => ?_)
    exact lu_iret X hret dX11_leaves_36
  · refine lu_iconst X dX11_leaves_11 (pc2 := 12) rfl ic_m1 ?_
    exact lu_iret X hret dX11_leaves_12

theorem dX11_on_0 : decode cX11_on 0 = .ok (.iload_n 1, 1) := by decide +kernel
theorem dX11_on_1 : decode cX11_on 1 = .ok (.iconst 0, 1) := by decide +kernel
theorem dX11_on_2 : decode cX11_on 2 = .ok (.bipush 16, 2) := by decide +kernel
theorem dX11_on_4 : decode cX11_on 4 = .ok (.invokestatic 92, 3) := by decide +kernel
theorem dX11_on_7 : decode cX11_on 7 = .ok (.ifCond .ne 5, 3) := by decide +kernel
theorem dX11_on_10 : decode cX11_on 10 = .ok (.iconst (-1), 1) := by decide +kernel
theorem dX11_on_11 : decode cX11_on 11 = .ok (.ireturn, 1) := by decide +kernel
theorem dX11_on_12 : decode cX11_on 12 = .ok (.aload_n 0, 1) := by decide +kernel
theorem dX11_on_13 : decode cX11_on 13 = .ok (.getfield 32, 3) := by decide +kernel
theorem dX11_on_16 : decode cX11_on 16 = .ok (.aload_n 0, 1) := by decide +kernel
theorem dX11_on_17 : decode cX11_on 17 = .ok (.getfield 18, 3) := by decide +kernel
theorem dX11_on_20 : decode cX11_on 20 = .ok (.getfield 115, 3) := by decide +kernel
theorem dX11_on_23 : decode cX11_on 23 = .ok (.invokevirtual 203, 3) := by decide +kernel
theorem dX11_on_26 : decode cX11_on 26 = .ok (.iconst 0, 1) := by decide +kernel
theorem dX11_on_27 : decode cX11_on 27 = .ok (.istore_n 2, 1) := by decide +kernel
theorem dX11_on_28 : decode cX11_on 28 = .ok (.iload_n 2, 1) := by decide +kernel
theorem dX11_on_29 : decode cX11_on 29 = .ok (.iload_n 1, 1) := by decide +kernel
theorem dX11_on_30 : decode cX11_on 30 = .ok (.if_icmp .ge 36, 3) := by decide +kernel
theorem dX11_on_33 : decode cX11_on 33 = .ok (.aload_n 0, 1) := by decide +kernel
theorem dX11_on_34 : decode cX11_on 34 = .ok (.getfield 18, 3) := by decide +kernel
theorem dX11_on_37 : decode cX11_on 37 = .ok (.aload_n 0, 1) := by decide +kernel
theorem dX11_on_38 : decode cX11_on 38 = .ok (.getfield 32, 3) := by decide +kernel
theorem dX11_on_41 : decode cX11_on 41 = .ok (.invokevirtual 168, 3) := by decide +kernel
theorem dX11_on_44 : decode cX11_on 44 = .ok (.ifCond .ne 22, 3) := by decide +kernel
theorem dX11_on_47 : decode cX11_on 47 = .ok (.aload_n 0, 1) := by decide +kernel
theorem dX11_on_48 : decode cX11_on 48 = .ok (.getfield 18, 3) := by decide +kernel
theorem dX11_on_51 : decode cX11_on 51 = .ok (.aload_n 0, 1) := by decide +kernel
theorem dX11_on_52 : decode cX11_on 52 = .ok (.getfield 32, 3) := by decide +kernel
theorem dX11_on_55 : decode cX11_on 55 = .ok (.iconst 0, 1) := by decide +kernel
theorem dX11_on_56 : decode cX11_on 56 = .ok (.invokevirtual 195, 3) := by decide +kernel
theorem dX11_on_59 : decode cX11_on 59 = .ok (.pop, 1) := by decide +kernel
theorem dX11_on_60 : decode cX11_on 60 = .ok (.iinc 2 1, 3) := by decide +kernel
theorem dX11_on_63 : decode cX11_on 63 = .ok (.goto (-35), 3) := by decide +kernel
theorem dX11_on_66 : decode cX11_on 66 = .ok (.aload_n 0, 1) := by decide +kernel
theorem dX11_on_67 : decode cX11_on 67 = .ok (.getfield 32, 3) := by decide +kernel
theorem dX11_on_70 : decode cX11_on 70 = .ok (.getfield 165, 3) := by decide +kernel
theorem dX11_on_73 : decode cX11_on 73 = .ok (.ireturn, 1) := by decide +kernel
def f11_on_b28B (K66 : lu_M → Option (Int32 × lu_M)) (rec : Int32 → lu_M → Option (Int32 × lu_M)) (a1 : Int32) (v2 : Int32) (m : lu_M) : Option (Int32 × lu_M) :=
  if a1 ≤ v2 then (K66 m)
  else (lu_bi (f10_isOver 1 73 m) fun x4 m5 =>
  if x4 = 0 then (lu_bi (f10_pass 1 73 (0 : Int32) m5) fun x6 m7 =>
  rec (v2 + (1 : Int32)) m7)
  else (K66 m5))
def f11_on_b28 (K66 : lu_M → Option (Int32 × lu_M)) (a1 : Int32) : Nat → Int32 → lu_M → Option (Int32 × lu_M)
  | 0, _, _ => none
  | n + 1, v2, m => f11_on_b28B K66 (f11_on_b28 K66 a1 n) a1 v2 m
set_option maxRecDepth 20000 in
theorem w11_on_b28B  {G : lu_G} {ρ : Nat → Nat} {a1 : Int32} {K66 : lu_M → Option (Int32 × lu_M)} {rec : Int32 → lu_M → Option (Int32 × lu_M)} (X : lu_X G RX11 cX11_on 3 5 122) (hret : (lu_me G).sig.returnType = (some .int))  (hK66 : ∀  (m : lu_M), lu_Ab lu_TC G (lu_Q lu_TC G ρ lu_RVi lu_sn) (K66 m) 66 [(0, .ref (ρ 0))] [] ρ 0 0 [] m) (hrec : ∀ (v2 : Int32) (m : lu_M), lu_Ab lu_TC G (lu_Q lu_TC G ρ lu_RVi lu_sn) (rec v2 m) 28 [(0, .ref (ρ 0)), (1, .int a1), (2, .int v2)] [] ρ 0 0 [] m) : ∀ (v2 : Int32) (m : lu_M), lu_Ab lu_TC G (lu_Q lu_TC G ρ lu_RVi lu_sn) (f11_on_b28B K66 rec a1 v2 m) 28 [(0, .ref (ρ 0)), (1, .int a1), (2, .int v2)] [] ρ 0 0 [] m := by
  intro v2 m
  unfold f11_on_b28B
  refine lu_iload_n X dX11_on_28 (pc2 := 29) rfl rfl 2 rfl ?_
  refine lu_iload_n X dX11_on_29 (pc2 := 30) rfl rfl 1 rfl ?_
  refine lu_icmp_ge (tgt := 66) X dX11_on_30 (pc2 := 33) rfl (by decide) (fun _ => ?_) (fun _ => ?_)
  · exact lu_sub [0] rfl (hK66 m)
  · refine lu_aload_n X dX11_on_33 (pc2 := 34) rfl rfl 0 rfl ?_
    refine lu_getr (r2 := 1) X rfl fl11_18 rfl kC_0 lC_0 dX11_on_34 (pc2 := 37) rfl ?_
    refine lu_aload_n X dX11_on_37 (pc2 := 38) rfl rfl 0 rfl ?_
    refine lu_getr (r2 := 73) X rfl fl11_32 rfl kC_0 lC_0 dX11_on_38 (pc2 := 41) rfl ?_
    refine lu_invVi X (c10_isOver _ kC_1 lC_1 kC_73 lC_73) rfl q565 mvV_10_isOver kC_1 lC_1 (by decide) ⟨_, rfl, rfl⟩ rfl rfl (Nat.le_of_ble_eq_true rfl) (Nat.le_of_ble_eq_true rfl) (Nat.le_of_ble_eq_true rfl) ⟨Nat.zero_le _, Nat.zero_le _⟩ dX11_on_41 (pc2 := 44) rfl rfl (fun x4 m5 => ?_)
    refine lu_if_ne (tgt := 66) X dX11_on_44 (pc2 := 47) rfl (by decide) (fun _ => ?_) (fun _ => ?_)
    · exact lu_sub [0] rfl (hK66 m5)
    · refine lu_aload_n X dX11_on_47 (pc2 := 48) rfl rfl 0 rfl ?_
      refine lu_getr (r2 := 1) X rfl fl11_18 rfl kC_0 lC_0 dX11_on_48 (pc2 := 51) rfl ?_
      refine lu_aload_n X dX11_on_51 (pc2 := 52) rfl rfl 0 rfl ?_
      refine lu_getr (r2 := 73) X rfl fl11_32 rfl kC_0 lC_0 dX11_on_52 (pc2 := 55) rfl ?_
      refine lu_iconst X dX11_on_55 (pc2 := 56) rfl ic_0 ?_
      refine lu_invVi X (c10_pass _ kC_1 lC_1 kC_73 lC_73 (0 : Int32)) rfl q721 mvV_10_pass kC_1 lC_1 (by decide) ⟨_, rfl, rfl⟩ rfl rfl (Nat.le_of_ble_eq_true rfl) (Nat.le_of_ble_eq_true rfl) (Nat.le_of_ble_eq_true rfl) ⟨Nat.zero_le _, Nat.zero_le _⟩ dX11_on_56 (pc2 := 59) rfl rfl (fun x6 m7 => ?_)
      refine lu_pop X dX11_on_59 (pc2 := 60) rfl rfl ?_
      refine lu_iinc (lv2 := [(2, .int (v2 + (1 : Int32))), (0, .ref (ρ 0)), (1, .int a1)]) X dX11_on_60 (pc2 := 63) rfl 2 rfl (lu_ii _ ic_1) (by decide) rfl ?_
      refine lu_goto (tgt := 28) X dX11_on_63 (by decide) ?_
      exact lu_sub [1, 2, 0] rfl (hrec (v2 + (1 : Int32)) m7)
theorem w11_on_b28  {G : lu_G} {ρ : Nat → Nat} {a1 : Int32} {K66 : lu_M → Option (Int32 × lu_M)} (X : lu_X G RX11 cX11_on 3 5 122) (hret : (lu_me G).sig.returnType = (some .int))  (hK66 : ∀  (m : lu_M), lu_Ab lu_TC G (lu_Q lu_TC G ρ lu_RVi lu_sn) (K66 m) 66 [(0, .ref (ρ 0))] [] ρ 0 0 [] m) : ∀ (n : Nat) (v2 : Int32) (m : lu_M), lu_Ab lu_TC G (lu_Q lu_TC G ρ lu_RVi lu_sn) (f11_on_b28 K66 a1 n v2 m) 28 [(0, .ref (ρ 0)), (1, .int a1), (2, .int v2)] [] ρ 0 0 [] m := by
  intro n
  induction n with
  | zero => intro v2 m; exact lu_none
  | succ n ih => intro v2 m; exact w11_on_b28B X hret hK66 ih v2 m
def f11_on_b66  (a1 : Int32)  (m : lu_M) : Option (Int32 × lu_M) :=
  some ((m 73 5), m)
set_option maxRecDepth 20000 in
theorem w11_on_b66  {G : lu_G} {ρ : Nat → Nat} {a1 : Int32}  (X : lu_X G RX11 cX11_on 3 5 122) (hret : (lu_me G).sig.returnType = (some .int))   : ∀  (m : lu_M), lu_Ab lu_TC G (lu_Q lu_TC G ρ lu_RVi lu_sn) (f11_on_b66 a1 m) 66 [(0, .ref (ρ 0))] [] ρ 0 0 [] m := by
  intro  m
  unfold f11_on_b66
  refine lu_aload_n X dX11_on_66 (pc2 := 67) rfl rfl 0 rfl ?_
  refine lu_getr (r2 := 73) X rfl fl11_32 rfl kC_0 lC_0 dX11_on_67 (pc2 := 70) rfl ?_
  refine lu_get X fl11_165 rfl kC_73 lC_73 dX11_on_70 (pc2 := 73) rfl ?_
  exact lu_iret X hret dX11_on_73
def f11_on (a1 : Int32) (m : lu_M) : Option (Int32 × lu_M) :=
  lu_bi (f11_isWithin a1 (0 : Int32) (16 : Int32) m) fun x1 m2 =>
  if x1 = 0 then (some ((-1 : Int32), m2))
  else (lu_bv (f1_begin 73 29 m2) fun m3 =>
  f11_on_b28 (f11_on_b66 a1) a1 lu_fu (0 : Int32) m3)
set_option maxRecDepth 20000 in
theorem c11_on (l : Launch)   (a1 : Int32) : lu_C lu_TC l yX11_on cX11_on 3 (some .int) 5 122 (fun ρ sa => [.ref (ρ 0), .int a1]) (f11_on a1) lu_RVi lu_sn := by
  refine lu_met (cls := RX11) rfl (by decide +kernel) (fun _ _ => Nat.le_of_ble_eq_true rfl) ?_
  intro G ρ m hl X hret
  subst hl
  change lu_Ab lu_TC G (lu_Q lu_TC G ρ lu_RVi lu_sn) (f11_on a1 m) 0 [(0, .ref (ρ 0)), (1, .int a1)] [] ρ 0 0 [] m
  unfold f11_on
  refine lu_iload_n X dX11_on_0 (pc2 := 1) rfl rfl 1 rfl ?_
  refine lu_iconst X dX11_on_1 (pc2 := 2) rfl ic_0 ?_
  refine lu_bipush X dX11_on_2 (pc2 := 4) rfl bp_16 ?_
  refine lu_invSi X (c11_isWithin _ a1 (0 : Int32) (16 : Int32)) rfl q433 mvS_11_isWithin rfl rfl (Nat.le_of_ble_eq_true rfl) (Nat.le_of_ble_eq_true rfl) (Nat.le_of_ble_eq_true rfl) ⟨Nat.zero_le _, Nat.zero_le _⟩ dX11_on_4 (pc2 := 7) rfl rfl (fun x1 m2 => ?_)
  refine lu_if_ne (tgt := 12) X dX11_on_7 (pc2 := 10) rfl (by decide) (fun _ => ?_) (fun _ => ?_)
  · refine lu_aload_n X dX11_on_12 (pc2 := 13) rfl rfl 0 rfl ?_
    refine lu_getr (r2 := 73) X rfl fl11_32 rfl kC_0 lC_0 dX11_on_13 (pc2 := 16) rfl ?_
    refine lu_aload_n X dX11_on_16 (pc2 := 17) rfl rfl 0 rfl ?_
    refine lu_getr (r2 := 1) X rfl fl11_18 rfl kC_0 lC_0 dX11_on_17 (pc2 := 20) rfl ?_
    refine lu_getr (r2 := 29) X rfl fl11_115 rfl kC_1 lC_1 dX11_on_20 (pc2 := 23) rfl ?_
    refine lu_invVv X (c1_begin _ kC_73 lC_73 kC_29 lC_29) rfl q766 mvV_1_begin kC_73 lC_73 (by decide) ⟨_, rfl, rfl⟩ rfl rfl (Nat.le_of_ble_eq_true rfl) (Nat.le_of_ble_eq_true rfl) (Nat.le_of_ble_eq_true rfl) ⟨Nat.zero_le _, Nat.zero_le _⟩ dX11_on_23 (pc2 := 26) rfl rfl (fun m3 => ?_)
    refine lu_iconst X dX11_on_26 (pc2 := 27) rfl ic_0 ?_
    refine lu_istore_n (lv2 := [(2, .int (0 : Int32)), (0, .ref (ρ 0)), (1, .int a1)]) X dX11_on_27 (pc2 := 28) rfl rfl (by decide) rfl ?_
    exact lu_sub [1, 2, 0] rfl (w11_on_b28 X hret (w11_on_b66 X hret) lu_fu (0 : Int32) m3)
  · refine lu_iconst X dX11_on_10 (pc2 := 11) rfl ic_m1 ?_
    exact lu_iret X hret dX11_on_11

theorem dX11_until_0 : decode cX11_until 0 = .ok (.aload_n 0, 1) := by decide +kernel
theorem dX11_until_1 : decode cX11_until 1 = .ok (.getfield 18, 3) := by decide +kernel
theorem dX11_until_4 : decode cX11_until 4 = .ok (.iload_n 1, 1) := by decide +kernel
theorem dX11_until_5 : decode cX11_until 5 = .ok (.invokevirtual 135, 3) := by decide +kernel
theorem dX11_until_8 : decode cX11_until 8 = .ok (.ifCond .ne 5, 3) := by decide +kernel
theorem dX11_until_11 : decode cX11_until 11 = .ok (.iconst (-1), 1) := by decide +kernel
theorem dX11_until_12 : decode cX11_until 12 = .ok (.ireturn, 1) := by decide +kernel
theorem dX11_until_13 : decode cX11_until 13 = .ok (.aload_n 0, 1) := by decide +kernel
theorem dX11_until_14 : decode cX11_until 14 = .ok (.getfield 32, 3) := by decide +kernel
theorem dX11_until_17 : decode cX11_until 17 = .ok (.aload_n 0, 1) := by decide +kernel
theorem dX11_until_18 : decode cX11_until 18 = .ok (.getfield 18, 3) := by decide +kernel
theorem dX11_until_21 : decode cX11_until 21 = .ok (.getfield 115, 3) := by decide +kernel
theorem dX11_until_24 : decode cX11_until 24 = .ok (.invokevirtual 203, 3) := by decide +kernel
theorem dX11_until_27 : decode cX11_until 27 = .ok (.aload_n 0, 1) := by decide +kernel
theorem dX11_until_28 : decode cX11_until 28 = .ok (.getfield 32, 3) := by decide +kernel
theorem dX11_until_31 : decode cX11_until 31 = .ok (.iload_n 1, 1) := by decide +kernel
theorem dX11_until_32 : decode cX11_until 32 = .ok (.invokevirtual 206, 3) := by decide +kernel
theorem dX11_until_35 : decode cX11_until 35 = .ok (.ifCond .eq 6, 3) := by decide +kernel
theorem dX11_until_38 : decode cX11_until 38 = .ok (.bipush (-3), 2) := by decide +kernel
theorem dX11_until_40 : decode cX11_until 40 = .ok (.ireturn, 1) := by decide +kernel
theorem dX11_until_41 : decode cX11_until 41 = .ok (.iconst 0, 1) := by decide +kernel
theorem dX11_until_42 : decode cX11_until 42 = .ok (.istore_n 2, 1) := by decide +kernel
theorem dX11_until_43 : decode cX11_until 43 = .ok (.iload_n 2, 1) := by decide +kernel
theorem dX11_until_44 : decode cX11_until 44 = .ok (.bipush 16, 2) := by decide +kernel
theorem dX11_until_46 : decode cX11_until 46 = .ok (.if_icmp .ge 57, 3) := by decide +kernel
theorem dX11_until_49 : decode cX11_until 49 = .ok (.aload_n 0, 1) := by decide +kernel
theorem dX11_until_50 : decode cX11_until 50 = .ok (.getfield 18, 3) := by decide +kernel
theorem dX11_until_53 : decode cX11_until 53 = .ok (.aload_n 0, 1) := by decide +kernel
theorem dX11_until_54 : decode cX11_until 54 = .ok (.getfield 32, 3) := by decide +kernel
theorem dX11_until_57 : decode cX11_until 57 = .ok (.invokevirtual 168, 3) := by decide +kernel
theorem dX11_until_60 : decode cX11_until 60 = .ok (.ifCond .ne 43, 3) := by decide +kernel
theorem dX11_until_63 : decode cX11_until 63 = .ok (.aload_n 0, 1) := by decide +kernel
theorem dX11_until_64 : decode cX11_until 64 = .ok (.getfield 32, 3) := by decide +kernel
theorem dX11_until_67 : decode cX11_until 67 = .ok (.getfield 122, 3) := by decide +kernel
theorem dX11_until_70 : decode cX11_until 70 = .ok (.istore_n 3, 1) := by decide +kernel
theorem dX11_until_71 : decode cX11_until 71 = .ok (.aload_n 0, 1) := by decide +kernel
theorem dX11_until_72 : decode cX11_until 72 = .ok (.getfield 18, 3) := by decide +kernel
theorem dX11_until_75 : decode cX11_until 75 = .ok (.aload_n 0, 1) := by decide +kernel
theorem dX11_until_76 : decode cX11_until 76 = .ok (.getfield 32, 3) := by decide +kernel
theorem dX11_until_79 : decode cX11_until 79 = .ok (.iconst 0, 1) := by decide +kernel
theorem dX11_until_80 : decode cX11_until 80 = .ok (.invokevirtual 195, 3) := by decide +kernel
theorem dX11_until_83 : decode cX11_until 83 = .ok (.pop, 1) := by decide +kernel
theorem dX11_until_84 : decode cX11_until 84 = .ok (.aload_n 0, 1) := by decide +kernel
theorem dX11_until_85 : decode cX11_until 85 = .ok (.getfield 32, 3) := by decide +kernel
theorem dX11_until_88 : decode cX11_until 88 = .ok (.iload_n 1, 1) := by decide +kernel
theorem dX11_until_89 : decode cX11_until 89 = .ok (.invokevirtual 206, 3) := by decide +kernel
theorem dX11_until_92 : decode cX11_until 92 = .ok (.ifCond .eq 5, 3) := by decide +kernel
theorem dX11_until_95 : decode cX11_until 95 = .ok (.iload_n 3, 1) := by decide +kernel
theorem dX11_until_96 : decode cX11_until 96 = .ok (.ireturn, 1) := by decide +kernel
theorem dX11_until_97 : decode cX11_until 97 = .ok (.iinc 2 1, 3) := by decide +kernel
theorem dX11_until_100 : decode cX11_until 100 = .ok (.goto (-57), 3) := by decide +kernel
theorem dX11_until_103 : decode cX11_until 103 = .ok (.bipush (-3), 2) := by decide +kernel
theorem dX11_until_105 : decode cX11_until 105 = .ok (.ireturn, 1) := by decide +kernel
def f11_until_b43B (K95 : Int32 → lu_M → Option (Int32 × lu_M)) (K103 : lu_M → Option (Int32 × lu_M)) (rec : Int32 → lu_M → Option (Int32 × lu_M)) (a1 : Int32) (v2 : Int32) (m : lu_M) : Option (Int32 × lu_M) :=
  if (16 : Int32) ≤ v2 then (K103 m)
  else (lu_bi (f10_isOver 1 73 m) fun x6 m7 =>
  if x6 = 0 then (lu_nm ((m7 73 0)) fun x8 =>
  lu_bi (f10_pass 1 73 (0 : Int32) m7) fun x9 m10 =>
  lu_bi (f1_isGone 73 a1 m10) fun x11 m12 =>
  if x11 = 0 then (rec (v2 + (1 : Int32)) m12)
  else (K95 x8 m12))
  else (K103 m7))
def f11_until_b43 (K95 : Int32 → lu_M → Option (Int32 × lu_M)) (K103 : lu_M → Option (Int32 × lu_M)) (a1 : Int32) : Nat → Int32 → lu_M → Option (Int32 × lu_M)
  | 0, _, _ => none
  | n + 1, v2, m => f11_until_b43B K95 K103 (f11_until_b43 K95 K103 a1 n) a1 v2 m
set_option maxRecDepth 20000 in
theorem w11_until_b43B  {G : lu_G} {ρ : Nat → Nat} {a1 : Int32} {K95 : Int32 → lu_M → Option (Int32 × lu_M)} {K103 : lu_M → Option (Int32 × lu_M)} {rec : Int32 → lu_M → Option (Int32 × lu_M)} (X : lu_X G RX11 cX11_until 4 5 122) (hret : (lu_me G).sig.returnType = (some .int))  (hK95 : ∀ (v3 : Int32) (m : lu_M), lu_Ab lu_TC G (lu_Q lu_TC G ρ lu_RVi lu_sn) (K95 v3 m) 95 [(3, .int v3)] [] ρ 0 0 [] m) (hK103 : ∀  (m : lu_M), lu_Ab lu_TC G (lu_Q lu_TC G ρ lu_RVi lu_sn) (K103 m) 103 [] [] ρ 0 0 [] m) (hrec : ∀ (v2 : Int32) (m : lu_M), lu_Ab lu_TC G (lu_Q lu_TC G ρ lu_RVi lu_sn) (rec v2 m) 43 [(0, .ref (ρ 0)), (1, .int a1), (2, .int v2)] [] ρ 0 0 [] m) : ∀ (v2 : Int32) (m : lu_M), lu_Ab lu_TC G (lu_Q lu_TC G ρ lu_RVi lu_sn) (f11_until_b43B K95 K103 rec a1 v2 m) 43 [(0, .ref (ρ 0)), (1, .int a1), (2, .int v2)] [] ρ 0 0 [] m := by
  intro v2 m
  unfold f11_until_b43B
  refine lu_iload_n X dX11_until_43 (pc2 := 44) rfl rfl 2 rfl ?_
  refine lu_bipush X dX11_until_44 (pc2 := 46) rfl bp_16 ?_
  refine lu_icmp_ge (tgt := 103) X dX11_until_46 (pc2 := 49) rfl (by decide) (fun _ => ?_) (fun _ => ?_)
  · exact lu_sub [] rfl (hK103 m)
  · refine lu_aload_n X dX11_until_49 (pc2 := 50) rfl rfl 0 rfl ?_
    refine lu_getr (r2 := 1) X rfl fl11_18 rfl kC_0 lC_0 dX11_until_50 (pc2 := 53) rfl ?_
    refine lu_aload_n X dX11_until_53 (pc2 := 54) rfl rfl 0 rfl ?_
    refine lu_getr (r2 := 73) X rfl fl11_32 rfl kC_0 lC_0 dX11_until_54 (pc2 := 57) rfl ?_
    refine lu_invVi X (c10_isOver _ kC_1 lC_1 kC_73 lC_73) rfl q565 mvV_10_isOver kC_1 lC_1 (by decide) ⟨_, rfl, rfl⟩ rfl rfl (Nat.le_of_ble_eq_true rfl) (Nat.le_of_ble_eq_true rfl) (Nat.le_of_ble_eq_true rfl) ⟨Nat.zero_le _, Nat.zero_le _⟩ dX11_until_57 (pc2 := 60) rfl rfl (fun x6 m7 => ?_)
    refine lu_if_ne (tgt := 103) X dX11_until_60 (pc2 := 63) rfl (by decide) (fun _ => ?_) (fun _ => ?_)
    · exact lu_sub [] rfl (hK103 m7)
    · refine lu_aload_n X dX11_until_63 (pc2 := 64) rfl rfl 0 rfl ?_
      refine lu_getr (r2 := 73) X rfl fl11_32 rfl kC_0 lC_0 dX11_until_64 (pc2 := 67) rfl ?_
      refine lu_get X fl11_122 rfl kC_73 lC_73 dX11_until_67 (pc2 := 70) rfl ?_
      refine lu_topi (fun x8 => ?_)
      refine lu_istore_n (lv2 := [(3, .int x8), (0, .ref (ρ 0)), (1, .int a1), (2, .int v2)]) X dX11_until_70 (pc2 := 71) rfl rfl (by decide) rfl ?_
      refine lu_aload_n X dX11_until_71 (pc2 := 72) rfl rfl 1 rfl ?_
      refine lu_getr (r2 := 1) X rfl fl11_18 rfl kC_0 lC_0 dX11_until_72 (pc2 := 75) rfl ?_
      refine lu_aload_n X dX11_until_75 (pc2 := 76) rfl rfl 1 rfl ?_
      refine lu_getr (r2 := 73) X rfl fl11_32 rfl kC_0 lC_0 dX11_until_76 (pc2 := 79) rfl ?_
      refine lu_iconst X dX11_until_79 (pc2 := 80) rfl ic_0 ?_
      refine lu_invVi X (c10_pass _ kC_1 lC_1 kC_73 lC_73 (0 : Int32)) rfl q721 mvV_10_pass kC_1 lC_1 (by decide) ⟨_, rfl, rfl⟩ rfl rfl (Nat.le_of_ble_eq_true rfl) (Nat.le_of_ble_eq_true rfl) (Nat.le_of_ble_eq_true rfl) ⟨Nat.zero_le _, Nat.zero_le _⟩ dX11_until_80 (pc2 := 83) rfl rfl (fun x9 m10 => ?_)
      refine lu_pop X dX11_until_83 (pc2 := 84) rfl rfl ?_
      refine lu_aload_n X dX11_until_84 (pc2 := 85) rfl rfl 1 rfl ?_
      refine lu_getr (r2 := 73) X rfl fl11_32 rfl kC_0 lC_0 dX11_until_85 (pc2 := 88) rfl ?_
      refine lu_iload_n X dX11_until_88 (pc2 := 89) rfl rfl 2 rfl ?_
      refine lu_invVi X (c1_isGone _ kC_73 lC_73 a1) rfl q771 mvV_1_isGone kC_73 lC_73 (by decide) ⟨_, rfl, rfl⟩ rfl rfl (Nat.le_of_ble_eq_true rfl) (Nat.le_of_ble_eq_true rfl) (Nat.le_of_ble_eq_true rfl) ⟨Nat.zero_le _, Nat.zero_le _⟩ dX11_until_89 (pc2 := 92) rfl rfl (fun x11 m12 => ?_)
      refine lu_if_eq (tgt := 97) X dX11_until_92 (pc2 := 95) rfl (by decide) (fun _ => ?_) (fun _ => ?_)
      · refine lu_iinc (lv2 := [(2, .int (v2 + (1 : Int32))), (3, .int x8), (0, .ref (ρ 0)), (1, .int a1)]) X dX11_until_97 (pc2 := 100) rfl 3 rfl (lu_ii _ ic_1) (by decide) rfl ?_
        refine lu_goto (tgt := 43) X dX11_until_100 (by decide) ?_
        exact lu_sub [2, 3, 0] rfl (hrec (v2 + (1 : Int32)) m12)
      · exact lu_sub [0] rfl (hK95 x8 m12)
theorem w11_until_b43  {G : lu_G} {ρ : Nat → Nat} {a1 : Int32} {K95 : Int32 → lu_M → Option (Int32 × lu_M)} {K103 : lu_M → Option (Int32 × lu_M)} (X : lu_X G RX11 cX11_until 4 5 122) (hret : (lu_me G).sig.returnType = (some .int))  (hK95 : ∀ (v3 : Int32) (m : lu_M), lu_Ab lu_TC G (lu_Q lu_TC G ρ lu_RVi lu_sn) (K95 v3 m) 95 [(3, .int v3)] [] ρ 0 0 [] m) (hK103 : ∀  (m : lu_M), lu_Ab lu_TC G (lu_Q lu_TC G ρ lu_RVi lu_sn) (K103 m) 103 [] [] ρ 0 0 [] m) : ∀ (n : Nat) (v2 : Int32) (m : lu_M), lu_Ab lu_TC G (lu_Q lu_TC G ρ lu_RVi lu_sn) (f11_until_b43 K95 K103 a1 n v2 m) 43 [(0, .ref (ρ 0)), (1, .int a1), (2, .int v2)] [] ρ 0 0 [] m := by
  intro n
  induction n with
  | zero => intro v2 m; exact lu_none
  | succ n ih => intro v2 m; exact w11_until_b43B X hret hK95 hK103 ih v2 m
def f11_until_b95  (a1 : Int32) (v3 : Int32) (m : lu_M) : Option (Int32 × lu_M) :=
  some (v3, m)
set_option maxRecDepth 20000 in
theorem w11_until_b95  {G : lu_G} {ρ : Nat → Nat} {a1 : Int32}  (X : lu_X G RX11 cX11_until 4 5 122) (hret : (lu_me G).sig.returnType = (some .int))   : ∀ (v3 : Int32) (m : lu_M), lu_Ab lu_TC G (lu_Q lu_TC G ρ lu_RVi lu_sn) (f11_until_b95 a1 v3 m) 95 [(3, .int v3)] [] ρ 0 0 [] m := by
  intro v3 m
  unfold f11_until_b95
  refine lu_iload_n X dX11_until_95 (pc2 := 96) rfl rfl 0 rfl ?_
  exact lu_iret X hret dX11_until_96
def f11_until_b103  (a1 : Int32)  (m : lu_M) : Option (Int32 × lu_M) :=
  some ((-3 : Int32), m)
set_option maxRecDepth 20000 in
theorem w11_until_b103  {G : lu_G} {ρ : Nat → Nat} {a1 : Int32}  (X : lu_X G RX11 cX11_until 4 5 122) (hret : (lu_me G).sig.returnType = (some .int))   : ∀  (m : lu_M), lu_Ab lu_TC G (lu_Q lu_TC G ρ lu_RVi lu_sn) (f11_until_b103 a1 m) 103 [] [] ρ 0 0 [] m := by
  intro  m
  unfold f11_until_b103
  refine lu_bipush X dX11_until_103 (pc2 := 105) rfl bp_m3 ?_
  exact lu_iret X hret dX11_until_105
def f11_until (a1 : Int32) (m : lu_M) : Option (Int32 × lu_M) :=
  lu_bi (f10_isDeed 1 a1 m) fun x1 m2 =>
  if x1 = 0 then (some ((-1 : Int32), m2))
  else (lu_bv (f1_begin 73 29 m2) fun m3 =>
  lu_bi (f1_isGone 73 a1 m3) fun x4 m5 =>
  if x4 = 0 then (f11_until_b43 (f11_until_b95 a1) (f11_until_b103 a1) a1 lu_fu (0 : Int32) m5)
  else (some ((-3 : Int32), m5)))
set_option maxRecDepth 20000 in
theorem c11_until (l : Launch)   (a1 : Int32) : lu_C lu_TC l yX11_until cX11_until 4 (some .int) 5 122 (fun ρ sa => [.ref (ρ 0), .int a1]) (f11_until a1) lu_RVi lu_sn := by
  refine lu_met (cls := RX11) rfl (by decide +kernel) (fun _ _ => Nat.le_of_ble_eq_true rfl) ?_
  intro G ρ m hl X hret
  subst hl
  change lu_Ab lu_TC G (lu_Q lu_TC G ρ lu_RVi lu_sn) (f11_until a1 m) 0 [(0, .ref (ρ 0)), (1, .int a1)] [] ρ 0 0 [] m
  unfold f11_until
  refine lu_aload_n X dX11_until_0 (pc2 := 1) rfl rfl 0 rfl ?_
  refine lu_getr (r2 := 1) X rfl fl11_18 rfl kC_0 lC_0 dX11_until_1 (pc2 := 4) rfl ?_
  refine lu_iload_n X dX11_until_4 (pc2 := 5) rfl rfl 1 rfl ?_
  refine lu_invVi X (c10_isDeed _ kC_1 lC_1 a1) rfl q533 mvV_10_isDeed kC_1 lC_1 (by decide) ⟨_, rfl, rfl⟩ rfl rfl (Nat.le_of_ble_eq_true rfl) (Nat.le_of_ble_eq_true rfl) (Nat.le_of_ble_eq_true rfl) ⟨Nat.zero_le _, Nat.zero_le _⟩ dX11_until_5 (pc2 := 8) rfl rfl (fun x1 m2 => ?_)
  refine lu_if_ne (tgt := 13) X dX11_until_8 (pc2 := 11) rfl (by decide) (fun _ => ?_) (fun _ => ?_)
  · refine lu_aload_n X dX11_until_13 (pc2 := 14) rfl rfl 0 rfl ?_
    refine lu_getr (r2 := 73) X rfl fl11_32 rfl kC_0 lC_0 dX11_until_14 (pc2 := 17) rfl ?_
    refine lu_aload_n X dX11_until_17 (pc2 := 18) rfl rfl 0 rfl ?_
    refine lu_getr (r2 := 1) X rfl fl11_18 rfl kC_0 lC_0 dX11_until_18 (pc2 := 21) rfl ?_
    refine lu_getr (r2 := 29) X rfl fl11_115 rfl kC_1 lC_1 dX11_until_21 (pc2 := 24) rfl ?_
    refine lu_invVv X (c1_begin _ kC_73 lC_73 kC_29 lC_29) rfl q766 mvV_1_begin kC_73 lC_73 (by decide) ⟨_, rfl, rfl⟩ rfl rfl (Nat.le_of_ble_eq_true rfl) (Nat.le_of_ble_eq_true rfl) (Nat.le_of_ble_eq_true rfl) ⟨Nat.zero_le _, Nat.zero_le _⟩ dX11_until_24 (pc2 := 27) rfl rfl (fun m3 => ?_)
    refine lu_aload_n X dX11_until_27 (pc2 := 28) rfl rfl 0 rfl ?_
    refine lu_getr (r2 := 73) X rfl fl11_32 rfl kC_0 lC_0 dX11_until_28 (pc2 := 31) rfl ?_
    refine lu_iload_n X dX11_until_31 (pc2 := 32) rfl rfl 1 rfl ?_
    refine lu_invVi X (c1_isGone _ kC_73 lC_73 a1) rfl q771 mvV_1_isGone kC_73 lC_73 (by decide) ⟨_, rfl, rfl⟩ rfl rfl (Nat.le_of_ble_eq_true rfl) (Nat.le_of_ble_eq_true rfl) (Nat.le_of_ble_eq_true rfl) ⟨Nat.zero_le _, Nat.zero_le _⟩ dX11_until_32 (pc2 := 35) rfl rfl (fun x4 m5 => ?_)
    refine lu_if_eq (tgt := 41) X dX11_until_35 (pc2 := 38) rfl (by decide) (fun _ => ?_) (fun _ => ?_)
    · refine lu_iconst X dX11_until_41 (pc2 := 42) rfl ic_0 ?_
      refine lu_istore_n (lv2 := [(2, .int (0 : Int32)), (0, .ref (ρ 0)), (1, .int a1)]) X dX11_until_42 (pc2 := 43) rfl rfl (by decide) rfl ?_
      exact lu_sub [1, 2, 0] rfl (w11_until_b43 X hret (w11_until_b95 X hret) (w11_until_b103 X hret) lu_fu (0 : Int32) m5)
    · refine lu_bipush X dX11_until_38 (pc2 := 40) rfl bp_m3 ?_
      exact lu_iret X hret dX11_until_40
  · refine lu_iconst X dX11_until_11 (pc2 := 12) rfl ic_m1 ?_
    exact lu_iret X hret dX11_until_12

theorem dX11_overdue_0 : decode cX11_overdue 0 = .ok (.aload_n 0, 1) := by decide +kernel
theorem dX11_overdue_1 : decode cX11_overdue 1 = .ok (.getfield 18, 3) := by decide +kernel
theorem dX11_overdue_4 : decode cX11_overdue 4 = .ok (.aload_n 0, 1) := by decide +kernel
theorem dX11_overdue_5 : decode cX11_overdue 5 = .ok (.getfield 32, 3) := by decide +kernel
theorem dX11_overdue_8 : decode cX11_overdue 8 = .ok (.invokevirtual 209, 3) := by decide +kernel
theorem dX11_overdue_11 : decode cX11_overdue 11 = .ok (.ireturn, 1) := by decide +kernel
def f11_overdue  (m : lu_M) : Option (Int32 × lu_M) :=
  lu_bi (f10_overdueInTheEnd 1 73 m) fun x1 m2 =>
  some (x1, m2)
set_option maxRecDepth 20000 in
theorem c11_overdue (l : Launch)    : lu_C lu_TC l yX11_overdue cX11_overdue 1 (some .int) 7 167 (fun ρ sa => [.ref (ρ 0)]) (f11_overdue ) lu_RVi lu_sn := by
  refine lu_met (cls := RX11) rfl (by decide +kernel) (fun _ _ => Nat.le_of_ble_eq_true rfl) ?_
  intro G ρ m hl X hret
  subst hl
  change lu_Ab lu_TC G (lu_Q lu_TC G ρ lu_RVi lu_sn) (f11_overdue  m) 0 [(0, .ref (ρ 0))] [] ρ 0 0 [] m
  unfold f11_overdue
  refine lu_aload_n X dX11_overdue_0 (pc2 := 1) rfl rfl 0 rfl ?_
  refine lu_getr (r2 := 1) X rfl fl11_18 rfl kC_0 lC_0 dX11_overdue_1 (pc2 := 4) rfl ?_
  refine lu_aload_n X dX11_overdue_4 (pc2 := 5) rfl rfl 0 rfl ?_
  refine lu_getr (r2 := 73) X rfl fl11_32 rfl kC_0 lC_0 dX11_overdue_5 (pc2 := 8) rfl ?_
  refine lu_invVi X (c10_overdueInTheEnd _ kC_1 lC_1 kC_73 lC_73) rfl q776 mvV_10_overdueInTheEnd kC_1 lC_1 (by decide) ⟨_, rfl, rfl⟩ rfl rfl (Nat.le_of_ble_eq_true rfl) (Nat.le_of_ble_eq_true rfl) (Nat.le_of_ble_eq_true rfl) ⟨Nat.zero_le _, Nat.zero_le _⟩ dX11_overdue_8 (pc2 := 11) rfl rfl (fun x1 m2 => ?_)
  exact lu_iret X hret dX11_overdue_11

theorem dX11_falls_0 : decode cX11_falls 0 = .ok (.aload_n 0, 1) := by decide +kernel
theorem dX11_falls_1 : decode cX11_falls 1 = .ok (.getfield 18, 3) := by decide +kernel
theorem dX11_falls_4 : decode cX11_falls 4 = .ok (.iload_n 1, 1) := by decide +kernel
theorem dX11_falls_5 : decode cX11_falls 5 = .ok (.invokevirtual 135, 3) := by decide +kernel
theorem dX11_falls_8 : decode cX11_falls 8 = .ok (.ifCond .ne 5, 3) := by decide +kernel
theorem dX11_falls_11 : decode cX11_falls 11 = .ok (.iconst (-1), 1) := by decide +kernel
theorem dX11_falls_12 : decode cX11_falls 12 = .ok (.ireturn, 1) := by decide +kernel
theorem dX11_falls_13 : decode cX11_falls 13 = .ok (.aload_n 0, 1) := by decide +kernel
theorem dX11_falls_14 : decode cX11_falls 14 = .ok (.getfield 18, 3) := by decide +kernel
theorem dX11_falls_17 : decode cX11_falls 17 = .ok (.getfield 115, 3) := by decide +kernel
theorem dX11_falls_20 : decode cX11_falls 20 = .ok (.iload_n 1, 1) := by decide +kernel
theorem dX11_falls_21 : decode cX11_falls 21 = .ok (.invokevirtual 213, 3) := by decide +kernel
theorem dX11_falls_24 : decode cX11_falls 24 = .ok (.ifCond .ne 6, 3) := by decide +kernel
theorem dX11_falls_27 : decode cX11_falls 27 = .ok (.bipush (-4), 2) := by decide +kernel
theorem dX11_falls_29 : decode cX11_falls 29 = .ok (.ireturn, 1) := by decide +kernel
theorem dX11_falls_30 : decode cX11_falls 30 = .ok (.aload_n 0, 1) := by decide +kernel
theorem dX11_falls_31 : decode cX11_falls 31 = .ok (.getfield 32, 3) := by decide +kernel
theorem dX11_falls_34 : decode cX11_falls 34 = .ok (.aload_n 0, 1) := by decide +kernel
theorem dX11_falls_35 : decode cX11_falls 35 = .ok (.getfield 18, 3) := by decide +kernel
theorem dX11_falls_38 : decode cX11_falls 38 = .ok (.getfield 115, 3) := by decide +kernel
theorem dX11_falls_41 : decode cX11_falls 41 = .ok (.invokevirtual 203, 3) := by decide +kernel
theorem dX11_falls_44 : decode cX11_falls 44 = .ok (.aload_n 0, 1) := by decide +kernel
theorem dX11_falls_45 : decode cX11_falls 45 = .ok (.getfield 18, 3) := by decide +kernel
theorem dX11_falls_48 : decode cX11_falls 48 = .ok (.aload_n 0, 1) := by decide +kernel
theorem dX11_falls_49 : decode cX11_falls 49 = .ok (.getfield 32, 3) := by decide +kernel
theorem dX11_falls_52 : decode cX11_falls 52 = .ok (.iload_n 1, 1) := by decide +kernel
theorem dX11_falls_53 : decode cX11_falls 53 = .ok (.invokevirtual 216, 3) := by decide +kernel
theorem dX11_falls_56 : decode cX11_falls 56 = .ok (.aload_n 0, 1) := by decide +kernel
theorem dX11_falls_57 : decode cX11_falls 57 = .ok (.getfield 32, 3) := by decide +kernel
theorem dX11_falls_60 : decode cX11_falls 60 = .ok (.getfield 220, 3) := by decide +kernel
theorem dX11_falls_63 : decode cX11_falls 63 = .ok (.aload_n 0, 1) := by decide +kernel
theorem dX11_falls_64 : decode cX11_falls 64 = .ok (.getfield 18, 3) := by decide +kernel
theorem dX11_falls_67 : decode cX11_falls 67 = .ok (.getfield 115, 3) := by decide +kernel
theorem dX11_falls_70 : decode cX11_falls 70 = .ok (.getfield 220, 3) := by decide +kernel
theorem dX11_falls_73 : decode cX11_falls 73 = .ok (.iconst (-1), 1) := by decide +kernel
theorem dX11_falls_74 : decode cX11_falls 74 = .ok (.ixor, 1) := by decide +kernel
theorem dX11_falls_75 : decode cX11_falls 75 = .ok (.iand, 1) := by decide +kernel
theorem dX11_falls_76 : decode cX11_falls 76 = .ok (.ireturn, 1) := by decide +kernel
def f11_falls (a1 : Int32) (m : lu_M) : Option (Int32 × lu_M) :=
  lu_bi (f10_isDeed 1 a1 m) fun x1 m2 =>
  if x1 = 0 then (some ((-1 : Int32), m2))
  else (lu_bi (f1_isStanding 29 a1 m2) fun x3 m4 =>
  if x3 = 0 then (some ((-4 : Int32), m4))
  else (lu_bv (f1_begin 73 29 m4) fun m5 =>
  lu_bv (f10_undo 1 73 a1 m5) fun m6 =>
  some (((m6 73 3) &&& ((m6 29 3) ^^^ (-1 : Int32))), m6)))
set_option maxRecDepth 20000 in
theorem c11_falls (l : Launch)   (a1 : Int32) : lu_C lu_TC l yX11_falls cX11_falls 2 (some .int) 2 44 (fun ρ sa => [.ref (ρ 0), .int a1]) (f11_falls a1) lu_RVi lu_sn := by
  refine lu_met (cls := RX11) rfl (by decide +kernel) (fun _ _ => Nat.le_of_ble_eq_true rfl) ?_
  intro G ρ m hl X hret
  subst hl
  change lu_Ab lu_TC G (lu_Q lu_TC G ρ lu_RVi lu_sn) (f11_falls a1 m) 0 [(0, .ref (ρ 0)), (1, .int a1)] [] ρ 0 0 [] m
  unfold f11_falls
  refine lu_aload_n X dX11_falls_0 (pc2 := 1) rfl rfl 0 rfl ?_
  refine lu_getr (r2 := 1) X rfl fl11_18 rfl kC_0 lC_0 dX11_falls_1 (pc2 := 4) rfl ?_
  refine lu_iload_n X dX11_falls_4 (pc2 := 5) rfl rfl 1 rfl ?_
  refine lu_invVi X (c10_isDeed _ kC_1 lC_1 a1) rfl q533 mvV_10_isDeed kC_1 lC_1 (by decide) ⟨_, rfl, rfl⟩ rfl rfl (Nat.le_of_ble_eq_true rfl) (Nat.le_of_ble_eq_true rfl) (Nat.le_of_ble_eq_true rfl) ⟨Nat.zero_le _, Nat.zero_le _⟩ dX11_falls_5 (pc2 := 8) rfl rfl (fun x1 m2 => ?_)
  refine lu_if_ne (tgt := 13) X dX11_falls_8 (pc2 := 11) rfl (by decide) (fun _ => ?_) (fun _ => ?_)
  · refine lu_aload_n X dX11_falls_13 (pc2 := 14) rfl rfl 0 rfl ?_
    refine lu_getr (r2 := 1) X rfl fl11_18 rfl kC_0 lC_0 dX11_falls_14 (pc2 := 17) rfl ?_
    refine lu_getr (r2 := 29) X rfl fl11_115 rfl kC_1 lC_1 dX11_falls_17 (pc2 := 20) rfl ?_
    refine lu_iload_n X dX11_falls_20 (pc2 := 21) rfl rfl 1 rfl ?_
    refine lu_invVi X (c1_isStanding _ kC_29 lC_29 a1) rfl q785 mvV_1_isStanding kC_29 lC_29 (by decide) ⟨_, rfl, rfl⟩ rfl rfl (Nat.le_of_ble_eq_true rfl) (Nat.le_of_ble_eq_true rfl) (Nat.le_of_ble_eq_true rfl) ⟨Nat.zero_le _, Nat.zero_le _⟩ dX11_falls_21 (pc2 := 24) rfl rfl (fun x3 m4 => ?_)
    refine lu_if_ne (tgt := 30) X dX11_falls_24 (pc2 := 27) rfl (by decide) (fun _ => ?_) (fun _ => ?_)
    · refine lu_aload_n X dX11_falls_30 (pc2 := 31) rfl rfl 0 rfl ?_
      refine lu_getr (r2 := 73) X rfl fl11_32 rfl kC_0 lC_0 dX11_falls_31 (pc2 := 34) rfl ?_
      refine lu_aload_n X dX11_falls_34 (pc2 := 35) rfl rfl 0 rfl ?_
      refine lu_getr (r2 := 1) X rfl fl11_18 rfl kC_0 lC_0 dX11_falls_35 (pc2 := 38) rfl ?_
      refine lu_getr (r2 := 29) X rfl fl11_115 rfl kC_1 lC_1 dX11_falls_38 (pc2 := 41) rfl ?_
      refine lu_invVv X (c1_begin _ kC_73 lC_73 kC_29 lC_29) rfl q766 mvV_1_begin kC_73 lC_73 (by decide) ⟨_, rfl, rfl⟩ rfl rfl (Nat.le_of_ble_eq_true rfl) (Nat.le_of_ble_eq_true rfl) (Nat.le_of_ble_eq_true rfl) ⟨Nat.zero_le _, Nat.zero_le _⟩ dX11_falls_41 (pc2 := 44) rfl rfl (fun m5 => ?_)
      refine lu_aload_n X dX11_falls_44 (pc2 := 45) rfl rfl 0 rfl ?_
      refine lu_getr (r2 := 1) X rfl fl11_18 rfl kC_0 lC_0 dX11_falls_45 (pc2 := 48) rfl ?_
      refine lu_aload_n X dX11_falls_48 (pc2 := 49) rfl rfl 0 rfl ?_
      refine lu_getr (r2 := 73) X rfl fl11_32 rfl kC_0 lC_0 dX11_falls_49 (pc2 := 52) rfl ?_
      refine lu_iload_n X dX11_falls_52 (pc2 := 53) rfl rfl 1 rfl ?_
      refine lu_invVv X (c10_undo _ kC_1 lC_1 kC_73 lC_73 a1) rfl q786 mvV_10_undo kC_1 lC_1 (by decide) ⟨_, rfl, rfl⟩ rfl rfl (Nat.le_of_ble_eq_true rfl) (Nat.le_of_ble_eq_true rfl) (Nat.le_of_ble_eq_true rfl) ⟨Nat.zero_le _, Nat.zero_le _⟩ dX11_falls_53 (pc2 := 56) rfl rfl (fun m6 => ?_)
      refine lu_aload_n X dX11_falls_56 (pc2 := 57) rfl rfl 0 rfl ?_
      refine lu_getr (r2 := 73) X rfl fl11_32 rfl kC_0 lC_0 dX11_falls_57 (pc2 := 60) rfl ?_
      refine lu_get X fl11_220 rfl kC_73 lC_73 dX11_falls_60 (pc2 := 63) rfl ?_
      refine lu_aload_n X dX11_falls_63 (pc2 := 64) rfl rfl 0 rfl ?_
      refine lu_getr (r2 := 1) X rfl fl11_18 rfl kC_0 lC_0 dX11_falls_64 (pc2 := 67) rfl ?_
      refine lu_getr (r2 := 29) X rfl fl11_115 rfl kC_1 lC_1 dX11_falls_67 (pc2 := 70) rfl ?_
      refine lu_get X fl11_220 rfl kC_29 lC_29 dX11_falls_70 (pc2 := 73) rfl ?_
      refine lu_iconst X dX11_falls_73 (pc2 := 74) rfl ic_m1 ?_
      refine lu_ixor X dX11_falls_74 (pc2 := 75) rfl ?_
      refine lu_iand X dX11_falls_75 (pc2 := 76) rfl ?_
      exact lu_iret X hret dX11_falls_76
    · refine lu_bipush X dX11_falls_27 (pc2 := 29) rfl bp_m4 ?_
      exact lu_iret X hret dX11_falls_29
  · refine lu_iconst X dX11_falls_11 (pc2 := 12) rfl ic_m1 ?_
    exact lu_iret X hret dX11_falls_12

theorem dX11_graceFor_0 : decode cX11_graceFor 0 = .ok (.aload_n 0, 1) := by decide +kernel
theorem dX11_graceFor_1 : decode cX11_graceFor 1 = .ok (.getfield 18, 3) := by decide +kernel
theorem dX11_graceFor_4 : decode cX11_graceFor 4 = .ok (.iload_n 1, 1) := by decide +kernel
theorem dX11_graceFor_5 : decode cX11_graceFor 5 = .ok (.invokevirtual 102, 3) := by decide +kernel
theorem dX11_graceFor_8 : decode cX11_graceFor 8 = .ok (.ifCond .ne 5, 3) := by decide +kernel
theorem dX11_graceFor_11 : decode cX11_graceFor 11 = .ok (.iconst (-1), 1) := by decide +kernel
theorem dX11_graceFor_12 : decode cX11_graceFor 12 = .ok (.ireturn, 1) := by decide +kernel
theorem dX11_graceFor_13 : decode cX11_graceFor 13 = .ok (.aload_n 0, 1) := by decide +kernel
theorem dX11_graceFor_14 : decode cX11_graceFor 14 = .ok (.getfield 18, 3) := by decide +kernel
theorem dX11_graceFor_17 : decode cX11_graceFor 17 = .ok (.getfield 99, 3) := by decide +kernel
theorem dX11_graceFor_20 : decode cX11_graceFor 20 = .ok (.iload_n 1, 1) := by decide +kernel
theorem dX11_graceFor_21 : decode cX11_graceFor 21 = .ok (.aaload, 1) := by decide +kernel
theorem dX11_graceFor_22 : decode cX11_graceFor 22 = .ok (.astore_n 2, 1) := by decide +kernel
theorem dX11_graceFor_23 : decode cX11_graceFor 23 = .ok (.aload_n 2, 1) := by decide +kernel
theorem dX11_graceFor_24 : decode cX11_graceFor 24 = .ok (.getfield 109, 3) := by decide +kernel
theorem dX11_graceFor_27 : decode cX11_graceFor 27 = .ok (.istore_n 3, 1) := by decide +kernel
theorem dX11_graceFor_28 : decode cX11_graceFor 28 = .ok (.iconst 1, 1) := by decide +kernel
theorem dX11_graceFor_29 : decode cX11_graceFor 29 = .ok (.istore 4, 2) := by decide +kernel
theorem dX11_graceFor_31 : decode cX11_graceFor 31 = .ok (.iconst (-1), 1) := by decide +kernel
theorem dX11_graceFor_32 : decode cX11_graceFor 32 = .ok (.istore 5, 2) := by decide +kernel
theorem dX11_graceFor_34 : decode cX11_graceFor 34 = .ok (.iconst 1, 1) := by decide +kernel
theorem dX11_graceFor_35 : decode cX11_graceFor 35 = .ok (.istore 6, 2) := by decide +kernel
theorem dX11_graceFor_37 : decode cX11_graceFor 37 = .ok (.iload 6, 2) := by decide +kernel
theorem dX11_graceFor_39 : decode cX11_graceFor 39 = .ok (.bipush 9, 2) := by decide +kernel
theorem dX11_graceFor_41 : decode cX11_graceFor 41 = .ok (.if_icmp .gt 58, 3) := by decide +kernel
theorem dX11_graceFor_44 : decode cX11_graceFor 44 = .ok (.aload_n 2, 1) := by decide +kernel
theorem dX11_graceFor_45 : decode cX11_graceFor 45 = .ok (.iload 6, 2) := by decide +kernel
theorem dX11_graceFor_47 : decode cX11_graceFor 47 = .ok (.putfield 109, 3) := by decide +kernel
theorem dX11_graceFor_50 : decode cX11_graceFor 50 = .ok (.aload_n 0, 1) := by decide +kernel
theorem dX11_graceFor_51 : decode cX11_graceFor 51 = .ok (.getfield 18, 3) := by decide +kernel
theorem dX11_graceFor_54 : decode cX11_graceFor 54 = .ok (.invokevirtual 132, 3) := by decide +kernel
theorem dX11_graceFor_57 : decode cX11_graceFor 57 = .ok (.aload_n 0, 1) := by decide +kernel
theorem dX11_graceFor_58 : decode cX11_graceFor 58 = .ok (.getfield 18, 3) := by decide +kernel
theorem dX11_graceFor_61 : decode cX11_graceFor 61 = .ok (.aload_n 0, 1) := by decide +kernel
theorem dX11_graceFor_62 : decode cX11_graceFor 62 = .ok (.getfield 32, 3) := by decide +kernel
theorem dX11_graceFor_65 : decode cX11_graceFor 65 = .ok (.invokevirtual 199, 3) := by decide +kernel
theorem dX11_graceFor_68 : decode cX11_graceFor 68 = .ok (.aload_n 0, 1) := by decide +kernel
theorem dX11_graceFor_69 : decode cX11_graceFor 69 = .ok (.getfield 32, 3) := by decide +kernel
theorem dX11_graceFor_72 : decode cX11_graceFor 72 = .ok (.getfield 165, 3) := by decide +kernel
theorem dX11_graceFor_75 : decode cX11_graceFor 75 = .ok (.iload 5, 2) := by decide +kernel
theorem dX11_graceFor_77 : decode cX11_graceFor 77 = .ok (.if_icmp .le 16, 3) := by decide +kernel
theorem dX11_graceFor_80 : decode cX11_graceFor 80 = .ok (.aload_n 0, 1) := by decide +kernel
theorem dX11_graceFor_81 : decode cX11_graceFor 81 = .ok (.getfield 32, 3) := by decide +kernel
theorem dX11_graceFor_84 : decode cX11_graceFor 84 = .ok (.getfield 165, 3) := by decide +kernel
theorem dX11_graceFor_87 : decode cX11_graceFor 87 = .ok (.istore 5, 2) := by decide +kernel
theorem dX11_graceFor_89 : decode cX11_graceFor 89 = .ok (.iload 6, 2) := by decide +kernel
theorem dX11_graceFor_91 : decode cX11_graceFor 91 = .ok (.istore 4, 2) := by decide +kernel
theorem dX11_graceFor_93 : decode cX11_graceFor 93 = .ok (.iinc 6 1, 3) := by decide +kernel
theorem dX11_graceFor_96 : decode cX11_graceFor 96 = .ok (.goto (-59), 3) := by decide +kernel
theorem dX11_graceFor_99 : decode cX11_graceFor 99 = .ok (.aload_n 2, 1) := by decide +kernel
theorem dX11_graceFor_100 : decode cX11_graceFor 100 = .ok (.iload_n 3, 1) := by decide +kernel
theorem dX11_graceFor_101 : decode cX11_graceFor 101 = .ok (.putfield 109, 3) := by decide +kernel
theorem dX11_graceFor_104 : decode cX11_graceFor 104 = .ok (.aload_n 0, 1) := by decide +kernel
theorem dX11_graceFor_105 : decode cX11_graceFor 105 = .ok (.getfield 18, 3) := by decide +kernel
theorem dX11_graceFor_108 : decode cX11_graceFor 108 = .ok (.invokevirtual 132, 3) := by decide +kernel
theorem dX11_graceFor_111 : decode cX11_graceFor 111 = .ok (.iload 4, 2) := by decide +kernel
theorem dX11_graceFor_113 : decode cX11_graceFor 113 = .ok (.ireturn, 1) := by decide +kernel
def f11_graceFor_b93 (K37 : Nat → Int32 → Int32 → Int32 → Int32 → lu_M → Option (Int32 × lu_M)) (K99 : Nat → Int32 → Int32 → lu_M → Option (Int32 × lu_M)) (a1 : Int32) (v2 : Nat) (v3 : Int32) (v4 : Int32) (v5 : Int32) (v6 : Int32) (m : lu_M) : Option (Int32 × lu_M) :=
  K37 v2 v3 v4 v5 (v6 + (1 : Int32)) m
set_option maxRecDepth 20000 in
theorem w11_graceFor_b93  {G : lu_G} {ρ : Nat → Nat} {a1 : Int32} {K37 : Nat → Int32 → Int32 → Int32 → Int32 → lu_M → Option (Int32 × lu_M)} {K99 : Nat → Int32 → Int32 → lu_M → Option (Int32 × lu_M)} (X : lu_X G RX11 cX11_graceFor 7 6 144) (hret : (lu_me G).sig.returnType = (some .int))  (hK37 : ∀ (v2 : Nat) (v3 : Int32) (v4 : Int32) (v5 : Int32) (v6 : Int32) (m : lu_M), lu_TC.2 v2 = (10, 0, 0) → v2 < lu_TC.1 → lu_Ab lu_TC G (lu_Q lu_TC G ρ lu_RVi lu_sn) (K37 v2 v3 v4 v5 v6 m) 37 [(0, .ref (ρ 0)), (2, .ref (ρ v2)), (3, .int v3), (4, .int v4), (5, .int v5), (6, .int v6)] [] ρ 0 0 [] m) (hK99 : ∀ (v2 : Nat) (v3 : Int32) (v4 : Int32) (m : lu_M), lu_TC.2 v2 = (10, 0, 0) → v2 < lu_TC.1 → lu_Ab lu_TC G (lu_Q lu_TC G ρ lu_RVi lu_sn) (K99 v2 v3 v4 m) 99 [(0, .ref (ρ 0)), (2, .ref (ρ v2)), (3, .int v3), (4, .int v4)] [] ρ 0 0 [] m) : ∀ (v2 : Nat) (v3 : Int32) (v4 : Int32) (v5 : Int32) (v6 : Int32) (m : lu_M), lu_TC.2 v2 = (10, 0, 0) → v2 < lu_TC.1 → lu_Ab lu_TC G (lu_Q lu_TC G ρ lu_RVi lu_sn) (f11_graceFor_b93 K37 K99 a1 v2 v3 v4 v5 v6 m) 93 [(0, .ref (ρ 0)), (2, .ref (ρ v2)), (3, .int v3), (4, .int v4), (5, .int v5), (6, .int v6)] [] ρ 0 0 [] m := by
  intro v2 v3 v4 v5 v6 m hT_v2 hr_v2
  unfold f11_graceFor_b93
  refine lu_iinc (lv2 := [(6, .int (v6 + (1 : Int32))), (0, .ref (ρ 0)), (2, .ref (ρ v2)), (3, .int v3), (4, .int v4), (5, .int v5)]) X dX11_graceFor_93 (pc2 := 96) rfl 5 rfl (lu_ii _ ic_1) (by decide) rfl ?_
  refine lu_goto (tgt := 37) X dX11_graceFor_96 (by decide) ?_
  exact lu_sub [1, 2, 3, 4, 5, 0] rfl (hK37 v2 v3 v4 v5 (v6 + (1 : Int32)) m hT_v2 hr_v2)
def f11_graceFor_b37B (K99 : Nat → Int32 → Int32 → lu_M → Option (Int32 × lu_M)) (rec : Nat → Int32 → Int32 → Int32 → Int32 → lu_M → Option (Int32 × lu_M)) (a1 : Int32) (v2 : Nat) (v3 : Int32) (v4 : Int32) (v5 : Int32) (v6 : Int32) (m : lu_M) : Option (Int32 × lu_M) :=
  if (9 : Int32) < v6 then (K99 v2 v3 v4 m)
  else (lu_nm (lu_st m v2 2 v6) fun m5 =>
  lu_bv (f10_settle 1 m5) fun m6 =>
  lu_bv (f10_rest 1 73 m6) fun m7 =>
  if (m7 73 5) ≤ v5 then (f11_graceFor_b93 rec K99 a1 v2 v3 v4 v5 v6 m7)
  else (lu_nm ((m7 73 5)) fun x8 =>
  f11_graceFor_b93 rec K99 a1 v2 v3 v6 x8 v6 m7))
def f11_graceFor_b37 (K99 : Nat → Int32 → Int32 → lu_M → Option (Int32 × lu_M)) (a1 : Int32) : Nat → Nat → Int32 → Int32 → Int32 → Int32 → lu_M → Option (Int32 × lu_M)
  | 0, _, _, _, _, _, _ => none
  | n + 1, v2, v3, v4, v5, v6, m => f11_graceFor_b37B K99 (f11_graceFor_b37 K99 a1 n) a1 v2 v3 v4 v5 v6 m
set_option maxRecDepth 20000 in
theorem w11_graceFor_b37B  {G : lu_G} {ρ : Nat → Nat} {a1 : Int32} {K99 : Nat → Int32 → Int32 → lu_M → Option (Int32 × lu_M)} {rec : Nat → Int32 → Int32 → Int32 → Int32 → lu_M → Option (Int32 × lu_M)} (X : lu_X G RX11 cX11_graceFor 7 6 144) (hret : (lu_me G).sig.returnType = (some .int))  (hK99 : ∀ (v2 : Nat) (v3 : Int32) (v4 : Int32) (m : lu_M), lu_TC.2 v2 = (10, 0, 0) → v2 < lu_TC.1 → lu_Ab lu_TC G (lu_Q lu_TC G ρ lu_RVi lu_sn) (K99 v2 v3 v4 m) 99 [(0, .ref (ρ 0)), (2, .ref (ρ v2)), (3, .int v3), (4, .int v4)] [] ρ 0 0 [] m) (hrec : ∀ (v2 : Nat) (v3 : Int32) (v4 : Int32) (v5 : Int32) (v6 : Int32) (m : lu_M), lu_TC.2 v2 = (10, 0, 0) → v2 < lu_TC.1 → lu_Ab lu_TC G (lu_Q lu_TC G ρ lu_RVi lu_sn) (rec v2 v3 v4 v5 v6 m) 37 [(0, .ref (ρ 0)), (2, .ref (ρ v2)), (3, .int v3), (4, .int v4), (5, .int v5), (6, .int v6)] [] ρ 0 0 [] m) : ∀ (v2 : Nat) (v3 : Int32) (v4 : Int32) (v5 : Int32) (v6 : Int32) (m : lu_M), lu_TC.2 v2 = (10, 0, 0) → v2 < lu_TC.1 → lu_Ab lu_TC G (lu_Q lu_TC G ρ lu_RVi lu_sn) (f11_graceFor_b37B K99 rec a1 v2 v3 v4 v5 v6 m) 37 [(0, .ref (ρ 0)), (2, .ref (ρ v2)), (3, .int v3), (4, .int v4), (5, .int v5), (6, .int v6)] [] ρ 0 0 [] m := by
  intro v2 v3 v4 v5 v6 m hT_v2 hr_v2
  unfold f11_graceFor_b37B
  refine lu_iload X dX11_graceFor_37 (pc2 := 39) rfl 5 rfl ?_
  refine lu_bipush X dX11_graceFor_39 (pc2 := 41) rfl bp_9 ?_
  refine lu_icmp_gt (tgt := 99) X dX11_graceFor_41 (pc2 := 44) rfl (by decide) (fun _ => ?_) (fun _ => ?_)
  · exact lu_sub [0, 1, 2, 3] rfl (hK99 v2 v3 v4 m hT_v2 hr_v2)
  · refine lu_aload_n X dX11_graceFor_44 (pc2 := 45) rfl rfl 1 rfl ?_
    refine lu_iload X dX11_graceFor_45 (pc2 := 47) rfl 5 rfl ?_
    refine lu_put X fl11_109 rfl (Or.inr (by decide)) rfl (by decide +kernel) hT_v2 hr_v2 dX11_graceFor_47 (pc2 := 50) rfl (fun m5 => ?_)
    refine lu_aload_n X dX11_graceFor_50 (pc2 := 51) rfl rfl 0 rfl ?_
    refine lu_getr (r2 := 1) X rfl fl11_18 rfl kC_0 lC_0 dX11_graceFor_51 (pc2 := 54) rfl ?_
    refine lu_invVv X (c10_settle _ kC_1 lC_1) rfl q499 mvV_10_settle kC_1 lC_1 (by decide) ⟨_, rfl, rfl⟩ rfl rfl (Nat.le_of_ble_eq_true rfl) (Nat.le_of_ble_eq_true rfl) (Nat.le_of_ble_eq_true rfl) ⟨Nat.zero_le _, Nat.zero_le _⟩ dX11_graceFor_54 (pc2 := 57) rfl rfl (fun m6 => ?_)
    refine lu_aload_n X dX11_graceFor_57 (pc2 := 58) rfl rfl 0 rfl ?_
    refine lu_getr (r2 := 1) X rfl fl11_18 rfl kC_0 lC_0 dX11_graceFor_58 (pc2 := 61) rfl ?_
    refine lu_aload_n X dX11_graceFor_61 (pc2 := 62) rfl rfl 0 rfl ?_
    refine lu_getr (r2 := 73) X rfl fl11_32 rfl kC_0 lC_0 dX11_graceFor_62 (pc2 := 65) rfl ?_
    refine lu_invVv X (c10_rest _ kC_1 lC_1 kC_73 lC_73) rfl q748 mvV_10_rest kC_1 lC_1 (by decide) ⟨_, rfl, rfl⟩ rfl rfl (Nat.le_of_ble_eq_true rfl) (Nat.le_of_ble_eq_true rfl) (Nat.le_of_ble_eq_true rfl) ⟨Nat.zero_le _, Nat.zero_le _⟩ dX11_graceFor_65 (pc2 := 68) rfl rfl (fun m7 => ?_)
    refine lu_aload_n X dX11_graceFor_68 (pc2 := 69) rfl rfl 0 rfl ?_
    refine lu_getr (r2 := 73) X rfl fl11_32 rfl kC_0 lC_0 dX11_graceFor_69 (pc2 := 72) rfl ?_
    refine lu_get X fl11_165 rfl kC_73 lC_73 dX11_graceFor_72 (pc2 := 75) rfl ?_
    refine lu_iload X dX11_graceFor_75 (pc2 := 77) rfl 4 rfl ?_
    refine lu_icmp_le (tgt := 93) X dX11_graceFor_77 (pc2 := 80) rfl (by decide) (fun _ => ?_) (fun _ => ?_)
    · exact w11_graceFor_b93 X hret hrec hK99 v2 v3 v4 v5 v6 m7 hT_v2 hr_v2
    · refine lu_aload_n X dX11_graceFor_80 (pc2 := 81) rfl rfl 0 rfl ?_
      refine lu_getr (r2 := 73) X rfl fl11_32 rfl kC_0 lC_0 dX11_graceFor_81 (pc2 := 84) rfl ?_
      refine lu_get X fl11_165 rfl kC_73 lC_73 dX11_graceFor_84 (pc2 := 87) rfl ?_
      refine lu_topi (fun x8 => ?_)
      refine lu_istore (lv2 := [(5, .int x8), (0, .ref (ρ 0)), (2, .ref (ρ v2)), (3, .int v3), (4, .int v4), (6, .int v6)]) X dX11_graceFor_87 (pc2 := 89) rfl (by decide) rfl ?_
      refine lu_iload X dX11_graceFor_89 (pc2 := 91) rfl 5 rfl ?_
      refine lu_istore (lv2 := [(4, .int v6), (5, .int x8), (0, .ref (ρ 0)), (2, .ref (ρ v2)), (3, .int v3), (6, .int v6)]) X dX11_graceFor_91 (pc2 := 93) rfl (by decide) rfl ?_
      exact lu_sub [2, 3, 4, 0, 1, 5] rfl (w11_graceFor_b93 X hret hrec hK99 v2 v3 v6 x8 v6 m7 hT_v2 hr_v2)
theorem w11_graceFor_b37  {G : lu_G} {ρ : Nat → Nat} {a1 : Int32} {K99 : Nat → Int32 → Int32 → lu_M → Option (Int32 × lu_M)} (X : lu_X G RX11 cX11_graceFor 7 6 144) (hret : (lu_me G).sig.returnType = (some .int))  (hK99 : ∀ (v2 : Nat) (v3 : Int32) (v4 : Int32) (m : lu_M), lu_TC.2 v2 = (10, 0, 0) → v2 < lu_TC.1 → lu_Ab lu_TC G (lu_Q lu_TC G ρ lu_RVi lu_sn) (K99 v2 v3 v4 m) 99 [(0, .ref (ρ 0)), (2, .ref (ρ v2)), (3, .int v3), (4, .int v4)] [] ρ 0 0 [] m) : ∀ (n : Nat) (v2 : Nat) (v3 : Int32) (v4 : Int32) (v5 : Int32) (v6 : Int32) (m : lu_M), lu_TC.2 v2 = (10, 0, 0) → v2 < lu_TC.1 → lu_Ab lu_TC G (lu_Q lu_TC G ρ lu_RVi lu_sn) (f11_graceFor_b37 K99 a1 n v2 v3 v4 v5 v6 m) 37 [(0, .ref (ρ 0)), (2, .ref (ρ v2)), (3, .int v3), (4, .int v4), (5, .int v5), (6, .int v6)] [] ρ 0 0 [] m := by
  intro n
  induction n with
  | zero => intro v2 v3 v4 v5 v6 m hT_v2 hr_v2; exact lu_none
  | succ n ih => intro v2 v3 v4 v5 v6 m hT_v2 hr_v2; exact w11_graceFor_b37B X hret hK99 ih v2 v3 v4 v5 v6 m hT_v2 hr_v2
def f11_graceFor_b99  (a1 : Int32) (v2 : Nat) (v3 : Int32) (v4 : Int32) (m : lu_M) : Option (Int32 × lu_M) :=
  lu_nm (lu_st m v2 2 v3) fun m9 =>
  lu_bv (f10_settle 1 m9) fun m10 =>
  some (v4, m10)
set_option maxRecDepth 20000 in
theorem w11_graceFor_b99  {G : lu_G} {ρ : Nat → Nat} {a1 : Int32}  (X : lu_X G RX11 cX11_graceFor 7 6 144) (hret : (lu_me G).sig.returnType = (some .int))   : ∀ (v2 : Nat) (v3 : Int32) (v4 : Int32) (m : lu_M), lu_TC.2 v2 = (10, 0, 0) → v2 < lu_TC.1 → lu_Ab lu_TC G (lu_Q lu_TC G ρ lu_RVi lu_sn) (f11_graceFor_b99 a1 v2 v3 v4 m) 99 [(0, .ref (ρ 0)), (2, .ref (ρ v2)), (3, .int v3), (4, .int v4)] [] ρ 0 0 [] m := by
  intro v2 v3 v4 m hT_v2 hr_v2
  unfold f11_graceFor_b99
  refine lu_aload_n X dX11_graceFor_99 (pc2 := 100) rfl rfl 1 rfl ?_
  refine lu_iload_n X dX11_graceFor_100 (pc2 := 101) rfl rfl 2 rfl ?_
  refine lu_put X fl11_109 rfl (Or.inr (by decide)) rfl (by decide +kernel) hT_v2 hr_v2 dX11_graceFor_101 (pc2 := 104) rfl (fun m9 => ?_)
  refine lu_aload_n X dX11_graceFor_104 (pc2 := 105) rfl rfl 0 rfl ?_
  refine lu_getr (r2 := 1) X rfl fl11_18 rfl kC_0 lC_0 dX11_graceFor_105 (pc2 := 108) rfl ?_
  refine lu_invVv X (c10_settle _ kC_1 lC_1) rfl q499 mvV_10_settle kC_1 lC_1 (by decide) ⟨_, rfl, rfl⟩ rfl rfl (Nat.le_of_ble_eq_true rfl) (Nat.le_of_ble_eq_true rfl) (Nat.le_of_ble_eq_true rfl) ⟨Nat.zero_le _, Nat.zero_le _⟩ dX11_graceFor_108 (pc2 := 111) rfl rfl (fun m10 => ?_)
  refine lu_iload X dX11_graceFor_111 (pc2 := 113) rfl 3 rfl ?_
  exact lu_iret X hret dX11_graceFor_113
def f11_graceFor (a1 : Int32) (m : lu_M) : Option (Int32 × lu_M) :=
  lu_bi (f10_isPerson 1 a1 m) fun x1 m2 =>
  if x1 = 0 then (some ((-1 : Int32), m2))
  else (lu_gd (lu_ib a1 6) <|
  lu_nm ((m2 (2 + 1 + a1.toNatClampNeg) 2)) fun x4 =>
  f11_graceFor_b37 (f11_graceFor_b99 a1) a1 lu_fu (2 + 1 + a1.toNatClampNeg) x4 (1 : Int32) (-1 : Int32) (1 : Int32) m2)
set_option maxRecDepth 20000 in
theorem c11_graceFor (l : Launch)   (a1 : Int32) : lu_C lu_TC l yX11_graceFor cX11_graceFor 7 (some .int) 6 144 (fun ρ sa => [.ref (ρ 0), .int a1]) (f11_graceFor a1) lu_RVi lu_sn := by
  refine lu_met (cls := RX11) rfl (by decide +kernel) (fun _ _ => Nat.le_of_ble_eq_true rfl) ?_
  intro G ρ m hl X hret
  subst hl
  change lu_Ab lu_TC G (lu_Q lu_TC G ρ lu_RVi lu_sn) (f11_graceFor a1 m) 0 [(0, .ref (ρ 0)), (1, .int a1)] [] ρ 0 0 [] m
  unfold f11_graceFor
  refine lu_aload_n X dX11_graceFor_0 (pc2 := 1) rfl rfl 0 rfl ?_
  refine lu_getr (r2 := 1) X rfl fl11_18 rfl kC_0 lC_0 dX11_graceFor_1 (pc2 := 4) rfl ?_
  refine lu_iload_n X dX11_graceFor_4 (pc2 := 5) rfl rfl 1 rfl ?_
  refine lu_invVi X (c10_isPerson _ kC_1 lC_1 a1) rfl q440 mvV_10_isPerson kC_1 lC_1 (by decide) ⟨_, rfl, rfl⟩ rfl rfl (Nat.le_of_ble_eq_true rfl) (Nat.le_of_ble_eq_true rfl) (Nat.le_of_ble_eq_true rfl) ⟨Nat.zero_le _, Nat.zero_le _⟩ dX11_graceFor_5 (pc2 := 8) rfl rfl (fun x1 m2 => ?_)
  refine lu_if_ne (tgt := 13) X dX11_graceFor_8 (pc2 := 11) rfl (by decide) (fun _ => ?_) (fun _ => ?_)
  · refine lu_aload_n X dX11_graceFor_13 (pc2 := 14) rfl rfl 0 rfl ?_
    refine lu_getr (r2 := 1) X rfl fl11_18 rfl kC_0 lC_0 dX11_graceFor_14 (pc2 := 17) rfl ?_
    refine lu_getr (r2 := 2) X rfl fl11_99 rfl kC_1 lC_1 dX11_graceFor_17 (pc2 := 20) rfl ?_
    refine lu_iload_n X dX11_graceFor_20 (pc2 := 21) rfl rfl 1 rfl ?_
    refine lu_aald X rfl rfl (by decide) (by decide) kC_2 lC_2 dX11_graceFor_21 (pc2 := 22) rfl (fun g3 => ?_)
    refine lu_astore_n (lv2 := [(2, .ref (ρ (2 + 1 + a1.toNatClampNeg))), (0, .ref (ρ 0)), (1, .int a1)]) X dX11_graceFor_22 (pc2 := 23) rfl rfl (by decide) rfl ?_
    refine lu_aload_n X dX11_graceFor_23 (pc2 := 24) rfl rfl 0 rfl ?_
    refine lu_get X fl11_109 rfl ((kaC_1_6_0 kC_2 lC_2 g3).1) ((kaC_1_6_0 kC_2 lC_2 g3).2) dX11_graceFor_24 (pc2 := 27) rfl ?_
    refine lu_topi (fun x4 => ?_)
    refine lu_istore_n (lv2 := [(3, .int x4), (2, .ref (ρ (2 + 1 + a1.toNatClampNeg))), (0, .ref (ρ 0)), (1, .int a1)]) X dX11_graceFor_27 (pc2 := 28) rfl rfl (by decide) rfl ?_
    refine lu_iconst X dX11_graceFor_28 (pc2 := 29) rfl ic_1 ?_
    refine lu_istore (lv2 := [(4, .int (1 : Int32)), (3, .int x4), (2, .ref (ρ (2 + 1 + a1.toNatClampNeg))), (0, .ref (ρ 0)), (1, .int a1)]) X dX11_graceFor_29 (pc2 := 31) rfl (by decide) rfl ?_
    refine lu_iconst X dX11_graceFor_31 (pc2 := 32) rfl ic_m1 ?_
    refine lu_istore (lv2 := [(5, .int (-1 : Int32)), (4, .int (1 : Int32)), (3, .int x4), (2, .ref (ρ (2 + 1 + a1.toNatClampNeg))), (0, .ref (ρ 0)), (1, .int a1)]) X dX11_graceFor_32 (pc2 := 34) rfl (by decide) rfl ?_
    refine lu_iconst X dX11_graceFor_34 (pc2 := 35) rfl ic_1 ?_
    refine lu_istore (lv2 := [(6, .int (1 : Int32)), (5, .int (-1 : Int32)), (4, .int (1 : Int32)), (3, .int x4), (2, .ref (ρ (2 + 1 + a1.toNatClampNeg))), (0, .ref (ρ 0)), (1, .int a1)]) X dX11_graceFor_35 (pc2 := 37) rfl (by decide) rfl ?_
    exact lu_sub [5, 4, 3, 2, 1, 0] rfl (w11_graceFor_b37 X hret (w11_graceFor_b99 X hret) lu_fu (2 + 1 + a1.toNatClampNeg) x4 (1 : Int32) (-1 : Int32) (1 : Int32) m2 ((kaC_1_6_0 kC_2 lC_2 g3).1) ((kaC_1_6_0 kC_2 lC_2 g3).2))
  · refine lu_iconst X dX11_graceFor_11 (pc2 := 12) rfl ic_m1 ?_
    exact lu_iret X hret dX11_graceFor_12

theorem dX11_strengthFor_0 : decode cX11_strengthFor 0 = .ok (.aload_n 0, 1) := by decide +kernel
theorem dX11_strengthFor_1 : decode cX11_strengthFor 1 = .ok (.getfield 18, 3) := by decide +kernel
theorem dX11_strengthFor_4 : decode cX11_strengthFor 4 = .ok (.iload_n 1, 1) := by decide +kernel
theorem dX11_strengthFor_5 : decode cX11_strengthFor 5 = .ok (.invokevirtual 102, 3) := by decide +kernel
theorem dX11_strengthFor_8 : decode cX11_strengthFor 8 = .ok (.ifCond .ne 5, 3) := by decide +kernel
theorem dX11_strengthFor_11 : decode cX11_strengthFor 11 = .ok (.iconst (-1), 1) := by decide +kernel
theorem dX11_strengthFor_12 : decode cX11_strengthFor 12 = .ok (.ireturn, 1) := by decide +kernel
theorem dX11_strengthFor_13 : decode cX11_strengthFor 13 = .ok (.aload_n 0, 1) := by decide +kernel
theorem dX11_strengthFor_14 : decode cX11_strengthFor 14 = .ok (.getfield 18, 3) := by decide +kernel
theorem dX11_strengthFor_17 : decode cX11_strengthFor 17 = .ok (.getfield 99, 3) := by decide +kernel
theorem dX11_strengthFor_20 : decode cX11_strengthFor 20 = .ok (.iload_n 1, 1) := by decide +kernel
theorem dX11_strengthFor_21 : decode cX11_strengthFor 21 = .ok (.aaload, 1) := by decide +kernel
theorem dX11_strengthFor_22 : decode cX11_strengthFor 22 = .ok (.astore_n 2, 1) := by decide +kernel
theorem dX11_strengthFor_23 : decode cX11_strengthFor 23 = .ok (.aload_n 2, 1) := by decide +kernel
theorem dX11_strengthFor_24 : decode cX11_strengthFor 24 = .ok (.getfield 112, 3) := by decide +kernel
theorem dX11_strengthFor_27 : decode cX11_strengthFor 27 = .ok (.istore_n 3, 1) := by decide +kernel
theorem dX11_strengthFor_28 : decode cX11_strengthFor 28 = .ok (.bipush (-3), 2) := by decide +kernel
theorem dX11_strengthFor_30 : decode cX11_strengthFor 30 = .ok (.istore 4, 2) := by decide +kernel
theorem dX11_strengthFor_32 : decode cX11_strengthFor 32 = .ok (.iconst 1, 1) := by decide +kernel
theorem dX11_strengthFor_33 : decode cX11_strengthFor 33 = .ok (.istore 5, 2) := by decide +kernel
theorem dX11_strengthFor_35 : decode cX11_strengthFor 35 = .ok (.iload 5, 2) := by decide +kernel
theorem dX11_strengthFor_37 : decode cX11_strengthFor 37 = .ok (.bipush 9, 2) := by decide +kernel
theorem dX11_strengthFor_39 : decode cX11_strengthFor 39 = .ok (.if_icmp .gt 44, 3) := by decide +kernel
theorem dX11_strengthFor_42 : decode cX11_strengthFor 42 = .ok (.iload 4, 2) := by decide +kernel
theorem dX11_strengthFor_44 : decode cX11_strengthFor 44 = .ok (.bipush (-3), 2) := by decide +kernel
theorem dX11_strengthFor_46 : decode cX11_strengthFor 46 = .ok (.if_icmp .ne 37, 3) := by decide +kernel
theorem dX11_strengthFor_49 : decode cX11_strengthFor 49 = .ok (.aload_n 2, 1) := by decide +kernel
theorem dX11_strengthFor_50 : decode cX11_strengthFor 50 = .ok (.iload 5, 2) := by decide +kernel
theorem dX11_strengthFor_52 : decode cX11_strengthFor 52 = .ok (.putfield 112, 3) := by decide +kernel
theorem dX11_strengthFor_55 : decode cX11_strengthFor 55 = .ok (.aload_n 0, 1) := by decide +kernel
theorem dX11_strengthFor_56 : decode cX11_strengthFor 56 = .ok (.getfield 18, 3) := by decide +kernel
theorem dX11_strengthFor_59 : decode cX11_strengthFor 59 = .ok (.aload_n 0, 1) := by decide +kernel
theorem dX11_strengthFor_60 : decode cX11_strengthFor 60 = .ok (.getfield 32, 3) := by decide +kernel
theorem dX11_strengthFor_63 : decode cX11_strengthFor 63 = .ok (.invokevirtual 209, 3) := by decide +kernel
theorem dX11_strengthFor_66 : decode cX11_strengthFor 66 = .ok (.iload_n 1, 1) := by decide +kernel
theorem dX11_strengthFor_67 : decode cX11_strengthFor 67 = .ok (.ishr, 1) := by decide +kernel
theorem dX11_strengthFor_68 : decode cX11_strengthFor 68 = .ok (.iconst 1, 1) := by decide +kernel
theorem dX11_strengthFor_69 : decode cX11_strengthFor 69 = .ok (.iand, 1) := by decide +kernel
theorem dX11_strengthFor_70 : decode cX11_strengthFor 70 = .ok (.ifCond .ne 7, 3) := by decide +kernel
theorem dX11_strengthFor_73 : decode cX11_strengthFor 73 = .ok (.iload 5, 2) := by decide +kernel
theorem dX11_strengthFor_75 : decode cX11_strengthFor 75 = .ok (.istore 4, 2) := by decide +kernel
theorem dX11_strengthFor_77 : decode cX11_strengthFor 77 = .ok (.iinc 5 1, 3) := by decide +kernel
theorem dX11_strengthFor_80 : decode cX11_strengthFor 80 = .ok (.goto (-45), 3) := by decide +kernel
theorem dX11_strengthFor_83 : decode cX11_strengthFor 83 = .ok (.aload_n 2, 1) := by decide +kernel
theorem dX11_strengthFor_84 : decode cX11_strengthFor 84 = .ok (.iload_n 3, 1) := by decide +kernel
theorem dX11_strengthFor_85 : decode cX11_strengthFor 85 = .ok (.putfield 112, 3) := by decide +kernel
theorem dX11_strengthFor_88 : decode cX11_strengthFor 88 = .ok (.iload 4, 2) := by decide +kernel
theorem dX11_strengthFor_90 : decode cX11_strengthFor 90 = .ok (.ireturn, 1) := by decide +kernel
def f11_strengthFor_b77 (K35 : Nat → Int32 → Int32 → Int32 → lu_M → Option (Int32 × lu_M)) (K83 : Nat → Int32 → Int32 → lu_M → Option (Int32 × lu_M)) (a1 : Int32) (v2 : Nat) (v3 : Int32) (v4 : Int32) (v5 : Int32) (m : lu_M) : Option (Int32 × lu_M) :=
  K35 v2 v3 v4 (v5 + (1 : Int32)) m
set_option maxRecDepth 20000 in
theorem w11_strengthFor_b77  {G : lu_G} {ρ : Nat → Nat} {a1 : Int32} {K35 : Nat → Int32 → Int32 → Int32 → lu_M → Option (Int32 × lu_M)} {K83 : Nat → Int32 → Int32 → lu_M → Option (Int32 × lu_M)} (X : lu_X G RX11 cX11_strengthFor 6 7 167) (hret : (lu_me G).sig.returnType = (some .int))  (hK35 : ∀ (v2 : Nat) (v3 : Int32) (v4 : Int32) (v5 : Int32) (m : lu_M), lu_TC.2 v2 = (10, 0, 0) → v2 < lu_TC.1 → lu_Ab lu_TC G (lu_Q lu_TC G ρ lu_RVi lu_sn) (K35 v2 v3 v4 v5 m) 35 [(0, .ref (ρ 0)), (1, .int a1), (2, .ref (ρ v2)), (3, .int v3), (4, .int v4), (5, .int v5)] [] ρ 0 0 [] m) (hK83 : ∀ (v2 : Nat) (v3 : Int32) (v4 : Int32) (m : lu_M), lu_TC.2 v2 = (10, 0, 0) → v2 < lu_TC.1 → lu_Ab lu_TC G (lu_Q lu_TC G ρ lu_RVi lu_sn) (K83 v2 v3 v4 m) 83 [(2, .ref (ρ v2)), (3, .int v3), (4, .int v4)] [] ρ 0 0 [] m) : ∀ (v2 : Nat) (v3 : Int32) (v4 : Int32) (v5 : Int32) (m : lu_M), lu_TC.2 v2 = (10, 0, 0) → v2 < lu_TC.1 → lu_Ab lu_TC G (lu_Q lu_TC G ρ lu_RVi lu_sn) (f11_strengthFor_b77 K35 K83 a1 v2 v3 v4 v5 m) 77 [(0, .ref (ρ 0)), (1, .int a1), (2, .ref (ρ v2)), (3, .int v3), (4, .int v4), (5, .int v5)] [] ρ 0 0 [] m := by
  intro v2 v3 v4 v5 m hT_v2 hr_v2
  unfold f11_strengthFor_b77
  refine lu_iinc (lv2 := [(5, .int (v5 + (1 : Int32))), (0, .ref (ρ 0)), (1, .int a1), (2, .ref (ρ v2)), (3, .int v3), (4, .int v4)]) X dX11_strengthFor_77 (pc2 := 80) rfl 5 rfl (lu_ii _ ic_1) (by decide) rfl ?_
  refine lu_goto (tgt := 35) X dX11_strengthFor_80 (by decide) ?_
  exact lu_sub [1, 2, 3, 4, 5, 0] rfl (hK35 v2 v3 v4 (v5 + (1 : Int32)) m hT_v2 hr_v2)
def f11_strengthFor_b35B (K83 : Nat → Int32 → Int32 → lu_M → Option (Int32 × lu_M)) (rec : Nat → Int32 → Int32 → Int32 → lu_M → Option (Int32 × lu_M)) (a1 : Int32) (v2 : Nat) (v3 : Int32) (v4 : Int32) (v5 : Int32) (m : lu_M) : Option (Int32 × lu_M) :=
  if (9 : Int32) < v5 then (K83 v2 v3 v4 m)
  else (if v4 = (-3 : Int32) then (lu_nm (lu_st m v2 3 v5) fun m5 =>
  lu_bi (f10_overdueInTheEnd 1 73 m5) fun x6 m7 =>
  if ((x6 >>> (a1 &&& 31)) &&& (1 : Int32)) = 0 then (f11_strengthFor_b77 rec K83 a1 v2 v3 v5 v5 m7)
  else (f11_strengthFor_b77 rec K83 a1 v2 v3 v4 v5 m7))
  else (K83 v2 v3 v4 m))
def f11_strengthFor_b35 (K83 : Nat → Int32 → Int32 → lu_M → Option (Int32 × lu_M)) (a1 : Int32) : Nat → Nat → Int32 → Int32 → Int32 → lu_M → Option (Int32 × lu_M)
  | 0, _, _, _, _, _ => none
  | n + 1, v2, v3, v4, v5, m => f11_strengthFor_b35B K83 (f11_strengthFor_b35 K83 a1 n) a1 v2 v3 v4 v5 m
set_option maxRecDepth 20000 in
theorem w11_strengthFor_b35B  {G : lu_G} {ρ : Nat → Nat} {a1 : Int32} {K83 : Nat → Int32 → Int32 → lu_M → Option (Int32 × lu_M)} {rec : Nat → Int32 → Int32 → Int32 → lu_M → Option (Int32 × lu_M)} (X : lu_X G RX11 cX11_strengthFor 6 7 167) (hret : (lu_me G).sig.returnType = (some .int))  (hK83 : ∀ (v2 : Nat) (v3 : Int32) (v4 : Int32) (m : lu_M), lu_TC.2 v2 = (10, 0, 0) → v2 < lu_TC.1 → lu_Ab lu_TC G (lu_Q lu_TC G ρ lu_RVi lu_sn) (K83 v2 v3 v4 m) 83 [(2, .ref (ρ v2)), (3, .int v3), (4, .int v4)] [] ρ 0 0 [] m) (hrec : ∀ (v2 : Nat) (v3 : Int32) (v4 : Int32) (v5 : Int32) (m : lu_M), lu_TC.2 v2 = (10, 0, 0) → v2 < lu_TC.1 → lu_Ab lu_TC G (lu_Q lu_TC G ρ lu_RVi lu_sn) (rec v2 v3 v4 v5 m) 35 [(0, .ref (ρ 0)), (1, .int a1), (2, .ref (ρ v2)), (3, .int v3), (4, .int v4), (5, .int v5)] [] ρ 0 0 [] m) : ∀ (v2 : Nat) (v3 : Int32) (v4 : Int32) (v5 : Int32) (m : lu_M), lu_TC.2 v2 = (10, 0, 0) → v2 < lu_TC.1 → lu_Ab lu_TC G (lu_Q lu_TC G ρ lu_RVi lu_sn) (f11_strengthFor_b35B K83 rec a1 v2 v3 v4 v5 m) 35 [(0, .ref (ρ 0)), (1, .int a1), (2, .ref (ρ v2)), (3, .int v3), (4, .int v4), (5, .int v5)] [] ρ 0 0 [] m := by
  intro v2 v3 v4 v5 m hT_v2 hr_v2
  unfold f11_strengthFor_b35B
  refine lu_iload X dX11_strengthFor_35 (pc2 := 37) rfl 5 rfl ?_
  refine lu_bipush X dX11_strengthFor_37 (pc2 := 39) rfl bp_9 ?_
  refine lu_icmp_gt (tgt := 83) X dX11_strengthFor_39 (pc2 := 42) rfl (by decide) (fun _ => ?_) (fun _ => ?_)
  · exact lu_sub [2, 3, 4] rfl (hK83 v2 v3 v4 m hT_v2 hr_v2)
  · refine lu_iload X dX11_strengthFor_42 (pc2 := 44) rfl 4 rfl ?_
    refine lu_bipush X dX11_strengthFor_44 (pc2 := 46) rfl bp_m3 ?_
    refine lu_icmp_ne (tgt := 83) X dX11_strengthFor_46 (pc2 := 49) rfl (by decide) (fun _ => ?_) (fun _ => ?_)
    · exact lu_sub [2, 3, 4] rfl (hK83 v2 v3 v4 m hT_v2 hr_v2)
    · refine lu_aload_n X dX11_strengthFor_49 (pc2 := 50) rfl rfl 2 rfl ?_
      refine lu_iload X dX11_strengthFor_50 (pc2 := 52) rfl 5 rfl ?_
      refine lu_put X fl11_112 rfl (Or.inr (by decide)) rfl (by decide +kernel) hT_v2 hr_v2 dX11_strengthFor_52 (pc2 := 55) rfl (fun m5 => ?_)
      refine lu_aload_n X dX11_strengthFor_55 (pc2 := 56) rfl rfl 0 rfl ?_
      refine lu_getr (r2 := 1) X rfl fl11_18 rfl kC_0 lC_0 dX11_strengthFor_56 (pc2 := 59) rfl ?_
      refine lu_aload_n X dX11_strengthFor_59 (pc2 := 60) rfl rfl 0 rfl ?_
      refine lu_getr (r2 := 73) X rfl fl11_32 rfl kC_0 lC_0 dX11_strengthFor_60 (pc2 := 63) rfl ?_
      refine lu_invVi X (c10_overdueInTheEnd _ kC_1 lC_1 kC_73 lC_73) rfl q776 mvV_10_overdueInTheEnd kC_1 lC_1 (by decide) ⟨_, rfl, rfl⟩ rfl rfl (Nat.le_of_ble_eq_true rfl) (Nat.le_of_ble_eq_true rfl) (Nat.le_of_ble_eq_true rfl) ⟨Nat.zero_le _, Nat.zero_le _⟩ dX11_strengthFor_63 (pc2 := 66) rfl rfl (fun x6 m7 => ?_)
      refine lu_iload_n X dX11_strengthFor_66 (pc2 := 67) rfl rfl 1 rfl ?_
      refine lu_ishr X dX11_strengthFor_67 (pc2 := 68) rfl ?_
      refine lu_iconst X dX11_strengthFor_68 (pc2 := 69) rfl ic_1 ?_
      refine lu_iand X dX11_strengthFor_69 (pc2 := 70) rfl ?_
      refine lu_if_ne (tgt := 77) X dX11_strengthFor_70 (pc2 := 73) rfl (by decide) (fun _ => ?_) (fun _ => ?_)
      · exact w11_strengthFor_b77 X hret hrec hK83 v2 v3 v4 v5 m7 hT_v2 hr_v2
      · refine lu_iload X dX11_strengthFor_73 (pc2 := 75) rfl 5 rfl ?_
        refine lu_istore (lv2 := [(4, .int v5), (0, .ref (ρ 0)), (1, .int a1), (2, .ref (ρ v2)), (3, .int v3), (5, .int v5)]) X dX11_strengthFor_75 (pc2 := 77) rfl (by decide) rfl ?_
        exact lu_sub [1, 2, 3, 4, 0, 5] rfl (w11_strengthFor_b77 X hret hrec hK83 v2 v3 v5 v5 m7 hT_v2 hr_v2)
theorem w11_strengthFor_b35  {G : lu_G} {ρ : Nat → Nat} {a1 : Int32} {K83 : Nat → Int32 → Int32 → lu_M → Option (Int32 × lu_M)} (X : lu_X G RX11 cX11_strengthFor 6 7 167) (hret : (lu_me G).sig.returnType = (some .int))  (hK83 : ∀ (v2 : Nat) (v3 : Int32) (v4 : Int32) (m : lu_M), lu_TC.2 v2 = (10, 0, 0) → v2 < lu_TC.1 → lu_Ab lu_TC G (lu_Q lu_TC G ρ lu_RVi lu_sn) (K83 v2 v3 v4 m) 83 [(2, .ref (ρ v2)), (3, .int v3), (4, .int v4)] [] ρ 0 0 [] m) : ∀ (n : Nat) (v2 : Nat) (v3 : Int32) (v4 : Int32) (v5 : Int32) (m : lu_M), lu_TC.2 v2 = (10, 0, 0) → v2 < lu_TC.1 → lu_Ab lu_TC G (lu_Q lu_TC G ρ lu_RVi lu_sn) (f11_strengthFor_b35 K83 a1 n v2 v3 v4 v5 m) 35 [(0, .ref (ρ 0)), (1, .int a1), (2, .ref (ρ v2)), (3, .int v3), (4, .int v4), (5, .int v5)] [] ρ 0 0 [] m := by
  intro n
  induction n with
  | zero => intro v2 v3 v4 v5 m hT_v2 hr_v2; exact lu_none
  | succ n ih => intro v2 v3 v4 v5 m hT_v2 hr_v2; exact w11_strengthFor_b35B X hret hK83 ih v2 v3 v4 v5 m hT_v2 hr_v2
def f11_strengthFor_b83  (a1 : Int32) (v2 : Nat) (v3 : Int32) (v4 : Int32) (m : lu_M) : Option (Int32 × lu_M) :=
  lu_nm (lu_st m v2 3 v3) fun m8 =>
  some (v4, m8)
set_option maxRecDepth 20000 in
theorem w11_strengthFor_b83  {G : lu_G} {ρ : Nat → Nat} {a1 : Int32}  (X : lu_X G RX11 cX11_strengthFor 6 7 167) (hret : (lu_me G).sig.returnType = (some .int))   : ∀ (v2 : Nat) (v3 : Int32) (v4 : Int32) (m : lu_M), lu_TC.2 v2 = (10, 0, 0) → v2 < lu_TC.1 → lu_Ab lu_TC G (lu_Q lu_TC G ρ lu_RVi lu_sn) (f11_strengthFor_b83 a1 v2 v3 v4 m) 83 [(2, .ref (ρ v2)), (3, .int v3), (4, .int v4)] [] ρ 0 0 [] m := by
  intro v2 v3 v4 m hT_v2 hr_v2
  unfold f11_strengthFor_b83
  refine lu_aload_n X dX11_strengthFor_83 (pc2 := 84) rfl rfl 0 rfl ?_
  refine lu_iload_n X dX11_strengthFor_84 (pc2 := 85) rfl rfl 1 rfl ?_
  refine lu_put X fl11_112 rfl (Or.inr (by decide)) rfl (by decide +kernel) hT_v2 hr_v2 dX11_strengthFor_85 (pc2 := 88) rfl (fun m8 => ?_)
  refine lu_iload X dX11_strengthFor_88 (pc2 := 90) rfl 2 rfl ?_
  exact lu_iret X hret dX11_strengthFor_90
def f11_strengthFor (a1 : Int32) (m : lu_M) : Option (Int32 × lu_M) :=
  lu_bi (f10_isPerson 1 a1 m) fun x1 m2 =>
  if x1 = 0 then (some ((-1 : Int32), m2))
  else (lu_gd (lu_ib a1 6) <|
  lu_nm ((m2 (2 + 1 + a1.toNatClampNeg) 3)) fun x4 =>
  f11_strengthFor_b35 (f11_strengthFor_b83 a1) a1 lu_fu (2 + 1 + a1.toNatClampNeg) x4 (-3 : Int32) (1 : Int32) m2)
set_option maxRecDepth 20000 in
theorem c11_strengthFor (l : Launch)   (a1 : Int32) : lu_C lu_TC l yX11_strengthFor cX11_strengthFor 6 (some .int) 7 167 (fun ρ sa => [.ref (ρ 0), .int a1]) (f11_strengthFor a1) lu_RVi lu_sn := by
  refine lu_met (cls := RX11) rfl (by decide +kernel) (fun _ _ => Nat.le_of_ble_eq_true rfl) ?_
  intro G ρ m hl X hret
  subst hl
  change lu_Ab lu_TC G (lu_Q lu_TC G ρ lu_RVi lu_sn) (f11_strengthFor a1 m) 0 [(0, .ref (ρ 0)), (1, .int a1)] [] ρ 0 0 [] m
  unfold f11_strengthFor
  refine lu_aload_n X dX11_strengthFor_0 (pc2 := 1) rfl rfl 0 rfl ?_
  refine lu_getr (r2 := 1) X rfl fl11_18 rfl kC_0 lC_0 dX11_strengthFor_1 (pc2 := 4) rfl ?_
  refine lu_iload_n X dX11_strengthFor_4 (pc2 := 5) rfl rfl 1 rfl ?_
  refine lu_invVi X (c10_isPerson _ kC_1 lC_1 a1) rfl q440 mvV_10_isPerson kC_1 lC_1 (by decide) ⟨_, rfl, rfl⟩ rfl rfl (Nat.le_of_ble_eq_true rfl) (Nat.le_of_ble_eq_true rfl) (Nat.le_of_ble_eq_true rfl) ⟨Nat.zero_le _, Nat.zero_le _⟩ dX11_strengthFor_5 (pc2 := 8) rfl rfl (fun x1 m2 => ?_)
  refine lu_if_ne (tgt := 13) X dX11_strengthFor_8 (pc2 := 11) rfl (by decide) (fun _ => ?_) (fun _ => ?_)
  · refine lu_aload_n X dX11_strengthFor_13 (pc2 := 14) rfl rfl 0 rfl ?_
    refine lu_getr (r2 := 1) X rfl fl11_18 rfl kC_0 lC_0 dX11_strengthFor_14 (pc2 := 17) rfl ?_
    refine lu_getr (r2 := 2) X rfl fl11_99 rfl kC_1 lC_1 dX11_strengthFor_17 (pc2 := 20) rfl ?_
    refine lu_iload_n X dX11_strengthFor_20 (pc2 := 21) rfl rfl 1 rfl ?_
    refine lu_aald X rfl rfl (by decide) (by decide) kC_2 lC_2 dX11_strengthFor_21 (pc2 := 22) rfl (fun g3 => ?_)
    refine lu_astore_n (lv2 := [(2, .ref (ρ (2 + 1 + a1.toNatClampNeg))), (0, .ref (ρ 0)), (1, .int a1)]) X dX11_strengthFor_22 (pc2 := 23) rfl rfl (by decide) rfl ?_
    refine lu_aload_n X dX11_strengthFor_23 (pc2 := 24) rfl rfl 0 rfl ?_
    refine lu_get X fl11_112 rfl ((kaC_1_6_0 kC_2 lC_2 g3).1) ((kaC_1_6_0 kC_2 lC_2 g3).2) dX11_strengthFor_24 (pc2 := 27) rfl ?_
    refine lu_topi (fun x4 => ?_)
    refine lu_istore_n (lv2 := [(3, .int x4), (2, .ref (ρ (2 + 1 + a1.toNatClampNeg))), (0, .ref (ρ 0)), (1, .int a1)]) X dX11_strengthFor_27 (pc2 := 28) rfl rfl (by decide) rfl ?_
    refine lu_bipush X dX11_strengthFor_28 (pc2 := 30) rfl bp_m3 ?_
    refine lu_istore (lv2 := [(4, .int (-3 : Int32)), (3, .int x4), (2, .ref (ρ (2 + 1 + a1.toNatClampNeg))), (0, .ref (ρ 0)), (1, .int a1)]) X dX11_strengthFor_30 (pc2 := 32) rfl (by decide) rfl ?_
    refine lu_iconst X dX11_strengthFor_32 (pc2 := 33) rfl ic_1 ?_
    refine lu_istore (lv2 := [(5, .int (1 : Int32)), (4, .int (-3 : Int32)), (3, .int x4), (2, .ref (ρ (2 + 1 + a1.toNatClampNeg))), (0, .ref (ρ 0)), (1, .int a1)]) X dX11_strengthFor_33 (pc2 := 35) rfl (by decide) rfl ?_
    exact lu_sub [4, 5, 3, 2, 1, 0] rfl (w11_strengthFor_b35 X hret (w11_strengthFor_b83 X hret) lu_fu (2 + 1 + a1.toNatClampNeg) x4 (-3 : Int32) (1 : Int32) m2 ((kaC_1_6_0 kC_2 lC_2 g3).1) ((kaC_1_6_0 kC_2 lC_2 g3).2))
  · refine lu_iconst X dX11_strengthFor_11 (pc2 := 12) rfl ic_m1 ?_
    exact lu_iret X hret dX11_strengthFor_12

theorem dX11_owe_0 : decode cX11_owe 0 = .ok (.aload_n 0, 1) := by decide +kernel
theorem dX11_owe_1 : decode cX11_owe 1 = .ok (.getfield 18, 3) := by decide +kernel
theorem dX11_owe_4 : decode cX11_owe 4 = .ok (.iload_n 1, 1) := by decide +kernel
theorem dX11_owe_5 : decode cX11_owe 5 = .ok (.invokevirtual 102, 3) := by decide +kernel
theorem dX11_owe_8 : decode cX11_owe 8 = .ok (.ifCond .eq 29, 3) := by decide +kernel
theorem dX11_owe_11 : decode cX11_owe 11 = .ok (.aload_n 0, 1) := by decide +kernel
theorem dX11_owe_12 : decode cX11_owe 12 = .ok (.getfield 18, 3) := by decide +kernel
theorem dX11_owe_15 : decode cX11_owe 15 = .ok (.iload_n 2, 1) := by decide +kernel
theorem dX11_owe_16 : decode cX11_owe 16 = .ok (.invokevirtual 102, 3) := by decide +kernel
theorem dX11_owe_19 : decode cX11_owe 19 = .ok (.ifCond .eq 18, 3) := by decide +kernel
theorem dX11_owe_22 : decode cX11_owe 22 = .ok (.iload_n 1, 1) := by decide +kernel
theorem dX11_owe_23 : decode cX11_owe 23 = .ok (.iload_n 2, 1) := by decide +kernel
theorem dX11_owe_24 : decode cX11_owe 24 = .ok (.if_icmp .eq 13, 3) := by decide +kernel
theorem dX11_owe_27 : decode cX11_owe 27 = .ok (.iload_n 3, 1) := by decide +kernel
theorem dX11_owe_28 : decode cX11_owe 28 = .ok (.iconst 0, 1) := by decide +kernel
theorem dX11_owe_29 : decode cX11_owe 29 = .ok (.bipush 99, 2) := by decide +kernel
theorem dX11_owe_31 : decode cX11_owe 31 = .ok (.invokestatic 92, 3) := by decide +kernel
theorem dX11_owe_34 : decode cX11_owe 34 = .ok (.ifCond .ne 5, 3) := by decide +kernel
theorem dX11_owe_37 : decode cX11_owe 37 = .ok (.iconst (-1), 1) := by decide +kernel
theorem dX11_owe_38 : decode cX11_owe 38 = .ok (.ireturn, 1) := by decide +kernel
theorem dX11_owe_39 : decode cX11_owe 39 = .ok (.aload_n 0, 1) := by decide +kernel
theorem dX11_owe_40 : decode cX11_owe 40 = .ok (.getfield 18, 3) := by decide +kernel
theorem dX11_owe_43 : decode cX11_owe 43 = .ok (.getfield 223, 3) := by decide +kernel
theorem dX11_owe_46 : decode cX11_owe 46 = .ok (.iload_n 1, 1) := by decide +kernel
theorem dX11_owe_47 : decode cX11_owe 47 = .ok (.aaload, 1) := by decide +kernel
theorem dX11_owe_48 : decode cX11_owe 48 = .ok (.iload_n 2, 1) := by decide +kernel
theorem dX11_owe_49 : decode cX11_owe 49 = .ok (.iaload, 1) := by decide +kernel
theorem dX11_owe_50 : decode cX11_owe 50 = .ok (.istore 4, 2) := by decide +kernel
theorem dX11_owe_52 : decode cX11_owe 52 = .ok (.aload_n 0, 1) := by decide +kernel
theorem dX11_owe_53 : decode cX11_owe 53 = .ok (.getfield 18, 3) := by decide +kernel
theorem dX11_owe_56 : decode cX11_owe 56 = .ok (.getfield 223, 3) := by decide +kernel
theorem dX11_owe_59 : decode cX11_owe 59 = .ok (.iload_n 1, 1) := by decide +kernel
theorem dX11_owe_60 : decode cX11_owe 60 = .ok (.aaload, 1) := by decide +kernel
theorem dX11_owe_61 : decode cX11_owe 61 = .ok (.iload_n 2, 1) := by decide +kernel
theorem dX11_owe_62 : decode cX11_owe 62 = .ok (.iload_n 3, 1) := by decide +kernel
theorem dX11_owe_63 : decode cX11_owe 63 = .ok (.iastore, 1) := by decide +kernel
theorem dX11_owe_64 : decode cX11_owe 64 = .ok (.iload 4, 2) := by decide +kernel
theorem dX11_owe_66 : decode cX11_owe 66 = .ok (.ireturn, 1) := by decide +kernel
def f11_owe_b37  (a1 : Int32) (a2 : Int32) (a3 : Int32)  (m : lu_M) : Option (Int32 × lu_M) :=
  some ((-1 : Int32), m)
set_option maxRecDepth 20000 in
theorem w11_owe_b37  {G : lu_G} {ρ : Nat → Nat} {a1 : Int32} {a2 : Int32} {a3 : Int32}  (X : lu_X G RX11 cX11_owe 5 2 43) (hret : (lu_me G).sig.returnType = (some .int))   : ∀  (m : lu_M), lu_Ab lu_TC G (lu_Q lu_TC G ρ lu_RVi lu_sn) (f11_owe_b37 a1 a2 a3 m) 37 [] [] ρ 0 0 [] m := by
  intro  m
  unfold f11_owe_b37
  refine lu_iconst X dX11_owe_37 (pc2 := 38) rfl ic_m1 ?_
  exact lu_iret X hret dX11_owe_38
def f11_owe (a1 : Int32) (a2 : Int32) (a3 : Int32) (m : lu_M) : Option (Int32 × lu_M) :=
  lu_bi (f10_isPerson 1 a1 m) fun x1 m2 =>
  if x1 = 0 then (f11_owe_b37 a1 a2 a3 m2)
  else (lu_bi (f10_isPerson 1 a2 m2) fun x3 m4 =>
  if x3 = 0 then (f11_owe_b37 a1 a2 a3 m4)
  else (if a1 = a2 then (f11_owe_b37 a1 a2 a3 m4)
  else (lu_bi (f11_isWithin a3 (0 : Int32) (99 : Int32) m4) fun x5 m6 =>
  if x5 = 0 then (f11_owe_b37 a1 a2 a3 m6)
  else (lu_gd (lu_ib a1 6) <|
  lu_gd (lu_ib a2 6) <|
  lu_nm ((m6 (22 + 1 + a1.toNatClampNeg) a2.toNatClampNeg)) fun x8 =>
  lu_gd (lu_ib a1 6) <|
  lu_gd (lu_ib a2 6) <|
  lu_nm (lu_st m6 (22 + 1 + a1.toNatClampNeg) a2.toNatClampNeg a3) fun m10 =>
  some (x8, m10)))))
set_option maxRecDepth 20000 in
theorem c11_owe (l : Launch)   (a1 : Int32) (a2 : Int32) (a3 : Int32) : lu_C lu_TC l yX11_owe cX11_owe 5 (some .int) 2 43 (fun ρ sa => [.ref (ρ 0), .int a1, .int a2, .int a3]) (f11_owe a1 a2 a3) lu_RVi lu_sn := by
  refine lu_met (cls := RX11) rfl (by decide +kernel) (fun _ _ => Nat.le_of_ble_eq_true rfl) ?_
  intro G ρ m hl X hret
  subst hl
  change lu_Ab lu_TC G (lu_Q lu_TC G ρ lu_RVi lu_sn) (f11_owe a1 a2 a3 m) 0 [(0, .ref (ρ 0)), (1, .int a1), (2, .int a2), (3, .int a3)] [] ρ 0 0 [] m
  unfold f11_owe
  refine lu_aload_n X dX11_owe_0 (pc2 := 1) rfl rfl 0 rfl ?_
  refine lu_getr (r2 := 1) X rfl fl11_18 rfl kC_0 lC_0 dX11_owe_1 (pc2 := 4) rfl ?_
  refine lu_iload_n X dX11_owe_4 (pc2 := 5) rfl rfl 1 rfl ?_
  refine lu_invVi X (c10_isPerson _ kC_1 lC_1 a1) rfl q440 mvV_10_isPerson kC_1 lC_1 (by decide) ⟨_, rfl, rfl⟩ rfl rfl (Nat.le_of_ble_eq_true rfl) (Nat.le_of_ble_eq_true rfl) (Nat.le_of_ble_eq_true rfl) ⟨Nat.zero_le _, Nat.zero_le _⟩ dX11_owe_5 (pc2 := 8) rfl rfl (fun x1 m2 => ?_)
  refine lu_if_eq (tgt := 37) X dX11_owe_8 (pc2 := 11) rfl (by decide) (fun _ => ?_) (fun _ => ?_)
  · exact lu_sub [] rfl (w11_owe_b37 X hret m2)
  · refine lu_aload_n X dX11_owe_11 (pc2 := 12) rfl rfl 0 rfl ?_
    refine lu_getr (r2 := 1) X rfl fl11_18 rfl kC_0 lC_0 dX11_owe_12 (pc2 := 15) rfl ?_
    refine lu_iload_n X dX11_owe_15 (pc2 := 16) rfl rfl 2 rfl ?_
    refine lu_invVi X (c10_isPerson _ kC_1 lC_1 a2) rfl q440 mvV_10_isPerson kC_1 lC_1 (by decide) ⟨_, rfl, rfl⟩ rfl rfl (Nat.le_of_ble_eq_true rfl) (Nat.le_of_ble_eq_true rfl) (Nat.le_of_ble_eq_true rfl) ⟨Nat.zero_le _, Nat.zero_le _⟩ dX11_owe_16 (pc2 := 19) rfl rfl (fun x3 m4 => ?_)
    refine lu_if_eq (tgt := 37) X dX11_owe_19 (pc2 := 22) rfl (by decide) (fun _ => ?_) (fun _ => ?_)
    · exact lu_sub [] rfl (w11_owe_b37 X hret m4)
    · refine lu_iload_n X dX11_owe_22 (pc2 := 23) rfl rfl 1 rfl ?_
      refine lu_iload_n X dX11_owe_23 (pc2 := 24) rfl rfl 2 rfl ?_
      refine lu_icmp_eq (tgt := 37) X dX11_owe_24 (pc2 := 27) rfl (by decide) (fun _ => ?_) (fun _ => ?_)
      · exact lu_sub [] rfl (w11_owe_b37 X hret m4)
      · refine lu_iload_n X dX11_owe_27 (pc2 := 28) rfl rfl 3 rfl ?_
        refine lu_iconst X dX11_owe_28 (pc2 := 29) rfl ic_0 ?_
        refine lu_bipush X dX11_owe_29 (pc2 := 31) rfl bp_99 ?_
        refine lu_invSi X (c11_isWithin _ a3 (0 : Int32) (99 : Int32)) rfl q433 mvS_11_isWithin rfl rfl (Nat.le_of_ble_eq_true rfl) (Nat.le_of_ble_eq_true rfl) (Nat.le_of_ble_eq_true rfl) ⟨Nat.zero_le _, Nat.zero_le _⟩ dX11_owe_31 (pc2 := 34) rfl rfl (fun x5 m6 => ?_)
        refine lu_if_ne (tgt := 39) X dX11_owe_34 (pc2 := 37) rfl (by decide) (fun _ => ?_) (fun _ => ?_)
        · refine lu_aload_n X dX11_owe_39 (pc2 := 40) rfl rfl 0 rfl ?_
          refine lu_getr (r2 := 1) X rfl fl11_18 rfl kC_0 lC_0 dX11_owe_40 (pc2 := 43) rfl ?_
          refine lu_getr (r2 := 22) X rfl fl11_223 rfl kC_1 lC_1 dX11_owe_43 (pc2 := 46) rfl ?_
          refine lu_iload_n X dX11_owe_46 (pc2 := 47) rfl rfl 1 rfl ?_
          refine lu_aald X rfl rfl (by decide) (by decide) kC_22 lC_22 dX11_owe_47 (pc2 := 48) rfl (fun g7 => ?_)
          refine lu_iload_n X dX11_owe_48 (pc2 := 49) rfl rfl 2 rfl ?_
          refine lu_iald X ((kaC_3_6_6 kC_22 lC_22 g7).1) ((kaC_3_6_6 kC_22 lC_22 g7).2) dX11_owe_49 (pc2 := 50) rfl ?_
          refine lu_topi (fun x8 => ?_)
          refine lu_istore (lv2 := [(4, .int x8), (0, .ref (ρ 0)), (1, .int a1), (2, .int a2), (3, .int a3)]) X dX11_owe_50 (pc2 := 52) rfl (by decide) rfl ?_
          refine lu_aload_n X dX11_owe_52 (pc2 := 53) rfl rfl 1 rfl ?_
          refine lu_getr (r2 := 1) X rfl fl11_18 rfl kC_0 lC_0 dX11_owe_53 (pc2 := 56) rfl ?_
          refine lu_getr (r2 := 22) X rfl fl11_223 rfl kC_1 lC_1 dX11_owe_56 (pc2 := 59) rfl ?_
          refine lu_iload_n X dX11_owe_59 (pc2 := 60) rfl rfl 2 rfl ?_
          refine lu_aald X rfl rfl (by decide) (by decide) kC_22 lC_22 dX11_owe_60 (pc2 := 61) rfl (fun g9 => ?_)
          refine lu_iload_n X dX11_owe_61 (pc2 := 62) rfl rfl 3 rfl ?_
          refine lu_iload_n X dX11_owe_62 (pc2 := 63) rfl rfl 4 rfl ?_
          refine lu_iast X ((kaC_3_6_6 kC_22 lC_22 g9).1) ((kaC_3_6_6 kC_22 lC_22 g9).2) dX11_owe_63 (pc2 := 64) rfl (fun m10 => ?_)
          refine lu_iload X dX11_owe_64 (pc2 := 66) rfl 0 rfl ?_
          exact lu_iret X hret dX11_owe_66
        · exact lu_sub [] rfl (w11_owe_b37 X hret m6)

theorem dX11_owes_0 : decode cX11_owes 0 = .ok (.aload_n 0, 1) := by decide +kernel
theorem dX11_owes_1 : decode cX11_owes 1 = .ok (.getfield 18, 3) := by decide +kernel
theorem dX11_owes_4 : decode cX11_owes 4 = .ok (.iload_n 1, 1) := by decide +kernel
theorem dX11_owes_5 : decode cX11_owes 5 = .ok (.invokevirtual 102, 3) := by decide +kernel
theorem dX11_owes_8 : decode cX11_owes 8 = .ok (.ifCond .eq 19, 3) := by decide +kernel
theorem dX11_owes_11 : decode cX11_owes 11 = .ok (.aload_n 0, 1) := by decide +kernel
theorem dX11_owes_12 : decode cX11_owes 12 = .ok (.getfield 18, 3) := by decide +kernel
theorem dX11_owes_15 : decode cX11_owes 15 = .ok (.iload_n 2, 1) := by decide +kernel
theorem dX11_owes_16 : decode cX11_owes 16 = .ok (.invokevirtual 102, 3) := by decide +kernel
theorem dX11_owes_19 : decode cX11_owes 19 = .ok (.ifCond .eq 8, 3) := by decide +kernel
theorem dX11_owes_22 : decode cX11_owes 22 = .ok (.iload_n 1, 1) := by decide +kernel
theorem dX11_owes_23 : decode cX11_owes 23 = .ok (.iload_n 2, 1) := by decide +kernel
theorem dX11_owes_24 : decode cX11_owes 24 = .ok (.if_icmp .ne 5, 3) := by decide +kernel
theorem dX11_owes_27 : decode cX11_owes 27 = .ok (.iconst (-1), 1) := by decide +kernel
theorem dX11_owes_28 : decode cX11_owes 28 = .ok (.ireturn, 1) := by decide +kernel
theorem dX11_owes_29 : decode cX11_owes 29 = .ok (.aload_n 0, 1) := by decide +kernel
theorem dX11_owes_30 : decode cX11_owes 30 = .ok (.getfield 18, 3) := by decide +kernel
theorem dX11_owes_33 : decode cX11_owes 33 = .ok (.getfield 223, 3) := by decide +kernel
theorem dX11_owes_36 : decode cX11_owes 36 = .ok (.iload_n 1, 1) := by decide +kernel
theorem dX11_owes_37 : decode cX11_owes 37 = .ok (.aaload, 1) := by decide +kernel
theorem dX11_owes_38 : decode cX11_owes 38 = .ok (.iload_n 2, 1) := by decide +kernel
theorem dX11_owes_39 : decode cX11_owes 39 = .ok (.iaload, 1) := by decide +kernel
theorem dX11_owes_40 : decode cX11_owes 40 = .ok (.ireturn, 1) := by decide +kernel
def f11_owes_b27  (a1 : Int32) (a2 : Int32)  (m : lu_M) : Option (Int32 × lu_M) :=
  some ((-1 : Int32), m)
set_option maxRecDepth 20000 in
theorem w11_owes_b27  {G : lu_G} {ρ : Nat → Nat} {a1 : Int32} {a2 : Int32}  (X : lu_X G RX11 cX11_owes 3 2 43) (hret : (lu_me G).sig.returnType = (some .int))   : ∀  (m : lu_M), lu_Ab lu_TC G (lu_Q lu_TC G ρ lu_RVi lu_sn) (f11_owes_b27 a1 a2 m) 27 [] [] ρ 0 0 [] m := by
  intro  m
  unfold f11_owes_b27
  refine lu_iconst X dX11_owes_27 (pc2 := 28) rfl ic_m1 ?_
  exact lu_iret X hret dX11_owes_28
def f11_owes (a1 : Int32) (a2 : Int32) (m : lu_M) : Option (Int32 × lu_M) :=
  lu_bi (f10_isPerson 1 a1 m) fun x1 m2 =>
  if x1 = 0 then (f11_owes_b27 a1 a2 m2)
  else (lu_bi (f10_isPerson 1 a2 m2) fun x3 m4 =>
  if x3 = 0 then (f11_owes_b27 a1 a2 m4)
  else (if a1 = a2 then (f11_owes_b27 a1 a2 m4)
  else (lu_gd (lu_ib a1 6) <|
  lu_gd (lu_ib a2 6) <|
  some ((m4 (22 + 1 + a1.toNatClampNeg) a2.toNatClampNeg), m4))))
set_option maxRecDepth 20000 in
theorem c11_owes (l : Launch)   (a1 : Int32) (a2 : Int32) : lu_C lu_TC l yX11_owes cX11_owes 3 (some .int) 2 43 (fun ρ sa => [.ref (ρ 0), .int a1, .int a2]) (f11_owes a1 a2) lu_RVi lu_sn := by
  refine lu_met (cls := RX11) rfl (by decide +kernel) (fun _ _ => Nat.le_of_ble_eq_true rfl) ?_
  intro G ρ m hl X hret
  subst hl
  change lu_Ab lu_TC G (lu_Q lu_TC G ρ lu_RVi lu_sn) (f11_owes a1 a2 m) 0 [(0, .ref (ρ 0)), (1, .int a1), (2, .int a2)] [] ρ 0 0 [] m
  unfold f11_owes
  refine lu_aload_n X dX11_owes_0 (pc2 := 1) rfl rfl 0 rfl ?_
  refine lu_getr (r2 := 1) X rfl fl11_18 rfl kC_0 lC_0 dX11_owes_1 (pc2 := 4) rfl ?_
  refine lu_iload_n X dX11_owes_4 (pc2 := 5) rfl rfl 1 rfl ?_
  refine lu_invVi X (c10_isPerson _ kC_1 lC_1 a1) rfl q440 mvV_10_isPerson kC_1 lC_1 (by decide) ⟨_, rfl, rfl⟩ rfl rfl (Nat.le_of_ble_eq_true rfl) (Nat.le_of_ble_eq_true rfl) (Nat.le_of_ble_eq_true rfl) ⟨Nat.zero_le _, Nat.zero_le _⟩ dX11_owes_5 (pc2 := 8) rfl rfl (fun x1 m2 => ?_)
  refine lu_if_eq (tgt := 27) X dX11_owes_8 (pc2 := 11) rfl (by decide) (fun _ => ?_) (fun _ => ?_)
  · exact lu_sub [] rfl (w11_owes_b27 X hret m2)
  · refine lu_aload_n X dX11_owes_11 (pc2 := 12) rfl rfl 0 rfl ?_
    refine lu_getr (r2 := 1) X rfl fl11_18 rfl kC_0 lC_0 dX11_owes_12 (pc2 := 15) rfl ?_
    refine lu_iload_n X dX11_owes_15 (pc2 := 16) rfl rfl 2 rfl ?_
    refine lu_invVi X (c10_isPerson _ kC_1 lC_1 a2) rfl q440 mvV_10_isPerson kC_1 lC_1 (by decide) ⟨_, rfl, rfl⟩ rfl rfl (Nat.le_of_ble_eq_true rfl) (Nat.le_of_ble_eq_true rfl) (Nat.le_of_ble_eq_true rfl) ⟨Nat.zero_le _, Nat.zero_le _⟩ dX11_owes_16 (pc2 := 19) rfl rfl (fun x3 m4 => ?_)
    refine lu_if_eq (tgt := 27) X dX11_owes_19 (pc2 := 22) rfl (by decide) (fun _ => ?_) (fun _ => ?_)
    · exact lu_sub [] rfl (w11_owes_b27 X hret m4)
    · refine lu_iload_n X dX11_owes_22 (pc2 := 23) rfl rfl 1 rfl ?_
      refine lu_iload_n X dX11_owes_23 (pc2 := 24) rfl rfl 2 rfl ?_
      refine lu_icmp_ne (tgt := 29) X dX11_owes_24 (pc2 := 27) rfl (by decide) (fun _ => ?_) (fun _ => ?_)
      · refine lu_aload_n X dX11_owes_29 (pc2 := 30) rfl rfl 0 rfl ?_
        refine lu_getr (r2 := 1) X rfl fl11_18 rfl kC_0 lC_0 dX11_owes_30 (pc2 := 33) rfl ?_
        refine lu_getr (r2 := 22) X rfl fl11_223 rfl kC_1 lC_1 dX11_owes_33 (pc2 := 36) rfl ?_
        refine lu_iload_n X dX11_owes_36 (pc2 := 37) rfl rfl 1 rfl ?_
        refine lu_aald X rfl rfl (by decide) (by decide) kC_22 lC_22 dX11_owes_37 (pc2 := 38) rfl (fun g5 => ?_)
        refine lu_iload_n X dX11_owes_38 (pc2 := 39) rfl rfl 2 rfl ?_
        refine lu_iald X ((kaC_3_6_6 kC_22 lC_22 g5).1) ((kaC_3_6_6 kC_22 lC_22 g5).2) dX11_owes_39 (pc2 := 40) rfl ?_
        exact lu_iret X hret dX11_owes_40
      · exact lu_sub [] rfl (w11_owes_b27 X hret m4)

theorem dX11_net_0 : decode cX11_net 0 = .ok (.aload_n 0, 1) := by decide +kernel
theorem dX11_net_1 : decode cX11_net 1 = .ok (.getfield 18, 3) := by decide +kernel
theorem dX11_net_4 : decode cX11_net 4 = .ok (.iload_n 1, 1) := by decide +kernel
theorem dX11_net_5 : decode cX11_net 5 = .ok (.invokevirtual 102, 3) := by decide +kernel
theorem dX11_net_8 : decode cX11_net 8 = .ok (.ifCond .ne 5, 3) := by decide +kernel
theorem dX11_net_11 : decode cX11_net 11 = .ok (.iconst (-1), 1) := by decide +kernel
theorem dX11_net_12 : decode cX11_net 12 = .ok (.ireturn, 1) := by decide +kernel
theorem dX11_net_13 : decode cX11_net 13 = .ok (.sipush 10000, 3) := by decide +kernel
theorem dX11_net_16 : decode cX11_net 16 = .ok (.aload_n 0, 1) := by decide +kernel
theorem dX11_net_17 : decode cX11_net 17 = .ok (.getfield 18, 3) := by decide +kernel
theorem dX11_net_20 : decode cX11_net 20 = .ok (.iload_n 1, 1) := by decide +kernel
theorem dX11_net_21 : decode cX11_net 21 = .ok (.invokevirtual 226, 3) := by decide +kernel
theorem dX11_net_24 : decode cX11_net 24 = .ok (.iadd, 1) := by decide +kernel
theorem dX11_net_25 : decode cX11_net 25 = .ok (.ireturn, 1) := by decide +kernel
def f11_net (a1 : Int32) (m : lu_M) : Option (Int32 × lu_M) :=
  lu_bi (f10_isPerson 1 a1 m) fun x1 m2 =>
  if x1 = 0 then (some ((-1 : Int32), m2))
  else (lu_bi (f10_netOf 1 a1 m2) fun x3 m4 =>
  some (((10000 : Int32) + x3), m4))
set_option maxRecDepth 20000 in
theorem c11_net (l : Launch)   (a1 : Int32) : lu_C lu_TC l yX11_net cX11_net 2 (some .int) 2 43 (fun ρ sa => [.ref (ρ 0), .int a1]) (f11_net a1) lu_RVi lu_sn := by
  refine lu_met (cls := RX11) rfl (by decide +kernel) (fun _ _ => Nat.le_of_ble_eq_true rfl) ?_
  intro G ρ m hl X hret
  subst hl
  change lu_Ab lu_TC G (lu_Q lu_TC G ρ lu_RVi lu_sn) (f11_net a1 m) 0 [(0, .ref (ρ 0)), (1, .int a1)] [] ρ 0 0 [] m
  unfold f11_net
  refine lu_aload_n X dX11_net_0 (pc2 := 1) rfl rfl 0 rfl ?_
  refine lu_getr (r2 := 1) X rfl fl11_18 rfl kC_0 lC_0 dX11_net_1 (pc2 := 4) rfl ?_
  refine lu_iload_n X dX11_net_4 (pc2 := 5) rfl rfl 1 rfl ?_
  refine lu_invVi X (c10_isPerson _ kC_1 lC_1 a1) rfl q440 mvV_10_isPerson kC_1 lC_1 (by decide) ⟨_, rfl, rfl⟩ rfl rfl (Nat.le_of_ble_eq_true rfl) (Nat.le_of_ble_eq_true rfl) (Nat.le_of_ble_eq_true rfl) ⟨Nat.zero_le _, Nat.zero_le _⟩ dX11_net_5 (pc2 := 8) rfl rfl (fun x1 m2 => ?_)
  refine lu_if_ne (tgt := 13) X dX11_net_8 (pc2 := 11) rfl (by decide) (fun _ => ?_) (fun _ => ?_)
  · refine lu_sipush X dX11_net_13 (pc2 := 16) rfl sp_10000 ?_
    refine lu_aload_n X dX11_net_16 (pc2 := 17) rfl rfl 0 rfl ?_
    refine lu_getr (r2 := 1) X rfl fl11_18 rfl kC_0 lC_0 dX11_net_17 (pc2 := 20) rfl ?_
    refine lu_iload_n X dX11_net_20 (pc2 := 21) rfl rfl 1 rfl ?_
    refine lu_invVi X (c10_netOf _ kC_1 lC_1 a1) rfl q807 mvV_10_netOf kC_1 lC_1 (by decide) ⟨_, rfl, rfl⟩ rfl rfl (Nat.le_of_ble_eq_true rfl) (Nat.le_of_ble_eq_true rfl) (Nat.le_of_ble_eq_true rfl) ⟨Nat.zero_le _, Nat.zero_le _⟩ dX11_net_21 (pc2 := 24) rfl rfl (fun x3 m4 => ?_)
    refine lu_iadd X dX11_net_24 (pc2 := 25) rfl ?_
    exact lu_iret X hret dX11_net_25
  · refine lu_iconst X dX11_net_11 (pc2 := 12) rfl ic_m1 ?_
    exact lu_iret X hret dX11_net_12

theorem dX11_ring_0 : decode cX11_ring 0 = .ok (.aload_n 0, 1) := by decide +kernel
theorem dX11_ring_1 : decode cX11_ring 1 = .ok (.getfield 18, 3) := by decide +kernel
theorem dX11_ring_4 : decode cX11_ring 4 = .ok (.iload_n 1, 1) := by decide +kernel
theorem dX11_ring_5 : decode cX11_ring 5 = .ok (.invokevirtual 102, 3) := by decide +kernel
theorem dX11_ring_8 : decode cX11_ring 8 = .ok (.ifCond .ne 5, 3) := by decide +kernel
theorem dX11_ring_11 : decode cX11_ring 11 = .ok (.iconst (-1), 1) := by decide +kernel
theorem dX11_ring_12 : decode cX11_ring 12 = .ok (.ireturn, 1) := by decide +kernel
theorem dX11_ring_13 : decode cX11_ring 13 = .ok (.iconst 1, 1) := by decide +kernel
theorem dX11_ring_14 : decode cX11_ring 14 = .ok (.iload_n 1, 1) := by decide +kernel
theorem dX11_ring_15 : decode cX11_ring 15 = .ok (.ishl, 1) := by decide +kernel
theorem dX11_ring_16 : decode cX11_ring 16 = .ok (.istore_n 2, 1) := by decide +kernel
theorem dX11_ring_17 : decode cX11_ring 17 = .ok (.iconst 1, 1) := by decide +kernel
theorem dX11_ring_18 : decode cX11_ring 18 = .ok (.istore_n 3, 1) := by decide +kernel
theorem dX11_ring_19 : decode cX11_ring 19 = .ok (.iload_n 3, 1) := by decide +kernel
theorem dX11_ring_20 : decode cX11_ring 20 = .ok (.aload_n 0, 1) := by decide +kernel
theorem dX11_ring_21 : decode cX11_ring 21 = .ok (.getfield 18, 3) := by decide +kernel
theorem dX11_ring_24 : decode cX11_ring 24 = .ok (.getfield 96, 3) := by decide +kernel
theorem dX11_ring_27 : decode cX11_ring 27 = .ok (.if_icmp .gt 29, 3) := by decide +kernel
theorem dX11_ring_30 : decode cX11_ring 30 = .ok (.aload_n 0, 1) := by decide +kernel
theorem dX11_ring_31 : decode cX11_ring 31 = .ok (.getfield 18, 3) := by decide +kernel
theorem dX11_ring_34 : decode cX11_ring 34 = .ok (.iload_n 2, 1) := by decide +kernel
theorem dX11_ring_35 : decode cX11_ring 35 = .ok (.invokevirtual 229, 3) := by decide +kernel
theorem dX11_ring_38 : decode cX11_ring 38 = .ok (.istore_n 2, 1) := by decide +kernel
theorem dX11_ring_39 : decode cX11_ring 39 = .ok (.iload_n 2, 1) := by decide +kernel
theorem dX11_ring_40 : decode cX11_ring 40 = .ok (.iload_n 1, 1) := by decide +kernel
theorem dX11_ring_41 : decode cX11_ring 41 = .ok (.ishr, 1) := by decide +kernel
theorem dX11_ring_42 : decode cX11_ring 42 = .ok (.iconst 1, 1) := by decide +kernel
theorem dX11_ring_43 : decode cX11_ring 43 = .ok (.iand, 1) := by decide +kernel
theorem dX11_ring_44 : decode cX11_ring 44 = .ok (.iconst 1, 1) := by decide +kernel
theorem dX11_ring_45 : decode cX11_ring 45 = .ok (.if_icmp .ne 5, 3) := by decide +kernel
theorem dX11_ring_48 : decode cX11_ring 48 = .ok (.iload_n 3, 1) := by decide +kernel
theorem dX11_ring_49 : decode cX11_ring 49 = .ok (.ireturn, 1) := by decide +kernel
theorem dX11_ring_50 : decode cX11_ring 50 = .ok (.iinc 3 1, 3) := by decide +kernel
theorem dX11_ring_53 : decode cX11_ring 53 = .ok (.goto (-34), 3) := by decide +kernel
theorem dX11_ring_56 : decode cX11_ring 56 = .ok (.bipush (-3), 2) := by decide +kernel
theorem dX11_ring_58 : decode cX11_ring 58 = .ok (.ireturn, 1) := by decide +kernel
def f11_ring_b19B (K48 : Int32 → lu_M → Option (Int32 × lu_M)) (K56 : lu_M → Option (Int32 × lu_M)) (rec : Int32 → Int32 → lu_M → Option (Int32 × lu_M)) (a1 : Int32) (v2 : Int32) (v3 : Int32) (m : lu_M) : Option (Int32 × lu_M) :=
  if (m 1 0) < v3 then (K56 m)
  else (lu_bi (f10_owedBy 1 v2 m) fun x4 m5 =>
  if ((x4 >>> (a1 &&& 31)) &&& (1 : Int32)) = (1 : Int32) then (K48 v3 m5)
  else (rec x4 (v3 + (1 : Int32)) m5))
def f11_ring_b19 (K48 : Int32 → lu_M → Option (Int32 × lu_M)) (K56 : lu_M → Option (Int32 × lu_M)) (a1 : Int32) : Nat → Int32 → Int32 → lu_M → Option (Int32 × lu_M)
  | 0, _, _, _ => none
  | n + 1, v2, v3, m => f11_ring_b19B K48 K56 (f11_ring_b19 K48 K56 a1 n) a1 v2 v3 m
set_option maxRecDepth 20000 in
theorem w11_ring_b19B  {G : lu_G} {ρ : Nat → Nat} {a1 : Int32} {K48 : Int32 → lu_M → Option (Int32 × lu_M)} {K56 : lu_M → Option (Int32 × lu_M)} {rec : Int32 → Int32 → lu_M → Option (Int32 × lu_M)} (X : lu_X G RX11 cX11_ring 4 2 43) (hret : (lu_me G).sig.returnType = (some .int))  (hK48 : ∀ (v3 : Int32) (m : lu_M), lu_Ab lu_TC G (lu_Q lu_TC G ρ lu_RVi lu_sn) (K48 v3 m) 48 [(3, .int v3)] [] ρ 0 0 [] m) (hK56 : ∀  (m : lu_M), lu_Ab lu_TC G (lu_Q lu_TC G ρ lu_RVi lu_sn) (K56 m) 56 [] [] ρ 0 0 [] m) (hrec : ∀ (v2 : Int32) (v3 : Int32) (m : lu_M), lu_Ab lu_TC G (lu_Q lu_TC G ρ lu_RVi lu_sn) (rec v2 v3 m) 19 [(0, .ref (ρ 0)), (1, .int a1), (2, .int v2), (3, .int v3)] [] ρ 0 0 [] m) : ∀ (v2 : Int32) (v3 : Int32) (m : lu_M), lu_Ab lu_TC G (lu_Q lu_TC G ρ lu_RVi lu_sn) (f11_ring_b19B K48 K56 rec a1 v2 v3 m) 19 [(0, .ref (ρ 0)), (1, .int a1), (2, .int v2), (3, .int v3)] [] ρ 0 0 [] m := by
  intro v2 v3 m
  unfold f11_ring_b19B
  refine lu_iload_n X dX11_ring_19 (pc2 := 20) rfl rfl 3 rfl ?_
  refine lu_aload_n X dX11_ring_20 (pc2 := 21) rfl rfl 0 rfl ?_
  refine lu_getr (r2 := 1) X rfl fl11_18 rfl kC_0 lC_0 dX11_ring_21 (pc2 := 24) rfl ?_
  refine lu_get X fl11_96 rfl kC_1 lC_1 dX11_ring_24 (pc2 := 27) rfl ?_
  refine lu_icmp_gt (tgt := 56) X dX11_ring_27 (pc2 := 30) rfl (by decide) (fun _ => ?_) (fun _ => ?_)
  · exact lu_sub [] rfl (hK56 m)
  · refine lu_aload_n X dX11_ring_30 (pc2 := 31) rfl rfl 0 rfl ?_
    refine lu_getr (r2 := 1) X rfl fl11_18 rfl kC_0 lC_0 dX11_ring_31 (pc2 := 34) rfl ?_
    refine lu_iload_n X dX11_ring_34 (pc2 := 35) rfl rfl 2 rfl ?_
    refine lu_invVi X (c10_owedBy _ kC_1 lC_1 v2) rfl q815 mvV_10_owedBy kC_1 lC_1 (by decide) ⟨_, rfl, rfl⟩ rfl rfl (Nat.le_of_ble_eq_true rfl) (Nat.le_of_ble_eq_true rfl) (Nat.le_of_ble_eq_true rfl) ⟨Nat.zero_le _, Nat.zero_le _⟩ dX11_ring_35 (pc2 := 38) rfl rfl (fun x4 m5 => ?_)
    refine lu_istore_n (lv2 := [(2, .int x4), (0, .ref (ρ 0)), (1, .int a1), (3, .int v3)]) X dX11_ring_38 (pc2 := 39) rfl rfl (by decide) rfl ?_
    refine lu_iload_n X dX11_ring_39 (pc2 := 40) rfl rfl 0 rfl ?_
    refine lu_iload_n X dX11_ring_40 (pc2 := 41) rfl rfl 2 rfl ?_
    refine lu_ishr X dX11_ring_41 (pc2 := 42) rfl ?_
    refine lu_iconst X dX11_ring_42 (pc2 := 43) rfl ic_1 ?_
    refine lu_iand X dX11_ring_43 (pc2 := 44) rfl ?_
    refine lu_iconst X dX11_ring_44 (pc2 := 45) rfl ic_1 ?_
    refine lu_icmp_ne (tgt := 50) X dX11_ring_45 (pc2 := 48) rfl (by decide) (fun _ => ?_) (fun _ => ?_)
    · refine lu_iinc (lv2 := [(3, .int (v3 + (1 : Int32))), (2, .int x4), (0, .ref (ρ 0)), (1, .int a1)]) X dX11_ring_50 (pc2 := 53) rfl 3 rfl (lu_ii _ ic_1) (by decide) rfl ?_
      refine lu_goto (tgt := 19) X dX11_ring_53 (by decide) ?_
      exact lu_sub [2, 3, 1, 0] rfl (hrec x4 (v3 + (1 : Int32)) m5)
    · exact lu_sub [3] rfl (hK48 v3 m5)
theorem w11_ring_b19  {G : lu_G} {ρ : Nat → Nat} {a1 : Int32} {K48 : Int32 → lu_M → Option (Int32 × lu_M)} {K56 : lu_M → Option (Int32 × lu_M)} (X : lu_X G RX11 cX11_ring 4 2 43) (hret : (lu_me G).sig.returnType = (some .int))  (hK48 : ∀ (v3 : Int32) (m : lu_M), lu_Ab lu_TC G (lu_Q lu_TC G ρ lu_RVi lu_sn) (K48 v3 m) 48 [(3, .int v3)] [] ρ 0 0 [] m) (hK56 : ∀  (m : lu_M), lu_Ab lu_TC G (lu_Q lu_TC G ρ lu_RVi lu_sn) (K56 m) 56 [] [] ρ 0 0 [] m) : ∀ (n : Nat) (v2 : Int32) (v3 : Int32) (m : lu_M), lu_Ab lu_TC G (lu_Q lu_TC G ρ lu_RVi lu_sn) (f11_ring_b19 K48 K56 a1 n v2 v3 m) 19 [(0, .ref (ρ 0)), (1, .int a1), (2, .int v2), (3, .int v3)] [] ρ 0 0 [] m := by
  intro n
  induction n with
  | zero => intro v2 v3 m; exact lu_none
  | succ n ih => intro v2 v3 m; exact w11_ring_b19B X hret hK48 hK56 ih v2 v3 m
def f11_ring_b48  (a1 : Int32) (v3 : Int32) (m : lu_M) : Option (Int32 × lu_M) :=
  some (v3, m)
set_option maxRecDepth 20000 in
theorem w11_ring_b48  {G : lu_G} {ρ : Nat → Nat} {a1 : Int32}  (X : lu_X G RX11 cX11_ring 4 2 43) (hret : (lu_me G).sig.returnType = (some .int))   : ∀ (v3 : Int32) (m : lu_M), lu_Ab lu_TC G (lu_Q lu_TC G ρ lu_RVi lu_sn) (f11_ring_b48 a1 v3 m) 48 [(3, .int v3)] [] ρ 0 0 [] m := by
  intro v3 m
  unfold f11_ring_b48
  refine lu_iload_n X dX11_ring_48 (pc2 := 49) rfl rfl 0 rfl ?_
  exact lu_iret X hret dX11_ring_49
def f11_ring_b56  (a1 : Int32)  (m : lu_M) : Option (Int32 × lu_M) :=
  some ((-3 : Int32), m)
set_option maxRecDepth 20000 in
theorem w11_ring_b56  {G : lu_G} {ρ : Nat → Nat} {a1 : Int32}  (X : lu_X G RX11 cX11_ring 4 2 43) (hret : (lu_me G).sig.returnType = (some .int))   : ∀  (m : lu_M), lu_Ab lu_TC G (lu_Q lu_TC G ρ lu_RVi lu_sn) (f11_ring_b56 a1 m) 56 [] [] ρ 0 0 [] m := by
  intro  m
  unfold f11_ring_b56
  refine lu_bipush X dX11_ring_56 (pc2 := 58) rfl bp_m3 ?_
  exact lu_iret X hret dX11_ring_58
def f11_ring (a1 : Int32) (m : lu_M) : Option (Int32 × lu_M) :=
  lu_bi (f10_isPerson 1 a1 m) fun x1 m2 =>
  if x1 = 0 then (some ((-1 : Int32), m2))
  else (lu_nm (((1 : Int32) <<< (a1 &&& 31))) fun x3 =>
  f11_ring_b19 (f11_ring_b48 a1) (f11_ring_b56 a1) a1 lu_fu x3 (1 : Int32) m2)
set_option maxRecDepth 20000 in
theorem c11_ring (l : Launch)   (a1 : Int32) : lu_C lu_TC l yX11_ring cX11_ring 4 (some .int) 2 43 (fun ρ sa => [.ref (ρ 0), .int a1]) (f11_ring a1) lu_RVi lu_sn := by
  refine lu_met (cls := RX11) rfl (by decide +kernel) (fun _ _ => Nat.le_of_ble_eq_true rfl) ?_
  intro G ρ m hl X hret
  subst hl
  change lu_Ab lu_TC G (lu_Q lu_TC G ρ lu_RVi lu_sn) (f11_ring a1 m) 0 [(0, .ref (ρ 0)), (1, .int a1)] [] ρ 0 0 [] m
  unfold f11_ring
  refine lu_aload_n X dX11_ring_0 (pc2 := 1) rfl rfl 0 rfl ?_
  refine lu_getr (r2 := 1) X rfl fl11_18 rfl kC_0 lC_0 dX11_ring_1 (pc2 := 4) rfl ?_
  refine lu_iload_n X dX11_ring_4 (pc2 := 5) rfl rfl 1 rfl ?_
  refine lu_invVi X (c10_isPerson _ kC_1 lC_1 a1) rfl q440 mvV_10_isPerson kC_1 lC_1 (by decide) ⟨_, rfl, rfl⟩ rfl rfl (Nat.le_of_ble_eq_true rfl) (Nat.le_of_ble_eq_true rfl) (Nat.le_of_ble_eq_true rfl) ⟨Nat.zero_le _, Nat.zero_le _⟩ dX11_ring_5 (pc2 := 8) rfl rfl (fun x1 m2 => ?_)
  refine lu_if_ne (tgt := 13) X dX11_ring_8 (pc2 := 11) rfl (by decide) (fun _ => ?_) (fun _ => ?_)
  · refine lu_iconst X dX11_ring_13 (pc2 := 14) rfl ic_1 ?_
    refine lu_iload_n X dX11_ring_14 (pc2 := 15) rfl rfl 1 rfl ?_
    refine lu_ishl X dX11_ring_15 (pc2 := 16) rfl ?_
    refine lu_topi (fun x3 => ?_)
    refine lu_istore_n (lv2 := [(2, .int x3), (0, .ref (ρ 0)), (1, .int a1)]) X dX11_ring_16 (pc2 := 17) rfl rfl (by decide) rfl ?_
    refine lu_iconst X dX11_ring_17 (pc2 := 18) rfl ic_1 ?_
    refine lu_istore_n (lv2 := [(3, .int (1 : Int32)), (2, .int x3), (0, .ref (ρ 0)), (1, .int a1)]) X dX11_ring_18 (pc2 := 19) rfl rfl (by decide) rfl ?_
    exact lu_sub [2, 3, 1, 0] rfl (w11_ring_b19 X hret (w11_ring_b48 X hret) (w11_ring_b56 X hret) lu_fu x3 (1 : Int32) m2)
  · refine lu_iconst X dX11_ring_11 (pc2 := 12) rfl ic_m1 ?_
    exact lu_iret X hret dX11_ring_12

theorem dX11_payments_0 : decode cX11_payments 0 = .ok (.iconst 1, 1) := by decide +kernel
theorem dX11_payments_1 : decode cX11_payments 1 = .ok (.aload_n 0, 1) := by decide +kernel
theorem dX11_payments_2 : decode cX11_payments 2 = .ok (.getfield 18, 3) := by decide +kernel
theorem dX11_payments_5 : decode cX11_payments 5 = .ok (.getfield 96, 3) := by decide +kernel
theorem dX11_payments_8 : decode cX11_payments 8 = .ok (.ishl, 1) := by decide +kernel
theorem dX11_payments_9 : decode cX11_payments 9 = .ok (.istore_n 1, 1) := by decide +kernel
theorem dX11_payments_10 : decode cX11_payments 10 = .ok (.aload_n 0, 1) := by decide +kernel
theorem dX11_payments_11 : decode cX11_payments 11 = .ok (.getfield 62, 3) := by decide +kernel
theorem dX11_payments_14 : decode cX11_payments 14 = .ok (.iconst 0, 1) := by decide +kernel
theorem dX11_payments_15 : decode cX11_payments 15 = .ok (.iconst 0, 1) := by decide +kernel
theorem dX11_payments_16 : decode cX11_payments 16 = .ok (.iastore, 1) := by decide +kernel
theorem dX11_payments_17 : decode cX11_payments 17 = .ok (.iconst 1, 1) := by decide +kernel
theorem dX11_payments_18 : decode cX11_payments 18 = .ok (.istore_n 2, 1) := by decide +kernel
theorem dX11_payments_19 : decode cX11_payments 19 = .ok (.iload_n 2, 1) := by decide +kernel
theorem dX11_payments_20 : decode cX11_payments 20 = .ok (.iload_n 1, 1) := by decide +kernel
theorem dX11_payments_21 : decode cX11_payments 21 = .ok (.if_icmp .ge 105, 3) := by decide +kernel
theorem dX11_payments_24 : decode cX11_payments 24 = .ok (.iload_n 2, 1) := by decide +kernel
theorem dX11_payments_25 : decode cX11_payments 25 = .ok (.aload_n 0, 1) := by decide +kernel
theorem dX11_payments_26 : decode cX11_payments 26 = .ok (.getfield 62, 3) := by decide +kernel
theorem dX11_payments_29 : decode cX11_payments 29 = .ok (.arraylength, 1) := by decide +kernel
theorem dX11_payments_30 : decode cX11_payments 30 = .ok (.if_icmp .ge 96, 3) := by decide +kernel
theorem dX11_payments_33 : decode cX11_payments 33 = .ok (.iconst 0, 1) := by decide +kernel
theorem dX11_payments_34 : decode cX11_payments 34 = .ok (.istore_n 3, 1) := by decide +kernel
theorem dX11_payments_35 : decode cX11_payments 35 = .ok (.iconst 0, 1) := by decide +kernel
theorem dX11_payments_36 : decode cX11_payments 36 = .ok (.istore 4, 2) := by decide +kernel
theorem dX11_payments_38 : decode cX11_payments 38 = .ok (.iconst 0, 1) := by decide +kernel
theorem dX11_payments_39 : decode cX11_payments 39 = .ok (.istore 5, 2) := by decide +kernel
theorem dX11_payments_41 : decode cX11_payments 41 = .ok (.iload 5, 2) := by decide +kernel
theorem dX11_payments_43 : decode cX11_payments 43 = .ok (.aload_n 0, 1) := by decide +kernel
theorem dX11_payments_44 : decode cX11_payments 44 = .ok (.getfield 18, 3) := by decide +kernel
theorem dX11_payments_47 : decode cX11_payments 47 = .ok (.getfield 96, 3) := by decide +kernel
theorem dX11_payments_50 : decode cX11_payments 50 = .ok (.if_icmp .ge 51, 3) := by decide +kernel
theorem dX11_payments_53 : decode cX11_payments 53 = .ok (.iload_n 2, 1) := by decide +kernel
theorem dX11_payments_54 : decode cX11_payments 54 = .ok (.iload 5, 2) := by decide +kernel
theorem dX11_payments_56 : decode cX11_payments 56 = .ok (.ishr, 1) := by decide +kernel
theorem dX11_payments_57 : decode cX11_payments 57 = .ok (.iconst 1, 1) := by decide +kernel
theorem dX11_payments_58 : decode cX11_payments 58 = .ok (.iand, 1) := by decide +kernel
theorem dX11_payments_59 : decode cX11_payments 59 = .ok (.ifCond .ne 6, 3) := by decide +kernel
theorem dX11_payments_62 : decode cX11_payments 62 = .ok (.goto 33, 3) := by decide +kernel
theorem dX11_payments_65 : decode cX11_payments 65 = .ok (.iload_n 3, 1) := by decide +kernel
theorem dX11_payments_66 : decode cX11_payments 66 = .ok (.aload_n 0, 1) := by decide +kernel
theorem dX11_payments_67 : decode cX11_payments 67 = .ok (.getfield 18, 3) := by decide +kernel
theorem dX11_payments_70 : decode cX11_payments 70 = .ok (.iload 5, 2) := by decide +kernel
theorem dX11_payments_72 : decode cX11_payments 72 = .ok (.invokevirtual 226, 3) := by decide +kernel
theorem dX11_payments_75 : decode cX11_payments 75 = .ok (.iadd, 1) := by decide +kernel
theorem dX11_payments_76 : decode cX11_payments 76 = .ok (.istore_n 3, 1) := by decide +kernel
theorem dX11_payments_77 : decode cX11_payments 77 = .ok (.iload 4, 2) := by decide +kernel
theorem dX11_payments_79 : decode cX11_payments 79 = .ok (.aload_n 0, 1) := by decide +kernel
theorem dX11_payments_80 : decode cX11_payments 80 = .ok (.getfield 62, 3) := by decide +kernel
theorem dX11_payments_83 : decode cX11_payments 83 = .ok (.iload_n 2, 1) := by decide +kernel
theorem dX11_payments_84 : decode cX11_payments 84 = .ok (.iconst 1, 1) := by decide +kernel
theorem dX11_payments_85 : decode cX11_payments 85 = .ok (.iload 5, 2) := by decide +kernel
theorem dX11_payments_87 : decode cX11_payments 87 = .ok (.ishl, 1) := by decide +kernel
theorem dX11_payments_88 : decode cX11_payments 88 = .ok (.ixor, 1) := by decide +kernel
theorem dX11_payments_89 : decode cX11_payments 89 = .ok (.iaload, 1) := by decide +kernel
theorem dX11_payments_90 : decode cX11_payments 90 = .ok (.invokestatic 232, 3) := by decide +kernel
theorem dX11_payments_93 : decode cX11_payments 93 = .ok (.istore 4, 2) := by decide +kernel
theorem dX11_payments_95 : decode cX11_payments 95 = .ok (.iinc 5 1, 3) := by decide +kernel
theorem dX11_payments_98 : decode cX11_payments 98 = .ok (.goto (-57), 3) := by decide +kernel
theorem dX11_payments_101 : decode cX11_payments 101 = .ok (.aload_n 0, 1) := by decide +kernel
theorem dX11_payments_102 : decode cX11_payments 102 = .ok (.getfield 62, 3) := by decide +kernel
theorem dX11_payments_105 : decode cX11_payments 105 = .ok (.iload_n 2, 1) := by decide +kernel
theorem dX11_payments_106 : decode cX11_payments 106 = .ok (.iload_n 3, 1) := by decide +kernel
theorem dX11_payments_107 : decode cX11_payments 107 = .ok (.ifCond .ne 10, 3) := by decide +kernel
theorem dX11_payments_110 : decode cX11_payments 110 = .ok (.iload 4, 2) := by decide +kernel
theorem dX11_payments_112 : decode cX11_payments 112 = .ok (.iconst 1, 1) := by decide +kernel
theorem dX11_payments_113 : decode cX11_payments 113 = .ok (.iadd, 1) := by decide +kernel
theorem dX11_payments_114 : decode cX11_payments 114 = .ok (.goto 5, 3) := by decide +kernel
theorem dX11_payments_117 : decode cX11_payments 117 = .ok (.iload 4, 2) := by decide +kernel
theorem dX11_payments_119 : decode cX11_payments 119 = .ok (.iastore, 1) := by decide +kernel
theorem dX11_payments_120 : decode cX11_payments 120 = .ok (.iinc 2 1, 3) := by decide +kernel
theorem dX11_payments_123 : decode cX11_payments 123 = .ok (.goto (-104), 3) := by decide +kernel
theorem dX11_payments_126 : decode cX11_payments 126 = .ok (.aload_n 0, 1) := by decide +kernel
theorem dX11_payments_127 : decode cX11_payments 127 = .ok (.getfield 18, 3) := by decide +kernel
theorem dX11_payments_130 : decode cX11_payments 130 = .ok (.getfield 96, 3) := by decide +kernel
theorem dX11_payments_133 : decode cX11_payments 133 = .ok (.aload_n 0, 1) := by decide +kernel
theorem dX11_payments_134 : decode cX11_payments 134 = .ok (.getfield 62, 3) := by decide +kernel
theorem dX11_payments_137 : decode cX11_payments 137 = .ok (.iload_n 1, 1) := by decide +kernel
theorem dX11_payments_138 : decode cX11_payments 138 = .ok (.iconst 1, 1) := by decide +kernel
theorem dX11_payments_139 : decode cX11_payments 139 = .ok (.isub, 1) := by decide +kernel
theorem dX11_payments_140 : decode cX11_payments 140 = .ok (.iaload, 1) := by decide +kernel
theorem dX11_payments_141 : decode cX11_payments 141 = .ok (.isub, 1) := by decide +kernel
theorem dX11_payments_142 : decode cX11_payments 142 = .ok (.ireturn, 1) := by decide +kernel
def f11_payments_b95 (K41 : Int32 → Int32 → Int32 → Int32 → Int32 → lu_M → Option (Int32 × lu_M)) (K101 : Int32 → Int32 → Int32 → Int32 → lu_M → Option (Int32 × lu_M))  (v1 : Int32) (v2 : Int32) (v3 : Int32) (v4 : Int32) (v5 : Int32) (m : lu_M) : Option (Int32 × lu_M) :=
  K41 v1 v2 v3 v4 (v5 + (1 : Int32)) m
set_option maxRecDepth 20000 in
theorem w11_payments_b95  {G : lu_G} {ρ : Nat → Nat}  {K41 : Int32 → Int32 → Int32 → Int32 → Int32 → lu_M → Option (Int32 × lu_M)} {K101 : Int32 → Int32 → Int32 → Int32 → lu_M → Option (Int32 × lu_M)} (X : lu_X G RX11 cX11_payments 6 1 23) (hret : (lu_me G).sig.returnType = (some .int))  (hK41 : ∀ (v1 : Int32) (v2 : Int32) (v3 : Int32) (v4 : Int32) (v5 : Int32) (m : lu_M), lu_Ab lu_TC G (lu_Q lu_TC G ρ lu_RVi lu_sn) (K41 v1 v2 v3 v4 v5 m) 41 [(0, .ref (ρ 0)), (1, .int v1), (2, .int v2), (3, .int v3), (4, .int v4), (5, .int v5)] [] ρ 0 0 [] m) (hK101 : ∀ (v1 : Int32) (v2 : Int32) (v3 : Int32) (v4 : Int32) (m : lu_M), lu_Ab lu_TC G (lu_Q lu_TC G ρ lu_RVi lu_sn) (K101 v1 v2 v3 v4 m) 101 [(0, .ref (ρ 0)), (1, .int v1), (2, .int v2), (3, .int v3), (4, .int v4)] [] ρ 0 0 [] m) : ∀ (v1 : Int32) (v2 : Int32) (v3 : Int32) (v4 : Int32) (v5 : Int32) (m : lu_M), lu_Ab lu_TC G (lu_Q lu_TC G ρ lu_RVi lu_sn) (f11_payments_b95 K41 K101 v1 v2 v3 v4 v5 m) 95 [(0, .ref (ρ 0)), (1, .int v1), (2, .int v2), (3, .int v3), (4, .int v4), (5, .int v5)] [] ρ 0 0 [] m := by
  intro v1 v2 v3 v4 v5 m
  unfold f11_payments_b95
  refine lu_iinc (lv2 := [(5, .int (v5 + (1 : Int32))), (0, .ref (ρ 0)), (1, .int v1), (2, .int v2), (3, .int v3), (4, .int v4)]) X dX11_payments_95 (pc2 := 98) rfl 5 rfl (lu_ii _ ic_1) (by decide) rfl ?_
  refine lu_goto (tgt := 41) X dX11_payments_98 (by decide) ?_
  exact lu_sub [1, 2, 3, 4, 5, 0] rfl (hK41 v1 v2 v3 v4 (v5 + (1 : Int32)) m)
def f11_payments_b41B (K101 : Int32 → Int32 → Int32 → Int32 → lu_M → Option (Int32 × lu_M)) (rec : Int32 → Int32 → Int32 → Int32 → Int32 → lu_M → Option (Int32 × lu_M))  (v1 : Int32) (v2 : Int32) (v3 : Int32) (v4 : Int32) (v5 : Int32) (m : lu_M) : Option (Int32 × lu_M) :=
  if (m 1 0) ≤ v5 then (K101 v1 v2 v3 v4 m)
  else (if ((v2 >>> (v5 &&& 31)) &&& (1 : Int32)) = 0 then (f11_payments_b95 rec K101 v1 v2 v3 v4 v5 m)
  else (lu_bi (f10_netOf 1 v5 m) fun x3 m4 =>
  lu_nm ((v3 + x3)) fun x5 =>
  lu_gd (lu_ib (v2 ^^^ ((1 : Int32) <<< (v5 &&& 31))) 64) <|
  lu_nm ((if v4 < (m4 98 (v2 ^^^ ((1 : Int32) <<< (v5 &&& 31))).toNatClampNeg) then (m4 98 (v2 ^^^ ((1 : Int32) <<< (v5 &&& 31))).toNatClampNeg) else v4)) fun x6 =>
  f11_payments_b95 rec K101 v1 v2 x5 x6 v5 m4))
def f11_payments_b41 (K101 : Int32 → Int32 → Int32 → Int32 → lu_M → Option (Int32 × lu_M))  : Nat → Int32 → Int32 → Int32 → Int32 → Int32 → lu_M → Option (Int32 × lu_M)
  | 0, _, _, _, _, _, _ => none
  | n + 1, v1, v2, v3, v4, v5, m => f11_payments_b41B K101 (f11_payments_b41 K101 n) v1 v2 v3 v4 v5 m
set_option maxRecDepth 20000 in
theorem w11_payments_b41B  {G : lu_G} {ρ : Nat → Nat}  {K101 : Int32 → Int32 → Int32 → Int32 → lu_M → Option (Int32 × lu_M)} {rec : Int32 → Int32 → Int32 → Int32 → Int32 → lu_M → Option (Int32 × lu_M)} (X : lu_X G RX11 cX11_payments 6 1 23) (hret : (lu_me G).sig.returnType = (some .int))  (hK101 : ∀ (v1 : Int32) (v2 : Int32) (v3 : Int32) (v4 : Int32) (m : lu_M), lu_Ab lu_TC G (lu_Q lu_TC G ρ lu_RVi lu_sn) (K101 v1 v2 v3 v4 m) 101 [(0, .ref (ρ 0)), (1, .int v1), (2, .int v2), (3, .int v3), (4, .int v4)] [] ρ 0 0 [] m) (hrec : ∀ (v1 : Int32) (v2 : Int32) (v3 : Int32) (v4 : Int32) (v5 : Int32) (m : lu_M), lu_Ab lu_TC G (lu_Q lu_TC G ρ lu_RVi lu_sn) (rec v1 v2 v3 v4 v5 m) 41 [(0, .ref (ρ 0)), (1, .int v1), (2, .int v2), (3, .int v3), (4, .int v4), (5, .int v5)] [] ρ 0 0 [] m) : ∀ (v1 : Int32) (v2 : Int32) (v3 : Int32) (v4 : Int32) (v5 : Int32) (m : lu_M), lu_Ab lu_TC G (lu_Q lu_TC G ρ lu_RVi lu_sn) (f11_payments_b41B K101 rec v1 v2 v3 v4 v5 m) 41 [(0, .ref (ρ 0)), (1, .int v1), (2, .int v2), (3, .int v3), (4, .int v4), (5, .int v5)] [] ρ 0 0 [] m := by
  intro v1 v2 v3 v4 v5 m
  unfold f11_payments_b41B
  refine lu_iload X dX11_payments_41 (pc2 := 43) rfl 5 rfl ?_
  refine lu_aload_n X dX11_payments_43 (pc2 := 44) rfl rfl 0 rfl ?_
  refine lu_getr (r2 := 1) X rfl fl11_18 rfl kC_0 lC_0 dX11_payments_44 (pc2 := 47) rfl ?_
  refine lu_get X fl11_96 rfl kC_1 lC_1 dX11_payments_47 (pc2 := 50) rfl ?_
  refine lu_icmp_ge (tgt := 101) X dX11_payments_50 (pc2 := 53) rfl (by decide) (fun _ => ?_) (fun _ => ?_)
  · exact lu_sub [0, 1, 2, 3, 4] rfl (hK101 v1 v2 v3 v4 m)
  · refine lu_iload_n X dX11_payments_53 (pc2 := 54) rfl rfl 2 rfl ?_
    refine lu_iload X dX11_payments_54 (pc2 := 56) rfl 5 rfl ?_
    refine lu_ishr X dX11_payments_56 (pc2 := 57) rfl ?_
    refine lu_iconst X dX11_payments_57 (pc2 := 58) rfl ic_1 ?_
    refine lu_iand X dX11_payments_58 (pc2 := 59) rfl ?_
    refine lu_if_ne (tgt := 65) X dX11_payments_59 (pc2 := 62) rfl (by decide) (fun _ => ?_) (fun _ => ?_)
    · refine lu_iload_n X dX11_payments_65 (pc2 := 66) rfl rfl 3 rfl ?_
      refine lu_aload_n X dX11_payments_66 (pc2 := 67) rfl rfl 0 rfl ?_
      refine lu_getr (r2 := 1) X rfl fl11_18 rfl kC_0 lC_0 dX11_payments_67 (pc2 := 70) rfl ?_
      refine lu_iload X dX11_payments_70 (pc2 := 72) rfl 5 rfl ?_
      refine lu_invVi X (c10_netOf _ kC_1 lC_1 v5) rfl q807 mvV_10_netOf kC_1 lC_1 (by decide) ⟨_, rfl, rfl⟩ rfl rfl (Nat.le_of_ble_eq_true rfl) (Nat.le_of_ble_eq_true rfl) (Nat.le_of_ble_eq_true rfl) ⟨Nat.zero_le _, Nat.zero_le _⟩ dX11_payments_72 (pc2 := 75) rfl rfl (fun x3 m4 => ?_)
      refine lu_iadd X dX11_payments_75 (pc2 := 76) rfl ?_
      refine lu_topi (fun x5 => ?_)
      refine lu_istore_n (lv2 := [(3, .int x5), (0, .ref (ρ 0)), (1, .int v1), (2, .int v2), (4, .int v4), (5, .int v5)]) X dX11_payments_76 (pc2 := 77) rfl rfl (by decide) rfl ?_
      refine lu_iload X dX11_payments_77 (pc2 := 79) rfl 4 rfl ?_
      refine lu_aload_n X dX11_payments_79 (pc2 := 80) rfl rfl 1 rfl ?_
      refine lu_getr (r2 := 98) X rfl fl11_62 rfl kC_0 lC_0 dX11_payments_80 (pc2 := 83) rfl ?_
      refine lu_iload_n X dX11_payments_83 (pc2 := 84) rfl rfl 3 rfl ?_
      refine lu_iconst X dX11_payments_84 (pc2 := 85) rfl ic_1 ?_
      refine lu_iload X dX11_payments_85 (pc2 := 87) rfl 5 rfl ?_
      refine lu_ishl X dX11_payments_87 (pc2 := 88) rfl ?_
      refine lu_ixor X dX11_payments_88 (pc2 := 89) rfl ?_
      refine lu_iald X kC_98 lC_98 dX11_payments_89 (pc2 := 90) rfl ?_
      refine lu_mmax X ml_823 st_max in_Math co_max (Nat.le_of_ble_eq_true rfl) (Nat.le_of_ble_eq_true rfl) (Nat.le_of_ble_eq_true rfl) ⟨Nat.zero_le _, Nat.zero_le _⟩ dX11_payments_90 (pc2 := 93) rfl ?_
      refine lu_topi (fun x6 => ?_)
      refine lu_istore (lv2 := [(4, .int x6), (3, .int x5), (0, .ref (ρ 0)), (1, .int v1), (2, .int v2), (5, .int v5)]) X dX11_payments_93 (pc2 := 95) rfl (by decide) rfl ?_
      exact lu_sub [2, 3, 4, 1, 0, 5] rfl (w11_payments_b95 X hret hrec hK101 v1 v2 x5 x6 v5 m4)
    · refine lu_goto (tgt := 95) X dX11_payments_62 (by decide) ?_
      exact w11_payments_b95 X hret hrec hK101 v1 v2 v3 v4 v5 m
theorem w11_payments_b41  {G : lu_G} {ρ : Nat → Nat}  {K101 : Int32 → Int32 → Int32 → Int32 → lu_M → Option (Int32 × lu_M)} (X : lu_X G RX11 cX11_payments 6 1 23) (hret : (lu_me G).sig.returnType = (some .int))  (hK101 : ∀ (v1 : Int32) (v2 : Int32) (v3 : Int32) (v4 : Int32) (m : lu_M), lu_Ab lu_TC G (lu_Q lu_TC G ρ lu_RVi lu_sn) (K101 v1 v2 v3 v4 m) 101 [(0, .ref (ρ 0)), (1, .int v1), (2, .int v2), (3, .int v3), (4, .int v4)] [] ρ 0 0 [] m) : ∀ (n : Nat) (v1 : Int32) (v2 : Int32) (v3 : Int32) (v4 : Int32) (v5 : Int32) (m : lu_M), lu_Ab lu_TC G (lu_Q lu_TC G ρ lu_RVi lu_sn) (f11_payments_b41 K101 n v1 v2 v3 v4 v5 m) 41 [(0, .ref (ρ 0)), (1, .int v1), (2, .int v2), (3, .int v3), (4, .int v4), (5, .int v5)] [] ρ 0 0 [] m := by
  intro n
  induction n with
  | zero => intro v1 v2 v3 v4 v5 m; exact lu_none
  | succ n ih => intro v1 v2 v3 v4 v5 m; exact w11_payments_b41B X hret hK101 ih v1 v2 v3 v4 v5 m
def f11_payments_b119 (K19 : Int32 → Int32 → lu_M → Option (Int32 × lu_M)) (K126 : Int32 → lu_M → Option (Int32 × lu_M))  (v1 : Int32) (v2 : Int32) (s0 : Int32) (s1 : Int32) (m : lu_M) : Option (Int32 × lu_M) :=
  lu_gd (lu_ib s1 64) <|
  lu_nm (lu_st m 98 s1.toNatClampNeg s0) fun m7 =>
  K19 v1 (v2 + (1 : Int32)) m7
set_option maxRecDepth 20000 in
theorem w11_payments_b119  {G : lu_G} {ρ : Nat → Nat}  {K19 : Int32 → Int32 → lu_M → Option (Int32 × lu_M)} {K126 : Int32 → lu_M → Option (Int32 × lu_M)} (X : lu_X G RX11 cX11_payments 6 1 23) (hret : (lu_me G).sig.returnType = (some .int))  (hK19 : ∀ (v1 : Int32) (v2 : Int32) (m : lu_M), lu_Ab lu_TC G (lu_Q lu_TC G ρ lu_RVi lu_sn) (K19 v1 v2 m) 19 [(0, .ref (ρ 0)), (1, .int v1), (2, .int v2)] [] ρ 0 0 [] m) (hK126 : ∀ (v1 : Int32) (m : lu_M), lu_Ab lu_TC G (lu_Q lu_TC G ρ lu_RVi lu_sn) (K126 v1 m) 126 [(0, .ref (ρ 0)), (1, .int v1)] [] ρ 0 0 [] m) : ∀ (v1 : Int32) (v2 : Int32) (s0 : Int32) (s1 : Int32) (m : lu_M), lu_Ab lu_TC G (lu_Q lu_TC G ρ lu_RVi lu_sn) (f11_payments_b119 K19 K126 v1 v2 s0 s1 m) 119 [(0, .ref (ρ 0)), (1, .int v1), (2, .int v2)] [.int s0, .int s1, .ref (ρ 98)] ρ 0 0 [] m := by
  intro v1 v2 s0 s1 m
  unfold f11_payments_b119
  refine lu_iast X kC_98 lC_98 dX11_payments_119 (pc2 := 120) rfl (fun m7 => ?_)
  refine lu_iinc (lv2 := [(2, .int (v2 + (1 : Int32))), (0, .ref (ρ 0)), (1, .int v1)]) X dX11_payments_120 (pc2 := 123) rfl 2 rfl (lu_ii _ ic_1) (by decide) rfl ?_
  refine lu_goto (tgt := 19) X dX11_payments_123 (by decide) ?_
  exact lu_sub [1, 2, 0] rfl (hK19 v1 (v2 + (1 : Int32)) m7)
def f11_payments_b101 (K19 : Int32 → Int32 → lu_M → Option (Int32 × lu_M)) (K126 : Int32 → lu_M → Option (Int32 × lu_M))  (v1 : Int32) (v2 : Int32) (v3 : Int32) (v4 : Int32) (m : lu_M) : Option (Int32 × lu_M) :=
  if v3 = 0 then (f11_payments_b119 K19 K126 v1 v2 (v4 + (1 : Int32)) v2 m)
  else (f11_payments_b119 K19 K126 v1 v2 v4 v2 m)
set_option maxRecDepth 20000 in
theorem w11_payments_b101  {G : lu_G} {ρ : Nat → Nat}  {K19 : Int32 → Int32 → lu_M → Option (Int32 × lu_M)} {K126 : Int32 → lu_M → Option (Int32 × lu_M)} (X : lu_X G RX11 cX11_payments 6 1 23) (hret : (lu_me G).sig.returnType = (some .int))  (hK19 : ∀ (v1 : Int32) (v2 : Int32) (m : lu_M), lu_Ab lu_TC G (lu_Q lu_TC G ρ lu_RVi lu_sn) (K19 v1 v2 m) 19 [(0, .ref (ρ 0)), (1, .int v1), (2, .int v2)] [] ρ 0 0 [] m) (hK126 : ∀ (v1 : Int32) (m : lu_M), lu_Ab lu_TC G (lu_Q lu_TC G ρ lu_RVi lu_sn) (K126 v1 m) 126 [(0, .ref (ρ 0)), (1, .int v1)] [] ρ 0 0 [] m) : ∀ (v1 : Int32) (v2 : Int32) (v3 : Int32) (v4 : Int32) (m : lu_M), lu_Ab lu_TC G (lu_Q lu_TC G ρ lu_RVi lu_sn) (f11_payments_b101 K19 K126 v1 v2 v3 v4 m) 101 [(0, .ref (ρ 0)), (1, .int v1), (2, .int v2), (3, .int v3), (4, .int v4)] [] ρ 0 0 [] m := by
  intro v1 v2 v3 v4 m
  unfold f11_payments_b101
  refine lu_aload_n X dX11_payments_101 (pc2 := 102) rfl rfl 0 rfl ?_
  refine lu_getr (r2 := 98) X rfl fl11_62 rfl kC_0 lC_0 dX11_payments_102 (pc2 := 105) rfl ?_
  refine lu_iload_n X dX11_payments_105 (pc2 := 106) rfl rfl 2 rfl ?_
  refine lu_iload_n X dX11_payments_106 (pc2 := 107) rfl rfl 3 rfl ?_
  refine lu_if_ne (tgt := 117) X dX11_payments_107 (pc2 := 110) rfl (by decide) (fun _ => ?_) (fun _ => ?_)
  · refine lu_iload X dX11_payments_117 (pc2 := 119) rfl 4 rfl ?_
    exact lu_sub [0, 1, 2] rfl (w11_payments_b119 X hret hK19 hK126 v1 v2 v4 v2 m)
  · refine lu_iload X dX11_payments_110 (pc2 := 112) rfl 4 rfl ?_
    refine lu_iconst X dX11_payments_112 (pc2 := 113) rfl ic_1 ?_
    refine lu_iadd X dX11_payments_113 (pc2 := 114) rfl ?_
    refine lu_goto (tgt := 119) X dX11_payments_114 (by decide) ?_
    exact lu_sub [0, 1, 2] rfl (w11_payments_b119 X hret hK19 hK126 v1 v2 (v4 + (1 : Int32)) v2 m)
def f11_payments_b19B (K126 : Int32 → lu_M → Option (Int32 × lu_M)) (rec : Int32 → Int32 → lu_M → Option (Int32 × lu_M))  (v1 : Int32) (v2 : Int32) (m : lu_M) : Option (Int32 × lu_M) :=
  if v1 ≤ v2 then (K126 v1 m)
  else (if (64 : Int32) ≤ v2 then (K126 v1 m)
  else (f11_payments_b41 (f11_payments_b101 rec K126) lu_fu v1 v2 (0 : Int32) (0 : Int32) (0 : Int32) m))
def f11_payments_b19 (K126 : Int32 → lu_M → Option (Int32 × lu_M))  : Nat → Int32 → Int32 → lu_M → Option (Int32 × lu_M)
  | 0, _, _, _ => none
  | n + 1, v1, v2, m => f11_payments_b19B K126 (f11_payments_b19 K126 n) v1 v2 m
set_option maxRecDepth 20000 in
theorem w11_payments_b19B  {G : lu_G} {ρ : Nat → Nat}  {K126 : Int32 → lu_M → Option (Int32 × lu_M)} {rec : Int32 → Int32 → lu_M → Option (Int32 × lu_M)} (X : lu_X G RX11 cX11_payments 6 1 23) (hret : (lu_me G).sig.returnType = (some .int))  (hK126 : ∀ (v1 : Int32) (m : lu_M), lu_Ab lu_TC G (lu_Q lu_TC G ρ lu_RVi lu_sn) (K126 v1 m) 126 [(0, .ref (ρ 0)), (1, .int v1)] [] ρ 0 0 [] m) (hrec : ∀ (v1 : Int32) (v2 : Int32) (m : lu_M), lu_Ab lu_TC G (lu_Q lu_TC G ρ lu_RVi lu_sn) (rec v1 v2 m) 19 [(0, .ref (ρ 0)), (1, .int v1), (2, .int v2)] [] ρ 0 0 [] m) : ∀ (v1 : Int32) (v2 : Int32) (m : lu_M), lu_Ab lu_TC G (lu_Q lu_TC G ρ lu_RVi lu_sn) (f11_payments_b19B K126 rec v1 v2 m) 19 [(0, .ref (ρ 0)), (1, .int v1), (2, .int v2)] [] ρ 0 0 [] m := by
  intro v1 v2 m
  unfold f11_payments_b19B
  refine lu_iload_n X dX11_payments_19 (pc2 := 20) rfl rfl 2 rfl ?_
  refine lu_iload_n X dX11_payments_20 (pc2 := 21) rfl rfl 1 rfl ?_
  refine lu_icmp_ge (tgt := 126) X dX11_payments_21 (pc2 := 24) rfl (by decide) (fun _ => ?_) (fun _ => ?_)
  · exact lu_sub [0, 1] rfl (hK126 v1 m)
  · refine lu_iload_n X dX11_payments_24 (pc2 := 25) rfl rfl 2 rfl ?_
    refine lu_aload_n X dX11_payments_25 (pc2 := 26) rfl rfl 0 rfl ?_
    refine lu_getr (r2 := 98) X rfl fl11_62 rfl kC_0 lC_0 dX11_payments_26 (pc2 := 29) rfl ?_
    refine lu_alen (v := (64 : Int32)) X (by decide) kC_98 lC_98 dX11_payments_29 (pc2 := 30) rfl ?_
    refine lu_icmp_ge (tgt := 126) X dX11_payments_30 (pc2 := 33) rfl (by decide) (fun _ => ?_) (fun _ => ?_)
    · exact lu_sub [0, 1] rfl (hK126 v1 m)
    · refine lu_iconst X dX11_payments_33 (pc2 := 34) rfl ic_0 ?_
      refine lu_istore_n (lv2 := [(3, .int (0 : Int32)), (0, .ref (ρ 0)), (1, .int v1), (2, .int v2)]) X dX11_payments_34 (pc2 := 35) rfl rfl (by decide) rfl ?_
      refine lu_iconst X dX11_payments_35 (pc2 := 36) rfl ic_0 ?_
      refine lu_istore (lv2 := [(4, .int (0 : Int32)), (3, .int (0 : Int32)), (0, .ref (ρ 0)), (1, .int v1), (2, .int v2)]) X dX11_payments_36 (pc2 := 38) rfl (by decide) rfl ?_
      refine lu_iconst X dX11_payments_38 (pc2 := 39) rfl ic_0 ?_
      refine lu_istore (lv2 := [(5, .int (0 : Int32)), (4, .int (0 : Int32)), (3, .int (0 : Int32)), (0, .ref (ρ 0)), (1, .int v1), (2, .int v2)]) X dX11_payments_39 (pc2 := 41) rfl (by decide) rfl ?_
      exact lu_sub [3, 4, 5, 2, 1, 0] rfl (w11_payments_b41 X hret (w11_payments_b101 X hret hrec hK126) lu_fu v1 v2 (0 : Int32) (0 : Int32) (0 : Int32) m)
theorem w11_payments_b19  {G : lu_G} {ρ : Nat → Nat}  {K126 : Int32 → lu_M → Option (Int32 × lu_M)} (X : lu_X G RX11 cX11_payments 6 1 23) (hret : (lu_me G).sig.returnType = (some .int))  (hK126 : ∀ (v1 : Int32) (m : lu_M), lu_Ab lu_TC G (lu_Q lu_TC G ρ lu_RVi lu_sn) (K126 v1 m) 126 [(0, .ref (ρ 0)), (1, .int v1)] [] ρ 0 0 [] m) : ∀ (n : Nat) (v1 : Int32) (v2 : Int32) (m : lu_M), lu_Ab lu_TC G (lu_Q lu_TC G ρ lu_RVi lu_sn) (f11_payments_b19 K126 n v1 v2 m) 19 [(0, .ref (ρ 0)), (1, .int v1), (2, .int v2)] [] ρ 0 0 [] m := by
  intro n
  induction n with
  | zero => intro v1 v2 m; exact lu_none
  | succ n ih => intro v1 v2 m; exact w11_payments_b19B X hret hK126 ih v1 v2 m
def f11_payments_b126   (v1 : Int32) (m : lu_M) : Option (Int32 × lu_M) :=
  lu_gd (lu_ib (v1 - (1 : Int32)) 64) <|
  some (((m 1 0) - (m 98 (v1 - (1 : Int32)).toNatClampNeg)), m)
set_option maxRecDepth 20000 in
theorem w11_payments_b126  {G : lu_G} {ρ : Nat → Nat}   (X : lu_X G RX11 cX11_payments 6 1 23) (hret : (lu_me G).sig.returnType = (some .int))   : ∀ (v1 : Int32) (m : lu_M), lu_Ab lu_TC G (lu_Q lu_TC G ρ lu_RVi lu_sn) (f11_payments_b126  v1 m) 126 [(0, .ref (ρ 0)), (1, .int v1)] [] ρ 0 0 [] m := by
  intro v1 m
  unfold f11_payments_b126
  refine lu_aload_n X dX11_payments_126 (pc2 := 127) rfl rfl 0 rfl ?_
  refine lu_getr (r2 := 1) X rfl fl11_18 rfl kC_0 lC_0 dX11_payments_127 (pc2 := 130) rfl ?_
  refine lu_get X fl11_96 rfl kC_1 lC_1 dX11_payments_130 (pc2 := 133) rfl ?_
  refine lu_aload_n X dX11_payments_133 (pc2 := 134) rfl rfl 0 rfl ?_
  refine lu_getr (r2 := 98) X rfl fl11_62 rfl kC_0 lC_0 dX11_payments_134 (pc2 := 137) rfl ?_
  refine lu_iload_n X dX11_payments_137 (pc2 := 138) rfl rfl 1 rfl ?_
  refine lu_iconst X dX11_payments_138 (pc2 := 139) rfl ic_1 ?_
  refine lu_isub X dX11_payments_139 (pc2 := 140) rfl ?_
  refine lu_iald X kC_98 lC_98 dX11_payments_140 (pc2 := 141) rfl ?_
  refine lu_isub X dX11_payments_141 (pc2 := 142) rfl ?_
  exact lu_iret X hret dX11_payments_142
def f11_payments  (m : lu_M) : Option (Int32 × lu_M) :=
  lu_nm (((1 : Int32) <<< ((m 1 0) &&& 31))) fun x1 =>
  lu_nm (lu_st m 98 0 (0 : Int32)) fun m2 =>
  f11_payments_b19 f11_payments_b126 lu_fu x1 (1 : Int32) m2
set_option maxRecDepth 20000 in
theorem c11_payments (l : Launch)    : lu_C lu_TC l yX11_payments cX11_payments 6 (some .int) 1 23 (fun ρ sa => [.ref (ρ 0)]) (f11_payments ) lu_RVi lu_sn := by
  refine lu_met (cls := RX11) rfl (by decide +kernel) (fun _ _ => Nat.le_of_ble_eq_true rfl) ?_
  intro G ρ m hl X hret
  subst hl
  change lu_Ab lu_TC G (lu_Q lu_TC G ρ lu_RVi lu_sn) (f11_payments  m) 0 [(0, .ref (ρ 0))] [] ρ 0 0 [] m
  unfold f11_payments
  refine lu_iconst X dX11_payments_0 (pc2 := 1) rfl ic_1 ?_
  refine lu_aload_n X dX11_payments_1 (pc2 := 2) rfl rfl 0 rfl ?_
  refine lu_getr (r2 := 1) X rfl fl11_18 rfl kC_0 lC_0 dX11_payments_2 (pc2 := 5) rfl ?_
  refine lu_get X fl11_96 rfl kC_1 lC_1 dX11_payments_5 (pc2 := 8) rfl ?_
  refine lu_ishl X dX11_payments_8 (pc2 := 9) rfl ?_
  refine lu_topi (fun x1 => ?_)
  refine lu_istore_n (lv2 := [(1, .int x1), (0, .ref (ρ 0))]) X dX11_payments_9 (pc2 := 10) rfl rfl (by decide) rfl ?_
  refine lu_aload_n X dX11_payments_10 (pc2 := 11) rfl rfl 1 rfl ?_
  refine lu_getr (r2 := 98) X rfl fl11_62 rfl kC_0 lC_0 dX11_payments_11 (pc2 := 14) rfl ?_
  refine lu_iconst X dX11_payments_14 (pc2 := 15) rfl ic_0 ?_
  refine lu_iconst X dX11_payments_15 (pc2 := 16) rfl ic_0 ?_
  refine lu_iastK (q := 0) X (by decide) kC_98 lC_98 dX11_payments_16 (pc2 := 17) rfl (fun m2 => ?_)
  refine lu_iconst X dX11_payments_17 (pc2 := 18) rfl ic_1 ?_
  refine lu_istore_n (lv2 := [(2, .int (1 : Int32)), (1, .int x1), (0, .ref (ρ 0))]) X dX11_payments_18 (pc2 := 19) rfl rfl (by decide) rfl ?_
  exact lu_sub [2, 1, 0] rfl (w11_payments_b19 X hret (w11_payments_b126 X hret) lu_fu x1 (1 : Int32) m2)

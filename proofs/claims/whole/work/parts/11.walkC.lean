/-! WALKS of methods (written by a program out of their instructions): functions of the memory, and contracts -/
theorem dX10_undo_0 : decode cX10_undo 0 = .ok (.aload_n 1, 1) := by decide +kernel
theorem dX10_undo_1 : decode cX10_undo 1 = .ok (.dup, 1) := by decide +kernel
theorem dX10_undo_2 : decode cX10_undo 2 = .ok (.getfield 108, 3) := by decide +kernel
theorem dX10_undo_5 : decode cX10_undo 5 = .ok (.iconst 1, 1) := by decide +kernel
theorem dX10_undo_6 : decode cX10_undo 6 = .ok (.iload_n 2, 1) := by decide +kernel
theorem dX10_undo_7 : decode cX10_undo 7 = .ok (.ishl, 1) := by decide +kernel
theorem dX10_undo_8 : decode cX10_undo 8 = .ok (.iconst (-1), 1) := by decide +kernel
theorem dX10_undo_9 : decode cX10_undo 9 = .ok (.ixor, 1) := by decide +kernel
theorem dX10_undo_10 : decode cX10_undo 10 = .ok (.iand, 1) := by decide +kernel
theorem dX10_undo_11 : decode cX10_undo 11 = .ok (.putfield 108, 3) := by decide +kernel
theorem dX10_undo_14 : decode cX10_undo 14 = .ok (.aload_n 1, 1) := by decide +kernel
theorem dX10_undo_15 : decode cX10_undo 15 = .ok (.dup, 1) := by decide +kernel
theorem dX10_undo_16 : decode cX10_undo 16 = .ok (.getfield 162, 3) := by decide +kernel
theorem dX10_undo_19 : decode cX10_undo 19 = .ok (.iconst 1, 1) := by decide +kernel
theorem dX10_undo_20 : decode cX10_undo 20 = .ok (.iload_n 2, 1) := by decide +kernel
theorem dX10_undo_21 : decode cX10_undo 21 = .ok (.ishl, 1) := by decide +kernel
theorem dX10_undo_22 : decode cX10_undo 22 = .ok (.ior, 1) := by decide +kernel
theorem dX10_undo_23 : decode cX10_undo 23 = .ok (.putfield 162, 3) := by decide +kernel
theorem dX10_undo_26 : decode cX10_undo 26 = .ok (.iload_n 2, 1) := by decide +kernel
theorem dX10_undo_27 : decode cX10_undo 27 = .ok (.iconst 1, 1) := by decide +kernel
theorem dX10_undo_28 : decode cX10_undo 28 = .ok (.iadd, 1) := by decide +kernel
theorem dX10_undo_29 : decode cX10_undo 29 = .ok (.istore_n 3, 1) := by decide +kernel
theorem dX10_undo_30 : decode cX10_undo 30 = .ok (.iload_n 3, 1) := by decide +kernel
theorem dX10_undo_31 : decode cX10_undo 31 = .ok (.aload_n 0, 1) := by decide +kernel
theorem dX10_undo_32 : decode cX10_undo 32 = .ok (.getfield 84, 3) := by decide +kernel
theorem dX10_undo_35 : decode cX10_undo 35 = .ok (.if_icmp .ge 69, 3) := by decide +kernel
theorem dX10_undo_38 : decode cX10_undo 38 = .ok (.aload_n 1, 1) := by decide +kernel
theorem dX10_undo_39 : decode cX10_undo 39 = .ok (.iload_n 3, 1) := by decide +kernel
theorem dX10_undo_40 : decode cX10_undo 40 = .ok (.invokevirtual 149, 3) := by decide +kernel
theorem dX10_undo_43 : decode cX10_undo 43 = .ok (.ifCond .eq 55, 3) := by decide +kernel
theorem dX10_undo_46 : decode cX10_undo 46 = .ok (.aload_n 0, 1) := by decide +kernel
theorem dX10_undo_47 : decode cX10_undo 47 = .ok (.getfield 31, 3) := by decide +kernel
theorem dX10_undo_50 : decode cX10_undo 50 = .ok (.iload_n 3, 1) := by decide +kernel
theorem dX10_undo_51 : decode cX10_undo 51 = .ok (.iaload, 1) := by decide +kernel
theorem dX10_undo_52 : decode cX10_undo 52 = .ok (.iconst (-1), 1) := by decide +kernel
theorem dX10_undo_53 : decode cX10_undo 53 = .ok (.if_icmp .eq 45, 3) := by decide +kernel
theorem dX10_undo_56 : decode cX10_undo 56 = .ok (.aload_n 1, 1) := by decide +kernel
theorem dX10_undo_57 : decode cX10_undo 57 = .ok (.aload_n 0, 1) := by decide +kernel
theorem dX10_undo_58 : decode cX10_undo 58 = .ok (.getfield 31, 3) := by decide +kernel
theorem dX10_undo_61 : decode cX10_undo 61 = .ok (.iload_n 3, 1) := by decide +kernel
theorem dX10_undo_62 : decode cX10_undo 62 = .ok (.iaload, 1) := by decide +kernel
theorem dX10_undo_63 : decode cX10_undo 63 = .ok (.invokevirtual 165, 3) := by decide +kernel
theorem dX10_undo_66 : decode cX10_undo 66 = .ok (.ifCond .ne 6, 3) := by decide +kernel
theorem dX10_undo_69 : decode cX10_undo 69 = .ok (.goto 29, 3) := by decide +kernel
theorem dX10_undo_72 : decode cX10_undo 72 = .ok (.aload_n 1, 1) := by decide +kernel
theorem dX10_undo_73 : decode cX10_undo 73 = .ok (.dup, 1) := by decide +kernel
theorem dX10_undo_74 : decode cX10_undo 74 = .ok (.getfield 108, 3) := by decide +kernel
theorem dX10_undo_77 : decode cX10_undo 77 = .ok (.iconst 1, 1) := by decide +kernel
theorem dX10_undo_78 : decode cX10_undo 78 = .ok (.iload_n 3, 1) := by decide +kernel
theorem dX10_undo_79 : decode cX10_undo 79 = .ok (.ishl, 1) := by decide +kernel
theorem dX10_undo_80 : decode cX10_undo 80 = .ok (.iconst (-1), 1) := by decide +kernel
theorem dX10_undo_81 : decode cX10_undo 81 = .ok (.ixor, 1) := by decide +kernel
theorem dX10_undo_82 : decode cX10_undo 82 = .ok (.iand, 1) := by decide +kernel
theorem dX10_undo_83 : decode cX10_undo 83 = .ok (.putfield 108, 3) := by decide +kernel
theorem dX10_undo_86 : decode cX10_undo 86 = .ok (.aload_n 1, 1) := by decide +kernel
theorem dX10_undo_87 : decode cX10_undo 87 = .ok (.dup, 1) := by decide +kernel
theorem dX10_undo_88 : decode cX10_undo 88 = .ok (.getfield 168, 3) := by decide +kernel
theorem dX10_undo_91 : decode cX10_undo 91 = .ok (.iconst 1, 1) := by decide +kernel
theorem dX10_undo_92 : decode cX10_undo 92 = .ok (.iload_n 3, 1) := by decide +kernel
theorem dX10_undo_93 : decode cX10_undo 93 = .ok (.ishl, 1) := by decide +kernel
theorem dX10_undo_94 : decode cX10_undo 94 = .ok (.ior, 1) := by decide +kernel
theorem dX10_undo_95 : decode cX10_undo 95 = .ok (.putfield 168, 3) := by decide +kernel
theorem dX10_undo_98 : decode cX10_undo 98 = .ok (.iinc 3 1, 3) := by decide +kernel
theorem dX10_undo_101 : decode cX10_undo 101 = .ok (.goto (-71), 3) := by decide +kernel
theorem dX10_undo_104 : decode cX10_undo 104 = .ok (.return_, 1) := by decide +kernel
def f10_undo_b98 (K30 : Int32 → lu_M → Option (lu_M)) (K104 : lu_M → Option (lu_M)) (r0 : Nat) (r1 : Nat) (a2 : Int32) (v3 : Int32) (m : lu_M) : Option (lu_M) :=
  K30 (v3 + (1 : Int32)) m
set_option maxRecDepth 20000 in
theorem w10_undo_b98  {G : lu_G} {ρ : Nat → Nat} {r0 : Nat} {r1 : Nat} {a2 : Int32} {K30 : Int32 → lu_M → Option (lu_M)} {K104 : lu_M → Option (lu_M)} (X : lu_X G RX10 cX10_undo 4 1 21) (hret : (lu_me G).sig.returnType = none) (hT_r0 : lu_TC.2 r0 = (5, 0, 0)) (hr_r0 : r0 < lu_TC.1) (hT_r1 : lu_TC.2 r1 = (6, 0, 0)) (hr_r1 : r1 < lu_TC.1) (hK30 : ∀ (v3 : Int32) (m : lu_M), lu_Ab lu_TC G (lu_Q lu_TC G ρ lu_RVv lu_id) (K30 v3 m) 30 [(0, .ref (ρ r0)), (1, .ref (ρ r1)), (3, .int v3)] [] ρ 0 0 [] m) (hK104 : ∀  (m : lu_M), lu_Ab lu_TC G (lu_Q lu_TC G ρ lu_RVv lu_id) (K104 m) 104 [] [] ρ 0 0 [] m) : ∀ (v3 : Int32) (m : lu_M), lu_Ab lu_TC G (lu_Q lu_TC G ρ lu_RVv lu_id) (f10_undo_b98 K30 K104 r0 r1 a2 v3 m) 98 [(0, .ref (ρ r0)), (1, .ref (ρ r1)), (3, .int v3)] [] ρ 0 0 [] m := by
  intro v3 m
  unfold f10_undo_b98
  refine lu_iinc (lv2 := [(3, .int (v3 + (1 : Int32))), (0, .ref (ρ r0)), (1, .ref (ρ r1))]) X dX10_undo_98 (pc2 := 101) rfl 2 rfl (lu_ii _ ic_1) (by decide) rfl ?_
  refine lu_goto (tgt := 30) X dX10_undo_101 (by decide) ?_
  exact lu_sub [1, 2, 0] rfl (hK30 (v3 + (1 : Int32)) m)
def f10_undo_b30B (K104 : lu_M → Option (lu_M)) (rec : Int32 → lu_M → Option (lu_M)) (r0 : Nat) (r1 : Nat) (a2 : Int32) (v3 : Int32) (m : lu_M) : Option (lu_M) :=
  if (m r0 2) ≤ v3 then (K104 m)
  else (lu_bi (f1_isStanding r1 v3 m) fun x4 m5 =>
  if x4 = 0 then (f10_undo_b98 rec K104 r0 r1 a2 v3 m5)
  else (lu_gd (lu_ib v3 10) <|
  if (m5 (r0 + 11) v3.toNatClampNeg) = (-1 : Int32) then (f10_undo_b98 rec K104 r0 r1 a2 v3 m5)
  else (lu_gd (lu_ib v3 10) <|
  lu_bi (f1_isGone r1 (m5 (r0 + 11) v3.toNatClampNeg) m5) fun x6 m7 =>
  if x6 = 0 then (f10_undo_b98 rec K104 r0 r1 a2 v3 m7)
  else (lu_nm (lu_st m7 r1 1 ((m7 r1 1) &&& (((1 : Int32) <<< (v3 &&& 31)) ^^^ (-1 : Int32)))) fun m8 =>
  lu_nm (lu_st m8 r1 3 ((m8 r1 3) ||| ((1 : Int32) <<< (v3 &&& 31)))) fun m9 =>
  f10_undo_b98 rec K104 r0 r1 a2 v3 m9))))
def f10_undo_b30 (K104 : lu_M → Option (lu_M)) (r0 : Nat) (r1 : Nat) (a2 : Int32) : Nat → Int32 → lu_M → Option (lu_M)
  | 0, _, _ => none
  | n + 1, v3, m => f10_undo_b30B K104 (f10_undo_b30 K104 r0 r1 a2 n) r0 r1 a2 v3 m
set_option maxRecDepth 20000 in
theorem w10_undo_b30B  {G : lu_G} {ρ : Nat → Nat} {r0 : Nat} {r1 : Nat} {a2 : Int32} {K104 : lu_M → Option (lu_M)} {rec : Int32 → lu_M → Option (lu_M)} (X : lu_X G RX10 cX10_undo 4 1 21) (hret : (lu_me G).sig.returnType = none) (hT_r0 : lu_TC.2 r0 = (5, 0, 0)) (hr_r0 : r0 < lu_TC.1) (hT_r1 : lu_TC.2 r1 = (6, 0, 0)) (hr_r1 : r1 < lu_TC.1) (hK104 : ∀  (m : lu_M), lu_Ab lu_TC G (lu_Q lu_TC G ρ lu_RVv lu_id) (K104 m) 104 [] [] ρ 0 0 [] m) (hrec : ∀ (v3 : Int32) (m : lu_M), lu_Ab lu_TC G (lu_Q lu_TC G ρ lu_RVv lu_id) (rec v3 m) 30 [(0, .ref (ρ r0)), (1, .ref (ρ r1)), (3, .int v3)] [] ρ 0 0 [] m) : ∀ (v3 : Int32) (m : lu_M), lu_Ab lu_TC G (lu_Q lu_TC G ρ lu_RVv lu_id) (f10_undo_b30B K104 rec r0 r1 a2 v3 m) 30 [(0, .ref (ρ r0)), (1, .ref (ρ r1)), (3, .int v3)] [] ρ 0 0 [] m := by
  intro v3 m
  unfold f10_undo_b30B
  refine lu_iload_n X dX10_undo_30 (pc2 := 31) rfl rfl 2 rfl ?_
  refine lu_aload_n X dX10_undo_31 (pc2 := 32) rfl rfl 0 rfl ?_
  refine lu_get X fl10_84 rfl hT_r0 hr_r0 dX10_undo_32 (pc2 := 35) rfl ?_
  refine lu_icmp_ge (tgt := 104) X dX10_undo_35 (pc2 := 38) rfl (by decide) (fun _ => ?_) (fun _ => ?_)
  · exact lu_sub [] rfl (hK104 m)
  · refine lu_aload_n X dX10_undo_38 (pc2 := 39) rfl rfl 1 rfl ?_
    refine lu_iload_n X dX10_undo_39 (pc2 := 40) rfl rfl 2 rfl ?_
    refine lu_invVi X (c1_isStanding _ hT_r1 hr_r1 v3) rfl q730 mvV_1_isStanding hT_r1 hr_r1 (by decide) ⟨_, rfl, rfl⟩ rfl rfl (Nat.le_of_ble_eq_true rfl) (Nat.le_of_ble_eq_true rfl) (Nat.le_of_ble_eq_true rfl) ⟨Nat.zero_le _, Nat.zero_le _⟩ dX10_undo_40 (pc2 := 43) rfl rfl (fun x4 m5 => ?_)
    refine lu_if_eq (tgt := 98) X dX10_undo_43 (pc2 := 46) rfl (by decide) (fun _ => ?_) (fun _ => ?_)
    · exact w10_undo_b98 X hret hT_r0 hr_r0 hT_r1 hr_r1 hrec hK104 v3 m5
    · refine lu_aload_n X dX10_undo_46 (pc2 := 47) rfl rfl 0 rfl ?_
      refine lu_getr (r2 := (r0 + 11)) X rfl fl10_31 rfl hT_r0 hr_r0 dX10_undo_47 (pc2 := 50) rfl ?_
      refine lu_iload_n X dX10_undo_50 (pc2 := 51) rfl rfl 2 rfl ?_
      refine lu_iald X ((koC_5_11 hT_r0 hr_r0).1) ((koC_5_11 hT_r0 hr_r0).2) dX10_undo_51 (pc2 := 52) rfl ?_
      refine lu_iconst X dX10_undo_52 (pc2 := 53) rfl ic_m1 ?_
      refine lu_icmp_eq (tgt := 98) X dX10_undo_53 (pc2 := 56) rfl (by decide) (fun _ => ?_) (fun _ => ?_)
      · exact w10_undo_b98 X hret hT_r0 hr_r0 hT_r1 hr_r1 hrec hK104 v3 m5
      · refine lu_aload_n X dX10_undo_56 (pc2 := 57) rfl rfl 1 rfl ?_
        refine lu_aload_n X dX10_undo_57 (pc2 := 58) rfl rfl 0 rfl ?_
        refine lu_getr (r2 := (r0 + 11)) X rfl fl10_31 rfl hT_r0 hr_r0 dX10_undo_58 (pc2 := 61) rfl ?_
        refine lu_iload_n X dX10_undo_61 (pc2 := 62) rfl rfl 2 rfl ?_
        refine lu_iald X ((koC_5_11 hT_r0 hr_r0).1) ((koC_5_11 hT_r0 hr_r0).2) dX10_undo_62 (pc2 := 63) rfl ?_
        refine lu_invVi X (c1_isGone _ hT_r1 hr_r1 (m5 (r0 + 11) v3.toNatClampNeg)) rfl q736 mvV_1_isGone hT_r1 hr_r1 (by decide) ⟨_, rfl, rfl⟩ rfl rfl (Nat.le_of_ble_eq_true rfl) (Nat.le_of_ble_eq_true rfl) (Nat.le_of_ble_eq_true rfl) ⟨Nat.zero_le _, Nat.zero_le _⟩ dX10_undo_63 (pc2 := 66) rfl rfl (fun x6 m7 => ?_)
        refine lu_if_ne (tgt := 72) X dX10_undo_66 (pc2 := 69) rfl (by decide) (fun _ => ?_) (fun _ => ?_)
        · refine lu_aload_n X dX10_undo_72 (pc2 := 73) rfl rfl 1 rfl ?_
          refine lu_dup X dX10_undo_73 (pc2 := 74) rfl rfl ?_
          refine lu_get X fl10_108 rfl hT_r1 hr_r1 dX10_undo_74 (pc2 := 77) rfl ?_
          refine lu_iconst X dX10_undo_77 (pc2 := 78) rfl ic_1 ?_
          refine lu_iload_n X dX10_undo_78 (pc2 := 79) rfl rfl 2 rfl ?_
          refine lu_ishl X dX10_undo_79 (pc2 := 80) rfl ?_
          refine lu_iconst X dX10_undo_80 (pc2 := 81) rfl ic_m1 ?_
          refine lu_ixor X dX10_undo_81 (pc2 := 82) rfl ?_
          refine lu_iand X dX10_undo_82 (pc2 := 83) rfl ?_
          refine lu_put X fl10_108 rfl (Or.inl (by decide)) rfl (by decide +kernel) hT_r1 hr_r1 dX10_undo_83 (pc2 := 86) rfl (fun m8 => ?_)
          refine lu_aload_n X dX10_undo_86 (pc2 := 87) rfl rfl 1 rfl ?_
          refine lu_dup X dX10_undo_87 (pc2 := 88) rfl rfl ?_
          refine lu_get X fl10_168 rfl hT_r1 hr_r1 dX10_undo_88 (pc2 := 91) rfl ?_
          refine lu_iconst X dX10_undo_91 (pc2 := 92) rfl ic_1 ?_
          refine lu_iload_n X dX10_undo_92 (pc2 := 93) rfl rfl 2 rfl ?_
          refine lu_ishl X dX10_undo_93 (pc2 := 94) rfl ?_
          refine lu_ior X dX10_undo_94 (pc2 := 95) rfl ?_
          refine lu_put X fl10_168 rfl (Or.inl (by decide)) rfl (by decide +kernel) hT_r1 hr_r1 dX10_undo_95 (pc2 := 98) rfl (fun m9 => ?_)
          exact w10_undo_b98 X hret hT_r0 hr_r0 hT_r1 hr_r1 hrec hK104 v3 m9
        · refine lu_goto (tgt := 98) X dX10_undo_69 (by decide) ?_
          exact w10_undo_b98 X hret hT_r0 hr_r0 hT_r1 hr_r1 hrec hK104 v3 m7
theorem w10_undo_b30  {G : lu_G} {ρ : Nat → Nat} {r0 : Nat} {r1 : Nat} {a2 : Int32} {K104 : lu_M → Option (lu_M)} (X : lu_X G RX10 cX10_undo 4 1 21) (hret : (lu_me G).sig.returnType = none) (hT_r0 : lu_TC.2 r0 = (5, 0, 0)) (hr_r0 : r0 < lu_TC.1) (hT_r1 : lu_TC.2 r1 = (6, 0, 0)) (hr_r1 : r1 < lu_TC.1) (hK104 : ∀  (m : lu_M), lu_Ab lu_TC G (lu_Q lu_TC G ρ lu_RVv lu_id) (K104 m) 104 [] [] ρ 0 0 [] m) : ∀ (n : Nat) (v3 : Int32) (m : lu_M), lu_Ab lu_TC G (lu_Q lu_TC G ρ lu_RVv lu_id) (f10_undo_b30 K104 r0 r1 a2 n v3 m) 30 [(0, .ref (ρ r0)), (1, .ref (ρ r1)), (3, .int v3)] [] ρ 0 0 [] m := by
  intro n
  induction n with
  | zero => intro v3 m; exact lu_none
  | succ n ih => intro v3 m; exact w10_undo_b30B X hret hT_r0 hr_r0 hT_r1 hr_r1 hK104 ih v3 m
def f10_undo_b104  (r0 : Nat) (r1 : Nat) (a2 : Int32)  (m : lu_M) : Option (lu_M) :=
  some m
set_option maxRecDepth 20000 in
theorem w10_undo_b104  {G : lu_G} {ρ : Nat → Nat} {r0 : Nat} {r1 : Nat} {a2 : Int32}  (X : lu_X G RX10 cX10_undo 4 1 21) (hret : (lu_me G).sig.returnType = none) (hT_r0 : lu_TC.2 r0 = (5, 0, 0)) (hr_r0 : r0 < lu_TC.1) (hT_r1 : lu_TC.2 r1 = (6, 0, 0)) (hr_r1 : r1 < lu_TC.1)  : ∀  (m : lu_M), lu_Ab lu_TC G (lu_Q lu_TC G ρ lu_RVv lu_id) (f10_undo_b104 r0 r1 a2 m) 104 [] [] ρ 0 0 [] m := by
  intro  m
  unfold f10_undo_b104
  exact lu_vret X hret dX10_undo_104
def f10_undo (r0 : Nat) (r1 : Nat) (a2 : Int32) (m : lu_M) : Option (lu_M) :=
  lu_nm (lu_st m r1 1 ((m r1 1) &&& (((1 : Int32) <<< (a2 &&& 31)) ^^^ (-1 : Int32)))) fun m1 =>
  lu_nm (lu_st m1 r1 2 ((m1 r1 2) ||| ((1 : Int32) <<< (a2 &&& 31)))) fun m2 =>
  lu_nm ((a2 + (1 : Int32))) fun x3 =>
  f10_undo_b30 (f10_undo_b104 r0 r1 a2) r0 r1 a2 lu_fu x3 m2
set_option maxRecDepth 20000 in
theorem c10_undo (l : Launch) {r0 : Nat} {r1 : Nat} (hT_r0 : lu_TC.2 r0 = (5, 0, 0)) (hr_r0 : r0 < lu_TC.1) (hT_r1 : lu_TC.2 r1 = (6, 0, 0)) (hr_r1 : r1 < lu_TC.1) (a2 : Int32) : lu_C lu_TC l yX10_undo cX10_undo 4 none 1 21 (fun ρ sa => [.ref (ρ r0), .ref (ρ r1), .int a2]) (f10_undo r0 r1 a2) lu_RVv lu_id := by
  refine lu_met (cls := RX10) rfl (by decide +kernel) (fun _ _ => Nat.le_of_ble_eq_true rfl) ?_
  intro G ρ m hl X hret
  subst hl
  change lu_Ab lu_TC G (lu_Q lu_TC G ρ lu_RVv lu_id) (f10_undo r0 r1 a2 m) 0 [(0, .ref (ρ r0)), (1, .ref (ρ r1)), (2, .int a2)] [] ρ 0 0 [] m
  unfold f10_undo
  refine lu_aload_n X dX10_undo_0 (pc2 := 1) rfl rfl 1 rfl ?_
  refine lu_dup X dX10_undo_1 (pc2 := 2) rfl rfl ?_
  refine lu_get X fl10_108 rfl hT_r1 hr_r1 dX10_undo_2 (pc2 := 5) rfl ?_
  refine lu_iconst X dX10_undo_5 (pc2 := 6) rfl ic_1 ?_
  refine lu_iload_n X dX10_undo_6 (pc2 := 7) rfl rfl 2 rfl ?_
  refine lu_ishl X dX10_undo_7 (pc2 := 8) rfl ?_
  refine lu_iconst X dX10_undo_8 (pc2 := 9) rfl ic_m1 ?_
  refine lu_ixor X dX10_undo_9 (pc2 := 10) rfl ?_
  refine lu_iand X dX10_undo_10 (pc2 := 11) rfl ?_
  refine lu_put X fl10_108 rfl (Or.inl (by decide)) rfl (by decide +kernel) hT_r1 hr_r1 dX10_undo_11 (pc2 := 14) rfl (fun m1 => ?_)
  refine lu_aload_n X dX10_undo_14 (pc2 := 15) rfl rfl 1 rfl ?_
  refine lu_dup X dX10_undo_15 (pc2 := 16) rfl rfl ?_
  refine lu_get X fl10_162 rfl hT_r1 hr_r1 dX10_undo_16 (pc2 := 19) rfl ?_
  refine lu_iconst X dX10_undo_19 (pc2 := 20) rfl ic_1 ?_
  refine lu_iload_n X dX10_undo_20 (pc2 := 21) rfl rfl 2 rfl ?_
  refine lu_ishl X dX10_undo_21 (pc2 := 22) rfl ?_
  refine lu_ior X dX10_undo_22 (pc2 := 23) rfl ?_
  refine lu_put X fl10_162 rfl (Or.inl (by decide)) rfl (by decide +kernel) hT_r1 hr_r1 dX10_undo_23 (pc2 := 26) rfl (fun m2 => ?_)
  refine lu_iload_n X dX10_undo_26 (pc2 := 27) rfl rfl 2 rfl ?_
  refine lu_iconst X dX10_undo_27 (pc2 := 28) rfl ic_1 ?_
  refine lu_iadd X dX10_undo_28 (pc2 := 29) rfl ?_
  refine lu_topi (fun x3 => ?_)
  refine lu_istore_n (lv2 := [(3, .int x3), (0, .ref (ρ r0)), (1, .ref (ρ r1)), (2, .int a2)]) X dX10_undo_29 (pc2 := 30) rfl rfl (by decide) rfl ?_
  exact lu_sub [1, 2, 0] rfl (w10_undo_b30 X hret hT_r0 hr_r0 hT_r1 hr_r1 (w10_undo_b104 X hret hT_r0 hr_r0 hT_r1 hr_r1) lu_fu x3 m2)

theorem dX10_pass_0 : decode cX10_pass 0 = .ok (.aload_n 0, 1) := by decide +kernel
theorem dX10_pass_1 : decode cX10_pass 1 = .ok (.aload_n 1, 1) := by decide +kernel
theorem dX10_pass_2 : decode cX10_pass 2 = .ok (.invokevirtual 139, 3) := by decide +kernel
theorem dX10_pass_5 : decode cX10_pass 5 = .ok (.iconst 0, 1) := by decide +kernel
theorem dX10_pass_6 : decode cX10_pass 6 = .ok (.istore_n 3, 1) := by decide +kernel
theorem dX10_pass_7 : decode cX10_pass 7 = .ok (.iload_n 3, 1) := by decide +kernel
theorem dX10_pass_8 : decode cX10_pass 8 = .ok (.aload_n 0, 1) := by decide +kernel
theorem dX10_pass_9 : decode cX10_pass 9 = .ok (.getfield 72, 3) := by decide +kernel
theorem dX10_pass_12 : decode cX10_pass 12 = .ok (.if_icmp .ge 41, 3) := by decide +kernel
theorem dX10_pass_15 : decode cX10_pass 15 = .ok (.iload_n 3, 1) := by decide +kernel
theorem dX10_pass_16 : decode cX10_pass 16 = .ok (.iload_n 2, 1) := by decide +kernel
theorem dX10_pass_17 : decode cX10_pass 17 = .ok (.iconst 1, 1) := by decide +kernel
theorem dX10_pass_18 : decode cX10_pass 18 = .ok (.isub, 1) := by decide +kernel
theorem dX10_pass_19 : decode cX10_pass 19 = .ok (.if_icmp .ne 6, 3) := by decide +kernel
theorem dX10_pass_22 : decode cX10_pass 22 = .ok (.goto 25, 3) := by decide +kernel
theorem dX10_pass_25 : decode cX10_pass 25 = .ok (.aload_n 0, 1) := by decide +kernel
theorem dX10_pass_26 : decode cX10_pass 26 = .ok (.iload_n 3, 1) := by decide +kernel
theorem dX10_pass_27 : decode cX10_pass 27 = .ok (.aload_n 1, 1) := by decide +kernel
theorem dX10_pass_28 : decode cX10_pass 28 = .ok (.invokevirtual 142, 3) := by decide +kernel
theorem dX10_pass_31 : decode cX10_pass 31 = .ok (.istore 4, 2) := by decide +kernel
theorem dX10_pass_33 : decode cX10_pass 33 = .ok (.iload 4, 2) := by decide +kernel
theorem dX10_pass_35 : decode cX10_pass 35 = .ok (.bipush 10, 2) := by decide +kernel
theorem dX10_pass_37 : decode cX10_pass 37 = .ok (.if_icmp .eq 10, 3) := by decide +kernel
theorem dX10_pass_40 : decode cX10_pass 40 = .ok (.aload_n 0, 1) := by decide +kernel
theorem dX10_pass_41 : decode cX10_pass 41 = .ok (.aload_n 1, 1) := by decide +kernel
theorem dX10_pass_42 : decode cX10_pass 42 = .ok (.iload 4, 2) := by decide +kernel
theorem dX10_pass_44 : decode cX10_pass 44 = .ok (.invokevirtual 145, 3) := by decide +kernel
theorem dX10_pass_47 : decode cX10_pass 47 = .ok (.iinc 3 1, 3) := by decide +kernel
theorem dX10_pass_50 : decode cX10_pass 50 = .ok (.goto (-43), 3) := by decide +kernel
theorem dX10_pass_53 : decode cX10_pass 53 = .ok (.iconst 0, 1) := by decide +kernel
theorem dX10_pass_54 : decode cX10_pass 54 = .ok (.istore_n 3, 1) := by decide +kernel
theorem dX10_pass_55 : decode cX10_pass 55 = .ok (.iconst 0, 1) := by decide +kernel
theorem dX10_pass_56 : decode cX10_pass 56 = .ok (.istore 4, 2) := by decide +kernel
theorem dX10_pass_58 : decode cX10_pass 58 = .ok (.iload 4, 2) := by decide +kernel
theorem dX10_pass_60 : decode cX10_pass 60 = .ok (.aload_n 0, 1) := by decide +kernel
theorem dX10_pass_61 : decode cX10_pass 61 = .ok (.getfield 84, 3) := by decide +kernel
theorem dX10_pass_64 : decode cX10_pass 64 = .ok (.if_icmp .ge 42, 3) := by decide +kernel
theorem dX10_pass_67 : decode cX10_pass 67 = .ok (.aload_n 1, 1) := by decide +kernel
theorem dX10_pass_68 : decode cX10_pass 68 = .ok (.iload 4, 2) := by decide +kernel
theorem dX10_pass_70 : decode cX10_pass 70 = .ok (.invokevirtual 149, 3) := by decide +kernel
theorem dX10_pass_73 : decode cX10_pass 73 = .ok (.ifCond .eq 27, 3) := by decide +kernel
theorem dX10_pass_76 : decode cX10_pass 76 = .ok (.aload_n 0, 1) := by decide +kernel
theorem dX10_pass_77 : decode cX10_pass 77 = .ok (.getfield 34, 3) := by decide +kernel
theorem dX10_pass_80 : decode cX10_pass 80 = .ok (.iload 4, 2) := by decide +kernel
theorem dX10_pass_82 : decode cX10_pass 82 = .ok (.iaload, 1) := by decide +kernel
theorem dX10_pass_83 : decode cX10_pass 83 = .ok (.aload_n 1, 1) := by decide +kernel
theorem dX10_pass_84 : decode cX10_pass 84 = .ok (.getfield 101, 3) := by decide +kernel
theorem dX10_pass_87 : decode cX10_pass 87 = .ok (.if_icmp .lt 13, 3) := by decide +kernel
theorem dX10_pass_90 : decode cX10_pass 90 = .ok (.iload_n 3, 1) := by decide +kernel
theorem dX10_pass_91 : decode cX10_pass 91 = .ok (.aload_n 0, 1) := by decide +kernel
theorem dX10_pass_92 : decode cX10_pass 92 = .ok (.getfield 28, 3) := by decide +kernel
theorem dX10_pass_95 : decode cX10_pass 95 = .ok (.iload 4, 2) := by decide +kernel
theorem dX10_pass_97 : decode cX10_pass 97 = .ok (.iaload, 1) := by decide +kernel
theorem dX10_pass_98 : decode cX10_pass 98 = .ok (.iadd, 1) := by decide +kernel
theorem dX10_pass_99 : decode cX10_pass 99 = .ok (.istore_n 3, 1) := by decide +kernel
theorem dX10_pass_100 : decode cX10_pass 100 = .ok (.iinc 4 1, 3) := by decide +kernel
theorem dX10_pass_103 : decode cX10_pass 103 = .ok (.goto (-45), 3) := by decide +kernel
theorem dX10_pass_106 : decode cX10_pass 106 = .ok (.aload_n 1, 1) := by decide +kernel
theorem dX10_pass_107 : decode cX10_pass 107 = .ok (.dup, 1) := by decide +kernel
theorem dX10_pass_108 : decode cX10_pass 108 = .ok (.getfield 101, 3) := by decide +kernel
theorem dX10_pass_111 : decode cX10_pass 111 = .ok (.iconst 1, 1) := by decide +kernel
theorem dX10_pass_112 : decode cX10_pass 112 = .ok (.iadd, 1) := by decide +kernel
theorem dX10_pass_113 : decode cX10_pass 113 = .ok (.putfield 101, 3) := by decide +kernel
theorem dX10_pass_116 : decode cX10_pass 116 = .ok (.aload_n 1, 1) := by decide +kernel
theorem dX10_pass_117 : decode cX10_pass 117 = .ok (.dup, 1) := by decide +kernel
theorem dX10_pass_118 : decode cX10_pass 118 = .ok (.getfield 153, 3) := by decide +kernel
theorem dX10_pass_121 : decode cX10_pass 121 = .ok (.iload_n 3, 1) := by decide +kernel
theorem dX10_pass_122 : decode cX10_pass 122 = .ok (.iadd, 1) := by decide +kernel
theorem dX10_pass_123 : decode cX10_pass 123 = .ok (.putfield 153, 3) := by decide +kernel
theorem dX10_pass_126 : decode cX10_pass 126 = .ok (.iload_n 3, 1) := by decide +kernel
theorem dX10_pass_127 : decode cX10_pass 127 = .ok (.ireturn, 1) := by decide +kernel
def f10_pass_b47 (K7 : Int32 → lu_M → Option (Int32 × lu_M)) (K53 : lu_M → Option (Int32 × lu_M)) (r0 : Nat) (r1 : Nat) (a2 : Int32) (v3 : Int32) (m : lu_M) : Option (Int32 × lu_M) :=
  K7 (v3 + (1 : Int32)) m
set_option maxRecDepth 20000 in
theorem w10_pass_b47  {G : lu_G} {ρ : Nat → Nat} {r0 : Nat} {r1 : Nat} {a2 : Int32} {K7 : Int32 → lu_M → Option (Int32 × lu_M)} {K53 : lu_M → Option (Int32 × lu_M)} (X : lu_X G RX10 cX10_pass 5 4 98) (hret : (lu_me G).sig.returnType = (some .int)) (hT_r0 : lu_TC.2 r0 = (5, 0, 0)) (hr_r0 : r0 < lu_TC.1) (hT_r1 : lu_TC.2 r1 = (6, 0, 0)) (hr_r1 : r1 < lu_TC.1) (hK7 : ∀ (v3 : Int32) (m : lu_M), lu_Ab lu_TC G (lu_Q lu_TC G ρ lu_RVi lu_sn) (K7 v3 m) 7 [(0, .ref (ρ r0)), (1, .ref (ρ r1)), (2, .int a2), (3, .int v3)] [] ρ 0 0 [] m) (hK53 : ∀  (m : lu_M), lu_Ab lu_TC G (lu_Q lu_TC G ρ lu_RVi lu_sn) (K53 m) 53 [(0, .ref (ρ r0)), (1, .ref (ρ r1))] [] ρ 0 0 [] m) : ∀ (v3 : Int32) (m : lu_M), lu_Ab lu_TC G (lu_Q lu_TC G ρ lu_RVi lu_sn) (f10_pass_b47 K7 K53 r0 r1 a2 v3 m) 47 [(0, .ref (ρ r0)), (1, .ref (ρ r1)), (2, .int a2), (3, .int v3)] [] ρ 0 0 [] m := by
  intro v3 m
  unfold f10_pass_b47
  refine lu_iinc (lv2 := [(3, .int (v3 + (1 : Int32))), (0, .ref (ρ r0)), (1, .ref (ρ r1)), (2, .int a2)]) X dX10_pass_47 (pc2 := 50) rfl 3 rfl (lu_ii _ ic_1) (by decide) rfl ?_
  refine lu_goto (tgt := 7) X dX10_pass_50 (by decide) ?_
  exact lu_sub [1, 2, 3, 0] rfl (hK7 (v3 + (1 : Int32)) m)
def f10_pass_b7B (K53 : lu_M → Option (Int32 × lu_M)) (rec : Int32 → lu_M → Option (Int32 × lu_M)) (r0 : Nat) (r1 : Nat) (a2 : Int32) (v3 : Int32) (m : lu_M) : Option (Int32 × lu_M) :=
  if (m r0 0) ≤ v3 then (K53 m)
  else (if v3 = (a2 - (1 : Int32)) then (f10_pass_b47 rec K53 r0 r1 a2 v3 m)
  else (lu_bi (f10_choice r0 v3 r1 m) fun x2 m3 =>
  if x2 = (10 : Int32) then (f10_pass_b47 rec K53 r0 r1 a2 v3 m3)
  else (lu_bv (f10_undo r0 r1 x2 m3) fun m4 =>
  f10_pass_b47 rec K53 r0 r1 a2 v3 m4)))
def f10_pass_b7 (K53 : lu_M → Option (Int32 × lu_M)) (r0 : Nat) (r1 : Nat) (a2 : Int32) : Nat → Int32 → lu_M → Option (Int32 × lu_M)
  | 0, _, _ => none
  | n + 1, v3, m => f10_pass_b7B K53 (f10_pass_b7 K53 r0 r1 a2 n) r0 r1 a2 v3 m
set_option maxRecDepth 20000 in
theorem w10_pass_b7B  {G : lu_G} {ρ : Nat → Nat} {r0 : Nat} {r1 : Nat} {a2 : Int32} {K53 : lu_M → Option (Int32 × lu_M)} {rec : Int32 → lu_M → Option (Int32 × lu_M)} (X : lu_X G RX10 cX10_pass 5 4 98) (hret : (lu_me G).sig.returnType = (some .int)) (hT_r0 : lu_TC.2 r0 = (5, 0, 0)) (hr_r0 : r0 < lu_TC.1) (hT_r1 : lu_TC.2 r1 = (6, 0, 0)) (hr_r1 : r1 < lu_TC.1) (hK53 : ∀  (m : lu_M), lu_Ab lu_TC G (lu_Q lu_TC G ρ lu_RVi lu_sn) (K53 m) 53 [(0, .ref (ρ r0)), (1, .ref (ρ r1))] [] ρ 0 0 [] m) (hrec : ∀ (v3 : Int32) (m : lu_M), lu_Ab lu_TC G (lu_Q lu_TC G ρ lu_RVi lu_sn) (rec v3 m) 7 [(0, .ref (ρ r0)), (1, .ref (ρ r1)), (2, .int a2), (3, .int v3)] [] ρ 0 0 [] m) : ∀ (v3 : Int32) (m : lu_M), lu_Ab lu_TC G (lu_Q lu_TC G ρ lu_RVi lu_sn) (f10_pass_b7B K53 rec r0 r1 a2 v3 m) 7 [(0, .ref (ρ r0)), (1, .ref (ρ r1)), (2, .int a2), (3, .int v3)] [] ρ 0 0 [] m := by
  intro v3 m
  unfold f10_pass_b7B
  refine lu_iload_n X dX10_pass_7 (pc2 := 8) rfl rfl 3 rfl ?_
  refine lu_aload_n X dX10_pass_8 (pc2 := 9) rfl rfl 0 rfl ?_
  refine lu_get X fl10_72 rfl hT_r0 hr_r0 dX10_pass_9 (pc2 := 12) rfl ?_
  refine lu_icmp_ge (tgt := 53) X dX10_pass_12 (pc2 := 15) rfl (by decide) (fun _ => ?_) (fun _ => ?_)
  · exact lu_sub [0, 1] rfl (hK53 m)
  · refine lu_iload_n X dX10_pass_15 (pc2 := 16) rfl rfl 3 rfl ?_
    refine lu_iload_n X dX10_pass_16 (pc2 := 17) rfl rfl 2 rfl ?_
    refine lu_iconst X dX10_pass_17 (pc2 := 18) rfl ic_1 ?_
    refine lu_isub X dX10_pass_18 (pc2 := 19) rfl ?_
    refine lu_icmp_ne (tgt := 25) X dX10_pass_19 (pc2 := 22) rfl (by decide) (fun _ => ?_) (fun _ => ?_)
    · refine lu_aload_n X dX10_pass_25 (pc2 := 26) rfl rfl 0 rfl ?_
      refine lu_iload_n X dX10_pass_26 (pc2 := 27) rfl rfl 3 rfl ?_
      refine lu_aload_n X dX10_pass_27 (pc2 := 28) rfl rfl 1 rfl ?_
      refine lu_invVi X (c10_choice _ hT_r0 hr_r0 hT_r1 hr_r1 v3) rfl q731 mvV_10_choice hT_r0 hr_r0 (by decide) ⟨_, rfl, rfl⟩ rfl rfl (Nat.le_of_ble_eq_true rfl) (Nat.le_of_ble_eq_true rfl) (Nat.le_of_ble_eq_true rfl) ⟨Nat.zero_le _, Nat.zero_le _⟩ dX10_pass_28 (pc2 := 31) rfl rfl (fun x2 m3 => ?_)
      refine lu_istore (lv2 := [(4, .int x2), (0, .ref (ρ r0)), (1, .ref (ρ r1)), (2, .int a2), (3, .int v3)]) X dX10_pass_31 (pc2 := 33) rfl (by decide) rfl ?_
      refine lu_iload X dX10_pass_33 (pc2 := 35) rfl 0 rfl ?_
      refine lu_bipush X dX10_pass_35 (pc2 := 37) rfl bp_10 ?_
      refine lu_icmp_eq (tgt := 47) X dX10_pass_37 (pc2 := 40) rfl (by decide) (fun _ => ?_) (fun _ => ?_)
      · exact lu_sub [1, 2, 3, 4] rfl (w10_pass_b47 X hret hT_r0 hr_r0 hT_r1 hr_r1 hrec hK53 v3 m3)
      · refine lu_aload_n X dX10_pass_40 (pc2 := 41) rfl rfl 1 rfl ?_
        refine lu_aload_n X dX10_pass_41 (pc2 := 42) rfl rfl 2 rfl ?_
        refine lu_iload X dX10_pass_42 (pc2 := 44) rfl 0 rfl ?_
        refine lu_invVv X (c10_undo _ hT_r0 hr_r0 hT_r1 hr_r1 x2) rfl q732 mvV_10_undo hT_r0 hr_r0 (by decide) ⟨_, rfl, rfl⟩ rfl rfl (Nat.le_of_ble_eq_true rfl) (Nat.le_of_ble_eq_true rfl) (Nat.le_of_ble_eq_true rfl) ⟨Nat.zero_le _, Nat.zero_le _⟩ dX10_pass_44 (pc2 := 47) rfl rfl (fun m4 => ?_)
        exact lu_sub [1, 2, 3, 4] rfl (w10_pass_b47 X hret hT_r0 hr_r0 hT_r1 hr_r1 hrec hK53 v3 m4)
    · refine lu_goto (tgt := 47) X dX10_pass_22 (by decide) ?_
      exact w10_pass_b47 X hret hT_r0 hr_r0 hT_r1 hr_r1 hrec hK53 v3 m
theorem w10_pass_b7  {G : lu_G} {ρ : Nat → Nat} {r0 : Nat} {r1 : Nat} {a2 : Int32} {K53 : lu_M → Option (Int32 × lu_M)} (X : lu_X G RX10 cX10_pass 5 4 98) (hret : (lu_me G).sig.returnType = (some .int)) (hT_r0 : lu_TC.2 r0 = (5, 0, 0)) (hr_r0 : r0 < lu_TC.1) (hT_r1 : lu_TC.2 r1 = (6, 0, 0)) (hr_r1 : r1 < lu_TC.1) (hK53 : ∀  (m : lu_M), lu_Ab lu_TC G (lu_Q lu_TC G ρ lu_RVi lu_sn) (K53 m) 53 [(0, .ref (ρ r0)), (1, .ref (ρ r1))] [] ρ 0 0 [] m) : ∀ (n : Nat) (v3 : Int32) (m : lu_M), lu_Ab lu_TC G (lu_Q lu_TC G ρ lu_RVi lu_sn) (f10_pass_b7 K53 r0 r1 a2 n v3 m) 7 [(0, .ref (ρ r0)), (1, .ref (ρ r1)), (2, .int a2), (3, .int v3)] [] ρ 0 0 [] m := by
  intro n
  induction n with
  | zero => intro v3 m; exact lu_none
  | succ n ih => intro v3 m; exact w10_pass_b7B X hret hT_r0 hr_r0 hT_r1 hr_r1 hK53 ih v3 m
def f10_pass_b100 (K58 : Int32 → Int32 → lu_M → Option (Int32 × lu_M)) (K106 : Int32 → lu_M → Option (Int32 × lu_M)) (r0 : Nat) (r1 : Nat) (a2 : Int32) (v3 : Int32) (v4 : Int32) (m : lu_M) : Option (Int32 × lu_M) :=
  K58 v3 (v4 + (1 : Int32)) m
set_option maxRecDepth 20000 in
theorem w10_pass_b100  {G : lu_G} {ρ : Nat → Nat} {r0 : Nat} {r1 : Nat} {a2 : Int32} {K58 : Int32 → Int32 → lu_M → Option (Int32 × lu_M)} {K106 : Int32 → lu_M → Option (Int32 × lu_M)} (X : lu_X G RX10 cX10_pass 5 4 98) (hret : (lu_me G).sig.returnType = (some .int)) (hT_r0 : lu_TC.2 r0 = (5, 0, 0)) (hr_r0 : r0 < lu_TC.1) (hT_r1 : lu_TC.2 r1 = (6, 0, 0)) (hr_r1 : r1 < lu_TC.1) (hK58 : ∀ (v3 : Int32) (v4 : Int32) (m : lu_M), lu_Ab lu_TC G (lu_Q lu_TC G ρ lu_RVi lu_sn) (K58 v3 v4 m) 58 [(0, .ref (ρ r0)), (1, .ref (ρ r1)), (3, .int v3), (4, .int v4)] [] ρ 0 0 [] m) (hK106 : ∀ (v3 : Int32) (m : lu_M), lu_Ab lu_TC G (lu_Q lu_TC G ρ lu_RVi lu_sn) (K106 v3 m) 106 [(1, .ref (ρ r1)), (3, .int v3)] [] ρ 0 0 [] m) : ∀ (v3 : Int32) (v4 : Int32) (m : lu_M), lu_Ab lu_TC G (lu_Q lu_TC G ρ lu_RVi lu_sn) (f10_pass_b100 K58 K106 r0 r1 a2 v3 v4 m) 100 [(0, .ref (ρ r0)), (1, .ref (ρ r1)), (3, .int v3), (4, .int v4)] [] ρ 0 0 [] m := by
  intro v3 v4 m
  unfold f10_pass_b100
  refine lu_iinc (lv2 := [(4, .int (v4 + (1 : Int32))), (0, .ref (ρ r0)), (1, .ref (ρ r1)), (3, .int v3)]) X dX10_pass_100 (pc2 := 103) rfl 3 rfl (lu_ii _ ic_1) (by decide) rfl ?_
  refine lu_goto (tgt := 58) X dX10_pass_103 (by decide) ?_
  exact lu_sub [1, 2, 3, 0] rfl (hK58 v3 (v4 + (1 : Int32)) m)
def f10_pass_b58B (K106 : Int32 → lu_M → Option (Int32 × lu_M)) (rec : Int32 → Int32 → lu_M → Option (Int32 × lu_M)) (r0 : Nat) (r1 : Nat) (a2 : Int32) (v3 : Int32) (v4 : Int32) (m : lu_M) : Option (Int32 × lu_M) :=
  if (m r0 2) ≤ v4 then (K106 v3 m)
  else (lu_bi (f1_isStanding r1 v4 m) fun x5 m6 =>
  if x5 = 0 then (f10_pass_b100 rec K106 r0 r1 a2 v3 v4 m6)
  else (lu_gd (lu_ib v4 10) <|
  if (m6 (r0 + 12) v4.toNatClampNeg) < (m6 r1 0) then (f10_pass_b100 rec K106 r0 r1 a2 v3 v4 m6)
  else (lu_gd (lu_ib v4 10) <|
  lu_nm ((v3 + (m6 (r0 + 10) v4.toNatClampNeg))) fun x7 =>
  f10_pass_b100 rec K106 r0 r1 a2 x7 v4 m6)))
def f10_pass_b58 (K106 : Int32 → lu_M → Option (Int32 × lu_M)) (r0 : Nat) (r1 : Nat) (a2 : Int32) : Nat → Int32 → Int32 → lu_M → Option (Int32 × lu_M)
  | 0, _, _, _ => none
  | n + 1, v3, v4, m => f10_pass_b58B K106 (f10_pass_b58 K106 r0 r1 a2 n) r0 r1 a2 v3 v4 m
set_option maxRecDepth 20000 in
theorem w10_pass_b58B  {G : lu_G} {ρ : Nat → Nat} {r0 : Nat} {r1 : Nat} {a2 : Int32} {K106 : Int32 → lu_M → Option (Int32 × lu_M)} {rec : Int32 → Int32 → lu_M → Option (Int32 × lu_M)} (X : lu_X G RX10 cX10_pass 5 4 98) (hret : (lu_me G).sig.returnType = (some .int)) (hT_r0 : lu_TC.2 r0 = (5, 0, 0)) (hr_r0 : r0 < lu_TC.1) (hT_r1 : lu_TC.2 r1 = (6, 0, 0)) (hr_r1 : r1 < lu_TC.1) (hK106 : ∀ (v3 : Int32) (m : lu_M), lu_Ab lu_TC G (lu_Q lu_TC G ρ lu_RVi lu_sn) (K106 v3 m) 106 [(1, .ref (ρ r1)), (3, .int v3)] [] ρ 0 0 [] m) (hrec : ∀ (v3 : Int32) (v4 : Int32) (m : lu_M), lu_Ab lu_TC G (lu_Q lu_TC G ρ lu_RVi lu_sn) (rec v3 v4 m) 58 [(0, .ref (ρ r0)), (1, .ref (ρ r1)), (3, .int v3), (4, .int v4)] [] ρ 0 0 [] m) : ∀ (v3 : Int32) (v4 : Int32) (m : lu_M), lu_Ab lu_TC G (lu_Q lu_TC G ρ lu_RVi lu_sn) (f10_pass_b58B K106 rec r0 r1 a2 v3 v4 m) 58 [(0, .ref (ρ r0)), (1, .ref (ρ r1)), (3, .int v3), (4, .int v4)] [] ρ 0 0 [] m := by
  intro v3 v4 m
  unfold f10_pass_b58B
  refine lu_iload X dX10_pass_58 (pc2 := 60) rfl 3 rfl ?_
  refine lu_aload_n X dX10_pass_60 (pc2 := 61) rfl rfl 0 rfl ?_
  refine lu_get X fl10_84 rfl hT_r0 hr_r0 dX10_pass_61 (pc2 := 64) rfl ?_
  refine lu_icmp_ge (tgt := 106) X dX10_pass_64 (pc2 := 67) rfl (by decide) (fun _ => ?_) (fun _ => ?_)
  · exact lu_sub [1, 2] rfl (hK106 v3 m)
  · refine lu_aload_n X dX10_pass_67 (pc2 := 68) rfl rfl 1 rfl ?_
    refine lu_iload X dX10_pass_68 (pc2 := 70) rfl 3 rfl ?_
    refine lu_invVi X (c1_isStanding _ hT_r1 hr_r1 v4) rfl q730 mvV_1_isStanding hT_r1 hr_r1 (by decide) ⟨_, rfl, rfl⟩ rfl rfl (Nat.le_of_ble_eq_true rfl) (Nat.le_of_ble_eq_true rfl) (Nat.le_of_ble_eq_true rfl) ⟨Nat.zero_le _, Nat.zero_le _⟩ dX10_pass_70 (pc2 := 73) rfl rfl (fun x5 m6 => ?_)
    refine lu_if_eq (tgt := 100) X dX10_pass_73 (pc2 := 76) rfl (by decide) (fun _ => ?_) (fun _ => ?_)
    · exact w10_pass_b100 X hret hT_r0 hr_r0 hT_r1 hr_r1 hrec hK106 v3 v4 m6
    · refine lu_aload_n X dX10_pass_76 (pc2 := 77) rfl rfl 0 rfl ?_
      refine lu_getr (r2 := (r0 + 12)) X rfl fl10_34 rfl hT_r0 hr_r0 dX10_pass_77 (pc2 := 80) rfl ?_
      refine lu_iload X dX10_pass_80 (pc2 := 82) rfl 3 rfl ?_
      refine lu_iald X ((koC_5_12 hT_r0 hr_r0).1) ((koC_5_12 hT_r0 hr_r0).2) dX10_pass_82 (pc2 := 83) rfl ?_
      refine lu_aload_n X dX10_pass_83 (pc2 := 84) rfl rfl 1 rfl ?_
      refine lu_get X fl10_101 rfl hT_r1 hr_r1 dX10_pass_84 (pc2 := 87) rfl ?_
      refine lu_icmp_lt (tgt := 100) X dX10_pass_87 (pc2 := 90) rfl (by decide) (fun _ => ?_) (fun _ => ?_)
      · exact w10_pass_b100 X hret hT_r0 hr_r0 hT_r1 hr_r1 hrec hK106 v3 v4 m6
      · refine lu_iload_n X dX10_pass_90 (pc2 := 91) rfl rfl 2 rfl ?_
        refine lu_aload_n X dX10_pass_91 (pc2 := 92) rfl rfl 0 rfl ?_
        refine lu_getr (r2 := (r0 + 10)) X rfl fl10_28 rfl hT_r0 hr_r0 dX10_pass_92 (pc2 := 95) rfl ?_
        refine lu_iload X dX10_pass_95 (pc2 := 97) rfl 3 rfl ?_
        refine lu_iald X ((koC_5_10 hT_r0 hr_r0).1) ((koC_5_10 hT_r0 hr_r0).2) dX10_pass_97 (pc2 := 98) rfl ?_
        refine lu_iadd X dX10_pass_98 (pc2 := 99) rfl ?_
        refine lu_topi (fun x7 => ?_)
        refine lu_istore_n (lv2 := [(3, .int x7), (0, .ref (ρ r0)), (1, .ref (ρ r1)), (4, .int v4)]) X dX10_pass_99 (pc2 := 100) rfl rfl (by decide) rfl ?_
        exact lu_sub [1, 2, 0, 3] rfl (w10_pass_b100 X hret hT_r0 hr_r0 hT_r1 hr_r1 hrec hK106 x7 v4 m6)
theorem w10_pass_b58  {G : lu_G} {ρ : Nat → Nat} {r0 : Nat} {r1 : Nat} {a2 : Int32} {K106 : Int32 → lu_M → Option (Int32 × lu_M)} (X : lu_X G RX10 cX10_pass 5 4 98) (hret : (lu_me G).sig.returnType = (some .int)) (hT_r0 : lu_TC.2 r0 = (5, 0, 0)) (hr_r0 : r0 < lu_TC.1) (hT_r1 : lu_TC.2 r1 = (6, 0, 0)) (hr_r1 : r1 < lu_TC.1) (hK106 : ∀ (v3 : Int32) (m : lu_M), lu_Ab lu_TC G (lu_Q lu_TC G ρ lu_RVi lu_sn) (K106 v3 m) 106 [(1, .ref (ρ r1)), (3, .int v3)] [] ρ 0 0 [] m) : ∀ (n : Nat) (v3 : Int32) (v4 : Int32) (m : lu_M), lu_Ab lu_TC G (lu_Q lu_TC G ρ lu_RVi lu_sn) (f10_pass_b58 K106 r0 r1 a2 n v3 v4 m) 58 [(0, .ref (ρ r0)), (1, .ref (ρ r1)), (3, .int v3), (4, .int v4)] [] ρ 0 0 [] m := by
  intro n
  induction n with
  | zero => intro v3 v4 m; exact lu_none
  | succ n ih => intro v3 v4 m; exact w10_pass_b58B X hret hT_r0 hr_r0 hT_r1 hr_r1 hK106 ih v3 v4 m
def f10_pass_b106  (r0 : Nat) (r1 : Nat) (a2 : Int32) (v3 : Int32) (m : lu_M) : Option (Int32 × lu_M) :=
  lu_nm (lu_st m r1 0 ((m r1 0) + (1 : Int32))) fun m8 =>
  lu_nm (lu_st m8 r1 5 ((m8 r1 5) + v3)) fun m9 =>
  some (v3, m9)
set_option maxRecDepth 20000 in
theorem w10_pass_b106  {G : lu_G} {ρ : Nat → Nat} {r0 : Nat} {r1 : Nat} {a2 : Int32}  (X : lu_X G RX10 cX10_pass 5 4 98) (hret : (lu_me G).sig.returnType = (some .int)) (hT_r0 : lu_TC.2 r0 = (5, 0, 0)) (hr_r0 : r0 < lu_TC.1) (hT_r1 : lu_TC.2 r1 = (6, 0, 0)) (hr_r1 : r1 < lu_TC.1)  : ∀ (v3 : Int32) (m : lu_M), lu_Ab lu_TC G (lu_Q lu_TC G ρ lu_RVi lu_sn) (f10_pass_b106 r0 r1 a2 v3 m) 106 [(1, .ref (ρ r1)), (3, .int v3)] [] ρ 0 0 [] m := by
  intro v3 m
  unfold f10_pass_b106
  refine lu_aload_n X dX10_pass_106 (pc2 := 107) rfl rfl 0 rfl ?_
  refine lu_dup X dX10_pass_107 (pc2 := 108) rfl rfl ?_
  refine lu_get X fl10_101 rfl hT_r1 hr_r1 dX10_pass_108 (pc2 := 111) rfl ?_
  refine lu_iconst X dX10_pass_111 (pc2 := 112) rfl ic_1 ?_
  refine lu_iadd X dX10_pass_112 (pc2 := 113) rfl ?_
  refine lu_put X fl10_101 rfl (Or.inl (by decide)) rfl (by decide +kernel) hT_r1 hr_r1 dX10_pass_113 (pc2 := 116) rfl (fun m8 => ?_)
  refine lu_aload_n X dX10_pass_116 (pc2 := 117) rfl rfl 0 rfl ?_
  refine lu_dup X dX10_pass_117 (pc2 := 118) rfl rfl ?_
  refine lu_get X fl10_153 rfl hT_r1 hr_r1 dX10_pass_118 (pc2 := 121) rfl ?_
  refine lu_iload_n X dX10_pass_121 (pc2 := 122) rfl rfl 1 rfl ?_
  refine lu_iadd X dX10_pass_122 (pc2 := 123) rfl ?_
  refine lu_put X fl10_153 rfl (Or.inl (by decide)) rfl (by decide +kernel) hT_r1 hr_r1 dX10_pass_123 (pc2 := 126) rfl (fun m9 => ?_)
  refine lu_iload_n X dX10_pass_126 (pc2 := 127) rfl rfl 1 rfl ?_
  exact lu_iret X hret dX10_pass_127
def f10_pass_b53  (r0 : Nat) (r1 : Nat) (a2 : Int32)  (m : lu_M) : Option (Int32 × lu_M) :=
  f10_pass_b58 (f10_pass_b106 r0 r1 a2) r0 r1 a2 lu_fu (0 : Int32) (0 : Int32) m
set_option maxRecDepth 20000 in
theorem w10_pass_b53  {G : lu_G} {ρ : Nat → Nat} {r0 : Nat} {r1 : Nat} {a2 : Int32}  (X : lu_X G RX10 cX10_pass 5 4 98) (hret : (lu_me G).sig.returnType = (some .int)) (hT_r0 : lu_TC.2 r0 = (5, 0, 0)) (hr_r0 : r0 < lu_TC.1) (hT_r1 : lu_TC.2 r1 = (6, 0, 0)) (hr_r1 : r1 < lu_TC.1)  : ∀  (m : lu_M), lu_Ab lu_TC G (lu_Q lu_TC G ρ lu_RVi lu_sn) (f10_pass_b53 r0 r1 a2 m) 53 [(0, .ref (ρ r0)), (1, .ref (ρ r1))] [] ρ 0 0 [] m := by
  intro  m
  unfold f10_pass_b53
  refine lu_iconst X dX10_pass_53 (pc2 := 54) rfl ic_0 ?_
  refine lu_istore_n (lv2 := [(3, .int (0 : Int32)), (0, .ref (ρ r0)), (1, .ref (ρ r1))]) X dX10_pass_54 (pc2 := 55) rfl rfl (by decide) rfl ?_
  refine lu_iconst X dX10_pass_55 (pc2 := 56) rfl ic_0 ?_
  refine lu_istore (lv2 := [(4, .int (0 : Int32)), (3, .int (0 : Int32)), (0, .ref (ρ r0)), (1, .ref (ρ r1))]) X dX10_pass_56 (pc2 := 58) rfl (by decide) rfl ?_
  exact lu_sub [2, 3, 1, 0] rfl (w10_pass_b58 X hret hT_r0 hr_r0 hT_r1 hr_r1 (w10_pass_b106 X hret hT_r0 hr_r0 hT_r1 hr_r1) lu_fu (0 : Int32) (0 : Int32) m)
def f10_pass (r0 : Nat) (r1 : Nat) (a2 : Int32) (m : lu_M) : Option (Int32 × lu_M) :=
  lu_bv (f10_doDeeds r0 r1 m) fun m1 =>
  f10_pass_b7 (f10_pass_b53 r0 r1 a2) r0 r1 a2 lu_fu (0 : Int32) m1
set_option maxRecDepth 20000 in
theorem c10_pass (l : Launch) {r0 : Nat} {r1 : Nat} (hT_r0 : lu_TC.2 r0 = (5, 0, 0)) (hr_r0 : r0 < lu_TC.1) (hT_r1 : lu_TC.2 r1 = (6, 0, 0)) (hr_r1 : r1 < lu_TC.1) (a2 : Int32) : lu_C lu_TC l yX10_pass cX10_pass 5 (some .int) 4 98 (fun ρ sa => [.ref (ρ r0), .ref (ρ r1), .int a2]) (f10_pass r0 r1 a2) lu_RVi lu_sn := by
  refine lu_met (cls := RX10) rfl (by decide +kernel) (fun _ _ => Nat.le_of_ble_eq_true rfl) ?_
  intro G ρ m hl X hret
  subst hl
  change lu_Ab lu_TC G (lu_Q lu_TC G ρ lu_RVi lu_sn) (f10_pass r0 r1 a2 m) 0 [(0, .ref (ρ r0)), (1, .ref (ρ r1)), (2, .int a2)] [] ρ 0 0 [] m
  unfold f10_pass
  refine lu_aload_n X dX10_pass_0 (pc2 := 1) rfl rfl 0 rfl ?_
  refine lu_aload_n X dX10_pass_1 (pc2 := 2) rfl rfl 1 rfl ?_
  refine lu_invVv X (c10_doDeeds _ hT_r0 hr_r0 hT_r1 hr_r1) rfl q725 mvV_10_doDeeds hT_r0 hr_r0 (by decide) ⟨_, rfl, rfl⟩ rfl rfl (Nat.le_of_ble_eq_true rfl) (Nat.le_of_ble_eq_true rfl) (Nat.le_of_ble_eq_true rfl) ⟨Nat.zero_le _, Nat.zero_le _⟩ dX10_pass_2 (pc2 := 5) rfl rfl (fun m1 => ?_)
  refine lu_iconst X dX10_pass_5 (pc2 := 6) rfl ic_0 ?_
  refine lu_istore_n (lv2 := [(3, .int (0 : Int32)), (0, .ref (ρ r0)), (1, .ref (ρ r1)), (2, .int a2)]) X dX10_pass_6 (pc2 := 7) rfl rfl (by decide) rfl ?_
  exact lu_sub [1, 2, 3, 0] rfl (w10_pass_b7 X hret hT_r0 hr_r0 hT_r1 hr_r1 (w10_pass_b53 X hret hT_r0 hr_r0 hT_r1 hr_r1) lu_fu (0 : Int32) m1)

theorem dX5_weigh_0 : decode cX5_weigh 0 = .ok (.aload_n 0, 1) := by decide +kernel
theorem dX5_weigh_1 : decode cX5_weigh 1 = .ok (.dup, 1) := by decide +kernel
theorem dX5_weigh_2 : decode cX5_weigh 2 = .ok (.getfield 74, 3) := by decide +kernel
theorem dX5_weigh_5 : decode cX5_weigh 5 = .ok (.aload_n 1, 1) := by decide +kernel
theorem dX5_weigh_6 : decode cX5_weigh 6 = .ok (.getfield 95, 3) := by decide +kernel
theorem dX5_weigh_9 : decode cX5_weigh 9 = .ok (.ior, 1) := by decide +kernel
theorem dX5_weigh_10 : decode cX5_weigh 10 = .ok (.putfield 74, 3) := by decide +kernel
theorem dX5_weigh_13 : decode cX5_weigh 13 = .ok (.aload_n 1, 1) := by decide +kernel
theorem dX5_weigh_14 : decode cX5_weigh 14 = .ok (.getfield 95, 3) := by decide +kernel
theorem dX5_weigh_17 : decode cX5_weigh 17 = .ok (.aload_n 0, 1) := by decide +kernel
theorem dX5_weigh_18 : decode cX5_weigh 18 = .ok (.getfield 62, 3) := by decide +kernel
theorem dX5_weigh_21 : decode cX5_weigh 21 = .ok (.iand, 1) := by decide +kernel
theorem dX5_weigh_22 : decode cX5_weigh 22 = .ok (.aload_n 0, 1) := by decide +kernel
theorem dX5_weigh_23 : decode cX5_weigh 23 = .ok (.getfield 62, 3) := by decide +kernel
theorem dX5_weigh_26 : decode cX5_weigh 26 = .ok (.if_icmp .ne 15, 3) := by decide +kernel
theorem dX5_weigh_29 : decode cX5_weigh 29 = .ok (.aload_n 0, 1) := by decide +kernel
theorem dX5_weigh_30 : decode cX5_weigh 30 = .ok (.aload_n 0, 1) := by decide +kernel
theorem dX5_weigh_31 : decode cX5_weigh 31 = .ok (.getfield 71, 3) := by decide +kernel
theorem dX5_weigh_34 : decode cX5_weigh 34 = .ok (.iload_n 2, 1) := by decide +kernel
theorem dX5_weigh_35 : decode cX5_weigh 35 = .ok (.invokestatic 48, 3) := by decide +kernel
theorem dX5_weigh_38 : decode cX5_weigh 38 = .ok (.putfield 71, 3) := by decide +kernel
theorem dX5_weigh_41 : decode cX5_weigh 41 = .ok (.aload_n 1, 1) := by decide +kernel
theorem dX5_weigh_42 : decode cX5_weigh 42 = .ok (.getfield 98, 3) := by decide +kernel
theorem dX5_weigh_45 : decode cX5_weigh 45 = .ok (.aload_n 0, 1) := by decide +kernel
theorem dX5_weigh_46 : decode cX5_weigh 46 = .ok (.getfield 65, 3) := by decide +kernel
theorem dX5_weigh_49 : decode cX5_weigh 49 = .ok (.if_icmp .le 44, 3) := by decide +kernel
theorem dX5_weigh_52 : decode cX5_weigh 52 = .ok (.aload_n 0, 1) := by decide +kernel
theorem dX5_weigh_53 : decode cX5_weigh 53 = .ok (.aload_n 1, 1) := by decide +kernel
theorem dX5_weigh_54 : decode cX5_weigh 54 = .ok (.getfield 98, 3) := by decide +kernel
theorem dX5_weigh_57 : decode cX5_weigh 57 = .ok (.putfield 65, 3) := by decide +kernel
theorem dX5_weigh_60 : decode cX5_weigh 60 = .ok (.aload_n 0, 1) := by decide +kernel
theorem dX5_weigh_61 : decode cX5_weigh 61 = .ok (.iconst 0, 1) := by decide +kernel
theorem dX5_weigh_62 : decode cX5_weigh 62 = .ok (.putfield 68, 3) := by decide +kernel
theorem dX5_weigh_65 : decode cX5_weigh 65 = .ok (.iconst 0, 1) := by decide +kernel
theorem dX5_weigh_66 : decode cX5_weigh 66 = .ok (.istore_n 3, 1) := by decide +kernel
theorem dX5_weigh_67 : decode cX5_weigh 67 = .ok (.iload_n 3, 1) := by decide +kernel
theorem dX5_weigh_68 : decode cX5_weigh 68 = .ok (.aload_n 0, 1) := by decide +kernel
theorem dX5_weigh_69 : decode cX5_weigh 69 = .ok (.getfield 51, 3) := by decide +kernel
theorem dX5_weigh_72 : decode cX5_weigh 72 = .ok (.if_icmp .ge 21, 3) := by decide +kernel
theorem dX5_weigh_75 : decode cX5_weigh 75 = .ok (.aload_n 0, 1) := by decide +kernel
theorem dX5_weigh_76 : decode cX5_weigh 76 = .ok (.getfield 26, 3) := by decide +kernel
theorem dX5_weigh_79 : decode cX5_weigh 79 = .ok (.iload_n 3, 1) := by decide +kernel
theorem dX5_weigh_80 : decode cX5_weigh 80 = .ok (.aload_n 0, 1) := by decide +kernel
theorem dX5_weigh_81 : decode cX5_weigh 81 = .ok (.getfield 22, 3) := by decide +kernel
theorem dX5_weigh_84 : decode cX5_weigh 84 = .ok (.iload_n 3, 1) := by decide +kernel
theorem dX5_weigh_85 : decode cX5_weigh 85 = .ok (.iaload, 1) := by decide +kernel
theorem dX5_weigh_86 : decode cX5_weigh 86 = .ok (.iastore, 1) := by decide +kernel
theorem dX5_weigh_87 : decode cX5_weigh 87 = .ok (.iinc 3 1, 3) := by decide +kernel
theorem dX5_weigh_90 : decode cX5_weigh 90 = .ok (.goto (-23), 3) := by decide +kernel
theorem dX5_weigh_93 : decode cX5_weigh 93 = .ok (.aload_n 1, 1) := by decide +kernel
theorem dX5_weigh_94 : decode cX5_weigh 94 = .ok (.getfield 98, 3) := by decide +kernel
theorem dX5_weigh_97 : decode cX5_weigh 97 = .ok (.aload_n 0, 1) := by decide +kernel
theorem dX5_weigh_98 : decode cX5_weigh 98 = .ok (.getfield 65, 3) := by decide +kernel
theorem dX5_weigh_101 : decode cX5_weigh 101 = .ok (.if_icmp .ne 13, 3) := by decide +kernel
theorem dX5_weigh_104 : decode cX5_weigh 104 = .ok (.aload_n 0, 1) := by decide +kernel
theorem dX5_weigh_105 : decode cX5_weigh 105 = .ok (.dup, 1) := by decide +kernel
theorem dX5_weigh_106 : decode cX5_weigh 106 = .ok (.getfield 68, 3) := by decide +kernel
theorem dX5_weigh_109 : decode cX5_weigh 109 = .ok (.iconst 1, 1) := by decide +kernel
theorem dX5_weigh_110 : decode cX5_weigh 110 = .ok (.iadd, 1) := by decide +kernel
theorem dX5_weigh_111 : decode cX5_weigh 111 = .ok (.putfield 68, 3) := by decide +kernel
theorem dX5_weigh_114 : decode cX5_weigh 114 = .ok (.return_, 1) := by decide +kernel
def f5_weigh_b114  (r1 : Nat) (a2 : Int32)  (m : lu_M) : Option (lu_M) :=
  some m
set_option maxRecDepth 20000 in
theorem w5_weigh_b114  {G : lu_G} {ρ : Nat → Nat} {r1 : Nat} {a2 : Int32}  (X : lu_X G RX5 cX5_weigh 4 1 21) (hret : (lu_me G).sig.returnType = none) (hT_r1 : lu_TC.2 r1 = (6, 0, 0)) (hr_r1 : r1 < lu_TC.1)  : ∀  (m : lu_M), lu_Ab lu_TC G (lu_Q lu_TC G ρ lu_RVv lu_id) (f5_weigh_b114 r1 a2 m) 114 [] [] ρ 0 0 [] m := by
  intro  m
  unfold f5_weigh_b114
  exact lu_vret X hret dX5_weigh_114
def f5_weigh_b93  (r1 : Nat) (a2 : Int32)  (m : lu_M) : Option (lu_M) :=
  if (m r1 5) = (m 74 5) then (lu_nm (lu_st m 74 6 ((m 74 6) + (1 : Int32))) fun m2 =>
  f5_weigh_b114 r1 a2 m2)
  else (f5_weigh_b114 r1 a2 m)
set_option maxRecDepth 20000 in
theorem w5_weigh_b93  {G : lu_G} {ρ : Nat → Nat} {r1 : Nat} {a2 : Int32}  (X : lu_X G RX5 cX5_weigh 4 1 21) (hret : (lu_me G).sig.returnType = none) (hT_r1 : lu_TC.2 r1 = (6, 0, 0)) (hr_r1 : r1 < lu_TC.1)  : ∀  (m : lu_M), lu_Ab lu_TC G (lu_Q lu_TC G ρ lu_RVv lu_id) (f5_weigh_b93 r1 a2 m) 93 [(0, .ref (ρ 74)), (1, .ref (ρ r1))] [] ρ 0 0 [] m := by
  intro  m
  unfold f5_weigh_b93
  refine lu_aload_n X dX5_weigh_93 (pc2 := 94) rfl rfl 1 rfl ?_
  refine lu_get X fl5_98 rfl hT_r1 hr_r1 dX5_weigh_94 (pc2 := 97) rfl ?_
  refine lu_aload_n X dX5_weigh_97 (pc2 := 98) rfl rfl 0 rfl ?_
  refine lu_get X fl5_65 rfl kC_74 lC_74 dX5_weigh_98 (pc2 := 101) rfl ?_
  refine lu_icmp_ne (tgt := 114) X dX5_weigh_101 (pc2 := 104) rfl (by decide) (fun _ => ?_) (fun _ => ?_)
  · exact lu_sub [] rfl (w5_weigh_b114 X hret hT_r1 hr_r1 m)
  · refine lu_aload_n X dX5_weigh_104 (pc2 := 105) rfl rfl 0 rfl ?_
    refine lu_dup X dX5_weigh_105 (pc2 := 106) rfl rfl ?_
    refine lu_get X fl5_68 rfl kC_74 lC_74 dX5_weigh_106 (pc2 := 109) rfl ?_
    refine lu_iconst X dX5_weigh_109 (pc2 := 110) rfl ic_1 ?_
    refine lu_iadd X dX5_weigh_110 (pc2 := 111) rfl ?_
    refine lu_put X fl5_68 rfl (Or.inl (by decide)) rfl (by decide +kernel) kC_74 lC_74 dX5_weigh_111 (pc2 := 114) rfl (fun m2 => ?_)
    exact lu_sub [] rfl (w5_weigh_b114 X hret hT_r1 hr_r1 m2)
def f5_weigh_b67B (K93 : lu_M → Option (lu_M)) (rec : Int32 → lu_M → Option (lu_M)) (r1 : Nat) (a2 : Int32) (v3 : Int32) (m : lu_M) : Option (lu_M) :=
  if (m 74 4) ≤ v3 then (K93 m)
  else (lu_gd (lu_ib v3 4) <|
  lu_gd (lu_ib v3 4) <|
  lu_nm (lu_st m 82 v3.toNatClampNeg (m 81 v3.toNatClampNeg)) fun m5 =>
  rec (v3 + (1 : Int32)) m5)
def f5_weigh_b67 (K93 : lu_M → Option (lu_M)) (r1 : Nat) (a2 : Int32) : Nat → Int32 → lu_M → Option (lu_M)
  | 0, _, _ => none
  | n + 1, v3, m => f5_weigh_b67B K93 (f5_weigh_b67 K93 r1 a2 n) r1 a2 v3 m
set_option maxRecDepth 20000 in
theorem w5_weigh_b67B  {G : lu_G} {ρ : Nat → Nat} {r1 : Nat} {a2 : Int32} {K93 : lu_M → Option (lu_M)} {rec : Int32 → lu_M → Option (lu_M)} (X : lu_X G RX5 cX5_weigh 4 1 21) (hret : (lu_me G).sig.returnType = none) (hT_r1 : lu_TC.2 r1 = (6, 0, 0)) (hr_r1 : r1 < lu_TC.1) (hK93 : ∀  (m : lu_M), lu_Ab lu_TC G (lu_Q lu_TC G ρ lu_RVv lu_id) (K93 m) 93 [(0, .ref (ρ 74)), (1, .ref (ρ r1))] [] ρ 0 0 [] m) (hrec : ∀ (v3 : Int32) (m : lu_M), lu_Ab lu_TC G (lu_Q lu_TC G ρ lu_RVv lu_id) (rec v3 m) 67 [(0, .ref (ρ 74)), (1, .ref (ρ r1)), (3, .int v3)] [] ρ 0 0 [] m) : ∀ (v3 : Int32) (m : lu_M), lu_Ab lu_TC G (lu_Q lu_TC G ρ lu_RVv lu_id) (f5_weigh_b67B K93 rec r1 a2 v3 m) 67 [(0, .ref (ρ 74)), (1, .ref (ρ r1)), (3, .int v3)] [] ρ 0 0 [] m := by
  intro v3 m
  unfold f5_weigh_b67B
  refine lu_iload_n X dX5_weigh_67 (pc2 := 68) rfl rfl 2 rfl ?_
  refine lu_aload_n X dX5_weigh_68 (pc2 := 69) rfl rfl 0 rfl ?_
  refine lu_get X fl5_51 rfl kC_74 lC_74 dX5_weigh_69 (pc2 := 72) rfl ?_
  refine lu_icmp_ge (tgt := 93) X dX5_weigh_72 (pc2 := 75) rfl (by decide) (fun _ => ?_) (fun _ => ?_)
  · exact lu_sub [0, 1] rfl (hK93 m)
  · refine lu_aload_n X dX5_weigh_75 (pc2 := 76) rfl rfl 0 rfl ?_
    refine lu_getr (r2 := 82) X rfl fl5_26 rfl kC_74 lC_74 dX5_weigh_76 (pc2 := 79) rfl ?_
    refine lu_iload_n X dX5_weigh_79 (pc2 := 80) rfl rfl 2 rfl ?_
    refine lu_aload_n X dX5_weigh_80 (pc2 := 81) rfl rfl 0 rfl ?_
    refine lu_getr (r2 := 81) X rfl fl5_22 rfl kC_74 lC_74 dX5_weigh_81 (pc2 := 84) rfl ?_
    refine lu_iload_n X dX5_weigh_84 (pc2 := 85) rfl rfl 2 rfl ?_
    refine lu_iald X kC_81 lC_81 dX5_weigh_85 (pc2 := 86) rfl ?_
    refine lu_iast X kC_82 lC_82 dX5_weigh_86 (pc2 := 87) rfl (fun m5 => ?_)
    refine lu_iinc (lv2 := [(3, .int (v3 + (1 : Int32))), (0, .ref (ρ 74)), (1, .ref (ρ r1))]) X dX5_weigh_87 (pc2 := 90) rfl 2 rfl (lu_ii _ ic_1) (by decide) rfl ?_
    refine lu_goto (tgt := 67) X dX5_weigh_90 (by decide) ?_
    exact lu_sub [1, 2, 0] rfl (hrec (v3 + (1 : Int32)) m5)
theorem w5_weigh_b67  {G : lu_G} {ρ : Nat → Nat} {r1 : Nat} {a2 : Int32} {K93 : lu_M → Option (lu_M)} (X : lu_X G RX5 cX5_weigh 4 1 21) (hret : (lu_me G).sig.returnType = none) (hT_r1 : lu_TC.2 r1 = (6, 0, 0)) (hr_r1 : r1 < lu_TC.1) (hK93 : ∀  (m : lu_M), lu_Ab lu_TC G (lu_Q lu_TC G ρ lu_RVv lu_id) (K93 m) 93 [(0, .ref (ρ 74)), (1, .ref (ρ r1))] [] ρ 0 0 [] m) : ∀ (n : Nat) (v3 : Int32) (m : lu_M), lu_Ab lu_TC G (lu_Q lu_TC G ρ lu_RVv lu_id) (f5_weigh_b67 K93 r1 a2 n v3 m) 67 [(0, .ref (ρ 74)), (1, .ref (ρ r1)), (3, .int v3)] [] ρ 0 0 [] m := by
  intro n
  induction n with
  | zero => intro v3 m; exact lu_none
  | succ n ih => intro v3 m; exact w5_weigh_b67B X hret hT_r1 hr_r1 hK93 ih v3 m
def f5_weigh_b41  (r1 : Nat) (a2 : Int32)  (m : lu_M) : Option (lu_M) :=
  if (m r1 5) ≤ (m 74 5) then (f5_weigh_b93 r1 a2 m)
  else (lu_nm (lu_st m 74 5 (m r1 5)) fun m3 =>
  lu_nm (lu_st m3 74 6 (0 : Int32)) fun m4 =>
  f5_weigh_b67 (f5_weigh_b93 r1 a2) r1 a2 lu_fu (0 : Int32) m4)
set_option maxRecDepth 20000 in
theorem w5_weigh_b41  {G : lu_G} {ρ : Nat → Nat} {r1 : Nat} {a2 : Int32}  (X : lu_X G RX5 cX5_weigh 4 1 21) (hret : (lu_me G).sig.returnType = none) (hT_r1 : lu_TC.2 r1 = (6, 0, 0)) (hr_r1 : r1 < lu_TC.1)  : ∀  (m : lu_M), lu_Ab lu_TC G (lu_Q lu_TC G ρ lu_RVv lu_id) (f5_weigh_b41 r1 a2 m) 41 [(0, .ref (ρ 74)), (1, .ref (ρ r1))] [] ρ 0 0 [] m := by
  intro  m
  unfold f5_weigh_b41
  refine lu_aload_n X dX5_weigh_41 (pc2 := 42) rfl rfl 1 rfl ?_
  refine lu_get X fl5_98 rfl hT_r1 hr_r1 dX5_weigh_42 (pc2 := 45) rfl ?_
  refine lu_aload_n X dX5_weigh_45 (pc2 := 46) rfl rfl 0 rfl ?_
  refine lu_get X fl5_65 rfl kC_74 lC_74 dX5_weigh_46 (pc2 := 49) rfl ?_
  refine lu_icmp_le (tgt := 93) X dX5_weigh_49 (pc2 := 52) rfl (by decide) (fun _ => ?_) (fun _ => ?_)
  · exact w5_weigh_b93 X hret hT_r1 hr_r1 m
  · refine lu_aload_n X dX5_weigh_52 (pc2 := 53) rfl rfl 0 rfl ?_
    refine lu_aload_n X dX5_weigh_53 (pc2 := 54) rfl rfl 1 rfl ?_
    refine lu_get X fl5_98 rfl hT_r1 hr_r1 dX5_weigh_54 (pc2 := 57) rfl ?_
    refine lu_put X fl5_65 rfl (Or.inl (by decide)) rfl (by decide +kernel) kC_74 lC_74 dX5_weigh_57 (pc2 := 60) rfl (fun m3 => ?_)
    refine lu_aload_n X dX5_weigh_60 (pc2 := 61) rfl rfl 0 rfl ?_
    refine lu_iconst X dX5_weigh_61 (pc2 := 62) rfl ic_0 ?_
    refine lu_put X fl5_68 rfl (Or.inl (by decide)) rfl (by decide +kernel) kC_74 lC_74 dX5_weigh_62 (pc2 := 65) rfl (fun m4 => ?_)
    refine lu_iconst X dX5_weigh_65 (pc2 := 66) rfl ic_0 ?_
    refine lu_istore_n (lv2 := [(3, .int (0 : Int32)), (0, .ref (ρ 74)), (1, .ref (ρ r1))]) X dX5_weigh_66 (pc2 := 67) rfl rfl (by decide) rfl ?_
    exact lu_sub [1, 2, 0] rfl (w5_weigh_b67 X hret hT_r1 hr_r1 (w5_weigh_b93 X hret hT_r1 hr_r1) lu_fu (0 : Int32) m4)
def f5_weigh (r1 : Nat) (a2 : Int32) (m : lu_M) : Option (lu_M) :=
  lu_nm (lu_st m 74 9 ((m 74 9) ||| (m r1 1))) fun m1 =>
  if ((m1 r1 1) &&& (m1 74 3)) = (m1 74 3) then (lu_nm (lu_st m1 74 8 (if a2 < (m1 74 8) then a2 else (m1 74 8))) fun m6 =>
  f5_weigh_b41 r1 a2 m6)
  else (f5_weigh_b41 r1 a2 m1)
set_option maxRecDepth 20000 in
theorem c5_weigh (l : Launch) {r1 : Nat} (hT_r1 : lu_TC.2 r1 = (6, 0, 0)) (hr_r1 : r1 < lu_TC.1) (a2 : Int32) : lu_C lu_TC l yX5_weigh cX5_weigh 4 none 1 21 (fun ρ sa => [.ref (ρ 74), .ref (ρ r1), .int a2]) (f5_weigh r1 a2) lu_RVv lu_id := by
  refine lu_met (cls := RX5) rfl (by decide +kernel) (fun _ _ => Nat.le_of_ble_eq_true rfl) ?_
  intro G ρ m hl X hret
  subst hl
  change lu_Ab lu_TC G (lu_Q lu_TC G ρ lu_RVv lu_id) (f5_weigh r1 a2 m) 0 [(0, .ref (ρ 74)), (1, .ref (ρ r1)), (2, .int a2)] [] ρ 0 0 [] m
  unfold f5_weigh
  refine lu_aload_n X dX5_weigh_0 (pc2 := 1) rfl rfl 0 rfl ?_
  refine lu_dup X dX5_weigh_1 (pc2 := 2) rfl rfl ?_
  refine lu_get X fl5_74 rfl kC_74 lC_74 dX5_weigh_2 (pc2 := 5) rfl ?_
  refine lu_aload_n X dX5_weigh_5 (pc2 := 6) rfl rfl 1 rfl ?_
  refine lu_get X fl5_95 rfl hT_r1 hr_r1 dX5_weigh_6 (pc2 := 9) rfl ?_
  refine lu_ior X dX5_weigh_9 (pc2 := 10) rfl ?_
  refine lu_put X fl5_74 rfl (Or.inl (by decide)) rfl (by decide +kernel) kC_74 lC_74 dX5_weigh_10 (pc2 := 13) rfl (fun m1 => ?_)
  refine lu_aload_n X dX5_weigh_13 (pc2 := 14) rfl rfl 1 rfl ?_
  refine lu_get X fl5_95 rfl hT_r1 hr_r1 dX5_weigh_14 (pc2 := 17) rfl ?_
  refine lu_aload_n X dX5_weigh_17 (pc2 := 18) rfl rfl 0 rfl ?_
  refine lu_get X fl5_62 rfl kC_74 lC_74 dX5_weigh_18 (pc2 := 21) rfl ?_
  refine lu_iand X dX5_weigh_21 (pc2 := 22) rfl ?_
  refine lu_aload_n X dX5_weigh_22 (pc2 := 23) rfl rfl 0 rfl ?_
  refine lu_get X fl5_62 rfl kC_74 lC_74 dX5_weigh_23 (pc2 := 26) rfl ?_
  refine lu_icmp_ne (tgt := 41) X dX5_weigh_26 (pc2 := 29) rfl (by decide) (fun _ => ?_) (fun _ => ?_)
  · exact lu_sub [0, 1] rfl (w5_weigh_b41 X hret hT_r1 hr_r1 m1)
  · refine lu_aload_n X dX5_weigh_29 (pc2 := 30) rfl rfl 0 rfl ?_
    refine lu_aload_n X dX5_weigh_30 (pc2 := 31) rfl rfl 0 rfl ?_
    refine lu_get X fl5_71 rfl kC_74 lC_74 dX5_weigh_31 (pc2 := 34) rfl ?_
    refine lu_iload_n X dX5_weigh_34 (pc2 := 35) rfl rfl 2 rfl ?_
    refine lu_mmin X ml_839 st_min in_Math co_min (Nat.le_of_ble_eq_true rfl) (Nat.le_of_ble_eq_true rfl) (Nat.le_of_ble_eq_true rfl) ⟨Nat.zero_le _, Nat.zero_le _⟩ dX5_weigh_35 (pc2 := 38) rfl ?_
    refine lu_put X fl5_71 rfl (Or.inl (by decide)) rfl (by decide +kernel) kC_74 lC_74 dX5_weigh_38 (pc2 := 41) rfl (fun m6 => ?_)
    exact lu_sub [0, 1] rfl (w5_weigh_b41 X hret hT_r1 hr_r1 m6)

theorem dX5_tryFrom_0 : decode cX5_tryFrom 0 = .ok (.iload_n 1, 1) := by decide +kernel
theorem dX5_tryFrom_1 : decode cX5_tryFrom 1 = .ok (.aload_n 0, 1) := by decide +kernel
theorem dX5_tryFrom_2 : decode cX5_tryFrom 2 = .ok (.getfield 51, 3) := by decide +kernel
theorem dX5_tryFrom_5 : decode cX5_tryFrom 5 = .ok (.if_icmp .lt 18, 3) := by decide +kernel
theorem dX5_tryFrom_8 : decode cX5_tryFrom 8 = .ok (.aload_n 0, 1) := by decide +kernel
theorem dX5_tryFrom_9 : decode cX5_tryFrom 9 = .ok (.aload_n 0, 1) := by decide +kernel
theorem dX5_tryFrom_10 : decode cX5_tryFrom 10 = .ok (.getfield 17, 3) := by decide +kernel
theorem dX5_tryFrom_13 : decode cX5_tryFrom 13 = .ok (.aload_n 0, 1) := by decide +kernel
theorem dX5_tryFrom_14 : decode cX5_tryFrom 14 = .ok (.getfield 51, 3) := by decide +kernel
theorem dX5_tryFrom_17 : decode cX5_tryFrom 17 = .ok (.aaload, 1) := by decide +kernel
theorem dX5_tryFrom_18 : decode cX5_tryFrom 18 = .ok (.iload_n 2, 1) := by decide +kernel
theorem dX5_tryFrom_19 : decode cX5_tryFrom 19 = .ok (.invokevirtual 81, 3) := by decide +kernel
theorem dX5_tryFrom_22 : decode cX5_tryFrom 22 = .ok (.return_, 1) := by decide +kernel
theorem dX5_tryFrom_23 : decode cX5_tryFrom 23 = .ok (.iconst 0, 1) := by decide +kernel
theorem dX5_tryFrom_24 : decode cX5_tryFrom 24 = .ok (.istore_n 3, 1) := by decide +kernel
theorem dX5_tryFrom_25 : decode cX5_tryFrom 25 = .ok (.iload_n 3, 1) := by decide +kernel
theorem dX5_tryFrom_26 : decode cX5_tryFrom 26 = .ok (.aload_n 0, 1) := by decide +kernel
theorem dX5_tryFrom_27 : decode cX5_tryFrom 27 = .ok (.getfield 9, 3) := by decide +kernel
theorem dX5_tryFrom_30 : decode cX5_tryFrom 30 = .ok (.getfield 85, 3) := by decide +kernel
theorem dX5_tryFrom_33 : decode cX5_tryFrom 33 = .ok (.if_icmp .gt 68, 3) := by decide +kernel
theorem dX5_tryFrom_36 : decode cX5_tryFrom 36 = .ok (.aload_n 0, 1) := by decide +kernel
theorem dX5_tryFrom_37 : decode cX5_tryFrom 37 = .ok (.getfield 22, 3) := by decide +kernel
theorem dX5_tryFrom_40 : decode cX5_tryFrom 40 = .ok (.iload_n 1, 1) := by decide +kernel
theorem dX5_tryFrom_41 : decode cX5_tryFrom 41 = .ok (.iload_n 3, 1) := by decide +kernel
theorem dX5_tryFrom_42 : decode cX5_tryFrom 42 = .ok (.iastore, 1) := by decide +kernel
theorem dX5_tryFrom_43 : decode cX5_tryFrom 43 = .ok (.aload_n 0, 1) := by decide +kernel
theorem dX5_tryFrom_44 : decode cX5_tryFrom 44 = .ok (.getfield 17, 3) := by decide +kernel
theorem dX5_tryFrom_47 : decode cX5_tryFrom 47 = .ok (.iload_n 1, 1) := by decide +kernel
theorem dX5_tryFrom_48 : decode cX5_tryFrom 48 = .ok (.iconst 1, 1) := by decide +kernel
theorem dX5_tryFrom_49 : decode cX5_tryFrom 49 = .ok (.iadd, 1) := by decide +kernel
theorem dX5_tryFrom_50 : decode cX5_tryFrom 50 = .ok (.aaload, 1) := by decide +kernel
theorem dX5_tryFrom_51 : decode cX5_tryFrom 51 = .ok (.aload_n 0, 1) := by decide +kernel
theorem dX5_tryFrom_52 : decode cX5_tryFrom 52 = .ok (.getfield 17, 3) := by decide +kernel
theorem dX5_tryFrom_55 : decode cX5_tryFrom 55 = .ok (.iload_n 1, 1) := by decide +kernel
theorem dX5_tryFrom_56 : decode cX5_tryFrom 56 = .ok (.aaload, 1) := by decide +kernel
theorem dX5_tryFrom_57 : decode cX5_tryFrom 57 = .ok (.invokevirtual 88, 3) := by decide +kernel
theorem dX5_tryFrom_60 : decode cX5_tryFrom 60 = .ok (.aload_n 0, 1) := by decide +kernel
theorem dX5_tryFrom_61 : decode cX5_tryFrom 61 = .ok (.getfield 9, 3) := by decide +kernel
theorem dX5_tryFrom_64 : decode cX5_tryFrom 64 = .ok (.aload_n 0, 1) := by decide +kernel
theorem dX5_tryFrom_65 : decode cX5_tryFrom 65 = .ok (.getfield 17, 3) := by decide +kernel
theorem dX5_tryFrom_68 : decode cX5_tryFrom 68 = .ok (.iload_n 1, 1) := by decide +kernel
theorem dX5_tryFrom_69 : decode cX5_tryFrom 69 = .ok (.iconst 1, 1) := by decide +kernel
theorem dX5_tryFrom_70 : decode cX5_tryFrom 70 = .ok (.iadd, 1) := by decide +kernel
theorem dX5_tryFrom_71 : decode cX5_tryFrom 71 = .ok (.aaload, 1) := by decide +kernel
theorem dX5_tryFrom_72 : decode cX5_tryFrom 72 = .ok (.iload_n 3, 1) := by decide +kernel
theorem dX5_tryFrom_73 : decode cX5_tryFrom 73 = .ok (.invokevirtual 91, 3) := by decide +kernel
theorem dX5_tryFrom_76 : decode cX5_tryFrom 76 = .ok (.pop, 1) := by decide +kernel
theorem dX5_tryFrom_77 : decode cX5_tryFrom 77 = .ok (.aload_n 0, 1) := by decide +kernel
theorem dX5_tryFrom_78 : decode cX5_tryFrom 78 = .ok (.iload_n 1, 1) := by decide +kernel
theorem dX5_tryFrom_79 : decode cX5_tryFrom 79 = .ok (.iconst 1, 1) := by decide +kernel
theorem dX5_tryFrom_80 : decode cX5_tryFrom 80 = .ok (.iadd, 1) := by decide +kernel
theorem dX5_tryFrom_81 : decode cX5_tryFrom 81 = .ok (.iload_n 3, 1) := by decide +kernel
theorem dX5_tryFrom_82 : decode cX5_tryFrom 82 = .ok (.ifCond .ne 7, 3) := by decide +kernel
theorem dX5_tryFrom_85 : decode cX5_tryFrom 85 = .ok (.iload_n 2, 1) := by decide +kernel
theorem dX5_tryFrom_86 : decode cX5_tryFrom 86 = .ok (.goto 6, 3) := by decide +kernel
theorem dX5_tryFrom_89 : decode cX5_tryFrom 89 = .ok (.iload_n 2, 1) := by decide +kernel
theorem dX5_tryFrom_90 : decode cX5_tryFrom 90 = .ok (.iconst 1, 1) := by decide +kernel
theorem dX5_tryFrom_91 : decode cX5_tryFrom 91 = .ok (.iadd, 1) := by decide +kernel
theorem dX5_tryFrom_92 : decode cX5_tryFrom 92 = .ok (.invokevirtual 77, 3) := by decide +kernel
theorem dX5_tryFrom_95 : decode cX5_tryFrom 95 = .ok (.iinc 3 1, 3) := by decide +kernel
theorem dX5_tryFrom_98 : decode cX5_tryFrom 98 = .ok (.goto (-73), 3) := by decide +kernel
theorem dX5_tryFrom_101 : decode cX5_tryFrom 101 = .ok (.return_, 1) := by decide +kernel
def f5_tryFrom_b92 (K25 : Int32 → lu_M → Option (lu_M)) (K101 : lu_M → Option (lu_M)) (rc : Int32 → Int32 → lu_M → Option (lu_M)) (a1 : Int32) (a2 : Int32) (v3 : Int32) (s0 : Int32) (s1 : Int32) (m : lu_M) : Option (lu_M) :=
  lu_bv (rc s1 s0 m) fun m8 =>
  K25 (v3 + (1 : Int32)) m8
set_option maxRecDepth 20000 in
theorem w5_tryFrom_b92 {rc : Int32 → Int32 → lu_M → Option (lu_M)} {frc loc : Nat}  {G : lu_G} {ρ : Nat → Nat} {a1 : Int32} {a2 : Int32} {K25 : Int32 → lu_M → Option (lu_M)} {K101 : lu_M → Option (lu_M)} (X : lu_X G RX5 cX5_tryFrom 4 (frc + 5) (loc + 122)) (hret : (lu_me G).sig.returnType = none) (hrc : ∀ (b0 : Int32) (b1 : Int32), lu_C lu_TC (lu_l G) yX5_tryFrom cX5_tryFrom 4 none frc loc (fun ρ _ => [.ref (ρ 74), .int b0, .int b1]) (fun m => rc b0 b1 m) lu_RVv lu_id)  (hK25 : ∀ (v3 : Int32) (m : lu_M), lu_Ab lu_TC G (lu_Q lu_TC G ρ lu_RVv lu_id) (K25 v3 m) 25 [(0, .ref (ρ 74)), (1, .int a1), (2, .int a2), (3, .int v3)] [] ρ 0 0 [] m) (hK101 : ∀  (m : lu_M), lu_Ab lu_TC G (lu_Q lu_TC G ρ lu_RVv lu_id) (K101 m) 101 [] [] ρ 0 0 [] m) : ∀ (v3 : Int32) (s0 : Int32) (s1 : Int32) (m : lu_M), lu_Ab lu_TC G (lu_Q lu_TC G ρ lu_RVv lu_id) (f5_tryFrom_b92 K25 K101 rc a1 a2 v3 s0 s1 m) 92 [(0, .ref (ρ 74)), (1, .int a1), (2, .int a2), (3, .int v3)] [.int s0, .int s1, .ref (ρ 74)] ρ 0 0 [] m := by
  intro v3 s0 s1 m
  unfold f5_tryFrom_b92
  refine lu_invVv X (hrc s1 s0) rfl q843 mvV_5_tryFrom kC_74 lC_74 (by decide) ⟨_, rfl, rfl⟩ rfl rfl (Nat.le_of_ble_eq_true rfl) (by omega) (by omega) ⟨Nat.zero_le _, Nat.zero_le _⟩ dX5_tryFrom_92 (pc2 := 95) rfl rfl (fun m8 => ?_)
  refine lu_iinc (lv2 := [(3, .int (v3 + (1 : Int32))), (0, .ref (ρ 74)), (1, .int a1), (2, .int a2)]) X dX5_tryFrom_95 (pc2 := 98) rfl 3 rfl (lu_ii _ ic_1) (by decide) rfl ?_
  refine lu_goto (tgt := 25) X dX5_tryFrom_98 (by decide) ?_
  exact lu_sub [1, 2, 3, 0] rfl (hK25 (v3 + (1 : Int32)) m8)
def f5_tryFrom_b25B (K101 : lu_M → Option (lu_M)) (rc : Int32 → Int32 → lu_M → Option (lu_M)) (rec : Int32 → lu_M → Option (lu_M)) (a1 : Int32) (a2 : Int32) (v3 : Int32) (m : lu_M) : Option (lu_M) :=
  if (m 1 0) < v3 then (K101 m)
  else (lu_gd (lu_ib a1 4) <|
  lu_nm (lu_st m 81 a1.toNatClampNeg v3) fun m1 =>
  lu_gd (lu_ib (a1 + (1 : Int32)) 5) <|
  lu_gd (lu_ib a1 5) <|
  lu_bv (f1_copy (75 + 1 + (a1 + (1 : Int32)).toNatClampNeg) (75 + 1 + a1.toNatClampNeg) m1) fun m4 =>
  lu_gd (lu_ib (a1 + (1 : Int32)) 5) <|
  lu_bi (f10_pass 1 (75 + 1 + (a1 + (1 : Int32)).toNatClampNeg) v3 m4) fun x6 m7 =>
  if v3 = 0 then (f5_tryFrom_b92 rec K101 rc a1 a2 v3 a2 (a1 + (1 : Int32)) m7)
  else (f5_tryFrom_b92 rec K101 rc a1 a2 v3 (a2 + (1 : Int32)) (a1 + (1 : Int32)) m7))
def f5_tryFrom_b25 (K101 : lu_M → Option (lu_M)) (rc : Int32 → Int32 → lu_M → Option (lu_M)) (a1 : Int32) (a2 : Int32) : Nat → Int32 → lu_M → Option (lu_M)
  | 0, _, _ => none
  | n + 1, v3, m => f5_tryFrom_b25B K101 rc (f5_tryFrom_b25 K101 rc a1 a2 n) a1 a2 v3 m
set_option maxRecDepth 20000 in
theorem w5_tryFrom_b25B {rc : Int32 → Int32 → lu_M → Option (lu_M)} {frc loc : Nat}  {G : lu_G} {ρ : Nat → Nat} {a1 : Int32} {a2 : Int32} {K101 : lu_M → Option (lu_M)} {rec : Int32 → lu_M → Option (lu_M)} (X : lu_X G RX5 cX5_tryFrom 4 (frc + 5) (loc + 122)) (hret : (lu_me G).sig.returnType = none) (hrc : ∀ (b0 : Int32) (b1 : Int32), lu_C lu_TC (lu_l G) yX5_tryFrom cX5_tryFrom 4 none frc loc (fun ρ _ => [.ref (ρ 74), .int b0, .int b1]) (fun m => rc b0 b1 m) lu_RVv lu_id)  (hK101 : ∀  (m : lu_M), lu_Ab lu_TC G (lu_Q lu_TC G ρ lu_RVv lu_id) (K101 m) 101 [] [] ρ 0 0 [] m) (hrec : ∀ (v3 : Int32) (m : lu_M), lu_Ab lu_TC G (lu_Q lu_TC G ρ lu_RVv lu_id) (rec v3 m) 25 [(0, .ref (ρ 74)), (1, .int a1), (2, .int a2), (3, .int v3)] [] ρ 0 0 [] m) : ∀ (v3 : Int32) (m : lu_M), lu_Ab lu_TC G (lu_Q lu_TC G ρ lu_RVv lu_id) (f5_tryFrom_b25B K101 rc rec a1 a2 v3 m) 25 [(0, .ref (ρ 74)), (1, .int a1), (2, .int a2), (3, .int v3)] [] ρ 0 0 [] m := by
  intro v3 m
  unfold f5_tryFrom_b25B
  refine lu_iload_n X dX5_tryFrom_25 (pc2 := 26) rfl rfl 3 rfl ?_
  refine lu_aload_n X dX5_tryFrom_26 (pc2 := 27) rfl rfl 0 rfl ?_
  refine lu_getr (r2 := 1) X rfl fl5_9 rfl kC_74 lC_74 dX5_tryFrom_27 (pc2 := 30) rfl ?_
  refine lu_get X fl5_85 rfl kC_1 lC_1 dX5_tryFrom_30 (pc2 := 33) rfl ?_
  refine lu_icmp_gt (tgt := 101) X dX5_tryFrom_33 (pc2 := 36) rfl (by decide) (fun _ => ?_) (fun _ => ?_)
  · exact lu_sub [] rfl (hK101 m)
  · refine lu_aload_n X dX5_tryFrom_36 (pc2 := 37) rfl rfl 0 rfl ?_
    refine lu_getr (r2 := 81) X rfl fl5_22 rfl kC_74 lC_74 dX5_tryFrom_37 (pc2 := 40) rfl ?_
    refine lu_iload_n X dX5_tryFrom_40 (pc2 := 41) rfl rfl 1 rfl ?_
    refine lu_iload_n X dX5_tryFrom_41 (pc2 := 42) rfl rfl 3 rfl ?_
    refine lu_iast X kC_81 lC_81 dX5_tryFrom_42 (pc2 := 43) rfl (fun m1 => ?_)
    refine lu_aload_n X dX5_tryFrom_43 (pc2 := 44) rfl rfl 0 rfl ?_
    refine lu_getr (r2 := 75) X rfl fl5_17 rfl kC_74 lC_74 dX5_tryFrom_44 (pc2 := 47) rfl ?_
    refine lu_iload_n X dX5_tryFrom_47 (pc2 := 48) rfl rfl 1 rfl ?_
    refine lu_iconst X dX5_tryFrom_48 (pc2 := 49) rfl ic_1 ?_
    refine lu_iadd X dX5_tryFrom_49 (pc2 := 50) rfl ?_
    refine lu_aald X rfl rfl (by decide) (by decide) kC_75 lC_75 dX5_tryFrom_50 (pc2 := 51) rfl (fun g2 => ?_)
    refine lu_aload_n X dX5_tryFrom_51 (pc2 := 52) rfl rfl 0 rfl ?_
    refine lu_getr (r2 := 75) X rfl fl5_17 rfl kC_74 lC_74 dX5_tryFrom_52 (pc2 := 55) rfl ?_
    refine lu_iload_n X dX5_tryFrom_55 (pc2 := 56) rfl rfl 1 rfl ?_
    refine lu_aald X rfl rfl (by decide) (by decide) kC_75 lC_75 dX5_tryFrom_56 (pc2 := 57) rfl (fun g3 => ?_)
    refine lu_invVv X (c1_copy _ ((kaC_2_5_0 kC_75 lC_75 g2).1) ((kaC_2_5_0 kC_75 lC_75 g2).2) ((kaC_2_5_0 kC_75 lC_75 g3).1) ((kaC_2_5_0 kC_75 lC_75 g3).2)) rfl q851 mvV_1_copy ((kaC_2_5_0 kC_75 lC_75 g2).1) ((kaC_2_5_0 kC_75 lC_75 g2).2) (by decide) ⟨_, rfl, rfl⟩ rfl rfl (Nat.le_of_ble_eq_true rfl) (by omega) (by omega) ⟨Nat.zero_le _, Nat.zero_le _⟩ dX5_tryFrom_57 (pc2 := 60) rfl rfl (fun m4 => ?_)
    refine lu_aload_n X dX5_tryFrom_60 (pc2 := 61) rfl rfl 0 rfl ?_
    refine lu_getr (r2 := 1) X rfl fl5_9 rfl kC_74 lC_74 dX5_tryFrom_61 (pc2 := 64) rfl ?_
    refine lu_aload_n X dX5_tryFrom_64 (pc2 := 65) rfl rfl 0 rfl ?_
    refine lu_getr (r2 := 75) X rfl fl5_17 rfl kC_74 lC_74 dX5_tryFrom_65 (pc2 := 68) rfl ?_
    refine lu_iload_n X dX5_tryFrom_68 (pc2 := 69) rfl rfl 1 rfl ?_
    refine lu_iconst X dX5_tryFrom_69 (pc2 := 70) rfl ic_1 ?_
    refine lu_iadd X dX5_tryFrom_70 (pc2 := 71) rfl ?_
    refine lu_aald X rfl rfl (by decide) (by decide) kC_75 lC_75 dX5_tryFrom_71 (pc2 := 72) rfl (fun g5 => ?_)
    refine lu_iload_n X dX5_tryFrom_72 (pc2 := 73) rfl rfl 3 rfl ?_
    refine lu_invVi X (c10_pass _ kC_1 lC_1 ((kaC_2_5_0 kC_75 lC_75 g5).1) ((kaC_2_5_0 kC_75 lC_75 g5).2) v3) rfl q852 mvV_10_pass kC_1 lC_1 (by decide) ⟨_, rfl, rfl⟩ rfl rfl (Nat.le_of_ble_eq_true rfl) (by omega) (by omega) ⟨Nat.zero_le _, Nat.zero_le _⟩ dX5_tryFrom_73 (pc2 := 76) rfl rfl (fun x6 m7 => ?_)
    refine lu_pop X dX5_tryFrom_76 (pc2 := 77) rfl rfl ?_
    refine lu_aload_n X dX5_tryFrom_77 (pc2 := 78) rfl rfl 0 rfl ?_
    refine lu_iload_n X dX5_tryFrom_78 (pc2 := 79) rfl rfl 1 rfl ?_
    refine lu_iconst X dX5_tryFrom_79 (pc2 := 80) rfl ic_1 ?_
    refine lu_iadd X dX5_tryFrom_80 (pc2 := 81) rfl ?_
    refine lu_iload_n X dX5_tryFrom_81 (pc2 := 82) rfl rfl 3 rfl ?_
    refine lu_if_ne (tgt := 89) X dX5_tryFrom_82 (pc2 := 85) rfl (by decide) (fun _ => ?_) (fun _ => ?_)
    · refine lu_iload_n X dX5_tryFrom_89 (pc2 := 90) rfl rfl 2 rfl ?_
      refine lu_iconst X dX5_tryFrom_90 (pc2 := 91) rfl ic_1 ?_
      refine lu_iadd X dX5_tryFrom_91 (pc2 := 92) rfl ?_
      exact w5_tryFrom_b92 X hret hrc hrec hK101 v3 (a2 + (1 : Int32)) (a1 + (1 : Int32)) m7
    · refine lu_iload_n X dX5_tryFrom_85 (pc2 := 86) rfl rfl 2 rfl ?_
      refine lu_goto (tgt := 92) X dX5_tryFrom_86 (by decide) ?_
      exact w5_tryFrom_b92 X hret hrc hrec hK101 v3 a2 (a1 + (1 : Int32)) m7
theorem w5_tryFrom_b25 {rc : Int32 → Int32 → lu_M → Option (lu_M)} {frc loc : Nat}  {G : lu_G} {ρ : Nat → Nat} {a1 : Int32} {a2 : Int32} {K101 : lu_M → Option (lu_M)} (X : lu_X G RX5 cX5_tryFrom 4 (frc + 5) (loc + 122)) (hret : (lu_me G).sig.returnType = none) (hrc : ∀ (b0 : Int32) (b1 : Int32), lu_C lu_TC (lu_l G) yX5_tryFrom cX5_tryFrom 4 none frc loc (fun ρ _ => [.ref (ρ 74), .int b0, .int b1]) (fun m => rc b0 b1 m) lu_RVv lu_id)  (hK101 : ∀  (m : lu_M), lu_Ab lu_TC G (lu_Q lu_TC G ρ lu_RVv lu_id) (K101 m) 101 [] [] ρ 0 0 [] m) : ∀ (n : Nat) (v3 : Int32) (m : lu_M), lu_Ab lu_TC G (lu_Q lu_TC G ρ lu_RVv lu_id) (f5_tryFrom_b25 K101 rc a1 a2 n v3 m) 25 [(0, .ref (ρ 74)), (1, .int a1), (2, .int a2), (3, .int v3)] [] ρ 0 0 [] m := by
  intro n
  induction n with
  | zero => intro v3 m; exact lu_none
  | succ n ih => intro v3 m; exact w5_tryFrom_b25B X hret hrc hK101 ih v3 m
def f5_tryFrom_b101  (rc : Int32 → Int32 → lu_M → Option (lu_M)) (a1 : Int32) (a2 : Int32)  (m : lu_M) : Option (lu_M) :=
  some m
set_option maxRecDepth 20000 in
theorem w5_tryFrom_b101 {rc : Int32 → Int32 → lu_M → Option (lu_M)} {frc loc : Nat}  {G : lu_G} {ρ : Nat → Nat} {a1 : Int32} {a2 : Int32}  (X : lu_X G RX5 cX5_tryFrom 4 (frc + 5) (loc + 122)) (hret : (lu_me G).sig.returnType = none) (hrc : ∀ (b0 : Int32) (b1 : Int32), lu_C lu_TC (lu_l G) yX5_tryFrom cX5_tryFrom 4 none frc loc (fun ρ _ => [.ref (ρ 74), .int b0, .int b1]) (fun m => rc b0 b1 m) lu_RVv lu_id)   : ∀  (m : lu_M), lu_Ab lu_TC G (lu_Q lu_TC G ρ lu_RVv lu_id) (f5_tryFrom_b101 rc a1 a2 m) 101 [] [] ρ 0 0 [] m := by
  intro  m
  unfold f5_tryFrom_b101
  exact lu_vret X hret dX5_tryFrom_101
def f5_tryFromO (rc : Int32 → Int32 → lu_M → Option (lu_M)) (a1 : Int32) (a2 : Int32) (m : lu_M) : Option (lu_M) :=
  if a1 < (m 74 4) then (f5_tryFrom_b25 (f5_tryFrom_b101 rc a1 a2) rc a1 a2 lu_fu (0 : Int32) m)
  else (lu_gd (lu_ib (m 74 4) 5) <|
  lu_bv (f5_weigh (75 + 1 + (m 74 4).toNatClampNeg) a2 m) fun m10 =>
  some m10)
set_option maxRecDepth 20000 in
theorem c5_tryFromO {rc : Int32 → Int32 → lu_M → Option (lu_M)} {frc loc : Nat} (l : Launch) (hrc : ∀ (b0 : Int32) (b1 : Int32), lu_C lu_TC (l) yX5_tryFrom cX5_tryFrom 4 none frc loc (fun ρ _ => [.ref (ρ 74), .int b0, .int b1]) (fun m => rc b0 b1 m) lu_RVv lu_id)   (a1 : Int32) (a2 : Int32) : lu_C lu_TC l yX5_tryFrom cX5_tryFrom 4 none (frc + 5) (loc + 122) (fun ρ sa => [.ref (ρ 74), .int a1, .int a2]) (f5_tryFromO rc a1 a2) lu_RVv lu_id := by
  refine lu_met (cls := RX5) rfl (by decide +kernel) (fun _ _ => Nat.le_of_ble_eq_true rfl) ?_
  intro G ρ m hl X hret
  subst hl
  change lu_Ab lu_TC G (lu_Q lu_TC G ρ lu_RVv lu_id) (f5_tryFromO rc a1 a2 m) 0 [(0, .ref (ρ 74)), (1, .int a1), (2, .int a2)] [] ρ 0 0 [] m
  unfold f5_tryFromO
  refine lu_iload_n X dX5_tryFrom_0 (pc2 := 1) rfl rfl 1 rfl ?_
  refine lu_aload_n X dX5_tryFrom_1 (pc2 := 2) rfl rfl 0 rfl ?_
  refine lu_get X fl5_51 rfl kC_74 lC_74 dX5_tryFrom_2 (pc2 := 5) rfl ?_
  refine lu_icmp_lt (tgt := 23) X dX5_tryFrom_5 (pc2 := 8) rfl (by decide) (fun _ => ?_) (fun _ => ?_)
  · refine lu_iconst X dX5_tryFrom_23 (pc2 := 24) rfl ic_0 ?_
    refine lu_istore_n (lv2 := [(3, .int (0 : Int32)), (0, .ref (ρ 74)), (1, .int a1), (2, .int a2)]) X dX5_tryFrom_24 (pc2 := 25) rfl rfl (by decide) rfl ?_
    exact lu_sub [1, 2, 3, 0] rfl (w5_tryFrom_b25 X hret hrc (w5_tryFrom_b101 X hret hrc) lu_fu (0 : Int32) m)
  · refine lu_aload_n X dX5_tryFrom_8 (pc2 := 9) rfl rfl 0 rfl ?_
    refine lu_aload_n X dX5_tryFrom_9 (pc2 := 10) rfl rfl 0 rfl ?_
    refine lu_getr (r2 := 75) X rfl fl5_17 rfl kC_74 lC_74 dX5_tryFrom_10 (pc2 := 13) rfl ?_
    refine lu_aload_n X dX5_tryFrom_13 (pc2 := 14) rfl rfl 0 rfl ?_
    refine lu_get X fl5_51 rfl kC_74 lC_74 dX5_tryFrom_14 (pc2 := 17) rfl ?_
    refine lu_aald X rfl rfl (by decide) (by decide) kC_75 lC_75 dX5_tryFrom_17 (pc2 := 18) rfl (fun g9 => ?_)
    refine lu_iload_n X dX5_tryFrom_18 (pc2 := 19) rfl rfl 2 rfl ?_
    refine lu_invVv X (c5_weigh _ ((kaC_2_5_0 kC_75 lC_75 g9).1) ((kaC_2_5_0 kC_75 lC_75 g9).2) a2) rfl q847 mvV_5_weigh kC_74 lC_74 (by decide) ⟨_, rfl, rfl⟩ rfl rfl (Nat.le_of_ble_eq_true rfl) (by omega) (by omega) ⟨Nat.zero_le _, Nat.zero_le _⟩ dX5_tryFrom_19 (pc2 := 22) rfl rfl (fun m10 => ?_)
    exact lu_vret X hret dX5_tryFrom_22
def f5_tryFrom : Nat → Int32 → Int32 → lu_M → Option (lu_M)
  | 0, _, _, _ => none
  | d + 1, b0, b1, m => f5_tryFromO (f5_tryFrom d) b0 b1 m
theorem c5_tryFrom (l : Launch) : ∀ (d : Nat) (b0 : Int32) (b1 : Int32), lu_C lu_TC l yX5_tryFrom cX5_tryFrom 4 none (5 * d) (122 * d) (fun ρ _ => [.ref (ρ 74), .int b0, .int b1]) (fun m => f5_tryFrom d b0 b1 m) lu_RVv lu_id := by
  intro d
  induction d with
  | zero => intro b0 b1 D cs ρ m sa sz b h; cases h
  | succ d ih => intro b0 b1; exact c5_tryFromO (frc := 5 * d) (loc := 122 * d) l ih b0 b1

theorem dX5_tryAll_0 : decode cX5_tryAll 0 = .ok (.aload_n 0, 1) := by decide +kernel
theorem dX5_tryAll_1 : decode cX5_tryAll 1 = .ok (.iload_n 1, 1) := by decide +kernel
theorem dX5_tryAll_2 : decode cX5_tryAll 2 = .ok (.invokevirtual 58, 3) := by decide +kernel
theorem dX5_tryAll_5 : decode cX5_tryAll 5 = .ok (.aload_n 0, 1) := by decide +kernel
theorem dX5_tryAll_6 : decode cX5_tryAll 6 = .ok (.iload_n 2, 1) := by decide +kernel
theorem dX5_tryAll_7 : decode cX5_tryAll 7 = .ok (.putfield 62, 3) := by decide +kernel
theorem dX5_tryAll_10 : decode cX5_tryAll 10 = .ok (.aload_n 0, 1) := by decide +kernel
theorem dX5_tryAll_11 : decode cX5_tryAll 11 = .ok (.iconst (-1), 1) := by decide +kernel
theorem dX5_tryAll_12 : decode cX5_tryAll 12 = .ok (.putfield 65, 3) := by decide +kernel
theorem dX5_tryAll_15 : decode cX5_tryAll 15 = .ok (.aload_n 0, 1) := by decide +kernel
theorem dX5_tryAll_16 : decode cX5_tryAll 16 = .ok (.iconst 0, 1) := by decide +kernel
theorem dX5_tryAll_17 : decode cX5_tryAll 17 = .ok (.putfield 68, 3) := by decide +kernel
theorem dX5_tryAll_20 : decode cX5_tryAll 20 = .ok (.aload_n 0, 1) := by decide +kernel
theorem dX5_tryAll_21 : decode cX5_tryAll 21 = .ok (.iconst 5, 1) := by decide +kernel
theorem dX5_tryAll_22 : decode cX5_tryAll 22 = .ok (.putfield 71, 3) := by decide +kernel
theorem dX5_tryAll_25 : decode cX5_tryAll 25 = .ok (.aload_n 0, 1) := by decide +kernel
theorem dX5_tryAll_26 : decode cX5_tryAll 26 = .ok (.iconst 0, 1) := by decide +kernel
theorem dX5_tryAll_27 : decode cX5_tryAll 27 = .ok (.putfield 74, 3) := by decide +kernel
theorem dX5_tryAll_30 : decode cX5_tryAll 30 = .ok (.aload_n 0, 1) := by decide +kernel
theorem dX5_tryAll_31 : decode cX5_tryAll 31 = .ok (.iconst 0, 1) := by decide +kernel
theorem dX5_tryAll_32 : decode cX5_tryAll 32 = .ok (.iconst 0, 1) := by decide +kernel
theorem dX5_tryAll_33 : decode cX5_tryAll 33 = .ok (.invokevirtual 77, 3) := by decide +kernel
theorem dX5_tryAll_36 : decode cX5_tryAll 36 = .ok (.return_, 1) := by decide +kernel
def f5_tryAll (a1 : Int32) (a2 : Int32) (m : lu_M) : Option (lu_M) :=
  lu_bv (f5_start a1 m) fun m1 =>
  lu_nm (lu_st m1 74 3 a2) fun m2 =>
  lu_nm (lu_st m2 74 5 (-1 : Int32)) fun m3 =>
  lu_nm (lu_st m3 74 6 (0 : Int32)) fun m4 =>
  lu_nm (lu_st m4 74 8 (5 : Int32)) fun m5 =>
  lu_nm (lu_st m5 74 9 (0 : Int32)) fun m6 =>
  lu_bv (f5_tryFrom 6 (0 : Int32) (0 : Int32) m6) fun m7 =>
  some m7
set_option maxRecDepth 20000 in
theorem c5_tryAll (l : Launch)   (a1 : Int32) (a2 : Int32) : lu_C lu_TC l yX5_tryAll cX5_tryAll 3 none 31 755 (fun ρ sa => [.ref (ρ 74), .int a1, .int a2]) (f5_tryAll a1 a2) lu_RVv lu_id := by
  refine lu_met (cls := RX5) rfl (by decide +kernel) (fun _ _ => Nat.le_of_ble_eq_true rfl) ?_
  intro G ρ m hl X hret
  subst hl
  change lu_Ab lu_TC G (lu_Q lu_TC G ρ lu_RVv lu_id) (f5_tryAll a1 a2 m) 0 [(0, .ref (ρ 74)), (1, .int a1), (2, .int a2)] [] ρ 0 0 [] m
  unfold f5_tryAll
  refine lu_aload_n X dX5_tryAll_0 (pc2 := 1) rfl rfl 0 rfl ?_
  refine lu_iload_n X dX5_tryAll_1 (pc2 := 2) rfl rfl 1 rfl ?_
  refine lu_invVv X (c5_start _ a1) rfl q834 mvV_5_start kC_74 lC_74 (by decide) ⟨_, rfl, rfl⟩ rfl rfl (Nat.le_of_ble_eq_true rfl) (Nat.le_of_ble_eq_true rfl) (Nat.le_of_ble_eq_true rfl) ⟨Nat.zero_le _, Nat.zero_le _⟩ dX5_tryAll_2 (pc2 := 5) rfl rfl (fun m1 => ?_)
  refine lu_aload_n X dX5_tryAll_5 (pc2 := 6) rfl rfl 0 rfl ?_
  refine lu_iload_n X dX5_tryAll_6 (pc2 := 7) rfl rfl 2 rfl ?_
  refine lu_put X fl5_62 rfl (Or.inl (by decide)) rfl (by decide +kernel) kC_74 lC_74 dX5_tryAll_7 (pc2 := 10) rfl (fun m2 => ?_)
  refine lu_aload_n X dX5_tryAll_10 (pc2 := 11) rfl rfl 0 rfl ?_
  refine lu_iconst X dX5_tryAll_11 (pc2 := 12) rfl ic_m1 ?_
  refine lu_put X fl5_65 rfl (Or.inl (by decide)) rfl (by decide +kernel) kC_74 lC_74 dX5_tryAll_12 (pc2 := 15) rfl (fun m3 => ?_)
  refine lu_aload_n X dX5_tryAll_15 (pc2 := 16) rfl rfl 0 rfl ?_
  refine lu_iconst X dX5_tryAll_16 (pc2 := 17) rfl ic_0 ?_
  refine lu_put X fl5_68 rfl (Or.inl (by decide)) rfl (by decide +kernel) kC_74 lC_74 dX5_tryAll_17 (pc2 := 20) rfl (fun m4 => ?_)
  refine lu_aload_n X dX5_tryAll_20 (pc2 := 21) rfl rfl 0 rfl ?_
  refine lu_iconst X dX5_tryAll_21 (pc2 := 22) rfl ic_5 ?_
  refine lu_put X fl5_71 rfl (Or.inl (by decide)) rfl (by decide +kernel) kC_74 lC_74 dX5_tryAll_22 (pc2 := 25) rfl (fun m5 => ?_)
  refine lu_aload_n X dX5_tryAll_25 (pc2 := 26) rfl rfl 0 rfl ?_
  refine lu_iconst X dX5_tryAll_26 (pc2 := 27) rfl ic_0 ?_
  refine lu_put X fl5_74 rfl (Or.inl (by decide)) rfl (by decide +kernel) kC_74 lC_74 dX5_tryAll_27 (pc2 := 30) rfl (fun m6 => ?_)
  refine lu_aload_n X dX5_tryAll_30 (pc2 := 31) rfl rfl 0 rfl ?_
  refine lu_iconst X dX5_tryAll_31 (pc2 := 32) rfl ic_0 ?_
  refine lu_iconst X dX5_tryAll_32 (pc2 := 33) rfl ic_0 ?_
  refine lu_invVv X (c5_tryFrom _ 6 (0 : Int32) (0 : Int32)) rfl q843 mvV_5_tryFrom kC_74 lC_74 (by decide) ⟨_, rfl, rfl⟩ rfl rfl (Nat.le_of_ble_eq_true rfl) (Nat.le_of_ble_eq_true rfl) (Nat.le_of_ble_eq_true rfl) ⟨Nat.zero_le _, Nat.zero_le _⟩ dX5_tryAll_33 (pc2 := 36) rfl rfl (fun m7 => ?_)
  exact lu_vret X hret dX5_tryAll_36

theorem dX5_valueFrom_0 : decode cX5_valueFrom 0 = .ok (.iload_n 1, 1) := by decide +kernel
theorem dX5_valueFrom_1 : decode cX5_valueFrom 1 = .ok (.aload_n 0, 1) := by decide +kernel
theorem dX5_valueFrom_2 : decode cX5_valueFrom 2 = .ok (.getfield 51, 3) := by decide +kernel
theorem dX5_valueFrom_5 : decode cX5_valueFrom 5 = .ok (.if_icmp .lt 16, 3) := by decide +kernel
theorem dX5_valueFrom_8 : decode cX5_valueFrom 8 = .ok (.aload_n 0, 1) := by decide +kernel
theorem dX5_valueFrom_9 : decode cX5_valueFrom 9 = .ok (.getfield 17, 3) := by decide +kernel
theorem dX5_valueFrom_12 : decode cX5_valueFrom 12 = .ok (.aload_n 0, 1) := by decide +kernel
theorem dX5_valueFrom_13 : decode cX5_valueFrom 13 = .ok (.getfield 51, 3) := by decide +kernel
theorem dX5_valueFrom_16 : decode cX5_valueFrom 16 = .ok (.aaload, 1) := by decide +kernel
theorem dX5_valueFrom_17 : decode cX5_valueFrom 17 = .ok (.getfield 98, 3) := by decide +kernel
theorem dX5_valueFrom_20 : decode cX5_valueFrom 20 = .ok (.ireturn, 1) := by decide +kernel
theorem dX5_valueFrom_21 : decode cX5_valueFrom 21 = .ok (.iconst 0, 1) := by decide +kernel
theorem dX5_valueFrom_22 : decode cX5_valueFrom 22 = .ok (.istore_n 2, 1) := by decide +kernel
theorem dX5_valueFrom_23 : decode cX5_valueFrom 23 = .ok (.iconst 0, 1) := by decide +kernel
theorem dX5_valueFrom_24 : decode cX5_valueFrom 24 = .ok (.istore_n 3, 1) := by decide +kernel
theorem dX5_valueFrom_25 : decode cX5_valueFrom 25 = .ok (.iload_n 3, 1) := by decide +kernel
theorem dX5_valueFrom_26 : decode cX5_valueFrom 26 = .ok (.aload_n 0, 1) := by decide +kernel
theorem dX5_valueFrom_27 : decode cX5_valueFrom 27 = .ok (.getfield 9, 3) := by decide +kernel
theorem dX5_valueFrom_30 : decode cX5_valueFrom 30 = .ok (.getfield 85, 3) := by decide +kernel
theorem dX5_valueFrom_33 : decode cX5_valueFrom 33 = .ok (.if_icmp .gt 92, 3) := by decide +kernel
theorem dX5_valueFrom_36 : decode cX5_valueFrom 36 = .ok (.aload_n 0, 1) := by decide +kernel
theorem dX5_valueFrom_37 : decode cX5_valueFrom 37 = .ok (.getfield 17, 3) := by decide +kernel
theorem dX5_valueFrom_40 : decode cX5_valueFrom 40 = .ok (.iload_n 1, 1) := by decide +kernel
theorem dX5_valueFrom_41 : decode cX5_valueFrom 41 = .ok (.iconst 1, 1) := by decide +kernel
theorem dX5_valueFrom_42 : decode cX5_valueFrom 42 = .ok (.iadd, 1) := by decide +kernel
theorem dX5_valueFrom_43 : decode cX5_valueFrom 43 = .ok (.aaload, 1) := by decide +kernel
theorem dX5_valueFrom_44 : decode cX5_valueFrom 44 = .ok (.aload_n 0, 1) := by decide +kernel
theorem dX5_valueFrom_45 : decode cX5_valueFrom 45 = .ok (.getfield 17, 3) := by decide +kernel
theorem dX5_valueFrom_48 : decode cX5_valueFrom 48 = .ok (.iload_n 1, 1) := by decide +kernel
theorem dX5_valueFrom_49 : decode cX5_valueFrom 49 = .ok (.aaload, 1) := by decide +kernel
theorem dX5_valueFrom_50 : decode cX5_valueFrom 50 = .ok (.invokevirtual 88, 3) := by decide +kernel
theorem dX5_valueFrom_53 : decode cX5_valueFrom 53 = .ok (.aload_n 0, 1) := by decide +kernel
theorem dX5_valueFrom_54 : decode cX5_valueFrom 54 = .ok (.getfield 9, 3) := by decide +kernel
theorem dX5_valueFrom_57 : decode cX5_valueFrom 57 = .ok (.aload_n 0, 1) := by decide +kernel
theorem dX5_valueFrom_58 : decode cX5_valueFrom 58 = .ok (.getfield 17, 3) := by decide +kernel
theorem dX5_valueFrom_61 : decode cX5_valueFrom 61 = .ok (.iload_n 1, 1) := by decide +kernel
theorem dX5_valueFrom_62 : decode cX5_valueFrom 62 = .ok (.iconst 1, 1) := by decide +kernel
theorem dX5_valueFrom_63 : decode cX5_valueFrom 63 = .ok (.iadd, 1) := by decide +kernel
theorem dX5_valueFrom_64 : decode cX5_valueFrom 64 = .ok (.aaload, 1) := by decide +kernel
theorem dX5_valueFrom_65 : decode cX5_valueFrom 65 = .ok (.iload_n 3, 1) := by decide +kernel
theorem dX5_valueFrom_66 : decode cX5_valueFrom 66 = .ok (.invokevirtual 91, 3) := by decide +kernel
theorem dX5_valueFrom_69 : decode cX5_valueFrom 69 = .ok (.pop, 1) := by decide +kernel
theorem dX5_valueFrom_70 : decode cX5_valueFrom 70 = .ok (.aload_n 0, 1) := by decide +kernel
theorem dX5_valueFrom_71 : decode cX5_valueFrom 71 = .ok (.iload_n 1, 1) := by decide +kernel
theorem dX5_valueFrom_72 : decode cX5_valueFrom 72 = .ok (.iconst 1, 1) := by decide +kernel
theorem dX5_valueFrom_73 : decode cX5_valueFrom 73 = .ok (.iadd, 1) := by decide +kernel
theorem dX5_valueFrom_74 : decode cX5_valueFrom 74 = .ok (.invokevirtual 104, 3) := by decide +kernel
theorem dX5_valueFrom_77 : decode cX5_valueFrom 77 = .ok (.istore 4, 2) := by decide +kernel
theorem dX5_valueFrom_79 : decode cX5_valueFrom 79 = .ok (.iload_n 3, 1) := by decide +kernel
theorem dX5_valueFrom_80 : decode cX5_valueFrom 80 = .ok (.ifCond .le 27, 3) := by decide +kernel
theorem dX5_valueFrom_83 : decode cX5_valueFrom 83 = .ok (.iload_n 1, 1) := by decide +kernel
theorem dX5_valueFrom_84 : decode cX5_valueFrom 84 = .ok (.iconst 2, 1) := by decide +kernel
theorem dX5_valueFrom_85 : decode cX5_valueFrom 85 = .ok (.irem, 1) := by decide +kernel
theorem dX5_valueFrom_86 : decode cX5_valueFrom 86 = .ok (.ifCond .ne 12, 3) := by decide +kernel
theorem dX5_valueFrom_89 : decode cX5_valueFrom 89 = .ok (.iload 4, 2) := by decide +kernel
theorem dX5_valueFrom_91 : decode cX5_valueFrom 91 = .ok (.iload_n 2, 1) := by decide +kernel
theorem dX5_valueFrom_92 : decode cX5_valueFrom 92 = .ok (.if_icmp .gt 15, 3) := by decide +kernel
theorem dX5_valueFrom_95 : decode cX5_valueFrom 95 = .ok (.goto 24, 3) := by decide +kernel
theorem dX5_valueFrom_98 : decode cX5_valueFrom 98 = .ok (.iload 4, 2) := by decide +kernel
theorem dX5_valueFrom_100 : decode cX5_valueFrom 100 = .ok (.iload_n 2, 1) := by decide +kernel
theorem dX5_valueFrom_101 : decode cX5_valueFrom 101 = .ok (.if_icmp .lt 6, 3) := by decide +kernel
theorem dX5_valueFrom_104 : decode cX5_valueFrom 104 = .ok (.goto 15, 3) := by decide +kernel
theorem dX5_valueFrom_107 : decode cX5_valueFrom 107 = .ok (.iload 4, 2) := by decide +kernel
theorem dX5_valueFrom_109 : decode cX5_valueFrom 109 = .ok (.istore_n 2, 1) := by decide +kernel
theorem dX5_valueFrom_110 : decode cX5_valueFrom 110 = .ok (.iload_n 1, 1) := by decide +kernel
theorem dX5_valueFrom_111 : decode cX5_valueFrom 111 = .ok (.ifCond .ne 8, 3) := by decide +kernel
theorem dX5_valueFrom_114 : decode cX5_valueFrom 114 = .ok (.aload_n 0, 1) := by decide +kernel
theorem dX5_valueFrom_115 : decode cX5_valueFrom 115 = .ok (.iload_n 3, 1) := by decide +kernel
theorem dX5_valueFrom_116 : decode cX5_valueFrom 116 = .ok (.putfield 101, 3) := by decide +kernel
theorem dX5_valueFrom_119 : decode cX5_valueFrom 119 = .ok (.iinc 3 1, 3) := by decide +kernel
theorem dX5_valueFrom_122 : decode cX5_valueFrom 122 = .ok (.goto (-97), 3) := by decide +kernel
theorem dX5_valueFrom_125 : decode cX5_valueFrom 125 = .ok (.iload_n 2, 1) := by decide +kernel
theorem dX5_valueFrom_126 : decode cX5_valueFrom 126 = .ok (.ireturn, 1) := by decide +kernel
def f5_valueFrom_b119 (K25 : Int32 → Int32 → lu_M → Option (Int32 × lu_M)) (K125 : Int32 → lu_M → Option (Int32 × lu_M)) (rc : Int32 → lu_M → Option (Int32 × lu_M)) (a1 : Int32) (v2 : Int32) (v3 : Int32) (m : lu_M) : Option (Int32 × lu_M) :=
  K25 v2 (v3 + (1 : Int32)) m
set_option maxRecDepth 20000 in
theorem w5_valueFrom_b119 {rc : Int32 → lu_M → Option (Int32 × lu_M)} {frc loc : Nat}  {G : lu_G} {ρ : Nat → Nat} {a1 : Int32} {K25 : Int32 → Int32 → lu_M → Option (Int32 × lu_M)} {K125 : Int32 → lu_M → Option (Int32 × lu_M)} (X : lu_X G RX5 cX5_valueFrom 5 (frc + 5) (loc + 122)) (hret : (lu_me G).sig.returnType = (some .int)) (hrc : ∀ (b0 : Int32), lu_C lu_TC (lu_l G) yX5_valueFrom cX5_valueFrom 5 (some .int) frc loc (fun ρ _ => [.ref (ρ 74), .int b0]) (fun m => rc b0 m) lu_RVi lu_sn)  (hK25 : ∀ (v2 : Int32) (v3 : Int32) (m : lu_M), lu_Ab lu_TC G (lu_Q lu_TC G ρ lu_RVi lu_sn) (K25 v2 v3 m) 25 [(0, .ref (ρ 74)), (1, .int a1), (2, .int v2), (3, .int v3)] [] ρ 0 0 [] m) (hK125 : ∀ (v2 : Int32) (m : lu_M), lu_Ab lu_TC G (lu_Q lu_TC G ρ lu_RVi lu_sn) (K125 v2 m) 125 [(2, .int v2)] [] ρ 0 0 [] m) : ∀ (v2 : Int32) (v3 : Int32) (m : lu_M), lu_Ab lu_TC G (lu_Q lu_TC G ρ lu_RVi lu_sn) (f5_valueFrom_b119 K25 K125 rc a1 v2 v3 m) 119 [(0, .ref (ρ 74)), (1, .int a1), (2, .int v2), (3, .int v3)] [] ρ 0 0 [] m := by
  intro v2 v3 m
  unfold f5_valueFrom_b119
  refine lu_iinc (lv2 := [(3, .int (v3 + (1 : Int32))), (0, .ref (ρ 74)), (1, .int a1), (2, .int v2)]) X dX5_valueFrom_119 (pc2 := 122) rfl 3 rfl (lu_ii _ ic_1) (by decide) rfl ?_
  refine lu_goto (tgt := 25) X dX5_valueFrom_122 (by decide) ?_
  exact lu_sub [1, 2, 3, 0] rfl (hK25 v2 (v3 + (1 : Int32)) m)
def f5_valueFrom_b107 (K25 : Int32 → Int32 → lu_M → Option (Int32 × lu_M)) (K125 : Int32 → lu_M → Option (Int32 × lu_M)) (rc : Int32 → lu_M → Option (Int32 × lu_M)) (a1 : Int32) (v3 : Int32) (v4 : Int32) (m : lu_M) : Option (Int32 × lu_M) :=
  if a1 = 0 then (lu_nm (lu_st m 74 10 v3) fun m9 =>
  f5_valueFrom_b119 K25 K125 rc a1 v4 v3 m9)
  else (f5_valueFrom_b119 K25 K125 rc a1 v4 v3 m)
set_option maxRecDepth 20000 in
theorem w5_valueFrom_b107 {rc : Int32 → lu_M → Option (Int32 × lu_M)} {frc loc : Nat}  {G : lu_G} {ρ : Nat → Nat} {a1 : Int32} {K25 : Int32 → Int32 → lu_M → Option (Int32 × lu_M)} {K125 : Int32 → lu_M → Option (Int32 × lu_M)} (X : lu_X G RX5 cX5_valueFrom 5 (frc + 5) (loc + 122)) (hret : (lu_me G).sig.returnType = (some .int)) (hrc : ∀ (b0 : Int32), lu_C lu_TC (lu_l G) yX5_valueFrom cX5_valueFrom 5 (some .int) frc loc (fun ρ _ => [.ref (ρ 74), .int b0]) (fun m => rc b0 m) lu_RVi lu_sn)  (hK25 : ∀ (v2 : Int32) (v3 : Int32) (m : lu_M), lu_Ab lu_TC G (lu_Q lu_TC G ρ lu_RVi lu_sn) (K25 v2 v3 m) 25 [(0, .ref (ρ 74)), (1, .int a1), (2, .int v2), (3, .int v3)] [] ρ 0 0 [] m) (hK125 : ∀ (v2 : Int32) (m : lu_M), lu_Ab lu_TC G (lu_Q lu_TC G ρ lu_RVi lu_sn) (K125 v2 m) 125 [(2, .int v2)] [] ρ 0 0 [] m) : ∀ (v3 : Int32) (v4 : Int32) (m : lu_M), lu_Ab lu_TC G (lu_Q lu_TC G ρ lu_RVi lu_sn) (f5_valueFrom_b107 K25 K125 rc a1 v3 v4 m) 107 [(0, .ref (ρ 74)), (1, .int a1), (3, .int v3), (4, .int v4)] [] ρ 0 0 [] m := by
  intro v3 v4 m
  unfold f5_valueFrom_b107
  refine lu_iload X dX5_valueFrom_107 (pc2 := 109) rfl 3 rfl ?_
  refine lu_istore_n (lv2 := [(2, .int v4), (0, .ref (ρ 74)), (1, .int a1), (3, .int v3), (4, .int v4)]) X dX5_valueFrom_109 (pc2 := 110) rfl rfl (by decide) rfl ?_
  refine lu_iload_n X dX5_valueFrom_110 (pc2 := 111) rfl rfl 2 rfl ?_
  refine lu_if_ne (tgt := 119) X dX5_valueFrom_111 (pc2 := 114) rfl (by decide) (fun _ => ?_) (fun _ => ?_)
  · exact lu_sub [1, 2, 0, 3] rfl (w5_valueFrom_b119 X hret hrc hK25 hK125 v4 v3 m)
  · refine lu_aload_n X dX5_valueFrom_114 (pc2 := 115) rfl rfl 1 rfl ?_
    refine lu_iload_n X dX5_valueFrom_115 (pc2 := 116) rfl rfl 3 rfl ?_
    refine lu_put X fl5_101 rfl (Or.inl (by decide)) rfl (by decide +kernel) kC_74 lC_74 dX5_valueFrom_116 (pc2 := 119) rfl (fun m9 => ?_)
    exact lu_sub [1, 2, 0, 3] rfl (w5_valueFrom_b119 X hret hrc hK25 hK125 v4 v3 m9)
def f5_valueFrom_b25B (K125 : Int32 → lu_M → Option (Int32 × lu_M)) (rc : Int32 → lu_M → Option (Int32 × lu_M)) (rec : Int32 → Int32 → lu_M → Option (Int32 × lu_M)) (a1 : Int32) (v2 : Int32) (v3 : Int32) (m : lu_M) : Option (Int32 × lu_M) :=
  if (m 1 0) < v3 then (K125 v2 m)
  else (lu_gd (lu_ib (a1 + (1 : Int32)) 5) <|
  lu_gd (lu_ib a1 5) <|
  lu_bv (f1_copy (75 + 1 + (a1 + (1 : Int32)).toNatClampNeg) (75 + 1 + a1.toNatClampNeg) m) fun m3 =>
  lu_gd (lu_ib (a1 + (1 : Int32)) 5) <|
  lu_bi (f10_pass 1 (75 + 1 + (a1 + (1 : Int32)).toNatClampNeg) v3 m3) fun x5 m6 =>
  lu_bi (rc (a1 + (1 : Int32)) m6) fun x7 m8 =>
  if v3 ≤ 0 then (f5_valueFrom_b107 rec K125 rc a1 v3 x7 m8)
  else (if (a1 - a1 / (2 : Int32) * (2 : Int32)) = 0 then (if v2 < x7 then (f5_valueFrom_b107 rec K125 rc a1 v3 x7 m8)
  else (f5_valueFrom_b119 rec K125 rc a1 v2 v3 m8))
  else (if x7 < v2 then (f5_valueFrom_b107 rec K125 rc a1 v3 x7 m8)
  else (f5_valueFrom_b119 rec K125 rc a1 v2 v3 m8))))
def f5_valueFrom_b25 (K125 : Int32 → lu_M → Option (Int32 × lu_M)) (rc : Int32 → lu_M → Option (Int32 × lu_M)) (a1 : Int32) : Nat → Int32 → Int32 → lu_M → Option (Int32 × lu_M)
  | 0, _, _, _ => none
  | n + 1, v2, v3, m => f5_valueFrom_b25B K125 rc (f5_valueFrom_b25 K125 rc a1 n) a1 v2 v3 m
set_option maxRecDepth 20000 in
theorem w5_valueFrom_b25B {rc : Int32 → lu_M → Option (Int32 × lu_M)} {frc loc : Nat}  {G : lu_G} {ρ : Nat → Nat} {a1 : Int32} {K125 : Int32 → lu_M → Option (Int32 × lu_M)} {rec : Int32 → Int32 → lu_M → Option (Int32 × lu_M)} (X : lu_X G RX5 cX5_valueFrom 5 (frc + 5) (loc + 122)) (hret : (lu_me G).sig.returnType = (some .int)) (hrc : ∀ (b0 : Int32), lu_C lu_TC (lu_l G) yX5_valueFrom cX5_valueFrom 5 (some .int) frc loc (fun ρ _ => [.ref (ρ 74), .int b0]) (fun m => rc b0 m) lu_RVi lu_sn)  (hK125 : ∀ (v2 : Int32) (m : lu_M), lu_Ab lu_TC G (lu_Q lu_TC G ρ lu_RVi lu_sn) (K125 v2 m) 125 [(2, .int v2)] [] ρ 0 0 [] m) (hrec : ∀ (v2 : Int32) (v3 : Int32) (m : lu_M), lu_Ab lu_TC G (lu_Q lu_TC G ρ lu_RVi lu_sn) (rec v2 v3 m) 25 [(0, .ref (ρ 74)), (1, .int a1), (2, .int v2), (3, .int v3)] [] ρ 0 0 [] m) : ∀ (v2 : Int32) (v3 : Int32) (m : lu_M), lu_Ab lu_TC G (lu_Q lu_TC G ρ lu_RVi lu_sn) (f5_valueFrom_b25B K125 rc rec a1 v2 v3 m) 25 [(0, .ref (ρ 74)), (1, .int a1), (2, .int v2), (3, .int v3)] [] ρ 0 0 [] m := by
  intro v2 v3 m
  unfold f5_valueFrom_b25B
  refine lu_iload_n X dX5_valueFrom_25 (pc2 := 26) rfl rfl 3 rfl ?_
  refine lu_aload_n X dX5_valueFrom_26 (pc2 := 27) rfl rfl 0 rfl ?_
  refine lu_getr (r2 := 1) X rfl fl5_9 rfl kC_74 lC_74 dX5_valueFrom_27 (pc2 := 30) rfl ?_
  refine lu_get X fl5_85 rfl kC_1 lC_1 dX5_valueFrom_30 (pc2 := 33) rfl ?_
  refine lu_icmp_gt (tgt := 125) X dX5_valueFrom_33 (pc2 := 36) rfl (by decide) (fun _ => ?_) (fun _ => ?_)
  · exact lu_sub [2] rfl (hK125 v2 m)
  · refine lu_aload_n X dX5_valueFrom_36 (pc2 := 37) rfl rfl 0 rfl ?_
    refine lu_getr (r2 := 75) X rfl fl5_17 rfl kC_74 lC_74 dX5_valueFrom_37 (pc2 := 40) rfl ?_
    refine lu_iload_n X dX5_valueFrom_40 (pc2 := 41) rfl rfl 1 rfl ?_
    refine lu_iconst X dX5_valueFrom_41 (pc2 := 42) rfl ic_1 ?_
    refine lu_iadd X dX5_valueFrom_42 (pc2 := 43) rfl ?_
    refine lu_aald X rfl rfl (by decide) (by decide) kC_75 lC_75 dX5_valueFrom_43 (pc2 := 44) rfl (fun g1 => ?_)
    refine lu_aload_n X dX5_valueFrom_44 (pc2 := 45) rfl rfl 0 rfl ?_
    refine lu_getr (r2 := 75) X rfl fl5_17 rfl kC_74 lC_74 dX5_valueFrom_45 (pc2 := 48) rfl ?_
    refine lu_iload_n X dX5_valueFrom_48 (pc2 := 49) rfl rfl 1 rfl ?_
    refine lu_aald X rfl rfl (by decide) (by decide) kC_75 lC_75 dX5_valueFrom_49 (pc2 := 50) rfl (fun g2 => ?_)
    refine lu_invVv X (c1_copy _ ((kaC_2_5_0 kC_75 lC_75 g1).1) ((kaC_2_5_0 kC_75 lC_75 g1).2) ((kaC_2_5_0 kC_75 lC_75 g2).1) ((kaC_2_5_0 kC_75 lC_75 g2).2)) rfl q851 mvV_1_copy ((kaC_2_5_0 kC_75 lC_75 g1).1) ((kaC_2_5_0 kC_75 lC_75 g1).2) (by decide) ⟨_, rfl, rfl⟩ rfl rfl (Nat.le_of_ble_eq_true rfl) (by omega) (by omega) ⟨Nat.zero_le _, Nat.zero_le _⟩ dX5_valueFrom_50 (pc2 := 53) rfl rfl (fun m3 => ?_)
    refine lu_aload_n X dX5_valueFrom_53 (pc2 := 54) rfl rfl 0 rfl ?_
    refine lu_getr (r2 := 1) X rfl fl5_9 rfl kC_74 lC_74 dX5_valueFrom_54 (pc2 := 57) rfl ?_
    refine lu_aload_n X dX5_valueFrom_57 (pc2 := 58) rfl rfl 0 rfl ?_
    refine lu_getr (r2 := 75) X rfl fl5_17 rfl kC_74 lC_74 dX5_valueFrom_58 (pc2 := 61) rfl ?_
    refine lu_iload_n X dX5_valueFrom_61 (pc2 := 62) rfl rfl 1 rfl ?_
    refine lu_iconst X dX5_valueFrom_62 (pc2 := 63) rfl ic_1 ?_
    refine lu_iadd X dX5_valueFrom_63 (pc2 := 64) rfl ?_
    refine lu_aald X rfl rfl (by decide) (by decide) kC_75 lC_75 dX5_valueFrom_64 (pc2 := 65) rfl (fun g4 => ?_)
    refine lu_iload_n X dX5_valueFrom_65 (pc2 := 66) rfl rfl 3 rfl ?_
    refine lu_invVi X (c10_pass _ kC_1 lC_1 ((kaC_2_5_0 kC_75 lC_75 g4).1) ((kaC_2_5_0 kC_75 lC_75 g4).2) v3) rfl q852 mvV_10_pass kC_1 lC_1 (by decide) ⟨_, rfl, rfl⟩ rfl rfl (Nat.le_of_ble_eq_true rfl) (by omega) (by omega) ⟨Nat.zero_le _, Nat.zero_le _⟩ dX5_valueFrom_66 (pc2 := 69) rfl rfl (fun x5 m6 => ?_)
    refine lu_pop X dX5_valueFrom_69 (pc2 := 70) rfl rfl ?_
    refine lu_aload_n X dX5_valueFrom_70 (pc2 := 71) rfl rfl 0 rfl ?_
    refine lu_iload_n X dX5_valueFrom_71 (pc2 := 72) rfl rfl 1 rfl ?_
    refine lu_iconst X dX5_valueFrom_72 (pc2 := 73) rfl ic_1 ?_
    refine lu_iadd X dX5_valueFrom_73 (pc2 := 74) rfl ?_
    refine lu_invVi X (hrc (a1 + (1 : Int32))) rfl q881 mvV_5_valueFrom kC_74 lC_74 (by decide) ⟨_, rfl, rfl⟩ rfl rfl (Nat.le_of_ble_eq_true rfl) (by omega) (by omega) ⟨Nat.zero_le _, Nat.zero_le _⟩ dX5_valueFrom_74 (pc2 := 77) rfl rfl (fun x7 m8 => ?_)
    refine lu_istore (lv2 := [(4, .int x7), (0, .ref (ρ 74)), (1, .int a1), (2, .int v2), (3, .int v3)]) X dX5_valueFrom_77 (pc2 := 79) rfl (by decide) rfl ?_
    refine lu_iload_n X dX5_valueFrom_79 (pc2 := 80) rfl rfl 4 rfl ?_
    refine lu_if_le (tgt := 107) X dX5_valueFrom_80 (pc2 := 83) rfl (by decide) (fun _ => ?_) (fun _ => ?_)
    · exact lu_sub [1, 2, 4, 0] rfl (w5_valueFrom_b107 X hret hrc hrec hK125 v3 x7 m8)
    · refine lu_iload_n X dX5_valueFrom_83 (pc2 := 84) rfl rfl 2 rfl ?_
      refine lu_iconst X dX5_valueFrom_84 (pc2 := 85) rfl ic_2 ?_
      refine lu_iremK X dX5_valueFrom_85 (pc2 := 86) rfl (by decide) ?_
      refine lu_if_ne (tgt := 98) X dX5_valueFrom_86 (pc2 := 89) rfl (by decide) (fun _ => ?_) (fun _ => ?_)
      · refine lu_iload X dX5_valueFrom_98 (pc2 := 100) rfl 0 rfl ?_
        refine lu_iload_n X dX5_valueFrom_100 (pc2 := 101) rfl rfl 3 rfl ?_
        refine lu_icmp_lt (tgt := 107) X dX5_valueFrom_101 (pc2 := 104) rfl (by decide) (fun _ => ?_) (fun _ => ?_)
        · exact lu_sub [1, 2, 4, 0] rfl (w5_valueFrom_b107 X hret hrc hrec hK125 v3 x7 m8)
        · refine lu_goto (tgt := 119) X dX5_valueFrom_104 (by decide) ?_
          exact lu_sub [1, 2, 3, 4] rfl (w5_valueFrom_b119 X hret hrc hrec hK125 v2 v3 m8)
      · refine lu_iload X dX5_valueFrom_89 (pc2 := 91) rfl 0 rfl ?_
        refine lu_iload_n X dX5_valueFrom_91 (pc2 := 92) rfl rfl 3 rfl ?_
        refine lu_icmp_gt (tgt := 107) X dX5_valueFrom_92 (pc2 := 95) rfl (by decide) (fun _ => ?_) (fun _ => ?_)
        · exact lu_sub [1, 2, 4, 0] rfl (w5_valueFrom_b107 X hret hrc hrec hK125 v3 x7 m8)
        · refine lu_goto (tgt := 119) X dX5_valueFrom_95 (by decide) ?_
          exact lu_sub [1, 2, 3, 4] rfl (w5_valueFrom_b119 X hret hrc hrec hK125 v2 v3 m8)
theorem w5_valueFrom_b25 {rc : Int32 → lu_M → Option (Int32 × lu_M)} {frc loc : Nat}  {G : lu_G} {ρ : Nat → Nat} {a1 : Int32} {K125 : Int32 → lu_M → Option (Int32 × lu_M)} (X : lu_X G RX5 cX5_valueFrom 5 (frc + 5) (loc + 122)) (hret : (lu_me G).sig.returnType = (some .int)) (hrc : ∀ (b0 : Int32), lu_C lu_TC (lu_l G) yX5_valueFrom cX5_valueFrom 5 (some .int) frc loc (fun ρ _ => [.ref (ρ 74), .int b0]) (fun m => rc b0 m) lu_RVi lu_sn)  (hK125 : ∀ (v2 : Int32) (m : lu_M), lu_Ab lu_TC G (lu_Q lu_TC G ρ lu_RVi lu_sn) (K125 v2 m) 125 [(2, .int v2)] [] ρ 0 0 [] m) : ∀ (n : Nat) (v2 : Int32) (v3 : Int32) (m : lu_M), lu_Ab lu_TC G (lu_Q lu_TC G ρ lu_RVi lu_sn) (f5_valueFrom_b25 K125 rc a1 n v2 v3 m) 25 [(0, .ref (ρ 74)), (1, .int a1), (2, .int v2), (3, .int v3)] [] ρ 0 0 [] m := by
  intro n
  induction n with
  | zero => intro v2 v3 m; exact lu_none
  | succ n ih => intro v2 v3 m; exact w5_valueFrom_b25B X hret hrc hK125 ih v2 v3 m
def f5_valueFrom_b125  (rc : Int32 → lu_M → Option (Int32 × lu_M)) (a1 : Int32) (v2 : Int32) (m : lu_M) : Option (Int32 × lu_M) :=
  some (v2, m)
set_option maxRecDepth 20000 in
theorem w5_valueFrom_b125 {rc : Int32 → lu_M → Option (Int32 × lu_M)} {frc loc : Nat}  {G : lu_G} {ρ : Nat → Nat} {a1 : Int32}  (X : lu_X G RX5 cX5_valueFrom 5 (frc + 5) (loc + 122)) (hret : (lu_me G).sig.returnType = (some .int)) (hrc : ∀ (b0 : Int32), lu_C lu_TC (lu_l G) yX5_valueFrom cX5_valueFrom 5 (some .int) frc loc (fun ρ _ => [.ref (ρ 74), .int b0]) (fun m => rc b0 m) lu_RVi lu_sn)   : ∀ (v2 : Int32) (m : lu_M), lu_Ab lu_TC G (lu_Q lu_TC G ρ lu_RVi lu_sn) (f5_valueFrom_b125 rc a1 v2 m) 125 [(2, .int v2)] [] ρ 0 0 [] m := by
  intro v2 m
  unfold f5_valueFrom_b125
  refine lu_iload_n X dX5_valueFrom_125 (pc2 := 126) rfl rfl 0 rfl ?_
  exact lu_iret X hret dX5_valueFrom_126
def f5_valueFromO (rc : Int32 → lu_M → Option (Int32 × lu_M)) (a1 : Int32) (m : lu_M) : Option (Int32 × lu_M) :=
  if a1 < (m 74 4) then (f5_valueFrom_b25 (f5_valueFrom_b125 rc a1) rc a1 lu_fu (0 : Int32) (0 : Int32) m)
  else (lu_gd (lu_ib (m 74 4) 5) <|
  some ((m (75 + 1 + (m 74 4).toNatClampNeg) 5), m))
set_option maxRecDepth 20000 in
theorem c5_valueFromO {rc : Int32 → lu_M → Option (Int32 × lu_M)} {frc loc : Nat} (l : Launch) (hrc : ∀ (b0 : Int32), lu_C lu_TC (l) yX5_valueFrom cX5_valueFrom 5 (some .int) frc loc (fun ρ _ => [.ref (ρ 74), .int b0]) (fun m => rc b0 m) lu_RVi lu_sn)   (a1 : Int32) : lu_C lu_TC l yX5_valueFrom cX5_valueFrom 5 (some .int) (frc + 5) (loc + 122) (fun ρ sa => [.ref (ρ 74), .int a1]) (f5_valueFromO rc a1) lu_RVi lu_sn := by
  refine lu_met (cls := RX5) rfl (by decide +kernel) (fun _ _ => Nat.le_of_ble_eq_true rfl) ?_
  intro G ρ m hl X hret
  subst hl
  change lu_Ab lu_TC G (lu_Q lu_TC G ρ lu_RVi lu_sn) (f5_valueFromO rc a1 m) 0 [(0, .ref (ρ 74)), (1, .int a1)] [] ρ 0 0 [] m
  unfold f5_valueFromO
  refine lu_iload_n X dX5_valueFrom_0 (pc2 := 1) rfl rfl 1 rfl ?_
  refine lu_aload_n X dX5_valueFrom_1 (pc2 := 2) rfl rfl 0 rfl ?_
  refine lu_get X fl5_51 rfl kC_74 lC_74 dX5_valueFrom_2 (pc2 := 5) rfl ?_
  refine lu_icmp_lt (tgt := 21) X dX5_valueFrom_5 (pc2 := 8) rfl (by decide) (fun _ => ?_) (fun _ => ?_)
  · refine lu_iconst X dX5_valueFrom_21 (pc2 := 22) rfl ic_0 ?_
    refine lu_istore_n (lv2 := [(2, .int (0 : Int32)), (0, .ref (ρ 74)), (1, .int a1)]) X dX5_valueFrom_22 (pc2 := 23) rfl rfl (by decide) rfl ?_
    refine lu_iconst X dX5_valueFrom_23 (pc2 := 24) rfl ic_0 ?_
    refine lu_istore_n (lv2 := [(3, .int (0 : Int32)), (2, .int (0 : Int32)), (0, .ref (ρ 74)), (1, .int a1)]) X dX5_valueFrom_24 (pc2 := 25) rfl rfl (by decide) rfl ?_
    exact lu_sub [2, 3, 1, 0] rfl (w5_valueFrom_b25 X hret hrc (w5_valueFrom_b125 X hret hrc) lu_fu (0 : Int32) (0 : Int32) m)
  · refine lu_aload_n X dX5_valueFrom_8 (pc2 := 9) rfl rfl 0 rfl ?_
    refine lu_getr (r2 := 75) X rfl fl5_17 rfl kC_74 lC_74 dX5_valueFrom_9 (pc2 := 12) rfl ?_
    refine lu_aload_n X dX5_valueFrom_12 (pc2 := 13) rfl rfl 0 rfl ?_
    refine lu_get X fl5_51 rfl kC_74 lC_74 dX5_valueFrom_13 (pc2 := 16) rfl ?_
    refine lu_aald X rfl rfl (by decide) (by decide) kC_75 lC_75 dX5_valueFrom_16 (pc2 := 17) rfl (fun g10 => ?_)
    refine lu_get X fl5_98 rfl ((kaC_2_5_0 kC_75 lC_75 g10).1) ((kaC_2_5_0 kC_75 lC_75 g10).2) dX5_valueFrom_17 (pc2 := 20) rfl ?_
    exact lu_iret X hret dX5_valueFrom_20
def f5_valueFrom : Nat → Int32 → lu_M → Option (Int32 × lu_M)
  | 0, _, _ => none
  | d + 1, b0, m => f5_valueFromO (f5_valueFrom d) b0 m
theorem c5_valueFrom (l : Launch) : ∀ (d : Nat) (b0 : Int32), lu_C lu_TC l yX5_valueFrom cX5_valueFrom 5 (some .int) (5 * d) (122 * d) (fun ρ _ => [.ref (ρ 74), .int b0]) (fun m => f5_valueFrom d b0 m) lu_RVi lu_sn := by
  intro d
  induction d with
  | zero => intro b0 D cs ρ m sa sz b h; cases h
  | succ d ih => intro b0; exact c5_valueFromO (frc := 5 * d) (loc := 122 * d) l ih b0

theorem dX5_playedOut_0 : decode cX5_playedOut 0 = .ok (.aload_n 0, 1) := by decide +kernel
theorem dX5_playedOut_1 : decode cX5_playedOut 1 = .ok (.iload_n 1, 1) := by decide +kernel
theorem dX5_playedOut_2 : decode cX5_playedOut 2 = .ok (.invokevirtual 58, 3) := by decide +kernel
theorem dX5_playedOut_5 : decode cX5_playedOut 5 = .ok (.aload_n 0, 1) := by decide +kernel
theorem dX5_playedOut_6 : decode cX5_playedOut 6 = .ok (.iconst 0, 1) := by decide +kernel
theorem dX5_playedOut_7 : decode cX5_playedOut 7 = .ok (.putfield 101, 3) := by decide +kernel
theorem dX5_playedOut_10 : decode cX5_playedOut 10 = .ok (.aload_n 0, 1) := by decide +kernel
theorem dX5_playedOut_11 : decode cX5_playedOut 11 = .ok (.iconst 0, 1) := by decide +kernel
theorem dX5_playedOut_12 : decode cX5_playedOut 12 = .ok (.invokevirtual 104, 3) := by decide +kernel
theorem dX5_playedOut_15 : decode cX5_playedOut 15 = .ok (.ireturn, 1) := by decide +kernel
def f5_playedOut (a1 : Int32) (m : lu_M) : Option (Int32 × lu_M) :=
  lu_bv (f5_start a1 m) fun m1 =>
  lu_nm (lu_st m1 74 10 (0 : Int32)) fun m2 =>
  lu_bi (f5_valueFrom 6 (0 : Int32) m2) fun x3 m4 =>
  some (x3, m4)
set_option maxRecDepth 20000 in
theorem c5_playedOut (l : Launch)   (a1 : Int32) : lu_C lu_TC l yX5_playedOut cX5_playedOut 2 (some .int) 31 756 (fun ρ sa => [.ref (ρ 74), .int a1]) (f5_playedOut a1) lu_RVi lu_sn := by
  refine lu_met (cls := RX5) rfl (by decide +kernel) (fun _ _ => Nat.le_of_ble_eq_true rfl) ?_
  intro G ρ m hl X hret
  subst hl
  change lu_Ab lu_TC G (lu_Q lu_TC G ρ lu_RVi lu_sn) (f5_playedOut a1 m) 0 [(0, .ref (ρ 74)), (1, .int a1)] [] ρ 0 0 [] m
  unfold f5_playedOut
  refine lu_aload_n X dX5_playedOut_0 (pc2 := 1) rfl rfl 0 rfl ?_
  refine lu_iload_n X dX5_playedOut_1 (pc2 := 2) rfl rfl 1 rfl ?_
  refine lu_invVv X (c5_start _ a1) rfl q834 mvV_5_start kC_74 lC_74 (by decide) ⟨_, rfl, rfl⟩ rfl rfl (Nat.le_of_ble_eq_true rfl) (Nat.le_of_ble_eq_true rfl) (Nat.le_of_ble_eq_true rfl) ⟨Nat.zero_le _, Nat.zero_le _⟩ dX5_playedOut_2 (pc2 := 5) rfl rfl (fun m1 => ?_)
  refine lu_aload_n X dX5_playedOut_5 (pc2 := 6) rfl rfl 0 rfl ?_
  refine lu_iconst X dX5_playedOut_6 (pc2 := 7) rfl ic_0 ?_
  refine lu_put X fl5_101 rfl (Or.inl (by decide)) rfl (by decide +kernel) kC_74 lC_74 dX5_playedOut_7 (pc2 := 10) rfl (fun m2 => ?_)
  refine lu_aload_n X dX5_playedOut_10 (pc2 := 11) rfl rfl 0 rfl ?_
  refine lu_iconst X dX5_playedOut_11 (pc2 := 12) rfl ic_0 ?_
  refine lu_invVi X (c5_valueFrom _ 6 (0 : Int32)) rfl q881 mvV_5_valueFrom kC_74 lC_74 (by decide) ⟨_, rfl, rfl⟩ rfl rfl (Nat.le_of_ble_eq_true rfl) (Nat.le_of_ble_eq_true rfl) (Nat.le_of_ble_eq_true rfl) ⟨Nat.zero_le _, Nat.zero_le _⟩ dX5_playedOut_12 (pc2 := 15) rfl rfl (fun x3 m4 => ?_)
  exact lu_iret X hret dX5_playedOut_15

theorem dX6_clear_0 : decode cX6_clear 0 = .ok (.aload_n 0, 1) := by decide +kernel
theorem dX6_clear_1 : decode cX6_clear 1 = .ok (.iconst 0, 1) := by decide +kernel
theorem dX6_clear_2 : decode cX6_clear 2 = .ok (.putfield 27, 3) := by decide +kernel
theorem dX6_clear_5 : decode cX6_clear 5 = .ok (.aload_n 0, 1) := by decide +kernel
theorem dX6_clear_6 : decode cX6_clear 6 = .ok (.iconst 0, 1) := by decide +kernel
theorem dX6_clear_7 : decode cX6_clear 7 = .ok (.putfield 31, 3) := by decide +kernel
theorem dX6_clear_10 : decode cX6_clear 10 = .ok (.return_, 1) := by decide +kernel
def f6_clear (r0 : Nat) (m : lu_M) : Option (lu_M) :=
  lu_nm (lu_st m r0 0 (0 : Int32)) fun m1 =>
  lu_nm (lu_st m1 r0 6 (0 : Int32)) fun m2 =>
  some m2
set_option maxRecDepth 20000 in
theorem c6_clear (l : Launch) {r0 : Nat} (hT_r0 : lu_TC.2 r0 = (7, 0, 0)) (hr_r0 : r0 < lu_TC.1)  : lu_C lu_TC l yX6_clear cX6_clear 1 none 0 0 (fun ρ sa => [.ref (ρ r0)]) (f6_clear r0) lu_RVv lu_id := by
  refine lu_met (cls := RX6) rfl (by decide +kernel) (fun _ _ => Nat.le_of_ble_eq_true rfl) ?_
  intro G ρ m hl X hret
  subst hl
  change lu_Ab lu_TC G (lu_Q lu_TC G ρ lu_RVv lu_id) (f6_clear r0 m) 0 [(0, .ref (ρ r0))] [] ρ 0 0 [] m
  unfold f6_clear
  refine lu_aload_n X dX6_clear_0 (pc2 := 1) rfl rfl 0 rfl ?_
  refine lu_iconst X dX6_clear_1 (pc2 := 2) rfl ic_0 ?_
  refine lu_put X fl6_27 rfl (Or.inl (by decide)) rfl (by decide +kernel) hT_r0 hr_r0 dX6_clear_2 (pc2 := 5) rfl (fun m1 => ?_)
  refine lu_aload_n X dX6_clear_5 (pc2 := 6) rfl rfl 0 rfl ?_
  refine lu_iconst X dX6_clear_6 (pc2 := 7) rfl ic_0 ?_
  refine lu_put X fl6_31 rfl (Or.inl (by decide)) rfl (by decide +kernel) hT_r0 hr_r0 dX6_clear_7 (pc2 := 10) rfl (fun m2 => ?_)
  exact lu_vret X hret dX6_clear_10

theorem dX6_copy_0 : decode cX6_copy 0 = .ok (.aload_n 0, 1) := by decide +kernel
theorem dX6_copy_1 : decode cX6_copy 1 = .ok (.aload_n 1, 1) := by decide +kernel
theorem dX6_copy_2 : decode cX6_copy 2 = .ok (.getfield 27, 3) := by decide +kernel
theorem dX6_copy_5 : decode cX6_copy 5 = .ok (.putfield 27, 3) := by decide +kernel
theorem dX6_copy_8 : decode cX6_copy 8 = .ok (.aload_n 0, 1) := by decide +kernel
theorem dX6_copy_9 : decode cX6_copy 9 = .ok (.aload_n 1, 1) := by decide +kernel
theorem dX6_copy_10 : decode cX6_copy 10 = .ok (.getfield 31, 3) := by decide +kernel
theorem dX6_copy_13 : decode cX6_copy 13 = .ok (.putfield 31, 3) := by decide +kernel
theorem dX6_copy_16 : decode cX6_copy 16 = .ok (.iconst 0, 1) := by decide +kernel
theorem dX6_copy_17 : decode cX6_copy 17 = .ok (.istore_n 2, 1) := by decide +kernel
theorem dX6_copy_18 : decode cX6_copy 18 = .ok (.iload_n 2, 1) := by decide +kernel
theorem dX6_copy_19 : decode cX6_copy 19 = .ok (.aload_n 0, 1) := by decide +kernel
theorem dX6_copy_20 : decode cX6_copy 20 = .ok (.getfield 27, 3) := by decide +kernel
theorem dX6_copy_23 : decode cX6_copy 23 = .ok (.if_icmp .ge 57, 3) := by decide +kernel
theorem dX6_copy_26 : decode cX6_copy 26 = .ok (.aload_n 0, 1) := by decide +kernel
theorem dX6_copy_27 : decode cX6_copy 27 = .ok (.getfield 9, 3) := by decide +kernel
theorem dX6_copy_30 : decode cX6_copy 30 = .ok (.iload_n 2, 1) := by decide +kernel
theorem dX6_copy_31 : decode cX6_copy 31 = .ok (.aload_n 1, 1) := by decide +kernel
theorem dX6_copy_32 : decode cX6_copy 32 = .ok (.getfield 9, 3) := by decide +kernel
theorem dX6_copy_35 : decode cX6_copy 35 = .ok (.iload_n 2, 1) := by decide +kernel
theorem dX6_copy_36 : decode cX6_copy 36 = .ok (.iaload, 1) := by decide +kernel
theorem dX6_copy_37 : decode cX6_copy 37 = .ok (.iastore, 1) := by decide +kernel
theorem dX6_copy_38 : decode cX6_copy 38 = .ok (.aload_n 0, 1) := by decide +kernel
theorem dX6_copy_39 : decode cX6_copy 39 = .ok (.getfield 15, 3) := by decide +kernel
theorem dX6_copy_42 : decode cX6_copy 42 = .ok (.iload_n 2, 1) := by decide +kernel
theorem dX6_copy_43 : decode cX6_copy 43 = .ok (.aload_n 1, 1) := by decide +kernel
theorem dX6_copy_44 : decode cX6_copy 44 = .ok (.getfield 15, 3) := by decide +kernel
theorem dX6_copy_47 : decode cX6_copy 47 = .ok (.iload_n 2, 1) := by decide +kernel
theorem dX6_copy_48 : decode cX6_copy 48 = .ok (.iaload, 1) := by decide +kernel
theorem dX6_copy_49 : decode cX6_copy 49 = .ok (.iastore, 1) := by decide +kernel
theorem dX6_copy_50 : decode cX6_copy 50 = .ok (.aload_n 0, 1) := by decide +kernel
theorem dX6_copy_51 : decode cX6_copy 51 = .ok (.getfield 18, 3) := by decide +kernel
theorem dX6_copy_54 : decode cX6_copy 54 = .ok (.iload_n 2, 1) := by decide +kernel
theorem dX6_copy_55 : decode cX6_copy 55 = .ok (.aload_n 1, 1) := by decide +kernel
theorem dX6_copy_56 : decode cX6_copy 56 = .ok (.getfield 18, 3) := by decide +kernel
theorem dX6_copy_59 : decode cX6_copy 59 = .ok (.iload_n 2, 1) := by decide +kernel
theorem dX6_copy_60 : decode cX6_copy 60 = .ok (.iaload, 1) := by decide +kernel
theorem dX6_copy_61 : decode cX6_copy 61 = .ok (.iastore, 1) := by decide +kernel
theorem dX6_copy_62 : decode cX6_copy 62 = .ok (.aload_n 0, 1) := by decide +kernel
theorem dX6_copy_63 : decode cX6_copy 63 = .ok (.getfield 21, 3) := by decide +kernel
theorem dX6_copy_66 : decode cX6_copy 66 = .ok (.iload_n 2, 1) := by decide +kernel
theorem dX6_copy_67 : decode cX6_copy 67 = .ok (.aload_n 1, 1) := by decide +kernel
theorem dX6_copy_68 : decode cX6_copy 68 = .ok (.getfield 21, 3) := by decide +kernel
theorem dX6_copy_71 : decode cX6_copy 71 = .ok (.iload_n 2, 1) := by decide +kernel
theorem dX6_copy_72 : decode cX6_copy 72 = .ok (.iaload, 1) := by decide +kernel
theorem dX6_copy_73 : decode cX6_copy 73 = .ok (.iastore, 1) := by decide +kernel
theorem dX6_copy_74 : decode cX6_copy 74 = .ok (.iinc 2 1, 3) := by decide +kernel
theorem dX6_copy_77 : decode cX6_copy 77 = .ok (.goto (-59), 3) := by decide +kernel
theorem dX6_copy_80 : decode cX6_copy 80 = .ok (.iconst 0, 1) := by decide +kernel
theorem dX6_copy_81 : decode cX6_copy 81 = .ok (.istore_n 2, 1) := by decide +kernel
theorem dX6_copy_82 : decode cX6_copy 82 = .ok (.iload_n 2, 1) := by decide +kernel
theorem dX6_copy_83 : decode cX6_copy 83 = .ok (.aload_n 0, 1) := by decide +kernel
theorem dX6_copy_84 : decode cX6_copy 84 = .ok (.getfield 31, 3) := by decide +kernel
theorem dX6_copy_87 : decode cX6_copy 87 = .ok (.if_icmp .ge 21, 3) := by decide +kernel
theorem dX6_copy_90 : decode cX6_copy 90 = .ok (.aload_n 0, 1) := by decide +kernel
theorem dX6_copy_91 : decode cX6_copy 91 = .ok (.getfield 24, 3) := by decide +kernel
theorem dX6_copy_94 : decode cX6_copy 94 = .ok (.iload_n 2, 1) := by decide +kernel
theorem dX6_copy_95 : decode cX6_copy 95 = .ok (.aload_n 1, 1) := by decide +kernel
theorem dX6_copy_96 : decode cX6_copy 96 = .ok (.getfield 24, 3) := by decide +kernel
theorem dX6_copy_99 : decode cX6_copy 99 = .ok (.iload_n 2, 1) := by decide +kernel
theorem dX6_copy_100 : decode cX6_copy 100 = .ok (.iaload, 1) := by decide +kernel
theorem dX6_copy_101 : decode cX6_copy 101 = .ok (.iastore, 1) := by decide +kernel
theorem dX6_copy_102 : decode cX6_copy 102 = .ok (.iinc 2 1, 3) := by decide +kernel
theorem dX6_copy_105 : decode cX6_copy 105 = .ok (.goto (-23), 3) := by decide +kernel
theorem dX6_copy_108 : decode cX6_copy 108 = .ok (.return_, 1) := by decide +kernel
def f6_copy_b18B (K80 : lu_M → Option (lu_M)) (rec : Int32 → lu_M → Option (lu_M)) (r0 : Nat) (r1 : Nat) (v2 : Int32) (m : lu_M) : Option (lu_M) :=
  if (m r0 0) ≤ v2 then (K80 m)
  else (lu_gd (lu_ib v2 8) <|
  lu_gd (lu_ib v2 8) <|
  lu_nm (lu_st m (r0 + 1) v2.toNatClampNeg (m (r1 + 1) v2.toNatClampNeg)) fun m3 =>
  lu_gd (lu_ib v2 8) <|
  lu_gd (lu_ib v2 8) <|
  lu_nm (lu_st m3 (r0 + 2) v2.toNatClampNeg (m3 (r1 + 2) v2.toNatClampNeg)) fun m4 =>
  lu_gd (lu_ib v2 8) <|
  lu_gd (lu_ib v2 8) <|
  lu_nm (lu_st m4 (r0 + 3) v2.toNatClampNeg (m4 (r1 + 3) v2.toNatClampNeg)) fun m5 =>
  lu_gd (lu_ib v2 8) <|
  lu_gd (lu_ib v2 8) <|
  lu_nm (lu_st m5 (r0 + 4) v2.toNatClampNeg (m5 (r1 + 4) v2.toNatClampNeg)) fun m6 =>
  rec (v2 + (1 : Int32)) m6)
def f6_copy_b18 (K80 : lu_M → Option (lu_M)) (r0 : Nat) (r1 : Nat) : Nat → Int32 → lu_M → Option (lu_M)
  | 0, _, _ => none
  | n + 1, v2, m => f6_copy_b18B K80 (f6_copy_b18 K80 r0 r1 n) r0 r1 v2 m
set_option maxRecDepth 20000 in
theorem w6_copy_b18B  {G : lu_G} {ρ : Nat → Nat} {r0 : Nat} {r1 : Nat} {K80 : lu_M → Option (lu_M)} {rec : Int32 → lu_M → Option (lu_M)} (X : lu_X G RX6 cX6_copy 3 0 0) (hret : (lu_me G).sig.returnType = none) (hT_r0 : lu_TC.2 r0 = (7, 0, 0)) (hr_r0 : r0 < lu_TC.1) (hT_r1 : lu_TC.2 r1 = (7, 0, 0)) (hr_r1 : r1 < lu_TC.1) (hK80 : ∀  (m : lu_M), lu_Ab lu_TC G (lu_Q lu_TC G ρ lu_RVv lu_id) (K80 m) 80 [(0, .ref (ρ r0)), (1, .ref (ρ r1))] [] ρ 0 0 [] m) (hrec : ∀ (v2 : Int32) (m : lu_M), lu_Ab lu_TC G (lu_Q lu_TC G ρ lu_RVv lu_id) (rec v2 m) 18 [(0, .ref (ρ r0)), (1, .ref (ρ r1)), (2, .int v2)] [] ρ 0 0 [] m) : ∀ (v2 : Int32) (m : lu_M), lu_Ab lu_TC G (lu_Q lu_TC G ρ lu_RVv lu_id) (f6_copy_b18B K80 rec r0 r1 v2 m) 18 [(0, .ref (ρ r0)), (1, .ref (ρ r1)), (2, .int v2)] [] ρ 0 0 [] m := by
  intro v2 m
  unfold f6_copy_b18B
  refine lu_iload_n X dX6_copy_18 (pc2 := 19) rfl rfl 2 rfl ?_
  refine lu_aload_n X dX6_copy_19 (pc2 := 20) rfl rfl 0 rfl ?_
  refine lu_get X fl6_27 rfl hT_r0 hr_r0 dX6_copy_20 (pc2 := 23) rfl ?_
  refine lu_icmp_ge (tgt := 80) X dX6_copy_23 (pc2 := 26) rfl (by decide) (fun _ => ?_) (fun _ => ?_)
  · exact lu_sub [0, 1] rfl (hK80 m)
  · refine lu_aload_n X dX6_copy_26 (pc2 := 27) rfl rfl 0 rfl ?_
    refine lu_getr (r2 := (r0 + 1)) X rfl fl6_9 rfl hT_r0 hr_r0 dX6_copy_27 (pc2 := 30) rfl ?_
    refine lu_iload_n X dX6_copy_30 (pc2 := 31) rfl rfl 2 rfl ?_
    refine lu_aload_n X dX6_copy_31 (pc2 := 32) rfl rfl 1 rfl ?_
    refine lu_getr (r2 := (r1 + 1)) X rfl fl6_9 rfl hT_r1 hr_r1 dX6_copy_32 (pc2 := 35) rfl ?_
    refine lu_iload_n X dX6_copy_35 (pc2 := 36) rfl rfl 2 rfl ?_
    refine lu_iald X ((koC_7_1 hT_r1 hr_r1).1) ((koC_7_1 hT_r1 hr_r1).2) dX6_copy_36 (pc2 := 37) rfl ?_
    refine lu_iast X ((koC_7_1 hT_r0 hr_r0).1) ((koC_7_1 hT_r0 hr_r0).2) dX6_copy_37 (pc2 := 38) rfl (fun m3 => ?_)
    refine lu_aload_n X dX6_copy_38 (pc2 := 39) rfl rfl 0 rfl ?_
    refine lu_getr (r2 := (r0 + 2)) X rfl fl6_15 rfl hT_r0 hr_r0 dX6_copy_39 (pc2 := 42) rfl ?_
    refine lu_iload_n X dX6_copy_42 (pc2 := 43) rfl rfl 2 rfl ?_
    refine lu_aload_n X dX6_copy_43 (pc2 := 44) rfl rfl 1 rfl ?_
    refine lu_getr (r2 := (r1 + 2)) X rfl fl6_15 rfl hT_r1 hr_r1 dX6_copy_44 (pc2 := 47) rfl ?_
    refine lu_iload_n X dX6_copy_47 (pc2 := 48) rfl rfl 2 rfl ?_
    refine lu_iald X ((koC_7_2 hT_r1 hr_r1).1) ((koC_7_2 hT_r1 hr_r1).2) dX6_copy_48 (pc2 := 49) rfl ?_
    refine lu_iast X ((koC_7_2 hT_r0 hr_r0).1) ((koC_7_2 hT_r0 hr_r0).2) dX6_copy_49 (pc2 := 50) rfl (fun m4 => ?_)
    refine lu_aload_n X dX6_copy_50 (pc2 := 51) rfl rfl 0 rfl ?_
    refine lu_getr (r2 := (r0 + 3)) X rfl fl6_18 rfl hT_r0 hr_r0 dX6_copy_51 (pc2 := 54) rfl ?_
    refine lu_iload_n X dX6_copy_54 (pc2 := 55) rfl rfl 2 rfl ?_
    refine lu_aload_n X dX6_copy_55 (pc2 := 56) rfl rfl 1 rfl ?_
    refine lu_getr (r2 := (r1 + 3)) X rfl fl6_18 rfl hT_r1 hr_r1 dX6_copy_56 (pc2 := 59) rfl ?_
    refine lu_iload_n X dX6_copy_59 (pc2 := 60) rfl rfl 2 rfl ?_
    refine lu_iald X ((koC_7_3 hT_r1 hr_r1).1) ((koC_7_3 hT_r1 hr_r1).2) dX6_copy_60 (pc2 := 61) rfl ?_
    refine lu_iast X ((koC_7_3 hT_r0 hr_r0).1) ((koC_7_3 hT_r0 hr_r0).2) dX6_copy_61 (pc2 := 62) rfl (fun m5 => ?_)
    refine lu_aload_n X dX6_copy_62 (pc2 := 63) rfl rfl 0 rfl ?_
    refine lu_getr (r2 := (r0 + 4)) X rfl fl6_21 rfl hT_r0 hr_r0 dX6_copy_63 (pc2 := 66) rfl ?_
    refine lu_iload_n X dX6_copy_66 (pc2 := 67) rfl rfl 2 rfl ?_
    refine lu_aload_n X dX6_copy_67 (pc2 := 68) rfl rfl 1 rfl ?_
    refine lu_getr (r2 := (r1 + 4)) X rfl fl6_21 rfl hT_r1 hr_r1 dX6_copy_68 (pc2 := 71) rfl ?_
    refine lu_iload_n X dX6_copy_71 (pc2 := 72) rfl rfl 2 rfl ?_
    refine lu_iald X ((koC_7_4 hT_r1 hr_r1).1) ((koC_7_4 hT_r1 hr_r1).2) dX6_copy_72 (pc2 := 73) rfl ?_
    refine lu_iast X ((koC_7_4 hT_r0 hr_r0).1) ((koC_7_4 hT_r0 hr_r0).2) dX6_copy_73 (pc2 := 74) rfl (fun m6 => ?_)
    refine lu_iinc (lv2 := [(2, .int (v2 + (1 : Int32))), (0, .ref (ρ r0)), (1, .ref (ρ r1))]) X dX6_copy_74 (pc2 := 77) rfl 2 rfl (lu_ii _ ic_1) (by decide) rfl ?_
    refine lu_goto (tgt := 18) X dX6_copy_77 (by decide) ?_
    exact lu_sub [1, 2, 0] rfl (hrec (v2 + (1 : Int32)) m6)
theorem w6_copy_b18  {G : lu_G} {ρ : Nat → Nat} {r0 : Nat} {r1 : Nat} {K80 : lu_M → Option (lu_M)} (X : lu_X G RX6 cX6_copy 3 0 0) (hret : (lu_me G).sig.returnType = none) (hT_r0 : lu_TC.2 r0 = (7, 0, 0)) (hr_r0 : r0 < lu_TC.1) (hT_r1 : lu_TC.2 r1 = (7, 0, 0)) (hr_r1 : r1 < lu_TC.1) (hK80 : ∀  (m : lu_M), lu_Ab lu_TC G (lu_Q lu_TC G ρ lu_RVv lu_id) (K80 m) 80 [(0, .ref (ρ r0)), (1, .ref (ρ r1))] [] ρ 0 0 [] m) : ∀ (n : Nat) (v2 : Int32) (m : lu_M), lu_Ab lu_TC G (lu_Q lu_TC G ρ lu_RVv lu_id) (f6_copy_b18 K80 r0 r1 n v2 m) 18 [(0, .ref (ρ r0)), (1, .ref (ρ r1)), (2, .int v2)] [] ρ 0 0 [] m := by
  intro n
  induction n with
  | zero => intro v2 m; exact lu_none
  | succ n ih => intro v2 m; exact w6_copy_b18B X hret hT_r0 hr_r0 hT_r1 hr_r1 hK80 ih v2 m
def f6_copy_b82B (K108 : lu_M → Option (lu_M)) (rec : Int32 → lu_M → Option (lu_M)) (r0 : Nat) (r1 : Nat) (v2 : Int32) (m : lu_M) : Option (lu_M) :=
  if (m r0 6) ≤ v2 then (K108 m)
  else (lu_gd (lu_ib v2 200) <|
  lu_gd (lu_ib v2 200) <|
  lu_nm (lu_st m (r0 + 5) v2.toNatClampNeg (m (r1 + 5) v2.toNatClampNeg)) fun m7 =>
  rec (v2 + (1 : Int32)) m7)
def f6_copy_b82 (K108 : lu_M → Option (lu_M)) (r0 : Nat) (r1 : Nat) : Nat → Int32 → lu_M → Option (lu_M)
  | 0, _, _ => none
  | n + 1, v2, m => f6_copy_b82B K108 (f6_copy_b82 K108 r0 r1 n) r0 r1 v2 m
set_option maxRecDepth 20000 in
theorem w6_copy_b82B  {G : lu_G} {ρ : Nat → Nat} {r0 : Nat} {r1 : Nat} {K108 : lu_M → Option (lu_M)} {rec : Int32 → lu_M → Option (lu_M)} (X : lu_X G RX6 cX6_copy 3 0 0) (hret : (lu_me G).sig.returnType = none) (hT_r0 : lu_TC.2 r0 = (7, 0, 0)) (hr_r0 : r0 < lu_TC.1) (hT_r1 : lu_TC.2 r1 = (7, 0, 0)) (hr_r1 : r1 < lu_TC.1) (hK108 : ∀  (m : lu_M), lu_Ab lu_TC G (lu_Q lu_TC G ρ lu_RVv lu_id) (K108 m) 108 [] [] ρ 0 0 [] m) (hrec : ∀ (v2 : Int32) (m : lu_M), lu_Ab lu_TC G (lu_Q lu_TC G ρ lu_RVv lu_id) (rec v2 m) 82 [(0, .ref (ρ r0)), (1, .ref (ρ r1)), (2, .int v2)] [] ρ 0 0 [] m) : ∀ (v2 : Int32) (m : lu_M), lu_Ab lu_TC G (lu_Q lu_TC G ρ lu_RVv lu_id) (f6_copy_b82B K108 rec r0 r1 v2 m) 82 [(0, .ref (ρ r0)), (1, .ref (ρ r1)), (2, .int v2)] [] ρ 0 0 [] m := by
  intro v2 m
  unfold f6_copy_b82B
  refine lu_iload_n X dX6_copy_82 (pc2 := 83) rfl rfl 2 rfl ?_
  refine lu_aload_n X dX6_copy_83 (pc2 := 84) rfl rfl 0 rfl ?_
  refine lu_get X fl6_31 rfl hT_r0 hr_r0 dX6_copy_84 (pc2 := 87) rfl ?_
  refine lu_icmp_ge (tgt := 108) X dX6_copy_87 (pc2 := 90) rfl (by decide) (fun _ => ?_) (fun _ => ?_)
  · exact lu_sub [] rfl (hK108 m)
  · refine lu_aload_n X dX6_copy_90 (pc2 := 91) rfl rfl 0 rfl ?_
    refine lu_getr (r2 := (r0 + 5)) X rfl fl6_24 rfl hT_r0 hr_r0 dX6_copy_91 (pc2 := 94) rfl ?_
    refine lu_iload_n X dX6_copy_94 (pc2 := 95) rfl rfl 2 rfl ?_
    refine lu_aload_n X dX6_copy_95 (pc2 := 96) rfl rfl 1 rfl ?_
    refine lu_getr (r2 := (r1 + 5)) X rfl fl6_24 rfl hT_r1 hr_r1 dX6_copy_96 (pc2 := 99) rfl ?_
    refine lu_iload_n X dX6_copy_99 (pc2 := 100) rfl rfl 2 rfl ?_
    refine lu_iald X ((koC_7_5 hT_r1 hr_r1).1) ((koC_7_5 hT_r1 hr_r1).2) dX6_copy_100 (pc2 := 101) rfl ?_
    refine lu_iast X ((koC_7_5 hT_r0 hr_r0).1) ((koC_7_5 hT_r0 hr_r0).2) dX6_copy_101 (pc2 := 102) rfl (fun m7 => ?_)
    refine lu_iinc (lv2 := [(2, .int (v2 + (1 : Int32))), (0, .ref (ρ r0)), (1, .ref (ρ r1))]) X dX6_copy_102 (pc2 := 105) rfl 2 rfl (lu_ii _ ic_1) (by decide) rfl ?_
    refine lu_goto (tgt := 82) X dX6_copy_105 (by decide) ?_
    exact lu_sub [1, 2, 0] rfl (hrec (v2 + (1 : Int32)) m7)
theorem w6_copy_b82  {G : lu_G} {ρ : Nat → Nat} {r0 : Nat} {r1 : Nat} {K108 : lu_M → Option (lu_M)} (X : lu_X G RX6 cX6_copy 3 0 0) (hret : (lu_me G).sig.returnType = none) (hT_r0 : lu_TC.2 r0 = (7, 0, 0)) (hr_r0 : r0 < lu_TC.1) (hT_r1 : lu_TC.2 r1 = (7, 0, 0)) (hr_r1 : r1 < lu_TC.1) (hK108 : ∀  (m : lu_M), lu_Ab lu_TC G (lu_Q lu_TC G ρ lu_RVv lu_id) (K108 m) 108 [] [] ρ 0 0 [] m) : ∀ (n : Nat) (v2 : Int32) (m : lu_M), lu_Ab lu_TC G (lu_Q lu_TC G ρ lu_RVv lu_id) (f6_copy_b82 K108 r0 r1 n v2 m) 82 [(0, .ref (ρ r0)), (1, .ref (ρ r1)), (2, .int v2)] [] ρ 0 0 [] m := by
  intro n
  induction n with
  | zero => intro v2 m; exact lu_none
  | succ n ih => intro v2 m; exact w6_copy_b82B X hret hT_r0 hr_r0 hT_r1 hr_r1 hK108 ih v2 m
def f6_copy_b108  (r0 : Nat) (r1 : Nat)  (m : lu_M) : Option (lu_M) :=
  some m
set_option maxRecDepth 20000 in
theorem w6_copy_b108  {G : lu_G} {ρ : Nat → Nat} {r0 : Nat} {r1 : Nat}  (X : lu_X G RX6 cX6_copy 3 0 0) (hret : (lu_me G).sig.returnType = none) (hT_r0 : lu_TC.2 r0 = (7, 0, 0)) (hr_r0 : r0 < lu_TC.1) (hT_r1 : lu_TC.2 r1 = (7, 0, 0)) (hr_r1 : r1 < lu_TC.1)  : ∀  (m : lu_M), lu_Ab lu_TC G (lu_Q lu_TC G ρ lu_RVv lu_id) (f6_copy_b108 r0 r1 m) 108 [] [] ρ 0 0 [] m := by
  intro  m
  unfold f6_copy_b108
  exact lu_vret X hret dX6_copy_108
def f6_copy_b80  (r0 : Nat) (r1 : Nat)  (m : lu_M) : Option (lu_M) :=
  f6_copy_b82 (f6_copy_b108 r0 r1) r0 r1 lu_fu (0 : Int32) m
set_option maxRecDepth 20000 in
theorem w6_copy_b80  {G : lu_G} {ρ : Nat → Nat} {r0 : Nat} {r1 : Nat}  (X : lu_X G RX6 cX6_copy 3 0 0) (hret : (lu_me G).sig.returnType = none) (hT_r0 : lu_TC.2 r0 = (7, 0, 0)) (hr_r0 : r0 < lu_TC.1) (hT_r1 : lu_TC.2 r1 = (7, 0, 0)) (hr_r1 : r1 < lu_TC.1)  : ∀  (m : lu_M), lu_Ab lu_TC G (lu_Q lu_TC G ρ lu_RVv lu_id) (f6_copy_b80 r0 r1 m) 80 [(0, .ref (ρ r0)), (1, .ref (ρ r1))] [] ρ 0 0 [] m := by
  intro  m
  unfold f6_copy_b80
  refine lu_iconst X dX6_copy_80 (pc2 := 81) rfl ic_0 ?_
  refine lu_istore_n (lv2 := [(2, .int (0 : Int32)), (0, .ref (ρ r0)), (1, .ref (ρ r1))]) X dX6_copy_81 (pc2 := 82) rfl rfl (by decide) rfl ?_
  exact lu_sub [1, 2, 0] rfl (w6_copy_b82 X hret hT_r0 hr_r0 hT_r1 hr_r1 (w6_copy_b108 X hret hT_r0 hr_r0 hT_r1 hr_r1) lu_fu (0 : Int32) m)
def f6_copy (r0 : Nat) (r1 : Nat) (m : lu_M) : Option (lu_M) :=
  lu_nm (lu_st m r0 0 (m r1 0)) fun m1 =>
  lu_nm (lu_st m1 r0 6 (m1 r1 6)) fun m2 =>
  f6_copy_b18 (f6_copy_b80 r0 r1) r0 r1 lu_fu (0 : Int32) m2
set_option maxRecDepth 20000 in
theorem c6_copy (l : Launch) {r0 : Nat} {r1 : Nat} (hT_r0 : lu_TC.2 r0 = (7, 0, 0)) (hr_r0 : r0 < lu_TC.1) (hT_r1 : lu_TC.2 r1 = (7, 0, 0)) (hr_r1 : r1 < lu_TC.1)  : lu_C lu_TC l yX6_copy cX6_copy 3 none 0 0 (fun ρ sa => [.ref (ρ r0), .ref (ρ r1)]) (f6_copy r0 r1) lu_RVv lu_id := by
  refine lu_met (cls := RX6) rfl (by decide +kernel) (fun _ _ => Nat.le_of_ble_eq_true rfl) ?_
  intro G ρ m hl X hret
  subst hl
  change lu_Ab lu_TC G (lu_Q lu_TC G ρ lu_RVv lu_id) (f6_copy r0 r1 m) 0 [(0, .ref (ρ r0)), (1, .ref (ρ r1))] [] ρ 0 0 [] m
  unfold f6_copy
  refine lu_aload_n X dX6_copy_0 (pc2 := 1) rfl rfl 0 rfl ?_
  refine lu_aload_n X dX6_copy_1 (pc2 := 2) rfl rfl 1 rfl ?_
  refine lu_get X fl6_27 rfl hT_r1 hr_r1 dX6_copy_2 (pc2 := 5) rfl ?_
  refine lu_put X fl6_27 rfl (Or.inl (by decide)) rfl (by decide +kernel) hT_r0 hr_r0 dX6_copy_5 (pc2 := 8) rfl (fun m1 => ?_)
  refine lu_aload_n X dX6_copy_8 (pc2 := 9) rfl rfl 0 rfl ?_
  refine lu_aload_n X dX6_copy_9 (pc2 := 10) rfl rfl 1 rfl ?_
  refine lu_get X fl6_31 rfl hT_r1 hr_r1 dX6_copy_10 (pc2 := 13) rfl ?_
  refine lu_put X fl6_31 rfl (Or.inl (by decide)) rfl (by decide +kernel) hT_r0 hr_r0 dX6_copy_13 (pc2 := 16) rfl (fun m2 => ?_)
  refine lu_iconst X dX6_copy_16 (pc2 := 17) rfl ic_0 ?_
  refine lu_istore_n (lv2 := [(2, .int (0 : Int32)), (0, .ref (ρ r0)), (1, .ref (ρ r1))]) X dX6_copy_17 (pc2 := 18) rfl rfl (by decide) rfl ?_
  exact lu_sub [1, 2, 0] rfl (w6_copy_b18 X hret hT_r0 hr_r0 hT_r1 hr_r1 (w6_copy_b80 X hret hT_r0 hr_r0 hT_r1 hr_r1) lu_fu (0 : Int32) m2)

theorem dX6_add_0 : decode cX6_add 0 = .ok (.aload_n 0, 1) := by decide +kernel
theorem dX6_add_1 : decode cX6_add 1 = .ok (.getfield 31, 3) := by decide +kernel
theorem dX6_add_4 : decode cX6_add 4 = .ok (.sipush 200, 3) := by decide +kernel
theorem dX6_add_7 : decode cX6_add 7 = .ok (.if_icmp .lt 4, 3) := by decide +kernel
theorem dX6_add_10 : decode cX6_add 10 = .ok (.return_, 1) := by decide +kernel
theorem dX6_add_11 : decode cX6_add 11 = .ok (.aload_n 0, 1) := by decide +kernel
theorem dX6_add_12 : decode cX6_add 12 = .ok (.getfield 24, 3) := by decide +kernel
theorem dX6_add_15 : decode cX6_add 15 = .ok (.aload_n 0, 1) := by decide +kernel
theorem dX6_add_16 : decode cX6_add 16 = .ok (.getfield 31, 3) := by decide +kernel
theorem dX6_add_19 : decode cX6_add 19 = .ok (.iload_n 1, 1) := by decide +kernel
theorem dX6_add_20 : decode cX6_add 20 = .ok (.iastore, 1) := by decide +kernel
theorem dX6_add_21 : decode cX6_add 21 = .ok (.aload_n 0, 1) := by decide +kernel
theorem dX6_add_22 : decode cX6_add 22 = .ok (.dup, 1) := by decide +kernel
theorem dX6_add_23 : decode cX6_add 23 = .ok (.getfield 31, 3) := by decide +kernel
theorem dX6_add_26 : decode cX6_add 26 = .ok (.iconst 1, 1) := by decide +kernel
theorem dX6_add_27 : decode cX6_add 27 = .ok (.iadd, 1) := by decide +kernel
theorem dX6_add_28 : decode cX6_add 28 = .ok (.putfield 31, 3) := by decide +kernel
theorem dX6_add_31 : decode cX6_add 31 = .ok (.return_, 1) := by decide +kernel
def f6_add (r0 : Nat) (a1 : Int32) (m : lu_M) : Option (lu_M) :=
  if (m r0 6) < (200 : Int32) then (lu_gd (lu_ib (m r0 6) 200) <|
  lu_nm (lu_st m (r0 + 5) (m r0 6).toNatClampNeg a1) fun m1 =>
  lu_nm (lu_st m1 r0 6 ((m1 r0 6) + (1 : Int32))) fun m2 =>
  some m2)
  else (some m)
set_option maxRecDepth 20000 in
theorem c6_add (l : Launch) {r0 : Nat} (hT_r0 : lu_TC.2 r0 = (7, 0, 0)) (hr_r0 : r0 < lu_TC.1) (a1 : Int32) : lu_C lu_TC l yX6_add cX6_add 2 none 0 0 (fun ρ sa => [.ref (ρ r0), .int a1]) (f6_add r0 a1) lu_RVv lu_id := by
  refine lu_met (cls := RX6) rfl (by decide +kernel) (fun _ _ => Nat.le_of_ble_eq_true rfl) ?_
  intro G ρ m hl X hret
  subst hl
  change lu_Ab lu_TC G (lu_Q lu_TC G ρ lu_RVv lu_id) (f6_add r0 a1 m) 0 [(0, .ref (ρ r0)), (1, .int a1)] [] ρ 0 0 [] m
  unfold f6_add
  refine lu_aload_n X dX6_add_0 (pc2 := 1) rfl rfl 0 rfl ?_
  refine lu_get X fl6_31 rfl hT_r0 hr_r0 dX6_add_1 (pc2 := 4) rfl ?_
  refine lu_sipush X dX6_add_4 (pc2 := 7) rfl sp_200 ?_
  refine lu_icmp_lt (tgt := 11) X dX6_add_7 (pc2 := 10) rfl (by decide) (fun _ => ?_) (fun _ => ?_)
  · refine lu_aload_n X dX6_add_11 (pc2 := 12) rfl rfl 0 rfl ?_
    refine lu_getr (r2 := (r0 + 5)) X rfl fl6_24 rfl hT_r0 hr_r0 dX6_add_12 (pc2 := 15) rfl ?_
    refine lu_aload_n X dX6_add_15 (pc2 := 16) rfl rfl 0 rfl ?_
    refine lu_get X fl6_31 rfl hT_r0 hr_r0 dX6_add_16 (pc2 := 19) rfl ?_
    refine lu_iload_n X dX6_add_19 (pc2 := 20) rfl rfl 1 rfl ?_
    refine lu_iast X ((koC_7_5 hT_r0 hr_r0).1) ((koC_7_5 hT_r0 hr_r0).2) dX6_add_20 (pc2 := 21) rfl (fun m1 => ?_)
    refine lu_aload_n X dX6_add_21 (pc2 := 22) rfl rfl 0 rfl ?_
    refine lu_dup X dX6_add_22 (pc2 := 23) rfl rfl ?_
    refine lu_get X fl6_31 rfl hT_r0 hr_r0 dX6_add_23 (pc2 := 26) rfl ?_
    refine lu_iconst X dX6_add_26 (pc2 := 27) rfl ic_1 ?_
    refine lu_iadd X dX6_add_27 (pc2 := 28) rfl ?_
    refine lu_put X fl6_31 rfl (Or.inl (by decide)) rfl (by decide +kernel) hT_r0 hr_r0 dX6_add_28 (pc2 := 31) rfl (fun m2 => ?_)
    exact lu_vret X hret dX6_add_31
  · exact lu_vret X hret dX6_add_10

theorem dX6_close_0 : decode cX6_close 0 = .ok (.aload_n 0, 1) := by decide +kernel
theorem dX6_close_1 : decode cX6_close 1 = .ok (.getfield 27, 3) := by decide +kernel
theorem dX6_close_4 : decode cX6_close 4 = .ok (.bipush 8, 2) := by decide +kernel
theorem dX6_close_6 : decode cX6_close 6 = .ok (.if_icmp .lt 4, 3) := by decide +kernel
theorem dX6_close_9 : decode cX6_close 9 = .ok (.return_, 1) := by decide +kernel
theorem dX6_close_10 : decode cX6_close 10 = .ok (.aload_n 0, 1) := by decide +kernel
theorem dX6_close_11 : decode cX6_close 11 = .ok (.getfield 9, 3) := by decide +kernel
theorem dX6_close_14 : decode cX6_close 14 = .ok (.aload_n 0, 1) := by decide +kernel
theorem dX6_close_15 : decode cX6_close 15 = .ok (.getfield 27, 3) := by decide +kernel
theorem dX6_close_18 : decode cX6_close 18 = .ok (.iload_n 1, 1) := by decide +kernel
theorem dX6_close_19 : decode cX6_close 19 = .ok (.iastore, 1) := by decide +kernel
theorem dX6_close_20 : decode cX6_close 20 = .ok (.aload_n 0, 1) := by decide +kernel
theorem dX6_close_21 : decode cX6_close 21 = .ok (.getfield 15, 3) := by decide +kernel
theorem dX6_close_24 : decode cX6_close 24 = .ok (.aload_n 0, 1) := by decide +kernel
theorem dX6_close_25 : decode cX6_close 25 = .ok (.getfield 27, 3) := by decide +kernel
theorem dX6_close_28 : decode cX6_close 28 = .ok (.iload_n 2, 1) := by decide +kernel
theorem dX6_close_29 : decode cX6_close 29 = .ok (.iastore, 1) := by decide +kernel
theorem dX6_close_30 : decode cX6_close 30 = .ok (.aload_n 0, 1) := by decide +kernel
theorem dX6_close_31 : decode cX6_close 31 = .ok (.getfield 18, 3) := by decide +kernel
theorem dX6_close_34 : decode cX6_close 34 = .ok (.aload_n 0, 1) := by decide +kernel
theorem dX6_close_35 : decode cX6_close 35 = .ok (.getfield 27, 3) := by decide +kernel
theorem dX6_close_38 : decode cX6_close 38 = .ok (.iload_n 3, 1) := by decide +kernel
theorem dX6_close_39 : decode cX6_close 39 = .ok (.iastore, 1) := by decide +kernel
theorem dX6_close_40 : decode cX6_close 40 = .ok (.aload_n 0, 1) := by decide +kernel
theorem dX6_close_41 : decode cX6_close 41 = .ok (.getfield 21, 3) := by decide +kernel
theorem dX6_close_44 : decode cX6_close 44 = .ok (.aload_n 0, 1) := by decide +kernel
theorem dX6_close_45 : decode cX6_close 45 = .ok (.getfield 27, 3) := by decide +kernel
theorem dX6_close_48 : decode cX6_close 48 = .ok (.aload_n 0, 1) := by decide +kernel
theorem dX6_close_49 : decode cX6_close 49 = .ok (.getfield 31, 3) := by decide +kernel
theorem dX6_close_52 : decode cX6_close 52 = .ok (.iastore, 1) := by decide +kernel
theorem dX6_close_53 : decode cX6_close 53 = .ok (.aload_n 0, 1) := by decide +kernel
theorem dX6_close_54 : decode cX6_close 54 = .ok (.dup, 1) := by decide +kernel
theorem dX6_close_55 : decode cX6_close 55 = .ok (.getfield 27, 3) := by decide +kernel
theorem dX6_close_58 : decode cX6_close 58 = .ok (.iconst 1, 1) := by decide +kernel
theorem dX6_close_59 : decode cX6_close 59 = .ok (.iadd, 1) := by decide +kernel
theorem dX6_close_60 : decode cX6_close 60 = .ok (.putfield 27, 3) := by decide +kernel
theorem dX6_close_63 : decode cX6_close 63 = .ok (.return_, 1) := by decide +kernel
def f6_close (r0 : Nat) (a1 : Int32) (a2 : Int32) (a3 : Int32) (m : lu_M) : Option (lu_M) :=
  if (m r0 0) < (8 : Int32) then (lu_gd (lu_ib (m r0 0) 8) <|
  lu_nm (lu_st m (r0 + 1) (m r0 0).toNatClampNeg a1) fun m1 =>
  lu_gd (lu_ib (m1 r0 0) 8) <|
  lu_nm (lu_st m1 (r0 + 2) (m1 r0 0).toNatClampNeg a2) fun m2 =>
  lu_gd (lu_ib (m2 r0 0) 8) <|
  lu_nm (lu_st m2 (r0 + 3) (m2 r0 0).toNatClampNeg a3) fun m3 =>
  lu_gd (lu_ib (m3 r0 0) 8) <|
  lu_nm (lu_st m3 (r0 + 4) (m3 r0 0).toNatClampNeg (m3 r0 6)) fun m4 =>
  lu_nm (lu_st m4 r0 0 ((m4 r0 0) + (1 : Int32))) fun m5 =>
  some m5)
  else (some m)
set_option maxRecDepth 20000 in
theorem c6_close (l : Launch) {r0 : Nat} (hT_r0 : lu_TC.2 r0 = (7, 0, 0)) (hr_r0 : r0 < lu_TC.1) (a1 : Int32) (a2 : Int32) (a3 : Int32) : lu_C lu_TC l yX6_close cX6_close 4 none 0 0 (fun ρ sa => [.ref (ρ r0), .int a1, .int a2, .int a3]) (f6_close r0 a1 a2 a3) lu_RVv lu_id := by
  refine lu_met (cls := RX6) rfl (by decide +kernel) (fun _ _ => Nat.le_of_ble_eq_true rfl) ?_
  intro G ρ m hl X hret
  subst hl
  change lu_Ab lu_TC G (lu_Q lu_TC G ρ lu_RVv lu_id) (f6_close r0 a1 a2 a3 m) 0 [(0, .ref (ρ r0)), (1, .int a1), (2, .int a2), (3, .int a3)] [] ρ 0 0 [] m
  unfold f6_close
  refine lu_aload_n X dX6_close_0 (pc2 := 1) rfl rfl 0 rfl ?_
  refine lu_get X fl6_27 rfl hT_r0 hr_r0 dX6_close_1 (pc2 := 4) rfl ?_
  refine lu_bipush X dX6_close_4 (pc2 := 6) rfl bp_8 ?_
  refine lu_icmp_lt (tgt := 10) X dX6_close_6 (pc2 := 9) rfl (by decide) (fun _ => ?_) (fun _ => ?_)
  · refine lu_aload_n X dX6_close_10 (pc2 := 11) rfl rfl 0 rfl ?_
    refine lu_getr (r2 := (r0 + 1)) X rfl fl6_9 rfl hT_r0 hr_r0 dX6_close_11 (pc2 := 14) rfl ?_
    refine lu_aload_n X dX6_close_14 (pc2 := 15) rfl rfl 0 rfl ?_
    refine lu_get X fl6_27 rfl hT_r0 hr_r0 dX6_close_15 (pc2 := 18) rfl ?_
    refine lu_iload_n X dX6_close_18 (pc2 := 19) rfl rfl 1 rfl ?_
    refine lu_iast X ((koC_7_1 hT_r0 hr_r0).1) ((koC_7_1 hT_r0 hr_r0).2) dX6_close_19 (pc2 := 20) rfl (fun m1 => ?_)
    refine lu_aload_n X dX6_close_20 (pc2 := 21) rfl rfl 0 rfl ?_
    refine lu_getr (r2 := (r0 + 2)) X rfl fl6_15 rfl hT_r0 hr_r0 dX6_close_21 (pc2 := 24) rfl ?_
    refine lu_aload_n X dX6_close_24 (pc2 := 25) rfl rfl 0 rfl ?_
    refine lu_get X fl6_27 rfl hT_r0 hr_r0 dX6_close_25 (pc2 := 28) rfl ?_
    refine lu_iload_n X dX6_close_28 (pc2 := 29) rfl rfl 2 rfl ?_
    refine lu_iast X ((koC_7_2 hT_r0 hr_r0).1) ((koC_7_2 hT_r0 hr_r0).2) dX6_close_29 (pc2 := 30) rfl (fun m2 => ?_)
    refine lu_aload_n X dX6_close_30 (pc2 := 31) rfl rfl 0 rfl ?_
    refine lu_getr (r2 := (r0 + 3)) X rfl fl6_18 rfl hT_r0 hr_r0 dX6_close_31 (pc2 := 34) rfl ?_
    refine lu_aload_n X dX6_close_34 (pc2 := 35) rfl rfl 0 rfl ?_
    refine lu_get X fl6_27 rfl hT_r0 hr_r0 dX6_close_35 (pc2 := 38) rfl ?_
    refine lu_iload_n X dX6_close_38 (pc2 := 39) rfl rfl 3 rfl ?_
    refine lu_iast X ((koC_7_3 hT_r0 hr_r0).1) ((koC_7_3 hT_r0 hr_r0).2) dX6_close_39 (pc2 := 40) rfl (fun m3 => ?_)
    refine lu_aload_n X dX6_close_40 (pc2 := 41) rfl rfl 0 rfl ?_
    refine lu_getr (r2 := (r0 + 4)) X rfl fl6_21 rfl hT_r0 hr_r0 dX6_close_41 (pc2 := 44) rfl ?_
    refine lu_aload_n X dX6_close_44 (pc2 := 45) rfl rfl 0 rfl ?_
    refine lu_get X fl6_27 rfl hT_r0 hr_r0 dX6_close_45 (pc2 := 48) rfl ?_
    refine lu_aload_n X dX6_close_48 (pc2 := 49) rfl rfl 0 rfl ?_
    refine lu_get X fl6_31 rfl hT_r0 hr_r0 dX6_close_49 (pc2 := 52) rfl ?_
    refine lu_iast X ((koC_7_4 hT_r0 hr_r0).1) ((koC_7_4 hT_r0 hr_r0).2) dX6_close_52 (pc2 := 53) rfl (fun m4 => ?_)
    refine lu_aload_n X dX6_close_53 (pc2 := 54) rfl rfl 0 rfl ?_
    refine lu_dup X dX6_close_54 (pc2 := 55) rfl rfl ?_
    refine lu_get X fl6_27 rfl hT_r0 hr_r0 dX6_close_55 (pc2 := 58) rfl ?_
    refine lu_iconst X dX6_close_58 (pc2 := 59) rfl ic_1 ?_
    refine lu_iadd X dX6_close_59 (pc2 := 60) rfl ?_
    refine lu_put X fl6_27 rfl (Or.inl (by decide)) rfl (by decide +kernel) hT_r0 hr_r0 dX6_close_60 (pc2 := 63) rfl (fun m5 => ?_)
    exact lu_vret X hret dX6_close_63
  · exact lu_vret X hret dX6_close_9

theorem dX8_isAt_0 : decode cX8_isAt 0 = .ok (.iload_n 1, 1) := by decide +kernel
theorem dX8_isAt_1 : decode cX8_isAt 1 = .ok (.ifCond .lt 35, 3) := by decide +kernel
theorem dX8_isAt_4 : decode cX8_isAt 4 = .ok (.iload_n 1, 1) := by decide +kernel
theorem dX8_isAt_5 : decode cX8_isAt 5 = .ok (.aload_n 0, 1) := by decide +kernel
theorem dX8_isAt_6 : decode cX8_isAt 6 = .ok (.getfield 45, 3) := by decide +kernel
theorem dX8_isAt_9 : decode cX8_isAt 9 = .ok (.if_icmp .ge 27, 3) := by decide +kernel
theorem dX8_isAt_12 : decode cX8_isAt 12 = .ok (.aload_n 0, 1) := by decide +kernel
theorem dX8_isAt_13 : decode cX8_isAt 13 = .ok (.getfield 9, 3) := by decide +kernel
theorem dX8_isAt_16 : decode cX8_isAt 16 = .ok (.iload_n 1, 1) := by decide +kernel
theorem dX8_isAt_17 : decode cX8_isAt 17 = .ok (.iaload, 1) := by decide +kernel
theorem dX8_isAt_18 : decode cX8_isAt 18 = .ok (.iload_n 2, 1) := by decide +kernel
theorem dX8_isAt_19 : decode cX8_isAt 19 = .ok (.if_icmp .lt 17, 3) := by decide +kernel
theorem dX8_isAt_22 : decode cX8_isAt 22 = .ok (.aload_n 0, 1) := by decide +kernel
theorem dX8_isAt_23 : decode cX8_isAt 23 = .ok (.getfield 9, 3) := by decide +kernel
theorem dX8_isAt_26 : decode cX8_isAt 26 = .ok (.iload_n 1, 1) := by decide +kernel
theorem dX8_isAt_27 : decode cX8_isAt 27 = .ok (.iaload, 1) := by decide +kernel
theorem dX8_isAt_28 : decode cX8_isAt 28 = .ok (.iload_n 3, 1) := by decide +kernel
theorem dX8_isAt_29 : decode cX8_isAt 29 = .ok (.if_icmp .gt 7, 3) := by decide +kernel
theorem dX8_isAt_32 : decode cX8_isAt 32 = .ok (.iconst 1, 1) := by decide +kernel
theorem dX8_isAt_33 : decode cX8_isAt 33 = .ok (.goto 4, 3) := by decide +kernel
theorem dX8_isAt_36 : decode cX8_isAt 36 = .ok (.iconst 0, 1) := by decide +kernel
theorem dX8_isAt_37 : decode cX8_isAt 37 = .ok (.ireturn, 1) := by decide +kernel
def f8_isAt_b37  (a1 : Int32) (a2 : Int32) (a3 : Int32) (s0 : Int32) (m : lu_M) : Option (Int32 × lu_M) :=
  lu_gd (decide (s0 = 0 ∨ s0 = 1)) (some (s0, m))
set_option maxRecDepth 20000 in
theorem w8_isAt_b37  {G : lu_G} {ρ : Nat → Nat} {a1 : Int32} {a2 : Int32} {a3 : Int32}  (X : lu_X G RX8 cX8_isAt 4 0 0) (hret : (lu_me G).sig.returnType = (some .boolean))   : ∀ (s0 : Int32) (m : lu_M), lu_Ab lu_TC G (lu_Q lu_TC G ρ lu_RVi lu_sn) (f8_isAt_b37 a1 a2 a3 s0 m) 37 [] [.int s0] ρ 0 0 [] m := by
  intro s0 m
  unfold f8_isAt_b37
  exact lu_zretG X hret dX8_isAt_37
def f8_isAt_b36  (a1 : Int32) (a2 : Int32) (a3 : Int32)  (m : lu_M) : Option (Int32 × lu_M) :=
  f8_isAt_b37 a1 a2 a3 (0 : Int32) m
set_option maxRecDepth 20000 in
theorem w8_isAt_b36  {G : lu_G} {ρ : Nat → Nat} {a1 : Int32} {a2 : Int32} {a3 : Int32}  (X : lu_X G RX8 cX8_isAt 4 0 0) (hret : (lu_me G).sig.returnType = (some .boolean))   : ∀  (m : lu_M), lu_Ab lu_TC G (lu_Q lu_TC G ρ lu_RVi lu_sn) (f8_isAt_b36 a1 a2 a3 m) 36 [] [] ρ 0 0 [] m := by
  intro  m
  unfold f8_isAt_b36
  refine lu_iconst X dX8_isAt_36 (pc2 := 37) rfl ic_0 ?_
  exact w8_isAt_b37 X hret (0 : Int32) m
def f8_isAt (a1 : Int32) (a2 : Int32) (a3 : Int32) (m : lu_M) : Option (Int32 × lu_M) :=
  if a1 < 0 then (f8_isAt_b36 a1 a2 a3 m)
  else (if (m 83 1) ≤ a1 then (f8_isAt_b36 a1 a2 a3 m)
  else (lu_gd (lu_ib a1 200) <|
  if (m 84 a1.toNatClampNeg) < a2 then (f8_isAt_b36 a1 a2 a3 m)
  else (lu_gd (lu_ib a1 200) <|
  if a3 < (m 84 a1.toNatClampNeg) then (f8_isAt_b36 a1 a2 a3 m)
  else (f8_isAt_b37 a1 a2 a3 (1 : Int32) m))))
set_option maxRecDepth 20000 in
theorem c8_isAt (l : Launch)   (a1 : Int32) (a2 : Int32) (a3 : Int32) : lu_C lu_TC l yX8_isAt cX8_isAt 4 (some .boolean) 0 0 (fun ρ sa => [.ref (ρ 83), .int a1, .int a2, .int a3]) (f8_isAt a1 a2 a3) lu_RVi lu_sn := by
  refine lu_met (cls := RX8) rfl (by decide +kernel) (fun _ _ => Nat.le_of_ble_eq_true rfl) ?_
  intro G ρ m hl X hret
  subst hl
  change lu_Ab lu_TC G (lu_Q lu_TC G ρ lu_RVi lu_sn) (f8_isAt a1 a2 a3 m) 0 [(0, .ref (ρ 83)), (1, .int a1), (2, .int a2), (3, .int a3)] [] ρ 0 0 [] m
  unfold f8_isAt
  refine lu_iload_n X dX8_isAt_0 (pc2 := 1) rfl rfl 1 rfl ?_
  refine lu_if_lt (tgt := 36) X dX8_isAt_1 (pc2 := 4) rfl (by decide) (fun _ => ?_) (fun _ => ?_)
  · exact lu_sub [] rfl (w8_isAt_b36 X hret m)
  · refine lu_iload_n X dX8_isAt_4 (pc2 := 5) rfl rfl 1 rfl ?_
    refine lu_aload_n X dX8_isAt_5 (pc2 := 6) rfl rfl 0 rfl ?_
    refine lu_get X fl8_45 rfl kC_83 lC_83 dX8_isAt_6 (pc2 := 9) rfl ?_
    refine lu_icmp_ge (tgt := 36) X dX8_isAt_9 (pc2 := 12) rfl (by decide) (fun _ => ?_) (fun _ => ?_)
    · exact lu_sub [] rfl (w8_isAt_b36 X hret m)
    · refine lu_aload_n X dX8_isAt_12 (pc2 := 13) rfl rfl 0 rfl ?_
      refine lu_getr (r2 := 84) X rfl fl8_9 rfl kC_83 lC_83 dX8_isAt_13 (pc2 := 16) rfl ?_
      refine lu_iload_n X dX8_isAt_16 (pc2 := 17) rfl rfl 1 rfl ?_
      refine lu_iald X kC_84 lC_84 dX8_isAt_17 (pc2 := 18) rfl ?_
      refine lu_iload_n X dX8_isAt_18 (pc2 := 19) rfl rfl 2 rfl ?_
      refine lu_icmp_lt (tgt := 36) X dX8_isAt_19 (pc2 := 22) rfl (by decide) (fun _ => ?_) (fun _ => ?_)
      · exact lu_sub [] rfl (w8_isAt_b36 X hret m)
      · refine lu_aload_n X dX8_isAt_22 (pc2 := 23) rfl rfl 0 rfl ?_
        refine lu_getr (r2 := 84) X rfl fl8_9 rfl kC_83 lC_83 dX8_isAt_23 (pc2 := 26) rfl ?_
        refine lu_iload_n X dX8_isAt_26 (pc2 := 27) rfl rfl 1 rfl ?_
        refine lu_iald X kC_84 lC_84 dX8_isAt_27 (pc2 := 28) rfl ?_
        refine lu_iload_n X dX8_isAt_28 (pc2 := 29) rfl rfl 3 rfl ?_
        refine lu_icmp_gt (tgt := 36) X dX8_isAt_29 (pc2 := 32) rfl (by decide) (fun _ => ?_) (fun _ => ?_)
        · exact lu_sub [] rfl (w8_isAt_b36 X hret m)
        · refine lu_iconst X dX8_isAt_32 (pc2 := 33) rfl ic_1 ?_
          refine lu_goto (tgt := 37) X dX8_isAt_33 (by decide) ?_
          exact lu_sub [] rfl (w8_isAt_b37 X hret (1 : Int32) m)

theorem dX8_numberRead_0 : decode cX8_numberRead 0 = .ok (.aload_n 0, 1) := by decide +kernel
theorem dX8_numberRead_1 : decode cX8_numberRead 1 = .ok (.getfield 25, 3) := by decide +kernel
theorem dX8_numberRead_4 : decode cX8_numberRead 4 = .ok (.aload_n 0, 1) := by decide +kernel
theorem dX8_numberRead_5 : decode cX8_numberRead 5 = .ok (.getfield 42, 3) := by decide +kernel
theorem dX8_numberRead_8 : decode cX8_numberRead 8 = .ok (.isub, 1) := by decide +kernel
theorem dX8_numberRead_9 : decode cX8_numberRead 9 = .ok (.iconst 4, 1) := by decide +kernel
theorem dX8_numberRead_10 : decode cX8_numberRead 10 = .ok (.if_icmp .le 5, 3) := by decide +kernel
theorem dX8_numberRead_13 : decode cX8_numberRead 13 = .ok (.iconst (-1), 1) := by decide +kernel
theorem dX8_numberRead_14 : decode cX8_numberRead 14 = .ok (.ireturn, 1) := by decide +kernel
theorem dX8_numberRead_15 : decode cX8_numberRead 15 = .ok (.iconst 0, 1) := by decide +kernel
theorem dX8_numberRead_16 : decode cX8_numberRead 16 = .ok (.istore_n 1, 1) := by decide +kernel
theorem dX8_numberRead_17 : decode cX8_numberRead 17 = .ok (.aload_n 0, 1) := by decide +kernel
theorem dX8_numberRead_18 : decode cX8_numberRead 18 = .ok (.getfield 42, 3) := by decide +kernel
theorem dX8_numberRead_21 : decode cX8_numberRead 21 = .ok (.istore_n 2, 1) := by decide +kernel
theorem dX8_numberRead_22 : decode cX8_numberRead 22 = .ok (.iload_n 2, 1) := by decide +kernel
theorem dX8_numberRead_23 : decode cX8_numberRead 23 = .ok (.aload_n 0, 1) := by decide +kernel
theorem dX8_numberRead_24 : decode cX8_numberRead 24 = .ok (.getfield 25, 3) := by decide +kernel
theorem dX8_numberRead_27 : decode cX8_numberRead 27 = .ok (.if_icmp .ge 24, 3) := by decide +kernel
theorem dX8_numberRead_30 : decode cX8_numberRead 30 = .ok (.iload_n 1, 1) := by decide +kernel
theorem dX8_numberRead_31 : decode cX8_numberRead 31 = .ok (.bipush 10, 2) := by decide +kernel
theorem dX8_numberRead_33 : decode cX8_numberRead 33 = .ok (.imul, 1) := by decide +kernel
theorem dX8_numberRead_34 : decode cX8_numberRead 34 = .ok (.aload_n 0, 1) := by decide +kernel
theorem dX8_numberRead_35 : decode cX8_numberRead 35 = .ok (.getfield 9, 3) := by decide +kernel
theorem dX8_numberRead_38 : decode cX8_numberRead 38 = .ok (.iload_n 2, 1) := by decide +kernel
theorem dX8_numberRead_39 : decode cX8_numberRead 39 = .ok (.iaload, 1) := by decide +kernel
theorem dX8_numberRead_40 : decode cX8_numberRead 40 = .ok (.iadd, 1) := by decide +kernel
theorem dX8_numberRead_41 : decode cX8_numberRead 41 = .ok (.bipush 48, 2) := by decide +kernel
theorem dX8_numberRead_43 : decode cX8_numberRead 43 = .ok (.isub, 1) := by decide +kernel
theorem dX8_numberRead_44 : decode cX8_numberRead 44 = .ok (.istore_n 1, 1) := by decide +kernel
theorem dX8_numberRead_45 : decode cX8_numberRead 45 = .ok (.iinc 2 1, 3) := by decide +kernel
theorem dX8_numberRead_48 : decode cX8_numberRead 48 = .ok (.goto (-26), 3) := by decide +kernel
theorem dX8_numberRead_51 : decode cX8_numberRead 51 = .ok (.iload_n 1, 1) := by decide +kernel
theorem dX8_numberRead_52 : decode cX8_numberRead 52 = .ok (.ireturn, 1) := by decide +kernel
def f8_numberRead_b22B (K51 : Int32 → lu_M → Option (Int32 × lu_M)) (rec : Int32 → Int32 → lu_M → Option (Int32 × lu_M))  (v1 : Int32) (v2 : Int32) (m : lu_M) : Option (Int32 × lu_M) :=
  if (m 83 5) ≤ v2 then (K51 v1 m)
  else (lu_gd (lu_ib v2 200) <|
  lu_nm ((((v1 * (10 : Int32)) + (m 84 v2.toNatClampNeg)) - (48 : Int32))) fun x2 =>
  rec x2 (v2 + (1 : Int32)) m)
def f8_numberRead_b22 (K51 : Int32 → lu_M → Option (Int32 × lu_M))  : Nat → Int32 → Int32 → lu_M → Option (Int32 × lu_M)
  | 0, _, _, _ => none
  | n + 1, v1, v2, m => f8_numberRead_b22B K51 (f8_numberRead_b22 K51 n) v1 v2 m
set_option maxRecDepth 20000 in
theorem w8_numberRead_b22B  {G : lu_G} {ρ : Nat → Nat}  {K51 : Int32 → lu_M → Option (Int32 × lu_M)} {rec : Int32 → Int32 → lu_M → Option (Int32 × lu_M)} (X : lu_X G RX8 cX8_numberRead 3 0 0) (hret : (lu_me G).sig.returnType = (some .int))  (hK51 : ∀ (v1 : Int32) (m : lu_M), lu_Ab lu_TC G (lu_Q lu_TC G ρ lu_RVi lu_sn) (K51 v1 m) 51 [(1, .int v1)] [] ρ 0 0 [] m) (hrec : ∀ (v1 : Int32) (v2 : Int32) (m : lu_M), lu_Ab lu_TC G (lu_Q lu_TC G ρ lu_RVi lu_sn) (rec v1 v2 m) 22 [(0, .ref (ρ 83)), (1, .int v1), (2, .int v2)] [] ρ 0 0 [] m) : ∀ (v1 : Int32) (v2 : Int32) (m : lu_M), lu_Ab lu_TC G (lu_Q lu_TC G ρ lu_RVi lu_sn) (f8_numberRead_b22B K51 rec v1 v2 m) 22 [(0, .ref (ρ 83)), (1, .int v1), (2, .int v2)] [] ρ 0 0 [] m := by
  intro v1 v2 m
  unfold f8_numberRead_b22B
  refine lu_iload_n X dX8_numberRead_22 (pc2 := 23) rfl rfl 2 rfl ?_
  refine lu_aload_n X dX8_numberRead_23 (pc2 := 24) rfl rfl 0 rfl ?_
  refine lu_get X fl8_25 rfl kC_83 lC_83 dX8_numberRead_24 (pc2 := 27) rfl ?_
  refine lu_icmp_ge (tgt := 51) X dX8_numberRead_27 (pc2 := 30) rfl (by decide) (fun _ => ?_) (fun _ => ?_)
  · exact lu_sub [1] rfl (hK51 v1 m)
  · refine lu_iload_n X dX8_numberRead_30 (pc2 := 31) rfl rfl 1 rfl ?_
    refine lu_bipush X dX8_numberRead_31 (pc2 := 33) rfl bp_10 ?_
    refine lu_imul X dX8_numberRead_33 (pc2 := 34) rfl ?_
    refine lu_aload_n X dX8_numberRead_34 (pc2 := 35) rfl rfl 0 rfl ?_
    refine lu_getr (r2 := 84) X rfl fl8_9 rfl kC_83 lC_83 dX8_numberRead_35 (pc2 := 38) rfl ?_
    refine lu_iload_n X dX8_numberRead_38 (pc2 := 39) rfl rfl 2 rfl ?_
    refine lu_iald X kC_84 lC_84 dX8_numberRead_39 (pc2 := 40) rfl ?_
    refine lu_iadd X dX8_numberRead_40 (pc2 := 41) rfl ?_
    refine lu_bipush X dX8_numberRead_41 (pc2 := 43) rfl bp_48 ?_
    refine lu_isub X dX8_numberRead_43 (pc2 := 44) rfl ?_
    refine lu_topi (fun x2 => ?_)
    refine lu_istore_n (lv2 := [(1, .int x2), (0, .ref (ρ 83)), (2, .int v2)]) X dX8_numberRead_44 (pc2 := 45) rfl rfl (by decide) rfl ?_
    refine lu_iinc (lv2 := [(2, .int (v2 + (1 : Int32))), (1, .int x2), (0, .ref (ρ 83))]) X dX8_numberRead_45 (pc2 := 48) rfl 2 rfl (lu_ii _ ic_1) (by decide) rfl ?_
    refine lu_goto (tgt := 22) X dX8_numberRead_48 (by decide) ?_
    exact lu_sub [2, 1, 0] rfl (hrec x2 (v2 + (1 : Int32)) m)
theorem w8_numberRead_b22  {G : lu_G} {ρ : Nat → Nat}  {K51 : Int32 → lu_M → Option (Int32 × lu_M)} (X : lu_X G RX8 cX8_numberRead 3 0 0) (hret : (lu_me G).sig.returnType = (some .int))  (hK51 : ∀ (v1 : Int32) (m : lu_M), lu_Ab lu_TC G (lu_Q lu_TC G ρ lu_RVi lu_sn) (K51 v1 m) 51 [(1, .int v1)] [] ρ 0 0 [] m) : ∀ (n : Nat) (v1 : Int32) (v2 : Int32) (m : lu_M), lu_Ab lu_TC G (lu_Q lu_TC G ρ lu_RVi lu_sn) (f8_numberRead_b22 K51 n v1 v2 m) 22 [(0, .ref (ρ 83)), (1, .int v1), (2, .int v2)] [] ρ 0 0 [] m := by
  intro n
  induction n with
  | zero => intro v1 v2 m; exact lu_none
  | succ n ih => intro v1 v2 m; exact w8_numberRead_b22B X hret hK51 ih v1 v2 m
def f8_numberRead_b51   (v1 : Int32) (m : lu_M) : Option (Int32 × lu_M) :=
  some (v1, m)
set_option maxRecDepth 20000 in
theorem w8_numberRead_b51  {G : lu_G} {ρ : Nat → Nat}   (X : lu_X G RX8 cX8_numberRead 3 0 0) (hret : (lu_me G).sig.returnType = (some .int))   : ∀ (v1 : Int32) (m : lu_M), lu_Ab lu_TC G (lu_Q lu_TC G ρ lu_RVi lu_sn) (f8_numberRead_b51  v1 m) 51 [(1, .int v1)] [] ρ 0 0 [] m := by
  intro v1 m
  unfold f8_numberRead_b51
  refine lu_iload_n X dX8_numberRead_51 (pc2 := 52) rfl rfl 0 rfl ?_
  exact lu_iret X hret dX8_numberRead_52
def f8_numberRead  (m : lu_M) : Option (Int32 × lu_M) :=
  if ((m 83 5) - (m 83 4)) ≤ (4 : Int32) then (lu_nm ((m 83 4)) fun x1 =>
  f8_numberRead_b22 f8_numberRead_b51 lu_fu (0 : Int32) x1 m)
  else (some ((-1 : Int32), m))
set_option maxRecDepth 20000 in
theorem c8_numberRead (l : Launch)    : lu_C lu_TC l yX8_numberRead cX8_numberRead 3 (some .int) 0 0 (fun ρ sa => [.ref (ρ 83)]) (f8_numberRead ) lu_RVi lu_sn := by
  refine lu_met (cls := RX8) rfl (by decide +kernel) (fun _ _ => Nat.le_of_ble_eq_true rfl) ?_
  intro G ρ m hl X hret
  subst hl
  change lu_Ab lu_TC G (lu_Q lu_TC G ρ lu_RVi lu_sn) (f8_numberRead  m) 0 [(0, .ref (ρ 83))] [] ρ 0 0 [] m
  unfold f8_numberRead
  refine lu_aload_n X dX8_numberRead_0 (pc2 := 1) rfl rfl 0 rfl ?_
  refine lu_get X fl8_25 rfl kC_83 lC_83 dX8_numberRead_1 (pc2 := 4) rfl ?_
  refine lu_aload_n X dX8_numberRead_4 (pc2 := 5) rfl rfl 0 rfl ?_
  refine lu_get X fl8_42 rfl kC_83 lC_83 dX8_numberRead_5 (pc2 := 8) rfl ?_
  refine lu_isub X dX8_numberRead_8 (pc2 := 9) rfl ?_
  refine lu_iconst X dX8_numberRead_9 (pc2 := 10) rfl ic_4 ?_
  refine lu_icmp_le (tgt := 15) X dX8_numberRead_10 (pc2 := 13) rfl (by decide) (fun _ => ?_) (fun _ => ?_)
  · refine lu_iconst X dX8_numberRead_15 (pc2 := 16) rfl ic_0 ?_
    refine lu_istore_n (lv2 := [(1, .int (0 : Int32)), (0, .ref (ρ 83))]) X dX8_numberRead_16 (pc2 := 17) rfl rfl (by decide) rfl ?_
    refine lu_aload_n X dX8_numberRead_17 (pc2 := 18) rfl rfl 1 rfl ?_
    refine lu_get X fl8_42 rfl kC_83 lC_83 dX8_numberRead_18 (pc2 := 21) rfl ?_
    refine lu_topi (fun x1 => ?_)
    refine lu_istore_n (lv2 := [(2, .int x1), (1, .int (0 : Int32)), (0, .ref (ρ 83))]) X dX8_numberRead_21 (pc2 := 22) rfl rfl (by decide) rfl ?_
    exact lu_sub [2, 1, 0] rfl (w8_numberRead_b22 X hret (w8_numberRead_b51 X hret) lu_fu (0 : Int32) x1 m)
  · refine lu_iconst X dX8_numberRead_13 (pc2 := 14) rfl ic_m1 ?_
    exact lu_iret X hret dX8_numberRead_14

theorem dX8_advance_0 : decode cX8_advance 0 = .ok (.aload_n 0, 1) := by decide +kernel
theorem dX8_advance_1 : decode cX8_advance 1 = .ok (.getfield 25, 3) := by decide +kernel
theorem dX8_advance_4 : decode cX8_advance 4 = .ok (.istore_n 1, 1) := by decide +kernel
theorem dX8_advance_5 : decode cX8_advance 5 = .ok (.iconst 0, 1) := by decide +kernel
theorem dX8_advance_6 : decode cX8_advance 6 = .ok (.istore_n 2, 1) := by decide +kernel
theorem dX8_advance_7 : decode cX8_advance 7 = .ok (.iload_n 2, 1) := by decide +kernel
theorem dX8_advance_8 : decode cX8_advance 8 = .ok (.sipush 200, 3) := by decide +kernel
theorem dX8_advance_11 : decode cX8_advance 11 = .ok (.if_icmp .ge 24, 3) := by decide +kernel
theorem dX8_advance_14 : decode cX8_advance 14 = .ok (.aload_n 0, 1) := by decide +kernel
theorem dX8_advance_15 : decode cX8_advance 15 = .ok (.iload_n 1, 1) := by decide +kernel
theorem dX8_advance_16 : decode cX8_advance 16 = .ok (.bipush 32, 2) := by decide +kernel
theorem dX8_advance_18 : decode cX8_advance 18 = .ok (.bipush 32, 2) := by decide +kernel
theorem dX8_advance_20 : decode cX8_advance 20 = .ok (.invokevirtual 137, 3) := by decide +kernel
theorem dX8_advance_23 : decode cX8_advance 23 = .ok (.ifCond .eq 12, 3) := by decide +kernel
theorem dX8_advance_26 : decode cX8_advance 26 = .ok (.iinc 1 1, 3) := by decide +kernel
theorem dX8_advance_29 : decode cX8_advance 29 = .ok (.iinc 2 1, 3) := by decide +kernel
theorem dX8_advance_32 : decode cX8_advance 32 = .ok (.goto (-25), 3) := by decide +kernel
theorem dX8_advance_35 : decode cX8_advance 35 = .ok (.aload_n 0, 1) := by decide +kernel
theorem dX8_advance_36 : decode cX8_advance 36 = .ok (.iload_n 1, 1) := by decide +kernel
theorem dX8_advance_37 : decode cX8_advance 37 = .ok (.putfield 42, 3) := by decide +kernel
theorem dX8_advance_40 : decode cX8_advance 40 = .ok (.aload_n 0, 1) := by decide +kernel
theorem dX8_advance_41 : decode cX8_advance 41 = .ok (.iload_n 1, 1) := by decide +kernel
theorem dX8_advance_42 : decode cX8_advance 42 = .ok (.iconst 1, 1) := by decide +kernel
theorem dX8_advance_43 : decode cX8_advance 43 = .ok (.iadd, 1) := by decide +kernel
theorem dX8_advance_44 : decode cX8_advance 44 = .ok (.putfield 25, 3) := by decide +kernel
theorem dX8_advance_47 : decode cX8_advance 47 = .ok (.iload_n 1, 1) := by decide +kernel
theorem dX8_advance_48 : decode cX8_advance 48 = .ok (.aload_n 0, 1) := by decide +kernel
theorem dX8_advance_49 : decode cX8_advance 49 = .ok (.getfield 45, 3) := by decide +kernel
theorem dX8_advance_52 : decode cX8_advance 52 = .ok (.if_icmp .lt 27, 3) := by decide +kernel
theorem dX8_advance_55 : decode cX8_advance 55 = .ok (.aload_n 0, 1) := by decide +kernel
theorem dX8_advance_56 : decode cX8_advance 56 = .ok (.iconst 0, 1) := by decide +kernel
theorem dX8_advance_57 : decode cX8_advance 57 = .ok (.putfield 32, 3) := by decide +kernel
theorem dX8_advance_60 : decode cX8_advance 60 = .ok (.aload_n 0, 1) := by decide +kernel
theorem dX8_advance_61 : decode cX8_advance 61 = .ok (.aload_n 0, 1) := by decide +kernel
theorem dX8_advance_62 : decode cX8_advance 62 = .ok (.getfield 45, 3) := by decide +kernel
theorem dX8_advance_65 : decode cX8_advance 65 = .ok (.putfield 42, 3) := by decide +kernel
theorem dX8_advance_68 : decode cX8_advance 68 = .ok (.aload_n 0, 1) := by decide +kernel
theorem dX8_advance_69 : decode cX8_advance 69 = .ok (.aload_n 0, 1) := by decide +kernel
theorem dX8_advance_70 : decode cX8_advance 70 = .ok (.getfield 45, 3) := by decide +kernel
theorem dX8_advance_73 : decode cX8_advance 73 = .ok (.putfield 25, 3) := by decide +kernel
theorem dX8_advance_76 : decode cX8_advance 76 = .ok (.goto 136, 3) := by decide +kernel
theorem dX8_advance_79 : decode cX8_advance 79 = .ok (.aload_n 0, 1) := by decide +kernel
theorem dX8_advance_80 : decode cX8_advance 80 = .ok (.iload_n 1, 1) := by decide +kernel
theorem dX8_advance_81 : decode cX8_advance 81 = .ok (.bipush 97, 2) := by decide +kernel
theorem dX8_advance_83 : decode cX8_advance 83 = .ok (.bipush 122, 2) := by decide +kernel
theorem dX8_advance_85 : decode cX8_advance 85 = .ok (.invokevirtual 137, 3) := by decide +kernel
theorem dX8_advance_88 : decode cX8_advance 88 = .ok (.ifCond .eq 51, 3) := by decide +kernel
theorem dX8_advance_91 : decode cX8_advance 91 = .ok (.aload_n 0, 1) := by decide +kernel
theorem dX8_advance_92 : decode cX8_advance 92 = .ok (.iconst 1, 1) := by decide +kernel
theorem dX8_advance_93 : decode cX8_advance 93 = .ok (.putfield 32, 3) := by decide +kernel
theorem dX8_advance_96 : decode cX8_advance 96 = .ok (.iconst 0, 1) := by decide +kernel
theorem dX8_advance_97 : decode cX8_advance 97 = .ok (.istore_n 2, 1) := by decide +kernel
theorem dX8_advance_98 : decode cX8_advance 98 = .ok (.iload_n 2, 1) := by decide +kernel
theorem dX8_advance_99 : decode cX8_advance 99 = .ok (.sipush 200, 3) := by decide +kernel
theorem dX8_advance_102 : decode cX8_advance 102 = .ok (.if_icmp .ge 34, 3) := by decide +kernel
theorem dX8_advance_105 : decode cX8_advance 105 = .ok (.aload_n 0, 1) := by decide +kernel
theorem dX8_advance_106 : decode cX8_advance 106 = .ok (.aload_n 0, 1) := by decide +kernel
theorem dX8_advance_107 : decode cX8_advance 107 = .ok (.getfield 25, 3) := by decide +kernel
theorem dX8_advance_110 : decode cX8_advance 110 = .ok (.bipush 97, 2) := by decide +kernel
theorem dX8_advance_112 : decode cX8_advance 112 = .ok (.bipush 122, 2) := by decide +kernel
theorem dX8_advance_114 : decode cX8_advance 114 = .ok (.invokevirtual 137, 3) := by decide +kernel
theorem dX8_advance_117 : decode cX8_advance 117 = .ok (.ifCond .eq 19, 3) := by decide +kernel
theorem dX8_advance_120 : decode cX8_advance 120 = .ok (.aload_n 0, 1) := by decide +kernel
theorem dX8_advance_121 : decode cX8_advance 121 = .ok (.dup, 1) := by decide +kernel
theorem dX8_advance_122 : decode cX8_advance 122 = .ok (.getfield 25, 3) := by decide +kernel
theorem dX8_advance_125 : decode cX8_advance 125 = .ok (.iconst 1, 1) := by decide +kernel
theorem dX8_advance_126 : decode cX8_advance 126 = .ok (.iadd, 1) := by decide +kernel
theorem dX8_advance_127 : decode cX8_advance 127 = .ok (.putfield 25, 3) := by decide +kernel
theorem dX8_advance_130 : decode cX8_advance 130 = .ok (.iinc 2 1, 3) := by decide +kernel
theorem dX8_advance_133 : decode cX8_advance 133 = .ok (.goto (-35), 3) := by decide +kernel
theorem dX8_advance_136 : decode cX8_advance 136 = .ok (.goto 76, 3) := by decide +kernel
theorem dX8_advance_139 : decode cX8_advance 139 = .ok (.aload_n 0, 1) := by decide +kernel
theorem dX8_advance_140 : decode cX8_advance 140 = .ok (.iload_n 1, 1) := by decide +kernel
theorem dX8_advance_141 : decode cX8_advance 141 = .ok (.bipush 48, 2) := by decide +kernel
theorem dX8_advance_143 : decode cX8_advance 143 = .ok (.bipush 57, 2) := by decide +kernel
theorem dX8_advance_145 : decode cX8_advance 145 = .ok (.invokevirtual 137, 3) := by decide +kernel
theorem dX8_advance_148 : decode cX8_advance 148 = .ok (.ifCond .eq 59, 3) := by decide +kernel
theorem dX8_advance_151 : decode cX8_advance 151 = .ok (.aload_n 0, 1) := by decide +kernel
theorem dX8_advance_152 : decode cX8_advance 152 = .ok (.iconst 2, 1) := by decide +kernel
theorem dX8_advance_153 : decode cX8_advance 153 = .ok (.putfield 32, 3) := by decide +kernel
theorem dX8_advance_156 : decode cX8_advance 156 = .ok (.iconst 0, 1) := by decide +kernel
theorem dX8_advance_157 : decode cX8_advance 157 = .ok (.istore_n 2, 1) := by decide +kernel
theorem dX8_advance_158 : decode cX8_advance 158 = .ok (.iload_n 2, 1) := by decide +kernel
theorem dX8_advance_159 : decode cX8_advance 159 = .ok (.sipush 200, 3) := by decide +kernel
theorem dX8_advance_162 : decode cX8_advance 162 = .ok (.if_icmp .ge 34, 3) := by decide +kernel
theorem dX8_advance_165 : decode cX8_advance 165 = .ok (.aload_n 0, 1) := by decide +kernel
theorem dX8_advance_166 : decode cX8_advance 166 = .ok (.aload_n 0, 1) := by decide +kernel
theorem dX8_advance_167 : decode cX8_advance 167 = .ok (.getfield 25, 3) := by decide +kernel
theorem dX8_advance_170 : decode cX8_advance 170 = .ok (.bipush 48, 2) := by decide +kernel
theorem dX8_advance_172 : decode cX8_advance 172 = .ok (.bipush 57, 2) := by decide +kernel
theorem dX8_advance_174 : decode cX8_advance 174 = .ok (.invokevirtual 137, 3) := by decide +kernel
theorem dX8_advance_177 : decode cX8_advance 177 = .ok (.ifCond .eq 19, 3) := by decide +kernel
theorem dX8_advance_180 : decode cX8_advance 180 = .ok (.aload_n 0, 1) := by decide +kernel
theorem dX8_advance_181 : decode cX8_advance 181 = .ok (.dup, 1) := by decide +kernel
theorem dX8_advance_182 : decode cX8_advance 182 = .ok (.getfield 25, 3) := by decide +kernel
theorem dX8_advance_185 : decode cX8_advance 185 = .ok (.iconst 1, 1) := by decide +kernel
theorem dX8_advance_186 : decode cX8_advance 186 = .ok (.iadd, 1) := by decide +kernel
theorem dX8_advance_187 : decode cX8_advance 187 = .ok (.putfield 25, 3) := by decide +kernel
theorem dX8_advance_190 : decode cX8_advance 190 = .ok (.iinc 2 1, 3) := by decide +kernel
theorem dX8_advance_193 : decode cX8_advance 193 = .ok (.goto (-35), 3) := by decide +kernel
theorem dX8_advance_196 : decode cX8_advance 196 = .ok (.aload_n 0, 1) := by decide +kernel
theorem dX8_advance_197 : decode cX8_advance 197 = .ok (.aload_n 0, 1) := by decide +kernel
theorem dX8_advance_198 : decode cX8_advance 198 = .ok (.invokevirtual 140, 3) := by decide +kernel
theorem dX8_advance_201 : decode cX8_advance 201 = .ok (.putfield 65, 3) := by decide +kernel
theorem dX8_advance_204 : decode cX8_advance 204 = .ok (.goto 8, 3) := by decide +kernel
theorem dX8_advance_207 : decode cX8_advance 207 = .ok (.aload_n 0, 1) := by decide +kernel
theorem dX8_advance_208 : decode cX8_advance 208 = .ok (.iconst 3, 1) := by decide +kernel
theorem dX8_advance_209 : decode cX8_advance 209 = .ok (.putfield 32, 3) := by decide +kernel
theorem dX8_advance_212 : decode cX8_advance 212 = .ok (.return_, 1) := by decide +kernel
def f8_advance_b7B (K35 : Int32 → lu_M → Option (lu_M)) (rec : Int32 → Int32 → lu_M → Option (lu_M))  (v1 : Int32) (v2 : Int32) (m : lu_M) : Option (lu_M) :=
  if (200 : Int32) ≤ v2 then (K35 v1 m)
  else (lu_bi (f8_isAt v1 (32 : Int32) (32 : Int32) m) fun x2 m3 =>
  if x2 = 0 then (K35 v1 m3)
  else (rec (v1 + (1 : Int32)) (v2 + (1 : Int32)) m3))
def f8_advance_b7 (K35 : Int32 → lu_M → Option (lu_M))  : Nat → Int32 → Int32 → lu_M → Option (lu_M)
  | 0, _, _, _ => none
  | n + 1, v1, v2, m => f8_advance_b7B K35 (f8_advance_b7 K35 n) v1 v2 m
set_option maxRecDepth 20000 in
theorem w8_advance_b7B  {G : lu_G} {ρ : Nat → Nat}  {K35 : Int32 → lu_M → Option (lu_M)} {rec : Int32 → Int32 → lu_M → Option (lu_M)} (X : lu_X G RX8 cX8_advance 3 1 23) (hret : (lu_me G).sig.returnType = none)  (hK35 : ∀ (v1 : Int32) (m : lu_M), lu_Ab lu_TC G (lu_Q lu_TC G ρ lu_RVv lu_id) (K35 v1 m) 35 [(0, .ref (ρ 83)), (1, .int v1)] [] ρ 0 0 [] m) (hrec : ∀ (v1 : Int32) (v2 : Int32) (m : lu_M), lu_Ab lu_TC G (lu_Q lu_TC G ρ lu_RVv lu_id) (rec v1 v2 m) 7 [(0, .ref (ρ 83)), (1, .int v1), (2, .int v2)] [] ρ 0 0 [] m) : ∀ (v1 : Int32) (v2 : Int32) (m : lu_M), lu_Ab lu_TC G (lu_Q lu_TC G ρ lu_RVv lu_id) (f8_advance_b7B K35 rec v1 v2 m) 7 [(0, .ref (ρ 83)), (1, .int v1), (2, .int v2)] [] ρ 0 0 [] m := by
  intro v1 v2 m
  unfold f8_advance_b7B
  refine lu_iload_n X dX8_advance_7 (pc2 := 8) rfl rfl 2 rfl ?_
  refine lu_sipush X dX8_advance_8 (pc2 := 11) rfl sp_200 ?_
  refine lu_icmp_ge (tgt := 35) X dX8_advance_11 (pc2 := 14) rfl (by decide) (fun _ => ?_) (fun _ => ?_)
  · exact lu_sub [0, 1] rfl (hK35 v1 m)
  · refine lu_aload_n X dX8_advance_14 (pc2 := 15) rfl rfl 0 rfl ?_
    refine lu_iload_n X dX8_advance_15 (pc2 := 16) rfl rfl 1 rfl ?_
    refine lu_bipush X dX8_advance_16 (pc2 := 18) rfl bp_32 ?_
    refine lu_bipush X dX8_advance_18 (pc2 := 20) rfl bp_32 ?_
    refine lu_invVi X (c8_isAt _ v1 (32 : Int32) (32 : Int32)) rfl q589 mvV_8_isAt kC_83 lC_83 (by decide) ⟨_, rfl, rfl⟩ rfl rfl (Nat.le_of_ble_eq_true rfl) (Nat.le_of_ble_eq_true rfl) (Nat.le_of_ble_eq_true rfl) ⟨Nat.zero_le _, Nat.zero_le _⟩ dX8_advance_20 (pc2 := 23) rfl rfl (fun x2 m3 => ?_)
    refine lu_if_eq (tgt := 35) X dX8_advance_23 (pc2 := 26) rfl (by decide) (fun _ => ?_) (fun _ => ?_)
    · exact lu_sub [0, 1] rfl (hK35 v1 m3)
    · refine lu_iinc (lv2 := [(1, .int (v1 + (1 : Int32))), (0, .ref (ρ 83)), (2, .int v2)]) X dX8_advance_26 (pc2 := 29) rfl 1 rfl (lu_ii _ ic_1) (by decide) rfl ?_
      refine lu_iinc (lv2 := [(2, .int (v2 + (1 : Int32))), (1, .int (v1 + (1 : Int32))), (0, .ref (ρ 83))]) X dX8_advance_29 (pc2 := 32) rfl 2 rfl (lu_ii _ ic_1) (by decide) rfl ?_
      refine lu_goto (tgt := 7) X dX8_advance_32 (by decide) ?_
      exact lu_sub [2, 1, 0] rfl (hrec (v1 + (1 : Int32)) (v2 + (1 : Int32)) m3)
theorem w8_advance_b7  {G : lu_G} {ρ : Nat → Nat}  {K35 : Int32 → lu_M → Option (lu_M)} (X : lu_X G RX8 cX8_advance 3 1 23) (hret : (lu_me G).sig.returnType = none)  (hK35 : ∀ (v1 : Int32) (m : lu_M), lu_Ab lu_TC G (lu_Q lu_TC G ρ lu_RVv lu_id) (K35 v1 m) 35 [(0, .ref (ρ 83)), (1, .int v1)] [] ρ 0 0 [] m) : ∀ (n : Nat) (v1 : Int32) (v2 : Int32) (m : lu_M), lu_Ab lu_TC G (lu_Q lu_TC G ρ lu_RVv lu_id) (f8_advance_b7 K35 n v1 v2 m) 7 [(0, .ref (ρ 83)), (1, .int v1), (2, .int v2)] [] ρ 0 0 [] m := by
  intro n
  induction n with
  | zero => intro v1 v2 m; exact lu_none
  | succ n ih => intro v1 v2 m; exact w8_advance_b7B X hret hK35 ih v1 v2 m
def f8_advance_b212    (m : lu_M) : Option (lu_M) :=
  some m
set_option maxRecDepth 20000 in
theorem w8_advance_b212  {G : lu_G} {ρ : Nat → Nat}   (X : lu_X G RX8 cX8_advance 3 1 23) (hret : (lu_me G).sig.returnType = none)   : ∀  (m : lu_M), lu_Ab lu_TC G (lu_Q lu_TC G ρ lu_RVv lu_id) (f8_advance_b212  m) 212 [] [] ρ 0 0 [] m := by
  intro  m
  unfold f8_advance_b212
  exact lu_vret X hret dX8_advance_212
def f8_advance_b158B (K196 : lu_M → Option (lu_M)) (rec : Int32 → lu_M → Option (lu_M))  (v2 : Int32) (m : lu_M) : Option (lu_M) :=
  if (200 : Int32) ≤ v2 then (K196 m)
  else (lu_bi (f8_isAt (m 83 5) (48 : Int32) (57 : Int32) m) fun x12 m13 =>
  if x12 = 0 then (K196 m13)
  else (lu_nm (lu_st m13 83 5 ((m13 83 5) + (1 : Int32))) fun m14 =>
  rec (v2 + (1 : Int32)) m14))
def f8_advance_b158 (K196 : lu_M → Option (lu_M))  : Nat → Int32 → lu_M → Option (lu_M)
  | 0, _, _ => none
  | n + 1, v2, m => f8_advance_b158B K196 (f8_advance_b158 K196 n) v2 m
set_option maxRecDepth 20000 in
theorem w8_advance_b158B  {G : lu_G} {ρ : Nat → Nat}  {K196 : lu_M → Option (lu_M)} {rec : Int32 → lu_M → Option (lu_M)} (X : lu_X G RX8 cX8_advance 3 1 23) (hret : (lu_me G).sig.returnType = none)  (hK196 : ∀  (m : lu_M), lu_Ab lu_TC G (lu_Q lu_TC G ρ lu_RVv lu_id) (K196 m) 196 [(0, .ref (ρ 83))] [] ρ 0 0 [] m) (hrec : ∀ (v2 : Int32) (m : lu_M), lu_Ab lu_TC G (lu_Q lu_TC G ρ lu_RVv lu_id) (rec v2 m) 158 [(0, .ref (ρ 83)), (2, .int v2)] [] ρ 0 0 [] m) : ∀ (v2 : Int32) (m : lu_M), lu_Ab lu_TC G (lu_Q lu_TC G ρ lu_RVv lu_id) (f8_advance_b158B K196 rec v2 m) 158 [(0, .ref (ρ 83)), (2, .int v2)] [] ρ 0 0 [] m := by
  intro v2 m
  unfold f8_advance_b158B
  refine lu_iload_n X dX8_advance_158 (pc2 := 159) rfl rfl 1 rfl ?_
  refine lu_sipush X dX8_advance_159 (pc2 := 162) rfl sp_200 ?_
  refine lu_icmp_ge (tgt := 196) X dX8_advance_162 (pc2 := 165) rfl (by decide) (fun _ => ?_) (fun _ => ?_)
  · exact lu_sub [0] rfl (hK196 m)
  · refine lu_aload_n X dX8_advance_165 (pc2 := 166) rfl rfl 0 rfl ?_
    refine lu_aload_n X dX8_advance_166 (pc2 := 167) rfl rfl 0 rfl ?_
    refine lu_get X fl8_25 rfl kC_83 lC_83 dX8_advance_167 (pc2 := 170) rfl ?_
    refine lu_bipush X dX8_advance_170 (pc2 := 172) rfl bp_48 ?_
    refine lu_bipush X dX8_advance_172 (pc2 := 174) rfl bp_57 ?_
    refine lu_invVi X (c8_isAt _ (m 83 5) (48 : Int32) (57 : Int32)) rfl q589 mvV_8_isAt kC_83 lC_83 (by decide) ⟨_, rfl, rfl⟩ rfl rfl (Nat.le_of_ble_eq_true rfl) (Nat.le_of_ble_eq_true rfl) (Nat.le_of_ble_eq_true rfl) ⟨Nat.zero_le _, Nat.zero_le _⟩ dX8_advance_174 (pc2 := 177) rfl rfl (fun x12 m13 => ?_)
    refine lu_if_eq (tgt := 196) X dX8_advance_177 (pc2 := 180) rfl (by decide) (fun _ => ?_) (fun _ => ?_)
    · exact lu_sub [0] rfl (hK196 m13)
    · refine lu_aload_n X dX8_advance_180 (pc2 := 181) rfl rfl 0 rfl ?_
      refine lu_dup X dX8_advance_181 (pc2 := 182) rfl rfl ?_
      refine lu_get X fl8_25 rfl kC_83 lC_83 dX8_advance_182 (pc2 := 185) rfl ?_
      refine lu_iconst X dX8_advance_185 (pc2 := 186) rfl ic_1 ?_
      refine lu_iadd X dX8_advance_186 (pc2 := 187) rfl ?_
      refine lu_put X fl8_25 rfl (Or.inl (by decide)) rfl (by decide +kernel) kC_83 lC_83 dX8_advance_187 (pc2 := 190) rfl (fun m14 => ?_)
      refine lu_iinc (lv2 := [(2, .int (v2 + (1 : Int32))), (0, .ref (ρ 83))]) X dX8_advance_190 (pc2 := 193) rfl 1 rfl (lu_ii _ ic_1) (by decide) rfl ?_
      refine lu_goto (tgt := 158) X dX8_advance_193 (by decide) ?_
      exact lu_sub [1, 0] rfl (hrec (v2 + (1 : Int32)) m14)
theorem w8_advance_b158  {G : lu_G} {ρ : Nat → Nat}  {K196 : lu_M → Option (lu_M)} (X : lu_X G RX8 cX8_advance 3 1 23) (hret : (lu_me G).sig.returnType = none)  (hK196 : ∀  (m : lu_M), lu_Ab lu_TC G (lu_Q lu_TC G ρ lu_RVv lu_id) (K196 m) 196 [(0, .ref (ρ 83))] [] ρ 0 0 [] m) : ∀ (n : Nat) (v2 : Int32) (m : lu_M), lu_Ab lu_TC G (lu_Q lu_TC G ρ lu_RVv lu_id) (f8_advance_b158 K196 n v2 m) 158 [(0, .ref (ρ 83)), (2, .int v2)] [] ρ 0 0 [] m := by
  intro n
  induction n with
  | zero => intro v2 m; exact lu_none
  | succ n ih => intro v2 m; exact w8_advance_b158B X hret hK196 ih v2 m
def f8_advance_b196    (m : lu_M) : Option (lu_M) :=
  lu_bi (f8_numberRead m) fun x15 m16 =>
  lu_nm (lu_st m16 83 6 x15) fun m17 =>
  f8_advance_b212 m17
set_option maxRecDepth 20000 in
theorem w8_advance_b196  {G : lu_G} {ρ : Nat → Nat}   (X : lu_X G RX8 cX8_advance 3 1 23) (hret : (lu_me G).sig.returnType = none)   : ∀  (m : lu_M), lu_Ab lu_TC G (lu_Q lu_TC G ρ lu_RVv lu_id) (f8_advance_b196  m) 196 [(0, .ref (ρ 83))] [] ρ 0 0 [] m := by
  intro  m
  unfold f8_advance_b196
  refine lu_aload_n X dX8_advance_196 (pc2 := 197) rfl rfl 0 rfl ?_
  refine lu_aload_n X dX8_advance_197 (pc2 := 198) rfl rfl 0 rfl ?_
  refine lu_invVi X (c8_numberRead _) rfl q593 mvV_8_numberRead kC_83 lC_83 (by decide) ⟨_, rfl, rfl⟩ rfl rfl (Nat.le_of_ble_eq_true rfl) (Nat.le_of_ble_eq_true rfl) (Nat.le_of_ble_eq_true rfl) ⟨Nat.zero_le _, Nat.zero_le _⟩ dX8_advance_198 (pc2 := 201) rfl rfl (fun x15 m16 => ?_)
  refine lu_put X fl8_65 rfl (Or.inl (by decide)) rfl (by decide +kernel) kC_83 lC_83 dX8_advance_201 (pc2 := 204) rfl (fun m17 => ?_)
  refine lu_goto (tgt := 212) X dX8_advance_204 (by decide) ?_
  exact lu_sub [] rfl (w8_advance_b212 X hret m17)
def f8_advance_b98B (K136 : lu_M → Option (lu_M)) (rec : Int32 → lu_M → Option (lu_M))  (v2 : Int32) (m : lu_M) : Option (lu_M) :=
  if (200 : Int32) ≤ v2 then (K136 m)
  else (lu_bi (f8_isAt (m 83 5) (97 : Int32) (122 : Int32) m) fun x19 m20 =>
  if x19 = 0 then (K136 m20)
  else (lu_nm (lu_st m20 83 5 ((m20 83 5) + (1 : Int32))) fun m21 =>
  rec (v2 + (1 : Int32)) m21))
def f8_advance_b98 (K136 : lu_M → Option (lu_M))  : Nat → Int32 → lu_M → Option (lu_M)
  | 0, _, _ => none
  | n + 1, v2, m => f8_advance_b98B K136 (f8_advance_b98 K136 n) v2 m
set_option maxRecDepth 20000 in
theorem w8_advance_b98B  {G : lu_G} {ρ : Nat → Nat}  {K136 : lu_M → Option (lu_M)} {rec : Int32 → lu_M → Option (lu_M)} (X : lu_X G RX8 cX8_advance 3 1 23) (hret : (lu_me G).sig.returnType = none)  (hK136 : ∀  (m : lu_M), lu_Ab lu_TC G (lu_Q lu_TC G ρ lu_RVv lu_id) (K136 m) 136 [] [] ρ 0 0 [] m) (hrec : ∀ (v2 : Int32) (m : lu_M), lu_Ab lu_TC G (lu_Q lu_TC G ρ lu_RVv lu_id) (rec v2 m) 98 [(0, .ref (ρ 83)), (2, .int v2)] [] ρ 0 0 [] m) : ∀ (v2 : Int32) (m : lu_M), lu_Ab lu_TC G (lu_Q lu_TC G ρ lu_RVv lu_id) (f8_advance_b98B K136 rec v2 m) 98 [(0, .ref (ρ 83)), (2, .int v2)] [] ρ 0 0 [] m := by
  intro v2 m
  unfold f8_advance_b98B
  refine lu_iload_n X dX8_advance_98 (pc2 := 99) rfl rfl 1 rfl ?_
  refine lu_sipush X dX8_advance_99 (pc2 := 102) rfl sp_200 ?_
  refine lu_icmp_ge (tgt := 136) X dX8_advance_102 (pc2 := 105) rfl (by decide) (fun _ => ?_) (fun _ => ?_)
  · exact lu_sub [] rfl (hK136 m)
  · refine lu_aload_n X dX8_advance_105 (pc2 := 106) rfl rfl 0 rfl ?_
    refine lu_aload_n X dX8_advance_106 (pc2 := 107) rfl rfl 0 rfl ?_
    refine lu_get X fl8_25 rfl kC_83 lC_83 dX8_advance_107 (pc2 := 110) rfl ?_
    refine lu_bipush X dX8_advance_110 (pc2 := 112) rfl bp_97 ?_
    refine lu_bipush X dX8_advance_112 (pc2 := 114) rfl bp_122 ?_
    refine lu_invVi X (c8_isAt _ (m 83 5) (97 : Int32) (122 : Int32)) rfl q589 mvV_8_isAt kC_83 lC_83 (by decide) ⟨_, rfl, rfl⟩ rfl rfl (Nat.le_of_ble_eq_true rfl) (Nat.le_of_ble_eq_true rfl) (Nat.le_of_ble_eq_true rfl) ⟨Nat.zero_le _, Nat.zero_le _⟩ dX8_advance_114 (pc2 := 117) rfl rfl (fun x19 m20 => ?_)
    refine lu_if_eq (tgt := 136) X dX8_advance_117 (pc2 := 120) rfl (by decide) (fun _ => ?_) (fun _ => ?_)
    · exact lu_sub [] rfl (hK136 m20)
    · refine lu_aload_n X dX8_advance_120 (pc2 := 121) rfl rfl 0 rfl ?_
      refine lu_dup X dX8_advance_121 (pc2 := 122) rfl rfl ?_
      refine lu_get X fl8_25 rfl kC_83 lC_83 dX8_advance_122 (pc2 := 125) rfl ?_
      refine lu_iconst X dX8_advance_125 (pc2 := 126) rfl ic_1 ?_
      refine lu_iadd X dX8_advance_126 (pc2 := 127) rfl ?_
      refine lu_put X fl8_25 rfl (Or.inl (by decide)) rfl (by decide +kernel) kC_83 lC_83 dX8_advance_127 (pc2 := 130) rfl (fun m21 => ?_)
      refine lu_iinc (lv2 := [(2, .int (v2 + (1 : Int32))), (0, .ref (ρ 83))]) X dX8_advance_130 (pc2 := 133) rfl 1 rfl (lu_ii _ ic_1) (by decide) rfl ?_
      refine lu_goto (tgt := 98) X dX8_advance_133 (by decide) ?_
      exact lu_sub [1, 0] rfl (hrec (v2 + (1 : Int32)) m21)
theorem w8_advance_b98  {G : lu_G} {ρ : Nat → Nat}  {K136 : lu_M → Option (lu_M)} (X : lu_X G RX8 cX8_advance 3 1 23) (hret : (lu_me G).sig.returnType = none)  (hK136 : ∀  (m : lu_M), lu_Ab lu_TC G (lu_Q lu_TC G ρ lu_RVv lu_id) (K136 m) 136 [] [] ρ 0 0 [] m) : ∀ (n : Nat) (v2 : Int32) (m : lu_M), lu_Ab lu_TC G (lu_Q lu_TC G ρ lu_RVv lu_id) (f8_advance_b98 K136 n v2 m) 98 [(0, .ref (ρ 83)), (2, .int v2)] [] ρ 0 0 [] m := by
  intro n
  induction n with
  | zero => intro v2 m; exact lu_none
  | succ n ih => intro v2 m; exact w8_advance_b98B X hret hK136 ih v2 m
def f8_advance_b136    (m : lu_M) : Option (lu_M) :=
  f8_advance_b212 m
set_option maxRecDepth 20000 in
theorem w8_advance_b136  {G : lu_G} {ρ : Nat → Nat}   (X : lu_X G RX8 cX8_advance 3 1 23) (hret : (lu_me G).sig.returnType = none)   : ∀  (m : lu_M), lu_Ab lu_TC G (lu_Q lu_TC G ρ lu_RVv lu_id) (f8_advance_b136  m) 136 [] [] ρ 0 0 [] m := by
  intro  m
  unfold f8_advance_b136
  refine lu_goto (tgt := 212) X dX8_advance_136 (by decide) ?_
  exact w8_advance_b212 X hret m
def f8_advance_b35   (v1 : Int32) (m : lu_M) : Option (lu_M) :=
  lu_nm (lu_st m 83 4 v1) fun m4 =>
  lu_nm (lu_st m4 83 5 (v1 + (1 : Int32))) fun m5 =>
  if v1 < (m5 83 1) then (lu_bi (f8_isAt v1 (97 : Int32) (122 : Int32) m5) fun x6 m7 =>
  if x6 = 0 then (lu_bi (f8_isAt v1 (48 : Int32) (57 : Int32) m7) fun x8 m9 =>
  if x8 = 0 then (lu_nm (lu_st m9 83 3 (3 : Int32)) fun m10 =>
  f8_advance_b212 m10)
  else (lu_nm (lu_st m9 83 3 (2 : Int32)) fun m11 =>
  f8_advance_b158 f8_advance_b196 lu_fu (0 : Int32) m11))
  else (lu_nm (lu_st m7 83 3 (1 : Int32)) fun m18 =>
  f8_advance_b98 f8_advance_b136 lu_fu (0 : Int32) m18))
  else (lu_nm (lu_st m5 83 3 (0 : Int32)) fun m22 =>
  lu_nm (lu_st m22 83 4 (m22 83 1)) fun m23 =>
  lu_nm (lu_st m23 83 5 (m23 83 1)) fun m24 =>
  f8_advance_b212 m24)
set_option maxRecDepth 20000 in
theorem w8_advance_b35  {G : lu_G} {ρ : Nat → Nat}   (X : lu_X G RX8 cX8_advance 3 1 23) (hret : (lu_me G).sig.returnType = none)   : ∀ (v1 : Int32) (m : lu_M), lu_Ab lu_TC G (lu_Q lu_TC G ρ lu_RVv lu_id) (f8_advance_b35  v1 m) 35 [(0, .ref (ρ 83)), (1, .int v1)] [] ρ 0 0 [] m := by
  intro v1 m
  unfold f8_advance_b35
  refine lu_aload_n X dX8_advance_35 (pc2 := 36) rfl rfl 0 rfl ?_
  refine lu_iload_n X dX8_advance_36 (pc2 := 37) rfl rfl 1 rfl ?_
  refine lu_put X fl8_42 rfl (Or.inl (by decide)) rfl (by decide +kernel) kC_83 lC_83 dX8_advance_37 (pc2 := 40) rfl (fun m4 => ?_)
  refine lu_aload_n X dX8_advance_40 (pc2 := 41) rfl rfl 0 rfl ?_
  refine lu_iload_n X dX8_advance_41 (pc2 := 42) rfl rfl 1 rfl ?_
  refine lu_iconst X dX8_advance_42 (pc2 := 43) rfl ic_1 ?_
  refine lu_iadd X dX8_advance_43 (pc2 := 44) rfl ?_
  refine lu_put X fl8_25 rfl (Or.inl (by decide)) rfl (by decide +kernel) kC_83 lC_83 dX8_advance_44 (pc2 := 47) rfl (fun m5 => ?_)
  refine lu_iload_n X dX8_advance_47 (pc2 := 48) rfl rfl 1 rfl ?_
  refine lu_aload_n X dX8_advance_48 (pc2 := 49) rfl rfl 0 rfl ?_
  refine lu_get X fl8_45 rfl kC_83 lC_83 dX8_advance_49 (pc2 := 52) rfl ?_
  refine lu_icmp_lt (tgt := 79) X dX8_advance_52 (pc2 := 55) rfl (by decide) (fun _ => ?_) (fun _ => ?_)
  · refine lu_aload_n X dX8_advance_79 (pc2 := 80) rfl rfl 0 rfl ?_
    refine lu_iload_n X dX8_advance_80 (pc2 := 81) rfl rfl 1 rfl ?_
    refine lu_bipush X dX8_advance_81 (pc2 := 83) rfl bp_97 ?_
    refine lu_bipush X dX8_advance_83 (pc2 := 85) rfl bp_122 ?_
    refine lu_invVi X (c8_isAt _ v1 (97 : Int32) (122 : Int32)) rfl q589 mvV_8_isAt kC_83 lC_83 (by decide) ⟨_, rfl, rfl⟩ rfl rfl (Nat.le_of_ble_eq_true rfl) (Nat.le_of_ble_eq_true rfl) (Nat.le_of_ble_eq_true rfl) ⟨Nat.zero_le _, Nat.zero_le _⟩ dX8_advance_85 (pc2 := 88) rfl rfl (fun x6 m7 => ?_)
    refine lu_if_eq (tgt := 139) X dX8_advance_88 (pc2 := 91) rfl (by decide) (fun _ => ?_) (fun _ => ?_)
    · refine lu_aload_n X dX8_advance_139 (pc2 := 140) rfl rfl 0 rfl ?_
      refine lu_iload_n X dX8_advance_140 (pc2 := 141) rfl rfl 1 rfl ?_
      refine lu_bipush X dX8_advance_141 (pc2 := 143) rfl bp_48 ?_
      refine lu_bipush X dX8_advance_143 (pc2 := 145) rfl bp_57 ?_
      refine lu_invVi X (c8_isAt _ v1 (48 : Int32) (57 : Int32)) rfl q589 mvV_8_isAt kC_83 lC_83 (by decide) ⟨_, rfl, rfl⟩ rfl rfl (Nat.le_of_ble_eq_true rfl) (Nat.le_of_ble_eq_true rfl) (Nat.le_of_ble_eq_true rfl) ⟨Nat.zero_le _, Nat.zero_le _⟩ dX8_advance_145 (pc2 := 148) rfl rfl (fun x8 m9 => ?_)
      refine lu_if_eq (tgt := 207) X dX8_advance_148 (pc2 := 151) rfl (by decide) (fun _ => ?_) (fun _ => ?_)
      · refine lu_aload_n X dX8_advance_207 (pc2 := 208) rfl rfl 0 rfl ?_
        refine lu_iconst X dX8_advance_208 (pc2 := 209) rfl ic_3 ?_
        refine lu_put X fl8_32 rfl (Or.inl (by decide)) rfl (by decide +kernel) kC_83 lC_83 dX8_advance_209 (pc2 := 212) rfl (fun m10 => ?_)
        exact lu_sub [] rfl (w8_advance_b212 X hret m10)
      · refine lu_aload_n X dX8_advance_151 (pc2 := 152) rfl rfl 0 rfl ?_
        refine lu_iconst X dX8_advance_152 (pc2 := 153) rfl ic_2 ?_
        refine lu_put X fl8_32 rfl (Or.inl (by decide)) rfl (by decide +kernel) kC_83 lC_83 dX8_advance_153 (pc2 := 156) rfl (fun m11 => ?_)
        refine lu_iconst X dX8_advance_156 (pc2 := 157) rfl ic_0 ?_
        refine lu_istore_n (lv2 := [(2, .int (0 : Int32)), (0, .ref (ρ 83)), (1, .int v1)]) X dX8_advance_157 (pc2 := 158) rfl rfl (by decide) rfl ?_
        exact lu_sub [1, 0] rfl (w8_advance_b158 X hret (w8_advance_b196 X hret) lu_fu (0 : Int32) m11)
    · refine lu_aload_n X dX8_advance_91 (pc2 := 92) rfl rfl 0 rfl ?_
      refine lu_iconst X dX8_advance_92 (pc2 := 93) rfl ic_1 ?_
      refine lu_put X fl8_32 rfl (Or.inl (by decide)) rfl (by decide +kernel) kC_83 lC_83 dX8_advance_93 (pc2 := 96) rfl (fun m18 => ?_)
      refine lu_iconst X dX8_advance_96 (pc2 := 97) rfl ic_0 ?_
      refine lu_istore_n (lv2 := [(2, .int (0 : Int32)), (0, .ref (ρ 83)), (1, .int v1)]) X dX8_advance_97 (pc2 := 98) rfl rfl (by decide) rfl ?_
      exact lu_sub [1, 0] rfl (w8_advance_b98 X hret (w8_advance_b136 X hret) lu_fu (0 : Int32) m18)
  · refine lu_aload_n X dX8_advance_55 (pc2 := 56) rfl rfl 0 rfl ?_
    refine lu_iconst X dX8_advance_56 (pc2 := 57) rfl ic_0 ?_
    refine lu_put X fl8_32 rfl (Or.inl (by decide)) rfl (by decide +kernel) kC_83 lC_83 dX8_advance_57 (pc2 := 60) rfl (fun m22 => ?_)
    refine lu_aload_n X dX8_advance_60 (pc2 := 61) rfl rfl 0 rfl ?_
    refine lu_aload_n X dX8_advance_61 (pc2 := 62) rfl rfl 0 rfl ?_
    refine lu_get X fl8_45 rfl kC_83 lC_83 dX8_advance_62 (pc2 := 65) rfl ?_
    refine lu_put X fl8_42 rfl (Or.inl (by decide)) rfl (by decide +kernel) kC_83 lC_83 dX8_advance_65 (pc2 := 68) rfl (fun m23 => ?_)
    refine lu_aload_n X dX8_advance_68 (pc2 := 69) rfl rfl 0 rfl ?_
    refine lu_aload_n X dX8_advance_69 (pc2 := 70) rfl rfl 0 rfl ?_
    refine lu_get X fl8_45 rfl kC_83 lC_83 dX8_advance_70 (pc2 := 73) rfl ?_
    refine lu_put X fl8_25 rfl (Or.inl (by decide)) rfl (by decide +kernel) kC_83 lC_83 dX8_advance_73 (pc2 := 76) rfl (fun m24 => ?_)
    refine lu_goto (tgt := 212) X dX8_advance_76 (by decide) ?_
    exact lu_sub [] rfl (w8_advance_b212 X hret m24)
def f8_advance  (m : lu_M) : Option (lu_M) :=
  lu_nm ((m 83 5)) fun x1 =>
  f8_advance_b7 f8_advance_b35 lu_fu x1 (0 : Int32) m
set_option maxRecDepth 20000 in
theorem c8_advance (l : Launch)    : lu_C lu_TC l yX8_advance cX8_advance 3 none 1 23 (fun ρ sa => [.ref (ρ 83)]) (f8_advance ) lu_RVv lu_id := by
  refine lu_met (cls := RX8) rfl (by decide +kernel) (fun _ _ => Nat.le_of_ble_eq_true rfl) ?_
  intro G ρ m hl X hret
  subst hl
  change lu_Ab lu_TC G (lu_Q lu_TC G ρ lu_RVv lu_id) (f8_advance  m) 0 [(0, .ref (ρ 83))] [] ρ 0 0 [] m
  unfold f8_advance
  refine lu_aload_n X dX8_advance_0 (pc2 := 1) rfl rfl 0 rfl ?_
  refine lu_get X fl8_25 rfl kC_83 lC_83 dX8_advance_1 (pc2 := 4) rfl ?_
  refine lu_topi (fun x1 => ?_)
  refine lu_istore_n (lv2 := [(1, .int x1), (0, .ref (ρ 83))]) X dX8_advance_4 (pc2 := 5) rfl rfl (by decide) rfl ?_
  refine lu_iconst X dX8_advance_5 (pc2 := 6) rfl ic_0 ?_
  refine lu_istore_n (lv2 := [(2, .int (0 : Int32)), (1, .int x1), (0, .ref (ρ 83))]) X dX8_advance_6 (pc2 := 7) rfl rfl (by decide) rfl ?_
  exact lu_sub [2, 1, 0] rfl (w8_advance_b7 X hret (w8_advance_b35 X hret) lu_fu x1 (0 : Int32) m)

theorem dX8_isNamed_0 : decode cX8_isNamed 0 = .ok (.aload_n 0, 1) := by decide +kernel
theorem dX8_isNamed_1 : decode cX8_isNamed 1 = .ok (.getfield 32, 3) := by decide +kernel
theorem dX8_isNamed_4 : decode cX8_isNamed 4 = .ok (.iconst 1, 1) := by decide +kernel
theorem dX8_isNamed_5 : decode cX8_isNamed 5 = .ok (.if_icmp .ne 19, 3) := by decide +kernel
theorem dX8_isNamed_8 : decode cX8_isNamed 8 = .ok (.aload_n 0, 1) := by decide +kernel
theorem dX8_isNamed_9 : decode cX8_isNamed 9 = .ok (.getfield 25, 3) := by decide +kernel
theorem dX8_isNamed_12 : decode cX8_isNamed 12 = .ok (.aload_n 0, 1) := by decide +kernel
theorem dX8_isNamed_13 : decode cX8_isNamed 13 = .ok (.getfield 42, 3) := by decide +kernel
theorem dX8_isNamed_16 : decode cX8_isNamed 16 = .ok (.isub, 1) := by decide +kernel
theorem dX8_isNamed_17 : decode cX8_isNamed 17 = .ok (.aload_n 1, 1) := by decide +kernel
theorem dX8_isNamed_18 : decode cX8_isNamed 18 = .ok (.invokevirtual 129, 3) := by decide +kernel
theorem dX8_isNamed_21 : decode cX8_isNamed 21 = .ok (.if_icmp .eq 5, 3) := by decide +kernel
theorem dX8_isNamed_24 : decode cX8_isNamed 24 = .ok (.iconst 0, 1) := by decide +kernel
theorem dX8_isNamed_25 : decode cX8_isNamed 25 = .ok (.ireturn, 1) := by decide +kernel
theorem dX8_isNamed_26 : decode cX8_isNamed 26 = .ok (.iconst 0, 1) := by decide +kernel
theorem dX8_isNamed_27 : decode cX8_isNamed 27 = .ok (.istore_n 2, 1) := by decide +kernel
theorem dX8_isNamed_28 : decode cX8_isNamed 28 = .ok (.iload_n 2, 1) := by decide +kernel
theorem dX8_isNamed_29 : decode cX8_isNamed 29 = .ok (.aload_n 1, 1) := by decide +kernel
theorem dX8_isNamed_30 : decode cX8_isNamed 30 = .ok (.invokevirtual 129, 3) := by decide +kernel
theorem dX8_isNamed_33 : decode cX8_isNamed 33 = .ok (.if_icmp .ge 30, 3) := by decide +kernel
theorem dX8_isNamed_36 : decode cX8_isNamed 36 = .ok (.aload_n 0, 1) := by decide +kernel
theorem dX8_isNamed_37 : decode cX8_isNamed 37 = .ok (.getfield 9, 3) := by decide +kernel
theorem dX8_isNamed_40 : decode cX8_isNamed 40 = .ok (.aload_n 0, 1) := by decide +kernel
theorem dX8_isNamed_41 : decode cX8_isNamed 41 = .ok (.getfield 42, 3) := by decide +kernel
theorem dX8_isNamed_44 : decode cX8_isNamed 44 = .ok (.iload_n 2, 1) := by decide +kernel
theorem dX8_isNamed_45 : decode cX8_isNamed 45 = .ok (.iadd, 1) := by decide +kernel
theorem dX8_isNamed_46 : decode cX8_isNamed 46 = .ok (.iaload, 1) := by decide +kernel
theorem dX8_isNamed_47 : decode cX8_isNamed 47 = .ok (.aload_n 1, 1) := by decide +kernel
theorem dX8_isNamed_48 : decode cX8_isNamed 48 = .ok (.iload_n 2, 1) := by decide +kernel
theorem dX8_isNamed_49 : decode cX8_isNamed 49 = .ok (.invokevirtual 133, 3) := by decide +kernel
theorem dX8_isNamed_52 : decode cX8_isNamed 52 = .ok (.if_icmp .eq 5, 3) := by decide +kernel
theorem dX8_isNamed_55 : decode cX8_isNamed 55 = .ok (.iconst 0, 1) := by decide +kernel
theorem dX8_isNamed_56 : decode cX8_isNamed 56 = .ok (.ireturn, 1) := by decide +kernel
theorem dX8_isNamed_57 : decode cX8_isNamed 57 = .ok (.iinc 2 1, 3) := by decide +kernel
theorem dX8_isNamed_60 : decode cX8_isNamed 60 = .ok (.goto (-32), 3) := by decide +kernel
theorem dX8_isNamed_63 : decode cX8_isNamed 63 = .ok (.iconst 1, 1) := by decide +kernel
theorem dX8_isNamed_64 : decode cX8_isNamed 64 = .ok (.ireturn, 1) := by decide +kernel
def f8_isNamed_b24  (j1 : Nat)  (m : lu_M) : Option (Int32 × lu_M) :=
  some ((0 : Int32), m)
set_option maxRecDepth 20000 in
theorem w8_isNamed_b24  {G : lu_G} {ρ : Nat → Nat} {j1 : Nat}  (X : lu_X G RX8 cX8_isNamed 3 8 200) (hret : (lu_me G).sig.returnType = (some .boolean)) (hj_j1 : j1 < 18)  : ∀  (m : lu_M), lu_Ab lu_TC G (lu_Q lu_TC G ρ lu_RVi lu_sn) (f8_isNamed_b24 j1 m) 24 [] [] ρ 0 0 [] m := by
  intro  m
  unfold f8_isNamed_b24
  refine lu_iconst X dX8_isNamed_24 (pc2 := 25) rfl ic_0 ?_
  exact lu_zret X hret (by decide) dX8_isNamed_25
def f8_isNamed_b28B (K55 : lu_M → Option (Int32 × lu_M)) (K63 : lu_M → Option (Int32 × lu_M)) (rec : Int32 → lu_M → Option (Int32 × lu_M)) (j1 : Nat) (v2 : Int32) (m : lu_M) : Option (Int32 × lu_M) :=
  if (nI (lu_len.getD j1 0)) ≤ v2 then (K63 m)
  else (lu_gd (lu_ib ((m 83 4) + v2) 200) <|
  lu_gd (lu_ib v2 (lu_len.getD j1 0)) <|
  if (m 84 ((m 83 4) + v2).toNatClampNeg) = ((lu_byt.getD j1 []).getD v2.toNatClampNeg 0) then (rec (v2 + (1 : Int32)) m)
  else (K55 m))
def f8_isNamed_b28 (K55 : lu_M → Option (Int32 × lu_M)) (K63 : lu_M → Option (Int32 × lu_M)) (j1 : Nat) : Nat → Int32 → lu_M → Option (Int32 × lu_M)
  | 0, _, _ => none
  | n + 1, v2, m => f8_isNamed_b28B K55 K63 (f8_isNamed_b28 K55 K63 j1 n) j1 v2 m
set_option maxRecDepth 20000 in
theorem w8_isNamed_b28B  {G : lu_G} {ρ : Nat → Nat} {j1 : Nat} {K55 : lu_M → Option (Int32 × lu_M)} {K63 : lu_M → Option (Int32 × lu_M)} {rec : Int32 → lu_M → Option (Int32 × lu_M)} (X : lu_X G RX8 cX8_isNamed 3 8 200) (hret : (lu_me G).sig.returnType = (some .boolean)) (hj_j1 : j1 < 18) (hK55 : ∀  (m : lu_M), lu_Ab lu_TC G (lu_Q lu_TC G ρ lu_RVi lu_sn) (K55 m) 55 [] [] ρ 0 0 [] m) (hK63 : ∀  (m : lu_M), lu_Ab lu_TC G (lu_Q lu_TC G ρ lu_RVi lu_sn) (K63 m) 63 [] [] ρ 0 0 [] m) (hrec : ∀ (v2 : Int32) (m : lu_M), lu_Ab lu_TC G (lu_Q lu_TC G ρ lu_RVi lu_sn) (rec v2 m) 28 [(0, .ref (ρ 83)), (1, .ref (lu_sa G j1)), (2, .int v2)] [] ρ 0 0 [] m) : ∀ (v2 : Int32) (m : lu_M), lu_Ab lu_TC G (lu_Q lu_TC G ρ lu_RVi lu_sn) (f8_isNamed_b28B K55 K63 rec j1 v2 m) 28 [(0, .ref (ρ 83)), (1, .ref (lu_sa G j1)), (2, .int v2)] [] ρ 0 0 [] m := by
  intro v2 m
  unfold f8_isNamed_b28B
  refine lu_iload_n X dX8_isNamed_28 (pc2 := 29) rfl rfl 2 rfl ?_
  refine lu_aload_n X dX8_isNamed_29 (pc2 := 30) rfl rfl 1 rfl ?_
  refine lu_slen X q610 hj_j1 (Nat.le_of_ble_eq_true rfl) (Nat.le_of_ble_eq_true rfl) (Nat.le_of_ble_eq_true rfl) ⟨Nat.zero_le _, Nat.zero_le _⟩ dX8_isNamed_30 (pc2 := 33) rfl ?_
  refine lu_icmp_ge (tgt := 63) X dX8_isNamed_33 (pc2 := 36) rfl (by decide) (fun _ => ?_) (fun _ => ?_)
  · exact lu_sub [] rfl (hK63 m)
  · refine lu_aload_n X dX8_isNamed_36 (pc2 := 37) rfl rfl 0 rfl ?_
    refine lu_getr (r2 := 84) X rfl fl8_9 rfl kC_83 lC_83 dX8_isNamed_37 (pc2 := 40) rfl ?_
    refine lu_aload_n X dX8_isNamed_40 (pc2 := 41) rfl rfl 0 rfl ?_
    refine lu_get X fl8_42 rfl kC_83 lC_83 dX8_isNamed_41 (pc2 := 44) rfl ?_
    refine lu_iload_n X dX8_isNamed_44 (pc2 := 45) rfl rfl 2 rfl ?_
    refine lu_iadd X dX8_isNamed_45 (pc2 := 46) rfl ?_
    refine lu_iald X kC_84 lC_84 dX8_isNamed_46 (pc2 := 47) rfl ?_
    refine lu_aload_n X dX8_isNamed_47 (pc2 := 48) rfl rfl 1 rfl ?_
    refine lu_iload_n X dX8_isNamed_48 (pc2 := 49) rfl rfl 2 rfl ?_
    refine lu_schar X q620 hj_j1 (Nat.le_of_ble_eq_true rfl) (Nat.le_of_ble_eq_true rfl) (Nat.le_of_ble_eq_true rfl) ⟨Nat.zero_le _, Nat.zero_le _⟩ dX8_isNamed_49 (pc2 := 52) rfl ?_
    refine lu_icmp_eq (tgt := 57) X dX8_isNamed_52 (pc2 := 55) rfl (by decide) (fun _ => ?_) (fun _ => ?_)
    · refine lu_iinc (lv2 := [(2, .int (v2 + (1 : Int32))), (0, .ref (ρ 83)), (1, .ref (lu_sa G j1))]) X dX8_isNamed_57 (pc2 := 60) rfl 2 rfl (lu_ii _ ic_1) (by decide) rfl ?_
      refine lu_goto (tgt := 28) X dX8_isNamed_60 (by decide) ?_
      exact lu_sub [1, 2, 0] rfl (hrec (v2 + (1 : Int32)) m)
    · exact lu_sub [] rfl (hK55 m)
theorem w8_isNamed_b28  {G : lu_G} {ρ : Nat → Nat} {j1 : Nat} {K55 : lu_M → Option (Int32 × lu_M)} {K63 : lu_M → Option (Int32 × lu_M)} (X : lu_X G RX8 cX8_isNamed 3 8 200) (hret : (lu_me G).sig.returnType = (some .boolean)) (hj_j1 : j1 < 18) (hK55 : ∀  (m : lu_M), lu_Ab lu_TC G (lu_Q lu_TC G ρ lu_RVi lu_sn) (K55 m) 55 [] [] ρ 0 0 [] m) (hK63 : ∀  (m : lu_M), lu_Ab lu_TC G (lu_Q lu_TC G ρ lu_RVi lu_sn) (K63 m) 63 [] [] ρ 0 0 [] m) : ∀ (n : Nat) (v2 : Int32) (m : lu_M), lu_Ab lu_TC G (lu_Q lu_TC G ρ lu_RVi lu_sn) (f8_isNamed_b28 K55 K63 j1 n v2 m) 28 [(0, .ref (ρ 83)), (1, .ref (lu_sa G j1)), (2, .int v2)] [] ρ 0 0 [] m := by
  intro n
  induction n with
  | zero => intro v2 m; exact lu_none
  | succ n ih => intro v2 m; exact w8_isNamed_b28B X hret hj_j1 hK55 hK63 ih v2 m
def f8_isNamed_b55  (j1 : Nat)  (m : lu_M) : Option (Int32 × lu_M) :=
  some ((0 : Int32), m)
set_option maxRecDepth 20000 in
theorem w8_isNamed_b55  {G : lu_G} {ρ : Nat → Nat} {j1 : Nat}  (X : lu_X G RX8 cX8_isNamed 3 8 200) (hret : (lu_me G).sig.returnType = (some .boolean)) (hj_j1 : j1 < 18)  : ∀  (m : lu_M), lu_Ab lu_TC G (lu_Q lu_TC G ρ lu_RVi lu_sn) (f8_isNamed_b55 j1 m) 55 [] [] ρ 0 0 [] m := by
  intro  m
  unfold f8_isNamed_b55
  refine lu_iconst X dX8_isNamed_55 (pc2 := 56) rfl ic_0 ?_
  exact lu_zret X hret (by decide) dX8_isNamed_56
def f8_isNamed_b63  (j1 : Nat)  (m : lu_M) : Option (Int32 × lu_M) :=
  some ((1 : Int32), m)
set_option maxRecDepth 20000 in
theorem w8_isNamed_b63  {G : lu_G} {ρ : Nat → Nat} {j1 : Nat}  (X : lu_X G RX8 cX8_isNamed 3 8 200) (hret : (lu_me G).sig.returnType = (some .boolean)) (hj_j1 : j1 < 18)  : ∀  (m : lu_M), lu_Ab lu_TC G (lu_Q lu_TC G ρ lu_RVi lu_sn) (f8_isNamed_b63 j1 m) 63 [] [] ρ 0 0 [] m := by
  intro  m
  unfold f8_isNamed_b63
  refine lu_iconst X dX8_isNamed_63 (pc2 := 64) rfl ic_1 ?_
  exact lu_zret X hret (by decide) dX8_isNamed_64
def f8_isNamed (j1 : Nat) (m : lu_M) : Option (Int32 × lu_M) :=
  if (m 83 3) = (1 : Int32) then (if ((m 83 5) - (m 83 4)) = (nI (lu_len.getD j1 0)) then (f8_isNamed_b28 (f8_isNamed_b55 j1) (f8_isNamed_b63 j1) j1 lu_fu (0 : Int32) m)
  else (f8_isNamed_b24 j1 m))
  else (f8_isNamed_b24 j1 m)
set_option maxRecDepth 20000 in
theorem c8_isNamed (l : Launch) {j1 : Nat} (hj_j1 : j1 < 18)  : lu_C lu_TC l yX8_isNamed cX8_isNamed 3 (some .boolean) 8 200 (fun ρ sa => [.ref (ρ 83), .ref (sa j1)]) (f8_isNamed j1) lu_RVi lu_sn := by
  refine lu_met (cls := RX8) rfl (by decide +kernel) (fun _ _ => Nat.le_of_ble_eq_true rfl) ?_
  intro G ρ m hl X hret
  subst hl
  change lu_Ab lu_TC G (lu_Q lu_TC G ρ lu_RVi lu_sn) (f8_isNamed j1 m) 0 [(0, .ref (ρ 83)), (1, .ref (lu_sa G j1))] [] ρ 0 0 [] m
  unfold f8_isNamed
  refine lu_aload_n X dX8_isNamed_0 (pc2 := 1) rfl rfl 0 rfl ?_
  refine lu_get X fl8_32 rfl kC_83 lC_83 dX8_isNamed_1 (pc2 := 4) rfl ?_
  refine lu_iconst X dX8_isNamed_4 (pc2 := 5) rfl ic_1 ?_
  refine lu_icmp_ne (tgt := 24) X dX8_isNamed_5 (pc2 := 8) rfl (by decide) (fun _ => ?_) (fun _ => ?_)
  · exact lu_sub [] rfl (w8_isNamed_b24 X hret hj_j1 m)
  · refine lu_aload_n X dX8_isNamed_8 (pc2 := 9) rfl rfl 0 rfl ?_
    refine lu_get X fl8_25 rfl kC_83 lC_83 dX8_isNamed_9 (pc2 := 12) rfl ?_
    refine lu_aload_n X dX8_isNamed_12 (pc2 := 13) rfl rfl 0 rfl ?_
    refine lu_get X fl8_42 rfl kC_83 lC_83 dX8_isNamed_13 (pc2 := 16) rfl ?_
    refine lu_isub X dX8_isNamed_16 (pc2 := 17) rfl ?_
    refine lu_aload_n X dX8_isNamed_17 (pc2 := 18) rfl rfl 1 rfl ?_
    refine lu_slen X q610 hj_j1 (Nat.le_of_ble_eq_true rfl) (Nat.le_of_ble_eq_true rfl) (Nat.le_of_ble_eq_true rfl) ⟨Nat.zero_le _, Nat.zero_le _⟩ dX8_isNamed_18 (pc2 := 21) rfl ?_
    refine lu_icmp_eq (tgt := 26) X dX8_isNamed_21 (pc2 := 24) rfl (by decide) (fun _ => ?_) (fun _ => ?_)
    · refine lu_iconst X dX8_isNamed_26 (pc2 := 27) rfl ic_0 ?_
      refine lu_istore_n (lv2 := [(2, .int (0 : Int32)), (0, .ref (ρ 83)), (1, .ref (lu_sa G j1))]) X dX8_isNamed_27 (pc2 := 28) rfl rfl (by decide) rfl ?_
      exact lu_sub [1, 2, 0] rfl (w8_isNamed_b28 X hret hj_j1 (w8_isNamed_b55 X hret hj_j1) (w8_isNamed_b63 X hret hj_j1) lu_fu (0 : Int32) m)
    · exact lu_sub [] rfl (w8_isNamed_b24 X hret hj_j1 m)

theorem dX8_kindNamed_0 : decode cX8_kindNamed 0 = .ok (.aload_n 0, 1) := by decide +kernel
theorem dX8_kindNamed_1 : decode cX8_kindNamed 1 = .ok (.ldc 101, 2) := by decide +kernel
theorem dX8_kindNamed_3 : decode cX8_kindNamed 3 = .ok (.invokevirtual 54, 3) := by decide +kernel
theorem dX8_kindNamed_6 : decode cX8_kindNamed 6 = .ok (.ifCond .eq 5, 3) := by decide +kernel
theorem dX8_kindNamed_9 : decode cX8_kindNamed 9 = .ok (.iconst 0, 1) := by decide +kernel
theorem dX8_kindNamed_10 : decode cX8_kindNamed 10 = .ok (.ireturn, 1) := by decide +kernel
theorem dX8_kindNamed_11 : decode cX8_kindNamed 11 = .ok (.aload_n 0, 1) := by decide +kernel
theorem dX8_kindNamed_12 : decode cX8_kindNamed 12 = .ok (.ldc 103, 2) := by decide +kernel
theorem dX8_kindNamed_14 : decode cX8_kindNamed 14 = .ok (.invokevirtual 54, 3) := by decide +kernel
theorem dX8_kindNamed_17 : decode cX8_kindNamed 17 = .ok (.ifCond .eq 5, 3) := by decide +kernel
theorem dX8_kindNamed_20 : decode cX8_kindNamed 20 = .ok (.iconst 1, 1) := by decide +kernel
theorem dX8_kindNamed_21 : decode cX8_kindNamed 21 = .ok (.ireturn, 1) := by decide +kernel
theorem dX8_kindNamed_22 : decode cX8_kindNamed 22 = .ok (.aload_n 0, 1) := by decide +kernel
theorem dX8_kindNamed_23 : decode cX8_kindNamed 23 = .ok (.ldc 105, 2) := by decide +kernel
theorem dX8_kindNamed_25 : decode cX8_kindNamed 25 = .ok (.invokevirtual 54, 3) := by decide +kernel
theorem dX8_kindNamed_28 : decode cX8_kindNamed 28 = .ok (.ifCond .eq 5, 3) := by decide +kernel
theorem dX8_kindNamed_31 : decode cX8_kindNamed 31 = .ok (.iconst 2, 1) := by decide +kernel
theorem dX8_kindNamed_32 : decode cX8_kindNamed 32 = .ok (.ireturn, 1) := by decide +kernel
theorem dX8_kindNamed_33 : decode cX8_kindNamed 33 = .ok (.aload_n 0, 1) := by decide +kernel
theorem dX8_kindNamed_34 : decode cX8_kindNamed 34 = .ok (.ldc 107, 2) := by decide +kernel
theorem dX8_kindNamed_36 : decode cX8_kindNamed 36 = .ok (.invokevirtual 54, 3) := by decide +kernel
theorem dX8_kindNamed_39 : decode cX8_kindNamed 39 = .ok (.ifCond .eq 5, 3) := by decide +kernel
theorem dX8_kindNamed_42 : decode cX8_kindNamed 42 = .ok (.iconst 3, 1) := by decide +kernel
theorem dX8_kindNamed_43 : decode cX8_kindNamed 43 = .ok (.ireturn, 1) := by decide +kernel
theorem dX8_kindNamed_44 : decode cX8_kindNamed 44 = .ok (.aload_n 0, 1) := by decide +kernel
theorem dX8_kindNamed_45 : decode cX8_kindNamed 45 = .ok (.ldc 109, 2) := by decide +kernel
theorem dX8_kindNamed_47 : decode cX8_kindNamed 47 = .ok (.invokevirtual 54, 3) := by decide +kernel
theorem dX8_kindNamed_50 : decode cX8_kindNamed 50 = .ok (.ifCond .eq 5, 3) := by decide +kernel
theorem dX8_kindNamed_53 : decode cX8_kindNamed 53 = .ok (.iconst 4, 1) := by decide +kernel
theorem dX8_kindNamed_54 : decode cX8_kindNamed 54 = .ok (.ireturn, 1) := by decide +kernel
theorem dX8_kindNamed_55 : decode cX8_kindNamed 55 = .ok (.aload_n 0, 1) := by decide +kernel
theorem dX8_kindNamed_56 : decode cX8_kindNamed 56 = .ok (.ldc 111, 2) := by decide +kernel
theorem dX8_kindNamed_58 : decode cX8_kindNamed 58 = .ok (.invokevirtual 54, 3) := by decide +kernel
theorem dX8_kindNamed_61 : decode cX8_kindNamed 61 = .ok (.ifCond .eq 7, 3) := by decide +kernel
theorem dX8_kindNamed_64 : decode cX8_kindNamed 64 = .ok (.iconst 5, 1) := by decide +kernel
theorem dX8_kindNamed_65 : decode cX8_kindNamed 65 = .ok (.goto 4, 3) := by decide +kernel
theorem dX8_kindNamed_68 : decode cX8_kindNamed 68 = .ok (.iconst (-1), 1) := by decide +kernel
theorem dX8_kindNamed_69 : decode cX8_kindNamed 69 = .ok (.ireturn, 1) := by decide +kernel
def f8_kindNamed_b69   (s0 : Int32) (m : lu_M) : Option (Int32 × lu_M) :=
  some (s0, m)
set_option maxRecDepth 20000 in
theorem w8_kindNamed_b69  {G : lu_G} {ρ : Nat → Nat}   (X : lu_X G RX8 cX8_kindNamed 1 9 222) (hret : (lu_me G).sig.returnType = (some .int))   : ∀ (s0 : Int32) (m : lu_M), lu_Ab lu_TC G (lu_Q lu_TC G ρ lu_RVi lu_sn) (f8_kindNamed_b69  s0 m) 69 [] [.int s0] ρ 0 0 [] m := by
  intro s0 m
  unfold f8_kindNamed_b69
  exact lu_iret X hret dX8_kindNamed_69
def f8_kindNamed  (m : lu_M) : Option (Int32 × lu_M) :=
  lu_bi (f8_isNamed 0 m) fun x1 m2 =>
  if x1 = 0 then (lu_bi (f8_isNamed 1 m2) fun x3 m4 =>
  if x3 = 0 then (lu_bi (f8_isNamed 2 m4) fun x5 m6 =>
  if x5 = 0 then (lu_bi (f8_isNamed 3 m6) fun x7 m8 =>
  if x7 = 0 then (lu_bi (f8_isNamed 4 m8) fun x9 m10 =>
  if x9 = 0 then (lu_bi (f8_isNamed 5 m10) fun x11 m12 =>
  if x11 = 0 then (f8_kindNamed_b69 (-1 : Int32) m12)
  else (f8_kindNamed_b69 (5 : Int32) m12))
  else (some ((4 : Int32), m10)))
  else (some ((3 : Int32), m8)))
  else (some ((2 : Int32), m6)))
  else (some ((1 : Int32), m4)))
  else (some ((0 : Int32), m2))
set_option maxRecDepth 20000 in
theorem c8_kindNamed (l : Launch)    : lu_C lu_TC l yX8_kindNamed cX8_kindNamed 1 (some .int) 9 222 (fun ρ sa => [.ref (ρ 83)]) (f8_kindNamed ) lu_RVi lu_sn := by
  refine lu_met (cls := RX8) rfl (by decide +kernel) (fun _ _ => Nat.le_of_ble_eq_true rfl) ?_
  intro G ρ m hl X hret
  subst hl
  change lu_Ab lu_TC G (lu_Q lu_TC G ρ lu_RVi lu_sn) (f8_kindNamed  m) 0 [(0, .ref (ρ 83))] [] ρ 0 0 [] m
  unfold f8_kindNamed
  refine lu_aload_n X dX8_kindNamed_0 (pc2 := 1) rfl rfl 0 rfl ?_
  refine lu_ldcS (j := 0) (tx := "hand") X rfl dX8_kindNamed_1 (pc2 := 3) rfl ?_
  refine lu_invVi X (c8_isNamed _ (by decide)) rfl q606 mvV_8_isNamed kC_83 lC_83 (by decide) ⟨_, rfl, rfl⟩ rfl rfl (Nat.le_of_ble_eq_true rfl) (Nat.le_of_ble_eq_true rfl) (Nat.le_of_ble_eq_true rfl) ⟨Nat.zero_le _, Nat.zero_le _⟩ dX8_kindNamed_3 (pc2 := 6) rfl rfl (fun x1 m2 => ?_)
  refine lu_if_eq (tgt := 11) X dX8_kindNamed_6 (pc2 := 9) rfl (by decide) (fun _ => ?_) (fun _ => ?_)
  · refine lu_aload_n X dX8_kindNamed_11 (pc2 := 12) rfl rfl 0 rfl ?_
    refine lu_ldcS (j := 1) (tx := "clasped") X rfl dX8_kindNamed_12 (pc2 := 14) rfl ?_
    refine lu_invVi X (c8_isNamed _ (by decide)) rfl q606 mvV_8_isNamed kC_83 lC_83 (by decide) ⟨_, rfl, rfl⟩ rfl rfl (Nat.le_of_ble_eq_true rfl) (Nat.le_of_ble_eq_true rfl) (Nat.le_of_ble_eq_true rfl) ⟨Nat.zero_le _, Nat.zero_le _⟩ dX8_kindNamed_14 (pc2 := 17) rfl rfl (fun x3 m4 => ?_)
    refine lu_if_eq (tgt := 22) X dX8_kindNamed_17 (pc2 := 20) rfl (by decide) (fun _ => ?_) (fun _ => ?_)
    · refine lu_aload_n X dX8_kindNamed_22 (pc2 := 23) rfl rfl 0 rfl ?_
      refine lu_ldcS (j := 2) (tx := "forger") X rfl dX8_kindNamed_23 (pc2 := 25) rfl ?_
      refine lu_invVi X (c8_isNamed _ (by decide)) rfl q606 mvV_8_isNamed kC_83 lC_83 (by decide) ⟨_, rfl, rfl⟩ rfl rfl (Nat.le_of_ble_eq_true rfl) (Nat.le_of_ble_eq_true rfl) (Nat.le_of_ble_eq_true rfl) ⟨Nat.zero_le _, Nat.zero_le _⟩ dX8_kindNamed_25 (pc2 := 28) rfl rfl (fun x5 m6 => ?_)
      refine lu_if_eq (tgt := 33) X dX8_kindNamed_28 (pc2 := 31) rfl (by decide) (fun _ => ?_) (fun _ => ?_)
      · refine lu_aload_n X dX8_kindNamed_33 (pc2 := 34) rfl rfl 0 rfl ?_
        refine lu_ldcS (j := 3) (tx := "twin") X rfl dX8_kindNamed_34 (pc2 := 36) rfl ?_
        refine lu_invVi X (c8_isNamed _ (by decide)) rfl q606 mvV_8_isNamed kC_83 lC_83 (by decide) ⟨_, rfl, rfl⟩ rfl rfl (Nat.le_of_ble_eq_true rfl) (Nat.le_of_ble_eq_true rfl) (Nat.le_of_ble_eq_true rfl) ⟨Nat.zero_le _, Nat.zero_le _⟩ dX8_kindNamed_36 (pc2 := 39) rfl rfl (fun x7 m8 => ?_)
        refine lu_if_eq (tgt := 44) X dX8_kindNamed_39 (pc2 := 42) rfl (by decide) (fun _ => ?_) (fun _ => ?_)
        · refine lu_aload_n X dX8_kindNamed_44 (pc2 := 45) rfl rfl 0 rfl ?_
          refine lu_ldcS (j := 4) (tx := "slow") X rfl dX8_kindNamed_45 (pc2 := 47) rfl ?_
          refine lu_invVi X (c8_isNamed _ (by decide)) rfl q606 mvV_8_isNamed kC_83 lC_83 (by decide) ⟨_, rfl, rfl⟩ rfl rfl (Nat.le_of_ble_eq_true rfl) (Nat.le_of_ble_eq_true rfl) (Nat.le_of_ble_eq_true rfl) ⟨Nat.zero_le _, Nat.zero_le _⟩ dX8_kindNamed_47 (pc2 := 50) rfl rfl (fun x9 m10 => ?_)
          refine lu_if_eq (tgt := 55) X dX8_kindNamed_50 (pc2 := 53) rfl (by decide) (fun _ => ?_) (fun _ => ?_)
          · refine lu_aload_n X dX8_kindNamed_55 (pc2 := 56) rfl rfl 0 rfl ?_
            refine lu_ldcS (j := 5) (tx := "heir") X rfl dX8_kindNamed_56 (pc2 := 58) rfl ?_
            refine lu_invVi X (c8_isNamed _ (by decide)) rfl q606 mvV_8_isNamed kC_83 lC_83 (by decide) ⟨_, rfl, rfl⟩ rfl rfl (Nat.le_of_ble_eq_true rfl) (Nat.le_of_ble_eq_true rfl) (Nat.le_of_ble_eq_true rfl) ⟨Nat.zero_le _, Nat.zero_le _⟩ dX8_kindNamed_58 (pc2 := 61) rfl rfl (fun x11 m12 => ?_)
            refine lu_if_eq (tgt := 68) X dX8_kindNamed_61 (pc2 := 64) rfl (by decide) (fun _ => ?_) (fun _ => ?_)
            · refine lu_iconst X dX8_kindNamed_68 (pc2 := 69) rfl ic_m1 ?_
              exact lu_sub [] rfl (w8_kindNamed_b69 X hret (-1 : Int32) m12)
            · refine lu_iconst X dX8_kindNamed_64 (pc2 := 65) rfl ic_5 ?_
              refine lu_goto (tgt := 69) X dX8_kindNamed_65 (by decide) ?_
              exact lu_sub [] rfl (w8_kindNamed_b69 X hret (5 : Int32) m12)
          · refine lu_iconst X dX8_kindNamed_53 (pc2 := 54) rfl ic_4 ?_
            exact lu_iret X hret dX8_kindNamed_54
        · refine lu_iconst X dX8_kindNamed_42 (pc2 := 43) rfl ic_3 ?_
          exact lu_iret X hret dX8_kindNamed_43
      · refine lu_iconst X dX8_kindNamed_31 (pc2 := 32) rfl ic_2 ?_
        exact lu_iret X hret dX8_kindNamed_32
    · refine lu_iconst X dX8_kindNamed_20 (pc2 := 21) rfl ic_1 ?_
      exact lu_iret X hret dX8_kindNamed_21
  · refine lu_iconst X dX8_kindNamed_9 (pc2 := 10) rfl ic_0 ?_
    exact lu_iret X hret dX8_kindNamed_10

theorem dX8_doNamed_0 : decode cX8_doNamed 0 = .ok (.aload_n 0, 1) := by decide +kernel
theorem dX8_doNamed_1 : decode cX8_doNamed 1 = .ok (.ldc 113, 2) := by decide +kernel
theorem dX8_doNamed_3 : decode cX8_doNamed 3 = .ok (.invokevirtual 54, 3) := by decide +kernel
theorem dX8_doNamed_6 : decode cX8_doNamed 6 = .ok (.ifCond .eq 5, 3) := by decide +kernel
theorem dX8_doNamed_9 : decode cX8_doNamed 9 = .ok (.iconst 1, 1) := by decide +kernel
theorem dX8_doNamed_10 : decode cX8_doNamed 10 = .ok (.ireturn, 1) := by decide +kernel
theorem dX8_doNamed_11 : decode cX8_doNamed 11 = .ok (.aload_n 0, 1) := by decide +kernel
theorem dX8_doNamed_12 : decode cX8_doNamed 12 = .ok (.ldc 115, 2) := by decide +kernel
theorem dX8_doNamed_14 : decode cX8_doNamed 14 = .ok (.invokevirtual 54, 3) := by decide +kernel
theorem dX8_doNamed_17 : decode cX8_doNamed 17 = .ok (.ifCond .eq 5, 3) := by decide +kernel
theorem dX8_doNamed_20 : decode cX8_doNamed 20 = .ok (.iconst 2, 1) := by decide +kernel
theorem dX8_doNamed_21 : decode cX8_doNamed 21 = .ok (.ireturn, 1) := by decide +kernel
theorem dX8_doNamed_22 : decode cX8_doNamed 22 = .ok (.aload_n 0, 1) := by decide +kernel
theorem dX8_doNamed_23 : decode cX8_doNamed 23 = .ok (.ldc 117, 2) := by decide +kernel
theorem dX8_doNamed_25 : decode cX8_doNamed 25 = .ok (.invokevirtual 54, 3) := by decide +kernel
theorem dX8_doNamed_28 : decode cX8_doNamed 28 = .ok (.ifCond .eq 7, 3) := by decide +kernel
theorem dX8_doNamed_31 : decode cX8_doNamed 31 = .ok (.iconst 3, 1) := by decide +kernel
theorem dX8_doNamed_32 : decode cX8_doNamed 32 = .ok (.goto 4, 3) := by decide +kernel
theorem dX8_doNamed_35 : decode cX8_doNamed 35 = .ok (.iconst 0, 1) := by decide +kernel
theorem dX8_doNamed_36 : decode cX8_doNamed 36 = .ok (.ireturn, 1) := by decide +kernel
def f8_doNamed_b36   (s0 : Int32) (m : lu_M) : Option (Int32 × lu_M) :=
  some (s0, m)
set_option maxRecDepth 20000 in
theorem w8_doNamed_b36  {G : lu_G} {ρ : Nat → Nat}   (X : lu_X G RX8 cX8_doNamed 1 9 222) (hret : (lu_me G).sig.returnType = (some .int))   : ∀ (s0 : Int32) (m : lu_M), lu_Ab lu_TC G (lu_Q lu_TC G ρ lu_RVi lu_sn) (f8_doNamed_b36  s0 m) 36 [] [.int s0] ρ 0 0 [] m := by
  intro s0 m
  unfold f8_doNamed_b36
  exact lu_iret X hret dX8_doNamed_36
def f8_doNamed  (m : lu_M) : Option (Int32 × lu_M) :=
  lu_bi (f8_isNamed 15 m) fun x1 m2 =>
  if x1 = 0 then (lu_bi (f8_isNamed 16 m2) fun x3 m4 =>
  if x3 = 0 then (lu_bi (f8_isNamed 17 m4) fun x5 m6 =>
  if x5 = 0 then (f8_doNamed_b36 (0 : Int32) m6)
  else (f8_doNamed_b36 (3 : Int32) m6))
  else (some ((2 : Int32), m4)))
  else (some ((1 : Int32), m2))
set_option maxRecDepth 20000 in
theorem c8_doNamed (l : Launch)    : lu_C lu_TC l yX8_doNamed cX8_doNamed 1 (some .int) 9 222 (fun ρ sa => [.ref (ρ 83)]) (f8_doNamed ) lu_RVi lu_sn := by
  refine lu_met (cls := RX8) rfl (by decide +kernel) (fun _ _ => Nat.le_of_ble_eq_true rfl) ?_
  intro G ρ m hl X hret
  subst hl
  change lu_Ab lu_TC G (lu_Q lu_TC G ρ lu_RVi lu_sn) (f8_doNamed  m) 0 [(0, .ref (ρ 83))] [] ρ 0 0 [] m
  unfold f8_doNamed
  refine lu_aload_n X dX8_doNamed_0 (pc2 := 1) rfl rfl 0 rfl ?_
  refine lu_ldcS (j := 15) (tx := "early") X rfl dX8_doNamed_1 (pc2 := 3) rfl ?_
  refine lu_invVi X (c8_isNamed _ (by decide)) rfl q606 mvV_8_isNamed kC_83 lC_83 (by decide) ⟨_, rfl, rfl⟩ rfl rfl (Nat.le_of_ble_eq_true rfl) (Nat.le_of_ble_eq_true rfl) (Nat.le_of_ble_eq_true rfl) ⟨Nat.zero_le _, Nat.zero_le _⟩ dX8_doNamed_3 (pc2 := 6) rfl rfl (fun x1 m2 => ?_)
  refine lu_if_eq (tgt := 11) X dX8_doNamed_6 (pc2 := 9) rfl (by decide) (fun _ => ?_) (fun _ => ?_)
  · refine lu_aload_n X dX8_doNamed_11 (pc2 := 12) rfl rfl 0 rfl ?_
    refine lu_ldcS (j := 16) (tx := "late") X rfl dX8_doNamed_12 (pc2 := 14) rfl ?_
    refine lu_invVi X (c8_isNamed _ (by decide)) rfl q606 mvV_8_isNamed kC_83 lC_83 (by decide) ⟨_, rfl, rfl⟩ rfl rfl (Nat.le_of_ble_eq_true rfl) (Nat.le_of_ble_eq_true rfl) (Nat.le_of_ble_eq_true rfl) ⟨Nat.zero_le _, Nat.zero_le _⟩ dX8_doNamed_14 (pc2 := 17) rfl rfl (fun x3 m4 => ?_)
    refine lu_if_eq (tgt := 22) X dX8_doNamed_17 (pc2 := 20) rfl (by decide) (fun _ => ?_) (fun _ => ?_)
    · refine lu_aload_n X dX8_doNamed_22 (pc2 := 23) rfl rfl 0 rfl ?_
      refine lu_ldcS (j := 17) (tx := "spare") X rfl dX8_doNamed_23 (pc2 := 25) rfl ?_
      refine lu_invVi X (c8_isNamed _ (by decide)) rfl q606 mvV_8_isNamed kC_83 lC_83 (by decide) ⟨_, rfl, rfl⟩ rfl rfl (Nat.le_of_ble_eq_true rfl) (Nat.le_of_ble_eq_true rfl) (Nat.le_of_ble_eq_true rfl) ⟨Nat.zero_le _, Nat.zero_le _⟩ dX8_doNamed_25 (pc2 := 28) rfl rfl (fun x5 m6 => ?_)
      refine lu_if_eq (tgt := 35) X dX8_doNamed_28 (pc2 := 31) rfl (by decide) (fun _ => ?_) (fun _ => ?_)
      · refine lu_iconst X dX8_doNamed_35 (pc2 := 36) rfl ic_0 ?_
        exact lu_sub [] rfl (w8_doNamed_b36 X hret (0 : Int32) m6)
      · refine lu_iconst X dX8_doNamed_31 (pc2 := 32) rfl ic_3 ?_
        refine lu_goto (tgt := 36) X dX8_doNamed_32 (by decide) ?_
        exact lu_sub [] rfl (w8_doNamed_b36 X hret (3 : Int32) m6)
    · refine lu_iconst X dX8_doNamed_20 (pc2 := 21) rfl ic_2 ?_
      exact lu_iret X hret dX8_doNamed_21
  · refine lu_iconst X dX8_doNamed_9 (pc2 := 10) rfl ic_1 ?_
    exact lu_iret X hret dX8_doNamed_10

theorem dX8_isByte_0 : decode cX8_isByte 0 = .ok (.aload_n 0, 1) := by decide +kernel
theorem dX8_isByte_1 : decode cX8_isByte 1 = .ok (.getfield 32, 3) := by decide +kernel
theorem dX8_isByte_4 : decode cX8_isByte 4 = .ok (.iconst 3, 1) := by decide +kernel
theorem dX8_isByte_5 : decode cX8_isByte 5 = .ok (.if_icmp .ne 20, 3) := by decide +kernel
theorem dX8_isByte_8 : decode cX8_isByte 8 = .ok (.aload_n 0, 1) := by decide +kernel
theorem dX8_isByte_9 : decode cX8_isByte 9 = .ok (.getfield 9, 3) := by decide +kernel
theorem dX8_isByte_12 : decode cX8_isByte 12 = .ok (.aload_n 0, 1) := by decide +kernel
theorem dX8_isByte_13 : decode cX8_isByte 13 = .ok (.getfield 42, 3) := by decide +kernel
theorem dX8_isByte_16 : decode cX8_isByte 16 = .ok (.iaload, 1) := by decide +kernel
theorem dX8_isByte_17 : decode cX8_isByte 17 = .ok (.iload_n 1, 1) := by decide +kernel
theorem dX8_isByte_18 : decode cX8_isByte 18 = .ok (.if_icmp .ne 7, 3) := by decide +kernel
theorem dX8_isByte_21 : decode cX8_isByte 21 = .ok (.iconst 1, 1) := by decide +kernel
theorem dX8_isByte_22 : decode cX8_isByte 22 = .ok (.goto 4, 3) := by decide +kernel
theorem dX8_isByte_25 : decode cX8_isByte 25 = .ok (.iconst 0, 1) := by decide +kernel
theorem dX8_isByte_26 : decode cX8_isByte 26 = .ok (.ireturn, 1) := by decide +kernel
def f8_isByte_b26  (a1 : Int32) (s0 : Int32) (m : lu_M) : Option (Int32 × lu_M) :=
  lu_gd (decide (s0 = 0 ∨ s0 = 1)) (some (s0, m))
set_option maxRecDepth 20000 in
theorem w8_isByte_b26  {G : lu_G} {ρ : Nat → Nat} {a1 : Int32}  (X : lu_X G RX8 cX8_isByte 2 0 0) (hret : (lu_me G).sig.returnType = (some .boolean))   : ∀ (s0 : Int32) (m : lu_M), lu_Ab lu_TC G (lu_Q lu_TC G ρ lu_RVi lu_sn) (f8_isByte_b26 a1 s0 m) 26 [] [.int s0] ρ 0 0 [] m := by
  intro s0 m
  unfold f8_isByte_b26
  exact lu_zretG X hret dX8_isByte_26
def f8_isByte_b25  (a1 : Int32)  (m : lu_M) : Option (Int32 × lu_M) :=
  f8_isByte_b26 a1 (0 : Int32) m
set_option maxRecDepth 20000 in
theorem w8_isByte_b25  {G : lu_G} {ρ : Nat → Nat} {a1 : Int32}  (X : lu_X G RX8 cX8_isByte 2 0 0) (hret : (lu_me G).sig.returnType = (some .boolean))   : ∀  (m : lu_M), lu_Ab lu_TC G (lu_Q lu_TC G ρ lu_RVi lu_sn) (f8_isByte_b25 a1 m) 25 [] [] ρ 0 0 [] m := by
  intro  m
  unfold f8_isByte_b25
  refine lu_iconst X dX8_isByte_25 (pc2 := 26) rfl ic_0 ?_
  exact w8_isByte_b26 X hret (0 : Int32) m
def f8_isByte (a1 : Int32) (m : lu_M) : Option (Int32 × lu_M) :=
  if (m 83 3) = (3 : Int32) then (lu_gd (lu_ib (m 83 4) 200) <|
  if (m 84 (m 83 4).toNatClampNeg) = a1 then (f8_isByte_b26 a1 (1 : Int32) m)
  else (f8_isByte_b25 a1 m))
  else (f8_isByte_b25 a1 m)
set_option maxRecDepth 20000 in
theorem c8_isByte (l : Launch)   (a1 : Int32) : lu_C lu_TC l yX8_isByte cX8_isByte 2 (some .boolean) 0 0 (fun ρ sa => [.ref (ρ 83), .int a1]) (f8_isByte a1) lu_RVi lu_sn := by
  refine lu_met (cls := RX8) rfl (by decide +kernel) (fun _ _ => Nat.le_of_ble_eq_true rfl) ?_
  intro G ρ m hl X hret
  subst hl
  change lu_Ab lu_TC G (lu_Q lu_TC G ρ lu_RVi lu_sn) (f8_isByte a1 m) 0 [(0, .ref (ρ 83)), (1, .int a1)] [] ρ 0 0 [] m
  unfold f8_isByte
  refine lu_aload_n X dX8_isByte_0 (pc2 := 1) rfl rfl 0 rfl ?_
  refine lu_get X fl8_32 rfl kC_83 lC_83 dX8_isByte_1 (pc2 := 4) rfl ?_
  refine lu_iconst X dX8_isByte_4 (pc2 := 5) rfl ic_3 ?_
  refine lu_icmp_ne (tgt := 25) X dX8_isByte_5 (pc2 := 8) rfl (by decide) (fun _ => ?_) (fun _ => ?_)
  · exact lu_sub [] rfl (w8_isByte_b25 X hret m)
  · refine lu_aload_n X dX8_isByte_8 (pc2 := 9) rfl rfl 0 rfl ?_
    refine lu_getr (r2 := 84) X rfl fl8_9 rfl kC_83 lC_83 dX8_isByte_9 (pc2 := 12) rfl ?_
    refine lu_aload_n X dX8_isByte_12 (pc2 := 13) rfl rfl 0 rfl ?_
    refine lu_get X fl8_42 rfl kC_83 lC_83 dX8_isByte_13 (pc2 := 16) rfl ?_
    refine lu_iald X kC_84 lC_84 dX8_isByte_16 (pc2 := 17) rfl ?_
    refine lu_iload_n X dX8_isByte_17 (pc2 := 18) rfl rfl 1 rfl ?_
    refine lu_icmp_ne (tgt := 25) X dX8_isByte_18 (pc2 := 21) rfl (by decide) (fun _ => ?_) (fun _ => ?_)
    · exact lu_sub [] rfl (w8_isByte_b25 X hret m)
    · refine lu_iconst X dX8_isByte_21 (pc2 := 22) rfl ic_1 ?_
      refine lu_goto (tgt := 26) X dX8_isByte_22 (by decide) ?_
      exact lu_sub [] rfl (w8_isByte_b26 X hret (1 : Int32) m)

theorem dX8_valueNamed_0 : decode cX8_valueNamed 0 = .ok (.aload_n 0, 1) := by decide +kernel
theorem dX8_valueNamed_1 : decode cX8_valueNamed 1 = .ok (.getfield 32, 3) := by decide +kernel
theorem dX8_valueNamed_4 : decode cX8_valueNamed 4 = .ok (.iconst 2, 1) := by decide +kernel
theorem dX8_valueNamed_5 : decode cX8_valueNamed 5 = .ok (.if_icmp .ne 8, 3) := by decide +kernel
theorem dX8_valueNamed_8 : decode cX8_valueNamed 8 = .ok (.aload_n 0, 1) := by decide +kernel
theorem dX8_valueNamed_9 : decode cX8_valueNamed 9 = .ok (.getfield 65, 3) := by decide +kernel
theorem dX8_valueNamed_12 : decode cX8_valueNamed 12 = .ok (.ireturn, 1) := by decide +kernel
theorem dX8_valueNamed_13 : decode cX8_valueNamed 13 = .ok (.aload_n 0, 1) := by decide +kernel
theorem dX8_valueNamed_14 : decode cX8_valueNamed 14 = .ok (.ldc 119, 2) := by decide +kernel
theorem dX8_valueNamed_16 : decode cX8_valueNamed 16 = .ok (.invokevirtual 54, 3) := by decide +kernel
theorem dX8_valueNamed_19 : decode cX8_valueNamed 19 = .ok (.ifCond .eq 7, 3) := by decide +kernel
theorem dX8_valueNamed_22 : decode cX8_valueNamed 22 = .ok (.sipush 10000, 3) := by decide +kernel
theorem dX8_valueNamed_25 : decode cX8_valueNamed 25 = .ok (.ireturn, 1) := by decide +kernel
theorem dX8_valueNamed_26 : decode cX8_valueNamed 26 = .ok (.aload_n 0, 1) := by decide +kernel
theorem dX8_valueNamed_27 : decode cX8_valueNamed 27 = .ok (.ldc 121, 2) := by decide +kernel
theorem dX8_valueNamed_29 : decode cX8_valueNamed 29 = .ok (.invokevirtual 54, 3) := by decide +kernel
theorem dX8_valueNamed_32 : decode cX8_valueNamed 32 = .ok (.ifCond .eq 7, 3) := by decide +kernel
theorem dX8_valueNamed_35 : decode cX8_valueNamed 35 = .ok (.sipush 10001, 3) := by decide +kernel
theorem dX8_valueNamed_38 : decode cX8_valueNamed 38 = .ok (.ireturn, 1) := by decide +kernel
theorem dX8_valueNamed_39 : decode cX8_valueNamed 39 = .ok (.aload_n 0, 1) := by decide +kernel
theorem dX8_valueNamed_40 : decode cX8_valueNamed 40 = .ok (.ldc 123, 2) := by decide +kernel
theorem dX8_valueNamed_42 : decode cX8_valueNamed 42 = .ok (.invokevirtual 54, 3) := by decide +kernel
theorem dX8_valueNamed_45 : decode cX8_valueNamed 45 = .ok (.ifCond .eq 7, 3) := by decide +kernel
theorem dX8_valueNamed_48 : decode cX8_valueNamed 48 = .ok (.sipush 10002, 3) := by decide +kernel
theorem dX8_valueNamed_51 : decode cX8_valueNamed 51 = .ok (.ireturn, 1) := by decide +kernel
theorem dX8_valueNamed_52 : decode cX8_valueNamed 52 = .ok (.aload_n 0, 1) := by decide +kernel
theorem dX8_valueNamed_53 : decode cX8_valueNamed 53 = .ok (.ldc 125, 2) := by decide +kernel
theorem dX8_valueNamed_55 : decode cX8_valueNamed 55 = .ok (.invokevirtual 54, 3) := by decide +kernel
theorem dX8_valueNamed_58 : decode cX8_valueNamed 58 = .ok (.ifCond .eq 7, 3) := by decide +kernel
theorem dX8_valueNamed_61 : decode cX8_valueNamed 61 = .ok (.sipush 10003, 3) := by decide +kernel
theorem dX8_valueNamed_64 : decode cX8_valueNamed 64 = .ok (.ireturn, 1) := by decide +kernel
theorem dX8_valueNamed_65 : decode cX8_valueNamed 65 = .ok (.aload_n 0, 1) := by decide +kernel
theorem dX8_valueNamed_66 : decode cX8_valueNamed 66 = .ok (.ldc 127, 2) := by decide +kernel
theorem dX8_valueNamed_68 : decode cX8_valueNamed 68 = .ok (.invokevirtual 54, 3) := by decide +kernel
theorem dX8_valueNamed_71 : decode cX8_valueNamed 71 = .ok (.ifCond .eq 9, 3) := by decide +kernel
theorem dX8_valueNamed_74 : decode cX8_valueNamed 74 = .ok (.sipush 10004, 3) := by decide +kernel
theorem dX8_valueNamed_77 : decode cX8_valueNamed 77 = .ok (.goto 4, 3) := by decide +kernel
theorem dX8_valueNamed_80 : decode cX8_valueNamed 80 = .ok (.iconst (-1), 1) := by decide +kernel
theorem dX8_valueNamed_81 : decode cX8_valueNamed 81 = .ok (.ireturn, 1) := by decide +kernel
def f8_valueNamed_b81   (s0 : Int32) (m : lu_M) : Option (Int32 × lu_M) :=
  some (s0, m)
set_option maxRecDepth 20000 in
theorem w8_valueNamed_b81  {G : lu_G} {ρ : Nat → Nat}   (X : lu_X G RX8 cX8_valueNamed 1 9 222) (hret : (lu_me G).sig.returnType = (some .int))   : ∀ (s0 : Int32) (m : lu_M), lu_Ab lu_TC G (lu_Q lu_TC G ρ lu_RVi lu_sn) (f8_valueNamed_b81  s0 m) 81 [] [.int s0] ρ 0 0 [] m := by
  intro s0 m
  unfold f8_valueNamed_b81
  exact lu_iret X hret dX8_valueNamed_81
def f8_valueNamed  (m : lu_M) : Option (Int32 × lu_M) :=
  if (m 83 3) = (2 : Int32) then (some ((m 83 6), m))
  else (lu_bi (f8_isNamed 8 m) fun x1 m2 =>
  if x1 = 0 then (lu_bi (f8_isNamed 9 m2) fun x3 m4 =>
  if x3 = 0 then (lu_bi (f8_isNamed 10 m4) fun x5 m6 =>
  if x5 = 0 then (lu_bi (f8_isNamed 11 m6) fun x7 m8 =>
  if x7 = 0 then (lu_bi (f8_isNamed 12 m8) fun x9 m10 =>
  if x9 = 0 then (f8_valueNamed_b81 (-1 : Int32) m10)
  else (f8_valueNamed_b81 (10004 : Int32) m10))
  else (some ((10003 : Int32), m8)))
  else (some ((10002 : Int32), m6)))
  else (some ((10001 : Int32), m4)))
  else (some ((10000 : Int32), m2)))
set_option maxRecDepth 20000 in
theorem c8_valueNamed (l : Launch)    : lu_C lu_TC l yX8_valueNamed cX8_valueNamed 1 (some .int) 9 222 (fun ρ sa => [.ref (ρ 83)]) (f8_valueNamed ) lu_RVi lu_sn := by
  refine lu_met (cls := RX8) rfl (by decide +kernel) (fun _ _ => Nat.le_of_ble_eq_true rfl) ?_
  intro G ρ m hl X hret
  subst hl
  change lu_Ab lu_TC G (lu_Q lu_TC G ρ lu_RVi lu_sn) (f8_valueNamed  m) 0 [(0, .ref (ρ 83))] [] ρ 0 0 [] m
  unfold f8_valueNamed
  refine lu_aload_n X dX8_valueNamed_0 (pc2 := 1) rfl rfl 0 rfl ?_
  refine lu_get X fl8_32 rfl kC_83 lC_83 dX8_valueNamed_1 (pc2 := 4) rfl ?_
  refine lu_iconst X dX8_valueNamed_4 (pc2 := 5) rfl ic_2 ?_
  refine lu_icmp_ne (tgt := 13) X dX8_valueNamed_5 (pc2 := 8) rfl (by decide) (fun _ => ?_) (fun _ => ?_)
  · refine lu_aload_n X dX8_valueNamed_13 (pc2 := 14) rfl rfl 0 rfl ?_
    refine lu_ldcS (j := 8) (tx := "year") X rfl dX8_valueNamed_14 (pc2 := 16) rfl ?_
    refine lu_invVi X (c8_isNamed _ (by decide)) rfl q606 mvV_8_isNamed kC_83 lC_83 (by decide) ⟨_, rfl, rfl⟩ rfl rfl (Nat.le_of_ble_eq_true rfl) (Nat.le_of_ble_eq_true rfl) (Nat.le_of_ble_eq_true rfl) ⟨Nat.zero_le _, Nat.zero_le _⟩ dX8_valueNamed_16 (pc2 := 19) rfl rfl (fun x1 m2 => ?_)
    refine lu_if_eq (tgt := 26) X dX8_valueNamed_19 (pc2 := 22) rfl (by decide) (fun _ => ?_) (fun _ => ?_)
    · refine lu_aload_n X dX8_valueNamed_26 (pc2 := 27) rfl rfl 0 rfl ?_
      refine lu_ldcS (j := 9) (tx := "stands") X rfl dX8_valueNamed_27 (pc2 := 29) rfl ?_
      refine lu_invVi X (c8_isNamed _ (by decide)) rfl q606 mvV_8_isNamed kC_83 lC_83 (by decide) ⟨_, rfl, rfl⟩ rfl rfl (Nat.le_of_ble_eq_true rfl) (Nat.le_of_ble_eq_true rfl) (Nat.le_of_ble_eq_true rfl) ⟨Nat.zero_le _, Nat.zero_le _⟩ dX8_valueNamed_29 (pc2 := 32) rfl rfl (fun x3 m4 => ?_)
      refine lu_if_eq (tgt := 39) X dX8_valueNamed_32 (pc2 := 35) rfl (by decide) (fun _ => ?_) (fun _ => ?_)
      · refine lu_aload_n X dX8_valueNamed_39 (pc2 := 40) rfl rfl 0 rfl ?_
        refine lu_ldcS (j := 10) (tx := "grace") X rfl dX8_valueNamed_40 (pc2 := 42) rfl ?_
        refine lu_invVi X (c8_isNamed _ (by decide)) rfl q606 mvV_8_isNamed kC_83 lC_83 (by decide) ⟨_, rfl, rfl⟩ rfl rfl (Nat.le_of_ble_eq_true rfl) (Nat.le_of_ble_eq_true rfl) (Nat.le_of_ble_eq_true rfl) ⟨Nat.zero_le _, Nat.zero_le _⟩ dX8_valueNamed_42 (pc2 := 45) rfl rfl (fun x5 m6 => ?_)
        refine lu_if_eq (tgt := 52) X dX8_valueNamed_45 (pc2 := 48) rfl (by decide) (fun _ => ?_) (fun _ => ?_)
        · refine lu_aload_n X dX8_valueNamed_52 (pc2 := 53) rfl rfl 0 rfl ?_
          refine lu_ldcS (j := 11) (tx := "strength") X rfl dX8_valueNamed_53 (pc2 := 55) rfl ?_
          refine lu_invVi X (c8_isNamed _ (by decide)) rfl q606 mvV_8_isNamed kC_83 lC_83 (by decide) ⟨_, rfl, rfl⟩ rfl rfl (Nat.le_of_ble_eq_true rfl) (Nat.le_of_ble_eq_true rfl) (Nat.le_of_ble_eq_true rfl) ⟨Nat.zero_le _, Nat.zero_le _⟩ dX8_valueNamed_55 (pc2 := 58) rfl rfl (fun x7 m8 => ?_)
          refine lu_if_eq (tgt := 65) X dX8_valueNamed_58 (pc2 := 61) rfl (by decide) (fun _ => ?_) (fun _ => ?_)
          · refine lu_aload_n X dX8_valueNamed_65 (pc2 := 66) rfl rfl 0 rfl ?_
            refine lu_ldcS (j := 12) (tx := "number") X rfl dX8_valueNamed_66 (pc2 := 68) rfl ?_
            refine lu_invVi X (c8_isNamed _ (by decide)) rfl q606 mvV_8_isNamed kC_83 lC_83 (by decide) ⟨_, rfl, rfl⟩ rfl rfl (Nat.le_of_ble_eq_true rfl) (Nat.le_of_ble_eq_true rfl) (Nat.le_of_ble_eq_true rfl) ⟨Nat.zero_le _, Nat.zero_le _⟩ dX8_valueNamed_68 (pc2 := 71) rfl rfl (fun x9 m10 => ?_)
            refine lu_if_eq (tgt := 80) X dX8_valueNamed_71 (pc2 := 74) rfl (by decide) (fun _ => ?_) (fun _ => ?_)
            · refine lu_iconst X dX8_valueNamed_80 (pc2 := 81) rfl ic_m1 ?_
              exact lu_sub [] rfl (w8_valueNamed_b81 X hret (-1 : Int32) m10)
            · refine lu_sipush X dX8_valueNamed_74 (pc2 := 77) rfl sp_10004 ?_
              refine lu_goto (tgt := 81) X dX8_valueNamed_77 (by decide) ?_
              exact lu_sub [] rfl (w8_valueNamed_b81 X hret (10004 : Int32) m10)
          · refine lu_sipush X dX8_valueNamed_61 (pc2 := 64) rfl sp_10003 ?_
            exact lu_iret X hret dX8_valueNamed_64
        · refine lu_sipush X dX8_valueNamed_48 (pc2 := 51) rfl sp_10002 ?_
          exact lu_iret X hret dX8_valueNamed_51
      · refine lu_sipush X dX8_valueNamed_35 (pc2 := 38) rfl sp_10001 ?_
        exact lu_iret X hret dX8_valueNamed_38
    · refine lu_sipush X dX8_valueNamed_22 (pc2 := 25) rfl sp_10000 ?_
      exact lu_iret X hret dX8_valueNamed_25
  · refine lu_aload_n X dX8_valueNamed_8 (pc2 := 9) rfl rfl 0 rfl ?_
    refine lu_get X fl8_65 rfl kC_83 lC_83 dX8_valueNamed_9 (pc2 := 12) rfl ?_
    exact lu_iret X hret dX8_valueNamed_12

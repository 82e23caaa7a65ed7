/-! WALKS of methods (written by a program out of their instructions): functions of the memory, and contracts -/
theorem dX11_best_0 : decode cX11_best 0 = .ok (.iload_n 1, 1) := by decide +kernel
theorem dX11_best_1 : decode cX11_best 1 = .ok (.iconst 0, 1) := by decide +kernel
theorem dX11_best_2 : decode cX11_best 2 = .ok (.iconst 4, 1) := by decide +kernel
theorem dX11_best_3 : decode cX11_best 3 = .ok (.invokestatic 92, 3) := by decide +kernel
theorem dX11_best_6 : decode cX11_best 6 = .ok (.ifCond .ne 5, 3) := by decide +kernel
theorem dX11_best_9 : decode cX11_best 9 = .ok (.iconst (-1), 1) := by decide +kernel
theorem dX11_best_10 : decode cX11_best 10 = .ok (.ireturn, 1) := by decide +kernel
theorem dX11_best_11 : decode cX11_best 11 = .ok (.aload_n 0, 1) := by decide +kernel
theorem dX11_best_12 : decode cX11_best 12 = .ok (.getfield 41, 3) := by decide +kernel
theorem dX11_best_15 : decode cX11_best 15 = .ok (.iload_n 1, 1) := by decide +kernel
theorem dX11_best_16 : decode cX11_best 16 = .ok (.iconst 0, 1) := by decide +kernel
theorem dX11_best_17 : decode cX11_best 17 = .ok (.invokevirtual 238, 3) := by decide +kernel
theorem dX11_best_20 : decode cX11_best 20 = .ok (.aload_n 0, 1) := by decide +kernel
theorem dX11_best_21 : decode cX11_best 21 = .ok (.getfield 41, 3) := by decide +kernel
theorem dX11_best_24 : decode cX11_best 24 = .ok (.getfield 242, 3) := by decide +kernel
theorem dX11_best_27 : decode cX11_best 27 = .ok (.ireturn, 1) := by decide +kernel
def f11_best (a1 : Int32) (m : lu_M) : Option (Int32 × lu_M) :=
  lu_bi (f11_isWithin a1 (0 : Int32) (4 : Int32) m) fun x1 m2 =>
  if x1 = 0 then (some ((-1 : Int32), m2))
  else (lu_bv (f5_tryAll a1 (0 : Int32) m2) fun m3 =>
  some ((m3 74 5), m3))
set_option maxRecDepth 20000 in
theorem c11_best (l : Launch)   (a1 : Int32) : lu_C lu_TC l yX11_best cX11_best 2 (some .int) 32 777 (fun ρ sa => [.ref (ρ 0), .int a1]) (f11_best a1) lu_RVi lu_sn := by
  refine lu_met (cls := RX11) rfl (by decide +kernel) (fun _ _ => Nat.le_of_ble_eq_true rfl) ?_
  intro G ρ m hl X hret
  subst hl
  change lu_Ab lu_TC G (lu_Q lu_TC G ρ lu_RVi lu_sn) (f11_best a1 m) 0 [(0, .ref (ρ 0)), (1, .int a1)] [] ρ 0 0 [] m
  unfold f11_best
  refine lu_iload_n X dX11_best_0 (pc2 := 1) rfl rfl 1 rfl ?_
  refine lu_iconst X dX11_best_1 (pc2 := 2) rfl ic_0 ?_
  refine lu_iconst X dX11_best_2 (pc2 := 3) rfl ic_4 ?_
  refine lu_invSi X (c11_isWithin _ a1 (0 : Int32) (4 : Int32)) rfl q433 mvS_11_isWithin rfl rfl (Nat.le_of_ble_eq_true rfl) (Nat.le_of_ble_eq_true rfl) (Nat.le_of_ble_eq_true rfl) ⟨Nat.zero_le _, Nat.zero_le _⟩ dX11_best_3 (pc2 := 6) rfl rfl (fun x1 m2 => ?_)
  refine lu_if_ne (tgt := 11) X dX11_best_6 (pc2 := 9) rfl (by decide) (fun _ => ?_) (fun _ => ?_)
  · refine lu_aload_n X dX11_best_11 (pc2 := 12) rfl rfl 0 rfl ?_
    refine lu_getr (r2 := 74) X rfl fl11_41 rfl kC_0 lC_0 dX11_best_12 (pc2 := 15) rfl ?_
    refine lu_iload_n X dX11_best_15 (pc2 := 16) rfl rfl 1 rfl ?_
    refine lu_iconst X dX11_best_16 (pc2 := 17) rfl ic_0 ?_
    refine lu_invVv X (c5_tryAll _ a1 (0 : Int32)) rfl q830 mvV_5_tryAll kC_74 lC_74 (by decide) ⟨_, rfl, rfl⟩ rfl rfl (Nat.le_of_ble_eq_true rfl) (Nat.le_of_ble_eq_true rfl) (Nat.le_of_ble_eq_true rfl) ⟨Nat.zero_le _, Nat.zero_le _⟩ dX11_best_17 (pc2 := 20) rfl rfl (fun m3 => ?_)
    refine lu_aload_n X dX11_best_20 (pc2 := 21) rfl rfl 0 rfl ?_
    refine lu_getr (r2 := 74) X rfl fl11_41 rfl kC_0 lC_0 dX11_best_21 (pc2 := 24) rfl ?_
    refine lu_get X fl11_242 rfl kC_74 lC_74 dX11_best_24 (pc2 := 27) rfl ?_
    exact lu_iret X hret dX11_best_27
  · refine lu_iconst X dX11_best_9 (pc2 := 10) rfl ic_m1 ?_
    exact lu_iret X hret dX11_best_10

theorem dX11_ith_0 : decode cX11_ith 0 = .ok (.iload_n 1, 1) := by decide +kernel
theorem dX11_ith_1 : decode cX11_ith 1 = .ok (.iconst 0, 1) := by decide +kernel
theorem dX11_ith_2 : decode cX11_ith 2 = .ok (.iconst 4, 1) := by decide +kernel
theorem dX11_ith_3 : decode cX11_ith 3 = .ok (.invokestatic 92, 3) := by decide +kernel
theorem dX11_ith_6 : decode cX11_ith 6 = .ok (.ifCond .eq 12, 3) := by decide +kernel
theorem dX11_ith_9 : decode cX11_ith 9 = .ok (.iload_n 2, 1) := by decide +kernel
theorem dX11_ith_10 : decode cX11_ith 10 = .ok (.iconst 0, 1) := by decide +kernel
theorem dX11_ith_11 : decode cX11_ith 11 = .ok (.iconst 3, 1) := by decide +kernel
theorem dX11_ith_12 : decode cX11_ith 12 = .ok (.invokestatic 92, 3) := by decide +kernel
theorem dX11_ith_15 : decode cX11_ith 15 = .ok (.ifCond .ne 5, 3) := by decide +kernel
theorem dX11_ith_18 : decode cX11_ith 18 = .ok (.iconst (-1), 1) := by decide +kernel
theorem dX11_ith_19 : decode cX11_ith 19 = .ok (.ireturn, 1) := by decide +kernel
theorem dX11_ith_20 : decode cX11_ith 20 = .ok (.aload_n 0, 1) := by decide +kernel
theorem dX11_ith_21 : decode cX11_ith 21 = .ok (.getfield 41, 3) := by decide +kernel
theorem dX11_ith_24 : decode cX11_ith 24 = .ok (.iload_n 1, 1) := by decide +kernel
theorem dX11_ith_25 : decode cX11_ith 25 = .ok (.iconst 0, 1) := by decide +kernel
theorem dX11_ith_26 : decode cX11_ith 26 = .ok (.invokevirtual 238, 3) := by decide +kernel
theorem dX11_ith_29 : decode cX11_ith 29 = .ok (.iload_n 2, 1) := by decide +kernel
theorem dX11_ith_30 : decode cX11_ith 30 = .ok (.aload_n 0, 1) := by decide +kernel
theorem dX11_ith_31 : decode cX11_ith 31 = .ok (.getfield 41, 3) := by decide +kernel
theorem dX11_ith_34 : decode cX11_ith 34 = .ok (.getfield 245, 3) := by decide +kernel
theorem dX11_ith_37 : decode cX11_ith 37 = .ok (.if_icmp .ge 15, 3) := by decide +kernel
theorem dX11_ith_40 : decode cX11_ith 40 = .ok (.aload_n 0, 1) := by decide +kernel
theorem dX11_ith_41 : decode cX11_ith 41 = .ok (.getfield 41, 3) := by decide +kernel
theorem dX11_ith_44 : decode cX11_ith 44 = .ok (.getfield 246, 3) := by decide +kernel
theorem dX11_ith_47 : decode cX11_ith 47 = .ok (.iload_n 2, 1) := by decide +kernel
theorem dX11_ith_48 : decode cX11_ith 48 = .ok (.iaload, 1) := by decide +kernel
theorem dX11_ith_49 : decode cX11_ith 49 = .ok (.goto 5, 3) := by decide +kernel
theorem dX11_ith_52 : decode cX11_ith 52 = .ok (.bipush (-3), 2) := by decide +kernel
theorem dX11_ith_54 : decode cX11_ith 54 = .ok (.ireturn, 1) := by decide +kernel
def f11_ith_b18  (a1 : Int32) (a2 : Int32)  (m : lu_M) : Option (Int32 × lu_M) :=
  some ((-1 : Int32), m)
set_option maxRecDepth 20000 in
theorem w11_ith_b18  {G : lu_G} {ρ : Nat → Nat} {a1 : Int32} {a2 : Int32}  (X : lu_X G RX11 cX11_ith 3 32 777) (hret : (lu_me G).sig.returnType = (some .int))   : ∀  (m : lu_M), lu_Ab lu_TC G (lu_Q lu_TC G ρ lu_RVi lu_sn) (f11_ith_b18 a1 a2 m) 18 [] [] ρ 0 0 [] m := by
  intro  m
  unfold f11_ith_b18
  refine lu_iconst X dX11_ith_18 (pc2 := 19) rfl ic_m1 ?_
  exact lu_iret X hret dX11_ith_19
def f11_ith_b54  (a1 : Int32) (a2 : Int32) (s0 : Int32) (m : lu_M) : Option (Int32 × lu_M) :=
  some (s0, m)
set_option maxRecDepth 20000 in
theorem w11_ith_b54  {G : lu_G} {ρ : Nat → Nat} {a1 : Int32} {a2 : Int32}  (X : lu_X G RX11 cX11_ith 3 32 777) (hret : (lu_me G).sig.returnType = (some .int))   : ∀ (s0 : Int32) (m : lu_M), lu_Ab lu_TC G (lu_Q lu_TC G ρ lu_RVi lu_sn) (f11_ith_b54 a1 a2 s0 m) 54 [] [.int s0] ρ 0 0 [] m := by
  intro s0 m
  unfold f11_ith_b54
  exact lu_iret X hret dX11_ith_54
def f11_ith (a1 : Int32) (a2 : Int32) (m : lu_M) : Option (Int32 × lu_M) :=
  lu_bi (f11_isWithin a1 (0 : Int32) (4 : Int32) m) fun x1 m2 =>
  if x1 = 0 then (f11_ith_b18 a1 a2 m2)
  else (lu_bi (f11_isWithin a2 (0 : Int32) (3 : Int32) m2) fun x3 m4 =>
  if x3 = 0 then (f11_ith_b18 a1 a2 m4)
  else (lu_bv (f5_tryAll a1 (0 : Int32) m4) fun m5 =>
  if (m5 74 4) ≤ a2 then (f11_ith_b54 a1 a2 (-3 : Int32) m5)
  else (lu_gd (lu_ib a2 4) <|
  f11_ith_b54 a1 a2 (m5 82 a2.toNatClampNeg) m5)))
set_option maxRecDepth 20000 in
theorem c11_ith (l : Launch)   (a1 : Int32) (a2 : Int32) : lu_C lu_TC l yX11_ith cX11_ith 3 (some .int) 32 777 (fun ρ sa => [.ref (ρ 0), .int a1, .int a2]) (f11_ith a1 a2) lu_RVi lu_sn := by
  refine lu_met (cls := RX11) rfl (by decide +kernel) (fun _ _ => Nat.le_of_ble_eq_true rfl) ?_
  intro G ρ m hl X hret
  subst hl
  change lu_Ab lu_TC G (lu_Q lu_TC G ρ lu_RVi lu_sn) (f11_ith a1 a2 m) 0 [(0, .ref (ρ 0)), (1, .int a1), (2, .int a2)] [] ρ 0 0 [] m
  unfold f11_ith
  refine lu_iload_n X dX11_ith_0 (pc2 := 1) rfl rfl 1 rfl ?_
  refine lu_iconst X dX11_ith_1 (pc2 := 2) rfl ic_0 ?_
  refine lu_iconst X dX11_ith_2 (pc2 := 3) rfl ic_4 ?_
  refine lu_invSi X (c11_isWithin _ a1 (0 : Int32) (4 : Int32)) rfl q433 mvS_11_isWithin rfl rfl (Nat.le_of_ble_eq_true rfl) (Nat.le_of_ble_eq_true rfl) (Nat.le_of_ble_eq_true rfl) ⟨Nat.zero_le _, Nat.zero_le _⟩ dX11_ith_3 (pc2 := 6) rfl rfl (fun x1 m2 => ?_)
  refine lu_if_eq (tgt := 18) X dX11_ith_6 (pc2 := 9) rfl (by decide) (fun _ => ?_) (fun _ => ?_)
  · exact lu_sub [] rfl (w11_ith_b18 X hret m2)
  · refine lu_iload_n X dX11_ith_9 (pc2 := 10) rfl rfl 2 rfl ?_
    refine lu_iconst X dX11_ith_10 (pc2 := 11) rfl ic_0 ?_
    refine lu_iconst X dX11_ith_11 (pc2 := 12) rfl ic_3 ?_
    refine lu_invSi X (c11_isWithin _ a2 (0 : Int32) (3 : Int32)) rfl q433 mvS_11_isWithin rfl rfl (Nat.le_of_ble_eq_true rfl) (Nat.le_of_ble_eq_true rfl) (Nat.le_of_ble_eq_true rfl) ⟨Nat.zero_le _, Nat.zero_le _⟩ dX11_ith_12 (pc2 := 15) rfl rfl (fun x3 m4 => ?_)
    refine lu_if_ne (tgt := 20) X dX11_ith_15 (pc2 := 18) rfl (by decide) (fun _ => ?_) (fun _ => ?_)
    · refine lu_aload_n X dX11_ith_20 (pc2 := 21) rfl rfl 0 rfl ?_
      refine lu_getr (r2 := 74) X rfl fl11_41 rfl kC_0 lC_0 dX11_ith_21 (pc2 := 24) rfl ?_
      refine lu_iload_n X dX11_ith_24 (pc2 := 25) rfl rfl 1 rfl ?_
      refine lu_iconst X dX11_ith_25 (pc2 := 26) rfl ic_0 ?_
      refine lu_invVv X (c5_tryAll _ a1 (0 : Int32)) rfl q830 mvV_5_tryAll kC_74 lC_74 (by decide) ⟨_, rfl, rfl⟩ rfl rfl (Nat.le_of_ble_eq_true rfl) (Nat.le_of_ble_eq_true rfl) (Nat.le_of_ble_eq_true rfl) ⟨Nat.zero_le _, Nat.zero_le _⟩ dX11_ith_26 (pc2 := 29) rfl rfl (fun m5 => ?_)
      refine lu_iload_n X dX11_ith_29 (pc2 := 30) rfl rfl 2 rfl ?_
      refine lu_aload_n X dX11_ith_30 (pc2 := 31) rfl rfl 0 rfl ?_
      refine lu_getr (r2 := 74) X rfl fl11_41 rfl kC_0 lC_0 dX11_ith_31 (pc2 := 34) rfl ?_
      refine lu_get X fl11_245 rfl kC_74 lC_74 dX11_ith_34 (pc2 := 37) rfl ?_
      refine lu_icmp_ge (tgt := 52) X dX11_ith_37 (pc2 := 40) rfl (by decide) (fun _ => ?_) (fun _ => ?_)
      · refine lu_bipush X dX11_ith_52 (pc2 := 54) rfl bp_m3 ?_
        exact lu_sub [] rfl (w11_ith_b54 X hret (-3 : Int32) m5)
      · refine lu_aload_n X dX11_ith_40 (pc2 := 41) rfl rfl 0 rfl ?_
        refine lu_getr (r2 := 74) X rfl fl11_41 rfl kC_0 lC_0 dX11_ith_41 (pc2 := 44) rfl ?_
        refine lu_getr (r2 := 82) X rfl fl11_246 rfl kC_74 lC_74 dX11_ith_44 (pc2 := 47) rfl ?_
        refine lu_iload_n X dX11_ith_47 (pc2 := 48) rfl rfl 2 rfl ?_
        refine lu_iald X kC_82 lC_82 dX11_ith_48 (pc2 := 49) rfl ?_
        refine lu_goto (tgt := 54) X dX11_ith_49 (by decide) ?_
        exact lu_sub [] rfl (w11_ith_b54 X hret (m5 82 a2.toNatClampNeg) m5)
    · exact lu_sub [] rfl (w11_ith_b18 X hret m4)

theorem dX11_ways_0 : decode cX11_ways 0 = .ok (.iload_n 1, 1) := by decide +kernel
theorem dX11_ways_1 : decode cX11_ways 1 = .ok (.iconst 0, 1) := by decide +kernel
theorem dX11_ways_2 : decode cX11_ways 2 = .ok (.iconst 4, 1) := by decide +kernel
theorem dX11_ways_3 : decode cX11_ways 3 = .ok (.invokestatic 92, 3) := by decide +kernel
theorem dX11_ways_6 : decode cX11_ways 6 = .ok (.ifCond .ne 5, 3) := by decide +kernel
theorem dX11_ways_9 : decode cX11_ways 9 = .ok (.iconst (-1), 1) := by decide +kernel
theorem dX11_ways_10 : decode cX11_ways 10 = .ok (.ireturn, 1) := by decide +kernel
theorem dX11_ways_11 : decode cX11_ways 11 = .ok (.aload_n 0, 1) := by decide +kernel
theorem dX11_ways_12 : decode cX11_ways 12 = .ok (.getfield 41, 3) := by decide +kernel
theorem dX11_ways_15 : decode cX11_ways 15 = .ok (.iload_n 1, 1) := by decide +kernel
theorem dX11_ways_16 : decode cX11_ways 16 = .ok (.iconst 0, 1) := by decide +kernel
theorem dX11_ways_17 : decode cX11_ways 17 = .ok (.invokevirtual 238, 3) := by decide +kernel
theorem dX11_ways_20 : decode cX11_ways 20 = .ok (.aload_n 0, 1) := by decide +kernel
theorem dX11_ways_21 : decode cX11_ways 21 = .ok (.getfield 41, 3) := by decide +kernel
theorem dX11_ways_24 : decode cX11_ways 24 = .ok (.getfield 249, 3) := by decide +kernel
theorem dX11_ways_27 : decode cX11_ways 27 = .ok (.ireturn, 1) := by decide +kernel
def f11_ways (a1 : Int32) (m : lu_M) : Option (Int32 × lu_M) :=
  lu_bi (f11_isWithin a1 (0 : Int32) (4 : Int32) m) fun x1 m2 =>
  if x1 = 0 then (some ((-1 : Int32), m2))
  else (lu_bv (f5_tryAll a1 (0 : Int32) m2) fun m3 =>
  some ((m3 74 6), m3))
set_option maxRecDepth 20000 in
theorem c11_ways (l : Launch)   (a1 : Int32) : lu_C lu_TC l yX11_ways cX11_ways 2 (some .int) 32 777 (fun ρ sa => [.ref (ρ 0), .int a1]) (f11_ways a1) lu_RVi lu_sn := by
  refine lu_met (cls := RX11) rfl (by decide +kernel) (fun _ _ => Nat.le_of_ble_eq_true rfl) ?_
  intro G ρ m hl X hret
  subst hl
  change lu_Ab lu_TC G (lu_Q lu_TC G ρ lu_RVi lu_sn) (f11_ways a1 m) 0 [(0, .ref (ρ 0)), (1, .int a1)] [] ρ 0 0 [] m
  unfold f11_ways
  refine lu_iload_n X dX11_ways_0 (pc2 := 1) rfl rfl 1 rfl ?_
  refine lu_iconst X dX11_ways_1 (pc2 := 2) rfl ic_0 ?_
  refine lu_iconst X dX11_ways_2 (pc2 := 3) rfl ic_4 ?_
  refine lu_invSi X (c11_isWithin _ a1 (0 : Int32) (4 : Int32)) rfl q433 mvS_11_isWithin rfl rfl (Nat.le_of_ble_eq_true rfl) (Nat.le_of_ble_eq_true rfl) (Nat.le_of_ble_eq_true rfl) ⟨Nat.zero_le _, Nat.zero_le _⟩ dX11_ways_3 (pc2 := 6) rfl rfl (fun x1 m2 => ?_)
  refine lu_if_ne (tgt := 11) X dX11_ways_6 (pc2 := 9) rfl (by decide) (fun _ => ?_) (fun _ => ?_)
  · refine lu_aload_n X dX11_ways_11 (pc2 := 12) rfl rfl 0 rfl ?_
    refine lu_getr (r2 := 74) X rfl fl11_41 rfl kC_0 lC_0 dX11_ways_12 (pc2 := 15) rfl ?_
    refine lu_iload_n X dX11_ways_15 (pc2 := 16) rfl rfl 1 rfl ?_
    refine lu_iconst X dX11_ways_16 (pc2 := 17) rfl ic_0 ?_
    refine lu_invVv X (c5_tryAll _ a1 (0 : Int32)) rfl q830 mvV_5_tryAll kC_74 lC_74 (by decide) ⟨_, rfl, rfl⟩ rfl rfl (Nat.le_of_ble_eq_true rfl) (Nat.le_of_ble_eq_true rfl) (Nat.le_of_ble_eq_true rfl) ⟨Nat.zero_le _, Nat.zero_le _⟩ dX11_ways_17 (pc2 := 20) rfl rfl (fun m3 => ?_)
    refine lu_aload_n X dX11_ways_20 (pc2 := 21) rfl rfl 0 rfl ?_
    refine lu_getr (r2 := 74) X rfl fl11_41 rfl kC_0 lC_0 dX11_ways_21 (pc2 := 24) rfl ?_
    refine lu_get X fl11_249 rfl kC_74 lC_74 dX11_ways_24 (pc2 := 27) rfl ?_
    exact lu_iret X hret dX11_ways_27
  · refine lu_iconst X dX11_ways_9 (pc2 := 10) rfl ic_m1 ?_
    exact lu_iret X hret dX11_ways_10

theorem dX11_life_0 : decode cX11_life 0 = .ok (.iload_n 1, 1) := by decide +kernel
theorem dX11_life_1 : decode cX11_life 1 = .ok (.iconst 0, 1) := by decide +kernel
theorem dX11_life_2 : decode cX11_life 2 = .ok (.iconst 4, 1) := by decide +kernel
theorem dX11_life_3 : decode cX11_life 3 = .ok (.invokestatic 92, 3) := by decide +kernel
theorem dX11_life_6 : decode cX11_life 6 = .ok (.ifCond .eq 14, 3) := by decide +kernel
theorem dX11_life_9 : decode cX11_life 9 = .ok (.aload_n 0, 1) := by decide +kernel
theorem dX11_life_10 : decode cX11_life 10 = .ok (.getfield 18, 3) := by decide +kernel
theorem dX11_life_13 : decode cX11_life 13 = .ok (.iload_n 2, 1) := by decide +kernel
theorem dX11_life_14 : decode cX11_life 14 = .ok (.invokevirtual 252, 3) := by decide +kernel
theorem dX11_life_17 : decode cX11_life 17 = .ok (.ifCond .ne 5, 3) := by decide +kernel
theorem dX11_life_20 : decode cX11_life 20 = .ok (.iconst (-1), 1) := by decide +kernel
theorem dX11_life_21 : decode cX11_life 21 = .ok (.ireturn, 1) := by decide +kernel
theorem dX11_life_22 : decode cX11_life 22 = .ok (.aload_n 0, 1) := by decide +kernel
theorem dX11_life_23 : decode cX11_life 23 = .ok (.getfield 41, 3) := by decide +kernel
theorem dX11_life_26 : decode cX11_life 26 = .ok (.iload_n 1, 1) := by decide +kernel
theorem dX11_life_27 : decode cX11_life 27 = .ok (.iload_n 2, 1) := by decide +kernel
theorem dX11_life_28 : decode cX11_life 28 = .ok (.invokevirtual 238, 3) := by decide +kernel
theorem dX11_life_31 : decode cX11_life 31 = .ok (.aload_n 0, 1) := by decide +kernel
theorem dX11_life_32 : decode cX11_life 32 = .ok (.getfield 41, 3) := by decide +kernel
theorem dX11_life_35 : decode cX11_life 35 = .ok (.getfield 255, 3) := by decide +kernel
theorem dX11_life_38 : decode cX11_life 38 = .ok (.iconst 4, 1) := by decide +kernel
theorem dX11_life_39 : decode cX11_life 39 = .ok (.if_icmp .gt 13, 3) := by decide +kernel
theorem dX11_life_42 : decode cX11_life 42 = .ok (.aload_n 0, 1) := by decide +kernel
theorem dX11_life_43 : decode cX11_life 43 = .ok (.getfield 41, 3) := by decide +kernel
theorem dX11_life_46 : decode cX11_life 46 = .ok (.getfield 255, 3) := by decide +kernel
theorem dX11_life_49 : decode cX11_life 49 = .ok (.goto 5, 3) := by decide +kernel
theorem dX11_life_52 : decode cX11_life 52 = .ok (.bipush (-3), 2) := by decide +kernel
theorem dX11_life_54 : decode cX11_life 54 = .ok (.ireturn, 1) := by decide +kernel
def f11_life_b20  (a1 : Int32) (a2 : Int32)  (m : lu_M) : Option (Int32 × lu_M) :=
  some ((-1 : Int32), m)
set_option maxRecDepth 20000 in
theorem w11_life_b20  {G : lu_G} {ρ : Nat → Nat} {a1 : Int32} {a2 : Int32}  (X : lu_X G RX11 cX11_life 3 32 777) (hret : (lu_me G).sig.returnType = (some .int))   : ∀  (m : lu_M), lu_Ab lu_TC G (lu_Q lu_TC G ρ lu_RVi lu_sn) (f11_life_b20 a1 a2 m) 20 [] [] ρ 0 0 [] m := by
  intro  m
  unfold f11_life_b20
  refine lu_iconst X dX11_life_20 (pc2 := 21) rfl ic_m1 ?_
  exact lu_iret X hret dX11_life_21
def f11_life_b54  (a1 : Int32) (a2 : Int32) (s0 : Int32) (m : lu_M) : Option (Int32 × lu_M) :=
  some (s0, m)
set_option maxRecDepth 20000 in
theorem w11_life_b54  {G : lu_G} {ρ : Nat → Nat} {a1 : Int32} {a2 : Int32}  (X : lu_X G RX11 cX11_life 3 32 777) (hret : (lu_me G).sig.returnType = (some .int))   : ∀ (s0 : Int32) (m : lu_M), lu_Ab lu_TC G (lu_Q lu_TC G ρ lu_RVi lu_sn) (f11_life_b54 a1 a2 s0 m) 54 [] [.int s0] ρ 0 0 [] m := by
  intro s0 m
  unfold f11_life_b54
  exact lu_iret X hret dX11_life_54
def f11_life (a1 : Int32) (a2 : Int32) (m : lu_M) : Option (Int32 × lu_M) :=
  lu_bi (f11_isWithin a1 (0 : Int32) (4 : Int32) m) fun x1 m2 =>
  if x1 = 0 then (f11_life_b20 a1 a2 m2)
  else (lu_bi (f10_isDeedSet 1 a2 m2) fun x3 m4 =>
  if x3 = 0 then (f11_life_b20 a1 a2 m4)
  else (lu_bv (f5_tryAll a1 a2 m4) fun m5 =>
  if (4 : Int32) < (m5 74 8) then (f11_life_b54 a1 a2 (-3 : Int32) m5)
  else (f11_life_b54 a1 a2 (m5 74 8) m5)))
set_option maxRecDepth 20000 in
theorem c11_life (l : Launch)   (a1 : Int32) (a2 : Int32) : lu_C lu_TC l yX11_life cX11_life 3 (some .int) 32 777 (fun ρ sa => [.ref (ρ 0), .int a1, .int a2]) (f11_life a1 a2) lu_RVi lu_sn := by
  refine lu_met (cls := RX11) rfl (by decide +kernel) (fun _ _ => Nat.le_of_ble_eq_true rfl) ?_
  intro G ρ m hl X hret
  subst hl
  change lu_Ab lu_TC G (lu_Q lu_TC G ρ lu_RVi lu_sn) (f11_life a1 a2 m) 0 [(0, .ref (ρ 0)), (1, .int a1), (2, .int a2)] [] ρ 0 0 [] m
  unfold f11_life
  refine lu_iload_n X dX11_life_0 (pc2 := 1) rfl rfl 1 rfl ?_
  refine lu_iconst X dX11_life_1 (pc2 := 2) rfl ic_0 ?_
  refine lu_iconst X dX11_life_2 (pc2 := 3) rfl ic_4 ?_
  refine lu_invSi X (c11_isWithin _ a1 (0 : Int32) (4 : Int32)) rfl q433 mvS_11_isWithin rfl rfl (Nat.le_of_ble_eq_true rfl) (Nat.le_of_ble_eq_true rfl) (Nat.le_of_ble_eq_true rfl) ⟨Nat.zero_le _, Nat.zero_le _⟩ dX11_life_3 (pc2 := 6) rfl rfl (fun x1 m2 => ?_)
  refine lu_if_eq (tgt := 20) X dX11_life_6 (pc2 := 9) rfl (by decide) (fun _ => ?_) (fun _ => ?_)
  · exact lu_sub [] rfl (w11_life_b20 X hret m2)
  · refine lu_aload_n X dX11_life_9 (pc2 := 10) rfl rfl 0 rfl ?_
    refine lu_getr (r2 := 1) X rfl fl11_18 rfl kC_0 lC_0 dX11_life_10 (pc2 := 13) rfl ?_
    refine lu_iload_n X dX11_life_13 (pc2 := 14) rfl rfl 2 rfl ?_
    refine lu_invVi X (c10_isDeedSet _ kC_1 lC_1 a2) rfl q865 mvV_10_isDeedSet kC_1 lC_1 (by decide) ⟨_, rfl, rfl⟩ rfl rfl (Nat.le_of_ble_eq_true rfl) (Nat.le_of_ble_eq_true rfl) (Nat.le_of_ble_eq_true rfl) ⟨Nat.zero_le _, Nat.zero_le _⟩ dX11_life_14 (pc2 := 17) rfl rfl (fun x3 m4 => ?_)
    refine lu_if_ne (tgt := 22) X dX11_life_17 (pc2 := 20) rfl (by decide) (fun _ => ?_) (fun _ => ?_)
    · refine lu_aload_n X dX11_life_22 (pc2 := 23) rfl rfl 0 rfl ?_
      refine lu_getr (r2 := 74) X rfl fl11_41 rfl kC_0 lC_0 dX11_life_23 (pc2 := 26) rfl ?_
      refine lu_iload_n X dX11_life_26 (pc2 := 27) rfl rfl 1 rfl ?_
      refine lu_iload_n X dX11_life_27 (pc2 := 28) rfl rfl 2 rfl ?_
      refine lu_invVv X (c5_tryAll _ a1 a2) rfl q830 mvV_5_tryAll kC_74 lC_74 (by decide) ⟨_, rfl, rfl⟩ rfl rfl (Nat.le_of_ble_eq_true rfl) (Nat.le_of_ble_eq_true rfl) (Nat.le_of_ble_eq_true rfl) ⟨Nat.zero_le _, Nat.zero_le _⟩ dX11_life_28 (pc2 := 31) rfl rfl (fun m5 => ?_)
      refine lu_aload_n X dX11_life_31 (pc2 := 32) rfl rfl 0 rfl ?_
      refine lu_getr (r2 := 74) X rfl fl11_41 rfl kC_0 lC_0 dX11_life_32 (pc2 := 35) rfl ?_
      refine lu_get X fl11_255 rfl kC_74 lC_74 dX11_life_35 (pc2 := 38) rfl ?_
      refine lu_iconst X dX11_life_38 (pc2 := 39) rfl ic_4 ?_
      refine lu_icmp_gt (tgt := 52) X dX11_life_39 (pc2 := 42) rfl (by decide) (fun _ => ?_) (fun _ => ?_)
      · refine lu_bipush X dX11_life_52 (pc2 := 54) rfl bp_m3 ?_
        exact lu_sub [] rfl (w11_life_b54 X hret (-3 : Int32) m5)
      · refine lu_aload_n X dX11_life_42 (pc2 := 43) rfl rfl 0 rfl ?_
        refine lu_getr (r2 := 74) X rfl fl11_41 rfl kC_0 lC_0 dX11_life_43 (pc2 := 46) rfl ?_
        refine lu_get X fl11_255 rfl kC_74 lC_74 dX11_life_46 (pc2 := 49) rfl ?_
        refine lu_goto (tgt := 54) X dX11_life_49 (by decide) ?_
        exact lu_sub [] rfl (w11_life_b54 X hret (m5 74 8) m5)
    · exact lu_sub [] rfl (w11_life_b20 X hret m4)

theorem dX11_bars_0 : decode cX11_bars 0 = .ok (.iload_n 1, 1) := by decide +kernel
theorem dX11_bars_1 : decode cX11_bars 1 = .ok (.iconst 0, 1) := by decide +kernel
theorem dX11_bars_2 : decode cX11_bars 2 = .ok (.iconst 4, 1) := by decide +kernel
theorem dX11_bars_3 : decode cX11_bars 3 = .ok (.invokestatic 92, 3) := by decide +kernel
theorem dX11_bars_6 : decode cX11_bars 6 = .ok (.ifCond .eq 14, 3) := by decide +kernel
theorem dX11_bars_9 : decode cX11_bars 9 = .ok (.aload_n 0, 1) := by decide +kernel
theorem dX11_bars_10 : decode cX11_bars 10 = .ok (.getfield 18, 3) := by decide +kernel
theorem dX11_bars_13 : decode cX11_bars 13 = .ok (.iload_n 2, 1) := by decide +kernel
theorem dX11_bars_14 : decode cX11_bars 14 = .ok (.invokevirtual 252, 3) := by decide +kernel
theorem dX11_bars_17 : decode cX11_bars 17 = .ok (.ifCond .ne 5, 3) := by decide +kernel
theorem dX11_bars_20 : decode cX11_bars 20 = .ok (.iconst (-1), 1) := by decide +kernel
theorem dX11_bars_21 : decode cX11_bars 21 = .ok (.ireturn, 1) := by decide +kernel
theorem dX11_bars_22 : decode cX11_bars 22 = .ok (.aload_n 0, 1) := by decide +kernel
theorem dX11_bars_23 : decode cX11_bars 23 = .ok (.getfield 41, 3) := by decide +kernel
theorem dX11_bars_26 : decode cX11_bars 26 = .ok (.iload_n 1, 1) := by decide +kernel
theorem dX11_bars_27 : decode cX11_bars 27 = .ok (.iload_n 2, 1) := by decide +kernel
theorem dX11_bars_28 : decode cX11_bars 28 = .ok (.invokevirtual 238, 3) := by decide +kernel
theorem dX11_bars_31 : decode cX11_bars 31 = .ok (.iconst 0, 1) := by decide +kernel
theorem dX11_bars_32 : decode cX11_bars 32 = .ok (.istore_n 3, 1) := by decide +kernel
theorem dX11_bars_33 : decode cX11_bars 33 = .ok (.iload_n 3, 1) := by decide +kernel
theorem dX11_bars_34 : decode cX11_bars 34 = .ok (.aload_n 0, 1) := by decide +kernel
theorem dX11_bars_35 : decode cX11_bars 35 = .ok (.getfield 18, 3) := by decide +kernel
theorem dX11_bars_38 : decode cX11_bars 38 = .ok (.getfield 138, 3) := by decide +kernel
theorem dX11_bars_41 : decode cX11_bars 41 = .ok (.if_icmp .ge 34, 3) := by decide +kernel
theorem dX11_bars_44 : decode cX11_bars 44 = .ok (.iload_n 2, 1) := by decide +kernel
theorem dX11_bars_45 : decode cX11_bars 45 = .ok (.iload_n 3, 1) := by decide +kernel
theorem dX11_bars_46 : decode cX11_bars 46 = .ok (.ishr, 1) := by decide +kernel
theorem dX11_bars_47 : decode cX11_bars 47 = .ok (.iconst 1, 1) := by decide +kernel
theorem dX11_bars_48 : decode cX11_bars 48 = .ok (.iand, 1) := by decide +kernel
theorem dX11_bars_49 : decode cX11_bars 49 = .ok (.iconst 1, 1) := by decide +kernel
theorem dX11_bars_50 : decode cX11_bars 50 = .ok (.if_icmp .ne 19, 3) := by decide +kernel
theorem dX11_bars_53 : decode cX11_bars 53 = .ok (.aload_n 0, 1) := by decide +kernel
theorem dX11_bars_54 : decode cX11_bars 54 = .ok (.getfield 41, 3) := by decide +kernel
theorem dX11_bars_57 : decode cX11_bars 57 = .ok (.getfield 258, 3) := by decide +kernel
theorem dX11_bars_60 : decode cX11_bars 60 = .ok (.iload_n 3, 1) := by decide +kernel
theorem dX11_bars_61 : decode cX11_bars 61 = .ok (.ishr, 1) := by decide +kernel
theorem dX11_bars_62 : decode cX11_bars 62 = .ok (.iconst 1, 1) := by decide +kernel
theorem dX11_bars_63 : decode cX11_bars 63 = .ok (.iand, 1) := by decide +kernel
theorem dX11_bars_64 : decode cX11_bars 64 = .ok (.ifCond .ne 5, 3) := by decide +kernel
theorem dX11_bars_67 : decode cX11_bars 67 = .ok (.iload_n 3, 1) := by decide +kernel
theorem dX11_bars_68 : decode cX11_bars 68 = .ok (.ireturn, 1) := by decide +kernel
theorem dX11_bars_69 : decode cX11_bars 69 = .ok (.iinc 3 1, 3) := by decide +kernel
theorem dX11_bars_72 : decode cX11_bars 72 = .ok (.goto (-39), 3) := by decide +kernel
theorem dX11_bars_75 : decode cX11_bars 75 = .ok (.bipush (-3), 2) := by decide +kernel
theorem dX11_bars_77 : decode cX11_bars 77 = .ok (.ireturn, 1) := by decide +kernel
def f11_bars_b20  (a1 : Int32) (a2 : Int32)  (m : lu_M) : Option (Int32 × lu_M) :=
  some ((-1 : Int32), m)
set_option maxRecDepth 20000 in
theorem w11_bars_b20  {G : lu_G} {ρ : Nat → Nat} {a1 : Int32} {a2 : Int32}  (X : lu_X G RX11 cX11_bars 4 32 777) (hret : (lu_me G).sig.returnType = (some .int))   : ∀  (m : lu_M), lu_Ab lu_TC G (lu_Q lu_TC G ρ lu_RVi lu_sn) (f11_bars_b20 a1 a2 m) 20 [] [] ρ 0 0 [] m := by
  intro  m
  unfold f11_bars_b20
  refine lu_iconst X dX11_bars_20 (pc2 := 21) rfl ic_m1 ?_
  exact lu_iret X hret dX11_bars_21
def f11_bars_b69 (K33 : Int32 → lu_M → Option (Int32 × lu_M)) (K75 : lu_M → Option (Int32 × lu_M)) (a1 : Int32) (a2 : Int32) (v3 : Int32) (m : lu_M) : Option (Int32 × lu_M) :=
  K33 (v3 + (1 : Int32)) m
set_option maxRecDepth 20000 in
theorem w11_bars_b69  {G : lu_G} {ρ : Nat → Nat} {a1 : Int32} {a2 : Int32} {K33 : Int32 → lu_M → Option (Int32 × lu_M)} {K75 : lu_M → Option (Int32 × lu_M)} (X : lu_X G RX11 cX11_bars 4 32 777) (hret : (lu_me G).sig.returnType = (some .int))  (hK33 : ∀ (v3 : Int32) (m : lu_M), lu_Ab lu_TC G (lu_Q lu_TC G ρ lu_RVi lu_sn) (K33 v3 m) 33 [(0, .ref (ρ 0)), (2, .int a2), (3, .int v3)] [] ρ 0 0 [] m) (hK75 : ∀  (m : lu_M), lu_Ab lu_TC G (lu_Q lu_TC G ρ lu_RVi lu_sn) (K75 m) 75 [] [] ρ 0 0 [] m) : ∀ (v3 : Int32) (m : lu_M), lu_Ab lu_TC G (lu_Q lu_TC G ρ lu_RVi lu_sn) (f11_bars_b69 K33 K75 a1 a2 v3 m) 69 [(0, .ref (ρ 0)), (2, .int a2), (3, .int v3)] [] ρ 0 0 [] m := by
  intro v3 m
  unfold f11_bars_b69
  refine lu_iinc (lv2 := [(3, .int (v3 + (1 : Int32))), (0, .ref (ρ 0)), (2, .int a2)]) X dX11_bars_69 (pc2 := 72) rfl 2 rfl (lu_ii _ ic_1) (by decide) rfl ?_
  refine lu_goto (tgt := 33) X dX11_bars_72 (by decide) ?_
  exact lu_sub [1, 2, 0] rfl (hK33 (v3 + (1 : Int32)) m)
def f11_bars_b33B (K67 : Int32 → lu_M → Option (Int32 × lu_M)) (K75 : lu_M → Option (Int32 × lu_M)) (rec : Int32 → lu_M → Option (Int32 × lu_M)) (a1 : Int32) (a2 : Int32) (v3 : Int32) (m : lu_M) : Option (Int32 × lu_M) :=
  if (m 1 2) ≤ v3 then (K75 m)
  else (if ((a2 >>> (v3 &&& 31)) &&& (1 : Int32)) = (1 : Int32) then (if (((m 74 9) >>> (v3 &&& 31)) &&& (1 : Int32)) = 0 then (K67 v3 m)
  else (f11_bars_b69 rec K75 a1 a2 v3 m))
  else (f11_bars_b69 rec K75 a1 a2 v3 m))
def f11_bars_b33 (K67 : Int32 → lu_M → Option (Int32 × lu_M)) (K75 : lu_M → Option (Int32 × lu_M)) (a1 : Int32) (a2 : Int32) : Nat → Int32 → lu_M → Option (Int32 × lu_M)
  | 0, _, _ => none
  | n + 1, v3, m => f11_bars_b33B K67 K75 (f11_bars_b33 K67 K75 a1 a2 n) a1 a2 v3 m
set_option maxRecDepth 20000 in
theorem w11_bars_b33B  {G : lu_G} {ρ : Nat → Nat} {a1 : Int32} {a2 : Int32} {K67 : Int32 → lu_M → Option (Int32 × lu_M)} {K75 : lu_M → Option (Int32 × lu_M)} {rec : Int32 → lu_M → Option (Int32 × lu_M)} (X : lu_X G RX11 cX11_bars 4 32 777) (hret : (lu_me G).sig.returnType = (some .int))  (hK67 : ∀ (v3 : Int32) (m : lu_M), lu_Ab lu_TC G (lu_Q lu_TC G ρ lu_RVi lu_sn) (K67 v3 m) 67 [(3, .int v3)] [] ρ 0 0 [] m) (hK75 : ∀  (m : lu_M), lu_Ab lu_TC G (lu_Q lu_TC G ρ lu_RVi lu_sn) (K75 m) 75 [] [] ρ 0 0 [] m) (hrec : ∀ (v3 : Int32) (m : lu_M), lu_Ab lu_TC G (lu_Q lu_TC G ρ lu_RVi lu_sn) (rec v3 m) 33 [(0, .ref (ρ 0)), (2, .int a2), (3, .int v3)] [] ρ 0 0 [] m) : ∀ (v3 : Int32) (m : lu_M), lu_Ab lu_TC G (lu_Q lu_TC G ρ lu_RVi lu_sn) (f11_bars_b33B K67 K75 rec a1 a2 v3 m) 33 [(0, .ref (ρ 0)), (2, .int a2), (3, .int v3)] [] ρ 0 0 [] m := by
  intro v3 m
  unfold f11_bars_b33B
  refine lu_iload_n X dX11_bars_33 (pc2 := 34) rfl rfl 2 rfl ?_
  refine lu_aload_n X dX11_bars_34 (pc2 := 35) rfl rfl 0 rfl ?_
  refine lu_getr (r2 := 1) X rfl fl11_18 rfl kC_0 lC_0 dX11_bars_35 (pc2 := 38) rfl ?_
  refine lu_get X fl11_138 rfl kC_1 lC_1 dX11_bars_38 (pc2 := 41) rfl ?_
  refine lu_icmp_ge (tgt := 75) X dX11_bars_41 (pc2 := 44) rfl (by decide) (fun _ => ?_) (fun _ => ?_)
  · exact lu_sub [] rfl (hK75 m)
  · refine lu_iload_n X dX11_bars_44 (pc2 := 45) rfl rfl 1 rfl ?_
    refine lu_iload_n X dX11_bars_45 (pc2 := 46) rfl rfl 2 rfl ?_
    refine lu_ishr X dX11_bars_46 (pc2 := 47) rfl ?_
    refine lu_iconst X dX11_bars_47 (pc2 := 48) rfl ic_1 ?_
    refine lu_iand X dX11_bars_48 (pc2 := 49) rfl ?_
    refine lu_iconst X dX11_bars_49 (pc2 := 50) rfl ic_1 ?_
    refine lu_icmp_ne (tgt := 69) X dX11_bars_50 (pc2 := 53) rfl (by decide) (fun _ => ?_) (fun _ => ?_)
    · exact w11_bars_b69 X hret hrec hK75 v3 m
    · refine lu_aload_n X dX11_bars_53 (pc2 := 54) rfl rfl 0 rfl ?_
      refine lu_getr (r2 := 74) X rfl fl11_41 rfl kC_0 lC_0 dX11_bars_54 (pc2 := 57) rfl ?_
      refine lu_get X fl11_258 rfl kC_74 lC_74 dX11_bars_57 (pc2 := 60) rfl ?_
      refine lu_iload_n X dX11_bars_60 (pc2 := 61) rfl rfl 2 rfl ?_
      refine lu_ishr X dX11_bars_61 (pc2 := 62) rfl ?_
      refine lu_iconst X dX11_bars_62 (pc2 := 63) rfl ic_1 ?_
      refine lu_iand X dX11_bars_63 (pc2 := 64) rfl ?_
      refine lu_if_ne (tgt := 69) X dX11_bars_64 (pc2 := 67) rfl (by decide) (fun _ => ?_) (fun _ => ?_)
      · exact w11_bars_b69 X hret hrec hK75 v3 m
      · exact lu_sub [2] rfl (hK67 v3 m)
theorem w11_bars_b33  {G : lu_G} {ρ : Nat → Nat} {a1 : Int32} {a2 : Int32} {K67 : Int32 → lu_M → Option (Int32 × lu_M)} {K75 : lu_M → Option (Int32 × lu_M)} (X : lu_X G RX11 cX11_bars 4 32 777) (hret : (lu_me G).sig.returnType = (some .int))  (hK67 : ∀ (v3 : Int32) (m : lu_M), lu_Ab lu_TC G (lu_Q lu_TC G ρ lu_RVi lu_sn) (K67 v3 m) 67 [(3, .int v3)] [] ρ 0 0 [] m) (hK75 : ∀  (m : lu_M), lu_Ab lu_TC G (lu_Q lu_TC G ρ lu_RVi lu_sn) (K75 m) 75 [] [] ρ 0 0 [] m) : ∀ (n : Nat) (v3 : Int32) (m : lu_M), lu_Ab lu_TC G (lu_Q lu_TC G ρ lu_RVi lu_sn) (f11_bars_b33 K67 K75 a1 a2 n v3 m) 33 [(0, .ref (ρ 0)), (2, .int a2), (3, .int v3)] [] ρ 0 0 [] m := by
  intro n
  induction n with
  | zero => intro v3 m; exact lu_none
  | succ n ih => intro v3 m; exact w11_bars_b33B X hret hK67 hK75 ih v3 m
def f11_bars_b67  (a1 : Int32) (a2 : Int32) (v3 : Int32) (m : lu_M) : Option (Int32 × lu_M) :=
  some (v3, m)
set_option maxRecDepth 20000 in
theorem w11_bars_b67  {G : lu_G} {ρ : Nat → Nat} {a1 : Int32} {a2 : Int32}  (X : lu_X G RX11 cX11_bars 4 32 777) (hret : (lu_me G).sig.returnType = (some .int))   : ∀ (v3 : Int32) (m : lu_M), lu_Ab lu_TC G (lu_Q lu_TC G ρ lu_RVi lu_sn) (f11_bars_b67 a1 a2 v3 m) 67 [(3, .int v3)] [] ρ 0 0 [] m := by
  intro v3 m
  unfold f11_bars_b67
  refine lu_iload_n X dX11_bars_67 (pc2 := 68) rfl rfl 0 rfl ?_
  exact lu_iret X hret dX11_bars_68
def f11_bars_b75  (a1 : Int32) (a2 : Int32)  (m : lu_M) : Option (Int32 × lu_M) :=
  some ((-3 : Int32), m)
set_option maxRecDepth 20000 in
theorem w11_bars_b75  {G : lu_G} {ρ : Nat → Nat} {a1 : Int32} {a2 : Int32}  (X : lu_X G RX11 cX11_bars 4 32 777) (hret : (lu_me G).sig.returnType = (some .int))   : ∀  (m : lu_M), lu_Ab lu_TC G (lu_Q lu_TC G ρ lu_RVi lu_sn) (f11_bars_b75 a1 a2 m) 75 [] [] ρ 0 0 [] m := by
  intro  m
  unfold f11_bars_b75
  refine lu_bipush X dX11_bars_75 (pc2 := 77) rfl bp_m3 ?_
  exact lu_iret X hret dX11_bars_77
def f11_bars (a1 : Int32) (a2 : Int32) (m : lu_M) : Option (Int32 × lu_M) :=
  lu_bi (f11_isWithin a1 (0 : Int32) (4 : Int32) m) fun x1 m2 =>
  if x1 = 0 then (f11_bars_b20 a1 a2 m2)
  else (lu_bi (f10_isDeedSet 1 a2 m2) fun x3 m4 =>
  if x3 = 0 then (f11_bars_b20 a1 a2 m4)
  else (lu_bv (f5_tryAll a1 a2 m4) fun m5 =>
  f11_bars_b33 (f11_bars_b67 a1 a2) (f11_bars_b75 a1 a2) a1 a2 lu_fu (0 : Int32) m5))
set_option maxRecDepth 20000 in
theorem c11_bars (l : Launch)   (a1 : Int32) (a2 : Int32) : lu_C lu_TC l yX11_bars cX11_bars 4 (some .int) 32 777 (fun ρ sa => [.ref (ρ 0), .int a1, .int a2]) (f11_bars a1 a2) lu_RVi lu_sn := by
  refine lu_met (cls := RX11) rfl (by decide +kernel) (fun _ _ => Nat.le_of_ble_eq_true rfl) ?_
  intro G ρ m hl X hret
  subst hl
  change lu_Ab lu_TC G (lu_Q lu_TC G ρ lu_RVi lu_sn) (f11_bars a1 a2 m) 0 [(0, .ref (ρ 0)), (1, .int a1), (2, .int a2)] [] ρ 0 0 [] m
  unfold f11_bars
  refine lu_iload_n X dX11_bars_0 (pc2 := 1) rfl rfl 1 rfl ?_
  refine lu_iconst X dX11_bars_1 (pc2 := 2) rfl ic_0 ?_
  refine lu_iconst X dX11_bars_2 (pc2 := 3) rfl ic_4 ?_
  refine lu_invSi X (c11_isWithin _ a1 (0 : Int32) (4 : Int32)) rfl q433 mvS_11_isWithin rfl rfl (Nat.le_of_ble_eq_true rfl) (Nat.le_of_ble_eq_true rfl) (Nat.le_of_ble_eq_true rfl) ⟨Nat.zero_le _, Nat.zero_le _⟩ dX11_bars_3 (pc2 := 6) rfl rfl (fun x1 m2 => ?_)
  refine lu_if_eq (tgt := 20) X dX11_bars_6 (pc2 := 9) rfl (by decide) (fun _ => ?_) (fun _ => ?_)
  · exact lu_sub [] rfl (w11_bars_b20 X hret m2)
  · refine lu_aload_n X dX11_bars_9 (pc2 := 10) rfl rfl 0 rfl ?_
    refine lu_getr (r2 := 1) X rfl fl11_18 rfl kC_0 lC_0 dX11_bars_10 (pc2 := 13) rfl ?_
    refine lu_iload_n X dX11_bars_13 (pc2 := 14) rfl rfl 2 rfl ?_
    refine lu_invVi X (c10_isDeedSet _ kC_1 lC_1 a2) rfl q865 mvV_10_isDeedSet kC_1 lC_1 (by decide) ⟨_, rfl, rfl⟩ rfl rfl (Nat.le_of_ble_eq_true rfl) (Nat.le_of_ble_eq_true rfl) (Nat.le_of_ble_eq_true rfl) ⟨Nat.zero_le _, Nat.zero_le _⟩ dX11_bars_14 (pc2 := 17) rfl rfl (fun x3 m4 => ?_)
    refine lu_if_ne (tgt := 22) X dX11_bars_17 (pc2 := 20) rfl (by decide) (fun _ => ?_) (fun _ => ?_)
    · refine lu_aload_n X dX11_bars_22 (pc2 := 23) rfl rfl 0 rfl ?_
      refine lu_getr (r2 := 74) X rfl fl11_41 rfl kC_0 lC_0 dX11_bars_23 (pc2 := 26) rfl ?_
      refine lu_iload_n X dX11_bars_26 (pc2 := 27) rfl rfl 1 rfl ?_
      refine lu_iload_n X dX11_bars_27 (pc2 := 28) rfl rfl 2 rfl ?_
      refine lu_invVv X (c5_tryAll _ a1 a2) rfl q830 mvV_5_tryAll kC_74 lC_74 (by decide) ⟨_, rfl, rfl⟩ rfl rfl (Nat.le_of_ble_eq_true rfl) (Nat.le_of_ble_eq_true rfl) (Nat.le_of_ble_eq_true rfl) ⟨Nat.zero_le _, Nat.zero_le _⟩ dX11_bars_28 (pc2 := 31) rfl rfl (fun m5 => ?_)
      refine lu_iconst X dX11_bars_31 (pc2 := 32) rfl ic_0 ?_
      refine lu_istore_n (lv2 := [(3, .int (0 : Int32)), (0, .ref (ρ 0)), (1, .int a1), (2, .int a2)]) X dX11_bars_32 (pc2 := 33) rfl rfl (by decide) rfl ?_
      exact lu_sub [1, 3, 0] rfl (w11_bars_b33 X hret (w11_bars_b67 X hret) (w11_bars_b75 X hret) lu_fu (0 : Int32) m5)
    · exact lu_sub [] rfl (w11_bars_b20 X hret m4)

theorem dX11_game_0 : decode cX11_game 0 = .ok (.iload_n 1, 1) := by decide +kernel
theorem dX11_game_1 : decode cX11_game 1 = .ok (.iconst 1, 1) := by decide +kernel
theorem dX11_game_2 : decode cX11_game 2 = .ok (.iconst 4, 1) := by decide +kernel
theorem dX11_game_3 : decode cX11_game 3 = .ok (.invokestatic 92, 3) := by decide +kernel
theorem dX11_game_6 : decode cX11_game 6 = .ok (.ifCond .ne 5, 3) := by decide +kernel
theorem dX11_game_9 : decode cX11_game 9 = .ok (.iconst (-1), 1) := by decide +kernel
theorem dX11_game_10 : decode cX11_game 10 = .ok (.ireturn, 1) := by decide +kernel
theorem dX11_game_11 : decode cX11_game 11 = .ok (.aload_n 0, 1) := by decide +kernel
theorem dX11_game_12 : decode cX11_game 12 = .ok (.getfield 41, 3) := by decide +kernel
theorem dX11_game_15 : decode cX11_game 15 = .ok (.iload_n 1, 1) := by decide +kernel
theorem dX11_game_16 : decode cX11_game 16 = .ok (.invokevirtual 261, 3) := by decide +kernel
theorem dX11_game_19 : decode cX11_game 19 = .ok (.ireturn, 1) := by decide +kernel
def f11_game (a1 : Int32) (m : lu_M) : Option (Int32 × lu_M) :=
  lu_bi (f11_isWithin a1 (1 : Int32) (4 : Int32) m) fun x1 m2 =>
  if x1 = 0 then (some ((-1 : Int32), m2))
  else (lu_bi (f5_playedOut a1 m2) fun x3 m4 =>
  some (x3, m4))
set_option maxRecDepth 20000 in
theorem c11_game (l : Launch)   (a1 : Int32) : lu_C lu_TC l yX11_game cX11_game 2 (some .int) 32 777 (fun ρ sa => [.ref (ρ 0), .int a1]) (f11_game a1) lu_RVi lu_sn := by
  refine lu_met (cls := RX11) rfl (by decide +kernel) (fun _ _ => Nat.le_of_ble_eq_true rfl) ?_
  intro G ρ m hl X hret
  subst hl
  change lu_Ab lu_TC G (lu_Q lu_TC G ρ lu_RVi lu_sn) (f11_game a1 m) 0 [(0, .ref (ρ 0)), (1, .int a1)] [] ρ 0 0 [] m
  unfold f11_game
  refine lu_iload_n X dX11_game_0 (pc2 := 1) rfl rfl 1 rfl ?_
  refine lu_iconst X dX11_game_1 (pc2 := 2) rfl ic_1 ?_
  refine lu_iconst X dX11_game_2 (pc2 := 3) rfl ic_4 ?_
  refine lu_invSi X (c11_isWithin _ a1 (1 : Int32) (4 : Int32)) rfl q433 mvS_11_isWithin rfl rfl (Nat.le_of_ble_eq_true rfl) (Nat.le_of_ble_eq_true rfl) (Nat.le_of_ble_eq_true rfl) ⟨Nat.zero_le _, Nat.zero_le _⟩ dX11_game_3 (pc2 := 6) rfl rfl (fun x1 m2 => ?_)
  refine lu_if_ne (tgt := 11) X dX11_game_6 (pc2 := 9) rfl (by decide) (fun _ => ?_) (fun _ => ?_)
  · refine lu_aload_n X dX11_game_11 (pc2 := 12) rfl rfl 0 rfl ?_
    refine lu_getr (r2 := 74) X rfl fl11_41 rfl kC_0 lC_0 dX11_game_12 (pc2 := 15) rfl ?_
    refine lu_iload_n X dX11_game_15 (pc2 := 16) rfl rfl 1 rfl ?_
    refine lu_invVi X (c5_playedOut _ a1) rfl q877 mvV_5_playedOut kC_74 lC_74 (by decide) ⟨_, rfl, rfl⟩ rfl rfl (Nat.le_of_ble_eq_true rfl) (Nat.le_of_ble_eq_true rfl) (Nat.le_of_ble_eq_true rfl) ⟨Nat.zero_le _, Nat.zero_le _⟩ dX11_game_16 (pc2 := 19) rfl rfl (fun x3 m4 => ?_)
    exact lu_iret X hret dX11_game_19
  · refine lu_iconst X dX11_game_9 (pc2 := 10) rfl ic_m1 ?_
    exact lu_iret X hret dX11_game_10

theorem dX11_play_0 : decode cX11_play 0 = .ok (.iload_n 1, 1) := by decide +kernel
theorem dX11_play_1 : decode cX11_play 1 = .ok (.iconst 1, 1) := by decide +kernel
theorem dX11_play_2 : decode cX11_play 2 = .ok (.iconst 4, 1) := by decide +kernel
theorem dX11_play_3 : decode cX11_play 3 = .ok (.invokestatic 92, 3) := by decide +kernel
theorem dX11_play_6 : decode cX11_play 6 = .ok (.ifCond .ne 5, 3) := by decide +kernel
theorem dX11_play_9 : decode cX11_play 9 = .ok (.iconst (-1), 1) := by decide +kernel
theorem dX11_play_10 : decode cX11_play 10 = .ok (.ireturn, 1) := by decide +kernel
theorem dX11_play_11 : decode cX11_play 11 = .ok (.aload_n 0, 1) := by decide +kernel
theorem dX11_play_12 : decode cX11_play 12 = .ok (.getfield 18, 3) := by decide +kernel
theorem dX11_play_15 : decode cX11_play 15 = .ok (.aload_n 0, 1) := by decide +kernel
theorem dX11_play_16 : decode cX11_play 16 = .ok (.getfield 18, 3) := by decide +kernel
theorem dX11_play_19 : decode cX11_play 19 = .ok (.getfield 115, 3) := by decide +kernel
theorem dX11_play_22 : decode cX11_play 22 = .ok (.invokevirtual 168, 3) := by decide +kernel
theorem dX11_play_25 : decode cX11_play 25 = .ok (.ifCond .eq 6, 3) := by decide +kernel
theorem dX11_play_28 : decode cX11_play 28 = .ok (.bipush (-3), 2) := by decide +kernel
theorem dX11_play_30 : decode cX11_play 30 = .ok (.ireturn, 1) := by decide +kernel
theorem dX11_play_31 : decode cX11_play 31 = .ok (.aload_n 0, 1) := by decide +kernel
theorem dX11_play_32 : decode cX11_play 32 = .ok (.getfield 41, 3) := by decide +kernel
theorem dX11_play_35 : decode cX11_play 35 = .ok (.iload_n 1, 1) := by decide +kernel
theorem dX11_play_36 : decode cX11_play 36 = .ok (.invokevirtual 261, 3) := by decide +kernel
theorem dX11_play_39 : decode cX11_play 39 = .ok (.pop, 1) := by decide +kernel
theorem dX11_play_40 : decode cX11_play 40 = .ok (.aload_n 0, 1) := by decide +kernel
theorem dX11_play_41 : decode cX11_play 41 = .ok (.getfield 41, 3) := by decide +kernel
theorem dX11_play_44 : decode cX11_play 44 = .ok (.getfield 264, 3) := by decide +kernel
theorem dX11_play_47 : decode cX11_play 47 = .ok (.ireturn, 1) := by decide +kernel
def f11_play (a1 : Int32) (m : lu_M) : Option (Int32 × lu_M) :=
  lu_bi (f11_isWithin a1 (1 : Int32) (4 : Int32) m) fun x1 m2 =>
  if x1 = 0 then (some ((-1 : Int32), m2))
  else (lu_bi (f10_isOver 1 29 m2) fun x3 m4 =>
  if x3 = 0 then (lu_bi (f5_playedOut a1 m4) fun x5 m6 =>
  some ((m6 74 10), m6))
  else (some ((-3 : Int32), m4)))
set_option maxRecDepth 20000 in
theorem c11_play (l : Launch)   (a1 : Int32) : lu_C lu_TC l yX11_play cX11_play 2 (some .int) 32 777 (fun ρ sa => [.ref (ρ 0), .int a1]) (f11_play a1) lu_RVi lu_sn := by
  refine lu_met (cls := RX11) rfl (by decide +kernel) (fun _ _ => Nat.le_of_ble_eq_true rfl) ?_
  intro G ρ m hl X hret
  subst hl
  change lu_Ab lu_TC G (lu_Q lu_TC G ρ lu_RVi lu_sn) (f11_play a1 m) 0 [(0, .ref (ρ 0)), (1, .int a1)] [] ρ 0 0 [] m
  unfold f11_play
  refine lu_iload_n X dX11_play_0 (pc2 := 1) rfl rfl 1 rfl ?_
  refine lu_iconst X dX11_play_1 (pc2 := 2) rfl ic_1 ?_
  refine lu_iconst X dX11_play_2 (pc2 := 3) rfl ic_4 ?_
  refine lu_invSi X (c11_isWithin _ a1 (1 : Int32) (4 : Int32)) rfl q433 mvS_11_isWithin rfl rfl (Nat.le_of_ble_eq_true rfl) (Nat.le_of_ble_eq_true rfl) (Nat.le_of_ble_eq_true rfl) ⟨Nat.zero_le _, Nat.zero_le _⟩ dX11_play_3 (pc2 := 6) rfl rfl (fun x1 m2 => ?_)
  refine lu_if_ne (tgt := 11) X dX11_play_6 (pc2 := 9) rfl (by decide) (fun _ => ?_) (fun _ => ?_)
  · refine lu_aload_n X dX11_play_11 (pc2 := 12) rfl rfl 0 rfl ?_
    refine lu_getr (r2 := 1) X rfl fl11_18 rfl kC_0 lC_0 dX11_play_12 (pc2 := 15) rfl ?_
    refine lu_aload_n X dX11_play_15 (pc2 := 16) rfl rfl 0 rfl ?_
    refine lu_getr (r2 := 1) X rfl fl11_18 rfl kC_0 lC_0 dX11_play_16 (pc2 := 19) rfl ?_
    refine lu_getr (r2 := 29) X rfl fl11_115 rfl kC_1 lC_1 dX11_play_19 (pc2 := 22) rfl ?_
    refine lu_invVi X (c10_isOver _ kC_1 lC_1 kC_29 lC_29) rfl q565 mvV_10_isOver kC_1 lC_1 (by decide) ⟨_, rfl, rfl⟩ rfl rfl (Nat.le_of_ble_eq_true rfl) (Nat.le_of_ble_eq_true rfl) (Nat.le_of_ble_eq_true rfl) ⟨Nat.zero_le _, Nat.zero_le _⟩ dX11_play_22 (pc2 := 25) rfl rfl (fun x3 m4 => ?_)
    refine lu_if_eq (tgt := 31) X dX11_play_25 (pc2 := 28) rfl (by decide) (fun _ => ?_) (fun _ => ?_)
    · refine lu_aload_n X dX11_play_31 (pc2 := 32) rfl rfl 0 rfl ?_
      refine lu_getr (r2 := 74) X rfl fl11_41 rfl kC_0 lC_0 dX11_play_32 (pc2 := 35) rfl ?_
      refine lu_iload_n X dX11_play_35 (pc2 := 36) rfl rfl 1 rfl ?_
      refine lu_invVi X (c5_playedOut _ a1) rfl q877 mvV_5_playedOut kC_74 lC_74 (by decide) ⟨_, rfl, rfl⟩ rfl rfl (Nat.le_of_ble_eq_true rfl) (Nat.le_of_ble_eq_true rfl) (Nat.le_of_ble_eq_true rfl) ⟨Nat.zero_le _, Nat.zero_le _⟩ dX11_play_36 (pc2 := 39) rfl rfl (fun x5 m6 => ?_)
      refine lu_pop X dX11_play_39 (pc2 := 40) rfl rfl ?_
      refine lu_aload_n X dX11_play_40 (pc2 := 41) rfl rfl 0 rfl ?_
      refine lu_getr (r2 := 74) X rfl fl11_41 rfl kC_0 lC_0 dX11_play_41 (pc2 := 44) rfl ?_
      refine lu_get X fl11_264 rfl kC_74 lC_74 dX11_play_44 (pc2 := 47) rfl ?_
      exact lu_iret X hret dX11_play_47
    · refine lu_bipush X dX11_play_28 (pc2 := 30) rfl bp_m3 ?_
      exact lu_iret X hret dX11_play_30
  · refine lu_iconst X dX11_play_9 (pc2 := 10) rfl ic_m1 ?_
    exact lu_iret X hret dX11_play_10

theorem dX11_report_0 : decode cX11_report 0 = .ok (.iload_n 1, 1) := by decide +kernel
theorem dX11_report_1 : decode cX11_report 1 = .ok (.iconst 1, 1) := by decide +kernel
theorem dX11_report_2 : decode cX11_report 2 = .ok (.bipush 9, 2) := by decide +kernel
theorem dX11_report_4 : decode cX11_report 4 = .ok (.invokestatic 92, 3) := by decide +kernel
theorem dX11_report_7 : decode cX11_report 7 = .ok (.ifCond .eq 13, 3) := by decide +kernel
theorem dX11_report_10 : decode cX11_report 10 = .ok (.iload_n 2, 1) := by decide +kernel
theorem dX11_report_11 : decode cX11_report 11 = .ok (.iconst 0, 1) := by decide +kernel
theorem dX11_report_12 : decode cX11_report 12 = .ok (.bipush 15, 2) := by decide +kernel
theorem dX11_report_14 : decode cX11_report 14 = .ok (.invokestatic 92, 3) := by decide +kernel
theorem dX11_report_17 : decode cX11_report 17 = .ok (.ifCond .ne 5, 3) := by decide +kernel
theorem dX11_report_20 : decode cX11_report 20 = .ok (.iconst (-1), 1) := by decide +kernel
theorem dX11_report_21 : decode cX11_report 21 = .ok (.ireturn, 1) := by decide +kernel
theorem dX11_report_22 : decode cX11_report 22 = .ok (.iload_n 3, 1) := by decide +kernel
theorem dX11_report_23 : decode cX11_report 23 = .ok (.iconst 0, 1) := by decide +kernel
theorem dX11_report_24 : decode cX11_report 24 = .ok (.bipush 31, 2) := by decide +kernel
theorem dX11_report_26 : decode cX11_report 26 = .ok (.invokestatic 92, 3) := by decide +kernel
theorem dX11_report_29 : decode cX11_report 29 = .ok (.ifCond .eq 13, 3) := by decide +kernel
theorem dX11_report_32 : decode cX11_report 32 = .ok (.iload 4, 2) := by decide +kernel
theorem dX11_report_34 : decode cX11_report 34 = .ok (.iconst 0, 1) := by decide +kernel
theorem dX11_report_35 : decode cX11_report 35 = .ok (.iconst 1, 1) := by decide +kernel
theorem dX11_report_36 : decode cX11_report 36 = .ok (.invokestatic 92, 3) := by decide +kernel
theorem dX11_report_39 : decode cX11_report 39 = .ok (.ifCond .ne 5, 3) := by decide +kernel
theorem dX11_report_42 : decode cX11_report 42 = .ok (.iconst (-1), 1) := by decide +kernel
theorem dX11_report_43 : decode cX11_report 43 = .ok (.ireturn, 1) := by decide +kernel
theorem dX11_report_44 : decode cX11_report 44 = .ok (.aload_n 0, 1) := by decide +kernel
theorem dX11_report_45 : decode cX11_report 45 = .ok (.getfield 18, 3) := by decide +kernel
theorem dX11_report_48 : decode cX11_report 48 = .ok (.getfield 267, 3) := by decide +kernel
theorem dX11_report_51 : decode cX11_report 51 = .ok (.bipush 6, 2) := by decide +kernel
theorem dX11_report_53 : decode cX11_report 53 = .ok (.if_icmp .lt 6, 3) := by decide +kernel
theorem dX11_report_56 : decode cX11_report 56 = .ok (.bipush (-2), 2) := by decide +kernel
theorem dX11_report_58 : decode cX11_report 58 = .ok (.ireturn, 1) := by decide +kernel
theorem dX11_report_59 : decode cX11_report 59 = .ok (.aload_n 0, 1) := by decide +kernel
theorem dX11_report_60 : decode cX11_report 60 = .ok (.getfield 18, 3) := by decide +kernel
theorem dX11_report_63 : decode cX11_report 63 = .ok (.getfield 267, 3) := by decide +kernel
theorem dX11_report_66 : decode cX11_report 66 = .ok (.istore 5, 2) := by decide +kernel
theorem dX11_report_68 : decode cX11_report 68 = .ok (.aload_n 0, 1) := by decide +kernel
theorem dX11_report_69 : decode cX11_report 69 = .ok (.getfield 18, 3) := by decide +kernel
theorem dX11_report_72 : decode cX11_report 72 = .ok (.getfield 270, 3) := by decide +kernel
theorem dX11_report_75 : decode cX11_report 75 = .ok (.iload 5, 2) := by decide +kernel
theorem dX11_report_77 : decode cX11_report 77 = .ok (.aaload, 1) := by decide +kernel
theorem dX11_report_78 : decode cX11_report 78 = .ok (.iconst 0, 1) := by decide +kernel
theorem dX11_report_79 : decode cX11_report 79 = .ok (.iload_n 1, 1) := by decide +kernel
theorem dX11_report_80 : decode cX11_report 80 = .ok (.iastore, 1) := by decide +kernel
theorem dX11_report_81 : decode cX11_report 81 = .ok (.aload_n 0, 1) := by decide +kernel
theorem dX11_report_82 : decode cX11_report 82 = .ok (.getfield 18, 3) := by decide +kernel
theorem dX11_report_85 : decode cX11_report 85 = .ok (.getfield 270, 3) := by decide +kernel
theorem dX11_report_88 : decode cX11_report 88 = .ok (.iload 5, 2) := by decide +kernel
theorem dX11_report_90 : decode cX11_report 90 = .ok (.aaload, 1) := by decide +kernel
theorem dX11_report_91 : decode cX11_report 91 = .ok (.iconst 1, 1) := by decide +kernel
theorem dX11_report_92 : decode cX11_report 92 = .ok (.iload_n 2, 1) := by decide +kernel
theorem dX11_report_93 : decode cX11_report 93 = .ok (.iastore, 1) := by decide +kernel
theorem dX11_report_94 : decode cX11_report 94 = .ok (.aload_n 0, 1) := by decide +kernel
theorem dX11_report_95 : decode cX11_report 95 = .ok (.getfield 18, 3) := by decide +kernel
theorem dX11_report_98 : decode cX11_report 98 = .ok (.getfield 270, 3) := by decide +kernel
theorem dX11_report_101 : decode cX11_report 101 = .ok (.iload 5, 2) := by decide +kernel
theorem dX11_report_103 : decode cX11_report 103 = .ok (.aaload, 1) := by decide +kernel
theorem dX11_report_104 : decode cX11_report 104 = .ok (.iconst 2, 1) := by decide +kernel
theorem dX11_report_105 : decode cX11_report 105 = .ok (.iload_n 3, 1) := by decide +kernel
theorem dX11_report_106 : decode cX11_report 106 = .ok (.iastore, 1) := by decide +kernel
theorem dX11_report_107 : decode cX11_report 107 = .ok (.aload_n 0, 1) := by decide +kernel
theorem dX11_report_108 : decode cX11_report 108 = .ok (.getfield 18, 3) := by decide +kernel
theorem dX11_report_111 : decode cX11_report 111 = .ok (.getfield 270, 3) := by decide +kernel
theorem dX11_report_114 : decode cX11_report 114 = .ok (.iload 5, 2) := by decide +kernel
theorem dX11_report_116 : decode cX11_report 116 = .ok (.aaload, 1) := by decide +kernel
theorem dX11_report_117 : decode cX11_report 117 = .ok (.iconst 3, 1) := by decide +kernel
theorem dX11_report_118 : decode cX11_report 118 = .ok (.iload 4, 2) := by decide +kernel
theorem dX11_report_120 : decode cX11_report 120 = .ok (.iastore, 1) := by decide +kernel
theorem dX11_report_121 : decode cX11_report 121 = .ok (.aload_n 0, 1) := by decide +kernel
theorem dX11_report_122 : decode cX11_report 122 = .ok (.getfield 18, 3) := by decide +kernel
theorem dX11_report_125 : decode cX11_report 125 = .ok (.iload 5, 2) := by decide +kernel
theorem dX11_report_127 : decode cX11_report 127 = .ok (.iconst 1, 1) := by decide +kernel
theorem dX11_report_128 : decode cX11_report 128 = .ok (.iadd, 1) := by decide +kernel
theorem dX11_report_129 : decode cX11_report 129 = .ok (.putfield 267, 3) := by decide +kernel
theorem dX11_report_132 : decode cX11_report 132 = .ok (.iload 5, 2) := by decide +kernel
theorem dX11_report_134 : decode cX11_report 134 = .ok (.ireturn, 1) := by decide +kernel
def f11_report_b20  (a1 : Int32) (a2 : Int32) (a3 : Int32) (a4 : Int32)  (m : lu_M) : Option (Int32 × lu_M) :=
  some ((-1 : Int32), m)
set_option maxRecDepth 20000 in
theorem w11_report_b20  {G : lu_G} {ρ : Nat → Nat} {a1 : Int32} {a2 : Int32} {a3 : Int32} {a4 : Int32}  (X : lu_X G RX11 cX11_report 6 1 22) (hret : (lu_me G).sig.returnType = (some .int))   : ∀  (m : lu_M), lu_Ab lu_TC G (lu_Q lu_TC G ρ lu_RVi lu_sn) (f11_report_b20 a1 a2 a3 a4 m) 20 [] [] ρ 0 0 [] m := by
  intro  m
  unfold f11_report_b20
  refine lu_iconst X dX11_report_20 (pc2 := 21) rfl ic_m1 ?_
  exact lu_iret X hret dX11_report_21
def f11_report_b42  (a1 : Int32) (a2 : Int32) (a3 : Int32) (a4 : Int32)  (m : lu_M) : Option (Int32 × lu_M) :=
  some ((-1 : Int32), m)
set_option maxRecDepth 20000 in
theorem w11_report_b42  {G : lu_G} {ρ : Nat → Nat} {a1 : Int32} {a2 : Int32} {a3 : Int32} {a4 : Int32}  (X : lu_X G RX11 cX11_report 6 1 22) (hret : (lu_me G).sig.returnType = (some .int))   : ∀  (m : lu_M), lu_Ab lu_TC G (lu_Q lu_TC G ρ lu_RVi lu_sn) (f11_report_b42 a1 a2 a3 a4 m) 42 [] [] ρ 0 0 [] m := by
  intro  m
  unfold f11_report_b42
  refine lu_iconst X dX11_report_42 (pc2 := 43) rfl ic_m1 ?_
  exact lu_iret X hret dX11_report_43
def f11_report (a1 : Int32) (a2 : Int32) (a3 : Int32) (a4 : Int32) (m : lu_M) : Option (Int32 × lu_M) :=
  lu_bi (f11_isWithin a1 (1 : Int32) (9 : Int32) m) fun x1 m2 =>
  if x1 = 0 then (f11_report_b20 a1 a2 a3 a4 m2)
  else (lu_bi (f11_isWithin a2 (0 : Int32) (15 : Int32) m2) fun x3 m4 =>
  if x3 = 0 then (f11_report_b20 a1 a2 a3 a4 m4)
  else (lu_bi (f11_isWithin a3 (0 : Int32) (31 : Int32) m4) fun x5 m6 =>
  if x5 = 0 then (f11_report_b42 a1 a2 a3 a4 m6)
  else (lu_bi (f11_isWithin a4 (0 : Int32) (1 : Int32) m6) fun x7 m8 =>
  if x7 = 0 then (f11_report_b42 a1 a2 a3 a4 m8)
  else (if (m8 1 11) < (6 : Int32) then (lu_nm ((m8 1 11)) fun x9 =>
  lu_gd (lu_ib x9 6) <|
  lu_nm (lu_st m8 (15 + 1 + x9.toNatClampNeg) 0 a1) fun m11 =>
  lu_gd (lu_ib x9 6) <|
  lu_nm (lu_st m11 (15 + 1 + x9.toNatClampNeg) 1 a2) fun m13 =>
  lu_gd (lu_ib x9 6) <|
  lu_nm (lu_st m13 (15 + 1 + x9.toNatClampNeg) 2 a3) fun m15 =>
  lu_gd (lu_ib x9 6) <|
  lu_nm (lu_st m15 (15 + 1 + x9.toNatClampNeg) 3 a4) fun m17 =>
  lu_nm (lu_st m17 1 11 (x9 + (1 : Int32))) fun m18 =>
  some (x9, m18))
  else (some ((-2 : Int32), m8))))))
set_option maxRecDepth 20000 in
theorem c11_report (l : Launch)   (a1 : Int32) (a2 : Int32) (a3 : Int32) (a4 : Int32) : lu_C lu_TC l yX11_report cX11_report 6 (some .int) 1 22 (fun ρ sa => [.ref (ρ 0), .int a1, .int a2, .int a3, .int a4]) (f11_report a1 a2 a3 a4) lu_RVi lu_sn := by
  refine lu_met (cls := RX11) rfl (by decide +kernel) (fun _ _ => Nat.le_of_ble_eq_true rfl) ?_
  intro G ρ m hl X hret
  subst hl
  change lu_Ab lu_TC G (lu_Q lu_TC G ρ lu_RVi lu_sn) (f11_report a1 a2 a3 a4 m) 0 [(0, .ref (ρ 0)), (1, .int a1), (2, .int a2), (3, .int a3), (4, .int a4)] [] ρ 0 0 [] m
  unfold f11_report
  refine lu_iload_n X dX11_report_0 (pc2 := 1) rfl rfl 1 rfl ?_
  refine lu_iconst X dX11_report_1 (pc2 := 2) rfl ic_1 ?_
  refine lu_bipush X dX11_report_2 (pc2 := 4) rfl bp_9 ?_
  refine lu_invSi X (c11_isWithin _ a1 (1 : Int32) (9 : Int32)) rfl q433 mvS_11_isWithin rfl rfl (Nat.le_of_ble_eq_true rfl) (Nat.le_of_ble_eq_true rfl) (Nat.le_of_ble_eq_true rfl) ⟨Nat.zero_le _, Nat.zero_le _⟩ dX11_report_4 (pc2 := 7) rfl rfl (fun x1 m2 => ?_)
  refine lu_if_eq (tgt := 20) X dX11_report_7 (pc2 := 10) rfl (by decide) (fun _ => ?_) (fun _ => ?_)
  · exact lu_sub [] rfl (w11_report_b20 X hret m2)
  · refine lu_iload_n X dX11_report_10 (pc2 := 11) rfl rfl 2 rfl ?_
    refine lu_iconst X dX11_report_11 (pc2 := 12) rfl ic_0 ?_
    refine lu_bipush X dX11_report_12 (pc2 := 14) rfl bp_15 ?_
    refine lu_invSi X (c11_isWithin _ a2 (0 : Int32) (15 : Int32)) rfl q433 mvS_11_isWithin rfl rfl (Nat.le_of_ble_eq_true rfl) (Nat.le_of_ble_eq_true rfl) (Nat.le_of_ble_eq_true rfl) ⟨Nat.zero_le _, Nat.zero_le _⟩ dX11_report_14 (pc2 := 17) rfl rfl (fun x3 m4 => ?_)
    refine lu_if_ne (tgt := 22) X dX11_report_17 (pc2 := 20) rfl (by decide) (fun _ => ?_) (fun _ => ?_)
    · refine lu_iload_n X dX11_report_22 (pc2 := 23) rfl rfl 3 rfl ?_
      refine lu_iconst X dX11_report_23 (pc2 := 24) rfl ic_0 ?_
      refine lu_bipush X dX11_report_24 (pc2 := 26) rfl bp_31 ?_
      refine lu_invSi X (c11_isWithin _ a3 (0 : Int32) (31 : Int32)) rfl q433 mvS_11_isWithin rfl rfl (Nat.le_of_ble_eq_true rfl) (Nat.le_of_ble_eq_true rfl) (Nat.le_of_ble_eq_true rfl) ⟨Nat.zero_le _, Nat.zero_le _⟩ dX11_report_26 (pc2 := 29) rfl rfl (fun x5 m6 => ?_)
      refine lu_if_eq (tgt := 42) X dX11_report_29 (pc2 := 32) rfl (by decide) (fun _ => ?_) (fun _ => ?_)
      · exact lu_sub [] rfl (w11_report_b42 X hret m6)
      · refine lu_iload X dX11_report_32 (pc2 := 34) rfl 4 rfl ?_
        refine lu_iconst X dX11_report_34 (pc2 := 35) rfl ic_0 ?_
        refine lu_iconst X dX11_report_35 (pc2 := 36) rfl ic_1 ?_
        refine lu_invSi X (c11_isWithin _ a4 (0 : Int32) (1 : Int32)) rfl q433 mvS_11_isWithin rfl rfl (Nat.le_of_ble_eq_true rfl) (Nat.le_of_ble_eq_true rfl) (Nat.le_of_ble_eq_true rfl) ⟨Nat.zero_le _, Nat.zero_le _⟩ dX11_report_36 (pc2 := 39) rfl rfl (fun x7 m8 => ?_)
        refine lu_if_ne (tgt := 44) X dX11_report_39 (pc2 := 42) rfl (by decide) (fun _ => ?_) (fun _ => ?_)
        · refine lu_aload_n X dX11_report_44 (pc2 := 45) rfl rfl 0 rfl ?_
          refine lu_getr (r2 := 1) X rfl fl11_18 rfl kC_0 lC_0 dX11_report_45 (pc2 := 48) rfl ?_
          refine lu_get X fl11_267 rfl kC_1 lC_1 dX11_report_48 (pc2 := 51) rfl ?_
          refine lu_bipush X dX11_report_51 (pc2 := 53) rfl bp_6 ?_
          refine lu_icmp_lt (tgt := 59) X dX11_report_53 (pc2 := 56) rfl (by decide) (fun _ => ?_) (fun _ => ?_)
          · refine lu_aload_n X dX11_report_59 (pc2 := 60) rfl rfl 0 rfl ?_
            refine lu_getr (r2 := 1) X rfl fl11_18 rfl kC_0 lC_0 dX11_report_60 (pc2 := 63) rfl ?_
            refine lu_get X fl11_267 rfl kC_1 lC_1 dX11_report_63 (pc2 := 66) rfl ?_
            refine lu_topi (fun x9 => ?_)
            refine lu_istore (lv2 := [(5, .int x9), (0, .ref (ρ 0)), (1, .int a1), (2, .int a2), (3, .int a3), (4, .int a4)]) X dX11_report_66 (pc2 := 68) rfl (by decide) rfl ?_
            refine lu_aload_n X dX11_report_68 (pc2 := 69) rfl rfl 1 rfl ?_
            refine lu_getr (r2 := 1) X rfl fl11_18 rfl kC_0 lC_0 dX11_report_69 (pc2 := 72) rfl ?_
            refine lu_getr (r2 := 15) X rfl fl11_270 rfl kC_1 lC_1 dX11_report_72 (pc2 := 75) rfl ?_
            refine lu_iload X dX11_report_75 (pc2 := 77) rfl 0 rfl ?_
            refine lu_aald X rfl rfl (by decide) (by decide) kC_15 lC_15 dX11_report_77 (pc2 := 78) rfl (fun g10 => ?_)
            refine lu_iconst X dX11_report_78 (pc2 := 79) rfl ic_0 ?_
            refine lu_iload_n X dX11_report_79 (pc2 := 80) rfl rfl 2 rfl ?_
            refine lu_iastK (q := 0) X (by decide) ((kaC_3_6_4 kC_15 lC_15 g10).1) ((kaC_3_6_4 kC_15 lC_15 g10).2) dX11_report_80 (pc2 := 81) rfl (fun m11 => ?_)
            refine lu_aload_n X dX11_report_81 (pc2 := 82) rfl rfl 1 rfl ?_
            refine lu_getr (r2 := 1) X rfl fl11_18 rfl kC_0 lC_0 dX11_report_82 (pc2 := 85) rfl ?_
            refine lu_getr (r2 := 15) X rfl fl11_270 rfl kC_1 lC_1 dX11_report_85 (pc2 := 88) rfl ?_
            refine lu_iload X dX11_report_88 (pc2 := 90) rfl 0 rfl ?_
            refine lu_aald X rfl rfl (by decide) (by decide) kC_15 lC_15 dX11_report_90 (pc2 := 91) rfl (fun g12 => ?_)
            refine lu_iconst X dX11_report_91 (pc2 := 92) rfl ic_1 ?_
            refine lu_iload_n X dX11_report_92 (pc2 := 93) rfl rfl 3 rfl ?_
            refine lu_iastK (q := 1) X (by decide) ((kaC_3_6_4 kC_15 lC_15 g12).1) ((kaC_3_6_4 kC_15 lC_15 g12).2) dX11_report_93 (pc2 := 94) rfl (fun m13 => ?_)
            refine lu_aload_n X dX11_report_94 (pc2 := 95) rfl rfl 1 rfl ?_
            refine lu_getr (r2 := 1) X rfl fl11_18 rfl kC_0 lC_0 dX11_report_95 (pc2 := 98) rfl ?_
            refine lu_getr (r2 := 15) X rfl fl11_270 rfl kC_1 lC_1 dX11_report_98 (pc2 := 101) rfl ?_
            refine lu_iload X dX11_report_101 (pc2 := 103) rfl 0 rfl ?_
            refine lu_aald X rfl rfl (by decide) (by decide) kC_15 lC_15 dX11_report_103 (pc2 := 104) rfl (fun g14 => ?_)
            refine lu_iconst X dX11_report_104 (pc2 := 105) rfl ic_2 ?_
            refine lu_iload_n X dX11_report_105 (pc2 := 106) rfl rfl 4 rfl ?_
            refine lu_iastK (q := 2) X (by decide) ((kaC_3_6_4 kC_15 lC_15 g14).1) ((kaC_3_6_4 kC_15 lC_15 g14).2) dX11_report_106 (pc2 := 107) rfl (fun m15 => ?_)
            refine lu_aload_n X dX11_report_107 (pc2 := 108) rfl rfl 1 rfl ?_
            refine lu_getr (r2 := 1) X rfl fl11_18 rfl kC_0 lC_0 dX11_report_108 (pc2 := 111) rfl ?_
            refine lu_getr (r2 := 15) X rfl fl11_270 rfl kC_1 lC_1 dX11_report_111 (pc2 := 114) rfl ?_
            refine lu_iload X dX11_report_114 (pc2 := 116) rfl 0 rfl ?_
            refine lu_aald X rfl rfl (by decide) (by decide) kC_15 lC_15 dX11_report_116 (pc2 := 117) rfl (fun g16 => ?_)
            refine lu_iconst X dX11_report_117 (pc2 := 118) rfl ic_3 ?_
            refine lu_iload X dX11_report_118 (pc2 := 120) rfl 5 rfl ?_
            refine lu_iastK (q := 3) X (by decide) ((kaC_3_6_4 kC_15 lC_15 g16).1) ((kaC_3_6_4 kC_15 lC_15 g16).2) dX11_report_120 (pc2 := 121) rfl (fun m17 => ?_)
            refine lu_aload_n X dX11_report_121 (pc2 := 122) rfl rfl 1 rfl ?_
            refine lu_getr (r2 := 1) X rfl fl11_18 rfl kC_0 lC_0 dX11_report_122 (pc2 := 125) rfl ?_
            refine lu_iload X dX11_report_125 (pc2 := 127) rfl 0 rfl ?_
            refine lu_iconst X dX11_report_127 (pc2 := 128) rfl ic_1 ?_
            refine lu_iadd X dX11_report_128 (pc2 := 129) rfl ?_
            refine lu_put X fl11_267 rfl (Or.inl (by decide)) rfl (by decide +kernel) kC_1 lC_1 dX11_report_129 (pc2 := 132) rfl (fun m18 => ?_)
            refine lu_iload X dX11_report_132 (pc2 := 134) rfl 0 rfl ?_
            exact lu_iret X hret dX11_report_134
          · refine lu_bipush X dX11_report_56 (pc2 := 58) rfl bp_m2 ?_
            exact lu_iret X hret dX11_report_58
        · exact lu_sub [] rfl (w11_report_b42 X hret m8)
    · exact lu_sub [] rfl (w11_report_b20 X hret m4)

theorem dX11_forget_0 : decode cX11_forget 0 = .ok (.aload_n 0, 1) := by decide +kernel
theorem dX11_forget_1 : decode cX11_forget 1 = .ok (.getfield 18, 3) := by decide +kernel
theorem dX11_forget_4 : decode cX11_forget 4 = .ok (.getfield 267, 3) := by decide +kernel
theorem dX11_forget_7 : decode cX11_forget 7 = .ok (.istore_n 1, 1) := by decide +kernel
theorem dX11_forget_8 : decode cX11_forget 8 = .ok (.aload_n 0, 1) := by decide +kernel
theorem dX11_forget_9 : decode cX11_forget 9 = .ok (.getfield 18, 3) := by decide +kernel
theorem dX11_forget_12 : decode cX11_forget 12 = .ok (.iconst 0, 1) := by decide +kernel
theorem dX11_forget_13 : decode cX11_forget 13 = .ok (.putfield 267, 3) := by decide +kernel
theorem dX11_forget_16 : decode cX11_forget 16 = .ok (.iload_n 1, 1) := by decide +kernel
theorem dX11_forget_17 : decode cX11_forget 17 = .ok (.ireturn, 1) := by decide +kernel
def f11_forget  (m : lu_M) : Option (Int32 × lu_M) :=
  lu_nm ((m 1 11)) fun x1 =>
  lu_nm (lu_st m 1 11 (0 : Int32)) fun m2 =>
  some (x1, m2)
set_option maxRecDepth 20000 in
theorem c11_forget (l : Launch)    : lu_C lu_TC l yX11_forget cX11_forget 2 (some .int) 0 0 (fun ρ sa => [.ref (ρ 0)]) (f11_forget ) lu_RVi lu_sn := by
  refine lu_met (cls := RX11) rfl (by decide +kernel) (fun _ _ => Nat.le_of_ble_eq_true rfl) ?_
  intro G ρ m hl X hret
  subst hl
  change lu_Ab lu_TC G (lu_Q lu_TC G ρ lu_RVi lu_sn) (f11_forget  m) 0 [(0, .ref (ρ 0))] [] ρ 0 0 [] m
  unfold f11_forget
  refine lu_aload_n X dX11_forget_0 (pc2 := 1) rfl rfl 0 rfl ?_
  refine lu_getr (r2 := 1) X rfl fl11_18 rfl kC_0 lC_0 dX11_forget_1 (pc2 := 4) rfl ?_
  refine lu_get X fl11_267 rfl kC_1 lC_1 dX11_forget_4 (pc2 := 7) rfl ?_
  refine lu_topi (fun x1 => ?_)
  refine lu_istore_n (lv2 := [(1, .int x1), (0, .ref (ρ 0))]) X dX11_forget_7 (pc2 := 8) rfl rfl (by decide) rfl ?_
  refine lu_aload_n X dX11_forget_8 (pc2 := 9) rfl rfl 1 rfl ?_
  refine lu_getr (r2 := 1) X rfl fl11_18 rfl kC_0 lC_0 dX11_forget_9 (pc2 := 12) rfl ?_
  refine lu_iconst X dX11_forget_12 (pc2 := 13) rfl ic_0 ?_
  refine lu_put X fl11_267 rfl (Or.inl (by decide)) rfl (by decide +kernel) kC_1 lC_1 dX11_forget_13 (pc2 := 16) rfl (fun m2 => ?_)
  refine lu_iload_n X dX11_forget_16 (pc2 := 17) rfl rfl 0 rfl ?_
  exact lu_iret X hret dX11_forget_17

theorem dX11_stranger_0 : decode cX11_stranger 0 = .ok (.iload_n 1, 1) := by decide +kernel
theorem dX11_stranger_1 : decode cX11_stranger 1 = .ok (.bipush 81, 2) := by decide +kernel
theorem dX11_stranger_3 : decode cX11_stranger 3 = .ok (.idiv, 1) := by decide +kernel
theorem dX11_stranger_4 : decode cX11_stranger 4 = .ok (.iconst 1, 1) := by decide +kernel
theorem dX11_stranger_5 : decode cX11_stranger 5 = .ok (.iadd, 1) := by decide +kernel
theorem dX11_stranger_6 : decode cX11_stranger 6 = .ok (.istore_n 2, 1) := by decide +kernel
theorem dX11_stranger_7 : decode cX11_stranger 7 = .ok (.aload_n 0, 1) := by decide +kernel
theorem dX11_stranger_8 : decode cX11_stranger 8 = .ok (.getfield 54, 3) := by decide +kernel
theorem dX11_stranger_11 : decode cX11_stranger 11 = .ok (.iload_n 2, 1) := by decide +kernel
theorem dX11_stranger_12 : decode cX11_stranger 12 = .ok (.iconst 1, 1) := by decide +kernel
theorem dX11_stranger_13 : decode cX11_stranger 13 = .ok (.iconst 5, 1) := by decide +kernel
theorem dX11_stranger_14 : decode cX11_stranger 14 = .ok (.invokestatic 92, 3) := by decide +kernel
theorem dX11_stranger_17 : decode cX11_stranger 17 = .ok (.ifCond .eq 7, 3) := by decide +kernel
theorem dX11_stranger_20 : decode cX11_stranger 20 = .ok (.iload_n 2, 1) := by decide +kernel
theorem dX11_stranger_21 : decode cX11_stranger 21 = .ok (.goto 4, 3) := by decide +kernel
theorem dX11_stranger_24 : decode cX11_stranger 24 = .ok (.iconst 1, 1) := by decide +kernel
theorem dX11_stranger_25 : decode cX11_stranger 25 = .ok (.aaload, 1) := by decide +kernel
theorem dX11_stranger_26 : decode cX11_stranger 26 = .ok (.astore_n 3, 1) := by decide +kernel
theorem dX11_stranger_27 : decode cX11_stranger 27 = .ok (.aload_n 3, 1) := by decide +kernel
theorem dX11_stranger_28 : decode cX11_stranger 28 = .ok (.iload_n 1, 1) := by decide +kernel
theorem dX11_stranger_29 : decode cX11_stranger 29 = .ok (.bipush 9, 2) := by decide +kernel
theorem dX11_stranger_31 : decode cX11_stranger 31 = .ok (.idiv, 1) := by decide +kernel
theorem dX11_stranger_32 : decode cX11_stranger 32 = .ok (.bipush 9, 2) := by decide +kernel
theorem dX11_stranger_34 : decode cX11_stranger 34 = .ok (.irem, 1) := by decide +kernel
theorem dX11_stranger_35 : decode cX11_stranger 35 = .ok (.iconst 1, 1) := by decide +kernel
theorem dX11_stranger_36 : decode cX11_stranger 36 = .ok (.iadd, 1) := by decide +kernel
theorem dX11_stranger_37 : decode cX11_stranger 37 = .ok (.putfield 109, 3) := by decide +kernel
theorem dX11_stranger_40 : decode cX11_stranger 40 = .ok (.aload_n 3, 1) := by decide +kernel
theorem dX11_stranger_41 : decode cX11_stranger 41 = .ok (.iload_n 1, 1) := by decide +kernel
theorem dX11_stranger_42 : decode cX11_stranger 42 = .ok (.bipush 9, 2) := by decide +kernel
theorem dX11_stranger_44 : decode cX11_stranger 44 = .ok (.irem, 1) := by decide +kernel
theorem dX11_stranger_45 : decode cX11_stranger 45 = .ok (.iconst 1, 1) := by decide +kernel
theorem dX11_stranger_46 : decode cX11_stranger 46 = .ok (.iadd, 1) := by decide +kernel
theorem dX11_stranger_47 : decode cX11_stranger 47 = .ok (.putfield 112, 3) := by decide +kernel
theorem dX11_stranger_50 : decode cX11_stranger 50 = .ok (.aload_n 3, 1) := by decide +kernel
theorem dX11_stranger_51 : decode cX11_stranger 51 = .ok (.areturn, 1) := by decide +kernel
def f11_stranger_b25  (a1 : Int32) (s0 : Int32) (m : lu_M) : Option (Nat × lu_M) :=
  lu_gd (lu_ib s0 6) <|
  lu_nm (lu_st m (91 + 1 + s0.toNatClampNeg) 2 (((a1 / (9 : Int32)) - (a1 / (9 : Int32)) / (9 : Int32) * (9 : Int32)) + (1 : Int32))) fun m5 =>
  lu_nm (lu_st m5 (91 + 1 + s0.toNatClampNeg) 3 ((a1 - a1 / (9 : Int32) * (9 : Int32)) + (1 : Int32))) fun m6 =>
  some ((91 + 1 + s0.toNatClampNeg), m6)
set_option maxRecDepth 20000 in
theorem w11_stranger_b25  {G : lu_G} {ρ : Nat → Nat} {a1 : Int32}  (X : lu_X G RX11 cX11_stranger 4 1 22) (hret : (lu_me G).sig.returnType = (some (.object "LeftUndoes$Hand")))   : ∀ (s0 : Int32) (m : lu_M), lu_Ab lu_TC G (lu_Q lu_TC G ρ lu_RVr lu_sn) (f11_stranger_b25 a1 s0 m) 25 [(1, .int a1)] [.int s0, .ref (ρ 91)] ρ 0 0 [] m := by
  intro s0 m
  unfold f11_stranger_b25
  refine lu_aald X rfl rfl (by decide) (by decide) kC_91 lC_91 dX11_stranger_25 (pc2 := 26) rfl (fun g4 => ?_)
  refine lu_astore_n (lv2 := [(3, .ref (ρ (91 + 1 + s0.toNatClampNeg))), (1, .int a1)]) X dX11_stranger_26 (pc2 := 27) rfl rfl (by decide) rfl ?_
  refine lu_aload_n X dX11_stranger_27 (pc2 := 28) rfl rfl 0 rfl ?_
  refine lu_iload_n X dX11_stranger_28 (pc2 := 29) rfl rfl 1 rfl ?_
  refine lu_bipush X dX11_stranger_29 (pc2 := 31) rfl bp_9 ?_
  refine lu_idivK X dX11_stranger_31 (pc2 := 32) rfl (by decide) ?_
  refine lu_bipush X dX11_stranger_32 (pc2 := 34) rfl bp_9 ?_
  refine lu_iremK X dX11_stranger_34 (pc2 := 35) rfl (by decide) ?_
  refine lu_iconst X dX11_stranger_35 (pc2 := 36) rfl ic_1 ?_
  refine lu_iadd X dX11_stranger_36 (pc2 := 37) rfl ?_
  refine lu_put X fl11_109 rfl (Or.inr (by decide)) rfl (by decide +kernel) ((kaC_1_6_0 kC_91 lC_91 g4).1) ((kaC_1_6_0 kC_91 lC_91 g4).2) dX11_stranger_37 (pc2 := 40) rfl (fun m5 => ?_)
  refine lu_aload_n X dX11_stranger_40 (pc2 := 41) rfl rfl 0 rfl ?_
  refine lu_iload_n X dX11_stranger_41 (pc2 := 42) rfl rfl 1 rfl ?_
  refine lu_bipush X dX11_stranger_42 (pc2 := 44) rfl bp_9 ?_
  refine lu_iremK X dX11_stranger_44 (pc2 := 45) rfl (by decide) ?_
  refine lu_iconst X dX11_stranger_45 (pc2 := 46) rfl ic_1 ?_
  refine lu_iadd X dX11_stranger_46 (pc2 := 47) rfl ?_
  refine lu_put X fl11_112 rfl (Or.inr (by decide)) rfl (by decide +kernel) ((kaC_1_6_0 kC_91 lC_91 g4).1) ((kaC_1_6_0 kC_91 lC_91 g4).2) dX11_stranger_47 (pc2 := 50) rfl (fun m6 => ?_)
  refine lu_aload_n X dX11_stranger_50 (pc2 := 51) rfl rfl 0 rfl ?_
  exact lu_aret X hret dX11_stranger_51
def f11_stranger (a1 : Int32) (m : lu_M) : Option (Nat × lu_M) :=
  lu_nm (((a1 / (81 : Int32)) + (1 : Int32))) fun x1 =>
  lu_bi (f11_isWithin x1 (1 : Int32) (5 : Int32) m) fun x2 m3 =>
  if x2 = 0 then (f11_stranger_b25 a1 (1 : Int32) m3)
  else (f11_stranger_b25 a1 x1 m3)
set_option maxRecDepth 20000 in
theorem c11_stranger (l : Launch)   (a1 : Int32) : lu_C lu_TC l yX11_stranger cX11_stranger 4 (some (.object "LeftUndoes$Hand")) 1 22 (fun ρ sa => [.ref (ρ 0), .int a1]) (f11_stranger a1) lu_RVr lu_sn := by
  refine lu_met (cls := RX11) rfl (by decide +kernel) (fun _ _ => Nat.le_of_ble_eq_true rfl) ?_
  intro G ρ m hl X hret
  subst hl
  change lu_Ab lu_TC G (lu_Q lu_TC G ρ lu_RVr lu_sn) (f11_stranger a1 m) 0 [(0, .ref (ρ 0)), (1, .int a1)] [] ρ 0 0 [] m
  unfold f11_stranger
  refine lu_iload_n X dX11_stranger_0 (pc2 := 1) rfl rfl 1 rfl ?_
  refine lu_bipush X dX11_stranger_1 (pc2 := 3) rfl bp_81 ?_
  refine lu_idivK X dX11_stranger_3 (pc2 := 4) rfl (by decide) ?_
  refine lu_iconst X dX11_stranger_4 (pc2 := 5) rfl ic_1 ?_
  refine lu_iadd X dX11_stranger_5 (pc2 := 6) rfl ?_
  refine lu_topi (fun x1 => ?_)
  refine lu_istore_n (lv2 := [(2, .int x1), (0, .ref (ρ 0)), (1, .int a1)]) X dX11_stranger_6 (pc2 := 7) rfl rfl (by decide) rfl ?_
  refine lu_aload_n X dX11_stranger_7 (pc2 := 8) rfl rfl 1 rfl ?_
  refine lu_getr (r2 := 91) X rfl fl11_54 rfl kC_0 lC_0 dX11_stranger_8 (pc2 := 11) rfl ?_
  refine lu_iload_n X dX11_stranger_11 (pc2 := 12) rfl rfl 0 rfl ?_
  refine lu_iconst X dX11_stranger_12 (pc2 := 13) rfl ic_1 ?_
  refine lu_iconst X dX11_stranger_13 (pc2 := 14) rfl ic_5 ?_
  refine lu_invSi X (c11_isWithin _ x1 (1 : Int32) (5 : Int32)) rfl q433 mvS_11_isWithin rfl rfl (Nat.le_of_ble_eq_true rfl) (Nat.le_of_ble_eq_true rfl) (Nat.le_of_ble_eq_true rfl) ⟨Nat.zero_le _, Nat.zero_le _⟩ dX11_stranger_14 (pc2 := 17) rfl rfl (fun x2 m3 => ?_)
  refine lu_if_eq (tgt := 24) X dX11_stranger_17 (pc2 := 20) rfl (by decide) (fun _ => ?_) (fun _ => ?_)
  · refine lu_iconst X dX11_stranger_24 (pc2 := 25) rfl ic_1 ?_
    exact lu_sub [2] rfl (w11_stranger_b25 X hret (1 : Int32) m3)
  · refine lu_iload_n X dX11_stranger_20 (pc2 := 21) rfl rfl 0 rfl ?_
    refine lu_goto (tgt := 25) X dX11_stranger_21 (by decide) ?_
    exact lu_sub [2] rfl (w11_stranger_b25 X hret x1 m3)

theorem dX11_span_0 : decode cX11_span 0 = .ok (.iload_n 1, 1) := by decide +kernel
theorem dX11_span_1 : decode cX11_span 1 = .ok (.iconst 0, 1) := by decide +kernel
theorem dX11_span_2 : decode cX11_span 2 = .ok (.iconst 3, 1) := by decide +kernel
theorem dX11_span_3 : decode cX11_span 3 = .ok (.invokestatic 92, 3) := by decide +kernel
theorem dX11_span_6 : decode cX11_span 6 = .ok (.ifCond .ne 5, 3) := by decide +kernel
theorem dX11_span_9 : decode cX11_span 9 = .ok (.iconst (-1), 1) := by decide +kernel
theorem dX11_span_10 : decode cX11_span 10 = .ok (.ireturn, 1) := by decide +kernel
theorem dX11_span_11 : decode cX11_span 11 = .ok (.iconst 0, 1) := by decide +kernel
theorem dX11_span_12 : decode cX11_span 12 = .ok (.istore_n 2, 1) := by decide +kernel
theorem dX11_span_13 : decode cX11_span 13 = .ok (.iconst 0, 1) := by decide +kernel
theorem dX11_span_14 : decode cX11_span 14 = .ok (.istore_n 3, 1) := by decide +kernel
theorem dX11_span_15 : decode cX11_span 15 = .ok (.iload_n 3, 1) := by decide +kernel
theorem dX11_span_16 : decode cX11_span 16 = .ok (.sipush 405, 3) := by decide +kernel
theorem dX11_span_19 : decode cX11_span 19 = .ok (.if_icmp .ge 67, 3) := by decide +kernel
theorem dX11_span_22 : decode cX11_span 22 = .ok (.aload_n 0, 1) := by decide +kernel
theorem dX11_span_23 : decode cX11_span 23 = .ok (.iload_n 3, 1) := by decide +kernel
theorem dX11_span_24 : decode cX11_span 24 = .ok (.invokevirtual 273, 3) := by decide +kernel
theorem dX11_span_27 : decode cX11_span 27 = .ok (.astore 4, 2) := by decide +kernel
theorem dX11_span_29 : decode cX11_span 29 = .ok (.aload_n 0, 1) := by decide +kernel
theorem dX11_span_30 : decode cX11_span 30 = .ok (.getfield 18, 3) := by decide +kernel
theorem dX11_span_33 : decode cX11_span 33 = .ok (.aload 4, 2) := by decide +kernel
theorem dX11_span_35 : decode cX11_span 35 = .ok (.invokevirtual 277, 3) := by decide +kernel
theorem dX11_span_38 : decode cX11_span 38 = .ok (.ifCond .eq 6, 3) := by decide +kernel
theorem dX11_span_41 : decode cX11_span 41 = .ok (.goto 39, 3) := by decide +kernel
theorem dX11_span_44 : decode cX11_span 44 = .ok (.iload_n 1, 1) := by decide +kernel
theorem dX11_span_45 : decode cX11_span 45 = .ok (.iconst 1, 1) := by decide +kernel
theorem dX11_span_46 : decode cX11_span 46 = .ok (.if_icmp .ne 9, 3) := by decide +kernel
theorem dX11_span_49 : decode cX11_span 49 = .ok (.aload 4, 2) := by decide +kernel
theorem dX11_span_51 : decode cX11_span 51 = .ok (.getfield 106, 3) := by decide +kernel
theorem dX11_span_54 : decode cX11_span 54 = .ok (.ireturn, 1) := by decide +kernel
theorem dX11_span_55 : decode cX11_span 55 = .ok (.iload_n 1, 1) := by decide +kernel
theorem dX11_span_56 : decode cX11_span 56 = .ok (.iconst 2, 1) := by decide +kernel
theorem dX11_span_57 : decode cX11_span 57 = .ok (.if_icmp .ne 9, 3) := by decide +kernel
theorem dX11_span_60 : decode cX11_span 60 = .ok (.aload 4, 2) := by decide +kernel
theorem dX11_span_62 : decode cX11_span 62 = .ok (.getfield 109, 3) := by decide +kernel
theorem dX11_span_65 : decode cX11_span 65 = .ok (.ireturn, 1) := by decide +kernel
theorem dX11_span_66 : decode cX11_span 66 = .ok (.iload_n 1, 1) := by decide +kernel
theorem dX11_span_67 : decode cX11_span 67 = .ok (.iconst 3, 1) := by decide +kernel
theorem dX11_span_68 : decode cX11_span 68 = .ok (.if_icmp .ne 9, 3) := by decide +kernel
theorem dX11_span_71 : decode cX11_span 71 = .ok (.aload 4, 2) := by decide +kernel
theorem dX11_span_73 : decode cX11_span 73 = .ok (.getfield 112, 3) := by decide +kernel
theorem dX11_span_76 : decode cX11_span 76 = .ok (.ireturn, 1) := by decide +kernel
theorem dX11_span_77 : decode cX11_span 77 = .ok (.iinc 2 1, 3) := by decide +kernel
theorem dX11_span_80 : decode cX11_span 80 = .ok (.iinc 3 1, 3) := by decide +kernel
theorem dX11_span_83 : decode cX11_span 83 = .ok (.goto (-68), 3) := by decide +kernel
theorem dX11_span_86 : decode cX11_span 86 = .ok (.iload_n 1, 1) := by decide +kernel
theorem dX11_span_87 : decode cX11_span 87 = .ok (.ifCond .ne 7, 3) := by decide +kernel
theorem dX11_span_90 : decode cX11_span 90 = .ok (.iload_n 2, 1) := by decide +kernel
theorem dX11_span_91 : decode cX11_span 91 = .ok (.goto 5, 3) := by decide +kernel
theorem dX11_span_94 : decode cX11_span 94 = .ok (.bipush (-3), 2) := by decide +kernel
theorem dX11_span_96 : decode cX11_span 96 = .ok (.ireturn, 1) := by decide +kernel
def f11_span_b80 (K15 : Int32 → Int32 → lu_M → Option (Int32 × lu_M)) (K86 : Int32 → lu_M → Option (Int32 × lu_M)) (a1 : Int32) (v2 : Int32) (v3 : Int32) (m : lu_M) : Option (Int32 × lu_M) :=
  K15 v2 (v3 + (1 : Int32)) m
set_option maxRecDepth 20000 in
theorem w11_span_b80  {G : lu_G} {ρ : Nat → Nat} {a1 : Int32} {K15 : Int32 → Int32 → lu_M → Option (Int32 × lu_M)} {K86 : Int32 → lu_M → Option (Int32 × lu_M)} (X : lu_X G RX11 cX11_span 5 5 111) (hret : (lu_me G).sig.returnType = (some .int))  (hK15 : ∀ (v2 : Int32) (v3 : Int32) (m : lu_M), lu_Ab lu_TC G (lu_Q lu_TC G ρ lu_RVi lu_sn) (K15 v2 v3 m) 15 [(0, .ref (ρ 0)), (1, .int a1), (2, .int v2), (3, .int v3)] [] ρ 0 0 [] m) (hK86 : ∀ (v2 : Int32) (m : lu_M), lu_Ab lu_TC G (lu_Q lu_TC G ρ lu_RVi lu_sn) (K86 v2 m) 86 [(1, .int a1), (2, .int v2)] [] ρ 0 0 [] m) : ∀ (v2 : Int32) (v3 : Int32) (m : lu_M), lu_Ab lu_TC G (lu_Q lu_TC G ρ lu_RVi lu_sn) (f11_span_b80 K15 K86 a1 v2 v3 m) 80 [(0, .ref (ρ 0)), (1, .int a1), (2, .int v2), (3, .int v3)] [] ρ 0 0 [] m := by
  intro v2 v3 m
  unfold f11_span_b80
  refine lu_iinc (lv2 := [(3, .int (v3 + (1 : Int32))), (0, .ref (ρ 0)), (1, .int a1), (2, .int v2)]) X dX11_span_80 (pc2 := 83) rfl 3 rfl (lu_ii _ ic_1) (by decide) rfl ?_
  refine lu_goto (tgt := 15) X dX11_span_83 (by decide) ?_
  exact lu_sub [1, 2, 3, 0] rfl (hK15 v2 (v3 + (1 : Int32)) m)
def f11_span_b15B (K49 : Nat → lu_M → Option (Int32 × lu_M)) (K60 : Nat → lu_M → Option (Int32 × lu_M)) (K71 : Nat → lu_M → Option (Int32 × lu_M)) (K86 : Int32 → lu_M → Option (Int32 × lu_M)) (rec : Int32 → Int32 → lu_M → Option (Int32 × lu_M)) (a1 : Int32) (v2 : Int32) (v3 : Int32) (m : lu_M) : Option (Int32 × lu_M) :=
  if (405 : Int32) ≤ v3 then (K86 v2 m)
  else (lu_bi (f11_stranger v3 m) fun x3 m4 =>
  lu_gd (decide (lu_TC.2 x3 = (10, 0, 0) ∧ x3 < lu_TC.1)) <|
  lu_bi (f10_wrongReports 1 x3 m4) fun x6 m7 =>
  if x6 = 0 then (if a1 = (1 : Int32) then (K49 x3 m7)
  else (if a1 = (2 : Int32) then (K60 x3 m7)
  else (if a1 = (3 : Int32) then (K71 x3 m7)
  else (f11_span_b80 rec K86 a1 (v2 + (1 : Int32)) v3 m7))))
  else (f11_span_b80 rec K86 a1 v2 v3 m7))
def f11_span_b15 (K49 : Nat → lu_M → Option (Int32 × lu_M)) (K60 : Nat → lu_M → Option (Int32 × lu_M)) (K71 : Nat → lu_M → Option (Int32 × lu_M)) (K86 : Int32 → lu_M → Option (Int32 × lu_M)) (a1 : Int32) : Nat → Int32 → Int32 → lu_M → Option (Int32 × lu_M)
  | 0, _, _, _ => none
  | n + 1, v2, v3, m => f11_span_b15B K49 K60 K71 K86 (f11_span_b15 K49 K60 K71 K86 a1 n) a1 v2 v3 m
set_option maxRecDepth 20000 in
theorem w11_span_b15B  {G : lu_G} {ρ : Nat → Nat} {a1 : Int32} {K49 : Nat → lu_M → Option (Int32 × lu_M)} {K60 : Nat → lu_M → Option (Int32 × lu_M)} {K71 : Nat → lu_M → Option (Int32 × lu_M)} {K86 : Int32 → lu_M → Option (Int32 × lu_M)} {rec : Int32 → Int32 → lu_M → Option (Int32 × lu_M)} (X : lu_X G RX11 cX11_span 5 5 111) (hret : (lu_me G).sig.returnType = (some .int))  (hK49 : ∀ (v4 : Nat) (m : lu_M), lu_TC.2 v4 = (10, 0, 0) → v4 < lu_TC.1 → lu_Ab lu_TC G (lu_Q lu_TC G ρ lu_RVi lu_sn) (K49 v4 m) 49 [(4, .ref (ρ v4))] [] ρ 0 0 [] m) (hK60 : ∀ (v4 : Nat) (m : lu_M), lu_TC.2 v4 = (10, 0, 0) → v4 < lu_TC.1 → lu_Ab lu_TC G (lu_Q lu_TC G ρ lu_RVi lu_sn) (K60 v4 m) 60 [(4, .ref (ρ v4))] [] ρ 0 0 [] m) (hK71 : ∀ (v4 : Nat) (m : lu_M), lu_TC.2 v4 = (10, 0, 0) → v4 < lu_TC.1 → lu_Ab lu_TC G (lu_Q lu_TC G ρ lu_RVi lu_sn) (K71 v4 m) 71 [(4, .ref (ρ v4))] [] ρ 0 0 [] m) (hK86 : ∀ (v2 : Int32) (m : lu_M), lu_Ab lu_TC G (lu_Q lu_TC G ρ lu_RVi lu_sn) (K86 v2 m) 86 [(1, .int a1), (2, .int v2)] [] ρ 0 0 [] m) (hrec : ∀ (v2 : Int32) (v3 : Int32) (m : lu_M), lu_Ab lu_TC G (lu_Q lu_TC G ρ lu_RVi lu_sn) (rec v2 v3 m) 15 [(0, .ref (ρ 0)), (1, .int a1), (2, .int v2), (3, .int v3)] [] ρ 0 0 [] m) : ∀ (v2 : Int32) (v3 : Int32) (m : lu_M), lu_Ab lu_TC G (lu_Q lu_TC G ρ lu_RVi lu_sn) (f11_span_b15B K49 K60 K71 K86 rec a1 v2 v3 m) 15 [(0, .ref (ρ 0)), (1, .int a1), (2, .int v2), (3, .int v3)] [] ρ 0 0 [] m := by
  intro v2 v3 m
  unfold f11_span_b15B
  refine lu_iload_n X dX11_span_15 (pc2 := 16) rfl rfl 3 rfl ?_
  refine lu_sipush X dX11_span_16 (pc2 := 19) rfl sp_405 ?_
  refine lu_icmp_ge (tgt := 86) X dX11_span_19 (pc2 := 22) rfl (by decide) (fun _ => ?_) (fun _ => ?_)
  · exact lu_sub [1, 2] rfl (hK86 v2 m)
  · refine lu_aload_n X dX11_span_22 (pc2 := 23) rfl rfl 0 rfl ?_
    refine lu_iload_n X dX11_span_23 (pc2 := 24) rfl rfl 3 rfl ?_
    refine lu_invVr X (c11_stranger _ v3) rfl q901 mvV_11_stranger kC_0 lC_0 (by decide) ⟨_, rfl, rfl⟩ rfl rfl (Nat.le_of_ble_eq_true rfl) (Nat.le_of_ble_eq_true rfl) (Nat.le_of_ble_eq_true rfl) ⟨Nat.zero_le _, Nat.zero_le _⟩ dX11_span_24 (pc2 := 27) rfl rfl (fun x3 m4 => ?_)
    refine lu_gdr (fun g5 => ?_)
    refine lu_astore (lv2 := [(4, .ref (ρ x3)), (0, .ref (ρ 0)), (1, .int a1), (2, .int v2), (3, .int v3)]) X dX11_span_27 (pc2 := 29) rfl (by decide) rfl ?_
    refine lu_aload_n X dX11_span_29 (pc2 := 30) rfl rfl 1 rfl ?_
    refine lu_getr (r2 := 1) X rfl fl11_18 rfl kC_0 lC_0 dX11_span_30 (pc2 := 33) rfl ?_
    refine lu_aload X dX11_span_33 (pc2 := 35) rfl 0 rfl ?_
    refine lu_invVi X (c10_wrongReports _ kC_1 lC_1 ((of_decide_eq_true g5).1) ((of_decide_eq_true g5).2)) rfl q905 mvV_10_wrongReports kC_1 lC_1 (by decide) ⟨_, rfl, rfl⟩ rfl rfl (Nat.le_of_ble_eq_true rfl) (Nat.le_of_ble_eq_true rfl) (Nat.le_of_ble_eq_true rfl) ⟨Nat.zero_le _, Nat.zero_le _⟩ dX11_span_35 (pc2 := 38) rfl rfl (fun x6 m7 => ?_)
    refine lu_if_eq (tgt := 44) X dX11_span_38 (pc2 := 41) rfl (by decide) (fun _ => ?_) (fun _ => ?_)
    · refine lu_iload_n X dX11_span_44 (pc2 := 45) rfl rfl 2 rfl ?_
      refine lu_iconst X dX11_span_45 (pc2 := 46) rfl ic_1 ?_
      refine lu_icmp_ne (tgt := 55) X dX11_span_46 (pc2 := 49) rfl (by decide) (fun _ => ?_) (fun _ => ?_)
      · refine lu_iload_n X dX11_span_55 (pc2 := 56) rfl rfl 2 rfl ?_
        refine lu_iconst X dX11_span_56 (pc2 := 57) rfl ic_2 ?_
        refine lu_icmp_ne (tgt := 66) X dX11_span_57 (pc2 := 60) rfl (by decide) (fun _ => ?_) (fun _ => ?_)
        · refine lu_iload_n X dX11_span_66 (pc2 := 67) rfl rfl 2 rfl ?_
          refine lu_iconst X dX11_span_67 (pc2 := 68) rfl ic_3 ?_
          refine lu_icmp_ne (tgt := 77) X dX11_span_68 (pc2 := 71) rfl (by decide) (fun _ => ?_) (fun _ => ?_)
          · refine lu_iinc (lv2 := [(2, .int (v2 + (1 : Int32))), (4, .ref (ρ x3)), (0, .ref (ρ 0)), (1, .int a1), (3, .int v3)]) X dX11_span_77 (pc2 := 80) rfl 3 rfl (lu_ii _ ic_1) (by decide) rfl ?_
            exact lu_sub [2, 3, 0, 4] rfl (w11_span_b80 X hret hrec hK86 (v2 + (1 : Int32)) v3 m7)
          · exact lu_sub [0] rfl (hK71 x3 m7 ((of_decide_eq_true g5).1) ((of_decide_eq_true g5).2))
        · exact lu_sub [0] rfl (hK60 x3 m7 ((of_decide_eq_true g5).1) ((of_decide_eq_true g5).2))
      · exact lu_sub [0] rfl (hK49 x3 m7 ((of_decide_eq_true g5).1) ((of_decide_eq_true g5).2))
    · refine lu_goto (tgt := 80) X dX11_span_41 (by decide) ?_
      exact lu_sub [1, 2, 3, 4] rfl (w11_span_b80 X hret hrec hK86 v2 v3 m7)
theorem w11_span_b15  {G : lu_G} {ρ : Nat → Nat} {a1 : Int32} {K49 : Nat → lu_M → Option (Int32 × lu_M)} {K60 : Nat → lu_M → Option (Int32 × lu_M)} {K71 : Nat → lu_M → Option (Int32 × lu_M)} {K86 : Int32 → lu_M → Option (Int32 × lu_M)} (X : lu_X G RX11 cX11_span 5 5 111) (hret : (lu_me G).sig.returnType = (some .int))  (hK49 : ∀ (v4 : Nat) (m : lu_M), lu_TC.2 v4 = (10, 0, 0) → v4 < lu_TC.1 → lu_Ab lu_TC G (lu_Q lu_TC G ρ lu_RVi lu_sn) (K49 v4 m) 49 [(4, .ref (ρ v4))] [] ρ 0 0 [] m) (hK60 : ∀ (v4 : Nat) (m : lu_M), lu_TC.2 v4 = (10, 0, 0) → v4 < lu_TC.1 → lu_Ab lu_TC G (lu_Q lu_TC G ρ lu_RVi lu_sn) (K60 v4 m) 60 [(4, .ref (ρ v4))] [] ρ 0 0 [] m) (hK71 : ∀ (v4 : Nat) (m : lu_M), lu_TC.2 v4 = (10, 0, 0) → v4 < lu_TC.1 → lu_Ab lu_TC G (lu_Q lu_TC G ρ lu_RVi lu_sn) (K71 v4 m) 71 [(4, .ref (ρ v4))] [] ρ 0 0 [] m) (hK86 : ∀ (v2 : Int32) (m : lu_M), lu_Ab lu_TC G (lu_Q lu_TC G ρ lu_RVi lu_sn) (K86 v2 m) 86 [(1, .int a1), (2, .int v2)] [] ρ 0 0 [] m) : ∀ (n : Nat) (v2 : Int32) (v3 : Int32) (m : lu_M), lu_Ab lu_TC G (lu_Q lu_TC G ρ lu_RVi lu_sn) (f11_span_b15 K49 K60 K71 K86 a1 n v2 v3 m) 15 [(0, .ref (ρ 0)), (1, .int a1), (2, .int v2), (3, .int v3)] [] ρ 0 0 [] m := by
  intro n
  induction n with
  | zero => intro v2 v3 m; exact lu_none
  | succ n ih => intro v2 v3 m; exact w11_span_b15B X hret hK49 hK60 hK71 hK86 ih v2 v3 m
def f11_span_b49  (a1 : Int32) (v4 : Nat) (m : lu_M) : Option (Int32 × lu_M) :=
  some ((m v4 0), m)
set_option maxRecDepth 20000 in
theorem w11_span_b49  {G : lu_G} {ρ : Nat → Nat} {a1 : Int32}  (X : lu_X G RX11 cX11_span 5 5 111) (hret : (lu_me G).sig.returnType = (some .int))   : ∀ (v4 : Nat) (m : lu_M), lu_TC.2 v4 = (10, 0, 0) → v4 < lu_TC.1 → lu_Ab lu_TC G (lu_Q lu_TC G ρ lu_RVi lu_sn) (f11_span_b49 a1 v4 m) 49 [(4, .ref (ρ v4))] [] ρ 0 0 [] m := by
  intro v4 m hT_v4 hr_v4
  unfold f11_span_b49
  refine lu_aload X dX11_span_49 (pc2 := 51) rfl 0 rfl ?_
  refine lu_get X fl11_106 rfl hT_v4 hr_v4 dX11_span_51 (pc2 := 54) rfl ?_
  exact lu_iret X hret dX11_span_54
def f11_span_b60  (a1 : Int32) (v4 : Nat) (m : lu_M) : Option (Int32 × lu_M) :=
  some ((m v4 2), m)
set_option maxRecDepth 20000 in
theorem w11_span_b60  {G : lu_G} {ρ : Nat → Nat} {a1 : Int32}  (X : lu_X G RX11 cX11_span 5 5 111) (hret : (lu_me G).sig.returnType = (some .int))   : ∀ (v4 : Nat) (m : lu_M), lu_TC.2 v4 = (10, 0, 0) → v4 < lu_TC.1 → lu_Ab lu_TC G (lu_Q lu_TC G ρ lu_RVi lu_sn) (f11_span_b60 a1 v4 m) 60 [(4, .ref (ρ v4))] [] ρ 0 0 [] m := by
  intro v4 m hT_v4 hr_v4
  unfold f11_span_b60
  refine lu_aload X dX11_span_60 (pc2 := 62) rfl 0 rfl ?_
  refine lu_get X fl11_109 rfl hT_v4 hr_v4 dX11_span_62 (pc2 := 65) rfl ?_
  exact lu_iret X hret dX11_span_65
def f11_span_b71  (a1 : Int32) (v4 : Nat) (m : lu_M) : Option (Int32 × lu_M) :=
  some ((m v4 3), m)
set_option maxRecDepth 20000 in
theorem w11_span_b71  {G : lu_G} {ρ : Nat → Nat} {a1 : Int32}  (X : lu_X G RX11 cX11_span 5 5 111) (hret : (lu_me G).sig.returnType = (some .int))   : ∀ (v4 : Nat) (m : lu_M), lu_TC.2 v4 = (10, 0, 0) → v4 < lu_TC.1 → lu_Ab lu_TC G (lu_Q lu_TC G ρ lu_RVi lu_sn) (f11_span_b71 a1 v4 m) 71 [(4, .ref (ρ v4))] [] ρ 0 0 [] m := by
  intro v4 m hT_v4 hr_v4
  unfold f11_span_b71
  refine lu_aload X dX11_span_71 (pc2 := 73) rfl 0 rfl ?_
  refine lu_get X fl11_112 rfl hT_v4 hr_v4 dX11_span_73 (pc2 := 76) rfl ?_
  exact lu_iret X hret dX11_span_76
def f11_span_b96  (a1 : Int32) (s0 : Int32) (m : lu_M) : Option (Int32 × lu_M) :=
  some (s0, m)
set_option maxRecDepth 20000 in
theorem w11_span_b96  {G : lu_G} {ρ : Nat → Nat} {a1 : Int32}  (X : lu_X G RX11 cX11_span 5 5 111) (hret : (lu_me G).sig.returnType = (some .int))   : ∀ (s0 : Int32) (m : lu_M), lu_Ab lu_TC G (lu_Q lu_TC G ρ lu_RVi lu_sn) (f11_span_b96 a1 s0 m) 96 [] [.int s0] ρ 0 0 [] m := by
  intro s0 m
  unfold f11_span_b96
  exact lu_iret X hret dX11_span_96
def f11_span_b86  (a1 : Int32) (v2 : Int32) (m : lu_M) : Option (Int32 × lu_M) :=
  if a1 = 0 then (f11_span_b96 a1 v2 m)
  else (f11_span_b96 a1 (-3 : Int32) m)
set_option maxRecDepth 20000 in
theorem w11_span_b86  {G : lu_G} {ρ : Nat → Nat} {a1 : Int32}  (X : lu_X G RX11 cX11_span 5 5 111) (hret : (lu_me G).sig.returnType = (some .int))   : ∀ (v2 : Int32) (m : lu_M), lu_Ab lu_TC G (lu_Q lu_TC G ρ lu_RVi lu_sn) (f11_span_b86 a1 v2 m) 86 [(1, .int a1), (2, .int v2)] [] ρ 0 0 [] m := by
  intro v2 m
  unfold f11_span_b86
  refine lu_iload_n X dX11_span_86 (pc2 := 87) rfl rfl 0 rfl ?_
  refine lu_if_ne (tgt := 94) X dX11_span_87 (pc2 := 90) rfl (by decide) (fun _ => ?_) (fun _ => ?_)
  · refine lu_bipush X dX11_span_94 (pc2 := 96) rfl bp_m3 ?_
    exact lu_sub [] rfl (w11_span_b96 X hret (-3 : Int32) m)
  · refine lu_iload_n X dX11_span_90 (pc2 := 91) rfl rfl 1 rfl ?_
    refine lu_goto (tgt := 96) X dX11_span_91 (by decide) ?_
    exact lu_sub [] rfl (w11_span_b96 X hret v2 m)
def f11_span (a1 : Int32) (m : lu_M) : Option (Int32 × lu_M) :=
  lu_bi (f11_isWithin a1 (0 : Int32) (3 : Int32) m) fun x1 m2 =>
  if x1 = 0 then (some ((-1 : Int32), m2))
  else (f11_span_b15 (f11_span_b49 a1) (f11_span_b60 a1) (f11_span_b71 a1) (f11_span_b86 a1) a1 lu_fu (0 : Int32) (0 : Int32) m2)
set_option maxRecDepth 20000 in
theorem c11_span (l : Launch)   (a1 : Int32) : lu_C lu_TC l yX11_span cX11_span 5 (some .int) 5 111 (fun ρ sa => [.ref (ρ 0), .int a1]) (f11_span a1) lu_RVi lu_sn := by
  refine lu_met (cls := RX11) rfl (by decide +kernel) (fun _ _ => Nat.le_of_ble_eq_true rfl) ?_
  intro G ρ m hl X hret
  subst hl
  change lu_Ab lu_TC G (lu_Q lu_TC G ρ lu_RVi lu_sn) (f11_span a1 m) 0 [(0, .ref (ρ 0)), (1, .int a1)] [] ρ 0 0 [] m
  unfold f11_span
  refine lu_iload_n X dX11_span_0 (pc2 := 1) rfl rfl 1 rfl ?_
  refine lu_iconst X dX11_span_1 (pc2 := 2) rfl ic_0 ?_
  refine lu_iconst X dX11_span_2 (pc2 := 3) rfl ic_3 ?_
  refine lu_invSi X (c11_isWithin _ a1 (0 : Int32) (3 : Int32)) rfl q433 mvS_11_isWithin rfl rfl (Nat.le_of_ble_eq_true rfl) (Nat.le_of_ble_eq_true rfl) (Nat.le_of_ble_eq_true rfl) ⟨Nat.zero_le _, Nat.zero_le _⟩ dX11_span_3 (pc2 := 6) rfl rfl (fun x1 m2 => ?_)
  refine lu_if_ne (tgt := 11) X dX11_span_6 (pc2 := 9) rfl (by decide) (fun _ => ?_) (fun _ => ?_)
  · refine lu_iconst X dX11_span_11 (pc2 := 12) rfl ic_0 ?_
    refine lu_istore_n (lv2 := [(2, .int (0 : Int32)), (0, .ref (ρ 0)), (1, .int a1)]) X dX11_span_12 (pc2 := 13) rfl rfl (by decide) rfl ?_
    refine lu_iconst X dX11_span_13 (pc2 := 14) rfl ic_0 ?_
    refine lu_istore_n (lv2 := [(3, .int (0 : Int32)), (2, .int (0 : Int32)), (0, .ref (ρ 0)), (1, .int a1)]) X dX11_span_14 (pc2 := 15) rfl rfl (by decide) rfl ?_
    exact lu_sub [2, 3, 1, 0] rfl (w11_span_b15 X hret (w11_span_b49 X hret) (w11_span_b60 X hret) (w11_span_b71 X hret) (w11_span_b86 X hret) lu_fu (0 : Int32) (0 : Int32) m2)
  · refine lu_iconst X dX11_span_9 (pc2 := 10) rfl ic_m1 ?_
    exact lu_iret X hret dX11_span_10

theorem dX11_liar_0 : decode cX11_liar 0 = .ok (.bipush 6, 2) := by decide +kernel
theorem dX11_liar_2 : decode cX11_liar 2 = .ok (.istore_n 1, 1) := by decide +kernel
theorem dX11_liar_3 : decode cX11_liar 3 = .ok (.iconst 0, 1) := by decide +kernel
theorem dX11_liar_4 : decode cX11_liar 4 = .ok (.istore_n 2, 1) := by decide +kernel
theorem dX11_liar_5 : decode cX11_liar 5 = .ok (.iload_n 2, 1) := by decide +kernel
theorem dX11_liar_6 : decode cX11_liar 6 = .ok (.sipush 405, 3) := by decide +kernel
theorem dX11_liar_9 : decode cX11_liar 9 = .ok (.if_icmp .ge 55, 3) := by decide +kernel
theorem dX11_liar_12 : decode cX11_liar 12 = .ok (.aload_n 0, 1) := by decide +kernel
theorem dX11_liar_13 : decode cX11_liar 13 = .ok (.getfield 18, 3) := by decide +kernel
theorem dX11_liar_16 : decode cX11_liar 16 = .ok (.aload_n 0, 1) := by decide +kernel
theorem dX11_liar_17 : decode cX11_liar 17 = .ok (.iload_n 2, 1) := by decide +kernel
theorem dX11_liar_18 : decode cX11_liar 18 = .ok (.invokevirtual 273, 3) := by decide +kernel
theorem dX11_liar_21 : decode cX11_liar 21 = .ok (.invokevirtual 277, 3) := by decide +kernel
theorem dX11_liar_24 : decode cX11_liar 24 = .ok (.istore_n 3, 1) := by decide +kernel
theorem dX11_liar_25 : decode cX11_liar 25 = .ok (.iload_n 3, 1) := by decide +kernel
theorem dX11_liar_26 : decode cX11_liar 26 = .ok (.ifCond .ne 6, 3) := by decide +kernel
theorem dX11_liar_29 : decode cX11_liar 29 = .ok (.bipush (-3), 2) := by decide +kernel
theorem dX11_liar_31 : decode cX11_liar 31 = .ok (.ireturn, 1) := by decide +kernel
theorem dX11_liar_32 : decode cX11_liar 32 = .ok (.iconst 0, 1) := by decide +kernel
theorem dX11_liar_33 : decode cX11_liar 33 = .ok (.istore 4, 2) := by decide +kernel
theorem dX11_liar_35 : decode cX11_liar 35 = .ok (.iload 4, 2) := by decide +kernel
theorem dX11_liar_37 : decode cX11_liar 37 = .ok (.iload_n 1, 1) := by decide +kernel
theorem dX11_liar_38 : decode cX11_liar 38 = .ok (.if_icmp .ge 20, 3) := by decide +kernel
theorem dX11_liar_41 : decode cX11_liar 41 = .ok (.iload_n 3, 1) := by decide +kernel
theorem dX11_liar_42 : decode cX11_liar 42 = .ok (.iconst 1, 1) := by decide +kernel
theorem dX11_liar_43 : decode cX11_liar 43 = .ok (.iload 4, 2) := by decide +kernel
theorem dX11_liar_45 : decode cX11_liar 45 = .ok (.ishl, 1) := by decide +kernel
theorem dX11_liar_46 : decode cX11_liar 46 = .ok (.if_icmp .ne 6, 3) := by decide +kernel
theorem dX11_liar_49 : decode cX11_liar 49 = .ok (.iload 4, 2) := by decide +kernel
theorem dX11_liar_51 : decode cX11_liar 51 = .ok (.istore_n 1, 1) := by decide +kernel
theorem dX11_liar_52 : decode cX11_liar 52 = .ok (.iinc 4 1, 3) := by decide +kernel
theorem dX11_liar_55 : decode cX11_liar 55 = .ok (.goto (-20), 3) := by decide +kernel
theorem dX11_liar_58 : decode cX11_liar 58 = .ok (.iinc 2 1, 3) := by decide +kernel
theorem dX11_liar_61 : decode cX11_liar 61 = .ok (.goto (-56), 3) := by decide +kernel
theorem dX11_liar_64 : decode cX11_liar 64 = .ok (.iload_n 1, 1) := by decide +kernel
theorem dX11_liar_65 : decode cX11_liar 65 = .ok (.bipush 6, 2) := by decide +kernel
theorem dX11_liar_67 : decode cX11_liar 67 = .ok (.if_icmp .ge 7, 3) := by decide +kernel
theorem dX11_liar_70 : decode cX11_liar 70 = .ok (.iload_n 1, 1) := by decide +kernel
theorem dX11_liar_71 : decode cX11_liar 71 = .ok (.goto 5, 3) := by decide +kernel
theorem dX11_liar_74 : decode cX11_liar 74 = .ok (.bipush (-3), 2) := by decide +kernel
theorem dX11_liar_76 : decode cX11_liar 76 = .ok (.ireturn, 1) := by decide +kernel
def f11_liar_b52 (K35 : Int32 → Int32 → Int32 → Int32 → lu_M → Option (Int32 × lu_M)) (K58 : Int32 → Int32 → lu_M → Option (Int32 × lu_M))  (v1 : Int32) (v2 : Int32) (v3 : Int32) (v4 : Int32) (m : lu_M) : Option (Int32 × lu_M) :=
  K35 v1 v2 v3 (v4 + (1 : Int32)) m
set_option maxRecDepth 20000 in
theorem w11_liar_b52  {G : lu_G} {ρ : Nat → Nat}  {K35 : Int32 → Int32 → Int32 → Int32 → lu_M → Option (Int32 × lu_M)} {K58 : Int32 → Int32 → lu_M → Option (Int32 × lu_M)} (X : lu_X G RX11 cX11_liar 5 5 111) (hret : (lu_me G).sig.returnType = (some .int))  (hK35 : ∀ (v1 : Int32) (v2 : Int32) (v3 : Int32) (v4 : Int32) (m : lu_M), lu_Ab lu_TC G (lu_Q lu_TC G ρ lu_RVi lu_sn) (K35 v1 v2 v3 v4 m) 35 [(0, .ref (ρ 0)), (1, .int v1), (2, .int v2), (3, .int v3), (4, .int v4)] [] ρ 0 0 [] m) (hK58 : ∀ (v1 : Int32) (v2 : Int32) (m : lu_M), lu_Ab lu_TC G (lu_Q lu_TC G ρ lu_RVi lu_sn) (K58 v1 v2 m) 58 [(0, .ref (ρ 0)), (1, .int v1), (2, .int v2)] [] ρ 0 0 [] m) : ∀ (v1 : Int32) (v2 : Int32) (v3 : Int32) (v4 : Int32) (m : lu_M), lu_Ab lu_TC G (lu_Q lu_TC G ρ lu_RVi lu_sn) (f11_liar_b52 K35 K58 v1 v2 v3 v4 m) 52 [(0, .ref (ρ 0)), (1, .int v1), (2, .int v2), (3, .int v3), (4, .int v4)] [] ρ 0 0 [] m := by
  intro v1 v2 v3 v4 m
  unfold f11_liar_b52
  refine lu_iinc (lv2 := [(4, .int (v4 + (1 : Int32))), (0, .ref (ρ 0)), (1, .int v1), (2, .int v2), (3, .int v3)]) X dX11_liar_52 (pc2 := 55) rfl 4 rfl (lu_ii _ ic_1) (by decide) rfl ?_
  refine lu_goto (tgt := 35) X dX11_liar_55 (by decide) ?_
  exact lu_sub [1, 2, 3, 4, 0] rfl (hK35 v1 v2 v3 (v4 + (1 : Int32)) m)
def f11_liar_b35B (K58 : Int32 → Int32 → lu_M → Option (Int32 × lu_M)) (rec : Int32 → Int32 → Int32 → Int32 → lu_M → Option (Int32 × lu_M))  (v1 : Int32) (v2 : Int32) (v3 : Int32) (v4 : Int32) (m : lu_M) : Option (Int32 × lu_M) :=
  if v1 ≤ v4 then (K58 v1 v2 m)
  else (if v3 = ((1 : Int32) <<< (v4 &&& 31)) then (f11_liar_b52 rec K58 v4 v2 v3 v4 m)
  else (f11_liar_b52 rec K58 v1 v2 v3 v4 m))
def f11_liar_b35 (K58 : Int32 → Int32 → lu_M → Option (Int32 × lu_M))  : Nat → Int32 → Int32 → Int32 → Int32 → lu_M → Option (Int32 × lu_M)
  | 0, _, _, _, _, _ => none
  | n + 1, v1, v2, v3, v4, m => f11_liar_b35B K58 (f11_liar_b35 K58 n) v1 v2 v3 v4 m
set_option maxRecDepth 20000 in
theorem w11_liar_b35B  {G : lu_G} {ρ : Nat → Nat}  {K58 : Int32 → Int32 → lu_M → Option (Int32 × lu_M)} {rec : Int32 → Int32 → Int32 → Int32 → lu_M → Option (Int32 × lu_M)} (X : lu_X G RX11 cX11_liar 5 5 111) (hret : (lu_me G).sig.returnType = (some .int))  (hK58 : ∀ (v1 : Int32) (v2 : Int32) (m : lu_M), lu_Ab lu_TC G (lu_Q lu_TC G ρ lu_RVi lu_sn) (K58 v1 v2 m) 58 [(0, .ref (ρ 0)), (1, .int v1), (2, .int v2)] [] ρ 0 0 [] m) (hrec : ∀ (v1 : Int32) (v2 : Int32) (v3 : Int32) (v4 : Int32) (m : lu_M), lu_Ab lu_TC G (lu_Q lu_TC G ρ lu_RVi lu_sn) (rec v1 v2 v3 v4 m) 35 [(0, .ref (ρ 0)), (1, .int v1), (2, .int v2), (3, .int v3), (4, .int v4)] [] ρ 0 0 [] m) : ∀ (v1 : Int32) (v2 : Int32) (v3 : Int32) (v4 : Int32) (m : lu_M), lu_Ab lu_TC G (lu_Q lu_TC G ρ lu_RVi lu_sn) (f11_liar_b35B K58 rec v1 v2 v3 v4 m) 35 [(0, .ref (ρ 0)), (1, .int v1), (2, .int v2), (3, .int v3), (4, .int v4)] [] ρ 0 0 [] m := by
  intro v1 v2 v3 v4 m
  unfold f11_liar_b35B
  refine lu_iload X dX11_liar_35 (pc2 := 37) rfl 4 rfl ?_
  refine lu_iload_n X dX11_liar_37 (pc2 := 38) rfl rfl 1 rfl ?_
  refine lu_icmp_ge (tgt := 58) X dX11_liar_38 (pc2 := 41) rfl (by decide) (fun _ => ?_) (fun _ => ?_)
  · exact lu_sub [0, 1, 2] rfl (hK58 v1 v2 m)
  · refine lu_iload_n X dX11_liar_41 (pc2 := 42) rfl rfl 3 rfl ?_
    refine lu_iconst X dX11_liar_42 (pc2 := 43) rfl ic_1 ?_
    refine lu_iload X dX11_liar_43 (pc2 := 45) rfl 4 rfl ?_
    refine lu_ishl X dX11_liar_45 (pc2 := 46) rfl ?_
    refine lu_icmp_ne (tgt := 52) X dX11_liar_46 (pc2 := 49) rfl (by decide) (fun _ => ?_) (fun _ => ?_)
    · exact w11_liar_b52 X hret hrec hK58 v1 v2 v3 v4 m
    · refine lu_iload X dX11_liar_49 (pc2 := 51) rfl 4 rfl ?_
      refine lu_istore_n (lv2 := [(1, .int v4), (0, .ref (ρ 0)), (2, .int v2), (3, .int v3), (4, .int v4)]) X dX11_liar_51 (pc2 := 52) rfl rfl (by decide) rfl ?_
      exact lu_sub [1, 0, 2, 3, 4] rfl (w11_liar_b52 X hret hrec hK58 v4 v2 v3 v4 m)
theorem w11_liar_b35  {G : lu_G} {ρ : Nat → Nat}  {K58 : Int32 → Int32 → lu_M → Option (Int32 × lu_M)} (X : lu_X G RX11 cX11_liar 5 5 111) (hret : (lu_me G).sig.returnType = (some .int))  (hK58 : ∀ (v1 : Int32) (v2 : Int32) (m : lu_M), lu_Ab lu_TC G (lu_Q lu_TC G ρ lu_RVi lu_sn) (K58 v1 v2 m) 58 [(0, .ref (ρ 0)), (1, .int v1), (2, .int v2)] [] ρ 0 0 [] m) : ∀ (n : Nat) (v1 : Int32) (v2 : Int32) (v3 : Int32) (v4 : Int32) (m : lu_M), lu_Ab lu_TC G (lu_Q lu_TC G ρ lu_RVi lu_sn) (f11_liar_b35 K58 n v1 v2 v3 v4 m) 35 [(0, .ref (ρ 0)), (1, .int v1), (2, .int v2), (3, .int v3), (4, .int v4)] [] ρ 0 0 [] m := by
  intro n
  induction n with
  | zero => intro v1 v2 v3 v4 m; exact lu_none
  | succ n ih => intro v1 v2 v3 v4 m; exact w11_liar_b35B X hret hK58 ih v1 v2 v3 v4 m
def f11_liar_b58 (K5 : Int32 → Int32 → lu_M → Option (Int32 × lu_M)) (K64 : Int32 → lu_M → Option (Int32 × lu_M))  (v1 : Int32) (v2 : Int32) (m : lu_M) : Option (Int32 × lu_M) :=
  K5 v1 (v2 + (1 : Int32)) m
set_option maxRecDepth 20000 in
theorem w11_liar_b58  {G : lu_G} {ρ : Nat → Nat}  {K5 : Int32 → Int32 → lu_M → Option (Int32 × lu_M)} {K64 : Int32 → lu_M → Option (Int32 × lu_M)} (X : lu_X G RX11 cX11_liar 5 5 111) (hret : (lu_me G).sig.returnType = (some .int))  (hK5 : ∀ (v1 : Int32) (v2 : Int32) (m : lu_M), lu_Ab lu_TC G (lu_Q lu_TC G ρ lu_RVi lu_sn) (K5 v1 v2 m) 5 [(0, .ref (ρ 0)), (1, .int v1), (2, .int v2)] [] ρ 0 0 [] m) (hK64 : ∀ (v1 : Int32) (m : lu_M), lu_Ab lu_TC G (lu_Q lu_TC G ρ lu_RVi lu_sn) (K64 v1 m) 64 [(1, .int v1)] [] ρ 0 0 [] m) : ∀ (v1 : Int32) (v2 : Int32) (m : lu_M), lu_Ab lu_TC G (lu_Q lu_TC G ρ lu_RVi lu_sn) (f11_liar_b58 K5 K64 v1 v2 m) 58 [(0, .ref (ρ 0)), (1, .int v1), (2, .int v2)] [] ρ 0 0 [] m := by
  intro v1 v2 m
  unfold f11_liar_b58
  refine lu_iinc (lv2 := [(2, .int (v2 + (1 : Int32))), (0, .ref (ρ 0)), (1, .int v1)]) X dX11_liar_58 (pc2 := 61) rfl 2 rfl (lu_ii _ ic_1) (by decide) rfl ?_
  refine lu_goto (tgt := 5) X dX11_liar_61 (by decide) ?_
  exact lu_sub [1, 2, 0] rfl (hK5 v1 (v2 + (1 : Int32)) m)
def f11_liar_b5B (K29 : lu_M → Option (Int32 × lu_M)) (K64 : Int32 → lu_M → Option (Int32 × lu_M)) (rec : Int32 → Int32 → lu_M → Option (Int32 × lu_M))  (v1 : Int32) (v2 : Int32) (m : lu_M) : Option (Int32 × lu_M) :=
  if (405 : Int32) ≤ v2 then (K64 v1 m)
  else (lu_bi (f11_stranger v2 m) fun x1 m2 =>
  lu_gd (decide (lu_TC.2 x1 = (10, 0, 0) ∧ x1 < lu_TC.1)) <|
  lu_bi (f10_wrongReports 1 x1 m2) fun x4 m5 =>
  if x4 = 0 then (K29 m5)
  else (f11_liar_b35 (f11_liar_b58 rec K64) lu_fu v1 v2 x4 (0 : Int32) m5))
def f11_liar_b5 (K29 : lu_M → Option (Int32 × lu_M)) (K64 : Int32 → lu_M → Option (Int32 × lu_M))  : Nat → Int32 → Int32 → lu_M → Option (Int32 × lu_M)
  | 0, _, _, _ => none
  | n + 1, v1, v2, m => f11_liar_b5B K29 K64 (f11_liar_b5 K29 K64 n) v1 v2 m
set_option maxRecDepth 20000 in
theorem w11_liar_b5B  {G : lu_G} {ρ : Nat → Nat}  {K29 : lu_M → Option (Int32 × lu_M)} {K64 : Int32 → lu_M → Option (Int32 × lu_M)} {rec : Int32 → Int32 → lu_M → Option (Int32 × lu_M)} (X : lu_X G RX11 cX11_liar 5 5 111) (hret : (lu_me G).sig.returnType = (some .int))  (hK29 : ∀  (m : lu_M), lu_Ab lu_TC G (lu_Q lu_TC G ρ lu_RVi lu_sn) (K29 m) 29 [] [] ρ 0 0 [] m) (hK64 : ∀ (v1 : Int32) (m : lu_M), lu_Ab lu_TC G (lu_Q lu_TC G ρ lu_RVi lu_sn) (K64 v1 m) 64 [(1, .int v1)] [] ρ 0 0 [] m) (hrec : ∀ (v1 : Int32) (v2 : Int32) (m : lu_M), lu_Ab lu_TC G (lu_Q lu_TC G ρ lu_RVi lu_sn) (rec v1 v2 m) 5 [(0, .ref (ρ 0)), (1, .int v1), (2, .int v2)] [] ρ 0 0 [] m) : ∀ (v1 : Int32) (v2 : Int32) (m : lu_M), lu_Ab lu_TC G (lu_Q lu_TC G ρ lu_RVi lu_sn) (f11_liar_b5B K29 K64 rec v1 v2 m) 5 [(0, .ref (ρ 0)), (1, .int v1), (2, .int v2)] [] ρ 0 0 [] m := by
  intro v1 v2 m
  unfold f11_liar_b5B
  refine lu_iload_n X dX11_liar_5 (pc2 := 6) rfl rfl 2 rfl ?_
  refine lu_sipush X dX11_liar_6 (pc2 := 9) rfl sp_405 ?_
  refine lu_icmp_ge (tgt := 64) X dX11_liar_9 (pc2 := 12) rfl (by decide) (fun _ => ?_) (fun _ => ?_)
  · exact lu_sub [1] rfl (hK64 v1 m)
  · refine lu_aload_n X dX11_liar_12 (pc2 := 13) rfl rfl 0 rfl ?_
    refine lu_getr (r2 := 1) X rfl fl11_18 rfl kC_0 lC_0 dX11_liar_13 (pc2 := 16) rfl ?_
    refine lu_aload_n X dX11_liar_16 (pc2 := 17) rfl rfl 0 rfl ?_
    refine lu_iload_n X dX11_liar_17 (pc2 := 18) rfl rfl 2 rfl ?_
    refine lu_invVr X (c11_stranger _ v2) rfl q901 mvV_11_stranger kC_0 lC_0 (by decide) ⟨_, rfl, rfl⟩ rfl rfl (Nat.le_of_ble_eq_true rfl) (Nat.le_of_ble_eq_true rfl) (Nat.le_of_ble_eq_true rfl) ⟨Nat.zero_le _, Nat.zero_le _⟩ dX11_liar_18 (pc2 := 21) rfl rfl (fun x1 m2 => ?_)
    refine lu_gdr (fun g3 => ?_)
    refine lu_invVi X (c10_wrongReports _ kC_1 lC_1 ((of_decide_eq_true g3).1) ((of_decide_eq_true g3).2)) rfl q905 mvV_10_wrongReports kC_1 lC_1 (by decide) ⟨_, rfl, rfl⟩ rfl rfl (Nat.le_of_ble_eq_true rfl) (Nat.le_of_ble_eq_true rfl) (Nat.le_of_ble_eq_true rfl) ⟨Nat.zero_le _, Nat.zero_le _⟩ dX11_liar_21 (pc2 := 24) rfl rfl (fun x4 m5 => ?_)
    refine lu_istore_n (lv2 := [(3, .int x4), (0, .ref (ρ 0)), (1, .int v1), (2, .int v2)]) X dX11_liar_24 (pc2 := 25) rfl rfl (by decide) rfl ?_
    refine lu_iload_n X dX11_liar_25 (pc2 := 26) rfl rfl 0 rfl ?_
    refine lu_if_ne (tgt := 32) X dX11_liar_26 (pc2 := 29) rfl (by decide) (fun _ => ?_) (fun _ => ?_)
    · refine lu_iconst X dX11_liar_32 (pc2 := 33) rfl ic_0 ?_
      refine lu_istore (lv2 := [(4, .int (0 : Int32)), (3, .int x4), (0, .ref (ρ 0)), (1, .int v1), (2, .int v2)]) X dX11_liar_33 (pc2 := 35) rfl (by decide) rfl ?_
      exact lu_sub [2, 3, 4, 1, 0] rfl (w11_liar_b35 X hret (w11_liar_b58 X hret hrec hK64) lu_fu v1 v2 x4 (0 : Int32) m5)
    · exact lu_sub [] rfl (hK29 m5)
theorem w11_liar_b5  {G : lu_G} {ρ : Nat → Nat}  {K29 : lu_M → Option (Int32 × lu_M)} {K64 : Int32 → lu_M → Option (Int32 × lu_M)} (X : lu_X G RX11 cX11_liar 5 5 111) (hret : (lu_me G).sig.returnType = (some .int))  (hK29 : ∀  (m : lu_M), lu_Ab lu_TC G (lu_Q lu_TC G ρ lu_RVi lu_sn) (K29 m) 29 [] [] ρ 0 0 [] m) (hK64 : ∀ (v1 : Int32) (m : lu_M), lu_Ab lu_TC G (lu_Q lu_TC G ρ lu_RVi lu_sn) (K64 v1 m) 64 [(1, .int v1)] [] ρ 0 0 [] m) : ∀ (n : Nat) (v1 : Int32) (v2 : Int32) (m : lu_M), lu_Ab lu_TC G (lu_Q lu_TC G ρ lu_RVi lu_sn) (f11_liar_b5 K29 K64 n v1 v2 m) 5 [(0, .ref (ρ 0)), (1, .int v1), (2, .int v2)] [] ρ 0 0 [] m := by
  intro n
  induction n with
  | zero => intro v1 v2 m; exact lu_none
  | succ n ih => intro v1 v2 m; exact w11_liar_b5B X hret hK29 hK64 ih v1 v2 m
def f11_liar_b29    (m : lu_M) : Option (Int32 × lu_M) :=
  some ((-3 : Int32), m)
set_option maxRecDepth 20000 in
theorem w11_liar_b29  {G : lu_G} {ρ : Nat → Nat}   (X : lu_X G RX11 cX11_liar 5 5 111) (hret : (lu_me G).sig.returnType = (some .int))   : ∀  (m : lu_M), lu_Ab lu_TC G (lu_Q lu_TC G ρ lu_RVi lu_sn) (f11_liar_b29  m) 29 [] [] ρ 0 0 [] m := by
  intro  m
  unfold f11_liar_b29
  refine lu_bipush X dX11_liar_29 (pc2 := 31) rfl bp_m3 ?_
  exact lu_iret X hret dX11_liar_31
def f11_liar_b76   (s0 : Int32) (m : lu_M) : Option (Int32 × lu_M) :=
  some (s0, m)
set_option maxRecDepth 20000 in
theorem w11_liar_b76  {G : lu_G} {ρ : Nat → Nat}   (X : lu_X G RX11 cX11_liar 5 5 111) (hret : (lu_me G).sig.returnType = (some .int))   : ∀ (s0 : Int32) (m : lu_M), lu_Ab lu_TC G (lu_Q lu_TC G ρ lu_RVi lu_sn) (f11_liar_b76  s0 m) 76 [] [.int s0] ρ 0 0 [] m := by
  intro s0 m
  unfold f11_liar_b76
  exact lu_iret X hret dX11_liar_76
def f11_liar_b64   (v1 : Int32) (m : lu_M) : Option (Int32 × lu_M) :=
  if (6 : Int32) ≤ v1 then (f11_liar_b76 (-3 : Int32) m)
  else (f11_liar_b76 v1 m)
set_option maxRecDepth 20000 in
theorem w11_liar_b64  {G : lu_G} {ρ : Nat → Nat}   (X : lu_X G RX11 cX11_liar 5 5 111) (hret : (lu_me G).sig.returnType = (some .int))   : ∀ (v1 : Int32) (m : lu_M), lu_Ab lu_TC G (lu_Q lu_TC G ρ lu_RVi lu_sn) (f11_liar_b64  v1 m) 64 [(1, .int v1)] [] ρ 0 0 [] m := by
  intro v1 m
  unfold f11_liar_b64
  refine lu_iload_n X dX11_liar_64 (pc2 := 65) rfl rfl 0 rfl ?_
  refine lu_bipush X dX11_liar_65 (pc2 := 67) rfl bp_6 ?_
  refine lu_icmp_ge (tgt := 74) X dX11_liar_67 (pc2 := 70) rfl (by decide) (fun _ => ?_) (fun _ => ?_)
  · refine lu_bipush X dX11_liar_74 (pc2 := 76) rfl bp_m3 ?_
    exact lu_sub [] rfl (w11_liar_b76 X hret (-3 : Int32) m)
  · refine lu_iload_n X dX11_liar_70 (pc2 := 71) rfl rfl 0 rfl ?_
    refine lu_goto (tgt := 76) X dX11_liar_71 (by decide) ?_
    exact lu_sub [] rfl (w11_liar_b76 X hret v1 m)
def f11_liar  (m : lu_M) : Option (Int32 × lu_M) :=
  f11_liar_b5 f11_liar_b29 f11_liar_b64 lu_fu (6 : Int32) (0 : Int32) m
set_option maxRecDepth 20000 in
theorem c11_liar (l : Launch)    : lu_C lu_TC l yX11_liar cX11_liar 5 (some .int) 5 111 (fun ρ sa => [.ref (ρ 0)]) (f11_liar ) lu_RVi lu_sn := by
  refine lu_met (cls := RX11) rfl (by decide +kernel) (fun _ _ => Nat.le_of_ble_eq_true rfl) ?_
  intro G ρ m hl X hret
  subst hl
  change lu_Ab lu_TC G (lu_Q lu_TC G ρ lu_RVi lu_sn) (f11_liar  m) 0 [(0, .ref (ρ 0))] [] ρ 0 0 [] m
  unfold f11_liar
  refine lu_bipush X dX11_liar_0 (pc2 := 2) rfl bp_6 ?_
  refine lu_istore_n (lv2 := [(1, .int (6 : Int32)), (0, .ref (ρ 0))]) X dX11_liar_2 (pc2 := 3) rfl rfl (by decide) rfl ?_
  refine lu_iconst X dX11_liar_3 (pc2 := 4) rfl ic_0 ?_
  refine lu_istore_n (lv2 := [(2, .int (0 : Int32)), (1, .int (6 : Int32)), (0, .ref (ρ 0))]) X dX11_liar_4 (pc2 := 5) rfl rfl (by decide) rfl ?_
  exact lu_sub [2, 1, 0] rfl (w11_liar_b5 X hret (w11_liar_b29 X hret) (w11_liar_b64 X hret) lu_fu (6 : Int32) (0 : Int32) m)

theorem dX11_seed_0 : decode cX11_seed 0 = .ok (.aload_n 0, 1) := by decide +kernel
theorem dX11_seed_1 : decode cX11_seed 1 = .ok (.getfield 18, 3) := by decide +kernel
theorem dX11_seed_4 : decode cX11_seed 4 = .ok (.getfield 281, 3) := by decide +kernel
theorem dX11_seed_7 : decode cX11_seed 7 = .ok (.istore_n 2, 1) := by decide +kernel
theorem dX11_seed_8 : decode cX11_seed 8 = .ok (.aload_n 0, 1) := by decide +kernel
theorem dX11_seed_9 : decode cX11_seed 9 = .ok (.getfield 18, 3) := by decide +kernel
theorem dX11_seed_12 : decode cX11_seed 12 = .ok (.iload_n 1, 1) := by decide +kernel
theorem dX11_seed_13 : decode cX11_seed 13 = .ok (.putfield 281, 3) := by decide +kernel
theorem dX11_seed_16 : decode cX11_seed 16 = .ok (.iload_n 2, 1) := by decide +kernel
theorem dX11_seed_17 : decode cX11_seed 17 = .ok (.ireturn, 1) := by decide +kernel
def f11_seed (a1 : Int32) (m : lu_M) : Option (Int32 × lu_M) :=
  lu_nm ((m 1 10)) fun x1 =>
  lu_nm (lu_st m 1 10 a1) fun m2 =>
  some (x1, m2)
set_option maxRecDepth 20000 in
theorem c11_seed (l : Launch)   (a1 : Int32) : lu_C lu_TC l yX11_seed cX11_seed 3 (some .int) 0 0 (fun ρ sa => [.ref (ρ 0), .int a1]) (f11_seed a1) lu_RVi lu_sn := by
  refine lu_met (cls := RX11) rfl (by decide +kernel) (fun _ _ => Nat.le_of_ble_eq_true rfl) ?_
  intro G ρ m hl X hret
  subst hl
  change lu_Ab lu_TC G (lu_Q lu_TC G ρ lu_RVi lu_sn) (f11_seed a1 m) 0 [(0, .ref (ρ 0)), (1, .int a1)] [] ρ 0 0 [] m
  unfold f11_seed
  refine lu_aload_n X dX11_seed_0 (pc2 := 1) rfl rfl 0 rfl ?_
  refine lu_getr (r2 := 1) X rfl fl11_18 rfl kC_0 lC_0 dX11_seed_1 (pc2 := 4) rfl ?_
  refine lu_get X fl11_281 rfl kC_1 lC_1 dX11_seed_4 (pc2 := 7) rfl ?_
  refine lu_topi (fun x1 => ?_)
  refine lu_istore_n (lv2 := [(2, .int x1), (0, .ref (ρ 0)), (1, .int a1)]) X dX11_seed_7 (pc2 := 8) rfl rfl (by decide) rfl ?_
  refine lu_aload_n X dX11_seed_8 (pc2 := 9) rfl rfl 1 rfl ?_
  refine lu_getr (r2 := 1) X rfl fl11_18 rfl kC_0 lC_0 dX11_seed_9 (pc2 := 12) rfl ?_
  refine lu_iload_n X dX11_seed_12 (pc2 := 13) rfl rfl 2 rfl ?_
  refine lu_put X fl11_281 rfl (Or.inl (by decide)) rfl (by decide +kernel) kC_1 lC_1 dX11_seed_13 (pc2 := 16) rfl (fun m2 => ?_)
  refine lu_iload_n X dX11_seed_16 (pc2 := 17) rfl rfl 0 rfl ?_
  exact lu_iret X hret dX11_seed_17

theorem dX11_lot_0 : decode cX11_lot 0 = .ok (.aload_n 0, 1) := by decide +kernel
theorem dX11_lot_1 : decode cX11_lot 1 = .ok (.getfield 18, 3) := by decide +kernel
theorem dX11_lot_4 : decode cX11_lot 4 = .ok (.aload_n 0, 1) := by decide +kernel
theorem dX11_lot_5 : decode cX11_lot 5 = .ok (.getfield 18, 3) := by decide +kernel
theorem dX11_lot_8 : decode cX11_lot 8 = .ok (.getfield 115, 3) := by decide +kernel
theorem dX11_lot_11 : decode cX11_lot 11 = .ok (.invokevirtual 168, 3) := by decide +kernel
theorem dX11_lot_14 : decode cX11_lot 14 = .ok (.ifCond .eq 6, 3) := by decide +kernel
theorem dX11_lot_17 : decode cX11_lot 17 = .ok (.bipush (-4), 2) := by decide +kernel
theorem dX11_lot_19 : decode cX11_lot 19 = .ok (.ireturn, 1) := by decide +kernel
theorem dX11_lot_20 : decode cX11_lot 20 = .ok (.aload_n 0, 1) := by decide +kernel
theorem dX11_lot_21 : decode cX11_lot 21 = .ok (.getfield 18, 3) := by decide +kernel
theorem dX11_lot_24 : decode cX11_lot 24 = .ok (.aload_n 0, 1) := by decide +kernel
theorem dX11_lot_25 : decode cX11_lot 25 = .ok (.getfield 18, 3) := by decide +kernel
theorem dX11_lot_28 : decode cX11_lot 28 = .ok (.getfield 115, 3) := by decide +kernel
theorem dX11_lot_31 : decode cX11_lot 31 = .ok (.aload_n 0, 1) := by decide +kernel
theorem dX11_lot_32 : decode cX11_lot 32 = .ok (.getfield 18, 3) := by decide +kernel
theorem dX11_lot_35 : decode cX11_lot 35 = .ok (.invokevirtual 284, 3) := by decide +kernel
theorem dX11_lot_38 : decode cX11_lot 38 = .ok (.invokevirtual 195, 3) := by decide +kernel
theorem dX11_lot_41 : decode cX11_lot 41 = .ok (.ireturn, 1) := by decide +kernel
def f11_lot  (m : lu_M) : Option (Int32 × lu_M) :=
  lu_bi (f10_isOver 1 29 m) fun x1 m2 =>
  if x1 = 0 then (lu_bi (f10_drawn 1 m2) fun x3 m4 =>
  lu_bi (f10_pass 1 29 x3 m4) fun x5 m6 =>
  some (x5, m6))
  else (some ((-4 : Int32), m2))
set_option maxRecDepth 20000 in
theorem c11_lot (l : Launch)    : lu_C lu_TC l yX11_lot cX11_lot 1 (some .int) 5 122 (fun ρ sa => [.ref (ρ 0)]) (f11_lot ) lu_RVi lu_sn := by
  refine lu_met (cls := RX11) rfl (by decide +kernel) (fun _ _ => Nat.le_of_ble_eq_true rfl) ?_
  intro G ρ m hl X hret
  subst hl
  change lu_Ab lu_TC G (lu_Q lu_TC G ρ lu_RVi lu_sn) (f11_lot  m) 0 [(0, .ref (ρ 0))] [] ρ 0 0 [] m
  unfold f11_lot
  refine lu_aload_n X dX11_lot_0 (pc2 := 1) rfl rfl 0 rfl ?_
  refine lu_getr (r2 := 1) X rfl fl11_18 rfl kC_0 lC_0 dX11_lot_1 (pc2 := 4) rfl ?_
  refine lu_aload_n X dX11_lot_4 (pc2 := 5) rfl rfl 0 rfl ?_
  refine lu_getr (r2 := 1) X rfl fl11_18 rfl kC_0 lC_0 dX11_lot_5 (pc2 := 8) rfl ?_
  refine lu_getr (r2 := 29) X rfl fl11_115 rfl kC_1 lC_1 dX11_lot_8 (pc2 := 11) rfl ?_
  refine lu_invVi X (c10_isOver _ kC_1 lC_1 kC_29 lC_29) rfl q565 mvV_10_isOver kC_1 lC_1 (by decide) ⟨_, rfl, rfl⟩ rfl rfl (Nat.le_of_ble_eq_true rfl) (Nat.le_of_ble_eq_true rfl) (Nat.le_of_ble_eq_true rfl) ⟨Nat.zero_le _, Nat.zero_le _⟩ dX11_lot_11 (pc2 := 14) rfl rfl (fun x1 m2 => ?_)
  refine lu_if_eq (tgt := 20) X dX11_lot_14 (pc2 := 17) rfl (by decide) (fun _ => ?_) (fun _ => ?_)
  · refine lu_aload_n X dX11_lot_20 (pc2 := 21) rfl rfl 0 rfl ?_
    refine lu_getr (r2 := 1) X rfl fl11_18 rfl kC_0 lC_0 dX11_lot_21 (pc2 := 24) rfl ?_
    refine lu_aload_n X dX11_lot_24 (pc2 := 25) rfl rfl 0 rfl ?_
    refine lu_getr (r2 := 1) X rfl fl11_18 rfl kC_0 lC_0 dX11_lot_25 (pc2 := 28) rfl ?_
    refine lu_getr (r2 := 29) X rfl fl11_115 rfl kC_1 lC_1 dX11_lot_28 (pc2 := 31) rfl ?_
    refine lu_aload_n X dX11_lot_31 (pc2 := 32) rfl rfl 0 rfl ?_
    refine lu_getr (r2 := 1) X rfl fl11_18 rfl kC_0 lC_0 dX11_lot_32 (pc2 := 35) rfl ?_
    refine lu_invVi X (c10_drawn _ kC_1 lC_1) rfl q924 mvV_10_drawn kC_1 lC_1 (by decide) ⟨_, rfl, rfl⟩ rfl rfl (Nat.le_of_ble_eq_true rfl) (Nat.le_of_ble_eq_true rfl) (Nat.le_of_ble_eq_true rfl) ⟨Nat.zero_le _, Nat.zero_le _⟩ dX11_lot_35 (pc2 := 38) rfl rfl (fun x3 m4 => ?_)
    refine lu_invVi X (c10_pass _ kC_1 lC_1 kC_29 lC_29 x3) rfl q721 mvV_10_pass kC_1 lC_1 (by decide) ⟨_, rfl, rfl⟩ rfl rfl (Nat.le_of_ble_eq_true rfl) (Nat.le_of_ble_eq_true rfl) (Nat.le_of_ble_eq_true rfl) ⟨Nat.zero_le _, Nat.zero_le _⟩ dX11_lot_38 (pc2 := 41) rfl rfl (fun x5 m6 => ?_)
    exact lu_iret X hret dX11_lot_41
  · refine lu_bipush X dX11_lot_17 (pc2 := 19) rfl bp_m4 ?_
    exact lu_iret X hret dX11_lot_19

theorem dX11_often_0 : decode cX11_often 0 = .ok (.iload_n 1, 1) := by decide +kernel
theorem dX11_often_1 : decode cX11_often 1 = .ok (.iconst 1, 1) := by decide +kernel
theorem dX11_often_2 : decode cX11_often 2 = .ok (.bipush 40, 2) := by decide +kernel
theorem dX11_often_4 : decode cX11_often 4 = .ok (.invokestatic 92, 3) := by decide +kernel
theorem dX11_often_7 : decode cX11_often 7 = .ok (.ifCond .eq 14, 3) := by decide +kernel
theorem dX11_often_10 : decode cX11_often 10 = .ok (.iload_n 2, 1) := by decide +kernel
theorem dX11_often_11 : decode cX11_often 11 = .ok (.iconst 0, 1) := by decide +kernel
theorem dX11_often_12 : decode cX11_often 12 = .ok (.sipush 999, 3) := by decide +kernel
theorem dX11_often_15 : decode cX11_often 15 = .ok (.invokestatic 92, 3) := by decide +kernel
theorem dX11_often_18 : decode cX11_often 18 = .ok (.ifCond .ne 5, 3) := by decide +kernel
theorem dX11_often_21 : decode cX11_often 21 = .ok (.iconst (-1), 1) := by decide +kernel
theorem dX11_often_22 : decode cX11_often 22 = .ok (.ireturn, 1) := by decide +kernel
theorem dX11_often_23 : decode cX11_often 23 = .ok (.aload_n 0, 1) := by decide +kernel
theorem dX11_often_24 : decode cX11_often 24 = .ok (.getfield 18, 3) := by decide +kernel
theorem dX11_often_27 : decode cX11_often 27 = .ok (.getfield 281, 3) := by decide +kernel
theorem dX11_often_30 : decode cX11_often 30 = .ok (.istore_n 3, 1) := by decide +kernel
theorem dX11_often_31 : decode cX11_often 31 = .ok (.iconst 0, 1) := by decide +kernel
theorem dX11_often_32 : decode cX11_often 32 = .ok (.istore 4, 2) := by decide +kernel
theorem dX11_often_34 : decode cX11_often 34 = .ok (.iconst 0, 1) := by decide +kernel
theorem dX11_often_35 : decode cX11_often 35 = .ok (.istore 5, 2) := by decide +kernel
theorem dX11_often_37 : decode cX11_often 37 = .ok (.iload 5, 2) := by decide +kernel
theorem dX11_often_39 : decode cX11_often 39 = .ok (.iload_n 1, 1) := by decide +kernel
theorem dX11_often_40 : decode cX11_often 40 = .ok (.if_icmp .ge 86, 3) := by decide +kernel
theorem dX11_often_43 : decode cX11_often 43 = .ok (.aload_n 0, 1) := by decide +kernel
theorem dX11_often_44 : decode cX11_often 44 = .ok (.getfield 32, 3) := by decide +kernel
theorem dX11_often_47 : decode cX11_often 47 = .ok (.aload_n 0, 1) := by decide +kernel
theorem dX11_often_48 : decode cX11_often 48 = .ok (.getfield 18, 3) := by decide +kernel
theorem dX11_often_51 : decode cX11_often 51 = .ok (.getfield 115, 3) := by decide +kernel
theorem dX11_often_54 : decode cX11_often 54 = .ok (.invokevirtual 203, 3) := by decide +kernel
theorem dX11_often_57 : decode cX11_often 57 = .ok (.iconst 0, 1) := by decide +kernel
theorem dX11_often_58 : decode cX11_often 58 = .ok (.istore 6, 2) := by decide +kernel
theorem dX11_often_60 : decode cX11_often 60 = .ok (.iload 6, 2) := by decide +kernel
theorem dX11_often_62 : decode cX11_often 62 = .ok (.bipush 16, 2) := by decide +kernel
theorem dX11_often_64 : decode cX11_often 64 = .ok (.if_icmp .ge 42, 3) := by decide +kernel
theorem dX11_often_67 : decode cX11_often 67 = .ok (.aload_n 0, 1) := by decide +kernel
theorem dX11_often_68 : decode cX11_often 68 = .ok (.getfield 18, 3) := by decide +kernel
theorem dX11_often_71 : decode cX11_often 71 = .ok (.aload_n 0, 1) := by decide +kernel
theorem dX11_often_72 : decode cX11_often 72 = .ok (.getfield 32, 3) := by decide +kernel
theorem dX11_often_75 : decode cX11_often 75 = .ok (.invokevirtual 168, 3) := by decide +kernel
theorem dX11_often_78 : decode cX11_often 78 = .ok (.ifCond .ne 28, 3) := by decide +kernel
theorem dX11_often_81 : decode cX11_often 81 = .ok (.aload_n 0, 1) := by decide +kernel
theorem dX11_often_82 : decode cX11_often 82 = .ok (.getfield 18, 3) := by decide +kernel
theorem dX11_often_85 : decode cX11_often 85 = .ok (.aload_n 0, 1) := by decide +kernel
theorem dX11_often_86 : decode cX11_often 86 = .ok (.getfield 32, 3) := by decide +kernel
theorem dX11_often_89 : decode cX11_often 89 = .ok (.aload_n 0, 1) := by decide +kernel
theorem dX11_often_90 : decode cX11_often 90 = .ok (.getfield 18, 3) := by decide +kernel
theorem dX11_often_93 : decode cX11_often 93 = .ok (.invokevirtual 284, 3) := by decide +kernel
theorem dX11_often_96 : decode cX11_often 96 = .ok (.invokevirtual 195, 3) := by decide +kernel
theorem dX11_often_99 : decode cX11_often 99 = .ok (.pop, 1) := by decide +kernel
theorem dX11_often_100 : decode cX11_often 100 = .ok (.iinc 6 1, 3) := by decide +kernel
theorem dX11_often_103 : decode cX11_often 103 = .ok (.goto (-43), 3) := by decide +kernel
theorem dX11_often_106 : decode cX11_often 106 = .ok (.aload_n 0, 1) := by decide +kernel
theorem dX11_often_107 : decode cX11_often 107 = .ok (.getfield 32, 3) := by decide +kernel
theorem dX11_often_110 : decode cX11_often 110 = .ok (.getfield 165, 3) := by decide +kernel
theorem dX11_often_113 : decode cX11_often 113 = .ok (.iload_n 2, 1) := by decide +kernel
theorem dX11_often_114 : decode cX11_often 114 = .ok (.if_icmp .lt 6, 3) := by decide +kernel
theorem dX11_often_117 : decode cX11_often 117 = .ok (.iinc 4 1, 3) := by decide +kernel
theorem dX11_often_120 : decode cX11_often 120 = .ok (.iinc 5 1, 3) := by decide +kernel
theorem dX11_often_123 : decode cX11_often 123 = .ok (.goto (-86), 3) := by decide +kernel
theorem dX11_often_126 : decode cX11_often 126 = .ok (.aload_n 0, 1) := by decide +kernel
theorem dX11_often_127 : decode cX11_often 127 = .ok (.getfield 18, 3) := by decide +kernel
theorem dX11_often_130 : decode cX11_often 130 = .ok (.iload_n 3, 1) := by decide +kernel
theorem dX11_often_131 : decode cX11_often 131 = .ok (.putfield 281, 3) := by decide +kernel
theorem dX11_often_134 : decode cX11_often 134 = .ok (.iload 4, 2) := by decide +kernel
theorem dX11_often_136 : decode cX11_often 136 = .ok (.ireturn, 1) := by decide +kernel
def f11_often_b21  (a1 : Int32) (a2 : Int32)  (m : lu_M) : Option (Int32 × lu_M) :=
  some ((-1 : Int32), m)
set_option maxRecDepth 20000 in
theorem w11_often_b21  {G : lu_G} {ρ : Nat → Nat} {a1 : Int32} {a2 : Int32}  (X : lu_X G RX11 cX11_often 7 5 122) (hret : (lu_me G).sig.returnType = (some .int))   : ∀  (m : lu_M), lu_Ab lu_TC G (lu_Q lu_TC G ρ lu_RVi lu_sn) (f11_often_b21 a1 a2 m) 21 [] [] ρ 0 0 [] m := by
  intro  m
  unfold f11_often_b21
  refine lu_iconst X dX11_often_21 (pc2 := 22) rfl ic_m1 ?_
  exact lu_iret X hret dX11_often_22
def f11_often_b60B (K106 : Int32 → Int32 → Int32 → lu_M → Option (Int32 × lu_M)) (rec : Int32 → Int32 → Int32 → Int32 → lu_M → Option (Int32 × lu_M)) (a1 : Int32) (a2 : Int32) (v3 : Int32) (v4 : Int32) (v5 : Int32) (v6 : Int32) (m : lu_M) : Option (Int32 × lu_M) :=
  if (16 : Int32) ≤ v6 then (K106 v3 v4 v5 m)
  else (lu_bi (f10_isOver 1 73 m) fun x7 m8 =>
  if x7 = 0 then (lu_bi (f10_drawn 1 m8) fun x9 m10 =>
  lu_bi (f10_pass 1 73 x9 m10) fun x11 m12 =>
  rec v3 v4 v5 (v6 + (1 : Int32)) m12)
  else (K106 v3 v4 v5 m8))
def f11_often_b60 (K106 : Int32 → Int32 → Int32 → lu_M → Option (Int32 × lu_M)) (a1 : Int32) (a2 : Int32) : Nat → Int32 → Int32 → Int32 → Int32 → lu_M → Option (Int32 × lu_M)
  | 0, _, _, _, _, _ => none
  | n + 1, v3, v4, v5, v6, m => f11_often_b60B K106 (f11_often_b60 K106 a1 a2 n) a1 a2 v3 v4 v5 v6 m
set_option maxRecDepth 20000 in
theorem w11_often_b60B  {G : lu_G} {ρ : Nat → Nat} {a1 : Int32} {a2 : Int32} {K106 : Int32 → Int32 → Int32 → lu_M → Option (Int32 × lu_M)} {rec : Int32 → Int32 → Int32 → Int32 → lu_M → Option (Int32 × lu_M)} (X : lu_X G RX11 cX11_often 7 5 122) (hret : (lu_me G).sig.returnType = (some .int))  (hK106 : ∀ (v3 : Int32) (v4 : Int32) (v5 : Int32) (m : lu_M), lu_Ab lu_TC G (lu_Q lu_TC G ρ lu_RVi lu_sn) (K106 v3 v4 v5 m) 106 [(0, .ref (ρ 0)), (1, .int a1), (2, .int a2), (3, .int v3), (4, .int v4), (5, .int v5)] [] ρ 0 0 [] m) (hrec : ∀ (v3 : Int32) (v4 : Int32) (v5 : Int32) (v6 : Int32) (m : lu_M), lu_Ab lu_TC G (lu_Q lu_TC G ρ lu_RVi lu_sn) (rec v3 v4 v5 v6 m) 60 [(0, .ref (ρ 0)), (1, .int a1), (2, .int a2), (3, .int v3), (4, .int v4), (5, .int v5), (6, .int v6)] [] ρ 0 0 [] m) : ∀ (v3 : Int32) (v4 : Int32) (v5 : Int32) (v6 : Int32) (m : lu_M), lu_Ab lu_TC G (lu_Q lu_TC G ρ lu_RVi lu_sn) (f11_often_b60B K106 rec a1 a2 v3 v4 v5 v6 m) 60 [(0, .ref (ρ 0)), (1, .int a1), (2, .int a2), (3, .int v3), (4, .int v4), (5, .int v5), (6, .int v6)] [] ρ 0 0 [] m := by
  intro v3 v4 v5 v6 m
  unfold f11_often_b60B
  refine lu_iload X dX11_often_60 (pc2 := 62) rfl 6 rfl ?_
  refine lu_bipush X dX11_often_62 (pc2 := 64) rfl bp_16 ?_
  refine lu_icmp_ge (tgt := 106) X dX11_often_64 (pc2 := 67) rfl (by decide) (fun _ => ?_) (fun _ => ?_)
  · exact lu_sub [0, 1, 2, 3, 4, 5] rfl (hK106 v3 v4 v5 m)
  · refine lu_aload_n X dX11_often_67 (pc2 := 68) rfl rfl 0 rfl ?_
    refine lu_getr (r2 := 1) X rfl fl11_18 rfl kC_0 lC_0 dX11_often_68 (pc2 := 71) rfl ?_
    refine lu_aload_n X dX11_often_71 (pc2 := 72) rfl rfl 0 rfl ?_
    refine lu_getr (r2 := 73) X rfl fl11_32 rfl kC_0 lC_0 dX11_often_72 (pc2 := 75) rfl ?_
    refine lu_invVi X (c10_isOver _ kC_1 lC_1 kC_73 lC_73) rfl q565 mvV_10_isOver kC_1 lC_1 (by decide) ⟨_, rfl, rfl⟩ rfl rfl (Nat.le_of_ble_eq_true rfl) (Nat.le_of_ble_eq_true rfl) (Nat.le_of_ble_eq_true rfl) ⟨Nat.zero_le _, Nat.zero_le _⟩ dX11_often_75 (pc2 := 78) rfl rfl (fun x7 m8 => ?_)
    refine lu_if_ne (tgt := 106) X dX11_often_78 (pc2 := 81) rfl (by decide) (fun _ => ?_) (fun _ => ?_)
    · exact lu_sub [0, 1, 2, 3, 4, 5] rfl (hK106 v3 v4 v5 m8)
    · refine lu_aload_n X dX11_often_81 (pc2 := 82) rfl rfl 0 rfl ?_
      refine lu_getr (r2 := 1) X rfl fl11_18 rfl kC_0 lC_0 dX11_often_82 (pc2 := 85) rfl ?_
      refine lu_aload_n X dX11_often_85 (pc2 := 86) rfl rfl 0 rfl ?_
      refine lu_getr (r2 := 73) X rfl fl11_32 rfl kC_0 lC_0 dX11_often_86 (pc2 := 89) rfl ?_
      refine lu_aload_n X dX11_often_89 (pc2 := 90) rfl rfl 0 rfl ?_
      refine lu_getr (r2 := 1) X rfl fl11_18 rfl kC_0 lC_0 dX11_often_90 (pc2 := 93) rfl ?_
      refine lu_invVi X (c10_drawn _ kC_1 lC_1) rfl q924 mvV_10_drawn kC_1 lC_1 (by decide) ⟨_, rfl, rfl⟩ rfl rfl (Nat.le_of_ble_eq_true rfl) (Nat.le_of_ble_eq_true rfl) (Nat.le_of_ble_eq_true rfl) ⟨Nat.zero_le _, Nat.zero_le _⟩ dX11_often_93 (pc2 := 96) rfl rfl (fun x9 m10 => ?_)
      refine lu_invVi X (c10_pass _ kC_1 lC_1 kC_73 lC_73 x9) rfl q721 mvV_10_pass kC_1 lC_1 (by decide) ⟨_, rfl, rfl⟩ rfl rfl (Nat.le_of_ble_eq_true rfl) (Nat.le_of_ble_eq_true rfl) (Nat.le_of_ble_eq_true rfl) ⟨Nat.zero_le _, Nat.zero_le _⟩ dX11_often_96 (pc2 := 99) rfl rfl (fun x11 m12 => ?_)
      refine lu_pop X dX11_often_99 (pc2 := 100) rfl rfl ?_
      refine lu_iinc (lv2 := [(6, .int (v6 + (1 : Int32))), (0, .ref (ρ 0)), (1, .int a1), (2, .int a2), (3, .int v3), (4, .int v4), (5, .int v5)]) X dX11_often_100 (pc2 := 103) rfl 6 rfl (lu_ii _ ic_1) (by decide) rfl ?_
      refine lu_goto (tgt := 60) X dX11_often_103 (by decide) ?_
      exact lu_sub [1, 2, 3, 4, 5, 6, 0] rfl (hrec v3 v4 v5 (v6 + (1 : Int32)) m12)
theorem w11_often_b60  {G : lu_G} {ρ : Nat → Nat} {a1 : Int32} {a2 : Int32} {K106 : Int32 → Int32 → Int32 → lu_M → Option (Int32 × lu_M)} (X : lu_X G RX11 cX11_often 7 5 122) (hret : (lu_me G).sig.returnType = (some .int))  (hK106 : ∀ (v3 : Int32) (v4 : Int32) (v5 : Int32) (m : lu_M), lu_Ab lu_TC G (lu_Q lu_TC G ρ lu_RVi lu_sn) (K106 v3 v4 v5 m) 106 [(0, .ref (ρ 0)), (1, .int a1), (2, .int a2), (3, .int v3), (4, .int v4), (5, .int v5)] [] ρ 0 0 [] m) : ∀ (n : Nat) (v3 : Int32) (v4 : Int32) (v5 : Int32) (v6 : Int32) (m : lu_M), lu_Ab lu_TC G (lu_Q lu_TC G ρ lu_RVi lu_sn) (f11_often_b60 K106 a1 a2 n v3 v4 v5 v6 m) 60 [(0, .ref (ρ 0)), (1, .int a1), (2, .int a2), (3, .int v3), (4, .int v4), (5, .int v5), (6, .int v6)] [] ρ 0 0 [] m := by
  intro n
  induction n with
  | zero => intro v3 v4 v5 v6 m; exact lu_none
  | succ n ih => intro v3 v4 v5 v6 m; exact w11_often_b60B X hret hK106 ih v3 v4 v5 v6 m
def f11_often_b120 (K37 : Int32 → Int32 → Int32 → lu_M → Option (Int32 × lu_M)) (K126 : Int32 → Int32 → lu_M → Option (Int32 × lu_M)) (a1 : Int32) (a2 : Int32) (v3 : Int32) (v4 : Int32) (v5 : Int32) (m : lu_M) : Option (Int32 × lu_M) :=
  K37 v3 v4 (v5 + (1 : Int32)) m
set_option maxRecDepth 20000 in
theorem w11_often_b120  {G : lu_G} {ρ : Nat → Nat} {a1 : Int32} {a2 : Int32} {K37 : Int32 → Int32 → Int32 → lu_M → Option (Int32 × lu_M)} {K126 : Int32 → Int32 → lu_M → Option (Int32 × lu_M)} (X : lu_X G RX11 cX11_often 7 5 122) (hret : (lu_me G).sig.returnType = (some .int))  (hK37 : ∀ (v3 : Int32) (v4 : Int32) (v5 : Int32) (m : lu_M), lu_Ab lu_TC G (lu_Q lu_TC G ρ lu_RVi lu_sn) (K37 v3 v4 v5 m) 37 [(0, .ref (ρ 0)), (1, .int a1), (2, .int a2), (3, .int v3), (4, .int v4), (5, .int v5)] [] ρ 0 0 [] m) (hK126 : ∀ (v3 : Int32) (v4 : Int32) (m : lu_M), lu_Ab lu_TC G (lu_Q lu_TC G ρ lu_RVi lu_sn) (K126 v3 v4 m) 126 [(0, .ref (ρ 0)), (3, .int v3), (4, .int v4)] [] ρ 0 0 [] m) : ∀ (v3 : Int32) (v4 : Int32) (v5 : Int32) (m : lu_M), lu_Ab lu_TC G (lu_Q lu_TC G ρ lu_RVi lu_sn) (f11_often_b120 K37 K126 a1 a2 v3 v4 v5 m) 120 [(0, .ref (ρ 0)), (1, .int a1), (2, .int a2), (3, .int v3), (4, .int v4), (5, .int v5)] [] ρ 0 0 [] m := by
  intro v3 v4 v5 m
  unfold f11_often_b120
  refine lu_iinc (lv2 := [(5, .int (v5 + (1 : Int32))), (0, .ref (ρ 0)), (1, .int a1), (2, .int a2), (3, .int v3), (4, .int v4)]) X dX11_often_120 (pc2 := 123) rfl 5 rfl (lu_ii _ ic_1) (by decide) rfl ?_
  refine lu_goto (tgt := 37) X dX11_often_123 (by decide) ?_
  exact lu_sub [1, 2, 3, 4, 5, 0] rfl (hK37 v3 v4 (v5 + (1 : Int32)) m)
def f11_often_b106 (K37 : Int32 → Int32 → Int32 → lu_M → Option (Int32 × lu_M)) (K126 : Int32 → Int32 → lu_M → Option (Int32 × lu_M)) (a1 : Int32) (a2 : Int32) (v3 : Int32) (v4 : Int32) (v5 : Int32) (m : lu_M) : Option (Int32 × lu_M) :=
  if (m 73 5) < a2 then (f11_often_b120 K37 K126 a1 a2 v3 v4 v5 m)
  else (f11_often_b120 K37 K126 a1 a2 v3 (v4 + (1 : Int32)) v5 m)
set_option maxRecDepth 20000 in
theorem w11_often_b106  {G : lu_G} {ρ : Nat → Nat} {a1 : Int32} {a2 : Int32} {K37 : Int32 → Int32 → Int32 → lu_M → Option (Int32 × lu_M)} {K126 : Int32 → Int32 → lu_M → Option (Int32 × lu_M)} (X : lu_X G RX11 cX11_often 7 5 122) (hret : (lu_me G).sig.returnType = (some .int))  (hK37 : ∀ (v3 : Int32) (v4 : Int32) (v5 : Int32) (m : lu_M), lu_Ab lu_TC G (lu_Q lu_TC G ρ lu_RVi lu_sn) (K37 v3 v4 v5 m) 37 [(0, .ref (ρ 0)), (1, .int a1), (2, .int a2), (3, .int v3), (4, .int v4), (5, .int v5)] [] ρ 0 0 [] m) (hK126 : ∀ (v3 : Int32) (v4 : Int32) (m : lu_M), lu_Ab lu_TC G (lu_Q lu_TC G ρ lu_RVi lu_sn) (K126 v3 v4 m) 126 [(0, .ref (ρ 0)), (3, .int v3), (4, .int v4)] [] ρ 0 0 [] m) : ∀ (v3 : Int32) (v4 : Int32) (v5 : Int32) (m : lu_M), lu_Ab lu_TC G (lu_Q lu_TC G ρ lu_RVi lu_sn) (f11_often_b106 K37 K126 a1 a2 v3 v4 v5 m) 106 [(0, .ref (ρ 0)), (1, .int a1), (2, .int a2), (3, .int v3), (4, .int v4), (5, .int v5)] [] ρ 0 0 [] m := by
  intro v3 v4 v5 m
  unfold f11_often_b106
  refine lu_aload_n X dX11_often_106 (pc2 := 107) rfl rfl 0 rfl ?_
  refine lu_getr (r2 := 73) X rfl fl11_32 rfl kC_0 lC_0 dX11_often_107 (pc2 := 110) rfl ?_
  refine lu_get X fl11_165 rfl kC_73 lC_73 dX11_often_110 (pc2 := 113) rfl ?_
  refine lu_iload_n X dX11_often_113 (pc2 := 114) rfl rfl 2 rfl ?_
  refine lu_icmp_lt (tgt := 120) X dX11_often_114 (pc2 := 117) rfl (by decide) (fun _ => ?_) (fun _ => ?_)
  · exact w11_often_b120 X hret hK37 hK126 v3 v4 v5 m
  · refine lu_iinc (lv2 := [(4, .int (v4 + (1 : Int32))), (0, .ref (ρ 0)), (1, .int a1), (2, .int a2), (3, .int v3), (5, .int v5)]) X dX11_often_117 (pc2 := 120) rfl 4 rfl (lu_ii _ ic_1) (by decide) rfl ?_
    exact lu_sub [1, 2, 3, 4, 0, 5] rfl (w11_often_b120 X hret hK37 hK126 v3 (v4 + (1 : Int32)) v5 m)
def f11_often_b37B (K126 : Int32 → Int32 → lu_M → Option (Int32 × lu_M)) (rec : Int32 → Int32 → Int32 → lu_M → Option (Int32 × lu_M)) (a1 : Int32) (a2 : Int32) (v3 : Int32) (v4 : Int32) (v5 : Int32) (m : lu_M) : Option (Int32 × lu_M) :=
  if a1 ≤ v5 then (K126 v3 v4 m)
  else (lu_bv (f1_begin 73 29 m) fun m6 =>
  f11_often_b60 (f11_often_b106 rec K126 a1 a2) a1 a2 lu_fu v3 v4 v5 (0 : Int32) m6)
def f11_often_b37 (K126 : Int32 → Int32 → lu_M → Option (Int32 × lu_M)) (a1 : Int32) (a2 : Int32) : Nat → Int32 → Int32 → Int32 → lu_M → Option (Int32 × lu_M)
  | 0, _, _, _, _ => none
  | n + 1, v3, v4, v5, m => f11_often_b37B K126 (f11_often_b37 K126 a1 a2 n) a1 a2 v3 v4 v5 m
set_option maxRecDepth 20000 in
theorem w11_often_b37B  {G : lu_G} {ρ : Nat → Nat} {a1 : Int32} {a2 : Int32} {K126 : Int32 → Int32 → lu_M → Option (Int32 × lu_M)} {rec : Int32 → Int32 → Int32 → lu_M → Option (Int32 × lu_M)} (X : lu_X G RX11 cX11_often 7 5 122) (hret : (lu_me G).sig.returnType = (some .int))  (hK126 : ∀ (v3 : Int32) (v4 : Int32) (m : lu_M), lu_Ab lu_TC G (lu_Q lu_TC G ρ lu_RVi lu_sn) (K126 v3 v4 m) 126 [(0, .ref (ρ 0)), (3, .int v3), (4, .int v4)] [] ρ 0 0 [] m) (hrec : ∀ (v3 : Int32) (v4 : Int32) (v5 : Int32) (m : lu_M), lu_Ab lu_TC G (lu_Q lu_TC G ρ lu_RVi lu_sn) (rec v3 v4 v5 m) 37 [(0, .ref (ρ 0)), (1, .int a1), (2, .int a2), (3, .int v3), (4, .int v4), (5, .int v5)] [] ρ 0 0 [] m) : ∀ (v3 : Int32) (v4 : Int32) (v5 : Int32) (m : lu_M), lu_Ab lu_TC G (lu_Q lu_TC G ρ lu_RVi lu_sn) (f11_often_b37B K126 rec a1 a2 v3 v4 v5 m) 37 [(0, .ref (ρ 0)), (1, .int a1), (2, .int a2), (3, .int v3), (4, .int v4), (5, .int v5)] [] ρ 0 0 [] m := by
  intro v3 v4 v5 m
  unfold f11_often_b37B
  refine lu_iload X dX11_often_37 (pc2 := 39) rfl 5 rfl ?_
  refine lu_iload_n X dX11_often_39 (pc2 := 40) rfl rfl 1 rfl ?_
  refine lu_icmp_ge (tgt := 126) X dX11_often_40 (pc2 := 43) rfl (by decide) (fun _ => ?_) (fun _ => ?_)
  · exact lu_sub [0, 3, 4] rfl (hK126 v3 v4 m)
  · refine lu_aload_n X dX11_often_43 (pc2 := 44) rfl rfl 0 rfl ?_
    refine lu_getr (r2 := 73) X rfl fl11_32 rfl kC_0 lC_0 dX11_often_44 (pc2 := 47) rfl ?_
    refine lu_aload_n X dX11_often_47 (pc2 := 48) rfl rfl 0 rfl ?_
    refine lu_getr (r2 := 1) X rfl fl11_18 rfl kC_0 lC_0 dX11_often_48 (pc2 := 51) rfl ?_
    refine lu_getr (r2 := 29) X rfl fl11_115 rfl kC_1 lC_1 dX11_often_51 (pc2 := 54) rfl ?_
    refine lu_invVv X (c1_begin _ kC_73 lC_73 kC_29 lC_29) rfl q766 mvV_1_begin kC_73 lC_73 (by decide) ⟨_, rfl, rfl⟩ rfl rfl (Nat.le_of_ble_eq_true rfl) (Nat.le_of_ble_eq_true rfl) (Nat.le_of_ble_eq_true rfl) ⟨Nat.zero_le _, Nat.zero_le _⟩ dX11_often_54 (pc2 := 57) rfl rfl (fun m6 => ?_)
    refine lu_iconst X dX11_often_57 (pc2 := 58) rfl ic_0 ?_
    refine lu_istore (lv2 := [(6, .int (0 : Int32)), (0, .ref (ρ 0)), (1, .int a1), (2, .int a2), (3, .int v3), (4, .int v4), (5, .int v5)]) X dX11_often_58 (pc2 := 60) rfl (by decide) rfl ?_
    exact lu_sub [1, 2, 3, 4, 5, 6, 0] rfl (w11_often_b60 X hret (w11_often_b106 X hret hrec hK126) lu_fu v3 v4 v5 (0 : Int32) m6)
theorem w11_often_b37  {G : lu_G} {ρ : Nat → Nat} {a1 : Int32} {a2 : Int32} {K126 : Int32 → Int32 → lu_M → Option (Int32 × lu_M)} (X : lu_X G RX11 cX11_often 7 5 122) (hret : (lu_me G).sig.returnType = (some .int))  (hK126 : ∀ (v3 : Int32) (v4 : Int32) (m : lu_M), lu_Ab lu_TC G (lu_Q lu_TC G ρ lu_RVi lu_sn) (K126 v3 v4 m) 126 [(0, .ref (ρ 0)), (3, .int v3), (4, .int v4)] [] ρ 0 0 [] m) : ∀ (n : Nat) (v3 : Int32) (v4 : Int32) (v5 : Int32) (m : lu_M), lu_Ab lu_TC G (lu_Q lu_TC G ρ lu_RVi lu_sn) (f11_often_b37 K126 a1 a2 n v3 v4 v5 m) 37 [(0, .ref (ρ 0)), (1, .int a1), (2, .int a2), (3, .int v3), (4, .int v4), (5, .int v5)] [] ρ 0 0 [] m := by
  intro n
  induction n with
  | zero => intro v3 v4 v5 m; exact lu_none
  | succ n ih => intro v3 v4 v5 m; exact w11_often_b37B X hret hK126 ih v3 v4 v5 m
def f11_often_b126  (a1 : Int32) (a2 : Int32) (v3 : Int32) (v4 : Int32) (m : lu_M) : Option (Int32 × lu_M) :=
  lu_nm (lu_st m 1 10 v3) fun m13 =>
  some (v4, m13)
set_option maxRecDepth 20000 in
theorem w11_often_b126  {G : lu_G} {ρ : Nat → Nat} {a1 : Int32} {a2 : Int32}  (X : lu_X G RX11 cX11_often 7 5 122) (hret : (lu_me G).sig.returnType = (some .int))   : ∀ (v3 : Int32) (v4 : Int32) (m : lu_M), lu_Ab lu_TC G (lu_Q lu_TC G ρ lu_RVi lu_sn) (f11_often_b126 a1 a2 v3 v4 m) 126 [(0, .ref (ρ 0)), (3, .int v3), (4, .int v4)] [] ρ 0 0 [] m := by
  intro v3 v4 m
  unfold f11_often_b126
  refine lu_aload_n X dX11_often_126 (pc2 := 127) rfl rfl 0 rfl ?_
  refine lu_getr (r2 := 1) X rfl fl11_18 rfl kC_0 lC_0 dX11_often_127 (pc2 := 130) rfl ?_
  refine lu_iload_n X dX11_often_130 (pc2 := 131) rfl rfl 1 rfl ?_
  refine lu_put X fl11_281 rfl (Or.inl (by decide)) rfl (by decide +kernel) kC_1 lC_1 dX11_often_131 (pc2 := 134) rfl (fun m13 => ?_)
  refine lu_iload X dX11_often_134 (pc2 := 136) rfl 2 rfl ?_
  exact lu_iret X hret dX11_often_136
def f11_often (a1 : Int32) (a2 : Int32) (m : lu_M) : Option (Int32 × lu_M) :=
  lu_bi (f11_isWithin a1 (1 : Int32) (40 : Int32) m) fun x1 m2 =>
  if x1 = 0 then (f11_often_b21 a1 a2 m2)
  else (lu_bi (f11_isWithin a2 (0 : Int32) (999 : Int32) m2) fun x3 m4 =>
  if x3 = 0 then (f11_often_b21 a1 a2 m4)
  else (lu_nm ((m4 1 10)) fun x5 =>
  f11_often_b37 (f11_often_b126 a1 a2) a1 a2 lu_fu x5 (0 : Int32) (0 : Int32) m4))
set_option maxRecDepth 20000 in
theorem c11_often (l : Launch)   (a1 : Int32) (a2 : Int32) : lu_C lu_TC l yX11_often cX11_often 7 (some .int) 5 122 (fun ρ sa => [.ref (ρ 0), .int a1, .int a2]) (f11_often a1 a2) lu_RVi lu_sn := by
  refine lu_met (cls := RX11) rfl (by decide +kernel) (fun _ _ => Nat.le_of_ble_eq_true rfl) ?_
  intro G ρ m hl X hret
  subst hl
  change lu_Ab lu_TC G (lu_Q lu_TC G ρ lu_RVi lu_sn) (f11_often a1 a2 m) 0 [(0, .ref (ρ 0)), (1, .int a1), (2, .int a2)] [] ρ 0 0 [] m
  unfold f11_often
  refine lu_iload_n X dX11_often_0 (pc2 := 1) rfl rfl 1 rfl ?_
  refine lu_iconst X dX11_often_1 (pc2 := 2) rfl ic_1 ?_
  refine lu_bipush X dX11_often_2 (pc2 := 4) rfl bp_40 ?_
  refine lu_invSi X (c11_isWithin _ a1 (1 : Int32) (40 : Int32)) rfl q433 mvS_11_isWithin rfl rfl (Nat.le_of_ble_eq_true rfl) (Nat.le_of_ble_eq_true rfl) (Nat.le_of_ble_eq_true rfl) ⟨Nat.zero_le _, Nat.zero_le _⟩ dX11_often_4 (pc2 := 7) rfl rfl (fun x1 m2 => ?_)
  refine lu_if_eq (tgt := 21) X dX11_often_7 (pc2 := 10) rfl (by decide) (fun _ => ?_) (fun _ => ?_)
  · exact lu_sub [] rfl (w11_often_b21 X hret m2)
  · refine lu_iload_n X dX11_often_10 (pc2 := 11) rfl rfl 2 rfl ?_
    refine lu_iconst X dX11_often_11 (pc2 := 12) rfl ic_0 ?_
    refine lu_sipush X dX11_often_12 (pc2 := 15) rfl sp_999 ?_
    refine lu_invSi X (c11_isWithin _ a2 (0 : Int32) (999 : Int32)) rfl q433 mvS_11_isWithin rfl rfl (Nat.le_of_ble_eq_true rfl) (Nat.le_of_ble_eq_true rfl) (Nat.le_of_ble_eq_true rfl) ⟨Nat.zero_le _, Nat.zero_le _⟩ dX11_often_15 (pc2 := 18) rfl rfl (fun x3 m4 => ?_)
    refine lu_if_ne (tgt := 23) X dX11_often_18 (pc2 := 21) rfl (by decide) (fun _ => ?_) (fun _ => ?_)
    · refine lu_aload_n X dX11_often_23 (pc2 := 24) rfl rfl 0 rfl ?_
      refine lu_getr (r2 := 1) X rfl fl11_18 rfl kC_0 lC_0 dX11_often_24 (pc2 := 27) rfl ?_
      refine lu_get X fl11_281 rfl kC_1 lC_1 dX11_often_27 (pc2 := 30) rfl ?_
      refine lu_topi (fun x5 => ?_)
      refine lu_istore_n (lv2 := [(3, .int x5), (0, .ref (ρ 0)), (1, .int a1), (2, .int a2)]) X dX11_often_30 (pc2 := 31) rfl rfl (by decide) rfl ?_
      refine lu_iconst X dX11_often_31 (pc2 := 32) rfl ic_0 ?_
      refine lu_istore (lv2 := [(4, .int (0 : Int32)), (3, .int x5), (0, .ref (ρ 0)), (1, .int a1), (2, .int a2)]) X dX11_often_32 (pc2 := 34) rfl (by decide) rfl ?_
      refine lu_iconst X dX11_often_34 (pc2 := 35) rfl ic_0 ?_
      refine lu_istore (lv2 := [(5, .int (0 : Int32)), (4, .int (0 : Int32)), (3, .int x5), (0, .ref (ρ 0)), (1, .int a1), (2, .int a2)]) X dX11_often_35 (pc2 := 37) rfl (by decide) rfl ?_
      exact lu_sub [3, 4, 5, 2, 1, 0] rfl (w11_often_b37 X hret (w11_often_b126 X hret) lu_fu x5 (0 : Int32) (0 : Int32) m4)
    · exact lu_sub [] rfl (w11_often_b21 X hret m4)

theorem dX11_prove_0 : decode cX11_prove 0 = .ok (.iload_n 1, 1) := by decide +kernel
theorem dX11_prove_1 : decode cX11_prove 1 = .ok (.iconst 0, 1) := by decide +kernel
theorem dX11_prove_2 : decode cX11_prove 2 = .ok (.iconst 4, 1) := by decide +kernel
theorem dX11_prove_3 : decode cX11_prove 3 = .ok (.invokestatic 92, 3) := by decide +kernel
theorem dX11_prove_6 : decode cX11_prove 6 = .ok (.ifCond .ne 5, 3) := by decide +kernel
theorem dX11_prove_9 : decode cX11_prove 9 = .ok (.iconst (-1), 1) := by decide +kernel
theorem dX11_prove_10 : decode cX11_prove 10 = .ok (.ireturn, 1) := by decide +kernel
theorem dX11_prove_11 : decode cX11_prove 11 = .ok (.aload_n 0, 1) := by decide +kernel
theorem dX11_prove_12 : decode cX11_prove 12 = .ok (.getfield 41, 3) := by decide +kernel
theorem dX11_prove_15 : decode cX11_prove 15 = .ok (.iload_n 1, 1) := by decide +kernel
theorem dX11_prove_16 : decode cX11_prove 16 = .ok (.iconst 0, 1) := by decide +kernel
theorem dX11_prove_17 : decode cX11_prove 17 = .ok (.invokevirtual 238, 3) := by decide +kernel
theorem dX11_prove_20 : decode cX11_prove 20 = .ok (.aload_n 0, 1) := by decide +kernel
theorem dX11_prove_21 : decode cX11_prove 21 = .ok (.getfield 32, 3) := by decide +kernel
theorem dX11_prove_24 : decode cX11_prove 24 = .ok (.aload_n 0, 1) := by decide +kernel
theorem dX11_prove_25 : decode cX11_prove 25 = .ok (.getfield 18, 3) := by decide +kernel
theorem dX11_prove_28 : decode cX11_prove 28 = .ok (.getfield 115, 3) := by decide +kernel
theorem dX11_prove_31 : decode cX11_prove 31 = .ok (.invokevirtual 203, 3) := by decide +kernel
theorem dX11_prove_34 : decode cX11_prove 34 = .ok (.iconst 0, 1) := by decide +kernel
theorem dX11_prove_35 : decode cX11_prove 35 = .ok (.istore_n 2, 1) := by decide +kernel
theorem dX11_prove_36 : decode cX11_prove 36 = .ok (.iload_n 2, 1) := by decide +kernel
theorem dX11_prove_37 : decode cX11_prove 37 = .ok (.aload_n 0, 1) := by decide +kernel
theorem dX11_prove_38 : decode cX11_prove 38 = .ok (.getfield 41, 3) := by decide +kernel
theorem dX11_prove_41 : decode cX11_prove 41 = .ok (.getfield 245, 3) := by decide +kernel
theorem dX11_prove_44 : decode cX11_prove 44 = .ok (.if_icmp .ge 69, 3) := by decide +kernel
theorem dX11_prove_47 : decode cX11_prove 47 = .ok (.aload_n 0, 1) := by decide +kernel
theorem dX11_prove_48 : decode cX11_prove 48 = .ok (.getfield 67, 3) := by decide +kernel
theorem dX11_prove_51 : decode cX11_prove 51 = .ok (.iload_n 2, 1) := by decide +kernel
theorem dX11_prove_52 : decode cX11_prove 52 = .ok (.aaload, 1) := by decide +kernel
theorem dX11_prove_53 : decode cX11_prove 53 = .ok (.iconst 0, 1) := by decide +kernel
theorem dX11_prove_54 : decode cX11_prove 54 = .ok (.aload_n 0, 1) := by decide +kernel
theorem dX11_prove_55 : decode cX11_prove 55 = .ok (.getfield 41, 3) := by decide +kernel
theorem dX11_prove_58 : decode cX11_prove 58 = .ok (.getfield 246, 3) := by decide +kernel
theorem dX11_prove_61 : decode cX11_prove 61 = .ok (.iload_n 2, 1) := by decide +kernel
theorem dX11_prove_62 : decode cX11_prove 62 = .ok (.iaload, 1) := by decide +kernel
theorem dX11_prove_63 : decode cX11_prove 63 = .ok (.iastore, 1) := by decide +kernel
theorem dX11_prove_64 : decode cX11_prove 64 = .ok (.aload_n 0, 1) := by decide +kernel
theorem dX11_prove_65 : decode cX11_prove 65 = .ok (.getfield 67, 3) := by decide +kernel
theorem dX11_prove_68 : decode cX11_prove 68 = .ok (.iload_n 2, 1) := by decide +kernel
theorem dX11_prove_69 : decode cX11_prove 69 = .ok (.aaload, 1) := by decide +kernel
theorem dX11_prove_70 : decode cX11_prove 70 = .ok (.iconst 1, 1) := by decide +kernel
theorem dX11_prove_71 : decode cX11_prove 71 = .ok (.aload_n 0, 1) := by decide +kernel
theorem dX11_prove_72 : decode cX11_prove 72 = .ok (.getfield 18, 3) := by decide +kernel
theorem dX11_prove_75 : decode cX11_prove 75 = .ok (.aload_n 0, 1) := by decide +kernel
theorem dX11_prove_76 : decode cX11_prove 76 = .ok (.getfield 32, 3) := by decide +kernel
theorem dX11_prove_79 : decode cX11_prove 79 = .ok (.aload_n 0, 1) := by decide +kernel
theorem dX11_prove_80 : decode cX11_prove 80 = .ok (.getfield 41, 3) := by decide +kernel
theorem dX11_prove_83 : decode cX11_prove 83 = .ok (.getfield 246, 3) := by decide +kernel
theorem dX11_prove_86 : decode cX11_prove 86 = .ok (.iload_n 2, 1) := by decide +kernel
theorem dX11_prove_87 : decode cX11_prove 87 = .ok (.iaload, 1) := by decide +kernel
theorem dX11_prove_88 : decode cX11_prove 88 = .ok (.invokevirtual 195, 3) := by decide +kernel
theorem dX11_prove_91 : decode cX11_prove 91 = .ok (.iastore, 1) := by decide +kernel
theorem dX11_prove_92 : decode cX11_prove 92 = .ok (.aload_n 0, 1) := by decide +kernel
theorem dX11_prove_93 : decode cX11_prove 93 = .ok (.getfield 67, 3) := by decide +kernel
theorem dX11_prove_96 : decode cX11_prove 96 = .ok (.iload_n 2, 1) := by decide +kernel
theorem dX11_prove_97 : decode cX11_prove 97 = .ok (.aaload, 1) := by decide +kernel
theorem dX11_prove_98 : decode cX11_prove 98 = .ok (.iconst 2, 1) := by decide +kernel
theorem dX11_prove_99 : decode cX11_prove 99 = .ok (.aload_n 0, 1) := by decide +kernel
theorem dX11_prove_100 : decode cX11_prove 100 = .ok (.getfield 32, 3) := by decide +kernel
theorem dX11_prove_103 : decode cX11_prove 103 = .ok (.getfield 287, 3) := by decide +kernel
theorem dX11_prove_106 : decode cX11_prove 106 = .ok (.iastore, 1) := by decide +kernel
theorem dX11_prove_107 : decode cX11_prove 107 = .ok (.iinc 2 1, 3) := by decide +kernel
theorem dX11_prove_110 : decode cX11_prove 110 = .ok (.goto (-74), 3) := by decide +kernel
theorem dX11_prove_113 : decode cX11_prove 113 = .ok (.aload_n 0, 1) := by decide +kernel
theorem dX11_prove_114 : decode cX11_prove 114 = .ok (.aload_n 0, 1) := by decide +kernel
theorem dX11_prove_115 : decode cX11_prove 115 = .ok (.getfield 41, 3) := by decide +kernel
theorem dX11_prove_118 : decode cX11_prove 118 = .ok (.getfield 245, 3) := by decide +kernel
theorem dX11_prove_121 : decode cX11_prove 121 = .ok (.putfield 70, 3) := by decide +kernel
theorem dX11_prove_124 : decode cX11_prove 124 = .ok (.aload_n 0, 1) := by decide +kernel
theorem dX11_prove_125 : decode cX11_prove 125 = .ok (.getfield 70, 3) := by decide +kernel
theorem dX11_prove_128 : decode cX11_prove 128 = .ok (.ireturn, 1) := by decide +kernel
def f11_prove_b36B (K113 : lu_M → Option (Int32 × lu_M)) (rec : Int32 → lu_M → Option (Int32 × lu_M)) (a1 : Int32) (v2 : Int32) (m : lu_M) : Option (Int32 × lu_M) :=
  if (m 74 4) ≤ v2 then (K113 m)
  else (lu_gd (lu_ib v2 4) <|
  lu_gd (lu_ib v2 4) <|
  lu_nm (lu_st m (99 + 1 + v2.toNatClampNeg) 0 (m 82 v2.toNatClampNeg)) fun m6 =>
  lu_gd (lu_ib v2 4) <|
  lu_gd (lu_ib v2 4) <|
  lu_bi (f10_pass 1 73 (m6 82 v2.toNatClampNeg) m6) fun x8 m9 =>
  lu_nm (lu_st m9 (99 + 1 + v2.toNatClampNeg) 1 x8) fun m10 =>
  lu_gd (lu_ib v2 4) <|
  lu_nm (lu_st m10 (99 + 1 + v2.toNatClampNeg) 2 (m10 73 1)) fun m12 =>
  rec (v2 + (1 : Int32)) m12)
def f11_prove_b36 (K113 : lu_M → Option (Int32 × lu_M)) (a1 : Int32) : Nat → Int32 → lu_M → Option (Int32 × lu_M)
  | 0, _, _ => none
  | n + 1, v2, m => f11_prove_b36B K113 (f11_prove_b36 K113 a1 n) a1 v2 m
set_option maxRecDepth 20000 in
theorem w11_prove_b36B  {G : lu_G} {ρ : Nat → Nat} {a1 : Int32} {K113 : lu_M → Option (Int32 × lu_M)} {rec : Int32 → lu_M → Option (Int32 × lu_M)} (X : lu_X G RX11 cX11_prove 3 32 777) (hret : (lu_me G).sig.returnType = (some .int))  (hK113 : ∀  (m : lu_M), lu_Ab lu_TC G (lu_Q lu_TC G ρ lu_RVi lu_sn) (K113 m) 113 [(0, .ref (ρ 0))] [] ρ 0 0 [] m) (hrec : ∀ (v2 : Int32) (m : lu_M), lu_Ab lu_TC G (lu_Q lu_TC G ρ lu_RVi lu_sn) (rec v2 m) 36 [(0, .ref (ρ 0)), (2, .int v2)] [] ρ 0 0 [] m) : ∀ (v2 : Int32) (m : lu_M), lu_Ab lu_TC G (lu_Q lu_TC G ρ lu_RVi lu_sn) (f11_prove_b36B K113 rec a1 v2 m) 36 [(0, .ref (ρ 0)), (2, .int v2)] [] ρ 0 0 [] m := by
  intro v2 m
  unfold f11_prove_b36B
  refine lu_iload_n X dX11_prove_36 (pc2 := 37) rfl rfl 1 rfl ?_
  refine lu_aload_n X dX11_prove_37 (pc2 := 38) rfl rfl 0 rfl ?_
  refine lu_getr (r2 := 74) X rfl fl11_41 rfl kC_0 lC_0 dX11_prove_38 (pc2 := 41) rfl ?_
  refine lu_get X fl11_245 rfl kC_74 lC_74 dX11_prove_41 (pc2 := 44) rfl ?_
  refine lu_icmp_ge (tgt := 113) X dX11_prove_44 (pc2 := 47) rfl (by decide) (fun _ => ?_) (fun _ => ?_)
  · exact lu_sub [0] rfl (hK113 m)
  · refine lu_aload_n X dX11_prove_47 (pc2 := 48) rfl rfl 0 rfl ?_
    refine lu_getr (r2 := 99) X rfl fl11_67 rfl kC_0 lC_0 dX11_prove_48 (pc2 := 51) rfl ?_
    refine lu_iload_n X dX11_prove_51 (pc2 := 52) rfl rfl 1 rfl ?_
    refine lu_aald X rfl rfl (by decide) (by decide) kC_99 lC_99 dX11_prove_52 (pc2 := 53) rfl (fun g5 => ?_)
    refine lu_iconst X dX11_prove_53 (pc2 := 54) rfl ic_0 ?_
    refine lu_aload_n X dX11_prove_54 (pc2 := 55) rfl rfl 0 rfl ?_
    refine lu_getr (r2 := 74) X rfl fl11_41 rfl kC_0 lC_0 dX11_prove_55 (pc2 := 58) rfl ?_
    refine lu_getr (r2 := 82) X rfl fl11_246 rfl kC_74 lC_74 dX11_prove_58 (pc2 := 61) rfl ?_
    refine lu_iload_n X dX11_prove_61 (pc2 := 62) rfl rfl 1 rfl ?_
    refine lu_iald X kC_82 lC_82 dX11_prove_62 (pc2 := 63) rfl ?_
    refine lu_iastK (q := 0) X (by decide) ((kaC_3_4_3 kC_99 lC_99 g5).1) ((kaC_3_4_3 kC_99 lC_99 g5).2) dX11_prove_63 (pc2 := 64) rfl (fun m6 => ?_)
    refine lu_aload_n X dX11_prove_64 (pc2 := 65) rfl rfl 0 rfl ?_
    refine lu_getr (r2 := 99) X rfl fl11_67 rfl kC_0 lC_0 dX11_prove_65 (pc2 := 68) rfl ?_
    refine lu_iload_n X dX11_prove_68 (pc2 := 69) rfl rfl 1 rfl ?_
    refine lu_aald X rfl rfl (by decide) (by decide) kC_99 lC_99 dX11_prove_69 (pc2 := 70) rfl (fun g7 => ?_)
    refine lu_iconst X dX11_prove_70 (pc2 := 71) rfl ic_1 ?_
    refine lu_aload_n X dX11_prove_71 (pc2 := 72) rfl rfl 0 rfl ?_
    refine lu_getr (r2 := 1) X rfl fl11_18 rfl kC_0 lC_0 dX11_prove_72 (pc2 := 75) rfl ?_
    refine lu_aload_n X dX11_prove_75 (pc2 := 76) rfl rfl 0 rfl ?_
    refine lu_getr (r2 := 73) X rfl fl11_32 rfl kC_0 lC_0 dX11_prove_76 (pc2 := 79) rfl ?_
    refine lu_aload_n X dX11_prove_79 (pc2 := 80) rfl rfl 0 rfl ?_
    refine lu_getr (r2 := 74) X rfl fl11_41 rfl kC_0 lC_0 dX11_prove_80 (pc2 := 83) rfl ?_
    refine lu_getr (r2 := 82) X rfl fl11_246 rfl kC_74 lC_74 dX11_prove_83 (pc2 := 86) rfl ?_
    refine lu_iload_n X dX11_prove_86 (pc2 := 87) rfl rfl 1 rfl ?_
    refine lu_iald X kC_82 lC_82 dX11_prove_87 (pc2 := 88) rfl ?_
    refine lu_invVi X (c10_pass _ kC_1 lC_1 kC_73 lC_73 (m6 82 v2.toNatClampNeg)) rfl q721 mvV_10_pass kC_1 lC_1 (by decide) ⟨_, rfl, rfl⟩ rfl rfl (Nat.le_of_ble_eq_true rfl) (Nat.le_of_ble_eq_true rfl) (Nat.le_of_ble_eq_true rfl) ⟨Nat.zero_le _, Nat.zero_le _⟩ dX11_prove_88 (pc2 := 91) rfl rfl (fun x8 m9 => ?_)
    refine lu_iastK (q := 1) X (by decide) ((kaC_3_4_3 kC_99 lC_99 g7).1) ((kaC_3_4_3 kC_99 lC_99 g7).2) dX11_prove_91 (pc2 := 92) rfl (fun m10 => ?_)
    refine lu_aload_n X dX11_prove_92 (pc2 := 93) rfl rfl 0 rfl ?_
    refine lu_getr (r2 := 99) X rfl fl11_67 rfl kC_0 lC_0 dX11_prove_93 (pc2 := 96) rfl ?_
    refine lu_iload_n X dX11_prove_96 (pc2 := 97) rfl rfl 1 rfl ?_
    refine lu_aald X rfl rfl (by decide) (by decide) kC_99 lC_99 dX11_prove_97 (pc2 := 98) rfl (fun g11 => ?_)
    refine lu_iconst X dX11_prove_98 (pc2 := 99) rfl ic_2 ?_
    refine lu_aload_n X dX11_prove_99 (pc2 := 100) rfl rfl 0 rfl ?_
    refine lu_getr (r2 := 73) X rfl fl11_32 rfl kC_0 lC_0 dX11_prove_100 (pc2 := 103) rfl ?_
    refine lu_get X fl11_287 rfl kC_73 lC_73 dX11_prove_103 (pc2 := 106) rfl ?_
    refine lu_iastK (q := 2) X (by decide) ((kaC_3_4_3 kC_99 lC_99 g11).1) ((kaC_3_4_3 kC_99 lC_99 g11).2) dX11_prove_106 (pc2 := 107) rfl (fun m12 => ?_)
    refine lu_iinc (lv2 := [(2, .int (v2 + (1 : Int32))), (0, .ref (ρ 0))]) X dX11_prove_107 (pc2 := 110) rfl 1 rfl (lu_ii _ ic_1) (by decide) rfl ?_
    refine lu_goto (tgt := 36) X dX11_prove_110 (by decide) ?_
    exact lu_sub [1, 0] rfl (hrec (v2 + (1 : Int32)) m12)
theorem w11_prove_b36  {G : lu_G} {ρ : Nat → Nat} {a1 : Int32} {K113 : lu_M → Option (Int32 × lu_M)} (X : lu_X G RX11 cX11_prove 3 32 777) (hret : (lu_me G).sig.returnType = (some .int))  (hK113 : ∀  (m : lu_M), lu_Ab lu_TC G (lu_Q lu_TC G ρ lu_RVi lu_sn) (K113 m) 113 [(0, .ref (ρ 0))] [] ρ 0 0 [] m) : ∀ (n : Nat) (v2 : Int32) (m : lu_M), lu_Ab lu_TC G (lu_Q lu_TC G ρ lu_RVi lu_sn) (f11_prove_b36 K113 a1 n v2 m) 36 [(0, .ref (ρ 0)), (2, .int v2)] [] ρ 0 0 [] m := by
  intro n
  induction n with
  | zero => intro v2 m; exact lu_none
  | succ n ih => intro v2 m; exact w11_prove_b36B X hret hK113 ih v2 m
def f11_prove_b113  (a1 : Int32)  (m : lu_M) : Option (Int32 × lu_M) :=
  lu_nm (lu_st m 0 9 (m 74 4)) fun m13 =>
  some ((m13 0 9), m13)
set_option maxRecDepth 20000 in
theorem w11_prove_b113  {G : lu_G} {ρ : Nat → Nat} {a1 : Int32}  (X : lu_X G RX11 cX11_prove 3 32 777) (hret : (lu_me G).sig.returnType = (some .int))   : ∀  (m : lu_M), lu_Ab lu_TC G (lu_Q lu_TC G ρ lu_RVi lu_sn) (f11_prove_b113 a1 m) 113 [(0, .ref (ρ 0))] [] ρ 0 0 [] m := by
  intro  m
  unfold f11_prove_b113
  refine lu_aload_n X dX11_prove_113 (pc2 := 114) rfl rfl 0 rfl ?_
  refine lu_aload_n X dX11_prove_114 (pc2 := 115) rfl rfl 0 rfl ?_
  refine lu_getr (r2 := 74) X rfl fl11_41 rfl kC_0 lC_0 dX11_prove_115 (pc2 := 118) rfl ?_
  refine lu_get X fl11_245 rfl kC_74 lC_74 dX11_prove_118 (pc2 := 121) rfl ?_
  refine lu_put X fl11_70 rfl (Or.inl (by decide)) rfl (by decide +kernel) kC_0 lC_0 dX11_prove_121 (pc2 := 124) rfl (fun m13 => ?_)
  refine lu_aload_n X dX11_prove_124 (pc2 := 125) rfl rfl 0 rfl ?_
  refine lu_get X fl11_70 rfl kC_0 lC_0 dX11_prove_125 (pc2 := 128) rfl ?_
  exact lu_iret X hret dX11_prove_128
def f11_prove (a1 : Int32) (m : lu_M) : Option (Int32 × lu_M) :=
  lu_bi (f11_isWithin a1 (0 : Int32) (4 : Int32) m) fun x1 m2 =>
  if x1 = 0 then (some ((-1 : Int32), m2))
  else (lu_bv (f5_tryAll a1 (0 : Int32) m2) fun m3 =>
  lu_bv (f1_begin 73 29 m3) fun m4 =>
  f11_prove_b36 (f11_prove_b113 a1) a1 lu_fu (0 : Int32) m4)
set_option maxRecDepth 20000 in
theorem c11_prove (l : Launch)   (a1 : Int32) : lu_C lu_TC l yX11_prove cX11_prove 3 (some .int) 32 777 (fun ρ sa => [.ref (ρ 0), .int a1]) (f11_prove a1) lu_RVi lu_sn := by
  refine lu_met (cls := RX11) rfl (by decide +kernel) (fun _ _ => Nat.le_of_ble_eq_true rfl) ?_
  intro G ρ m hl X hret
  subst hl
  change lu_Ab lu_TC G (lu_Q lu_TC G ρ lu_RVi lu_sn) (f11_prove a1 m) 0 [(0, .ref (ρ 0)), (1, .int a1)] [] ρ 0 0 [] m
  unfold f11_prove
  refine lu_iload_n X dX11_prove_0 (pc2 := 1) rfl rfl 1 rfl ?_
  refine lu_iconst X dX11_prove_1 (pc2 := 2) rfl ic_0 ?_
  refine lu_iconst X dX11_prove_2 (pc2 := 3) rfl ic_4 ?_
  refine lu_invSi X (c11_isWithin _ a1 (0 : Int32) (4 : Int32)) rfl q433 mvS_11_isWithin rfl rfl (Nat.le_of_ble_eq_true rfl) (Nat.le_of_ble_eq_true rfl) (Nat.le_of_ble_eq_true rfl) ⟨Nat.zero_le _, Nat.zero_le _⟩ dX11_prove_3 (pc2 := 6) rfl rfl (fun x1 m2 => ?_)
  refine lu_if_ne (tgt := 11) X dX11_prove_6 (pc2 := 9) rfl (by decide) (fun _ => ?_) (fun _ => ?_)
  · refine lu_aload_n X dX11_prove_11 (pc2 := 12) rfl rfl 0 rfl ?_
    refine lu_getr (r2 := 74) X rfl fl11_41 rfl kC_0 lC_0 dX11_prove_12 (pc2 := 15) rfl ?_
    refine lu_iload_n X dX11_prove_15 (pc2 := 16) rfl rfl 1 rfl ?_
    refine lu_iconst X dX11_prove_16 (pc2 := 17) rfl ic_0 ?_
    refine lu_invVv X (c5_tryAll _ a1 (0 : Int32)) rfl q830 mvV_5_tryAll kC_74 lC_74 (by decide) ⟨_, rfl, rfl⟩ rfl rfl (Nat.le_of_ble_eq_true rfl) (Nat.le_of_ble_eq_true rfl) (Nat.le_of_ble_eq_true rfl) ⟨Nat.zero_le _, Nat.zero_le _⟩ dX11_prove_17 (pc2 := 20) rfl rfl (fun m3 => ?_)
    refine lu_aload_n X dX11_prove_20 (pc2 := 21) rfl rfl 0 rfl ?_
    refine lu_getr (r2 := 73) X rfl fl11_32 rfl kC_0 lC_0 dX11_prove_21 (pc2 := 24) rfl ?_
    refine lu_aload_n X dX11_prove_24 (pc2 := 25) rfl rfl 0 rfl ?_
    refine lu_getr (r2 := 1) X rfl fl11_18 rfl kC_0 lC_0 dX11_prove_25 (pc2 := 28) rfl ?_
    refine lu_getr (r2 := 29) X rfl fl11_115 rfl kC_1 lC_1 dX11_prove_28 (pc2 := 31) rfl ?_
    refine lu_invVv X (c1_begin _ kC_73 lC_73 kC_29 lC_29) rfl q766 mvV_1_begin kC_73 lC_73 (by decide) ⟨_, rfl, rfl⟩ rfl rfl (Nat.le_of_ble_eq_true rfl) (Nat.le_of_ble_eq_true rfl) (Nat.le_of_ble_eq_true rfl) ⟨Nat.zero_le _, Nat.zero_le _⟩ dX11_prove_31 (pc2 := 34) rfl rfl (fun m4 => ?_)
    refine lu_iconst X dX11_prove_34 (pc2 := 35) rfl ic_0 ?_
    refine lu_istore_n (lv2 := [(2, .int (0 : Int32)), (0, .ref (ρ 0)), (1, .int a1)]) X dX11_prove_35 (pc2 := 36) rfl rfl (by decide) rfl ?_
    exact lu_sub [1, 0] rfl (w11_prove_b36 X hret (w11_prove_b113 X hret) lu_fu (0 : Int32) m4)
  · refine lu_iconst X dX11_prove_9 (pc2 := 10) rfl ic_m1 ?_
    exact lu_iret X hret dX11_prove_10

theorem dX11_row_0 : decode cX11_row 0 = .ok (.iload_n 1, 1) := by decide +kernel
theorem dX11_row_1 : decode cX11_row 1 = .ok (.iconst 0, 1) := by decide +kernel
theorem dX11_row_2 : decode cX11_row 2 = .ok (.aload_n 0, 1) := by decide +kernel
theorem dX11_row_3 : decode cX11_row 3 = .ok (.getfield 70, 3) := by decide +kernel
theorem dX11_row_6 : decode cX11_row 6 = .ok (.iconst 1, 1) := by decide +kernel
theorem dX11_row_7 : decode cX11_row 7 = .ok (.isub, 1) := by decide +kernel
theorem dX11_row_8 : decode cX11_row 8 = .ok (.invokestatic 92, 3) := by decide +kernel
theorem dX11_row_11 : decode cX11_row 11 = .ok (.ifCond .eq 12, 3) := by decide +kernel
theorem dX11_row_14 : decode cX11_row 14 = .ok (.iload_n 2, 1) := by decide +kernel
theorem dX11_row_15 : decode cX11_row 15 = .ok (.iconst 0, 1) := by decide +kernel
theorem dX11_row_16 : decode cX11_row 16 = .ok (.iconst 2, 1) := by decide +kernel
theorem dX11_row_17 : decode cX11_row 17 = .ok (.invokestatic 92, 3) := by decide +kernel
theorem dX11_row_20 : decode cX11_row 20 = .ok (.ifCond .ne 6, 3) := by decide +kernel
theorem dX11_row_23 : decode cX11_row 23 = .ok (.bipush (-9), 2) := by decide +kernel
theorem dX11_row_25 : decode cX11_row 25 = .ok (.ireturn, 1) := by decide +kernel
theorem dX11_row_26 : decode cX11_row 26 = .ok (.aload_n 0, 1) := by decide +kernel
theorem dX11_row_27 : decode cX11_row 27 = .ok (.getfield 67, 3) := by decide +kernel
theorem dX11_row_30 : decode cX11_row 30 = .ok (.iload_n 1, 1) := by decide +kernel
theorem dX11_row_31 : decode cX11_row 31 = .ok (.aaload, 1) := by decide +kernel
theorem dX11_row_32 : decode cX11_row 32 = .ok (.iload_n 2, 1) := by decide +kernel
theorem dX11_row_33 : decode cX11_row 33 = .ok (.iaload, 1) := by decide +kernel
theorem dX11_row_34 : decode cX11_row 34 = .ok (.ireturn, 1) := by decide +kernel
def f11_row_b23  (a1 : Int32) (a2 : Int32)  (m : lu_M) : Option (Int32 × lu_M) :=
  some ((-9 : Int32), m)
set_option maxRecDepth 20000 in
theorem w11_row_b23  {G : lu_G} {ρ : Nat → Nat} {a1 : Int32} {a2 : Int32}  (X : lu_X G RX11 cX11_row 3 1 22) (hret : (lu_me G).sig.returnType = (some .int))   : ∀  (m : lu_M), lu_Ab lu_TC G (lu_Q lu_TC G ρ lu_RVi lu_sn) (f11_row_b23 a1 a2 m) 23 [] [] ρ 0 0 [] m := by
  intro  m
  unfold f11_row_b23
  refine lu_bipush X dX11_row_23 (pc2 := 25) rfl bp_m9 ?_
  exact lu_iret X hret dX11_row_25
def f11_row (a1 : Int32) (a2 : Int32) (m : lu_M) : Option (Int32 × lu_M) :=
  lu_bi (f11_isWithin a1 (0 : Int32) ((m 0 9) - (1 : Int32)) m) fun x1 m2 =>
  if x1 = 0 then (f11_row_b23 a1 a2 m2)
  else (lu_bi (f11_isWithin a2 (0 : Int32) (2 : Int32) m2) fun x3 m4 =>
  if x3 = 0 then (f11_row_b23 a1 a2 m4)
  else (lu_gd (lu_ib a1 4) <|
  lu_gd (lu_ib a2 3) <|
  some ((m4 (99 + 1 + a1.toNatClampNeg) a2.toNatClampNeg), m4)))
set_option maxRecDepth 20000 in
theorem c11_row (l : Launch)   (a1 : Int32) (a2 : Int32) : lu_C lu_TC l yX11_row cX11_row 3 (some .int) 1 22 (fun ρ sa => [.ref (ρ 0), .int a1, .int a2]) (f11_row a1 a2) lu_RVi lu_sn := by
  refine lu_met (cls := RX11) rfl (by decide +kernel) (fun _ _ => Nat.le_of_ble_eq_true rfl) ?_
  intro G ρ m hl X hret
  subst hl
  change lu_Ab lu_TC G (lu_Q lu_TC G ρ lu_RVi lu_sn) (f11_row a1 a2 m) 0 [(0, .ref (ρ 0)), (1, .int a1), (2, .int a2)] [] ρ 0 0 [] m
  unfold f11_row
  refine lu_iload_n X dX11_row_0 (pc2 := 1) rfl rfl 1 rfl ?_
  refine lu_iconst X dX11_row_1 (pc2 := 2) rfl ic_0 ?_
  refine lu_aload_n X dX11_row_2 (pc2 := 3) rfl rfl 0 rfl ?_
  refine lu_get X fl11_70 rfl kC_0 lC_0 dX11_row_3 (pc2 := 6) rfl ?_
  refine lu_iconst X dX11_row_6 (pc2 := 7) rfl ic_1 ?_
  refine lu_isub X dX11_row_7 (pc2 := 8) rfl ?_
  refine lu_invSi X (c11_isWithin _ a1 (0 : Int32) ((m 0 9) - (1 : Int32))) rfl q433 mvS_11_isWithin rfl rfl (Nat.le_of_ble_eq_true rfl) (Nat.le_of_ble_eq_true rfl) (Nat.le_of_ble_eq_true rfl) ⟨Nat.zero_le _, Nat.zero_le _⟩ dX11_row_8 (pc2 := 11) rfl rfl (fun x1 m2 => ?_)
  refine lu_if_eq (tgt := 23) X dX11_row_11 (pc2 := 14) rfl (by decide) (fun _ => ?_) (fun _ => ?_)
  · exact lu_sub [] rfl (w11_row_b23 X hret m2)
  · refine lu_iload_n X dX11_row_14 (pc2 := 15) rfl rfl 2 rfl ?_
    refine lu_iconst X dX11_row_15 (pc2 := 16) rfl ic_0 ?_
    refine lu_iconst X dX11_row_16 (pc2 := 17) rfl ic_2 ?_
    refine lu_invSi X (c11_isWithin _ a2 (0 : Int32) (2 : Int32)) rfl q433 mvS_11_isWithin rfl rfl (Nat.le_of_ble_eq_true rfl) (Nat.le_of_ble_eq_true rfl) (Nat.le_of_ble_eq_true rfl) ⟨Nat.zero_le _, Nat.zero_le _⟩ dX11_row_17 (pc2 := 20) rfl rfl (fun x3 m4 => ?_)
    refine lu_if_ne (tgt := 26) X dX11_row_20 (pc2 := 23) rfl (by decide) (fun _ => ?_) (fun _ => ?_)
    · refine lu_aload_n X dX11_row_26 (pc2 := 27) rfl rfl 0 rfl ?_
      refine lu_getr (r2 := 99) X rfl fl11_67 rfl kC_0 lC_0 dX11_row_27 (pc2 := 30) rfl ?_
      refine lu_iload_n X dX11_row_30 (pc2 := 31) rfl rfl 1 rfl ?_
      refine lu_aald X rfl rfl (by decide) (by decide) kC_99 lC_99 dX11_row_31 (pc2 := 32) rfl (fun g5 => ?_)
      refine lu_iload_n X dX11_row_32 (pc2 := 33) rfl rfl 2 rfl ?_
      refine lu_iald X ((kaC_3_4_3 kC_99 lC_99 g5).1) ((kaC_3_4_3 kC_99 lC_99 g5).2) dX11_row_33 (pc2 := 34) rfl ?_
      exact lu_iret X hret dX11_row_34
    · exact lu_sub [] rfl (w11_row_b23 X hret m4)

theorem dX11_alterRow_0 : decode cX11_alterRow 0 = .ok (.iload_n 1, 1) := by decide +kernel
theorem dX11_alterRow_1 : decode cX11_alterRow 1 = .ok (.iconst 0, 1) := by decide +kernel
theorem dX11_alterRow_2 : decode cX11_alterRow 2 = .ok (.aload_n 0, 1) := by decide +kernel
theorem dX11_alterRow_3 : decode cX11_alterRow 3 = .ok (.getfield 70, 3) := by decide +kernel
theorem dX11_alterRow_6 : decode cX11_alterRow 6 = .ok (.iconst 1, 1) := by decide +kernel
theorem dX11_alterRow_7 : decode cX11_alterRow 7 = .ok (.isub, 1) := by decide +kernel
theorem dX11_alterRow_8 : decode cX11_alterRow 8 = .ok (.invokestatic 92, 3) := by decide +kernel
theorem dX11_alterRow_11 : decode cX11_alterRow 11 = .ok (.ifCond .eq 12, 3) := by decide +kernel
theorem dX11_alterRow_14 : decode cX11_alterRow 14 = .ok (.iload_n 2, 1) := by decide +kernel
theorem dX11_alterRow_15 : decode cX11_alterRow 15 = .ok (.iconst 0, 1) := by decide +kernel
theorem dX11_alterRow_16 : decode cX11_alterRow 16 = .ok (.iconst 2, 1) := by decide +kernel
theorem dX11_alterRow_17 : decode cX11_alterRow 17 = .ok (.invokestatic 92, 3) := by decide +kernel
theorem dX11_alterRow_20 : decode cX11_alterRow 20 = .ok (.ifCond .ne 6, 3) := by decide +kernel
theorem dX11_alterRow_23 : decode cX11_alterRow 23 = .ok (.bipush (-9), 2) := by decide +kernel
theorem dX11_alterRow_25 : decode cX11_alterRow 25 = .ok (.ireturn, 1) := by decide +kernel
theorem dX11_alterRow_26 : decode cX11_alterRow 26 = .ok (.aload_n 0, 1) := by decide +kernel
theorem dX11_alterRow_27 : decode cX11_alterRow 27 = .ok (.getfield 67, 3) := by decide +kernel
theorem dX11_alterRow_30 : decode cX11_alterRow 30 = .ok (.iload_n 1, 1) := by decide +kernel
theorem dX11_alterRow_31 : decode cX11_alterRow 31 = .ok (.aaload, 1) := by decide +kernel
theorem dX11_alterRow_32 : decode cX11_alterRow 32 = .ok (.iload_n 2, 1) := by decide +kernel
theorem dX11_alterRow_33 : decode cX11_alterRow 33 = .ok (.iaload, 1) := by decide +kernel
theorem dX11_alterRow_34 : decode cX11_alterRow 34 = .ok (.istore 4, 2) := by decide +kernel
theorem dX11_alterRow_36 : decode cX11_alterRow 36 = .ok (.aload_n 0, 1) := by decide +kernel
theorem dX11_alterRow_37 : decode cX11_alterRow 37 = .ok (.getfield 67, 3) := by decide +kernel
theorem dX11_alterRow_40 : decode cX11_alterRow 40 = .ok (.iload_n 1, 1) := by decide +kernel
theorem dX11_alterRow_41 : decode cX11_alterRow 41 = .ok (.aaload, 1) := by decide +kernel
theorem dX11_alterRow_42 : decode cX11_alterRow 42 = .ok (.iload_n 2, 1) := by decide +kernel
theorem dX11_alterRow_43 : decode cX11_alterRow 43 = .ok (.iload_n 3, 1) := by decide +kernel
theorem dX11_alterRow_44 : decode cX11_alterRow 44 = .ok (.iastore, 1) := by decide +kernel
theorem dX11_alterRow_45 : decode cX11_alterRow 45 = .ok (.iload 4, 2) := by decide +kernel
theorem dX11_alterRow_47 : decode cX11_alterRow 47 = .ok (.ireturn, 1) := by decide +kernel
def f11_alterRow_b23  (a1 : Int32) (a2 : Int32) (a3 : Int32)  (m : lu_M) : Option (Int32 × lu_M) :=
  some ((-9 : Int32), m)
set_option maxRecDepth 20000 in
theorem w11_alterRow_b23  {G : lu_G} {ρ : Nat → Nat} {a1 : Int32} {a2 : Int32} {a3 : Int32}  (X : lu_X G RX11 cX11_alterRow 5 1 22) (hret : (lu_me G).sig.returnType = (some .int))   : ∀  (m : lu_M), lu_Ab lu_TC G (lu_Q lu_TC G ρ lu_RVi lu_sn) (f11_alterRow_b23 a1 a2 a3 m) 23 [] [] ρ 0 0 [] m := by
  intro  m
  unfold f11_alterRow_b23
  refine lu_bipush X dX11_alterRow_23 (pc2 := 25) rfl bp_m9 ?_
  exact lu_iret X hret dX11_alterRow_25
def f11_alterRow (a1 : Int32) (a2 : Int32) (a3 : Int32) (m : lu_M) : Option (Int32 × lu_M) :=
  lu_bi (f11_isWithin a1 (0 : Int32) ((m 0 9) - (1 : Int32)) m) fun x1 m2 =>
  if x1 = 0 then (f11_alterRow_b23 a1 a2 a3 m2)
  else (lu_bi (f11_isWithin a2 (0 : Int32) (2 : Int32) m2) fun x3 m4 =>
  if x3 = 0 then (f11_alterRow_b23 a1 a2 a3 m4)
  else (lu_gd (lu_ib a1 4) <|
  lu_gd (lu_ib a2 3) <|
  lu_nm ((m4 (99 + 1 + a1.toNatClampNeg) a2.toNatClampNeg)) fun x6 =>
  lu_gd (lu_ib a1 4) <|
  lu_gd (lu_ib a2 3) <|
  lu_nm (lu_st m4 (99 + 1 + a1.toNatClampNeg) a2.toNatClampNeg a3) fun m8 =>
  some (x6, m8)))
set_option maxRecDepth 20000 in
theorem c11_alterRow (l : Launch)   (a1 : Int32) (a2 : Int32) (a3 : Int32) : lu_C lu_TC l yX11_alterRow cX11_alterRow 5 (some .int) 1 22 (fun ρ sa => [.ref (ρ 0), .int a1, .int a2, .int a3]) (f11_alterRow a1 a2 a3) lu_RVi lu_sn := by
  refine lu_met (cls := RX11) rfl (by decide +kernel) (fun _ _ => Nat.le_of_ble_eq_true rfl) ?_
  intro G ρ m hl X hret
  subst hl
  change lu_Ab lu_TC G (lu_Q lu_TC G ρ lu_RVi lu_sn) (f11_alterRow a1 a2 a3 m) 0 [(0, .ref (ρ 0)), (1, .int a1), (2, .int a2), (3, .int a3)] [] ρ 0 0 [] m
  unfold f11_alterRow
  refine lu_iload_n X dX11_alterRow_0 (pc2 := 1) rfl rfl 1 rfl ?_
  refine lu_iconst X dX11_alterRow_1 (pc2 := 2) rfl ic_0 ?_
  refine lu_aload_n X dX11_alterRow_2 (pc2 := 3) rfl rfl 0 rfl ?_
  refine lu_get X fl11_70 rfl kC_0 lC_0 dX11_alterRow_3 (pc2 := 6) rfl ?_
  refine lu_iconst X dX11_alterRow_6 (pc2 := 7) rfl ic_1 ?_
  refine lu_isub X dX11_alterRow_7 (pc2 := 8) rfl ?_
  refine lu_invSi X (c11_isWithin _ a1 (0 : Int32) ((m 0 9) - (1 : Int32))) rfl q433 mvS_11_isWithin rfl rfl (Nat.le_of_ble_eq_true rfl) (Nat.le_of_ble_eq_true rfl) (Nat.le_of_ble_eq_true rfl) ⟨Nat.zero_le _, Nat.zero_le _⟩ dX11_alterRow_8 (pc2 := 11) rfl rfl (fun x1 m2 => ?_)
  refine lu_if_eq (tgt := 23) X dX11_alterRow_11 (pc2 := 14) rfl (by decide) (fun _ => ?_) (fun _ => ?_)
  · exact lu_sub [] rfl (w11_alterRow_b23 X hret m2)
  · refine lu_iload_n X dX11_alterRow_14 (pc2 := 15) rfl rfl 2 rfl ?_
    refine lu_iconst X dX11_alterRow_15 (pc2 := 16) rfl ic_0 ?_
    refine lu_iconst X dX11_alterRow_16 (pc2 := 17) rfl ic_2 ?_
    refine lu_invSi X (c11_isWithin _ a2 (0 : Int32) (2 : Int32)) rfl q433 mvS_11_isWithin rfl rfl (Nat.le_of_ble_eq_true rfl) (Nat.le_of_ble_eq_true rfl) (Nat.le_of_ble_eq_true rfl) ⟨Nat.zero_le _, Nat.zero_le _⟩ dX11_alterRow_17 (pc2 := 20) rfl rfl (fun x3 m4 => ?_)
    refine lu_if_ne (tgt := 26) X dX11_alterRow_20 (pc2 := 23) rfl (by decide) (fun _ => ?_) (fun _ => ?_)
    · refine lu_aload_n X dX11_alterRow_26 (pc2 := 27) rfl rfl 0 rfl ?_
      refine lu_getr (r2 := 99) X rfl fl11_67 rfl kC_0 lC_0 dX11_alterRow_27 (pc2 := 30) rfl ?_
      refine lu_iload_n X dX11_alterRow_30 (pc2 := 31) rfl rfl 1 rfl ?_
      refine lu_aald X rfl rfl (by decide) (by decide) kC_99 lC_99 dX11_alterRow_31 (pc2 := 32) rfl (fun g5 => ?_)
      refine lu_iload_n X dX11_alterRow_32 (pc2 := 33) rfl rfl 2 rfl ?_
      refine lu_iald X ((kaC_3_4_3 kC_99 lC_99 g5).1) ((kaC_3_4_3 kC_99 lC_99 g5).2) dX11_alterRow_33 (pc2 := 34) rfl ?_
      refine lu_topi (fun x6 => ?_)
      refine lu_istore (lv2 := [(4, .int x6), (0, .ref (ρ 0)), (1, .int a1), (2, .int a2), (3, .int a3)]) X dX11_alterRow_34 (pc2 := 36) rfl (by decide) rfl ?_
      refine lu_aload_n X dX11_alterRow_36 (pc2 := 37) rfl rfl 1 rfl ?_
      refine lu_getr (r2 := 99) X rfl fl11_67 rfl kC_0 lC_0 dX11_alterRow_37 (pc2 := 40) rfl ?_
      refine lu_iload_n X dX11_alterRow_40 (pc2 := 41) rfl rfl 2 rfl ?_
      refine lu_aald X rfl rfl (by decide) (by decide) kC_99 lC_99 dX11_alterRow_41 (pc2 := 42) rfl (fun g7 => ?_)
      refine lu_iload_n X dX11_alterRow_42 (pc2 := 43) rfl rfl 3 rfl ?_
      refine lu_iload_n X dX11_alterRow_43 (pc2 := 44) rfl rfl 4 rfl ?_
      refine lu_iast X ((kaC_3_4_3 kC_99 lC_99 g7).1) ((kaC_3_4_3 kC_99 lC_99 g7).2) dX11_alterRow_44 (pc2 := 45) rfl (fun m8 => ?_)
      refine lu_iload X dX11_alterRow_45 (pc2 := 47) rfl 0 rfl ?_
      exact lu_iret X hret dX11_alterRow_47
    · exact lu_sub [] rfl (w11_alterRow_b23 X hret m4)

theorem dX11_judge_0 : decode cX11_judge 0 = .ok (.aload_n 0, 1) := by decide +kernel
theorem dX11_judge_1 : decode cX11_judge 1 = .ok (.getfield 32, 3) := by decide +kernel
theorem dX11_judge_4 : decode cX11_judge 4 = .ok (.aload_n 0, 1) := by decide +kernel
theorem dX11_judge_5 : decode cX11_judge 5 = .ok (.getfield 18, 3) := by decide +kernel
theorem dX11_judge_8 : decode cX11_judge 8 = .ok (.getfield 115, 3) := by decide +kernel
theorem dX11_judge_11 : decode cX11_judge 11 = .ok (.invokevirtual 203, 3) := by decide +kernel
theorem dX11_judge_14 : decode cX11_judge 14 = .ok (.iconst 0, 1) := by decide +kernel
theorem dX11_judge_15 : decode cX11_judge 15 = .ok (.istore_n 1, 1) := by decide +kernel
theorem dX11_judge_16 : decode cX11_judge 16 = .ok (.iload_n 1, 1) := by decide +kernel
theorem dX11_judge_17 : decode cX11_judge 17 = .ok (.aload_n 0, 1) := by decide +kernel
theorem dX11_judge_18 : decode cX11_judge 18 = .ok (.getfield 70, 3) := by decide +kernel
theorem dX11_judge_21 : decode cX11_judge 21 = .ok (.if_icmp .ge 99, 3) := by decide +kernel
theorem dX11_judge_24 : decode cX11_judge 24 = .ok (.aload_n 0, 1) := by decide +kernel
theorem dX11_judge_25 : decode cX11_judge 25 = .ok (.getfield 18, 3) := by decide +kernel
theorem dX11_judge_28 : decode cX11_judge 28 = .ok (.aload_n 0, 1) := by decide +kernel
theorem dX11_judge_29 : decode cX11_judge 29 = .ok (.getfield 67, 3) := by decide +kernel
theorem dX11_judge_32 : decode cX11_judge 32 = .ok (.iload_n 1, 1) := by decide +kernel
theorem dX11_judge_33 : decode cX11_judge 33 = .ok (.aaload, 1) := by decide +kernel
theorem dX11_judge_34 : decode cX11_judge 34 = .ok (.iconst 0, 1) := by decide +kernel
theorem dX11_judge_35 : decode cX11_judge 35 = .ok (.iaload, 1) := by decide +kernel
theorem dX11_judge_36 : decode cX11_judge 36 = .ok (.invokevirtual 290, 3) := by decide +kernel
theorem dX11_judge_39 : decode cX11_judge 39 = .ok (.ifCond .eq 17, 3) := by decide +kernel
theorem dX11_judge_42 : decode cX11_judge 42 = .ok (.aload_n 0, 1) := by decide +kernel
theorem dX11_judge_43 : decode cX11_judge 43 = .ok (.getfield 18, 3) := by decide +kernel
theorem dX11_judge_46 : decode cX11_judge 46 = .ok (.aload_n 0, 1) := by decide +kernel
theorem dX11_judge_47 : decode cX11_judge 47 = .ok (.getfield 32, 3) := by decide +kernel
theorem dX11_judge_50 : decode cX11_judge 50 = .ok (.invokevirtual 168, 3) := by decide +kernel
theorem dX11_judge_53 : decode cX11_judge 53 = .ok (.ifCond .eq 7, 3) := by decide +kernel
theorem dX11_judge_56 : decode cX11_judge 56 = .ok (.iload_n 1, 1) := by decide +kernel
theorem dX11_judge_57 : decode cX11_judge 57 = .ok (.iconst 1, 1) := by decide +kernel
theorem dX11_judge_58 : decode cX11_judge 58 = .ok (.iadd, 1) := by decide +kernel
theorem dX11_judge_59 : decode cX11_judge 59 = .ok (.ireturn, 1) := by decide +kernel
theorem dX11_judge_60 : decode cX11_judge 60 = .ok (.aload_n 0, 1) := by decide +kernel
theorem dX11_judge_61 : decode cX11_judge 61 = .ok (.getfield 18, 3) := by decide +kernel
theorem dX11_judge_64 : decode cX11_judge 64 = .ok (.aload_n 0, 1) := by decide +kernel
theorem dX11_judge_65 : decode cX11_judge 65 = .ok (.getfield 32, 3) := by decide +kernel
theorem dX11_judge_68 : decode cX11_judge 68 = .ok (.aload_n 0, 1) := by decide +kernel
theorem dX11_judge_69 : decode cX11_judge 69 = .ok (.getfield 67, 3) := by decide +kernel
theorem dX11_judge_72 : decode cX11_judge 72 = .ok (.iload_n 1, 1) := by decide +kernel
theorem dX11_judge_73 : decode cX11_judge 73 = .ok (.aaload, 1) := by decide +kernel
theorem dX11_judge_74 : decode cX11_judge 74 = .ok (.iconst 0, 1) := by decide +kernel
theorem dX11_judge_75 : decode cX11_judge 75 = .ok (.iaload, 1) := by decide +kernel
theorem dX11_judge_76 : decode cX11_judge 76 = .ok (.invokevirtual 195, 3) := by decide +kernel
theorem dX11_judge_79 : decode cX11_judge 79 = .ok (.istore_n 2, 1) := by decide +kernel
theorem dX11_judge_80 : decode cX11_judge 80 = .ok (.iload_n 2, 1) := by decide +kernel
theorem dX11_judge_81 : decode cX11_judge 81 = .ok (.aload_n 0, 1) := by decide +kernel
theorem dX11_judge_82 : decode cX11_judge 82 = .ok (.getfield 67, 3) := by decide +kernel
theorem dX11_judge_85 : decode cX11_judge 85 = .ok (.iload_n 1, 1) := by decide +kernel
theorem dX11_judge_86 : decode cX11_judge 86 = .ok (.aaload, 1) := by decide +kernel
theorem dX11_judge_87 : decode cX11_judge 87 = .ok (.iconst 1, 1) := by decide +kernel
theorem dX11_judge_88 : decode cX11_judge 88 = .ok (.iaload, 1) := by decide +kernel
theorem dX11_judge_89 : decode cX11_judge 89 = .ok (.if_icmp .ne 21, 3) := by decide +kernel
theorem dX11_judge_92 : decode cX11_judge 92 = .ok (.aload_n 0, 1) := by decide +kernel
theorem dX11_judge_93 : decode cX11_judge 93 = .ok (.getfield 32, 3) := by decide +kernel
theorem dX11_judge_96 : decode cX11_judge 96 = .ok (.getfield 287, 3) := by decide +kernel
theorem dX11_judge_99 : decode cX11_judge 99 = .ok (.aload_n 0, 1) := by decide +kernel
theorem dX11_judge_100 : decode cX11_judge 100 = .ok (.getfield 67, 3) := by decide +kernel
theorem dX11_judge_103 : decode cX11_judge 103 = .ok (.iload_n 1, 1) := by decide +kernel
theorem dX11_judge_104 : decode cX11_judge 104 = .ok (.aaload, 1) := by decide +kernel
theorem dX11_judge_105 : decode cX11_judge 105 = .ok (.iconst 2, 1) := by decide +kernel
theorem dX11_judge_106 : decode cX11_judge 106 = .ok (.iaload, 1) := by decide +kernel
theorem dX11_judge_107 : decode cX11_judge 107 = .ok (.if_icmp .eq 7, 3) := by decide +kernel
theorem dX11_judge_110 : decode cX11_judge 110 = .ok (.iload_n 1, 1) := by decide +kernel
theorem dX11_judge_111 : decode cX11_judge 111 = .ok (.iconst 1, 1) := by decide +kernel
theorem dX11_judge_112 : decode cX11_judge 112 = .ok (.iadd, 1) := by decide +kernel
theorem dX11_judge_113 : decode cX11_judge 113 = .ok (.ireturn, 1) := by decide +kernel
theorem dX11_judge_114 : decode cX11_judge 114 = .ok (.iinc 1 1, 3) := by decide +kernel
theorem dX11_judge_117 : decode cX11_judge 117 = .ok (.goto (-101), 3) := by decide +kernel
theorem dX11_judge_120 : decode cX11_judge 120 = .ok (.iconst 0, 1) := by decide +kernel
theorem dX11_judge_121 : decode cX11_judge 121 = .ok (.ireturn, 1) := by decide +kernel
def f11_judge_b16B (K56 : Int32 → lu_M → Option (Int32 × lu_M)) (K110 : Int32 → lu_M → Option (Int32 × lu_M)) (K120 : lu_M → Option (Int32 × lu_M)) (rec : Int32 → lu_M → Option (Int32 × lu_M))  (v1 : Int32) (m : lu_M) : Option (Int32 × lu_M) :=
  if (m 0 9) ≤ v1 then (K120 m)
  else (lu_gd (lu_ib v1 4) <|
  lu_bi (f10_isAct 1 (m (99 + 1 + v1.toNatClampNeg) 0) m) fun x3 m4 =>
  if x3 = 0 then (K56 v1 m4)
  else (lu_bi (f10_isOver 1 73 m4) fun x5 m6 =>
  if x5 = 0 then (lu_gd (lu_ib v1 4) <|
  lu_bi (f10_pass 1 73 (m6 (99 + 1 + v1.toNatClampNeg) 0) m6) fun x8 m9 =>
  lu_gd (lu_ib v1 4) <|
  if x8 = (m9 (99 + 1 + v1.toNatClampNeg) 1) then (lu_gd (lu_ib v1 4) <|
  if (m9 73 1) = (m9 (99 + 1 + v1.toNatClampNeg) 2) then (rec (v1 + (1 : Int32)) m9)
  else (K110 v1 m9))
  else (K110 v1 m9))
  else (K56 v1 m6)))
def f11_judge_b16 (K56 : Int32 → lu_M → Option (Int32 × lu_M)) (K110 : Int32 → lu_M → Option (Int32 × lu_M)) (K120 : lu_M → Option (Int32 × lu_M))  : Nat → Int32 → lu_M → Option (Int32 × lu_M)
  | 0, _, _ => none
  | n + 1, v1, m => f11_judge_b16B K56 K110 K120 (f11_judge_b16 K56 K110 K120 n) v1 m
set_option maxRecDepth 20000 in
theorem w11_judge_b16B  {G : lu_G} {ρ : Nat → Nat}  {K56 : Int32 → lu_M → Option (Int32 × lu_M)} {K110 : Int32 → lu_M → Option (Int32 × lu_M)} {K120 : lu_M → Option (Int32 × lu_M)} {rec : Int32 → lu_M → Option (Int32 × lu_M)} (X : lu_X G RX11 cX11_judge 3 5 122) (hret : (lu_me G).sig.returnType = (some .int))  (hK56 : ∀ (v1 : Int32) (m : lu_M), lu_Ab lu_TC G (lu_Q lu_TC G ρ lu_RVi lu_sn) (K56 v1 m) 56 [(1, .int v1)] [] ρ 0 0 [] m) (hK110 : ∀ (v1 : Int32) (m : lu_M), lu_Ab lu_TC G (lu_Q lu_TC G ρ lu_RVi lu_sn) (K110 v1 m) 110 [(1, .int v1)] [] ρ 0 0 [] m) (hK120 : ∀  (m : lu_M), lu_Ab lu_TC G (lu_Q lu_TC G ρ lu_RVi lu_sn) (K120 m) 120 [] [] ρ 0 0 [] m) (hrec : ∀ (v1 : Int32) (m : lu_M), lu_Ab lu_TC G (lu_Q lu_TC G ρ lu_RVi lu_sn) (rec v1 m) 16 [(0, .ref (ρ 0)), (1, .int v1)] [] ρ 0 0 [] m) : ∀ (v1 : Int32) (m : lu_M), lu_Ab lu_TC G (lu_Q lu_TC G ρ lu_RVi lu_sn) (f11_judge_b16B K56 K110 K120 rec v1 m) 16 [(0, .ref (ρ 0)), (1, .int v1)] [] ρ 0 0 [] m := by
  intro v1 m
  unfold f11_judge_b16B
  refine lu_iload_n X dX11_judge_16 (pc2 := 17) rfl rfl 1 rfl ?_
  refine lu_aload_n X dX11_judge_17 (pc2 := 18) rfl rfl 0 rfl ?_
  refine lu_get X fl11_70 rfl kC_0 lC_0 dX11_judge_18 (pc2 := 21) rfl ?_
  refine lu_icmp_ge (tgt := 120) X dX11_judge_21 (pc2 := 24) rfl (by decide) (fun _ => ?_) (fun _ => ?_)
  · exact lu_sub [] rfl (hK120 m)
  · refine lu_aload_n X dX11_judge_24 (pc2 := 25) rfl rfl 0 rfl ?_
    refine lu_getr (r2 := 1) X rfl fl11_18 rfl kC_0 lC_0 dX11_judge_25 (pc2 := 28) rfl ?_
    refine lu_aload_n X dX11_judge_28 (pc2 := 29) rfl rfl 0 rfl ?_
    refine lu_getr (r2 := 99) X rfl fl11_67 rfl kC_0 lC_0 dX11_judge_29 (pc2 := 32) rfl ?_
    refine lu_iload_n X dX11_judge_32 (pc2 := 33) rfl rfl 1 rfl ?_
    refine lu_aald X rfl rfl (by decide) (by decide) kC_99 lC_99 dX11_judge_33 (pc2 := 34) rfl (fun g2 => ?_)
    refine lu_iconst X dX11_judge_34 (pc2 := 35) rfl ic_0 ?_
    refine lu_ialdK (q := 0) X (by decide) ((kaC_3_4_3 kC_99 lC_99 g2).1) ((kaC_3_4_3 kC_99 lC_99 g2).2) dX11_judge_35 (pc2 := 36) rfl ?_
    refine lu_invVi X (c10_isAct _ kC_1 lC_1 (m (99 + 1 + v1.toNatClampNeg) 0)) rfl q949 mvV_10_isAct kC_1 lC_1 (by decide) ⟨_, rfl, rfl⟩ rfl rfl (Nat.le_of_ble_eq_true rfl) (Nat.le_of_ble_eq_true rfl) (Nat.le_of_ble_eq_true rfl) ⟨Nat.zero_le _, Nat.zero_le _⟩ dX11_judge_36 (pc2 := 39) rfl rfl (fun x3 m4 => ?_)
    refine lu_if_eq (tgt := 56) X dX11_judge_39 (pc2 := 42) rfl (by decide) (fun _ => ?_) (fun _ => ?_)
    · exact lu_sub [1] rfl (hK56 v1 m4)
    · refine lu_aload_n X dX11_judge_42 (pc2 := 43) rfl rfl 0 rfl ?_
      refine lu_getr (r2 := 1) X rfl fl11_18 rfl kC_0 lC_0 dX11_judge_43 (pc2 := 46) rfl ?_
      refine lu_aload_n X dX11_judge_46 (pc2 := 47) rfl rfl 0 rfl ?_
      refine lu_getr (r2 := 73) X rfl fl11_32 rfl kC_0 lC_0 dX11_judge_47 (pc2 := 50) rfl ?_
      refine lu_invVi X (c10_isOver _ kC_1 lC_1 kC_73 lC_73) rfl q565 mvV_10_isOver kC_1 lC_1 (by decide) ⟨_, rfl, rfl⟩ rfl rfl (Nat.le_of_ble_eq_true rfl) (Nat.le_of_ble_eq_true rfl) (Nat.le_of_ble_eq_true rfl) ⟨Nat.zero_le _, Nat.zero_le _⟩ dX11_judge_50 (pc2 := 53) rfl rfl (fun x5 m6 => ?_)
      refine lu_if_eq (tgt := 60) X dX11_judge_53 (pc2 := 56) rfl (by decide) (fun _ => ?_) (fun _ => ?_)
      · refine lu_aload_n X dX11_judge_60 (pc2 := 61) rfl rfl 0 rfl ?_
        refine lu_getr (r2 := 1) X rfl fl11_18 rfl kC_0 lC_0 dX11_judge_61 (pc2 := 64) rfl ?_
        refine lu_aload_n X dX11_judge_64 (pc2 := 65) rfl rfl 0 rfl ?_
        refine lu_getr (r2 := 73) X rfl fl11_32 rfl kC_0 lC_0 dX11_judge_65 (pc2 := 68) rfl ?_
        refine lu_aload_n X dX11_judge_68 (pc2 := 69) rfl rfl 0 rfl ?_
        refine lu_getr (r2 := 99) X rfl fl11_67 rfl kC_0 lC_0 dX11_judge_69 (pc2 := 72) rfl ?_
        refine lu_iload_n X dX11_judge_72 (pc2 := 73) rfl rfl 1 rfl ?_
        refine lu_aald X rfl rfl (by decide) (by decide) kC_99 lC_99 dX11_judge_73 (pc2 := 74) rfl (fun g7 => ?_)
        refine lu_iconst X dX11_judge_74 (pc2 := 75) rfl ic_0 ?_
        refine lu_ialdK (q := 0) X (by decide) ((kaC_3_4_3 kC_99 lC_99 g7).1) ((kaC_3_4_3 kC_99 lC_99 g7).2) dX11_judge_75 (pc2 := 76) rfl ?_
        refine lu_invVi X (c10_pass _ kC_1 lC_1 kC_73 lC_73 (m6 (99 + 1 + v1.toNatClampNeg) 0)) rfl q721 mvV_10_pass kC_1 lC_1 (by decide) ⟨_, rfl, rfl⟩ rfl rfl (Nat.le_of_ble_eq_true rfl) (Nat.le_of_ble_eq_true rfl) (Nat.le_of_ble_eq_true rfl) ⟨Nat.zero_le _, Nat.zero_le _⟩ dX11_judge_76 (pc2 := 79) rfl rfl (fun x8 m9 => ?_)
        refine lu_istore_n (lv2 := [(2, .int x8), (0, .ref (ρ 0)), (1, .int v1)]) X dX11_judge_79 (pc2 := 80) rfl rfl (by decide) rfl ?_
        refine lu_iload_n X dX11_judge_80 (pc2 := 81) rfl rfl 0 rfl ?_
        refine lu_aload_n X dX11_judge_81 (pc2 := 82) rfl rfl 1 rfl ?_
        refine lu_getr (r2 := 99) X rfl fl11_67 rfl kC_0 lC_0 dX11_judge_82 (pc2 := 85) rfl ?_
        refine lu_iload_n X dX11_judge_85 (pc2 := 86) rfl rfl 2 rfl ?_
        refine lu_aald X rfl rfl (by decide) (by decide) kC_99 lC_99 dX11_judge_86 (pc2 := 87) rfl (fun g10 => ?_)
        refine lu_iconst X dX11_judge_87 (pc2 := 88) rfl ic_1 ?_
        refine lu_ialdK (q := 1) X (by decide) ((kaC_3_4_3 kC_99 lC_99 g10).1) ((kaC_3_4_3 kC_99 lC_99 g10).2) dX11_judge_88 (pc2 := 89) rfl ?_
        refine lu_icmp_ne (tgt := 110) X dX11_judge_89 (pc2 := 92) rfl (by decide) (fun _ => ?_) (fun _ => ?_)
        · exact lu_sub [2] rfl (hK110 v1 m9)
        · refine lu_aload_n X dX11_judge_92 (pc2 := 93) rfl rfl 1 rfl ?_
          refine lu_getr (r2 := 73) X rfl fl11_32 rfl kC_0 lC_0 dX11_judge_93 (pc2 := 96) rfl ?_
          refine lu_get X fl11_287 rfl kC_73 lC_73 dX11_judge_96 (pc2 := 99) rfl ?_
          refine lu_aload_n X dX11_judge_99 (pc2 := 100) rfl rfl 1 rfl ?_
          refine lu_getr (r2 := 99) X rfl fl11_67 rfl kC_0 lC_0 dX11_judge_100 (pc2 := 103) rfl ?_
          refine lu_iload_n X dX11_judge_103 (pc2 := 104) rfl rfl 2 rfl ?_
          refine lu_aald X rfl rfl (by decide) (by decide) kC_99 lC_99 dX11_judge_104 (pc2 := 105) rfl (fun g11 => ?_)
          refine lu_iconst X dX11_judge_105 (pc2 := 106) rfl ic_2 ?_
          refine lu_ialdK (q := 2) X (by decide) ((kaC_3_4_3 kC_99 lC_99 g11).1) ((kaC_3_4_3 kC_99 lC_99 g11).2) dX11_judge_106 (pc2 := 107) rfl ?_
          refine lu_icmp_eq (tgt := 114) X dX11_judge_107 (pc2 := 110) rfl (by decide) (fun _ => ?_) (fun _ => ?_)
          · refine lu_iinc (lv2 := [(1, .int (v1 + (1 : Int32))), (2, .int x8), (0, .ref (ρ 0))]) X dX11_judge_114 (pc2 := 117) rfl 2 rfl (lu_ii _ ic_1) (by decide) rfl ?_
            refine lu_goto (tgt := 16) X dX11_judge_117 (by decide) ?_
            exact lu_sub [2, 0] rfl (hrec (v1 + (1 : Int32)) m9)
          · exact lu_sub [2] rfl (hK110 v1 m9)
      · exact lu_sub [1] rfl (hK56 v1 m6)
theorem w11_judge_b16  {G : lu_G} {ρ : Nat → Nat}  {K56 : Int32 → lu_M → Option (Int32 × lu_M)} {K110 : Int32 → lu_M → Option (Int32 × lu_M)} {K120 : lu_M → Option (Int32 × lu_M)} (X : lu_X G RX11 cX11_judge 3 5 122) (hret : (lu_me G).sig.returnType = (some .int))  (hK56 : ∀ (v1 : Int32) (m : lu_M), lu_Ab lu_TC G (lu_Q lu_TC G ρ lu_RVi lu_sn) (K56 v1 m) 56 [(1, .int v1)] [] ρ 0 0 [] m) (hK110 : ∀ (v1 : Int32) (m : lu_M), lu_Ab lu_TC G (lu_Q lu_TC G ρ lu_RVi lu_sn) (K110 v1 m) 110 [(1, .int v1)] [] ρ 0 0 [] m) (hK120 : ∀  (m : lu_M), lu_Ab lu_TC G (lu_Q lu_TC G ρ lu_RVi lu_sn) (K120 m) 120 [] [] ρ 0 0 [] m) : ∀ (n : Nat) (v1 : Int32) (m : lu_M), lu_Ab lu_TC G (lu_Q lu_TC G ρ lu_RVi lu_sn) (f11_judge_b16 K56 K110 K120 n v1 m) 16 [(0, .ref (ρ 0)), (1, .int v1)] [] ρ 0 0 [] m := by
  intro n
  induction n with
  | zero => intro v1 m; exact lu_none
  | succ n ih => intro v1 m; exact w11_judge_b16B X hret hK56 hK110 hK120 ih v1 m
def f11_judge_b56   (v1 : Int32) (m : lu_M) : Option (Int32 × lu_M) :=
  some ((v1 + (1 : Int32)), m)
set_option maxRecDepth 20000 in
theorem w11_judge_b56  {G : lu_G} {ρ : Nat → Nat}   (X : lu_X G RX11 cX11_judge 3 5 122) (hret : (lu_me G).sig.returnType = (some .int))   : ∀ (v1 : Int32) (m : lu_M), lu_Ab lu_TC G (lu_Q lu_TC G ρ lu_RVi lu_sn) (f11_judge_b56  v1 m) 56 [(1, .int v1)] [] ρ 0 0 [] m := by
  intro v1 m
  unfold f11_judge_b56
  refine lu_iload_n X dX11_judge_56 (pc2 := 57) rfl rfl 0 rfl ?_
  refine lu_iconst X dX11_judge_57 (pc2 := 58) rfl ic_1 ?_
  refine lu_iadd X dX11_judge_58 (pc2 := 59) rfl ?_
  exact lu_iret X hret dX11_judge_59
def f11_judge_b110   (v1 : Int32) (m : lu_M) : Option (Int32 × lu_M) :=
  some ((v1 + (1 : Int32)), m)
set_option maxRecDepth 20000 in
theorem w11_judge_b110  {G : lu_G} {ρ : Nat → Nat}   (X : lu_X G RX11 cX11_judge 3 5 122) (hret : (lu_me G).sig.returnType = (some .int))   : ∀ (v1 : Int32) (m : lu_M), lu_Ab lu_TC G (lu_Q lu_TC G ρ lu_RVi lu_sn) (f11_judge_b110  v1 m) 110 [(1, .int v1)] [] ρ 0 0 [] m := by
  intro v1 m
  unfold f11_judge_b110
  refine lu_iload_n X dX11_judge_110 (pc2 := 111) rfl rfl 0 rfl ?_
  refine lu_iconst X dX11_judge_111 (pc2 := 112) rfl ic_1 ?_
  refine lu_iadd X dX11_judge_112 (pc2 := 113) rfl ?_
  exact lu_iret X hret dX11_judge_113
def f11_judge_b120    (m : lu_M) : Option (Int32 × lu_M) :=
  some ((0 : Int32), m)
set_option maxRecDepth 20000 in
theorem w11_judge_b120  {G : lu_G} {ρ : Nat → Nat}   (X : lu_X G RX11 cX11_judge 3 5 122) (hret : (lu_me G).sig.returnType = (some .int))   : ∀  (m : lu_M), lu_Ab lu_TC G (lu_Q lu_TC G ρ lu_RVi lu_sn) (f11_judge_b120  m) 120 [] [] ρ 0 0 [] m := by
  intro  m
  unfold f11_judge_b120
  refine lu_iconst X dX11_judge_120 (pc2 := 121) rfl ic_0 ?_
  exact lu_iret X hret dX11_judge_121
def f11_judge  (m : lu_M) : Option (Int32 × lu_M) :=
  lu_bv (f1_begin 73 29 m) fun m1 =>
  f11_judge_b16 f11_judge_b56 f11_judge_b110 f11_judge_b120 lu_fu (0 : Int32) m1
set_option maxRecDepth 20000 in
theorem c11_judge (l : Launch)    : lu_C lu_TC l yX11_judge cX11_judge 3 (some .int) 5 122 (fun ρ sa => [.ref (ρ 0)]) (f11_judge ) lu_RVi lu_sn := by
  refine lu_met (cls := RX11) rfl (by decide +kernel) (fun _ _ => Nat.le_of_ble_eq_true rfl) ?_
  intro G ρ m hl X hret
  subst hl
  change lu_Ab lu_TC G (lu_Q lu_TC G ρ lu_RVi lu_sn) (f11_judge  m) 0 [(0, .ref (ρ 0))] [] ρ 0 0 [] m
  unfold f11_judge
  refine lu_aload_n X dX11_judge_0 (pc2 := 1) rfl rfl 0 rfl ?_
  refine lu_getr (r2 := 73) X rfl fl11_32 rfl kC_0 lC_0 dX11_judge_1 (pc2 := 4) rfl ?_
  refine lu_aload_n X dX11_judge_4 (pc2 := 5) rfl rfl 0 rfl ?_
  refine lu_getr (r2 := 1) X rfl fl11_18 rfl kC_0 lC_0 dX11_judge_5 (pc2 := 8) rfl ?_
  refine lu_getr (r2 := 29) X rfl fl11_115 rfl kC_1 lC_1 dX11_judge_8 (pc2 := 11) rfl ?_
  refine lu_invVv X (c1_begin _ kC_73 lC_73 kC_29 lC_29) rfl q766 mvV_1_begin kC_73 lC_73 (by decide) ⟨_, rfl, rfl⟩ rfl rfl (Nat.le_of_ble_eq_true rfl) (Nat.le_of_ble_eq_true rfl) (Nat.le_of_ble_eq_true rfl) ⟨Nat.zero_le _, Nat.zero_le _⟩ dX11_judge_11 (pc2 := 14) rfl rfl (fun m1 => ?_)
  refine lu_iconst X dX11_judge_14 (pc2 := 15) rfl ic_0 ?_
  refine lu_istore_n (lv2 := [(1, .int (0 : Int32)), (0, .ref (ρ 0))]) X dX11_judge_15 (pc2 := 16) rfl rfl (by decide) rfl ?_
  exact lu_sub [1, 0] rfl (w11_judge_b16 X hret (w11_judge_b56 X hret) (w11_judge_b110 X hret) (w11_judge_b120 X hret) lu_fu (0 : Int32) m1)

theorem dX11_sheet_0 : decode cX11_sheet 0 = .ok (.iload_n 1, 1) := by decide +kernel
theorem dX11_sheet_1 : decode cX11_sheet 1 = .ok (.iconst 0, 1) := by decide +kernel
theorem dX11_sheet_2 : decode cX11_sheet 2 = .ok (.iconst 3, 1) := by decide +kernel
theorem dX11_sheet_3 : decode cX11_sheet 3 = .ok (.invokestatic 92, 3) := by decide +kernel
theorem dX11_sheet_6 : decode cX11_sheet 6 = .ok (.ifCond .eq 12, 3) := by decide +kernel
theorem dX11_sheet_9 : decode cX11_sheet 9 = .ok (.iload_n 2, 1) := by decide +kernel
theorem dX11_sheet_10 : decode cX11_sheet 10 = .ok (.iconst (-1), 1) := by decide +kernel
theorem dX11_sheet_11 : decode cX11_sheet 11 = .ok (.iconst 4, 1) := by decide +kernel
theorem dX11_sheet_12 : decode cX11_sheet 12 = .ok (.invokestatic 92, 3) := by decide +kernel
theorem dX11_sheet_15 : decode cX11_sheet 15 = .ok (.ifCond .ne 5, 3) := by decide +kernel
theorem dX11_sheet_18 : decode cX11_sheet 18 = .ok (.iconst (-1), 1) := by decide +kernel
theorem dX11_sheet_19 : decode cX11_sheet 19 = .ok (.ireturn, 1) := by decide +kernel
theorem dX11_sheet_20 : decode cX11_sheet 20 = .ok (.iload_n 2, 1) := by decide +kernel
theorem dX11_sheet_21 : decode cX11_sheet 21 = .ok (.iconst (-1), 1) := by decide +kernel
theorem dX11_sheet_22 : decode cX11_sheet 22 = .ok (.if_icmp .eq 11, 3) := by decide +kernel
theorem dX11_sheet_25 : decode cX11_sheet 25 = .ok (.iload_n 3, 1) := by decide +kernel
theorem dX11_sheet_26 : decode cX11_sheet 26 = .ok (.bipush 40, 2) := by decide +kernel
theorem dX11_sheet_28 : decode cX11_sheet 28 = .ok (.if_icmp .le 5, 3) := by decide +kernel
theorem dX11_sheet_31 : decode cX11_sheet 31 = .ok (.iconst (-1), 1) := by decide +kernel
theorem dX11_sheet_32 : decode cX11_sheet 32 = .ok (.ireturn, 1) := by decide +kernel
theorem dX11_sheet_33 : decode cX11_sheet 33 = .ok (.iload_n 2, 1) := by decide +kernel
theorem dX11_sheet_34 : decode cX11_sheet 34 = .ok (.iconst (-1), 1) := by decide +kernel
theorem dX11_sheet_35 : decode cX11_sheet 35 = .ok (.if_icmp .eq 10, 3) := by decide +kernel
theorem dX11_sheet_38 : decode cX11_sheet 38 = .ok (.iload_n 3, 1) := by decide +kernel
theorem dX11_sheet_39 : decode cX11_sheet 39 = .ok (.ifCond .ge 6, 3) := by decide +kernel
theorem dX11_sheet_42 : decode cX11_sheet 42 = .ok (.bipush (-14), 2) := by decide +kernel
theorem dX11_sheet_44 : decode cX11_sheet 44 = .ok (.ireturn, 1) := by decide +kernel
theorem dX11_sheet_45 : decode cX11_sheet 45 = .ok (.aload_n 0, 1) := by decide +kernel
theorem dX11_sheet_46 : decode cX11_sheet 46 = .ok (.getfield 74, 3) := by decide +kernel
theorem dX11_sheet_49 : decode cX11_sheet 49 = .ok (.iload_n 1, 1) := by decide +kernel
theorem dX11_sheet_50 : decode cX11_sheet 50 = .ok (.iload_n 2, 1) := by decide +kernel
theorem dX11_sheet_51 : decode cX11_sheet 51 = .ok (.iastore, 1) := by decide +kernel
theorem dX11_sheet_52 : decode cX11_sheet 52 = .ok (.aload_n 0, 1) := by decide +kernel
theorem dX11_sheet_53 : decode cX11_sheet 53 = .ok (.getfield 77, 3) := by decide +kernel
theorem dX11_sheet_56 : decode cX11_sheet 56 = .ok (.iload_n 1, 1) := by decide +kernel
theorem dX11_sheet_57 : decode cX11_sheet 57 = .ok (.iload_n 2, 1) := by decide +kernel
theorem dX11_sheet_58 : decode cX11_sheet 58 = .ok (.iconst (-1), 1) := by decide +kernel
theorem dX11_sheet_59 : decode cX11_sheet 59 = .ok (.if_icmp .ne 7, 3) := by decide +kernel
theorem dX11_sheet_62 : decode cX11_sheet 62 = .ok (.iconst 0, 1) := by decide +kernel
theorem dX11_sheet_63 : decode cX11_sheet 63 = .ok (.goto 4, 3) := by decide +kernel
theorem dX11_sheet_66 : decode cX11_sheet 66 = .ok (.iload_n 3, 1) := by decide +kernel
theorem dX11_sheet_67 : decode cX11_sheet 67 = .ok (.iastore, 1) := by decide +kernel
theorem dX11_sheet_68 : decode cX11_sheet 68 = .ok (.iconst 0, 1) := by decide +kernel
theorem dX11_sheet_69 : decode cX11_sheet 69 = .ok (.istore 4, 2) := by decide +kernel
theorem dX11_sheet_71 : decode cX11_sheet 71 = .ok (.iload 4, 2) := by decide +kernel
theorem dX11_sheet_73 : decode cX11_sheet 73 = .ok (.bipush 40, 2) := by decide +kernel
theorem dX11_sheet_75 : decode cX11_sheet 75 = .ok (.if_icmp .ge 19, 3) := by decide +kernel
theorem dX11_sheet_78 : decode cX11_sheet 78 = .ok (.aload_n 0, 1) := by decide +kernel
theorem dX11_sheet_79 : decode cX11_sheet 79 = .ok (.getfield 80, 3) := by decide +kernel
theorem dX11_sheet_82 : decode cX11_sheet 82 = .ok (.iload_n 1, 1) := by decide +kernel
theorem dX11_sheet_83 : decode cX11_sheet 83 = .ok (.aaload, 1) := by decide +kernel
theorem dX11_sheet_84 : decode cX11_sheet 84 = .ok (.iload 4, 2) := by decide +kernel
theorem dX11_sheet_86 : decode cX11_sheet 86 = .ok (.iconst 0, 1) := by decide +kernel
theorem dX11_sheet_87 : decode cX11_sheet 87 = .ok (.iastore, 1) := by decide +kernel
theorem dX11_sheet_88 : decode cX11_sheet 88 = .ok (.iinc 4 1, 3) := by decide +kernel
theorem dX11_sheet_91 : decode cX11_sheet 91 = .ok (.goto (-20), 3) := by decide +kernel
theorem dX11_sheet_94 : decode cX11_sheet 94 = .ok (.iconst 1, 1) := by decide +kernel
theorem dX11_sheet_95 : decode cX11_sheet 95 = .ok (.ireturn, 1) := by decide +kernel
def f11_sheet_b18  (a1 : Int32) (a2 : Int32) (a3 : Int32)  (m : lu_M) : Option (Int32 × lu_M) :=
  some ((-1 : Int32), m)
set_option maxRecDepth 20000 in
theorem w11_sheet_b18  {G : lu_G} {ρ : Nat → Nat} {a1 : Int32} {a2 : Int32} {a3 : Int32}  (X : lu_X G RX11 cX11_sheet 5 1 22) (hret : (lu_me G).sig.returnType = (some .int))   : ∀  (m : lu_M), lu_Ab lu_TC G (lu_Q lu_TC G ρ lu_RVi lu_sn) (f11_sheet_b18 a1 a2 a3 m) 18 [] [] ρ 0 0 [] m := by
  intro  m
  unfold f11_sheet_b18
  refine lu_iconst X dX11_sheet_18 (pc2 := 19) rfl ic_m1 ?_
  exact lu_iret X hret dX11_sheet_19
def f11_sheet_b71B (K94 : lu_M → Option (Int32 × lu_M)) (rec : Int32 → lu_M → Option (Int32 × lu_M)) (a1 : Int32) (a2 : Int32) (a3 : Int32) (v4 : Int32) (m : lu_M) : Option (Int32 × lu_M) :=
  if (40 : Int32) ≤ v4 then (K94 m)
  else (lu_gd (lu_ib a1 4) <|
  lu_gd (lu_ib v4 40) <|
  lu_nm (lu_st m (106 + 1 + a1.toNatClampNeg) v4.toNatClampNeg (0 : Int32)) fun m8 =>
  rec (v4 + (1 : Int32)) m8)
def f11_sheet_b71 (K94 : lu_M → Option (Int32 × lu_M)) (a1 : Int32) (a2 : Int32) (a3 : Int32) : Nat → Int32 → lu_M → Option (Int32 × lu_M)
  | 0, _, _ => none
  | n + 1, v4, m => f11_sheet_b71B K94 (f11_sheet_b71 K94 a1 a2 a3 n) a1 a2 a3 v4 m
set_option maxRecDepth 20000 in
theorem w11_sheet_b71B  {G : lu_G} {ρ : Nat → Nat} {a1 : Int32} {a2 : Int32} {a3 : Int32} {K94 : lu_M → Option (Int32 × lu_M)} {rec : Int32 → lu_M → Option (Int32 × lu_M)} (X : lu_X G RX11 cX11_sheet 5 1 22) (hret : (lu_me G).sig.returnType = (some .int))  (hK94 : ∀  (m : lu_M), lu_Ab lu_TC G (lu_Q lu_TC G ρ lu_RVi lu_sn) (K94 m) 94 [] [] ρ 0 0 [] m) (hrec : ∀ (v4 : Int32) (m : lu_M), lu_Ab lu_TC G (lu_Q lu_TC G ρ lu_RVi lu_sn) (rec v4 m) 71 [(0, .ref (ρ 0)), (1, .int a1), (4, .int v4)] [] ρ 0 0 [] m) : ∀ (v4 : Int32) (m : lu_M), lu_Ab lu_TC G (lu_Q lu_TC G ρ lu_RVi lu_sn) (f11_sheet_b71B K94 rec a1 a2 a3 v4 m) 71 [(0, .ref (ρ 0)), (1, .int a1), (4, .int v4)] [] ρ 0 0 [] m := by
  intro v4 m
  unfold f11_sheet_b71B
  refine lu_iload X dX11_sheet_71 (pc2 := 73) rfl 2 rfl ?_
  refine lu_bipush X dX11_sheet_73 (pc2 := 75) rfl bp_40 ?_
  refine lu_icmp_ge (tgt := 94) X dX11_sheet_75 (pc2 := 78) rfl (by decide) (fun _ => ?_) (fun _ => ?_)
  · exact lu_sub [] rfl (hK94 m)
  · refine lu_aload_n X dX11_sheet_78 (pc2 := 79) rfl rfl 0 rfl ?_
    refine lu_getr (r2 := 106) X rfl fl11_80 rfl kC_0 lC_0 dX11_sheet_79 (pc2 := 82) rfl ?_
    refine lu_iload_n X dX11_sheet_82 (pc2 := 83) rfl rfl 1 rfl ?_
    refine lu_aald X rfl rfl (by decide) (by decide) kC_106 lC_106 dX11_sheet_83 (pc2 := 84) rfl (fun g7 => ?_)
    refine lu_iload X dX11_sheet_84 (pc2 := 86) rfl 2 rfl ?_
    refine lu_iconst X dX11_sheet_86 (pc2 := 87) rfl ic_0 ?_
    refine lu_iast X ((kaC_3_4_40 kC_106 lC_106 g7).1) ((kaC_3_4_40 kC_106 lC_106 g7).2) dX11_sheet_87 (pc2 := 88) rfl (fun m8 => ?_)
    refine lu_iinc (lv2 := [(4, .int (v4 + (1 : Int32))), (0, .ref (ρ 0)), (1, .int a1)]) X dX11_sheet_88 (pc2 := 91) rfl 2 rfl (lu_ii _ ic_1) (by decide) rfl ?_
    refine lu_goto (tgt := 71) X dX11_sheet_91 (by decide) ?_
    exact lu_sub [1, 2, 0] rfl (hrec (v4 + (1 : Int32)) m8)
theorem w11_sheet_b71  {G : lu_G} {ρ : Nat → Nat} {a1 : Int32} {a2 : Int32} {a3 : Int32} {K94 : lu_M → Option (Int32 × lu_M)} (X : lu_X G RX11 cX11_sheet 5 1 22) (hret : (lu_me G).sig.returnType = (some .int))  (hK94 : ∀  (m : lu_M), lu_Ab lu_TC G (lu_Q lu_TC G ρ lu_RVi lu_sn) (K94 m) 94 [] [] ρ 0 0 [] m) : ∀ (n : Nat) (v4 : Int32) (m : lu_M), lu_Ab lu_TC G (lu_Q lu_TC G ρ lu_RVi lu_sn) (f11_sheet_b71 K94 a1 a2 a3 n v4 m) 71 [(0, .ref (ρ 0)), (1, .int a1), (4, .int v4)] [] ρ 0 0 [] m := by
  intro n
  induction n with
  | zero => intro v4 m; exact lu_none
  | succ n ih => intro v4 m; exact w11_sheet_b71B X hret hK94 ih v4 m
def f11_sheet_b94  (a1 : Int32) (a2 : Int32) (a3 : Int32)  (m : lu_M) : Option (Int32 × lu_M) :=
  some ((1 : Int32), m)
set_option maxRecDepth 20000 in
theorem w11_sheet_b94  {G : lu_G} {ρ : Nat → Nat} {a1 : Int32} {a2 : Int32} {a3 : Int32}  (X : lu_X G RX11 cX11_sheet 5 1 22) (hret : (lu_me G).sig.returnType = (some .int))   : ∀  (m : lu_M), lu_Ab lu_TC G (lu_Q lu_TC G ρ lu_RVi lu_sn) (f11_sheet_b94 a1 a2 a3 m) 94 [] [] ρ 0 0 [] m := by
  intro  m
  unfold f11_sheet_b94
  refine lu_iconst X dX11_sheet_94 (pc2 := 95) rfl ic_1 ?_
  exact lu_iret X hret dX11_sheet_95
def f11_sheet_b67  (a1 : Int32) (a2 : Int32) (a3 : Int32) (s0 : Int32) (s1 : Int32) (m : lu_M) : Option (Int32 × lu_M) :=
  lu_gd (lu_ib s1 4) <|
  lu_nm (lu_st m 105 s1.toNatClampNeg s0) fun m6 =>
  f11_sheet_b71 (f11_sheet_b94 a1 a2 a3) a1 a2 a3 lu_fu (0 : Int32) m6
set_option maxRecDepth 20000 in
theorem w11_sheet_b67  {G : lu_G} {ρ : Nat → Nat} {a1 : Int32} {a2 : Int32} {a3 : Int32}  (X : lu_X G RX11 cX11_sheet 5 1 22) (hret : (lu_me G).sig.returnType = (some .int))   : ∀ (s0 : Int32) (s1 : Int32) (m : lu_M), lu_Ab lu_TC G (lu_Q lu_TC G ρ lu_RVi lu_sn) (f11_sheet_b67 a1 a2 a3 s0 s1 m) 67 [(0, .ref (ρ 0)), (1, .int a1)] [.int s0, .int s1, .ref (ρ 105)] ρ 0 0 [] m := by
  intro s0 s1 m
  unfold f11_sheet_b67
  refine lu_iast X kC_105 lC_105 dX11_sheet_67 (pc2 := 68) rfl (fun m6 => ?_)
  refine lu_iconst X dX11_sheet_68 (pc2 := 69) rfl ic_0 ?_
  refine lu_istore (lv2 := [(4, .int (0 : Int32)), (0, .ref (ρ 0)), (1, .int a1)]) X dX11_sheet_69 (pc2 := 71) rfl (by decide) rfl ?_
  exact lu_sub [1, 2, 0] rfl (w11_sheet_b71 X hret (w11_sheet_b94 X hret) lu_fu (0 : Int32) m6)
def f11_sheet_b45  (a1 : Int32) (a2 : Int32) (a3 : Int32)  (m : lu_M) : Option (Int32 × lu_M) :=
  lu_gd (lu_ib a1 4) <|
  lu_nm (lu_st m 104 a1.toNatClampNeg a2) fun m5 =>
  if a2 = (-1 : Int32) then (f11_sheet_b67 a1 a2 a3 (0 : Int32) a1 m5)
  else (f11_sheet_b67 a1 a2 a3 a3 a1 m5)
set_option maxRecDepth 20000 in
theorem w11_sheet_b45  {G : lu_G} {ρ : Nat → Nat} {a1 : Int32} {a2 : Int32} {a3 : Int32}  (X : lu_X G RX11 cX11_sheet 5 1 22) (hret : (lu_me G).sig.returnType = (some .int))   : ∀  (m : lu_M), lu_Ab lu_TC G (lu_Q lu_TC G ρ lu_RVi lu_sn) (f11_sheet_b45 a1 a2 a3 m) 45 [(0, .ref (ρ 0)), (1, .int a1), (2, .int a2), (3, .int a3)] [] ρ 0 0 [] m := by
  intro  m
  unfold f11_sheet_b45
  refine lu_aload_n X dX11_sheet_45 (pc2 := 46) rfl rfl 0 rfl ?_
  refine lu_getr (r2 := 104) X rfl fl11_74 rfl kC_0 lC_0 dX11_sheet_46 (pc2 := 49) rfl ?_
  refine lu_iload_n X dX11_sheet_49 (pc2 := 50) rfl rfl 1 rfl ?_
  refine lu_iload_n X dX11_sheet_50 (pc2 := 51) rfl rfl 2 rfl ?_
  refine lu_iast X kC_104 lC_104 dX11_sheet_51 (pc2 := 52) rfl (fun m5 => ?_)
  refine lu_aload_n X dX11_sheet_52 (pc2 := 53) rfl rfl 0 rfl ?_
  refine lu_getr (r2 := 105) X rfl fl11_77 rfl kC_0 lC_0 dX11_sheet_53 (pc2 := 56) rfl ?_
  refine lu_iload_n X dX11_sheet_56 (pc2 := 57) rfl rfl 1 rfl ?_
  refine lu_iload_n X dX11_sheet_57 (pc2 := 58) rfl rfl 2 rfl ?_
  refine lu_iconst X dX11_sheet_58 (pc2 := 59) rfl ic_m1 ?_
  refine lu_icmp_ne (tgt := 66) X dX11_sheet_59 (pc2 := 62) rfl (by decide) (fun _ => ?_) (fun _ => ?_)
  · refine lu_iload_n X dX11_sheet_66 (pc2 := 67) rfl rfl 3 rfl ?_
    exact lu_sub [0, 1] rfl (w11_sheet_b67 X hret a3 a1 m5)
  · refine lu_iconst X dX11_sheet_62 (pc2 := 63) rfl ic_0 ?_
    refine lu_goto (tgt := 67) X dX11_sheet_63 (by decide) ?_
    exact lu_sub [0, 1] rfl (w11_sheet_b67 X hret (0 : Int32) a1 m5)
def f11_sheet_b33  (a1 : Int32) (a2 : Int32) (a3 : Int32)  (m : lu_M) : Option (Int32 × lu_M) :=
  if a2 = (-1 : Int32) then (f11_sheet_b45 a1 a2 a3 m)
  else (if 0 ≤ a3 then (f11_sheet_b45 a1 a2 a3 m)
  else (some ((-14 : Int32), m)))
set_option maxRecDepth 20000 in
theorem w11_sheet_b33  {G : lu_G} {ρ : Nat → Nat} {a1 : Int32} {a2 : Int32} {a3 : Int32}  (X : lu_X G RX11 cX11_sheet 5 1 22) (hret : (lu_me G).sig.returnType = (some .int))   : ∀  (m : lu_M), lu_Ab lu_TC G (lu_Q lu_TC G ρ lu_RVi lu_sn) (f11_sheet_b33 a1 a2 a3 m) 33 [(0, .ref (ρ 0)), (1, .int a1), (2, .int a2), (3, .int a3)] [] ρ 0 0 [] m := by
  intro  m
  unfold f11_sheet_b33
  refine lu_iload_n X dX11_sheet_33 (pc2 := 34) rfl rfl 2 rfl ?_
  refine lu_iconst X dX11_sheet_34 (pc2 := 35) rfl ic_m1 ?_
  refine lu_icmp_eq (tgt := 45) X dX11_sheet_35 (pc2 := 38) rfl (by decide) (fun _ => ?_) (fun _ => ?_)
  · exact w11_sheet_b45 X hret m
  · refine lu_iload_n X dX11_sheet_38 (pc2 := 39) rfl rfl 3 rfl ?_
    refine lu_if_ge (tgt := 45) X dX11_sheet_39 (pc2 := 42) rfl (by decide) (fun _ => ?_) (fun _ => ?_)
    · exact w11_sheet_b45 X hret m
    · refine lu_bipush X dX11_sheet_42 (pc2 := 44) rfl bp_m14 ?_
      exact lu_iret X hret dX11_sheet_44
def f11_sheet (a1 : Int32) (a2 : Int32) (a3 : Int32) (m : lu_M) : Option (Int32 × lu_M) :=
  lu_bi (f11_isWithin a1 (0 : Int32) (3 : Int32) m) fun x1 m2 =>
  if x1 = 0 then (f11_sheet_b18 a1 a2 a3 m2)
  else (lu_bi (f11_isWithin a2 (-1 : Int32) (4 : Int32) m2) fun x3 m4 =>
  if x3 = 0 then (f11_sheet_b18 a1 a2 a3 m4)
  else (if a2 = (-1 : Int32) then (f11_sheet_b33 a1 a2 a3 m4)
  else (if a3 ≤ (40 : Int32) then (f11_sheet_b33 a1 a2 a3 m4)
  else (some ((-1 : Int32), m4)))))
set_option maxRecDepth 20000 in
theorem c11_sheet (l : Launch)   (a1 : Int32) (a2 : Int32) (a3 : Int32) : lu_C lu_TC l yX11_sheet cX11_sheet 5 (some .int) 1 22 (fun ρ sa => [.ref (ρ 0), .int a1, .int a2, .int a3]) (f11_sheet a1 a2 a3) lu_RVi lu_sn := by
  refine lu_met (cls := RX11) rfl (by decide +kernel) (fun _ _ => Nat.le_of_ble_eq_true rfl) ?_
  intro G ρ m hl X hret
  subst hl
  change lu_Ab lu_TC G (lu_Q lu_TC G ρ lu_RVi lu_sn) (f11_sheet a1 a2 a3 m) 0 [(0, .ref (ρ 0)), (1, .int a1), (2, .int a2), (3, .int a3)] [] ρ 0 0 [] m
  unfold f11_sheet
  refine lu_iload_n X dX11_sheet_0 (pc2 := 1) rfl rfl 1 rfl ?_
  refine lu_iconst X dX11_sheet_1 (pc2 := 2) rfl ic_0 ?_
  refine lu_iconst X dX11_sheet_2 (pc2 := 3) rfl ic_3 ?_
  refine lu_invSi X (c11_isWithin _ a1 (0 : Int32) (3 : Int32)) rfl q433 mvS_11_isWithin rfl rfl (Nat.le_of_ble_eq_true rfl) (Nat.le_of_ble_eq_true rfl) (Nat.le_of_ble_eq_true rfl) ⟨Nat.zero_le _, Nat.zero_le _⟩ dX11_sheet_3 (pc2 := 6) rfl rfl (fun x1 m2 => ?_)
  refine lu_if_eq (tgt := 18) X dX11_sheet_6 (pc2 := 9) rfl (by decide) (fun _ => ?_) (fun _ => ?_)
  · exact lu_sub [] rfl (w11_sheet_b18 X hret m2)
  · refine lu_iload_n X dX11_sheet_9 (pc2 := 10) rfl rfl 2 rfl ?_
    refine lu_iconst X dX11_sheet_10 (pc2 := 11) rfl ic_m1 ?_
    refine lu_iconst X dX11_sheet_11 (pc2 := 12) rfl ic_4 ?_
    refine lu_invSi X (c11_isWithin _ a2 (-1 : Int32) (4 : Int32)) rfl q433 mvS_11_isWithin rfl rfl (Nat.le_of_ble_eq_true rfl) (Nat.le_of_ble_eq_true rfl) (Nat.le_of_ble_eq_true rfl) ⟨Nat.zero_le _, Nat.zero_le _⟩ dX11_sheet_12 (pc2 := 15) rfl rfl (fun x3 m4 => ?_)
    refine lu_if_ne (tgt := 20) X dX11_sheet_15 (pc2 := 18) rfl (by decide) (fun _ => ?_) (fun _ => ?_)
    · refine lu_iload_n X dX11_sheet_20 (pc2 := 21) rfl rfl 2 rfl ?_
      refine lu_iconst X dX11_sheet_21 (pc2 := 22) rfl ic_m1 ?_
      refine lu_icmp_eq (tgt := 33) X dX11_sheet_22 (pc2 := 25) rfl (by decide) (fun _ => ?_) (fun _ => ?_)
      · exact w11_sheet_b33 X hret m4
      · refine lu_iload_n X dX11_sheet_25 (pc2 := 26) rfl rfl 3 rfl ?_
        refine lu_bipush X dX11_sheet_26 (pc2 := 28) rfl bp_40 ?_
        refine lu_icmp_le (tgt := 33) X dX11_sheet_28 (pc2 := 31) rfl (by decide) (fun _ => ?_) (fun _ => ?_)
        · exact w11_sheet_b33 X hret m4
        · refine lu_iconst X dX11_sheet_31 (pc2 := 32) rfl ic_m1 ?_
          exact lu_iret X hret dX11_sheet_32
    · exact lu_sub [] rfl (w11_sheet_b18 X hret m4)

theorem dX11_narrowed_0 : decode cX11_narrowed 0 = .ok (.iload_n 0, 1) := by decide +kernel
theorem dX11_narrowed_1 : decode cX11_narrowed 1 = .ok (.tableswitch 51 0 4 #[35, 38, 51, 51, 41], 35) := by decide +kernel
theorem dX11_narrowed_36 : decode cX11_narrowed 36 = .ok (.iload_n 1, 1) := by decide +kernel
theorem dX11_narrowed_37 : decode cX11_narrowed 37 = .ok (.i2b, 1) := by decide +kernel
theorem dX11_narrowed_38 : decode cX11_narrowed 38 = .ok (.ireturn, 1) := by decide +kernel
theorem dX11_narrowed_39 : decode cX11_narrowed 39 = .ok (.iload_n 1, 1) := by decide +kernel
theorem dX11_narrowed_40 : decode cX11_narrowed 40 = .ok (.i2s, 1) := by decide +kernel
theorem dX11_narrowed_41 : decode cX11_narrowed 41 = .ok (.ireturn, 1) := by decide +kernel
theorem dX11_narrowed_42 : decode cX11_narrowed 42 = .ok (.iload_n 1, 1) := by decide +kernel
theorem dX11_narrowed_43 : decode cX11_narrowed 43 = .ok (.ifCond .eq 7, 3) := by decide +kernel
theorem dX11_narrowed_46 : decode cX11_narrowed 46 = .ok (.iconst 1, 1) := by decide +kernel
theorem dX11_narrowed_47 : decode cX11_narrowed 47 = .ok (.goto 4, 3) := by decide +kernel
theorem dX11_narrowed_50 : decode cX11_narrowed 50 = .ok (.iconst 0, 1) := by decide +kernel
theorem dX11_narrowed_51 : decode cX11_narrowed 51 = .ok (.ireturn, 1) := by decide +kernel
theorem dX11_narrowed_52 : decode cX11_narrowed 52 = .ok (.iload_n 1, 1) := by decide +kernel
theorem dX11_narrowed_53 : decode cX11_narrowed 53 = .ok (.ireturn, 1) := by decide +kernel
def f11_narrowed_b52  (a0 : Int32) (a1 : Int32)  (m : lu_M) : Option (Int32 × lu_M) :=
  some (a1, m)
set_option maxRecDepth 20000 in
theorem w11_narrowed_b52  {G : lu_G} {ρ : Nat → Nat} {a0 : Int32} {a1 : Int32}  (X : lu_X G RX11 cX11_narrowed 2 0 0) (hret : (lu_me G).sig.returnType = (some .int))   : ∀  (m : lu_M), lu_Ab lu_TC G (lu_Q lu_TC G ρ lu_RVi lu_sn) (f11_narrowed_b52 a0 a1 m) 52 [(1, .int a1)] [] ρ 0 0 [] m := by
  intro  m
  unfold f11_narrowed_b52
  refine lu_iload_n X dX11_narrowed_52 (pc2 := 53) rfl rfl 0 rfl ?_
  exact lu_iret X hret dX11_narrowed_53
def f11_narrowed_b51  (a0 : Int32) (a1 : Int32) (s0 : Int32) (m : lu_M) : Option (Int32 × lu_M) :=
  some (s0, m)
set_option maxRecDepth 20000 in
theorem w11_narrowed_b51  {G : lu_G} {ρ : Nat → Nat} {a0 : Int32} {a1 : Int32}  (X : lu_X G RX11 cX11_narrowed 2 0 0) (hret : (lu_me G).sig.returnType = (some .int))   : ∀ (s0 : Int32) (m : lu_M), lu_Ab lu_TC G (lu_Q lu_TC G ρ lu_RVi lu_sn) (f11_narrowed_b51 a0 a1 s0 m) 51 [] [.int s0] ρ 0 0 [] m := by
  intro s0 m
  unfold f11_narrowed_b51
  exact lu_iret X hret dX11_narrowed_51
def f11_narrowed (a0 : Int32) (a1 : Int32) (m : lu_M) : Option (Int32 × lu_M) :=
  if a0 = (0 : Int32) then (some (a1.toInt8.toInt32, m))
  else (if a0 = (1 : Int32) then (some (a1.toInt16.toInt32, m))
  else (if a0 = (2 : Int32) then (f11_narrowed_b52 a0 a1 m)
  else (if a0 = (3 : Int32) then (f11_narrowed_b52 a0 a1 m)
  else (if a0 = (4 : Int32) then (if a1 = 0 then (f11_narrowed_b51 a0 a1 (0 : Int32) m)
  else (f11_narrowed_b51 a0 a1 (1 : Int32) m))
  else (f11_narrowed_b52 a0 a1 m)))))
set_option maxRecDepth 20000 in
theorem c11_narrowed (l : Launch)   (a0 : Int32) (a1 : Int32) : lu_C lu_TC l yX11_narrowed cX11_narrowed 2 (some .int) 0 0 (fun ρ sa => [.int a0, .int a1]) (f11_narrowed a0 a1) lu_RVi lu_sn := by
  refine lu_met (cls := RX11) rfl (by decide +kernel) (fun _ _ => Nat.le_of_ble_eq_true rfl) ?_
  intro G ρ m hl X hret
  subst hl
  change lu_Ab lu_TC G (lu_Q lu_TC G ρ lu_RVi lu_sn) (f11_narrowed a0 a1 m) 0 [(0, .int a0), (1, .int a1)] [] ρ 0 0 [] m
  unfold f11_narrowed
  refine lu_iload_n X dX11_narrowed_0 (pc2 := 1) rfl rfl 0 rfl ?_
  refine lu_ite (fun c0 => ?_) (fun c0 => ?_)
  · refine lu_tsIn X c0 dX11_narrowed_1 (tgt := 36) (by decide) (by decide) rfl (by decide) ?_
    refine lu_iload_n X dX11_narrowed_36 (pc2 := 37) rfl rfl 1 rfl ?_
    refine lu_i2b X dX11_narrowed_37 (pc2 := 38) rfl ?_
    exact lu_iret X hret dX11_narrowed_38
  · refine lu_ite (fun c1 => ?_) (fun c1 => ?_)
    · refine lu_tsIn X c1 dX11_narrowed_1 (tgt := 39) (by decide) (by decide) rfl (by decide) ?_
      refine lu_iload_n X dX11_narrowed_39 (pc2 := 40) rfl rfl 1 rfl ?_
      refine lu_i2s X dX11_narrowed_40 (pc2 := 41) rfl ?_
      exact lu_iret X hret dX11_narrowed_41
    · refine lu_ite (fun c2 => ?_) (fun c2 => ?_)
      · refine lu_tsIn X c2 dX11_narrowed_1 (tgt := 52) (by decide) (by decide) rfl (by decide) ?_
        exact lu_sub [1] rfl (w11_narrowed_b52 X hret m)
      · refine lu_ite (fun c3 => ?_) (fun c3 => ?_)
        · refine lu_tsIn X c3 dX11_narrowed_1 (tgt := 52) (by decide) (by decide) rfl (by decide) ?_
          exact lu_sub [1] rfl (w11_narrowed_b52 X hret m)
        · refine lu_ite (fun c4 => ?_) (fun c4 => ?_)
          · refine lu_tsIn X c4 dX11_narrowed_1 (tgt := 42) (by decide) (by decide) rfl (by decide) ?_
            refine lu_iload_n X dX11_narrowed_42 (pc2 := 43) rfl rfl 1 rfl ?_
            refine lu_if_eq (tgt := 50) X dX11_narrowed_43 (pc2 := 46) rfl (by decide) (fun _ => ?_) (fun _ => ?_)
            · refine lu_iconst X dX11_narrowed_50 (pc2 := 51) rfl ic_0 ?_
              exact lu_sub [] rfl (w11_narrowed_b51 X hret (0 : Int32) m)
            · refine lu_iconst X dX11_narrowed_46 (pc2 := 47) rfl ic_1 ?_
              refine lu_goto (tgt := 51) X dX11_narrowed_47 (by decide) ?_
              exact lu_sub [] rfl (w11_narrowed_b51 X hret (1 : Int32) m)
          · refine lu_tsOut (tgt := 52) X dX11_narrowed_1 (by have h0 := lv_neT c0 (a := 0) (by decide); have h1 := lv_neT c1 (a := 1) (by decide); have h2 := lv_neT c2 (a := 2) (by decide); have h3 := lv_neT c3 (a := 3) (by decide); have h4 := lv_neT c4 (a := 4) (by decide); omega) (by decide) ?_
            exact lu_sub [1] rfl (w11_narrowed_b52 X hret m)

theorem dX11_write_0 : decode cX11_write 0 = .ok (.iload_n 1, 1) := by decide +kernel
theorem dX11_write_1 : decode cX11_write 1 = .ok (.iconst 0, 1) := by decide +kernel
theorem dX11_write_2 : decode cX11_write 2 = .ok (.iconst 3, 1) := by decide +kernel
theorem dX11_write_3 : decode cX11_write 3 = .ok (.invokestatic 92, 3) := by decide +kernel
theorem dX11_write_6 : decode cX11_write 6 = .ok (.ifCond .ne 5, 3) := by decide +kernel
theorem dX11_write_9 : decode cX11_write 9 = .ok (.iconst (-1), 1) := by decide +kernel
theorem dX11_write_10 : decode cX11_write 10 = .ok (.ireturn, 1) := by decide +kernel
theorem dX11_write_11 : decode cX11_write 11 = .ok (.aload_n 0, 1) := by decide +kernel
theorem dX11_write_12 : decode cX11_write 12 = .ok (.getfield 74, 3) := by decide +kernel
theorem dX11_write_15 : decode cX11_write 15 = .ok (.iload_n 1, 1) := by decide +kernel
theorem dX11_write_16 : decode cX11_write 16 = .ok (.iaload, 1) := by decide +kernel
theorem dX11_write_17 : decode cX11_write 17 = .ok (.iconst (-1), 1) := by decide +kernel
theorem dX11_write_18 : decode cX11_write 18 = .ok (.if_icmp .ne 6, 3) := by decide +kernel
theorem dX11_write_21 : decode cX11_write 21 = .ok (.bipush (-11), 2) := by decide +kernel
theorem dX11_write_23 : decode cX11_write 23 = .ok (.ireturn, 1) := by decide +kernel
theorem dX11_write_24 : decode cX11_write 24 = .ok (.iload_n 2, 1) := by decide +kernel
theorem dX11_write_25 : decode cX11_write 25 = .ok (.iconst 0, 1) := by decide +kernel
theorem dX11_write_26 : decode cX11_write 26 = .ok (.aload_n 0, 1) := by decide +kernel
theorem dX11_write_27 : decode cX11_write 27 = .ok (.getfield 77, 3) := by decide +kernel
theorem dX11_write_30 : decode cX11_write 30 = .ok (.iload_n 1, 1) := by decide +kernel
theorem dX11_write_31 : decode cX11_write 31 = .ok (.iaload, 1) := by decide +kernel
theorem dX11_write_32 : decode cX11_write 32 = .ok (.iconst 1, 1) := by decide +kernel
theorem dX11_write_33 : decode cX11_write 33 = .ok (.isub, 1) := by decide +kernel
theorem dX11_write_34 : decode cX11_write 34 = .ok (.invokestatic 92, 3) := by decide +kernel
theorem dX11_write_37 : decode cX11_write 37 = .ok (.ifCond .ne 6, 3) := by decide +kernel
theorem dX11_write_40 : decode cX11_write 40 = .ok (.bipush (-12), 2) := by decide +kernel
theorem dX11_write_42 : decode cX11_write 42 = .ok (.ireturn, 1) := by decide +kernel
theorem dX11_write_43 : decode cX11_write 43 = .ok (.aload_n 0, 1) := by decide +kernel
theorem dX11_write_44 : decode cX11_write 44 = .ok (.getfield 80, 3) := by decide +kernel
theorem dX11_write_47 : decode cX11_write 47 = .ok (.iload_n 1, 1) := by decide +kernel
theorem dX11_write_48 : decode cX11_write 48 = .ok (.aaload, 1) := by decide +kernel
theorem dX11_write_49 : decode cX11_write 49 = .ok (.iload_n 2, 1) := by decide +kernel
theorem dX11_write_50 : decode cX11_write 50 = .ok (.aload_n 0, 1) := by decide +kernel
theorem dX11_write_51 : decode cX11_write 51 = .ok (.getfield 74, 3) := by decide +kernel
theorem dX11_write_54 : decode cX11_write 54 = .ok (.iload_n 1, 1) := by decide +kernel
theorem dX11_write_55 : decode cX11_write 55 = .ok (.iaload, 1) := by decide +kernel
theorem dX11_write_56 : decode cX11_write 56 = .ok (.iload_n 3, 1) := by decide +kernel
theorem dX11_write_57 : decode cX11_write 57 = .ok (.invokestatic 293, 3) := by decide +kernel
theorem dX11_write_60 : decode cX11_write 60 = .ok (.iastore, 1) := by decide +kernel
theorem dX11_write_61 : decode cX11_write 61 = .ok (.iconst 1, 1) := by decide +kernel
theorem dX11_write_62 : decode cX11_write 62 = .ok (.ireturn, 1) := by decide +kernel
def f11_write (a1 : Int32) (a2 : Int32) (a3 : Int32) (m : lu_M) : Option (Int32 × lu_M) :=
  lu_bi (f11_isWithin a1 (0 : Int32) (3 : Int32) m) fun x1 m2 =>
  if x1 = 0 then (some ((-1 : Int32), m2))
  else (lu_gd (lu_ib a1 4) <|
  if (m2 104 a1.toNatClampNeg) = (-1 : Int32) then (some ((-11 : Int32), m2))
  else (lu_gd (lu_ib a1 4) <|
  lu_bi (f11_isWithin a2 (0 : Int32) ((m2 105 a1.toNatClampNeg) - (1 : Int32)) m2) fun x3 m4 =>
  if x3 = 0 then (some ((-12 : Int32), m4))
  else (lu_gd (lu_ib a1 4) <|
  lu_gd (lu_ib a1 4) <|
  lu_bi (f11_narrowed (m4 104 a1.toNatClampNeg) a3 m4) fun x6 m7 =>
  lu_gd (lu_ib a2 40) <|
  lu_nm (lu_st m7 (106 + 1 + a1.toNatClampNeg) a2.toNatClampNeg x6) fun m8 =>
  some ((1 : Int32), m8))))
set_option maxRecDepth 20000 in
theorem c11_write (l : Launch)   (a1 : Int32) (a2 : Int32) (a3 : Int32) : lu_C lu_TC l yX11_write cX11_write 4 (some .int) 1 22 (fun ρ sa => [.ref (ρ 0), .int a1, .int a2, .int a3]) (f11_write a1 a2 a3) lu_RVi lu_sn := by
  refine lu_met (cls := RX11) rfl (by decide +kernel) (fun _ _ => Nat.le_of_ble_eq_true rfl) ?_
  intro G ρ m hl X hret
  subst hl
  change lu_Ab lu_TC G (lu_Q lu_TC G ρ lu_RVi lu_sn) (f11_write a1 a2 a3 m) 0 [(0, .ref (ρ 0)), (1, .int a1), (2, .int a2), (3, .int a3)] [] ρ 0 0 [] m
  unfold f11_write
  refine lu_iload_n X dX11_write_0 (pc2 := 1) rfl rfl 1 rfl ?_
  refine lu_iconst X dX11_write_1 (pc2 := 2) rfl ic_0 ?_
  refine lu_iconst X dX11_write_2 (pc2 := 3) rfl ic_3 ?_
  refine lu_invSi X (c11_isWithin _ a1 (0 : Int32) (3 : Int32)) rfl q433 mvS_11_isWithin rfl rfl (Nat.le_of_ble_eq_true rfl) (Nat.le_of_ble_eq_true rfl) (Nat.le_of_ble_eq_true rfl) ⟨Nat.zero_le _, Nat.zero_le _⟩ dX11_write_3 (pc2 := 6) rfl rfl (fun x1 m2 => ?_)
  refine lu_if_ne (tgt := 11) X dX11_write_6 (pc2 := 9) rfl (by decide) (fun _ => ?_) (fun _ => ?_)
  · refine lu_aload_n X dX11_write_11 (pc2 := 12) rfl rfl 0 rfl ?_
    refine lu_getr (r2 := 104) X rfl fl11_74 rfl kC_0 lC_0 dX11_write_12 (pc2 := 15) rfl ?_
    refine lu_iload_n X dX11_write_15 (pc2 := 16) rfl rfl 1 rfl ?_
    refine lu_iald X kC_104 lC_104 dX11_write_16 (pc2 := 17) rfl ?_
    refine lu_iconst X dX11_write_17 (pc2 := 18) rfl ic_m1 ?_
    refine lu_icmp_ne (tgt := 24) X dX11_write_18 (pc2 := 21) rfl (by decide) (fun _ => ?_) (fun _ => ?_)
    · refine lu_iload_n X dX11_write_24 (pc2 := 25) rfl rfl 2 rfl ?_
      refine lu_iconst X dX11_write_25 (pc2 := 26) rfl ic_0 ?_
      refine lu_aload_n X dX11_write_26 (pc2 := 27) rfl rfl 0 rfl ?_
      refine lu_getr (r2 := 105) X rfl fl11_77 rfl kC_0 lC_0 dX11_write_27 (pc2 := 30) rfl ?_
      refine lu_iload_n X dX11_write_30 (pc2 := 31) rfl rfl 1 rfl ?_
      refine lu_iald X kC_105 lC_105 dX11_write_31 (pc2 := 32) rfl ?_
      refine lu_iconst X dX11_write_32 (pc2 := 33) rfl ic_1 ?_
      refine lu_isub X dX11_write_33 (pc2 := 34) rfl ?_
      refine lu_invSi X (c11_isWithin _ a2 (0 : Int32) ((m2 105 a1.toNatClampNeg) - (1 : Int32))) rfl q433 mvS_11_isWithin rfl rfl (Nat.le_of_ble_eq_true rfl) (Nat.le_of_ble_eq_true rfl) (Nat.le_of_ble_eq_true rfl) ⟨Nat.zero_le _, Nat.zero_le _⟩ dX11_write_34 (pc2 := 37) rfl rfl (fun x3 m4 => ?_)
      refine lu_if_ne (tgt := 43) X dX11_write_37 (pc2 := 40) rfl (by decide) (fun _ => ?_) (fun _ => ?_)
      · refine lu_aload_n X dX11_write_43 (pc2 := 44) rfl rfl 0 rfl ?_
        refine lu_getr (r2 := 106) X rfl fl11_80 rfl kC_0 lC_0 dX11_write_44 (pc2 := 47) rfl ?_
        refine lu_iload_n X dX11_write_47 (pc2 := 48) rfl rfl 1 rfl ?_
        refine lu_aald X rfl rfl (by decide) (by decide) kC_106 lC_106 dX11_write_48 (pc2 := 49) rfl (fun g5 => ?_)
        refine lu_iload_n X dX11_write_49 (pc2 := 50) rfl rfl 2 rfl ?_
        refine lu_aload_n X dX11_write_50 (pc2 := 51) rfl rfl 0 rfl ?_
        refine lu_getr (r2 := 104) X rfl fl11_74 rfl kC_0 lC_0 dX11_write_51 (pc2 := 54) rfl ?_
        refine lu_iload_n X dX11_write_54 (pc2 := 55) rfl rfl 1 rfl ?_
        refine lu_iald X kC_104 lC_104 dX11_write_55 (pc2 := 56) rfl ?_
        refine lu_iload_n X dX11_write_56 (pc2 := 57) rfl rfl 3 rfl ?_
        refine lu_invSi X (c11_narrowed _ (m4 104 a1.toNatClampNeg) a3) rfl q961 mvS_11_narrowed rfl rfl (Nat.le_of_ble_eq_true rfl) (Nat.le_of_ble_eq_true rfl) (Nat.le_of_ble_eq_true rfl) ⟨Nat.zero_le _, Nat.zero_le _⟩ dX11_write_57 (pc2 := 60) rfl rfl (fun x6 m7 => ?_)
        refine lu_iast X ((kaC_3_4_40 kC_106 lC_106 g5).1) ((kaC_3_4_40 kC_106 lC_106 g5).2) dX11_write_60 (pc2 := 61) rfl (fun m8 => ?_)
        refine lu_iconst X dX11_write_61 (pc2 := 62) rfl ic_1 ?_
        exact lu_iret X hret dX11_write_62
      · refine lu_bipush X dX11_write_40 (pc2 := 42) rfl bp_m12 ?_
        exact lu_iret X hret dX11_write_42
    · refine lu_bipush X dX11_write_21 (pc2 := 23) rfl bp_m11 ?_
      exact lu_iret X hret dX11_write_23
  · refine lu_iconst X dX11_write_9 (pc2 := 10) rfl ic_m1 ?_
    exact lu_iret X hret dX11_write_10

theorem dX11_item_0 : decode cX11_item 0 = .ok (.iload_n 1, 1) := by decide +kernel
theorem dX11_item_1 : decode cX11_item 1 = .ok (.iconst 0, 1) := by decide +kernel
theorem dX11_item_2 : decode cX11_item 2 = .ok (.iconst 3, 1) := by decide +kernel
theorem dX11_item_3 : decode cX11_item 3 = .ok (.invokestatic 92, 3) := by decide +kernel
theorem dX11_item_6 : decode cX11_item 6 = .ok (.ifCond .eq 12, 3) := by decide +kernel
theorem dX11_item_9 : decode cX11_item 9 = .ok (.iload_n 2, 1) := by decide +kernel
theorem dX11_item_10 : decode cX11_item 10 = .ok (.iconst 0, 1) := by decide +kernel
theorem dX11_item_11 : decode cX11_item 11 = .ok (.iconst 4, 1) := by decide +kernel
theorem dX11_item_12 : decode cX11_item 12 = .ok (.invokestatic 92, 3) := by decide +kernel
theorem dX11_item_15 : decode cX11_item 15 = .ok (.ifCond .ne 5, 3) := by decide +kernel
theorem dX11_item_18 : decode cX11_item 18 = .ok (.iconst (-1), 1) := by decide +kernel
theorem dX11_item_19 : decode cX11_item 19 = .ok (.ireturn, 1) := by decide +kernel
theorem dX11_item_20 : decode cX11_item 20 = .ok (.aload_n 0, 1) := by decide +kernel
theorem dX11_item_21 : decode cX11_item 21 = .ok (.getfield 74, 3) := by decide +kernel
theorem dX11_item_24 : decode cX11_item 24 = .ok (.iload_n 1, 1) := by decide +kernel
theorem dX11_item_25 : decode cX11_item 25 = .ok (.iaload, 1) := by decide +kernel
theorem dX11_item_26 : decode cX11_item 26 = .ok (.iconst (-1), 1) := by decide +kernel
theorem dX11_item_27 : decode cX11_item 27 = .ok (.if_icmp .ne 6, 3) := by decide +kernel
theorem dX11_item_30 : decode cX11_item 30 = .ok (.bipush (-11), 2) := by decide +kernel
theorem dX11_item_32 : decode cX11_item 32 = .ok (.ireturn, 1) := by decide +kernel
theorem dX11_item_33 : decode cX11_item 33 = .ok (.aload_n 0, 1) := by decide +kernel
theorem dX11_item_34 : decode cX11_item 34 = .ok (.getfield 74, 3) := by decide +kernel
theorem dX11_item_37 : decode cX11_item 37 = .ok (.iload_n 1, 1) := by decide +kernel
theorem dX11_item_38 : decode cX11_item 38 = .ok (.iaload, 1) := by decide +kernel
theorem dX11_item_39 : decode cX11_item 39 = .ok (.iload_n 2, 1) := by decide +kernel
theorem dX11_item_40 : decode cX11_item 40 = .ok (.if_icmp .eq 6, 3) := by decide +kernel
theorem dX11_item_43 : decode cX11_item 43 = .ok (.bipush (-13), 2) := by decide +kernel
theorem dX11_item_45 : decode cX11_item 45 = .ok (.ireturn, 1) := by decide +kernel
theorem dX11_item_46 : decode cX11_item 46 = .ok (.iload_n 3, 1) := by decide +kernel
theorem dX11_item_47 : decode cX11_item 47 = .ok (.iconst 0, 1) := by decide +kernel
theorem dX11_item_48 : decode cX11_item 48 = .ok (.aload_n 0, 1) := by decide +kernel
theorem dX11_item_49 : decode cX11_item 49 = .ok (.getfield 77, 3) := by decide +kernel
theorem dX11_item_52 : decode cX11_item 52 = .ok (.iload_n 1, 1) := by decide +kernel
theorem dX11_item_53 : decode cX11_item 53 = .ok (.iaload, 1) := by decide +kernel
theorem dX11_item_54 : decode cX11_item 54 = .ok (.iconst 1, 1) := by decide +kernel
theorem dX11_item_55 : decode cX11_item 55 = .ok (.isub, 1) := by decide +kernel
theorem dX11_item_56 : decode cX11_item 56 = .ok (.invokestatic 92, 3) := by decide +kernel
theorem dX11_item_59 : decode cX11_item 59 = .ok (.ifCond .ne 6, 3) := by decide +kernel
theorem dX11_item_62 : decode cX11_item 62 = .ok (.bipush (-12), 2) := by decide +kernel
theorem dX11_item_64 : decode cX11_item 64 = .ok (.ireturn, 1) := by decide +kernel
theorem dX11_item_65 : decode cX11_item 65 = .ok (.aload_n 0, 1) := by decide +kernel
theorem dX11_item_66 : decode cX11_item 66 = .ok (.getfield 80, 3) := by decide +kernel
theorem dX11_item_69 : decode cX11_item 69 = .ok (.iload_n 1, 1) := by decide +kernel
theorem dX11_item_70 : decode cX11_item 70 = .ok (.aaload, 1) := by decide +kernel
theorem dX11_item_71 : decode cX11_item 71 = .ok (.iload_n 3, 1) := by decide +kernel
theorem dX11_item_72 : decode cX11_item 72 = .ok (.iaload, 1) := by decide +kernel
theorem dX11_item_73 : decode cX11_item 73 = .ok (.ireturn, 1) := by decide +kernel
def f11_item_b18  (a1 : Int32) (a2 : Int32) (a3 : Int32)  (m : lu_M) : Option (Int32 × lu_M) :=
  some ((-1 : Int32), m)
set_option maxRecDepth 20000 in
theorem w11_item_b18  {G : lu_G} {ρ : Nat → Nat} {a1 : Int32} {a2 : Int32} {a3 : Int32}  (X : lu_X G RX11 cX11_item 4 1 22) (hret : (lu_me G).sig.returnType = (some .int))   : ∀  (m : lu_M), lu_Ab lu_TC G (lu_Q lu_TC G ρ lu_RVi lu_sn) (f11_item_b18 a1 a2 a3 m) 18 [] [] ρ 0 0 [] m := by
  intro  m
  unfold f11_item_b18
  refine lu_iconst X dX11_item_18 (pc2 := 19) rfl ic_m1 ?_
  exact lu_iret X hret dX11_item_19
def f11_item (a1 : Int32) (a2 : Int32) (a3 : Int32) (m : lu_M) : Option (Int32 × lu_M) :=
  lu_bi (f11_isWithin a1 (0 : Int32) (3 : Int32) m) fun x1 m2 =>
  if x1 = 0 then (f11_item_b18 a1 a2 a3 m2)
  else (lu_bi (f11_isWithin a2 (0 : Int32) (4 : Int32) m2) fun x3 m4 =>
  if x3 = 0 then (f11_item_b18 a1 a2 a3 m4)
  else (lu_gd (lu_ib a1 4) <|
  if (m4 104 a1.toNatClampNeg) = (-1 : Int32) then (some ((-11 : Int32), m4))
  else (lu_gd (lu_ib a1 4) <|
  if (m4 104 a1.toNatClampNeg) = a2 then (lu_gd (lu_ib a1 4) <|
  lu_bi (f11_isWithin a3 (0 : Int32) ((m4 105 a1.toNatClampNeg) - (1 : Int32)) m4) fun x5 m6 =>
  if x5 = 0 then (some ((-12 : Int32), m6))
  else (lu_gd (lu_ib a1 4) <|
  lu_gd (lu_ib a3 40) <|
  some ((m6 (106 + 1 + a1.toNatClampNeg) a3.toNatClampNeg), m6)))
  else (some ((-13 : Int32), m4)))))
set_option maxRecDepth 20000 in
theorem c11_item (l : Launch)   (a1 : Int32) (a2 : Int32) (a3 : Int32) : lu_C lu_TC l yX11_item cX11_item 4 (some .int) 1 22 (fun ρ sa => [.ref (ρ 0), .int a1, .int a2, .int a3]) (f11_item a1 a2 a3) lu_RVi lu_sn := by
  refine lu_met (cls := RX11) rfl (by decide +kernel) (fun _ _ => Nat.le_of_ble_eq_true rfl) ?_
  intro G ρ m hl X hret
  subst hl
  change lu_Ab lu_TC G (lu_Q lu_TC G ρ lu_RVi lu_sn) (f11_item a1 a2 a3 m) 0 [(0, .ref (ρ 0)), (1, .int a1), (2, .int a2), (3, .int a3)] [] ρ 0 0 [] m
  unfold f11_item
  refine lu_iload_n X dX11_item_0 (pc2 := 1) rfl rfl 1 rfl ?_
  refine lu_iconst X dX11_item_1 (pc2 := 2) rfl ic_0 ?_
  refine lu_iconst X dX11_item_2 (pc2 := 3) rfl ic_3 ?_
  refine lu_invSi X (c11_isWithin _ a1 (0 : Int32) (3 : Int32)) rfl q433 mvS_11_isWithin rfl rfl (Nat.le_of_ble_eq_true rfl) (Nat.le_of_ble_eq_true rfl) (Nat.le_of_ble_eq_true rfl) ⟨Nat.zero_le _, Nat.zero_le _⟩ dX11_item_3 (pc2 := 6) rfl rfl (fun x1 m2 => ?_)
  refine lu_if_eq (tgt := 18) X dX11_item_6 (pc2 := 9) rfl (by decide) (fun _ => ?_) (fun _ => ?_)
  · exact lu_sub [] rfl (w11_item_b18 X hret m2)
  · refine lu_iload_n X dX11_item_9 (pc2 := 10) rfl rfl 2 rfl ?_
    refine lu_iconst X dX11_item_10 (pc2 := 11) rfl ic_0 ?_
    refine lu_iconst X dX11_item_11 (pc2 := 12) rfl ic_4 ?_
    refine lu_invSi X (c11_isWithin _ a2 (0 : Int32) (4 : Int32)) rfl q433 mvS_11_isWithin rfl rfl (Nat.le_of_ble_eq_true rfl) (Nat.le_of_ble_eq_true rfl) (Nat.le_of_ble_eq_true rfl) ⟨Nat.zero_le _, Nat.zero_le _⟩ dX11_item_12 (pc2 := 15) rfl rfl (fun x3 m4 => ?_)
    refine lu_if_ne (tgt := 20) X dX11_item_15 (pc2 := 18) rfl (by decide) (fun _ => ?_) (fun _ => ?_)
    · refine lu_aload_n X dX11_item_20 (pc2 := 21) rfl rfl 0 rfl ?_
      refine lu_getr (r2 := 104) X rfl fl11_74 rfl kC_0 lC_0 dX11_item_21 (pc2 := 24) rfl ?_
      refine lu_iload_n X dX11_item_24 (pc2 := 25) rfl rfl 1 rfl ?_
      refine lu_iald X kC_104 lC_104 dX11_item_25 (pc2 := 26) rfl ?_
      refine lu_iconst X dX11_item_26 (pc2 := 27) rfl ic_m1 ?_
      refine lu_icmp_ne (tgt := 33) X dX11_item_27 (pc2 := 30) rfl (by decide) (fun _ => ?_) (fun _ => ?_)
      · refine lu_aload_n X dX11_item_33 (pc2 := 34) rfl rfl 0 rfl ?_
        refine lu_getr (r2 := 104) X rfl fl11_74 rfl kC_0 lC_0 dX11_item_34 (pc2 := 37) rfl ?_
        refine lu_iload_n X dX11_item_37 (pc2 := 38) rfl rfl 1 rfl ?_
        refine lu_iald X kC_104 lC_104 dX11_item_38 (pc2 := 39) rfl ?_
        refine lu_iload_n X dX11_item_39 (pc2 := 40) rfl rfl 2 rfl ?_
        refine lu_icmp_eq (tgt := 46) X dX11_item_40 (pc2 := 43) rfl (by decide) (fun _ => ?_) (fun _ => ?_)
        · refine lu_iload_n X dX11_item_46 (pc2 := 47) rfl rfl 3 rfl ?_
          refine lu_iconst X dX11_item_47 (pc2 := 48) rfl ic_0 ?_
          refine lu_aload_n X dX11_item_48 (pc2 := 49) rfl rfl 0 rfl ?_
          refine lu_getr (r2 := 105) X rfl fl11_77 rfl kC_0 lC_0 dX11_item_49 (pc2 := 52) rfl ?_
          refine lu_iload_n X dX11_item_52 (pc2 := 53) rfl rfl 1 rfl ?_
          refine lu_iald X kC_105 lC_105 dX11_item_53 (pc2 := 54) rfl ?_
          refine lu_iconst X dX11_item_54 (pc2 := 55) rfl ic_1 ?_
          refine lu_isub X dX11_item_55 (pc2 := 56) rfl ?_
          refine lu_invSi X (c11_isWithin _ a3 (0 : Int32) ((m4 105 a1.toNatClampNeg) - (1 : Int32))) rfl q433 mvS_11_isWithin rfl rfl (Nat.le_of_ble_eq_true rfl) (Nat.le_of_ble_eq_true rfl) (Nat.le_of_ble_eq_true rfl) ⟨Nat.zero_le _, Nat.zero_le _⟩ dX11_item_56 (pc2 := 59) rfl rfl (fun x5 m6 => ?_)
          refine lu_if_ne (tgt := 65) X dX11_item_59 (pc2 := 62) rfl (by decide) (fun _ => ?_) (fun _ => ?_)
          · refine lu_aload_n X dX11_item_65 (pc2 := 66) rfl rfl 0 rfl ?_
            refine lu_getr (r2 := 106) X rfl fl11_80 rfl kC_0 lC_0 dX11_item_66 (pc2 := 69) rfl ?_
            refine lu_iload_n X dX11_item_69 (pc2 := 70) rfl rfl 1 rfl ?_
            refine lu_aald X rfl rfl (by decide) (by decide) kC_106 lC_106 dX11_item_70 (pc2 := 71) rfl (fun g7 => ?_)
            refine lu_iload_n X dX11_item_71 (pc2 := 72) rfl rfl 3 rfl ?_
            refine lu_iald X ((kaC_3_4_40 kC_106 lC_106 g7).1) ((kaC_3_4_40 kC_106 lC_106 g7).2) dX11_item_72 (pc2 := 73) rfl ?_
            exact lu_iret X hret dX11_item_73
          · refine lu_bipush X dX11_item_62 (pc2 := 64) rfl bp_m12 ?_
            exact lu_iret X hret dX11_item_64
        · refine lu_bipush X dX11_item_43 (pc2 := 45) rfl bp_m13 ?_
          exact lu_iret X hret dX11_item_45
      · refine lu_bipush X dX11_item_30 (pc2 := 32) rfl bp_m11 ?_
        exact lu_iret X hret dX11_item_32
    · exact lu_sub [] rfl (w11_item_b18 X hret m4)

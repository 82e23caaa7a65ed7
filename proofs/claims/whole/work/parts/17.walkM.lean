/-! WALKS of methods (written by a program out of their instructions): functions of the memory, and contracts -/
theorem dX12_deedOf_0 : decode cX12_deedOf 0 = .ok (.aload_n 0, 1) := by decide +kernel
theorem dX12_deedOf_1 : decode cX12_deedOf 1 = .ok (.iload_n 1, 1) := by decide +kernel
theorem dX12_deedOf_2 : decode cX12_deedOf 2 = .ok (.invokevirtual 116, 3) := by decide +kernel
theorem dX12_deedOf_5 : decode cX12_deedOf 5 = .ok (.ifCond .eq 15, 3) := by decide +kernel
theorem dX12_deedOf_8 : decode cX12_deedOf 8 = .ok (.iload_n 2, 1) := by decide +kernel
theorem dX12_deedOf_9 : decode cX12_deedOf 9 = .ok (.i2l, 1) := by decide +kernel
theorem dX12_deedOf_10 : decode cX12_deedOf 10 = .ok (.lconst 0, 1) := by decide +kernel
theorem dX12_deedOf_11 : decode cX12_deedOf 11 = .ok (.ldc2_w 75, 3) := by decide +kernel
theorem dX12_deedOf_14 : decode cX12_deedOf 14 = .ok (.invokestatic 64, 3) := by decide +kernel
theorem dX12_deedOf_17 : decode cX12_deedOf 17 = .ok (.ifCond .ne 7, 3) := by decide +kernel
theorem dX12_deedOf_20 : decode cX12_deedOf 20 = .ok (.iconst (-1), 1) := by decide +kernel
theorem dX12_deedOf_21 : decode cX12_deedOf 21 = .ok (.goto 22, 3) := by decide +kernel
theorem dX12_deedOf_24 : decode cX12_deedOf 24 = .ok (.iload_n 2, 1) := by decide +kernel
theorem dX12_deedOf_25 : decode cX12_deedOf 25 = .ok (.iconst 5, 1) := by decide +kernel
theorem dX12_deedOf_26 : decode cX12_deedOf 26 = .ok (.if_icmp .ne 11, 3) := by decide +kernel
theorem dX12_deedOf_29 : decode cX12_deedOf 29 = .ok (.aload_n 0, 1) := by decide +kernel
theorem dX12_deedOf_30 : decode cX12_deedOf 30 = .ok (.iload_n 1, 1) := by decide +kernel
theorem dX12_deedOf_31 : decode cX12_deedOf 31 = .ok (.invokevirtual 119, 3) := by decide +kernel
theorem dX12_deedOf_34 : decode cX12_deedOf 34 = .ok (.goto 9, 3) := by decide +kernel
theorem dX12_deedOf_37 : decode cX12_deedOf 37 = .ok (.aload_n 0, 1) := by decide +kernel
theorem dX12_deedOf_38 : decode cX12_deedOf 38 = .ok (.iload_n 1, 1) := by decide +kernel
theorem dX12_deedOf_39 : decode cX12_deedOf 39 = .ok (.iload_n 2, 1) := by decide +kernel
theorem dX12_deedOf_40 : decode cX12_deedOf 40 = .ok (.invokevirtual 90, 3) := by decide +kernel
theorem dX12_deedOf_43 : decode cX12_deedOf 43 = .ok (.ireturn, 1) := by decide +kernel
def f12_deedOf_b43  (a1 : Int32) (a2 : Int32) (s0 : Int32) (m : lu_M) : Option (Int32 × lu_M) :=
  some (s0, m)
set_option maxRecDepth 20000 in
theorem w12_deedOf_b43  {G : lu_G} {ρ : Nat → Nat} {a1 : Int32} {a2 : Int32}  (X : lu_X G RX12 cX12_deedOf 3 3 65) (hret : (lu_me G).sig.returnType = (some .int))   : ∀ (s0 : Int32) (m : lu_M), lu_Ab lu_TM G (lu_Q lu_TM G ρ lu_RVi lu_sn) (f12_deedOf_b43 a1 a2 s0 m) 43 [] [.int s0] ρ 0 0 [] m := by
  intro s0 m
  unfold f12_deedOf_b43
  exact lu_iret X hret dX12_deedOf_43
def f12_deedOf_b20  (a1 : Int32) (a2 : Int32)  (m : lu_M) : Option (Int32 × lu_M) :=
  f12_deedOf_b43 a1 a2 (-1 : Int32) m
set_option maxRecDepth 20000 in
theorem w12_deedOf_b20  {G : lu_G} {ρ : Nat → Nat} {a1 : Int32} {a2 : Int32}  (X : lu_X G RX12 cX12_deedOf 3 3 65) (hret : (lu_me G).sig.returnType = (some .int))   : ∀  (m : lu_M), lu_Ab lu_TM G (lu_Q lu_TM G ρ lu_RVi lu_sn) (f12_deedOf_b20 a1 a2 m) 20 [] [] ρ 0 0 [] m := by
  intro  m
  unfold f12_deedOf_b20
  refine lu_iconst X dX12_deedOf_20 (pc2 := 21) rfl ic_m1 ?_
  refine lu_goto (tgt := 43) X dX12_deedOf_21 (by decide) ?_
  exact w12_deedOf_b43 X hret (-1 : Int32) m
def f12_deedOf (a1 : Int32) (a2 : Int32) (m : lu_M) : Option (Int32 × lu_M) :=
  lu_bi (f12_isDeed a1 m) fun x1 m2 =>
  if x1 = 0 then (f12_deedOf_b20 a1 a2 m2)
  else (lu_bi (f12_in a2.toInt64 (0 : Int64) (5 : Int64) m2) fun x3 m4 =>
  if x3 = 0 then (f12_deedOf_b20 a1 a2 m4)
  else (if a2 = (5 : Int32) then (lu_bi (f12_due a1 m4) fun x7 m8 =>
  f12_deedOf_b43 a1 a2 x7 m8)
  else (lu_bi (f12_deedIs a1 a2 m4) fun x5 m6 =>
  f12_deedOf_b43 a1 a2 x5 m6)))
set_option maxRecDepth 20000 in
theorem c12_deedOf (l : Launch)   (a1 : Int32) (a2 : Int32) : lu_C lu_TM l yX12_deedOf cX12_deedOf 3 (some .int) 3 65 (fun ρ sa => [.ref (ρ 0), .int a1, .int a2]) (f12_deedOf a1 a2) lu_RVi lu_sn := by
  refine lu_met (cls := RX12) rfl (by decide +kernel) (fun _ _ => Nat.le_of_ble_eq_true rfl) ?_
  intro G ρ m hl X hret
  subst hl
  change lu_Ab lu_TM G (lu_Q lu_TM G ρ lu_RVi lu_sn) (f12_deedOf a1 a2 m) 0 [(0, .ref (ρ 0)), (1, .int a1), (2, .int a2)] [] ρ 0 0 [] m
  unfold f12_deedOf
  refine lu_aload_n X dX12_deedOf_0 (pc2 := 1) rfl rfl 0 rfl ?_
  refine lu_iload_n X dX12_deedOf_1 (pc2 := 2) rfl rfl 1 rfl ?_
  refine lu_invVi X (c12_isDeed _ a1) rfl q1341 mvV_12_isDeed kM_0 lM_0 (by decide) ⟨_, rfl, rfl⟩ rfl rfl (Nat.le_of_ble_eq_true rfl) (Nat.le_of_ble_eq_true rfl) (Nat.le_of_ble_eq_true rfl) ⟨Nat.zero_le _, Nat.zero_le _⟩ dX12_deedOf_2 (pc2 := 5) rfl rfl (fun x1 m2 => ?_)
  refine lu_if_eq (tgt := 20) X dX12_deedOf_5 (pc2 := 8) rfl (by decide) (fun _ => ?_) (fun _ => ?_)
  · exact lu_sub [] rfl (w12_deedOf_b20 X hret m2)
  · refine lu_iload_n X dX12_deedOf_8 (pc2 := 9) rfl rfl 2 rfl ?_
    refine lu_i2l X dX12_deedOf_9 (pc2 := 10) rfl ?_
    refine lu_lconst (v := (0 : Int64)) X dX12_deedOf_10 (pc2 := 11) rfl (by decide) ?_
    refine lu_ldc2 X q1260 dX12_deedOf_11 (pc2 := 14) rfl ?_
    refine lu_invSi X (c12_in _ a2.toInt64 (0 : Int64) (5 : Int64)) rfl q1261 mvS_12_in rfl rfl (Nat.le_of_ble_eq_true rfl) (Nat.le_of_ble_eq_true rfl) (Nat.le_of_ble_eq_true rfl) ⟨Nat.zero_le _, Nat.zero_le _⟩ dX12_deedOf_14 (pc2 := 17) rfl rfl (fun x3 m4 => ?_)
    refine lu_if_ne (tgt := 24) X dX12_deedOf_17 (pc2 := 20) rfl (by decide) (fun _ => ?_) (fun _ => ?_)
    · refine lu_iload_n X dX12_deedOf_24 (pc2 := 25) rfl rfl 2 rfl ?_
      refine lu_iconst X dX12_deedOf_25 (pc2 := 26) rfl ic_5 ?_
      refine lu_icmp_ne (tgt := 37) X dX12_deedOf_26 (pc2 := 29) rfl (by decide) (fun _ => ?_) (fun _ => ?_)
      · refine lu_aload_n X dX12_deedOf_37 (pc2 := 38) rfl rfl 0 rfl ?_
        refine lu_iload_n X dX12_deedOf_38 (pc2 := 39) rfl rfl 1 rfl ?_
        refine lu_iload_n X dX12_deedOf_39 (pc2 := 40) rfl rfl 2 rfl ?_
        refine lu_invVi X (c12_deedIs _ a1 a2) rfl q1284 mvV_12_deedIs kM_0 lM_0 (by decide) ⟨_, rfl, rfl⟩ rfl rfl (Nat.le_of_ble_eq_true rfl) (Nat.le_of_ble_eq_true rfl) (Nat.le_of_ble_eq_true rfl) ⟨Nat.zero_le _, Nat.zero_le _⟩ dX12_deedOf_40 (pc2 := 43) rfl rfl (fun x5 m6 => ?_)
        exact lu_sub [] rfl (w12_deedOf_b43 X hret x5 m6)
      · refine lu_aload_n X dX12_deedOf_29 (pc2 := 30) rfl rfl 0 rfl ?_
        refine lu_iload_n X dX12_deedOf_30 (pc2 := 31) rfl rfl 1 rfl ?_
        refine lu_invVi X (c12_due _ a1) rfl q1316 mvV_12_due kM_0 lM_0 (by decide) ⟨_, rfl, rfl⟩ rfl rfl (Nat.le_of_ble_eq_true rfl) (Nat.le_of_ble_eq_true rfl) (Nat.le_of_ble_eq_true rfl) ⟨Nat.zero_le _, Nat.zero_le _⟩ dX12_deedOf_31 (pc2 := 34) rfl rfl (fun x7 m8 => ?_)
        refine lu_goto (tgt := 43) X dX12_deedOf_34 (by decide) ?_
        exact lu_sub [] rfl (w12_deedOf_b43 X hret x7 m8)
    · exact lu_sub [] rfl (w12_deedOf_b20 X hret m4)

theorem dX12_ends_0 : decode cX12_ends 0 = .ok (.iload_n 1, 1) := by decide +kernel
theorem dX12_ends_1 : decode cX12_ends 1 = .ok (.i2l, 1) := by decide +kernel
theorem dX12_ends_2 : decode cX12_ends 2 = .ok (.lconst 1, 1) := by decide +kernel
theorem dX12_ends_3 : decode cX12_ends 3 = .ok (.ldc2_w 122, 3) := by decide +kernel
theorem dX12_ends_6 : decode cX12_ends 6 = .ok (.invokestatic 64, 3) := by decide +kernel
theorem dX12_ends_9 : decode cX12_ends 9 = .ok (.ifCond .ne 7, 3) := by decide +kernel
theorem dX12_ends_12 : decode cX12_ends 12 = .ok (.iconst (-1), 1) := by decide +kernel
theorem dX12_ends_13 : decode cX12_ends 13 = .ok (.goto 24, 3) := by decide +kernel
theorem dX12_ends_16 : decode cX12_ends 16 = .ok (.iload_n 1, 1) := by decide +kernel
theorem dX12_ends_17 : decode cX12_ends 17 = .ok (.aload_n 0, 1) := by decide +kernel
theorem dX12_ends_18 : decode cX12_ends 18 = .ok (.getfield 7, 3) := by decide +kernel
theorem dX12_ends_21 : decode cX12_ends 21 = .ok (.iconst 3, 1) := by decide +kernel
theorem dX12_ends_22 : decode cX12_ends 22 = .ok (.iaload, 1) := by decide +kernel
theorem dX12_ends_23 : decode cX12_ends 23 = .ok (.if_icmp .ge 8, 3) := by decide +kernel
theorem dX12_ends_26 : decode cX12_ends 26 = .ok (.bipush (-4), 2) := by decide +kernel
theorem dX12_ends_28 : decode cX12_ends 28 = .ok (.goto 9, 3) := by decide +kernel
theorem dX12_ends_31 : decode cX12_ends 31 = .ok (.aload_n 0, 1) := by decide +kernel
theorem dX12_ends_32 : decode cX12_ends 32 = .ok (.iconst 2, 1) := by decide +kernel
theorem dX12_ends_33 : decode cX12_ends 33 = .ok (.iload_n 1, 1) := by decide +kernel
theorem dX12_ends_34 : decode cX12_ends 34 = .ok (.invokevirtual 111, 3) := by decide +kernel
theorem dX12_ends_37 : decode cX12_ends 37 = .ok (.ireturn, 1) := by decide +kernel
def f12_ends_b37  (a1 : Int32) (s0 : Int32) (m : lu_M) : Option (Int32 × lu_M) :=
  some (s0, m)
set_option maxRecDepth 20000 in
theorem w12_ends_b37  {G : lu_G} {ρ : Nat → Nat} {a1 : Int32}  (X : lu_X G RX12 cX12_ends 2 1 25) (hret : (lu_me G).sig.returnType = (some .int))   : ∀ (s0 : Int32) (m : lu_M), lu_Ab lu_TM G (lu_Q lu_TM G ρ lu_RVi lu_sn) (f12_ends_b37 a1 s0 m) 37 [] [.int s0] ρ 0 0 [] m := by
  intro s0 m
  unfold f12_ends_b37
  exact lu_iret X hret dX12_ends_37
def f12_ends (a1 : Int32) (m : lu_M) : Option (Int32 × lu_M) :=
  lu_bi (f12_in a1.toInt64 (1 : Int64) (16 : Int64) m) fun x1 m2 =>
  if x1 = 0 then (f12_ends_b37 a1 (-1 : Int32) m2)
  else (if (m2 1 3) ≤ a1 then (lu_bi (f12_becomes (2 : Int32) a1 m2) fun x3 m4 =>
  f12_ends_b37 a1 x3 m4)
  else (f12_ends_b37 a1 (-4 : Int32) m2))
set_option maxRecDepth 20000 in
theorem c12_ends (l : Launch)   (a1 : Int32) : lu_C lu_TM l yX12_ends cX12_ends 2 (some .int) 1 25 (fun ρ sa => [.ref (ρ 0), .int a1]) (f12_ends a1) lu_RVi lu_sn := by
  refine lu_met (cls := RX12) rfl (by decide +kernel) (fun _ _ => Nat.le_of_ble_eq_true rfl) ?_
  intro G ρ m hl X hret
  subst hl
  change lu_Ab lu_TM G (lu_Q lu_TM G ρ lu_RVi lu_sn) (f12_ends a1 m) 0 [(0, .ref (ρ 0)), (1, .int a1)] [] ρ 0 0 [] m
  unfold f12_ends
  refine lu_iload_n X dX12_ends_0 (pc2 := 1) rfl rfl 1 rfl ?_
  refine lu_i2l X dX12_ends_1 (pc2 := 2) rfl ?_
  refine lu_lconst (v := (1 : Int64)) X dX12_ends_2 (pc2 := 3) rfl (by decide) ?_
  refine lu_ldc2 X q1353 dX12_ends_3 (pc2 := 6) rfl ?_
  refine lu_invSi X (c12_in _ a1.toInt64 (1 : Int64) (16 : Int64)) rfl q1261 mvS_12_in rfl rfl (Nat.le_of_ble_eq_true rfl) (Nat.le_of_ble_eq_true rfl) (Nat.le_of_ble_eq_true rfl) ⟨Nat.zero_le _, Nat.zero_le _⟩ dX12_ends_6 (pc2 := 9) rfl rfl (fun x1 m2 => ?_)
  refine lu_if_ne (tgt := 16) X dX12_ends_9 (pc2 := 12) rfl (by decide) (fun _ => ?_) (fun _ => ?_)
  · refine lu_iload_n X dX12_ends_16 (pc2 := 17) rfl rfl 1 rfl ?_
    refine lu_aload_n X dX12_ends_17 (pc2 := 18) rfl rfl 0 rfl ?_
    refine lu_getr (r2 := 1) X rfl fl12_7 rfl kM_0 lM_0 dX12_ends_18 (pc2 := 21) rfl ?_
    refine lu_iconst X dX12_ends_21 (pc2 := 22) rfl ic_3 ?_
    refine lu_ialdK (q := 3) X (by decide) kM_1 lM_1 dX12_ends_22 (pc2 := 23) rfl ?_
    refine lu_icmp_ge (tgt := 31) X dX12_ends_23 (pc2 := 26) rfl (by decide) (fun _ => ?_) (fun _ => ?_)
    · refine lu_aload_n X dX12_ends_31 (pc2 := 32) rfl rfl 0 rfl ?_
      refine lu_iconst X dX12_ends_32 (pc2 := 33) rfl ic_2 ?_
      refine lu_iload_n X dX12_ends_33 (pc2 := 34) rfl rfl 1 rfl ?_
      refine lu_invVi X (c12_becomes _ (2 : Int32) a1) rfl q1328 mvV_12_becomes kM_0 lM_0 (by decide) ⟨_, rfl, rfl⟩ rfl rfl (Nat.le_of_ble_eq_true rfl) (Nat.le_of_ble_eq_true rfl) (Nat.le_of_ble_eq_true rfl) ⟨Nat.zero_le _, Nat.zero_le _⟩ dX12_ends_34 (pc2 := 37) rfl rfl (fun x3 m4 => ?_)
      exact lu_sub [] rfl (w12_ends_b37 X hret x3 m4)
    · refine lu_bipush X dX12_ends_26 (pc2 := 28) rfl bp_m4 ?_
      refine lu_goto (tgt := 37) X dX12_ends_28 (by decide) ?_
      exact lu_sub [] rfl (w12_ends_b37 X hret (-4 : Int32) m2)
  · refine lu_iconst X dX12_ends_12 (pc2 := 13) rfl ic_m1 ?_
    refine lu_goto (tgt := 37) X dX12_ends_13 (by decide) ?_
    exact lu_sub [] rfl (w12_ends_b37 X hret (-1 : Int32) m2)

theorem dX12_anew_0 : decode cX12_anew 0 = .ok (.iconst 0, 1) := by decide +kernel
theorem dX12_anew_1 : decode cX12_anew 1 = .ok (.istore_n 1, 1) := by decide +kernel
theorem dX12_anew_2 : decode cX12_anew 2 = .ok (.iload_n 1, 1) := by decide +kernel
theorem dX12_anew_3 : decode cX12_anew 3 = .ok (.aload_n 0, 1) := by decide +kernel
theorem dX12_anew_4 : decode cX12_anew 4 = .ok (.getfield 7, 3) := by decide +kernel
theorem dX12_anew_7 : decode cX12_anew 7 = .ok (.iconst 5, 1) := by decide +kernel
theorem dX12_anew_8 : decode cX12_anew 8 = .ok (.iaload, 1) := by decide +kernel
theorem dX12_anew_9 : decode cX12_anew 9 = .ok (.if_icmp .ge 20, 3) := by decide +kernel
theorem dX12_anew_12 : decode cX12_anew 12 = .ok (.aload_n 0, 1) := by decide +kernel
theorem dX12_anew_13 : decode cX12_anew 13 = .ok (.getfield 7, 3) := by decide +kernel
theorem dX12_anew_16 : decode cX12_anew 16 = .ok (.iload_n 1, 1) := by decide +kernel
theorem dX12_anew_17 : decode cX12_anew 17 = .ok (.iconst 4, 1) := by decide +kernel
theorem dX12_anew_18 : decode cX12_anew 18 = .ok (.invokestatic 72, 3) := by decide +kernel
theorem dX12_anew_21 : decode cX12_anew 21 = .ok (.iconst 0, 1) := by decide +kernel
theorem dX12_anew_22 : decode cX12_anew 22 = .ok (.iastore, 1) := by decide +kernel
theorem dX12_anew_23 : decode cX12_anew 23 = .ok (.iinc 1 1, 3) := by decide +kernel
theorem dX12_anew_26 : decode cX12_anew 26 = .ok (.goto (-24), 3) := by decide +kernel
theorem dX12_anew_29 : decode cX12_anew 29 = .ok (.aload_n 0, 1) := by decide +kernel
theorem dX12_anew_30 : decode cX12_anew 30 = .ok (.getfield 7, 3) := by decide +kernel
theorem dX12_anew_33 : decode cX12_anew 33 = .ok (.iconst 4, 1) := by decide +kernel
theorem dX12_anew_34 : decode cX12_anew 34 = .ok (.iconst 0, 1) := by decide +kernel
theorem dX12_anew_35 : decode cX12_anew 35 = .ok (.iastore, 1) := by decide +kernel
theorem dX12_anew_36 : decode cX12_anew 36 = .ok (.aload_n 0, 1) := by decide +kernel
theorem dX12_anew_37 : decode cX12_anew 37 = .ok (.iconst 3, 1) := by decide +kernel
theorem dX12_anew_38 : decode cX12_anew 38 = .ok (.iconst 0, 1) := by decide +kernel
theorem dX12_anew_39 : decode cX12_anew 39 = .ok (.invokevirtual 111, 3) := by decide +kernel
theorem dX12_anew_42 : decode cX12_anew 42 = .ok (.ireturn, 1) := by decide +kernel
def f12_anew_b2B (K29 : lu_M → Option (Int32 × lu_M)) (rec : Int32 → lu_M → Option (Int32 × lu_M))  (v1 : Int32) (m : lu_M) : Option (Int32 × lu_M) :=
  if (m 1 5) ≤ v1 then (K29 m)
  else (lu_bi (f12_spot v1 (4 : Int32) m) fun x1 m2 =>
  lu_gd (lu_ib x1 368) <|
  lu_nm (lu_st m2 1 x1.toNatClampNeg (0 : Int32)) fun m3 =>
  rec (v1 + (1 : Int32)) m3)
def f12_anew_b2 (K29 : lu_M → Option (Int32 × lu_M))  : Nat → Int32 → lu_M → Option (Int32 × lu_M)
  | 0, _, _ => none
  | n + 1, v1, m => f12_anew_b2B K29 (f12_anew_b2 K29 n) v1 m
set_option maxRecDepth 20000 in
theorem w12_anew_b2B  {G : lu_G} {ρ : Nat → Nat}  {K29 : lu_M → Option (Int32 × lu_M)} {rec : Int32 → lu_M → Option (Int32 × lu_M)} (X : lu_X G RX12 cX12_anew 2 1 23) (hret : (lu_me G).sig.returnType = (some .int))  (hK29 : ∀  (m : lu_M), lu_Ab lu_TM G (lu_Q lu_TM G ρ lu_RVi lu_sn) (K29 m) 29 [(0, .ref (ρ 0))] [] ρ 0 0 [] m) (hrec : ∀ (v1 : Int32) (m : lu_M), lu_Ab lu_TM G (lu_Q lu_TM G ρ lu_RVi lu_sn) (rec v1 m) 2 [(0, .ref (ρ 0)), (1, .int v1)] [] ρ 0 0 [] m) : ∀ (v1 : Int32) (m : lu_M), lu_Ab lu_TM G (lu_Q lu_TM G ρ lu_RVi lu_sn) (f12_anew_b2B K29 rec v1 m) 2 [(0, .ref (ρ 0)), (1, .int v1)] [] ρ 0 0 [] m := by
  intro v1 m
  unfold f12_anew_b2B
  refine lu_iload_n X dX12_anew_2 (pc2 := 3) rfl rfl 1 rfl ?_
  refine lu_aload_n X dX12_anew_3 (pc2 := 4) rfl rfl 0 rfl ?_
  refine lu_getr (r2 := 1) X rfl fl12_7 rfl kM_0 lM_0 dX12_anew_4 (pc2 := 7) rfl ?_
  refine lu_iconst X dX12_anew_7 (pc2 := 8) rfl ic_5 ?_
  refine lu_ialdK (q := 5) X (by decide) kM_1 lM_1 dX12_anew_8 (pc2 := 9) rfl ?_
  refine lu_icmp_ge (tgt := 29) X dX12_anew_9 (pc2 := 12) rfl (by decide) (fun _ => ?_) (fun _ => ?_)
  · exact lu_sub [0] rfl (hK29 m)
  · refine lu_aload_n X dX12_anew_12 (pc2 := 13) rfl rfl 0 rfl ?_
    refine lu_getr (r2 := 1) X rfl fl12_7 rfl kM_0 lM_0 dX12_anew_13 (pc2 := 16) rfl ?_
    refine lu_iload_n X dX12_anew_16 (pc2 := 17) rfl rfl 1 rfl ?_
    refine lu_iconst X dX12_anew_17 (pc2 := 18) rfl ic_4 ?_
    refine lu_invSi X (c12_spot _ v1 (4 : Int32)) rfl q1288 mvS_12_spot rfl rfl (Nat.le_of_ble_eq_true rfl) (Nat.le_of_ble_eq_true rfl) (Nat.le_of_ble_eq_true rfl) ⟨Nat.zero_le _, Nat.zero_le _⟩ dX12_anew_18 (pc2 := 21) rfl rfl (fun x1 m2 => ?_)
    refine lu_iconst X dX12_anew_21 (pc2 := 22) rfl ic_0 ?_
    refine lu_iast X kM_1 lM_1 dX12_anew_22 (pc2 := 23) rfl (fun m3 => ?_)
    refine lu_iinc (lv2 := [(1, .int (v1 + (1 : Int32))), (0, .ref (ρ 0))]) X dX12_anew_23 (pc2 := 26) rfl 1 rfl (lu_ii _ ic_1) (by decide) rfl ?_
    refine lu_goto (tgt := 2) X dX12_anew_26 (by decide) ?_
    exact lu_sub [1, 0] rfl (hrec (v1 + (1 : Int32)) m3)
theorem w12_anew_b2  {G : lu_G} {ρ : Nat → Nat}  {K29 : lu_M → Option (Int32 × lu_M)} (X : lu_X G RX12 cX12_anew 2 1 23) (hret : (lu_me G).sig.returnType = (some .int))  (hK29 : ∀  (m : lu_M), lu_Ab lu_TM G (lu_Q lu_TM G ρ lu_RVi lu_sn) (K29 m) 29 [(0, .ref (ρ 0))] [] ρ 0 0 [] m) : ∀ (n : Nat) (v1 : Int32) (m : lu_M), lu_Ab lu_TM G (lu_Q lu_TM G ρ lu_RVi lu_sn) (f12_anew_b2 K29 n v1 m) 2 [(0, .ref (ρ 0)), (1, .int v1)] [] ρ 0 0 [] m := by
  intro n
  induction n with
  | zero => intro v1 m; exact lu_none
  | succ n ih => intro v1 m; exact w12_anew_b2B X hret hK29 ih v1 m
def f12_anew_b29    (m : lu_M) : Option (Int32 × lu_M) :=
  lu_nm (lu_st m 1 4 (0 : Int32)) fun m4 =>
  lu_bi (f12_becomes (3 : Int32) (0 : Int32) m4) fun x5 m6 =>
  some (x5, m6)
set_option maxRecDepth 20000 in
theorem w12_anew_b29  {G : lu_G} {ρ : Nat → Nat}   (X : lu_X G RX12 cX12_anew 2 1 23) (hret : (lu_me G).sig.returnType = (some .int))   : ∀  (m : lu_M), lu_Ab lu_TM G (lu_Q lu_TM G ρ lu_RVi lu_sn) (f12_anew_b29  m) 29 [(0, .ref (ρ 0))] [] ρ 0 0 [] m := by
  intro  m
  unfold f12_anew_b29
  refine lu_aload_n X dX12_anew_29 (pc2 := 30) rfl rfl 0 rfl ?_
  refine lu_getr (r2 := 1) X rfl fl12_7 rfl kM_0 lM_0 dX12_anew_30 (pc2 := 33) rfl ?_
  refine lu_iconst X dX12_anew_33 (pc2 := 34) rfl ic_4 ?_
  refine lu_iconst X dX12_anew_34 (pc2 := 35) rfl ic_0 ?_
  refine lu_iastK (q := 4) X (by decide) kM_1 lM_1 dX12_anew_35 (pc2 := 36) rfl (fun m4 => ?_)
  refine lu_aload_n X dX12_anew_36 (pc2 := 37) rfl rfl 0 rfl ?_
  refine lu_iconst X dX12_anew_37 (pc2 := 38) rfl ic_3 ?_
  refine lu_iconst X dX12_anew_38 (pc2 := 39) rfl ic_0 ?_
  refine lu_invVi X (c12_becomes _ (3 : Int32) (0 : Int32)) rfl q1328 mvV_12_becomes kM_0 lM_0 (by decide) ⟨_, rfl, rfl⟩ rfl rfl (Nat.le_of_ble_eq_true rfl) (Nat.le_of_ble_eq_true rfl) (Nat.le_of_ble_eq_true rfl) ⟨Nat.zero_le _, Nat.zero_le _⟩ dX12_anew_39 (pc2 := 42) rfl rfl (fun x5 m6 => ?_)
  exact lu_iret X hret dX12_anew_42
def f12_anew  (m : lu_M) : Option (Int32 × lu_M) :=
  f12_anew_b2 f12_anew_b29 lu_fu (0 : Int32) m
set_option maxRecDepth 20000 in
theorem c12_anew (l : Launch)    : lu_C lu_TM l yX12_anew cX12_anew 2 (some .int) 1 23 (fun ρ sa => [.ref (ρ 0)]) (f12_anew ) lu_RVi lu_sn := by
  refine lu_met (cls := RX12) rfl (by decide +kernel) (fun _ _ => Nat.le_of_ble_eq_true rfl) ?_
  intro G ρ m hl X hret
  subst hl
  change lu_Ab lu_TM G (lu_Q lu_TM G ρ lu_RVi lu_sn) (f12_anew  m) 0 [(0, .ref (ρ 0))] [] ρ 0 0 [] m
  unfold f12_anew
  refine lu_iconst X dX12_anew_0 (pc2 := 1) rfl ic_0 ?_
  refine lu_istore_n (lv2 := [(1, .int (0 : Int32)), (0, .ref (ρ 0))]) X dX12_anew_1 (pc2 := 2) rfl rfl (by decide) rfl ?_
  exact lu_sub [1, 0] rfl (w12_anew_b2 X hret (w12_anew_b29 X hret) lu_fu (0 : Int32) m)

theorem dX12_isOver_0 : decode cX12_isOver 0 = .ok (.aload_n 0, 1) := by decide +kernel
theorem dX12_isOver_1 : decode cX12_isOver 1 = .ok (.getfield 7, 3) := by decide +kernel
theorem dX12_isOver_4 : decode cX12_isOver 4 = .ok (.iconst 3, 1) := by decide +kernel
theorem dX12_isOver_5 : decode cX12_isOver 5 = .ok (.iaload, 1) := by decide +kernel
theorem dX12_isOver_6 : decode cX12_isOver 6 = .ok (.aload_n 0, 1) := by decide +kernel
theorem dX12_isOver_7 : decode cX12_isOver 7 = .ok (.getfield 7, 3) := by decide +kernel
theorem dX12_isOver_10 : decode cX12_isOver 10 = .ok (.iconst 2, 1) := by decide +kernel
theorem dX12_isOver_11 : decode cX12_isOver 11 = .ok (.iaload, 1) := by decide +kernel
theorem dX12_isOver_12 : decode cX12_isOver 12 = .ok (.if_icmp .lt 7, 3) := by decide +kernel
theorem dX12_isOver_15 : decode cX12_isOver 15 = .ok (.iconst 1, 1) := by decide +kernel
theorem dX12_isOver_16 : decode cX12_isOver 16 = .ok (.goto 4, 3) := by decide +kernel
theorem dX12_isOver_19 : decode cX12_isOver 19 = .ok (.iconst 0, 1) := by decide +kernel
theorem dX12_isOver_20 : decode cX12_isOver 20 = .ok (.ireturn, 1) := by decide +kernel
def f12_isOver_b20   (s0 : Int32) (m : lu_M) : Option (Int32 × lu_M) :=
  lu_gd (decide (s0 = 0 ∨ s0 = 1)) (some (s0, m))
set_option maxRecDepth 20000 in
theorem w12_isOver_b20  {G : lu_G} {ρ : Nat → Nat}   (X : lu_X G RX12 cX12_isOver 1 0 0) (hret : (lu_me G).sig.returnType = (some .boolean))   : ∀ (s0 : Int32) (m : lu_M), lu_Ab lu_TM G (lu_Q lu_TM G ρ lu_RVi lu_sn) (f12_isOver_b20  s0 m) 20 [] [.int s0] ρ 0 0 [] m := by
  intro s0 m
  unfold f12_isOver_b20
  exact lu_zretG X hret dX12_isOver_20
def f12_isOver  (m : lu_M) : Option (Int32 × lu_M) :=
  if (m 1 3) < (m 1 2) then (f12_isOver_b20 (0 : Int32) m)
  else (f12_isOver_b20 (1 : Int32) m)
set_option maxRecDepth 20000 in
theorem c12_isOver (l : Launch)    : lu_C lu_TM l yX12_isOver cX12_isOver 1 (some .boolean) 0 0 (fun ρ sa => [.ref (ρ 0)]) (f12_isOver ) lu_RVi lu_sn := by
  refine lu_met (cls := RX12) rfl (by decide +kernel) (fun _ _ => Nat.le_of_ble_eq_true rfl) ?_
  intro G ρ m hl X hret
  subst hl
  change lu_Ab lu_TM G (lu_Q lu_TM G ρ lu_RVi lu_sn) (f12_isOver  m) 0 [(0, .ref (ρ 0))] [] ρ 0 0 [] m
  unfold f12_isOver
  refine lu_aload_n X dX12_isOver_0 (pc2 := 1) rfl rfl 0 rfl ?_
  refine lu_getr (r2 := 1) X rfl fl12_7 rfl kM_0 lM_0 dX12_isOver_1 (pc2 := 4) rfl ?_
  refine lu_iconst X dX12_isOver_4 (pc2 := 5) rfl ic_3 ?_
  refine lu_ialdK (q := 3) X (by decide) kM_1 lM_1 dX12_isOver_5 (pc2 := 6) rfl ?_
  refine lu_aload_n X dX12_isOver_6 (pc2 := 7) rfl rfl 0 rfl ?_
  refine lu_getr (r2 := 1) X rfl fl12_7 rfl kM_0 lM_0 dX12_isOver_7 (pc2 := 10) rfl ?_
  refine lu_iconst X dX12_isOver_10 (pc2 := 11) rfl ic_2 ?_
  refine lu_ialdK (q := 2) X (by decide) kM_1 lM_1 dX12_isOver_11 (pc2 := 12) rfl ?_
  refine lu_icmp_lt (tgt := 19) X dX12_isOver_12 (pc2 := 15) rfl (by decide) (fun _ => ?_) (fun _ => ?_)
  · refine lu_iconst X dX12_isOver_19 (pc2 := 20) rfl ic_0 ?_
    exact lu_sub [] rfl (w12_isOver_b20 X hret (0 : Int32) m)
  · refine lu_iconst X dX12_isOver_15 (pc2 := 16) rfl ic_1 ?_
    refine lu_goto (tgt := 20) X dX12_isOver_16 (by decide) ?_
    exact lu_sub [] rfl (w12_isOver_b20 X hret (1 : Int32) m)

theorem dX12_state_0 : decode cX12_state 0 = .ok (.iload_n 1, 1) := by decide +kernel
theorem dX12_state_1 : decode cX12_state 1 = .ok (.tableswitch 65 0 3 #[31, 38, 45, 52], 31) := by decide +kernel
theorem dX12_state_32 : decode cX12_state 32 = .ok (.aload_n 0, 1) := by decide +kernel
theorem dX12_state_33 : decode cX12_state 33 = .ok (.getfield 7, 3) := by decide +kernel
theorem dX12_state_36 : decode cX12_state 36 = .ok (.iconst 3, 1) := by decide +kernel
theorem dX12_state_37 : decode cX12_state 37 = .ok (.iaload, 1) := by decide +kernel
theorem dX12_state_38 : decode cX12_state 38 = .ok (.ireturn, 1) := by decide +kernel
theorem dX12_state_39 : decode cX12_state 39 = .ok (.aload_n 0, 1) := by decide +kernel
theorem dX12_state_40 : decode cX12_state 40 = .ok (.getfield 7, 3) := by decide +kernel
theorem dX12_state_43 : decode cX12_state 43 = .ok (.iconst 2, 1) := by decide +kernel
theorem dX12_state_44 : decode cX12_state 44 = .ok (.iaload, 1) := by decide +kernel
theorem dX12_state_45 : decode cX12_state 45 = .ok (.ireturn, 1) := by decide +kernel
theorem dX12_state_46 : decode cX12_state 46 = .ok (.aload_n 0, 1) := by decide +kernel
theorem dX12_state_47 : decode cX12_state 47 = .ok (.getfield 7, 3) := by decide +kernel
theorem dX12_state_50 : decode cX12_state 50 = .ok (.iconst 4, 1) := by decide +kernel
theorem dX12_state_51 : decode cX12_state 51 = .ok (.iaload, 1) := by decide +kernel
theorem dX12_state_52 : decode cX12_state 52 = .ok (.ireturn, 1) := by decide +kernel
theorem dX12_state_53 : decode cX12_state 53 = .ok (.aload_n 0, 1) := by decide +kernel
theorem dX12_state_54 : decode cX12_state 54 = .ok (.invokevirtual 124, 3) := by decide +kernel
theorem dX12_state_57 : decode cX12_state 57 = .ok (.ifCond .eq 7, 3) := by decide +kernel
theorem dX12_state_60 : decode cX12_state 60 = .ok (.iconst 1, 1) := by decide +kernel
theorem dX12_state_61 : decode cX12_state 61 = .ok (.goto 4, 3) := by decide +kernel
theorem dX12_state_64 : decode cX12_state 64 = .ok (.iconst 0, 1) := by decide +kernel
theorem dX12_state_65 : decode cX12_state 65 = .ok (.ireturn, 1) := by decide +kernel
theorem dX12_state_66 : decode cX12_state 66 = .ok (.iconst (-1), 1) := by decide +kernel
theorem dX12_state_67 : decode cX12_state 67 = .ok (.ireturn, 1) := by decide +kernel
def f12_state_b65  (a1 : Int32) (s0 : Int32) (m : lu_M) : Option (Int32 × lu_M) :=
  some (s0, m)
set_option maxRecDepth 20000 in
theorem w12_state_b65  {G : lu_G} {ρ : Nat → Nat} {a1 : Int32}  (X : lu_X G RX12 cX12_state 2 1 20) (hret : (lu_me G).sig.returnType = (some .int))   : ∀ (s0 : Int32) (m : lu_M), lu_Ab lu_TM G (lu_Q lu_TM G ρ lu_RVi lu_sn) (f12_state_b65 a1 s0 m) 65 [] [.int s0] ρ 0 0 [] m := by
  intro s0 m
  unfold f12_state_b65
  exact lu_iret X hret dX12_state_65
def f12_state (a1 : Int32) (m : lu_M) : Option (Int32 × lu_M) :=
  if a1 = (0 : Int32) then (some ((m 1 3), m))
  else (if a1 = (1 : Int32) then (some ((m 1 2), m))
  else (if a1 = (2 : Int32) then (some ((m 1 4), m))
  else (if a1 = (3 : Int32) then (lu_bi (f12_isOver m) fun x1 m2 =>
  if x1 = 0 then (f12_state_b65 a1 (0 : Int32) m2)
  else (f12_state_b65 a1 (1 : Int32) m2))
  else (some ((-1 : Int32), m)))))
set_option maxRecDepth 20000 in
theorem c12_state (l : Launch)   (a1 : Int32) : lu_C lu_TM l yX12_state cX12_state 2 (some .int) 1 20 (fun ρ sa => [.ref (ρ 0), .int a1]) (f12_state a1) lu_RVi lu_sn := by
  refine lu_met (cls := RX12) rfl (by decide +kernel) (fun _ _ => Nat.le_of_ble_eq_true rfl) ?_
  intro G ρ m hl X hret
  subst hl
  change lu_Ab lu_TM G (lu_Q lu_TM G ρ lu_RVi lu_sn) (f12_state a1 m) 0 [(0, .ref (ρ 0)), (1, .int a1)] [] ρ 0 0 [] m
  unfold f12_state
  refine lu_iload_n X dX12_state_0 (pc2 := 1) rfl rfl 1 rfl ?_
  refine lu_ite (fun c0 => ?_) (fun c0 => ?_)
  · refine lu_tsIn X c0 dX12_state_1 (tgt := 32) (by decide) (by decide) rfl (by decide) ?_
    refine lu_aload_n X dX12_state_32 (pc2 := 33) rfl rfl 0 rfl ?_
    refine lu_getr (r2 := 1) X rfl fl12_7 rfl kM_0 lM_0 dX12_state_33 (pc2 := 36) rfl ?_
    refine lu_iconst X dX12_state_36 (pc2 := 37) rfl ic_3 ?_
    refine lu_ialdK (q := 3) X (by decide) kM_1 lM_1 dX12_state_37 (pc2 := 38) rfl ?_
    exact lu_iret X hret dX12_state_38
  · refine lu_ite (fun c1 => ?_) (fun c1 => ?_)
    · refine lu_tsIn X c1 dX12_state_1 (tgt := 39) (by decide) (by decide) rfl (by decide) ?_
      refine lu_aload_n X dX12_state_39 (pc2 := 40) rfl rfl 0 rfl ?_
      refine lu_getr (r2 := 1) X rfl fl12_7 rfl kM_0 lM_0 dX12_state_40 (pc2 := 43) rfl ?_
      refine lu_iconst X dX12_state_43 (pc2 := 44) rfl ic_2 ?_
      refine lu_ialdK (q := 2) X (by decide) kM_1 lM_1 dX12_state_44 (pc2 := 45) rfl ?_
      exact lu_iret X hret dX12_state_45
    · refine lu_ite (fun c2 => ?_) (fun c2 => ?_)
      · refine lu_tsIn X c2 dX12_state_1 (tgt := 46) (by decide) (by decide) rfl (by decide) ?_
        refine lu_aload_n X dX12_state_46 (pc2 := 47) rfl rfl 0 rfl ?_
        refine lu_getr (r2 := 1) X rfl fl12_7 rfl kM_0 lM_0 dX12_state_47 (pc2 := 50) rfl ?_
        refine lu_iconst X dX12_state_50 (pc2 := 51) rfl ic_4 ?_
        refine lu_ialdK (q := 4) X (by decide) kM_1 lM_1 dX12_state_51 (pc2 := 52) rfl ?_
        exact lu_iret X hret dX12_state_52
      · refine lu_ite (fun c3 => ?_) (fun c3 => ?_)
        · refine lu_tsIn X c3 dX12_state_1 (tgt := 53) (by decide) (by decide) rfl (by decide) ?_
          refine lu_aload_n X dX12_state_53 (pc2 := 54) rfl rfl 0 rfl ?_
          refine lu_invVi X (c12_isOver _) rfl q1362 mvV_12_isOver kM_0 lM_0 (by decide) ⟨_, rfl, rfl⟩ rfl rfl (Nat.le_of_ble_eq_true rfl) (Nat.le_of_ble_eq_true rfl) (Nat.le_of_ble_eq_true rfl) ⟨Nat.zero_le _, Nat.zero_le _⟩ dX12_state_54 (pc2 := 57) rfl rfl (fun x1 m2 => ?_)
          refine lu_if_eq (tgt := 64) X dX12_state_57 (pc2 := 60) rfl (by decide) (fun _ => ?_) (fun _ => ?_)
          · refine lu_iconst X dX12_state_64 (pc2 := 65) rfl ic_0 ?_
            exact lu_sub [] rfl (w12_state_b65 X hret (0 : Int32) m2)
          · refine lu_iconst X dX12_state_60 (pc2 := 61) rfl ic_1 ?_
            refine lu_goto (tgt := 65) X dX12_state_61 (by decide) ?_
            exact lu_sub [] rfl (w12_state_b65 X hret (1 : Int32) m2)
        · refine lu_tsOut (tgt := 66) X dX12_state_1 (by have h0 := lv_neT c0 (a := 0) (by decide); have h1 := lv_neT c1 (a := 1) (by decide); have h2 := lv_neT c2 (a := 2) (by decide); have h3 := lv_neT c3 (a := 3) (by decide); omega) (by decide) ?_
          refine lu_iconst X dX12_state_66 (pc2 := 67) rfl ic_m1 ?_
          exact lu_iret X hret dX12_state_67

theorem dX12_undo_0 : decode cX12_undo 0 = .ok (.aload_n 0, 1) := by decide +kernel
theorem dX12_undo_1 : decode cX12_undo 1 = .ok (.getfield 7, 3) := by decide +kernel
theorem dX12_undo_4 : decode cX12_undo 4 = .ok (.iload_n 1, 1) := by decide +kernel
theorem dX12_undo_5 : decode cX12_undo 5 = .ok (.iconst 4, 1) := by decide +kernel
theorem dX12_undo_6 : decode cX12_undo 6 = .ok (.invokestatic 72, 3) := by decide +kernel
theorem dX12_undo_9 : decode cX12_undo 9 = .ok (.iconst 2, 1) := by decide +kernel
theorem dX12_undo_10 : decode cX12_undo 10 = .ok (.iastore, 1) := by decide +kernel
theorem dX12_undo_11 : decode cX12_undo 11 = .ok (.iconst 0, 1) := by decide +kernel
theorem dX12_undo_12 : decode cX12_undo 12 = .ok (.istore_n 2, 1) := by decide +kernel
theorem dX12_undo_13 : decode cX12_undo 13 = .ok (.iload_n 2, 1) := by decide +kernel
theorem dX12_undo_14 : decode cX12_undo 14 = .ok (.aload_n 0, 1) := by decide +kernel
theorem dX12_undo_15 : decode cX12_undo 15 = .ok (.getfield 7, 3) := by decide +kernel
theorem dX12_undo_18 : decode cX12_undo 18 = .ok (.iconst 5, 1) := by decide +kernel
theorem dX12_undo_19 : decode cX12_undo 19 = .ok (.iaload, 1) := by decide +kernel
theorem dX12_undo_20 : decode cX12_undo 20 = .ok (.if_icmp .ge 82, 3) := by decide +kernel
theorem dX12_undo_23 : decode cX12_undo 23 = .ok (.aload_n 0, 1) := by decide +kernel
theorem dX12_undo_24 : decode cX12_undo 24 = .ok (.iload_n 2, 1) := by decide +kernel
theorem dX12_undo_25 : decode cX12_undo 25 = .ok (.iconst 3, 1) := by decide +kernel
theorem dX12_undo_26 : decode cX12_undo 26 = .ok (.invokevirtual 90, 3) := by decide +kernel
theorem dX12_undo_29 : decode cX12_undo 29 = .ok (.istore_n 3, 1) := by decide +kernel
theorem dX12_undo_30 : decode cX12_undo 30 = .ok (.aload_n 0, 1) := by decide +kernel
theorem dX12_undo_31 : decode cX12_undo 31 = .ok (.iload_n 2, 1) := by decide +kernel
theorem dX12_undo_32 : decode cX12_undo 32 = .ok (.iconst 4, 1) := by decide +kernel
theorem dX12_undo_33 : decode cX12_undo 33 = .ok (.invokevirtual 90, 3) := by decide +kernel
theorem dX12_undo_36 : decode cX12_undo 36 = .ok (.iconst 1, 1) := by decide +kernel
theorem dX12_undo_37 : decode cX12_undo 37 = .ok (.if_icmp .ne 31, 3) := by decide +kernel
theorem dX12_undo_40 : decode cX12_undo 40 = .ok (.iload_n 3, 1) := by decide +kernel
theorem dX12_undo_41 : decode cX12_undo 41 = .ok (.ifCond .lt 27, 3) := by decide +kernel
theorem dX12_undo_44 : decode cX12_undo 44 = .ok (.aload_n 0, 1) := by decide +kernel
theorem dX12_undo_45 : decode cX12_undo 45 = .ok (.iload_n 3, 1) := by decide +kernel
theorem dX12_undo_46 : decode cX12_undo 46 = .ok (.iconst 4, 1) := by decide +kernel
theorem dX12_undo_47 : decode cX12_undo 47 = .ok (.invokevirtual 90, 3) := by decide +kernel
theorem dX12_undo_50 : decode cX12_undo 50 = .ok (.iconst 2, 1) := by decide +kernel
theorem dX12_undo_51 : decode cX12_undo 51 = .ok (.if_icmp .eq 13, 3) := by decide +kernel
theorem dX12_undo_54 : decode cX12_undo 54 = .ok (.aload_n 0, 1) := by decide +kernel
theorem dX12_undo_55 : decode cX12_undo 55 = .ok (.iload_n 3, 1) := by decide +kernel
theorem dX12_undo_56 : decode cX12_undo 56 = .ok (.iconst 4, 1) := by decide +kernel
theorem dX12_undo_57 : decode cX12_undo 57 = .ok (.invokevirtual 90, 3) := by decide +kernel
theorem dX12_undo_60 : decode cX12_undo 60 = .ok (.iconst 3, 1) := by decide +kernel
theorem dX12_undo_61 : decode cX12_undo 61 = .ok (.if_icmp .ne 7, 3) := by decide +kernel
theorem dX12_undo_64 : decode cX12_undo 64 = .ok (.iconst 1, 1) := by decide +kernel
theorem dX12_undo_65 : decode cX12_undo 65 = .ok (.goto 4, 3) := by decide +kernel
theorem dX12_undo_68 : decode cX12_undo 68 = .ok (.iconst 0, 1) := by decide +kernel
theorem dX12_undo_69 : decode cX12_undo 69 = .ok (.istore 4, 2) := by decide +kernel
theorem dX12_undo_71 : decode cX12_undo 71 = .ok (.aload_n 0, 1) := by decide +kernel
theorem dX12_undo_72 : decode cX12_undo 72 = .ok (.getfield 7, 3) := by decide +kernel
theorem dX12_undo_75 : decode cX12_undo 75 = .ok (.iload_n 2, 1) := by decide +kernel
theorem dX12_undo_76 : decode cX12_undo 76 = .ok (.iconst 4, 1) := by decide +kernel
theorem dX12_undo_77 : decode cX12_undo 77 = .ok (.invokestatic 72, 3) := by decide +kernel
theorem dX12_undo_80 : decode cX12_undo 80 = .ok (.iload 4, 2) := by decide +kernel
theorem dX12_undo_82 : decode cX12_undo 82 = .ok (.ifCond .eq 7, 3) := by decide +kernel
theorem dX12_undo_85 : decode cX12_undo 85 = .ok (.iconst 3, 1) := by decide +kernel
theorem dX12_undo_86 : decode cX12_undo 86 = .ok (.goto 9, 3) := by decide +kernel
theorem dX12_undo_89 : decode cX12_undo 89 = .ok (.aload_n 0, 1) := by decide +kernel
theorem dX12_undo_90 : decode cX12_undo 90 = .ok (.iload_n 2, 1) := by decide +kernel
theorem dX12_undo_91 : decode cX12_undo 91 = .ok (.iconst 4, 1) := by decide +kernel
theorem dX12_undo_92 : decode cX12_undo 92 = .ok (.invokevirtual 90, 3) := by decide +kernel
theorem dX12_undo_95 : decode cX12_undo 95 = .ok (.iastore, 1) := by decide +kernel
theorem dX12_undo_96 : decode cX12_undo 96 = .ok (.iinc 2 1, 3) := by decide +kernel
theorem dX12_undo_99 : decode cX12_undo 99 = .ok (.goto (-86), 3) := by decide +kernel
theorem dX12_undo_102 : decode cX12_undo 102 = .ok (.return_, 1) := by decide +kernel
def f12_undo_b95 (K13 : Int32 → lu_M → Option (lu_M)) (K102 : lu_M → Option (lu_M)) (a1 : Int32) (v2 : Int32) (s0 : Int32) (s1 : Int32) (m : lu_M) : Option (lu_M) :=
  lu_gd (lu_ib s1 368) <|
  lu_nm (lu_st m 1 s1.toNatClampNeg s0) fun m12 =>
  K13 (v2 + (1 : Int32)) m12
set_option maxRecDepth 20000 in
theorem w12_undo_b95  {G : lu_G} {ρ : Nat → Nat} {a1 : Int32} {K13 : Int32 → lu_M → Option (lu_M)} {K102 : lu_M → Option (lu_M)} (X : lu_X G RX12 cX12_undo 5 2 43) (hret : (lu_me G).sig.returnType = none)  (hK13 : ∀ (v2 : Int32) (m : lu_M), lu_Ab lu_TM G (lu_Q lu_TM G ρ lu_RVv lu_id) (K13 v2 m) 13 [(0, .ref (ρ 0)), (2, .int v2)] [] ρ 0 0 [] m) (hK102 : ∀  (m : lu_M), lu_Ab lu_TM G (lu_Q lu_TM G ρ lu_RVv lu_id) (K102 m) 102 [] [] ρ 0 0 [] m) : ∀ (v2 : Int32) (s0 : Int32) (s1 : Int32) (m : lu_M), lu_Ab lu_TM G (lu_Q lu_TM G ρ lu_RVv lu_id) (f12_undo_b95 K13 K102 a1 v2 s0 s1 m) 95 [(0, .ref (ρ 0)), (2, .int v2)] [.int s0, .int s1, .ref (ρ 1)] ρ 0 0 [] m := by
  intro v2 s0 s1 m
  unfold f12_undo_b95
  refine lu_iast X kM_1 lM_1 dX12_undo_95 (pc2 := 96) rfl (fun m12 => ?_)
  refine lu_iinc (lv2 := [(2, .int (v2 + (1 : Int32))), (0, .ref (ρ 0))]) X dX12_undo_96 (pc2 := 99) rfl 1 rfl (lu_ii _ ic_1) (by decide) rfl ?_
  refine lu_goto (tgt := 13) X dX12_undo_99 (by decide) ?_
  exact lu_sub [1, 0] rfl (hK13 (v2 + (1 : Int32)) m12)
def f12_undo_b69 (K13 : Int32 → lu_M → Option (lu_M)) (K102 : lu_M → Option (lu_M)) (a1 : Int32) (v2 : Int32) (s0 : Int32) (m : lu_M) : Option (lu_M) :=
  lu_bi (f12_spot v2 (4 : Int32) m) fun x8 m9 =>
  if s0 = 0 then (lu_bi (f12_deedIs v2 (4 : Int32) m9) fun x10 m11 =>
  f12_undo_b95 K13 K102 a1 v2 x10 x8 m11)
  else (f12_undo_b95 K13 K102 a1 v2 (3 : Int32) x8 m9)
set_option maxRecDepth 20000 in
theorem w12_undo_b69  {G : lu_G} {ρ : Nat → Nat} {a1 : Int32} {K13 : Int32 → lu_M → Option (lu_M)} {K102 : lu_M → Option (lu_M)} (X : lu_X G RX12 cX12_undo 5 2 43) (hret : (lu_me G).sig.returnType = none)  (hK13 : ∀ (v2 : Int32) (m : lu_M), lu_Ab lu_TM G (lu_Q lu_TM G ρ lu_RVv lu_id) (K13 v2 m) 13 [(0, .ref (ρ 0)), (2, .int v2)] [] ρ 0 0 [] m) (hK102 : ∀  (m : lu_M), lu_Ab lu_TM G (lu_Q lu_TM G ρ lu_RVv lu_id) (K102 m) 102 [] [] ρ 0 0 [] m) : ∀ (v2 : Int32) (s0 : Int32) (m : lu_M), lu_Ab lu_TM G (lu_Q lu_TM G ρ lu_RVv lu_id) (f12_undo_b69 K13 K102 a1 v2 s0 m) 69 [(0, .ref (ρ 0)), (2, .int v2)] [.int s0] ρ 0 0 [] m := by
  intro v2 s0 m
  unfold f12_undo_b69
  refine lu_istore (lv2 := [(4, .int s0), (0, .ref (ρ 0)), (2, .int v2)]) X dX12_undo_69 (pc2 := 71) rfl (by decide) rfl ?_
  refine lu_aload_n X dX12_undo_71 (pc2 := 72) rfl rfl 1 rfl ?_
  refine lu_getr (r2 := 1) X rfl fl12_7 rfl kM_0 lM_0 dX12_undo_72 (pc2 := 75) rfl ?_
  refine lu_iload_n X dX12_undo_75 (pc2 := 76) rfl rfl 2 rfl ?_
  refine lu_iconst X dX12_undo_76 (pc2 := 77) rfl ic_4 ?_
  refine lu_invSi X (c12_spot _ v2 (4 : Int32)) rfl q1288 mvS_12_spot rfl rfl (Nat.le_of_ble_eq_true rfl) (Nat.le_of_ble_eq_true rfl) (Nat.le_of_ble_eq_true rfl) ⟨Nat.zero_le _, Nat.zero_le _⟩ dX12_undo_77 (pc2 := 80) rfl rfl (fun x8 m9 => ?_)
  refine lu_iload X dX12_undo_80 (pc2 := 82) rfl 0 rfl ?_
  refine lu_if_eq (tgt := 89) X dX12_undo_82 (pc2 := 85) rfl (by decide) (fun _ => ?_) (fun _ => ?_)
  · refine lu_aload_n X dX12_undo_89 (pc2 := 90) rfl rfl 1 rfl ?_
    refine lu_iload_n X dX12_undo_90 (pc2 := 91) rfl rfl 2 rfl ?_
    refine lu_iconst X dX12_undo_91 (pc2 := 92) rfl ic_4 ?_
    refine lu_invVi X (c12_deedIs _ v2 (4 : Int32)) rfl q1284 mvV_12_deedIs kM_0 lM_0 (by decide) ⟨_, rfl, rfl⟩ rfl rfl (Nat.le_of_ble_eq_true rfl) (Nat.le_of_ble_eq_true rfl) (Nat.le_of_ble_eq_true rfl) ⟨Nat.zero_le _, Nat.zero_le _⟩ dX12_undo_92 (pc2 := 95) rfl rfl (fun x10 m11 => ?_)
    exact lu_sub [1, 2] rfl (w12_undo_b95 X hret hK13 hK102 v2 x10 x8 m11)
  · refine lu_iconst X dX12_undo_85 (pc2 := 86) rfl ic_3 ?_
    refine lu_goto (tgt := 95) X dX12_undo_86 (by decide) ?_
    exact lu_sub [1, 2] rfl (w12_undo_b95 X hret hK13 hK102 v2 (3 : Int32) x8 m9)
def f12_undo_b68 (K13 : Int32 → lu_M → Option (lu_M)) (K102 : lu_M → Option (lu_M)) (a1 : Int32) (v2 : Int32) (m : lu_M) : Option (lu_M) :=
  f12_undo_b69 K13 K102 a1 v2 (0 : Int32) m
set_option maxRecDepth 20000 in
theorem w12_undo_b68  {G : lu_G} {ρ : Nat → Nat} {a1 : Int32} {K13 : Int32 → lu_M → Option (lu_M)} {K102 : lu_M → Option (lu_M)} (X : lu_X G RX12 cX12_undo 5 2 43) (hret : (lu_me G).sig.returnType = none)  (hK13 : ∀ (v2 : Int32) (m : lu_M), lu_Ab lu_TM G (lu_Q lu_TM G ρ lu_RVv lu_id) (K13 v2 m) 13 [(0, .ref (ρ 0)), (2, .int v2)] [] ρ 0 0 [] m) (hK102 : ∀  (m : lu_M), lu_Ab lu_TM G (lu_Q lu_TM G ρ lu_RVv lu_id) (K102 m) 102 [] [] ρ 0 0 [] m) : ∀ (v2 : Int32) (m : lu_M), lu_Ab lu_TM G (lu_Q lu_TM G ρ lu_RVv lu_id) (f12_undo_b68 K13 K102 a1 v2 m) 68 [(0, .ref (ρ 0)), (2, .int v2)] [] ρ 0 0 [] m := by
  intro v2 m
  unfold f12_undo_b68
  refine lu_iconst X dX12_undo_68 (pc2 := 69) rfl ic_0 ?_
  exact w12_undo_b69 X hret hK13 hK102 v2 (0 : Int32) m
def f12_undo_b64 (K13 : Int32 → lu_M → Option (lu_M)) (K102 : lu_M → Option (lu_M)) (a1 : Int32) (v2 : Int32) (m : lu_M) : Option (lu_M) :=
  f12_undo_b69 K13 K102 a1 v2 (1 : Int32) m
set_option maxRecDepth 20000 in
theorem w12_undo_b64  {G : lu_G} {ρ : Nat → Nat} {a1 : Int32} {K13 : Int32 → lu_M → Option (lu_M)} {K102 : lu_M → Option (lu_M)} (X : lu_X G RX12 cX12_undo 5 2 43) (hret : (lu_me G).sig.returnType = none)  (hK13 : ∀ (v2 : Int32) (m : lu_M), lu_Ab lu_TM G (lu_Q lu_TM G ρ lu_RVv lu_id) (K13 v2 m) 13 [(0, .ref (ρ 0)), (2, .int v2)] [] ρ 0 0 [] m) (hK102 : ∀  (m : lu_M), lu_Ab lu_TM G (lu_Q lu_TM G ρ lu_RVv lu_id) (K102 m) 102 [] [] ρ 0 0 [] m) : ∀ (v2 : Int32) (m : lu_M), lu_Ab lu_TM G (lu_Q lu_TM G ρ lu_RVv lu_id) (f12_undo_b64 K13 K102 a1 v2 m) 64 [(0, .ref (ρ 0)), (2, .int v2)] [] ρ 0 0 [] m := by
  intro v2 m
  unfold f12_undo_b64
  refine lu_iconst X dX12_undo_64 (pc2 := 65) rfl ic_1 ?_
  refine lu_goto (tgt := 69) X dX12_undo_65 (by decide) ?_
  exact w12_undo_b69 X hret hK13 hK102 v2 (1 : Int32) m
def f12_undo_b13B (K102 : lu_M → Option (lu_M)) (rec : Int32 → lu_M → Option (lu_M)) (a1 : Int32) (v2 : Int32) (m : lu_M) : Option (lu_M) :=
  if (m 1 5) ≤ v2 then (K102 m)
  else (lu_bi (f12_deedIs v2 (3 : Int32) m) fun x4 m5 =>
  lu_bi (f12_deedIs v2 (4 : Int32) m5) fun x6 m7 =>
  if x6 = (1 : Int32) then (if x4 < 0 then (f12_undo_b68 rec K102 a1 v2 m7)
  else (lu_bi (f12_deedIs x4 (4 : Int32) m7) fun x13 m14 =>
  if x13 = (2 : Int32) then (f12_undo_b64 rec K102 a1 v2 m14)
  else (lu_bi (f12_deedIs x4 (4 : Int32) m14) fun x15 m16 =>
  if x15 = (3 : Int32) then (f12_undo_b64 rec K102 a1 v2 m16)
  else (f12_undo_b68 rec K102 a1 v2 m16))))
  else (f12_undo_b68 rec K102 a1 v2 m7))
def f12_undo_b13 (K102 : lu_M → Option (lu_M)) (a1 : Int32) : Nat → Int32 → lu_M → Option (lu_M)
  | 0, _, _ => none
  | n + 1, v2, m => f12_undo_b13B K102 (f12_undo_b13 K102 a1 n) a1 v2 m
set_option maxRecDepth 20000 in
theorem w12_undo_b13B  {G : lu_G} {ρ : Nat → Nat} {a1 : Int32} {K102 : lu_M → Option (lu_M)} {rec : Int32 → lu_M → Option (lu_M)} (X : lu_X G RX12 cX12_undo 5 2 43) (hret : (lu_me G).sig.returnType = none)  (hK102 : ∀  (m : lu_M), lu_Ab lu_TM G (lu_Q lu_TM G ρ lu_RVv lu_id) (K102 m) 102 [] [] ρ 0 0 [] m) (hrec : ∀ (v2 : Int32) (m : lu_M), lu_Ab lu_TM G (lu_Q lu_TM G ρ lu_RVv lu_id) (rec v2 m) 13 [(0, .ref (ρ 0)), (2, .int v2)] [] ρ 0 0 [] m) : ∀ (v2 : Int32) (m : lu_M), lu_Ab lu_TM G (lu_Q lu_TM G ρ lu_RVv lu_id) (f12_undo_b13B K102 rec a1 v2 m) 13 [(0, .ref (ρ 0)), (2, .int v2)] [] ρ 0 0 [] m := by
  intro v2 m
  unfold f12_undo_b13B
  refine lu_iload_n X dX12_undo_13 (pc2 := 14) rfl rfl 1 rfl ?_
  refine lu_aload_n X dX12_undo_14 (pc2 := 15) rfl rfl 0 rfl ?_
  refine lu_getr (r2 := 1) X rfl fl12_7 rfl kM_0 lM_0 dX12_undo_15 (pc2 := 18) rfl ?_
  refine lu_iconst X dX12_undo_18 (pc2 := 19) rfl ic_5 ?_
  refine lu_ialdK (q := 5) X (by decide) kM_1 lM_1 dX12_undo_19 (pc2 := 20) rfl ?_
  refine lu_icmp_ge (tgt := 102) X dX12_undo_20 (pc2 := 23) rfl (by decide) (fun _ => ?_) (fun _ => ?_)
  · exact lu_sub [] rfl (hK102 m)
  · refine lu_aload_n X dX12_undo_23 (pc2 := 24) rfl rfl 0 rfl ?_
    refine lu_iload_n X dX12_undo_24 (pc2 := 25) rfl rfl 1 rfl ?_
    refine lu_iconst X dX12_undo_25 (pc2 := 26) rfl ic_3 ?_
    refine lu_invVi X (c12_deedIs _ v2 (3 : Int32)) rfl q1284 mvV_12_deedIs kM_0 lM_0 (by decide) ⟨_, rfl, rfl⟩ rfl rfl (Nat.le_of_ble_eq_true rfl) (Nat.le_of_ble_eq_true rfl) (Nat.le_of_ble_eq_true rfl) ⟨Nat.zero_le _, Nat.zero_le _⟩ dX12_undo_26 (pc2 := 29) rfl rfl (fun x4 m5 => ?_)
    refine lu_istore_n (lv2 := [(3, .int x4), (0, .ref (ρ 0)), (2, .int v2)]) X dX12_undo_29 (pc2 := 30) rfl rfl (by decide) rfl ?_
    refine lu_aload_n X dX12_undo_30 (pc2 := 31) rfl rfl 1 rfl ?_
    refine lu_iload_n X dX12_undo_31 (pc2 := 32) rfl rfl 2 rfl ?_
    refine lu_iconst X dX12_undo_32 (pc2 := 33) rfl ic_4 ?_
    refine lu_invVi X (c12_deedIs _ v2 (4 : Int32)) rfl q1284 mvV_12_deedIs kM_0 lM_0 (by decide) ⟨_, rfl, rfl⟩ rfl rfl (Nat.le_of_ble_eq_true rfl) (Nat.le_of_ble_eq_true rfl) (Nat.le_of_ble_eq_true rfl) ⟨Nat.zero_le _, Nat.zero_le _⟩ dX12_undo_33 (pc2 := 36) rfl rfl (fun x6 m7 => ?_)
    refine lu_iconst X dX12_undo_36 (pc2 := 37) rfl ic_1 ?_
    refine lu_icmp_ne (tgt := 68) X dX12_undo_37 (pc2 := 40) rfl (by decide) (fun _ => ?_) (fun _ => ?_)
    · exact lu_sub [1, 2] rfl (w12_undo_b68 X hret hrec hK102 v2 m7)
    · refine lu_iload_n X dX12_undo_40 (pc2 := 41) rfl rfl 0 rfl ?_
      refine lu_if_lt (tgt := 68) X dX12_undo_41 (pc2 := 44) rfl (by decide) (fun _ => ?_) (fun _ => ?_)
      · exact lu_sub [1, 2] rfl (w12_undo_b68 X hret hrec hK102 v2 m7)
      · refine lu_aload_n X dX12_undo_44 (pc2 := 45) rfl rfl 1 rfl ?_
        refine lu_iload_n X dX12_undo_45 (pc2 := 46) rfl rfl 0 rfl ?_
        refine lu_iconst X dX12_undo_46 (pc2 := 47) rfl ic_4 ?_
        refine lu_invVi X (c12_deedIs _ x4 (4 : Int32)) rfl q1284 mvV_12_deedIs kM_0 lM_0 (by decide) ⟨_, rfl, rfl⟩ rfl rfl (Nat.le_of_ble_eq_true rfl) (Nat.le_of_ble_eq_true rfl) (Nat.le_of_ble_eq_true rfl) ⟨Nat.zero_le _, Nat.zero_le _⟩ dX12_undo_47 (pc2 := 50) rfl rfl (fun x13 m14 => ?_)
        refine lu_iconst X dX12_undo_50 (pc2 := 51) rfl ic_2 ?_
        refine lu_icmp_eq (tgt := 64) X dX12_undo_51 (pc2 := 54) rfl (by decide) (fun _ => ?_) (fun _ => ?_)
        · exact lu_sub [1, 2] rfl (w12_undo_b64 X hret hrec hK102 v2 m14)
        · refine lu_aload_n X dX12_undo_54 (pc2 := 55) rfl rfl 1 rfl ?_
          refine lu_iload_n X dX12_undo_55 (pc2 := 56) rfl rfl 0 rfl ?_
          refine lu_iconst X dX12_undo_56 (pc2 := 57) rfl ic_4 ?_
          refine lu_invVi X (c12_deedIs _ x4 (4 : Int32)) rfl q1284 mvV_12_deedIs kM_0 lM_0 (by decide) ⟨_, rfl, rfl⟩ rfl rfl (Nat.le_of_ble_eq_true rfl) (Nat.le_of_ble_eq_true rfl) (Nat.le_of_ble_eq_true rfl) ⟨Nat.zero_le _, Nat.zero_le _⟩ dX12_undo_57 (pc2 := 60) rfl rfl (fun x15 m16 => ?_)
          refine lu_iconst X dX12_undo_60 (pc2 := 61) rfl ic_3 ?_
          refine lu_icmp_ne (tgt := 68) X dX12_undo_61 (pc2 := 64) rfl (by decide) (fun _ => ?_) (fun _ => ?_)
          · exact lu_sub [1, 2] rfl (w12_undo_b68 X hret hrec hK102 v2 m16)
          · exact lu_sub [1, 2] rfl (w12_undo_b64 X hret hrec hK102 v2 m16)
theorem w12_undo_b13  {G : lu_G} {ρ : Nat → Nat} {a1 : Int32} {K102 : lu_M → Option (lu_M)} (X : lu_X G RX12 cX12_undo 5 2 43) (hret : (lu_me G).sig.returnType = none)  (hK102 : ∀  (m : lu_M), lu_Ab lu_TM G (lu_Q lu_TM G ρ lu_RVv lu_id) (K102 m) 102 [] [] ρ 0 0 [] m) : ∀ (n : Nat) (v2 : Int32) (m : lu_M), lu_Ab lu_TM G (lu_Q lu_TM G ρ lu_RVv lu_id) (f12_undo_b13 K102 a1 n v2 m) 13 [(0, .ref (ρ 0)), (2, .int v2)] [] ρ 0 0 [] m := by
  intro n
  induction n with
  | zero => intro v2 m; exact lu_none
  | succ n ih => intro v2 m; exact w12_undo_b13B X hret hK102 ih v2 m
def f12_undo_b102  (a1 : Int32)  (m : lu_M) : Option (lu_M) :=
  some m
set_option maxRecDepth 20000 in
theorem w12_undo_b102  {G : lu_G} {ρ : Nat → Nat} {a1 : Int32}  (X : lu_X G RX12 cX12_undo 5 2 43) (hret : (lu_me G).sig.returnType = none)   : ∀  (m : lu_M), lu_Ab lu_TM G (lu_Q lu_TM G ρ lu_RVv lu_id) (f12_undo_b102 a1 m) 102 [] [] ρ 0 0 [] m := by
  intro  m
  unfold f12_undo_b102
  exact lu_vret X hret dX12_undo_102
def f12_undo (a1 : Int32) (m : lu_M) : Option (lu_M) :=
  lu_bi (f12_spot a1 (4 : Int32) m) fun x1 m2 =>
  lu_gd (lu_ib x1 368) <|
  lu_nm (lu_st m2 1 x1.toNatClampNeg (2 : Int32)) fun m3 =>
  f12_undo_b13 (f12_undo_b102 a1) a1 lu_fu (0 : Int32) m3
set_option maxRecDepth 20000 in
theorem c12_undo (l : Launch)   (a1 : Int32) : lu_C lu_TM l yX12_undo cX12_undo 5 none 2 43 (fun ρ sa => [.ref (ρ 0), .int a1]) (f12_undo a1) lu_RVv lu_id := by
  refine lu_met (cls := RX12) rfl (by decide +kernel) (fun _ _ => Nat.le_of_ble_eq_true rfl) ?_
  intro G ρ m hl X hret
  subst hl
  change lu_Ab lu_TM G (lu_Q lu_TM G ρ lu_RVv lu_id) (f12_undo a1 m) 0 [(0, .ref (ρ 0)), (1, .int a1)] [] ρ 0 0 [] m
  unfold f12_undo
  refine lu_aload_n X dX12_undo_0 (pc2 := 1) rfl rfl 0 rfl ?_
  refine lu_getr (r2 := 1) X rfl fl12_7 rfl kM_0 lM_0 dX12_undo_1 (pc2 := 4) rfl ?_
  refine lu_iload_n X dX12_undo_4 (pc2 := 5) rfl rfl 1 rfl ?_
  refine lu_iconst X dX12_undo_5 (pc2 := 6) rfl ic_4 ?_
  refine lu_invSi X (c12_spot _ a1 (4 : Int32)) rfl q1288 mvS_12_spot rfl rfl (Nat.le_of_ble_eq_true rfl) (Nat.le_of_ble_eq_true rfl) (Nat.le_of_ble_eq_true rfl) ⟨Nat.zero_le _, Nat.zero_le _⟩ dX12_undo_6 (pc2 := 9) rfl rfl (fun x1 m2 => ?_)
  refine lu_iconst X dX12_undo_9 (pc2 := 10) rfl ic_2 ?_
  refine lu_iast X kM_1 lM_1 dX12_undo_10 (pc2 := 11) rfl (fun m3 => ?_)
  refine lu_iconst X dX12_undo_11 (pc2 := 12) rfl ic_0 ?_
  refine lu_istore_n (lv2 := [(2, .int (0 : Int32)), (0, .ref (ρ 0)), (1, .int a1)]) X dX12_undo_12 (pc2 := 13) rfl rfl (by decide) rfl ?_
  exact lu_sub [1, 0] rfl (w12_undo_b13 X hret (w12_undo_b102 X hret) lu_fu (0 : Int32) m3)

theorem dX12_goes_0 : decode cX12_goes 0 = .ok (.aload_n 0, 1) := by decide +kernel
theorem dX12_goes_1 : decode cX12_goes 1 = .ok (.getfield 7, 3) := by decide +kernel
theorem dX12_goes_4 : decode cX12_goes 4 = .ok (.iconst 3, 1) := by decide +kernel
theorem dX12_goes_5 : decode cX12_goes 5 = .ok (.iaload, 1) := by decide +kernel
theorem dX12_goes_6 : decode cX12_goes 6 = .ok (.istore_n 2, 1) := by decide +kernel
theorem dX12_goes_7 : decode cX12_goes 7 = .ok (.iconst 0, 1) := by decide +kernel
theorem dX12_goes_8 : decode cX12_goes 8 = .ok (.istore_n 3, 1) := by decide +kernel
theorem dX12_goes_9 : decode cX12_goes 9 = .ok (.iload_n 3, 1) := by decide +kernel
theorem dX12_goes_10 : decode cX12_goes 10 = .ok (.aload_n 0, 1) := by decide +kernel
theorem dX12_goes_11 : decode cX12_goes 11 = .ok (.getfield 7, 3) := by decide +kernel
theorem dX12_goes_14 : decode cX12_goes 14 = .ok (.iconst 5, 1) := by decide +kernel
theorem dX12_goes_15 : decode cX12_goes 15 = .ok (.iaload, 1) := by decide +kernel
theorem dX12_goes_16 : decode cX12_goes 16 = .ok (.if_icmp .ge 67, 3) := by decide +kernel
theorem dX12_goes_19 : decode cX12_goes 19 = .ok (.aload_n 0, 1) := by decide +kernel
theorem dX12_goes_20 : decode cX12_goes 20 = .ok (.iload_n 3, 1) := by decide +kernel
theorem dX12_goes_21 : decode cX12_goes 21 = .ok (.iconst 1, 1) := by decide +kernel
theorem dX12_goes_22 : decode cX12_goes 22 = .ok (.invokevirtual 90, 3) := by decide +kernel
theorem dX12_goes_25 : decode cX12_goes 25 = .ok (.iload_n 2, 1) := by decide +kernel
theorem dX12_goes_26 : decode cX12_goes 26 = .ok (.if_icmp .ne 51, 3) := by decide +kernel
theorem dX12_goes_29 : decode cX12_goes 29 = .ok (.aload_n 0, 1) := by decide +kernel
theorem dX12_goes_30 : decode cX12_goes 30 = .ok (.iload_n 3, 1) := by decide +kernel
theorem dX12_goes_31 : decode cX12_goes 31 = .ok (.iconst 4, 1) := by decide +kernel
theorem dX12_goes_32 : decode cX12_goes 32 = .ok (.invokevirtual 90, 3) := by decide +kernel
theorem dX12_goes_35 : decode cX12_goes 35 = .ok (.ifCond .ne 42, 3) := by decide +kernel
theorem dX12_goes_38 : decode cX12_goes 38 = .ok (.aload_n 0, 1) := by decide +kernel
theorem dX12_goes_39 : decode cX12_goes 39 = .ok (.iload_n 3, 1) := by decide +kernel
theorem dX12_goes_40 : decode cX12_goes 40 = .ok (.iconst 3, 1) := by decide +kernel
theorem dX12_goes_41 : decode cX12_goes 41 = .ok (.invokevirtual 90, 3) := by decide +kernel
theorem dX12_goes_44 : decode cX12_goes 44 = .ok (.istore 4, 2) := by decide +kernel
theorem dX12_goes_46 : decode cX12_goes 46 = .ok (.aload_n 0, 1) := by decide +kernel
theorem dX12_goes_47 : decode cX12_goes 47 = .ok (.getfield 7, 3) := by decide +kernel
theorem dX12_goes_50 : decode cX12_goes 50 = .ok (.iload_n 3, 1) := by decide +kernel
theorem dX12_goes_51 : decode cX12_goes 51 = .ok (.iconst 4, 1) := by decide +kernel
theorem dX12_goes_52 : decode cX12_goes 52 = .ok (.invokestatic 72, 3) := by decide +kernel
theorem dX12_goes_55 : decode cX12_goes 55 = .ok (.iload 4, 2) := by decide +kernel
theorem dX12_goes_57 : decode cX12_goes 57 = .ok (.ifCond .lt 14, 3) := by decide +kernel
theorem dX12_goes_60 : decode cX12_goes 60 = .ok (.aload_n 0, 1) := by decide +kernel
theorem dX12_goes_61 : decode cX12_goes 61 = .ok (.iload 4, 2) := by decide +kernel
theorem dX12_goes_63 : decode cX12_goes 63 = .ok (.iconst 4, 1) := by decide +kernel
theorem dX12_goes_64 : decode cX12_goes 64 = .ok (.invokevirtual 90, 3) := by decide +kernel
theorem dX12_goes_67 : decode cX12_goes 67 = .ok (.iconst 1, 1) := by decide +kernel
theorem dX12_goes_68 : decode cX12_goes 68 = .ok (.if_icmp .ne 7, 3) := by decide +kernel
theorem dX12_goes_71 : decode cX12_goes 71 = .ok (.iconst 1, 1) := by decide +kernel
theorem dX12_goes_72 : decode cX12_goes 72 = .ok (.goto 4, 3) := by decide +kernel
theorem dX12_goes_75 : decode cX12_goes 75 = .ok (.iconst 4, 1) := by decide +kernel
theorem dX12_goes_76 : decode cX12_goes 76 = .ok (.iastore, 1) := by decide +kernel
theorem dX12_goes_77 : decode cX12_goes 77 = .ok (.iinc 3 1, 3) := by decide +kernel
theorem dX12_goes_80 : decode cX12_goes 80 = .ok (.goto (-71), 3) := by decide +kernel
theorem dX12_goes_83 : decode cX12_goes 83 = .ok (.iconst 0, 1) := by decide +kernel
theorem dX12_goes_84 : decode cX12_goes 84 = .ok (.istore_n 3, 1) := by decide +kernel
theorem dX12_goes_85 : decode cX12_goes 85 = .ok (.iload_n 3, 1) := by decide +kernel
theorem dX12_goes_86 : decode cX12_goes 86 = .ok (.aload_n 0, 1) := by decide +kernel
theorem dX12_goes_87 : decode cX12_goes 87 = .ok (.getfield 7, 3) := by decide +kernel
theorem dX12_goes_90 : decode cX12_goes 90 = .ok (.iconst 0, 1) := by decide +kernel
theorem dX12_goes_91 : decode cX12_goes 91 = .ok (.iaload, 1) := by decide +kernel
theorem dX12_goes_92 : decode cX12_goes 92 = .ok (.if_icmp .ge 41, 3) := by decide +kernel
theorem dX12_goes_95 : decode cX12_goes 95 = .ok (.iload_n 3, 1) := by decide +kernel
theorem dX12_goes_96 : decode cX12_goes 96 = .ok (.iconst 1, 1) := by decide +kernel
theorem dX12_goes_97 : decode cX12_goes 97 = .ok (.iadd, 1) := by decide +kernel
theorem dX12_goes_98 : decode cX12_goes 98 = .ok (.iload_n 1, 1) := by decide +kernel
theorem dX12_goes_99 : decode cX12_goes 99 = .ok (.if_icmp .ne 8, 3) := by decide +kernel
theorem dX12_goes_102 : decode cX12_goes 102 = .ok (.bipush 10, 2) := by decide +kernel
theorem dX12_goes_104 : decode cX12_goes 104 = .ok (.goto 8, 3) := by decide +kernel
theorem dX12_goes_107 : decode cX12_goes 107 = .ok (.aload_n 0, 1) := by decide +kernel
theorem dX12_goes_108 : decode cX12_goes 108 = .ok (.iload_n 3, 1) := by decide +kernel
theorem dX12_goes_109 : decode cX12_goes 109 = .ok (.invokevirtual 106, 3) := by decide +kernel
theorem dX12_goes_112 : decode cX12_goes 112 = .ok (.istore 4, 2) := by decide +kernel
theorem dX12_goes_114 : decode cX12_goes 114 = .ok (.iload 4, 2) := by decide +kernel
theorem dX12_goes_116 : decode cX12_goes 116 = .ok (.bipush 10, 2) := by decide +kernel
theorem dX12_goes_118 : decode cX12_goes 118 = .ok (.if_icmp .eq 9, 3) := by decide +kernel
theorem dX12_goes_121 : decode cX12_goes 121 = .ok (.aload_n 0, 1) := by decide +kernel
theorem dX12_goes_122 : decode cX12_goes 122 = .ok (.iload 4, 2) := by decide +kernel
theorem dX12_goes_124 : decode cX12_goes 124 = .ok (.invokevirtual 142, 3) := by decide +kernel
theorem dX12_goes_127 : decode cX12_goes 127 = .ok (.iinc 3 1, 3) := by decide +kernel
theorem dX12_goes_130 : decode cX12_goes 130 = .ok (.goto (-45), 3) := by decide +kernel
theorem dX12_goes_133 : decode cX12_goes 133 = .ok (.iconst 0, 1) := by decide +kernel
theorem dX12_goes_134 : decode cX12_goes 134 = .ok (.istore_n 3, 1) := by decide +kernel
theorem dX12_goes_135 : decode cX12_goes 135 = .ok (.iconst 0, 1) := by decide +kernel
theorem dX12_goes_136 : decode cX12_goes 136 = .ok (.istore 4, 2) := by decide +kernel
theorem dX12_goes_138 : decode cX12_goes 138 = .ok (.iload 4, 2) := by decide +kernel
theorem dX12_goes_140 : decode cX12_goes 140 = .ok (.aload_n 0, 1) := by decide +kernel
theorem dX12_goes_141 : decode cX12_goes 141 = .ok (.getfield 7, 3) := by decide +kernel
theorem dX12_goes_144 : decode cX12_goes 144 = .ok (.iconst 5, 1) := by decide +kernel
theorem dX12_goes_145 : decode cX12_goes 145 = .ok (.iaload, 1) := by decide +kernel
theorem dX12_goes_146 : decode cX12_goes 146 = .ok (.if_icmp .ge 44, 3) := by decide +kernel
theorem dX12_goes_149 : decode cX12_goes 149 = .ok (.iload_n 3, 1) := by decide +kernel
theorem dX12_goes_150 : decode cX12_goes 150 = .ok (.aload_n 0, 1) := by decide +kernel
theorem dX12_goes_151 : decode cX12_goes 151 = .ok (.iload 4, 2) := by decide +kernel
theorem dX12_goes_153 : decode cX12_goes 153 = .ok (.iconst 4, 1) := by decide +kernel
theorem dX12_goes_154 : decode cX12_goes 154 = .ok (.invokevirtual 90, 3) := by decide +kernel
theorem dX12_goes_157 : decode cX12_goes 157 = .ok (.iconst 1, 1) := by decide +kernel
theorem dX12_goes_158 : decode cX12_goes 158 = .ok (.if_icmp .ne 23, 3) := by decide +kernel
theorem dX12_goes_161 : decode cX12_goes 161 = .ok (.aload_n 0, 1) := by decide +kernel
theorem dX12_goes_162 : decode cX12_goes 162 = .ok (.iload 4, 2) := by decide +kernel
theorem dX12_goes_164 : decode cX12_goes 164 = .ok (.invokevirtual 119, 3) := by decide +kernel
theorem dX12_goes_167 : decode cX12_goes 167 = .ok (.iload_n 2, 1) := by decide +kernel
theorem dX12_goes_168 : decode cX12_goes 168 = .ok (.if_icmp .lt 13, 3) := by decide +kernel
theorem dX12_goes_171 : decode cX12_goes 171 = .ok (.aload_n 0, 1) := by decide +kernel
theorem dX12_goes_172 : decode cX12_goes 172 = .ok (.iload 4, 2) := by decide +kernel
theorem dX12_goes_174 : decode cX12_goes 174 = .ok (.iconst 2, 1) := by decide +kernel
theorem dX12_goes_175 : decode cX12_goes 175 = .ok (.invokevirtual 90, 3) := by decide +kernel
theorem dX12_goes_178 : decode cX12_goes 178 = .ok (.goto 4, 3) := by decide +kernel
theorem dX12_goes_181 : decode cX12_goes 181 = .ok (.iconst 0, 1) := by decide +kernel
theorem dX12_goes_182 : decode cX12_goes 182 = .ok (.iadd, 1) := by decide +kernel
theorem dX12_goes_183 : decode cX12_goes 183 = .ok (.istore_n 3, 1) := by decide +kernel
theorem dX12_goes_184 : decode cX12_goes 184 = .ok (.iinc 4 1, 3) := by decide +kernel
theorem dX12_goes_187 : decode cX12_goes 187 = .ok (.goto (-49), 3) := by decide +kernel
theorem dX12_goes_190 : decode cX12_goes 190 = .ok (.aload_n 0, 1) := by decide +kernel
theorem dX12_goes_191 : decode cX12_goes 191 = .ok (.getfield 7, 3) := by decide +kernel
theorem dX12_goes_194 : decode cX12_goes 194 = .ok (.iconst 4, 1) := by decide +kernel
theorem dX12_goes_195 : decode cX12_goes 195 = .ok (.dup2, 1) := by decide +kernel
theorem dX12_goes_196 : decode cX12_goes 196 = .ok (.iaload, 1) := by decide +kernel
theorem dX12_goes_197 : decode cX12_goes 197 = .ok (.iload_n 3, 1) := by decide +kernel
theorem dX12_goes_198 : decode cX12_goes 198 = .ok (.iadd, 1) := by decide +kernel
theorem dX12_goes_199 : decode cX12_goes 199 = .ok (.iastore, 1) := by decide +kernel
theorem dX12_goes_200 : decode cX12_goes 200 = .ok (.aload_n 0, 1) := by decide +kernel
theorem dX12_goes_201 : decode cX12_goes 201 = .ok (.getfield 7, 3) := by decide +kernel
theorem dX12_goes_204 : decode cX12_goes 204 = .ok (.iconst 3, 1) := by decide +kernel
theorem dX12_goes_205 : decode cX12_goes 205 = .ok (.dup2, 1) := by decide +kernel
theorem dX12_goes_206 : decode cX12_goes 206 = .ok (.iaload, 1) := by decide +kernel
theorem dX12_goes_207 : decode cX12_goes 207 = .ok (.iconst 1, 1) := by decide +kernel
theorem dX12_goes_208 : decode cX12_goes 208 = .ok (.iadd, 1) := by decide +kernel
theorem dX12_goes_209 : decode cX12_goes 209 = .ok (.iastore, 1) := by decide +kernel
theorem dX12_goes_210 : decode cX12_goes 210 = .ok (.iload_n 3, 1) := by decide +kernel
theorem dX12_goes_211 : decode cX12_goes 211 = .ok (.ireturn, 1) := by decide +kernel
def f12_goes_b77 (K9 : Int32 → Int32 → lu_M → Option (Int32 × lu_M)) (K83 : Int32 → lu_M → Option (Int32 × lu_M)) (a1 : Int32) (v2 : Int32) (v3 : Int32) (m : lu_M) : Option (Int32 × lu_M) :=
  K9 v2 (v3 + (1 : Int32)) m
set_option maxRecDepth 20000 in
theorem w12_goes_b77  {G : lu_G} {ρ : Nat → Nat} {a1 : Int32} {K9 : Int32 → Int32 → lu_M → Option (Int32 × lu_M)} {K83 : Int32 → lu_M → Option (Int32 × lu_M)} (X : lu_X G RX12 cX12_goes 5 6 144) (hret : (lu_me G).sig.returnType = (some .int))  (hK9 : ∀ (v2 : Int32) (v3 : Int32) (m : lu_M), lu_Ab lu_TM G (lu_Q lu_TM G ρ lu_RVi lu_sn) (K9 v2 v3 m) 9 [(0, .ref (ρ 0)), (1, .int a1), (2, .int v2), (3, .int v3)] [] ρ 0 0 [] m) (hK83 : ∀ (v2 : Int32) (m : lu_M), lu_Ab lu_TM G (lu_Q lu_TM G ρ lu_RVi lu_sn) (K83 v2 m) 83 [(0, .ref (ρ 0)), (1, .int a1), (2, .int v2)] [] ρ 0 0 [] m) : ∀ (v2 : Int32) (v3 : Int32) (m : lu_M), lu_Ab lu_TM G (lu_Q lu_TM G ρ lu_RVi lu_sn) (f12_goes_b77 K9 K83 a1 v2 v3 m) 77 [(0, .ref (ρ 0)), (1, .int a1), (2, .int v2), (3, .int v3)] [] ρ 0 0 [] m := by
  intro v2 v3 m
  unfold f12_goes_b77
  refine lu_iinc (lv2 := [(3, .int (v3 + (1 : Int32))), (0, .ref (ρ 0)), (1, .int a1), (2, .int v2)]) X dX12_goes_77 (pc2 := 80) rfl 3 rfl (lu_ii _ ic_1) (by decide) rfl ?_
  refine lu_goto (tgt := 9) X dX12_goes_80 (by decide) ?_
  exact lu_sub [1, 2, 3, 0] rfl (hK9 v2 (v3 + (1 : Int32)) m)
def f12_goes_b76 (K9 : Int32 → Int32 → lu_M → Option (Int32 × lu_M)) (K83 : Int32 → lu_M → Option (Int32 × lu_M)) (a1 : Int32) (v2 : Int32) (v3 : Int32) (s0 : Int32) (s1 : Int32) (m : lu_M) : Option (Int32 × lu_M) :=
  lu_gd (lu_ib s1 368) <|
  lu_nm (lu_st m 1 s1.toNatClampNeg s0) fun m10 =>
  f12_goes_b77 K9 K83 a1 v2 v3 m10
set_option maxRecDepth 20000 in
theorem w12_goes_b76  {G : lu_G} {ρ : Nat → Nat} {a1 : Int32} {K9 : Int32 → Int32 → lu_M → Option (Int32 × lu_M)} {K83 : Int32 → lu_M → Option (Int32 × lu_M)} (X : lu_X G RX12 cX12_goes 5 6 144) (hret : (lu_me G).sig.returnType = (some .int))  (hK9 : ∀ (v2 : Int32) (v3 : Int32) (m : lu_M), lu_Ab lu_TM G (lu_Q lu_TM G ρ lu_RVi lu_sn) (K9 v2 v3 m) 9 [(0, .ref (ρ 0)), (1, .int a1), (2, .int v2), (3, .int v3)] [] ρ 0 0 [] m) (hK83 : ∀ (v2 : Int32) (m : lu_M), lu_Ab lu_TM G (lu_Q lu_TM G ρ lu_RVi lu_sn) (K83 v2 m) 83 [(0, .ref (ρ 0)), (1, .int a1), (2, .int v2)] [] ρ 0 0 [] m) : ∀ (v2 : Int32) (v3 : Int32) (s0 : Int32) (s1 : Int32) (m : lu_M), lu_Ab lu_TM G (lu_Q lu_TM G ρ lu_RVi lu_sn) (f12_goes_b76 K9 K83 a1 v2 v3 s0 s1 m) 76 [(0, .ref (ρ 0)), (1, .int a1), (2, .int v2), (3, .int v3)] [.int s0, .int s1, .ref (ρ 1)] ρ 0 0 [] m := by
  intro v2 v3 s0 s1 m
  unfold f12_goes_b76
  refine lu_iast X kM_1 lM_1 dX12_goes_76 (pc2 := 77) rfl (fun m10 => ?_)
  exact w12_goes_b77 X hret hK9 hK83 v2 v3 m10
def f12_goes_b71 (K9 : Int32 → Int32 → lu_M → Option (Int32 × lu_M)) (K83 : Int32 → lu_M → Option (Int32 × lu_M)) (a1 : Int32) (v2 : Int32) (v3 : Int32) (s0 : Int32) (m : lu_M) : Option (Int32 × lu_M) :=
  f12_goes_b76 K9 K83 a1 v2 v3 (1 : Int32) s0 m
set_option maxRecDepth 20000 in
theorem w12_goes_b71  {G : lu_G} {ρ : Nat → Nat} {a1 : Int32} {K9 : Int32 → Int32 → lu_M → Option (Int32 × lu_M)} {K83 : Int32 → lu_M → Option (Int32 × lu_M)} (X : lu_X G RX12 cX12_goes 5 6 144) (hret : (lu_me G).sig.returnType = (some .int))  (hK9 : ∀ (v2 : Int32) (v3 : Int32) (m : lu_M), lu_Ab lu_TM G (lu_Q lu_TM G ρ lu_RVi lu_sn) (K9 v2 v3 m) 9 [(0, .ref (ρ 0)), (1, .int a1), (2, .int v2), (3, .int v3)] [] ρ 0 0 [] m) (hK83 : ∀ (v2 : Int32) (m : lu_M), lu_Ab lu_TM G (lu_Q lu_TM G ρ lu_RVi lu_sn) (K83 v2 m) 83 [(0, .ref (ρ 0)), (1, .int a1), (2, .int v2)] [] ρ 0 0 [] m) : ∀ (v2 : Int32) (v3 : Int32) (s0 : Int32) (m : lu_M), lu_Ab lu_TM G (lu_Q lu_TM G ρ lu_RVi lu_sn) (f12_goes_b71 K9 K83 a1 v2 v3 s0 m) 71 [(0, .ref (ρ 0)), (1, .int a1), (2, .int v2), (3, .int v3)] [.int s0, .ref (ρ 1)] ρ 0 0 [] m := by
  intro v2 v3 s0 m
  unfold f12_goes_b71
  refine lu_iconst X dX12_goes_71 (pc2 := 72) rfl ic_1 ?_
  refine lu_goto (tgt := 76) X dX12_goes_72 (by decide) ?_
  exact w12_goes_b76 X hret hK9 hK83 v2 v3 (1 : Int32) s0 m
def f12_goes_b9B (K83 : Int32 → lu_M → Option (Int32 × lu_M)) (rec : Int32 → Int32 → lu_M → Option (Int32 × lu_M)) (a1 : Int32) (v2 : Int32) (v3 : Int32) (m : lu_M) : Option (Int32 × lu_M) :=
  if (m 1 5) ≤ v3 then (K83 v2 m)
  else (lu_bi (f12_deedIs v3 (1 : Int32) m) fun x2 m3 =>
  if x2 = v2 then (lu_bi (f12_deedIs v3 (4 : Int32) m3) fun x4 m5 =>
  if x4 = 0 then (lu_bi (f12_deedIs v3 (3 : Int32) m5) fun x6 m7 =>
  lu_bi (f12_spot v3 (4 : Int32) m7) fun x8 m9 =>
  if x6 < 0 then (f12_goes_b71 rec K83 a1 v2 v3 x8 m9)
  else (lu_bi (f12_deedIs x6 (4 : Int32) m9) fun x11 m12 =>
  if x11 = (1 : Int32) then (f12_goes_b71 rec K83 a1 v2 v3 x8 m12)
  else (f12_goes_b76 rec K83 a1 v2 v3 (4 : Int32) x8 m12)))
  else (f12_goes_b77 rec K83 a1 v2 v3 m5))
  else (f12_goes_b77 rec K83 a1 v2 v3 m3))
def f12_goes_b9 (K83 : Int32 → lu_M → Option (Int32 × lu_M)) (a1 : Int32) : Nat → Int32 → Int32 → lu_M → Option (Int32 × lu_M)
  | 0, _, _, _ => none
  | n + 1, v2, v3, m => f12_goes_b9B K83 (f12_goes_b9 K83 a1 n) a1 v2 v3 m
set_option maxRecDepth 20000 in
theorem w12_goes_b9B  {G : lu_G} {ρ : Nat → Nat} {a1 : Int32} {K83 : Int32 → lu_M → Option (Int32 × lu_M)} {rec : Int32 → Int32 → lu_M → Option (Int32 × lu_M)} (X : lu_X G RX12 cX12_goes 5 6 144) (hret : (lu_me G).sig.returnType = (some .int))  (hK83 : ∀ (v2 : Int32) (m : lu_M), lu_Ab lu_TM G (lu_Q lu_TM G ρ lu_RVi lu_sn) (K83 v2 m) 83 [(0, .ref (ρ 0)), (1, .int a1), (2, .int v2)] [] ρ 0 0 [] m) (hrec : ∀ (v2 : Int32) (v3 : Int32) (m : lu_M), lu_Ab lu_TM G (lu_Q lu_TM G ρ lu_RVi lu_sn) (rec v2 v3 m) 9 [(0, .ref (ρ 0)), (1, .int a1), (2, .int v2), (3, .int v3)] [] ρ 0 0 [] m) : ∀ (v2 : Int32) (v3 : Int32) (m : lu_M), lu_Ab lu_TM G (lu_Q lu_TM G ρ lu_RVi lu_sn) (f12_goes_b9B K83 rec a1 v2 v3 m) 9 [(0, .ref (ρ 0)), (1, .int a1), (2, .int v2), (3, .int v3)] [] ρ 0 0 [] m := by
  intro v2 v3 m
  unfold f12_goes_b9B
  refine lu_iload_n X dX12_goes_9 (pc2 := 10) rfl rfl 3 rfl ?_
  refine lu_aload_n X dX12_goes_10 (pc2 := 11) rfl rfl 0 rfl ?_
  refine lu_getr (r2 := 1) X rfl fl12_7 rfl kM_0 lM_0 dX12_goes_11 (pc2 := 14) rfl ?_
  refine lu_iconst X dX12_goes_14 (pc2 := 15) rfl ic_5 ?_
  refine lu_ialdK (q := 5) X (by decide) kM_1 lM_1 dX12_goes_15 (pc2 := 16) rfl ?_
  refine lu_icmp_ge (tgt := 83) X dX12_goes_16 (pc2 := 19) rfl (by decide) (fun _ => ?_) (fun _ => ?_)
  · exact lu_sub [0, 1, 2] rfl (hK83 v2 m)
  · refine lu_aload_n X dX12_goes_19 (pc2 := 20) rfl rfl 0 rfl ?_
    refine lu_iload_n X dX12_goes_20 (pc2 := 21) rfl rfl 3 rfl ?_
    refine lu_iconst X dX12_goes_21 (pc2 := 22) rfl ic_1 ?_
    refine lu_invVi X (c12_deedIs _ v3 (1 : Int32)) rfl q1284 mvV_12_deedIs kM_0 lM_0 (by decide) ⟨_, rfl, rfl⟩ rfl rfl (Nat.le_of_ble_eq_true rfl) (Nat.le_of_ble_eq_true rfl) (Nat.le_of_ble_eq_true rfl) ⟨Nat.zero_le _, Nat.zero_le _⟩ dX12_goes_22 (pc2 := 25) rfl rfl (fun x2 m3 => ?_)
    refine lu_iload_n X dX12_goes_25 (pc2 := 26) rfl rfl 2 rfl ?_
    refine lu_icmp_ne (tgt := 77) X dX12_goes_26 (pc2 := 29) rfl (by decide) (fun _ => ?_) (fun _ => ?_)
    · exact w12_goes_b77 X hret hrec hK83 v2 v3 m3
    · refine lu_aload_n X dX12_goes_29 (pc2 := 30) rfl rfl 0 rfl ?_
      refine lu_iload_n X dX12_goes_30 (pc2 := 31) rfl rfl 3 rfl ?_
      refine lu_iconst X dX12_goes_31 (pc2 := 32) rfl ic_4 ?_
      refine lu_invVi X (c12_deedIs _ v3 (4 : Int32)) rfl q1284 mvV_12_deedIs kM_0 lM_0 (by decide) ⟨_, rfl, rfl⟩ rfl rfl (Nat.le_of_ble_eq_true rfl) (Nat.le_of_ble_eq_true rfl) (Nat.le_of_ble_eq_true rfl) ⟨Nat.zero_le _, Nat.zero_le _⟩ dX12_goes_32 (pc2 := 35) rfl rfl (fun x4 m5 => ?_)
      refine lu_if_ne (tgt := 77) X dX12_goes_35 (pc2 := 38) rfl (by decide) (fun _ => ?_) (fun _ => ?_)
      · exact w12_goes_b77 X hret hrec hK83 v2 v3 m5
      · refine lu_aload_n X dX12_goes_38 (pc2 := 39) rfl rfl 0 rfl ?_
        refine lu_iload_n X dX12_goes_39 (pc2 := 40) rfl rfl 3 rfl ?_
        refine lu_iconst X dX12_goes_40 (pc2 := 41) rfl ic_3 ?_
        refine lu_invVi X (c12_deedIs _ v3 (3 : Int32)) rfl q1284 mvV_12_deedIs kM_0 lM_0 (by decide) ⟨_, rfl, rfl⟩ rfl rfl (Nat.le_of_ble_eq_true rfl) (Nat.le_of_ble_eq_true rfl) (Nat.le_of_ble_eq_true rfl) ⟨Nat.zero_le _, Nat.zero_le _⟩ dX12_goes_41 (pc2 := 44) rfl rfl (fun x6 m7 => ?_)
        refine lu_istore (lv2 := [(4, .int x6), (0, .ref (ρ 0)), (1, .int a1), (2, .int v2), (3, .int v3)]) X dX12_goes_44 (pc2 := 46) rfl (by decide) rfl ?_
        refine lu_aload_n X dX12_goes_46 (pc2 := 47) rfl rfl 1 rfl ?_
        refine lu_getr (r2 := 1) X rfl fl12_7 rfl kM_0 lM_0 dX12_goes_47 (pc2 := 50) rfl ?_
        refine lu_iload_n X dX12_goes_50 (pc2 := 51) rfl rfl 4 rfl ?_
        refine lu_iconst X dX12_goes_51 (pc2 := 52) rfl ic_4 ?_
        refine lu_invSi X (c12_spot _ v3 (4 : Int32)) rfl q1288 mvS_12_spot rfl rfl (Nat.le_of_ble_eq_true rfl) (Nat.le_of_ble_eq_true rfl) (Nat.le_of_ble_eq_true rfl) ⟨Nat.zero_le _, Nat.zero_le _⟩ dX12_goes_52 (pc2 := 55) rfl rfl (fun x8 m9 => ?_)
        refine lu_iload X dX12_goes_55 (pc2 := 57) rfl 0 rfl ?_
        refine lu_if_lt (tgt := 71) X dX12_goes_57 (pc2 := 60) rfl (by decide) (fun _ => ?_) (fun _ => ?_)
        · exact lu_sub [1, 2, 3, 4] rfl (w12_goes_b71 X hret hrec hK83 v2 v3 x8 m9)
        · refine lu_aload_n X dX12_goes_60 (pc2 := 61) rfl rfl 1 rfl ?_
          refine lu_iload X dX12_goes_61 (pc2 := 63) rfl 0 rfl ?_
          refine lu_iconst X dX12_goes_63 (pc2 := 64) rfl ic_4 ?_
          refine lu_invVi X (c12_deedIs _ x6 (4 : Int32)) rfl q1284 mvV_12_deedIs kM_0 lM_0 (by decide) ⟨_, rfl, rfl⟩ rfl rfl (Nat.le_of_ble_eq_true rfl) (Nat.le_of_ble_eq_true rfl) (Nat.le_of_ble_eq_true rfl) ⟨Nat.zero_le _, Nat.zero_le _⟩ dX12_goes_64 (pc2 := 67) rfl rfl (fun x11 m12 => ?_)
          refine lu_iconst X dX12_goes_67 (pc2 := 68) rfl ic_1 ?_
          refine lu_icmp_ne (tgt := 75) X dX12_goes_68 (pc2 := 71) rfl (by decide) (fun _ => ?_) (fun _ => ?_)
          · refine lu_iconst X dX12_goes_75 (pc2 := 76) rfl ic_4 ?_
            exact lu_sub [1, 2, 3, 4] rfl (w12_goes_b76 X hret hrec hK83 v2 v3 (4 : Int32) x8 m12)
          · exact lu_sub [1, 2, 3, 4] rfl (w12_goes_b71 X hret hrec hK83 v2 v3 x8 m12)
theorem w12_goes_b9  {G : lu_G} {ρ : Nat → Nat} {a1 : Int32} {K83 : Int32 → lu_M → Option (Int32 × lu_M)} (X : lu_X G RX12 cX12_goes 5 6 144) (hret : (lu_me G).sig.returnType = (some .int))  (hK83 : ∀ (v2 : Int32) (m : lu_M), lu_Ab lu_TM G (lu_Q lu_TM G ρ lu_RVi lu_sn) (K83 v2 m) 83 [(0, .ref (ρ 0)), (1, .int a1), (2, .int v2)] [] ρ 0 0 [] m) : ∀ (n : Nat) (v2 : Int32) (v3 : Int32) (m : lu_M), lu_Ab lu_TM G (lu_Q lu_TM G ρ lu_RVi lu_sn) (f12_goes_b9 K83 a1 n v2 v3 m) 9 [(0, .ref (ρ 0)), (1, .int a1), (2, .int v2), (3, .int v3)] [] ρ 0 0 [] m := by
  intro n
  induction n with
  | zero => intro v2 v3 m; exact lu_none
  | succ n ih => intro v2 v3 m; exact w12_goes_b9B X hret hK83 ih v2 v3 m
def f12_goes_b127 (K85 : Int32 → Int32 → lu_M → Option (Int32 × lu_M)) (K133 : Int32 → lu_M → Option (Int32 × lu_M)) (a1 : Int32) (v2 : Int32) (v3 : Int32) (m : lu_M) : Option (Int32 × lu_M) :=
  K85 v2 (v3 + (1 : Int32)) m
set_option maxRecDepth 20000 in
theorem w12_goes_b127  {G : lu_G} {ρ : Nat → Nat} {a1 : Int32} {K85 : Int32 → Int32 → lu_M → Option (Int32 × lu_M)} {K133 : Int32 → lu_M → Option (Int32 × lu_M)} (X : lu_X G RX12 cX12_goes 5 6 144) (hret : (lu_me G).sig.returnType = (some .int))  (hK85 : ∀ (v2 : Int32) (v3 : Int32) (m : lu_M), lu_Ab lu_TM G (lu_Q lu_TM G ρ lu_RVi lu_sn) (K85 v2 v3 m) 85 [(0, .ref (ρ 0)), (1, .int a1), (2, .int v2), (3, .int v3)] [] ρ 0 0 [] m) (hK133 : ∀ (v2 : Int32) (m : lu_M), lu_Ab lu_TM G (lu_Q lu_TM G ρ lu_RVi lu_sn) (K133 v2 m) 133 [(0, .ref (ρ 0)), (2, .int v2)] [] ρ 0 0 [] m) : ∀ (v2 : Int32) (v3 : Int32) (m : lu_M), lu_Ab lu_TM G (lu_Q lu_TM G ρ lu_RVi lu_sn) (f12_goes_b127 K85 K133 a1 v2 v3 m) 127 [(0, .ref (ρ 0)), (1, .int a1), (2, .int v2), (3, .int v3)] [] ρ 0 0 [] m := by
  intro v2 v3 m
  unfold f12_goes_b127
  refine lu_iinc (lv2 := [(3, .int (v3 + (1 : Int32))), (0, .ref (ρ 0)), (1, .int a1), (2, .int v2)]) X dX12_goes_127 (pc2 := 130) rfl 3 rfl (lu_ii _ ic_1) (by decide) rfl ?_
  refine lu_goto (tgt := 85) X dX12_goes_130 (by decide) ?_
  exact lu_sub [1, 2, 3, 0] rfl (hK85 v2 (v3 + (1 : Int32)) m)
def f12_goes_b112 (K85 : Int32 → Int32 → lu_M → Option (Int32 × lu_M)) (K133 : Int32 → lu_M → Option (Int32 × lu_M)) (a1 : Int32) (v2 : Int32) (v3 : Int32) (s0 : Int32) (m : lu_M) : Option (Int32 × lu_M) :=
  if s0 = (10 : Int32) then (f12_goes_b127 K85 K133 a1 v2 v3 m)
  else (lu_bv (f12_undo s0 m) fun m15 =>
  f12_goes_b127 K85 K133 a1 v2 v3 m15)
set_option maxRecDepth 20000 in
theorem w12_goes_b112  {G : lu_G} {ρ : Nat → Nat} {a1 : Int32} {K85 : Int32 → Int32 → lu_M → Option (Int32 × lu_M)} {K133 : Int32 → lu_M → Option (Int32 × lu_M)} (X : lu_X G RX12 cX12_goes 5 6 144) (hret : (lu_me G).sig.returnType = (some .int))  (hK85 : ∀ (v2 : Int32) (v3 : Int32) (m : lu_M), lu_Ab lu_TM G (lu_Q lu_TM G ρ lu_RVi lu_sn) (K85 v2 v3 m) 85 [(0, .ref (ρ 0)), (1, .int a1), (2, .int v2), (3, .int v3)] [] ρ 0 0 [] m) (hK133 : ∀ (v2 : Int32) (m : lu_M), lu_Ab lu_TM G (lu_Q lu_TM G ρ lu_RVi lu_sn) (K133 v2 m) 133 [(0, .ref (ρ 0)), (2, .int v2)] [] ρ 0 0 [] m) : ∀ (v2 : Int32) (v3 : Int32) (s0 : Int32) (m : lu_M), lu_Ab lu_TM G (lu_Q lu_TM G ρ lu_RVi lu_sn) (f12_goes_b112 K85 K133 a1 v2 v3 s0 m) 112 [(0, .ref (ρ 0)), (1, .int a1), (2, .int v2), (3, .int v3)] [.int s0] ρ 0 0 [] m := by
  intro v2 v3 s0 m
  unfold f12_goes_b112
  refine lu_istore (lv2 := [(4, .int s0), (0, .ref (ρ 0)), (1, .int a1), (2, .int v2), (3, .int v3)]) X dX12_goes_112 (pc2 := 114) rfl (by decide) rfl ?_
  refine lu_iload X dX12_goes_114 (pc2 := 116) rfl 0 rfl ?_
  refine lu_bipush X dX12_goes_116 (pc2 := 118) rfl bp_10 ?_
  refine lu_icmp_eq (tgt := 127) X dX12_goes_118 (pc2 := 121) rfl (by decide) (fun _ => ?_) (fun _ => ?_)
  · exact lu_sub [1, 2, 3, 4] rfl (w12_goes_b127 X hret hK85 hK133 v2 v3 m)
  · refine lu_aload_n X dX12_goes_121 (pc2 := 122) rfl rfl 1 rfl ?_
    refine lu_iload X dX12_goes_122 (pc2 := 124) rfl 0 rfl ?_
    refine lu_invVv X (c12_undo _ s0) rfl q1374 mvV_12_undo kM_0 lM_0 (by decide) ⟨_, rfl, rfl⟩ rfl rfl (Nat.le_of_ble_eq_true rfl) (Nat.le_of_ble_eq_true rfl) (Nat.le_of_ble_eq_true rfl) ⟨Nat.zero_le _, Nat.zero_le _⟩ dX12_goes_124 (pc2 := 127) rfl rfl (fun m15 => ?_)
    exact lu_sub [1, 2, 3, 4] rfl (w12_goes_b127 X hret hK85 hK133 v2 v3 m15)
def f12_goes_b85B (K133 : Int32 → lu_M → Option (Int32 × lu_M)) (rec : Int32 → Int32 → lu_M → Option (Int32 × lu_M)) (a1 : Int32) (v2 : Int32) (v3 : Int32) (m : lu_M) : Option (Int32 × lu_M) :=
  if (m 1 0) ≤ v3 then (K133 v2 m)
  else (if (v3 + (1 : Int32)) = a1 then (f12_goes_b112 rec K133 a1 v2 v3 (10 : Int32) m)
  else (lu_bi (f12_choice v3 m) fun x13 m14 =>
  f12_goes_b112 rec K133 a1 v2 v3 x13 m14))
def f12_goes_b85 (K133 : Int32 → lu_M → Option (Int32 × lu_M)) (a1 : Int32) : Nat → Int32 → Int32 → lu_M → Option (Int32 × lu_M)
  | 0, _, _, _ => none
  | n + 1, v2, v3, m => f12_goes_b85B K133 (f12_goes_b85 K133 a1 n) a1 v2 v3 m
set_option maxRecDepth 20000 in
theorem w12_goes_b85B  {G : lu_G} {ρ : Nat → Nat} {a1 : Int32} {K133 : Int32 → lu_M → Option (Int32 × lu_M)} {rec : Int32 → Int32 → lu_M → Option (Int32 × lu_M)} (X : lu_X G RX12 cX12_goes 5 6 144) (hret : (lu_me G).sig.returnType = (some .int))  (hK133 : ∀ (v2 : Int32) (m : lu_M), lu_Ab lu_TM G (lu_Q lu_TM G ρ lu_RVi lu_sn) (K133 v2 m) 133 [(0, .ref (ρ 0)), (2, .int v2)] [] ρ 0 0 [] m) (hrec : ∀ (v2 : Int32) (v3 : Int32) (m : lu_M), lu_Ab lu_TM G (lu_Q lu_TM G ρ lu_RVi lu_sn) (rec v2 v3 m) 85 [(0, .ref (ρ 0)), (1, .int a1), (2, .int v2), (3, .int v3)] [] ρ 0 0 [] m) : ∀ (v2 : Int32) (v3 : Int32) (m : lu_M), lu_Ab lu_TM G (lu_Q lu_TM G ρ lu_RVi lu_sn) (f12_goes_b85B K133 rec a1 v2 v3 m) 85 [(0, .ref (ρ 0)), (1, .int a1), (2, .int v2), (3, .int v3)] [] ρ 0 0 [] m := by
  intro v2 v3 m
  unfold f12_goes_b85B
  refine lu_iload_n X dX12_goes_85 (pc2 := 86) rfl rfl 3 rfl ?_
  refine lu_aload_n X dX12_goes_86 (pc2 := 87) rfl rfl 0 rfl ?_
  refine lu_getr (r2 := 1) X rfl fl12_7 rfl kM_0 lM_0 dX12_goes_87 (pc2 := 90) rfl ?_
  refine lu_iconst X dX12_goes_90 (pc2 := 91) rfl ic_0 ?_
  refine lu_ialdK (q := 0) X (by decide) kM_1 lM_1 dX12_goes_91 (pc2 := 92) rfl ?_
  refine lu_icmp_ge (tgt := 133) X dX12_goes_92 (pc2 := 95) rfl (by decide) (fun _ => ?_) (fun _ => ?_)
  · exact lu_sub [0, 2] rfl (hK133 v2 m)
  · refine lu_iload_n X dX12_goes_95 (pc2 := 96) rfl rfl 3 rfl ?_
    refine lu_iconst X dX12_goes_96 (pc2 := 97) rfl ic_1 ?_
    refine lu_iadd X dX12_goes_97 (pc2 := 98) rfl ?_
    refine lu_iload_n X dX12_goes_98 (pc2 := 99) rfl rfl 1 rfl ?_
    refine lu_icmp_ne (tgt := 107) X dX12_goes_99 (pc2 := 102) rfl (by decide) (fun _ => ?_) (fun _ => ?_)
    · refine lu_aload_n X dX12_goes_107 (pc2 := 108) rfl rfl 0 rfl ?_
      refine lu_iload_n X dX12_goes_108 (pc2 := 109) rfl rfl 3 rfl ?_
      refine lu_invVi X (c12_choice _ v3) rfl q1298 mvV_12_choice kM_0 lM_0 (by decide) ⟨_, rfl, rfl⟩ rfl rfl (Nat.le_of_ble_eq_true rfl) (Nat.le_of_ble_eq_true rfl) (Nat.le_of_ble_eq_true rfl) ⟨Nat.zero_le _, Nat.zero_le _⟩ dX12_goes_109 (pc2 := 112) rfl rfl (fun x13 m14 => ?_)
      exact w12_goes_b112 X hret hrec hK133 v2 v3 x13 m14
    · refine lu_bipush X dX12_goes_102 (pc2 := 104) rfl bp_10 ?_
      refine lu_goto (tgt := 112) X dX12_goes_104 (by decide) ?_
      exact w12_goes_b112 X hret hrec hK133 v2 v3 (10 : Int32) m
theorem w12_goes_b85  {G : lu_G} {ρ : Nat → Nat} {a1 : Int32} {K133 : Int32 → lu_M → Option (Int32 × lu_M)} (X : lu_X G RX12 cX12_goes 5 6 144) (hret : (lu_me G).sig.returnType = (some .int))  (hK133 : ∀ (v2 : Int32) (m : lu_M), lu_Ab lu_TM G (lu_Q lu_TM G ρ lu_RVi lu_sn) (K133 v2 m) 133 [(0, .ref (ρ 0)), (2, .int v2)] [] ρ 0 0 [] m) : ∀ (n : Nat) (v2 : Int32) (v3 : Int32) (m : lu_M), lu_Ab lu_TM G (lu_Q lu_TM G ρ lu_RVi lu_sn) (f12_goes_b85 K133 a1 n v2 v3 m) 85 [(0, .ref (ρ 0)), (1, .int a1), (2, .int v2), (3, .int v3)] [] ρ 0 0 [] m := by
  intro n
  induction n with
  | zero => intro v2 v3 m; exact lu_none
  | succ n ih => intro v2 v3 m; exact w12_goes_b85B X hret hK133 ih v2 v3 m
def f12_goes_b182 (K138 : Int32 → Int32 → Int32 → lu_M → Option (Int32 × lu_M)) (K190 : Int32 → lu_M → Option (Int32 × lu_M)) (a1 : Int32) (v2 : Int32) (v4 : Int32) (s0 : Int32) (s1 : Int32) (m : lu_M) : Option (Int32 × lu_M) :=
  lu_nm ((s1 + s0)) fun x18 =>
  K138 v2 x18 (v4 + (1 : Int32)) m
set_option maxRecDepth 20000 in
theorem w12_goes_b182  {G : lu_G} {ρ : Nat → Nat} {a1 : Int32} {K138 : Int32 → Int32 → Int32 → lu_M → Option (Int32 × lu_M)} {K190 : Int32 → lu_M → Option (Int32 × lu_M)} (X : lu_X G RX12 cX12_goes 5 6 144) (hret : (lu_me G).sig.returnType = (some .int))  (hK138 : ∀ (v2 : Int32) (v3 : Int32) (v4 : Int32) (m : lu_M), lu_Ab lu_TM G (lu_Q lu_TM G ρ lu_RVi lu_sn) (K138 v2 v3 v4 m) 138 [(0, .ref (ρ 0)), (2, .int v2), (3, .int v3), (4, .int v4)] [] ρ 0 0 [] m) (hK190 : ∀ (v3 : Int32) (m : lu_M), lu_Ab lu_TM G (lu_Q lu_TM G ρ lu_RVi lu_sn) (K190 v3 m) 190 [(0, .ref (ρ 0)), (3, .int v3)] [] ρ 0 0 [] m) : ∀ (v2 : Int32) (v4 : Int32) (s0 : Int32) (s1 : Int32) (m : lu_M), lu_Ab lu_TM G (lu_Q lu_TM G ρ lu_RVi lu_sn) (f12_goes_b182 K138 K190 a1 v2 v4 s0 s1 m) 182 [(0, .ref (ρ 0)), (2, .int v2), (4, .int v4)] [.int s0, .int s1] ρ 0 0 [] m := by
  intro v2 v4 s0 s1 m
  unfold f12_goes_b182
  refine lu_iadd X dX12_goes_182 (pc2 := 183) rfl ?_
  refine lu_topi (fun x18 => ?_)
  refine lu_istore_n (lv2 := [(3, .int x18), (0, .ref (ρ 0)), (2, .int v2), (4, .int v4)]) X dX12_goes_183 (pc2 := 184) rfl rfl (by decide) rfl ?_
  refine lu_iinc (lv2 := [(4, .int (v4 + (1 : Int32))), (3, .int x18), (0, .ref (ρ 0)), (2, .int v2)]) X dX12_goes_184 (pc2 := 187) rfl 3 rfl (lu_ii _ ic_1) (by decide) rfl ?_
  refine lu_goto (tgt := 138) X dX12_goes_187 (by decide) ?_
  exact lu_sub [2, 3, 1, 0] rfl (hK138 v2 x18 (v4 + (1 : Int32)) m)
def f12_goes_b181 (K138 : Int32 → Int32 → Int32 → lu_M → Option (Int32 × lu_M)) (K190 : Int32 → lu_M → Option (Int32 × lu_M)) (a1 : Int32) (v2 : Int32) (v4 : Int32) (s0 : Int32) (m : lu_M) : Option (Int32 × lu_M) :=
  f12_goes_b182 K138 K190 a1 v2 v4 (0 : Int32) s0 m
set_option maxRecDepth 20000 in
theorem w12_goes_b181  {G : lu_G} {ρ : Nat → Nat} {a1 : Int32} {K138 : Int32 → Int32 → Int32 → lu_M → Option (Int32 × lu_M)} {K190 : Int32 → lu_M → Option (Int32 × lu_M)} (X : lu_X G RX12 cX12_goes 5 6 144) (hret : (lu_me G).sig.returnType = (some .int))  (hK138 : ∀ (v2 : Int32) (v3 : Int32) (v4 : Int32) (m : lu_M), lu_Ab lu_TM G (lu_Q lu_TM G ρ lu_RVi lu_sn) (K138 v2 v3 v4 m) 138 [(0, .ref (ρ 0)), (2, .int v2), (3, .int v3), (4, .int v4)] [] ρ 0 0 [] m) (hK190 : ∀ (v3 : Int32) (m : lu_M), lu_Ab lu_TM G (lu_Q lu_TM G ρ lu_RVi lu_sn) (K190 v3 m) 190 [(0, .ref (ρ 0)), (3, .int v3)] [] ρ 0 0 [] m) : ∀ (v2 : Int32) (v4 : Int32) (s0 : Int32) (m : lu_M), lu_Ab lu_TM G (lu_Q lu_TM G ρ lu_RVi lu_sn) (f12_goes_b181 K138 K190 a1 v2 v4 s0 m) 181 [(0, .ref (ρ 0)), (2, .int v2), (4, .int v4)] [.int s0] ρ 0 0 [] m := by
  intro v2 v4 s0 m
  unfold f12_goes_b181
  refine lu_iconst X dX12_goes_181 (pc2 := 182) rfl ic_0 ?_
  exact w12_goes_b182 X hret hK138 hK190 v2 v4 (0 : Int32) s0 m
def f12_goes_b138B (K190 : Int32 → lu_M → Option (Int32 × lu_M)) (rec : Int32 → Int32 → Int32 → lu_M → Option (Int32 × lu_M)) (a1 : Int32) (v2 : Int32) (v3 : Int32) (v4 : Int32) (m : lu_M) : Option (Int32 × lu_M) :=
  if (m 1 5) ≤ v4 then (K190 v3 m)
  else (lu_bi (f12_deedIs v4 (4 : Int32) m) fun x16 m17 =>
  if x16 = (1 : Int32) then (lu_bi (f12_due v4 m17) fun x19 m20 =>
  if x19 < v2 then (f12_goes_b181 rec K190 a1 v2 v4 v3 m20)
  else (lu_bi (f12_deedIs v4 (2 : Int32) m20) fun x21 m22 =>
  f12_goes_b182 rec K190 a1 v2 v4 x21 v3 m22))
  else (f12_goes_b181 rec K190 a1 v2 v4 v3 m17))
def f12_goes_b138 (K190 : Int32 → lu_M → Option (Int32 × lu_M)) (a1 : Int32) : Nat → Int32 → Int32 → Int32 → lu_M → Option (Int32 × lu_M)
  | 0, _, _, _, _ => none
  | n + 1, v2, v3, v4, m => f12_goes_b138B K190 (f12_goes_b138 K190 a1 n) a1 v2 v3 v4 m
set_option maxRecDepth 20000 in
theorem w12_goes_b138B  {G : lu_G} {ρ : Nat → Nat} {a1 : Int32} {K190 : Int32 → lu_M → Option (Int32 × lu_M)} {rec : Int32 → Int32 → Int32 → lu_M → Option (Int32 × lu_M)} (X : lu_X G RX12 cX12_goes 5 6 144) (hret : (lu_me G).sig.returnType = (some .int))  (hK190 : ∀ (v3 : Int32) (m : lu_M), lu_Ab lu_TM G (lu_Q lu_TM G ρ lu_RVi lu_sn) (K190 v3 m) 190 [(0, .ref (ρ 0)), (3, .int v3)] [] ρ 0 0 [] m) (hrec : ∀ (v2 : Int32) (v3 : Int32) (v4 : Int32) (m : lu_M), lu_Ab lu_TM G (lu_Q lu_TM G ρ lu_RVi lu_sn) (rec v2 v3 v4 m) 138 [(0, .ref (ρ 0)), (2, .int v2), (3, .int v3), (4, .int v4)] [] ρ 0 0 [] m) : ∀ (v2 : Int32) (v3 : Int32) (v4 : Int32) (m : lu_M), lu_Ab lu_TM G (lu_Q lu_TM G ρ lu_RVi lu_sn) (f12_goes_b138B K190 rec a1 v2 v3 v4 m) 138 [(0, .ref (ρ 0)), (2, .int v2), (3, .int v3), (4, .int v4)] [] ρ 0 0 [] m := by
  intro v2 v3 v4 m
  unfold f12_goes_b138B
  refine lu_iload X dX12_goes_138 (pc2 := 140) rfl 3 rfl ?_
  refine lu_aload_n X dX12_goes_140 (pc2 := 141) rfl rfl 0 rfl ?_
  refine lu_getr (r2 := 1) X rfl fl12_7 rfl kM_0 lM_0 dX12_goes_141 (pc2 := 144) rfl ?_
  refine lu_iconst X dX12_goes_144 (pc2 := 145) rfl ic_5 ?_
  refine lu_ialdK (q := 5) X (by decide) kM_1 lM_1 dX12_goes_145 (pc2 := 146) rfl ?_
  refine lu_icmp_ge (tgt := 190) X dX12_goes_146 (pc2 := 149) rfl (by decide) (fun _ => ?_) (fun _ => ?_)
  · exact lu_sub [0, 2] rfl (hK190 v3 m)
  · refine lu_iload_n X dX12_goes_149 (pc2 := 150) rfl rfl 2 rfl ?_
    refine lu_aload_n X dX12_goes_150 (pc2 := 151) rfl rfl 0 rfl ?_
    refine lu_iload X dX12_goes_151 (pc2 := 153) rfl 3 rfl ?_
    refine lu_iconst X dX12_goes_153 (pc2 := 154) rfl ic_4 ?_
    refine lu_invVi X (c12_deedIs _ v4 (4 : Int32)) rfl q1284 mvV_12_deedIs kM_0 lM_0 (by decide) ⟨_, rfl, rfl⟩ rfl rfl (Nat.le_of_ble_eq_true rfl) (Nat.le_of_ble_eq_true rfl) (Nat.le_of_ble_eq_true rfl) ⟨Nat.zero_le _, Nat.zero_le _⟩ dX12_goes_154 (pc2 := 157) rfl rfl (fun x16 m17 => ?_)
    refine lu_iconst X dX12_goes_157 (pc2 := 158) rfl ic_1 ?_
    refine lu_icmp_ne (tgt := 181) X dX12_goes_158 (pc2 := 161) rfl (by decide) (fun _ => ?_) (fun _ => ?_)
    · exact lu_sub [0, 1, 3] rfl (w12_goes_b181 X hret hrec hK190 v2 v4 v3 m17)
    · refine lu_aload_n X dX12_goes_161 (pc2 := 162) rfl rfl 0 rfl ?_
      refine lu_iload X dX12_goes_162 (pc2 := 164) rfl 3 rfl ?_
      refine lu_invVi X (c12_due _ v4) rfl q1316 mvV_12_due kM_0 lM_0 (by decide) ⟨_, rfl, rfl⟩ rfl rfl (Nat.le_of_ble_eq_true rfl) (Nat.le_of_ble_eq_true rfl) (Nat.le_of_ble_eq_true rfl) ⟨Nat.zero_le _, Nat.zero_le _⟩ dX12_goes_164 (pc2 := 167) rfl rfl (fun x19 m20 => ?_)
      refine lu_iload_n X dX12_goes_167 (pc2 := 168) rfl rfl 1 rfl ?_
      refine lu_icmp_lt (tgt := 181) X dX12_goes_168 (pc2 := 171) rfl (by decide) (fun _ => ?_) (fun _ => ?_)
      · exact lu_sub [0, 1, 3] rfl (w12_goes_b181 X hret hrec hK190 v2 v4 v3 m20)
      · refine lu_aload_n X dX12_goes_171 (pc2 := 172) rfl rfl 0 rfl ?_
        refine lu_iload X dX12_goes_172 (pc2 := 174) rfl 3 rfl ?_
        refine lu_iconst X dX12_goes_174 (pc2 := 175) rfl ic_2 ?_
        refine lu_invVi X (c12_deedIs _ v4 (2 : Int32)) rfl q1284 mvV_12_deedIs kM_0 lM_0 (by decide) ⟨_, rfl, rfl⟩ rfl rfl (Nat.le_of_ble_eq_true rfl) (Nat.le_of_ble_eq_true rfl) (Nat.le_of_ble_eq_true rfl) ⟨Nat.zero_le _, Nat.zero_le _⟩ dX12_goes_175 (pc2 := 178) rfl rfl (fun x21 m22 => ?_)
        refine lu_goto (tgt := 182) X dX12_goes_178 (by decide) ?_
        exact lu_sub [0, 1, 3] rfl (w12_goes_b182 X hret hrec hK190 v2 v4 x21 v3 m22)
theorem w12_goes_b138  {G : lu_G} {ρ : Nat → Nat} {a1 : Int32} {K190 : Int32 → lu_M → Option (Int32 × lu_M)} (X : lu_X G RX12 cX12_goes 5 6 144) (hret : (lu_me G).sig.returnType = (some .int))  (hK190 : ∀ (v3 : Int32) (m : lu_M), lu_Ab lu_TM G (lu_Q lu_TM G ρ lu_RVi lu_sn) (K190 v3 m) 190 [(0, .ref (ρ 0)), (3, .int v3)] [] ρ 0 0 [] m) : ∀ (n : Nat) (v2 : Int32) (v3 : Int32) (v4 : Int32) (m : lu_M), lu_Ab lu_TM G (lu_Q lu_TM G ρ lu_RVi lu_sn) (f12_goes_b138 K190 a1 n v2 v3 v4 m) 138 [(0, .ref (ρ 0)), (2, .int v2), (3, .int v3), (4, .int v4)] [] ρ 0 0 [] m := by
  intro n
  induction n with
  | zero => intro v2 v3 v4 m; exact lu_none
  | succ n ih => intro v2 v3 v4 m; exact w12_goes_b138B X hret hK190 ih v2 v3 v4 m
def f12_goes_b190  (a1 : Int32) (v3 : Int32) (m : lu_M) : Option (Int32 × lu_M) :=
  lu_nm (lu_st m 1 4 ((m 1 4) + v3)) fun m23 =>
  lu_nm (lu_st m23 1 3 ((m23 1 3) + (1 : Int32))) fun m24 =>
  some (v3, m24)
set_option maxRecDepth 20000 in
theorem w12_goes_b190  {G : lu_G} {ρ : Nat → Nat} {a1 : Int32}  (X : lu_X G RX12 cX12_goes 5 6 144) (hret : (lu_me G).sig.returnType = (some .int))   : ∀ (v3 : Int32) (m : lu_M), lu_Ab lu_TM G (lu_Q lu_TM G ρ lu_RVi lu_sn) (f12_goes_b190 a1 v3 m) 190 [(0, .ref (ρ 0)), (3, .int v3)] [] ρ 0 0 [] m := by
  intro v3 m
  unfold f12_goes_b190
  refine lu_aload_n X dX12_goes_190 (pc2 := 191) rfl rfl 0 rfl ?_
  refine lu_getr (r2 := 1) X rfl fl12_7 rfl kM_0 lM_0 dX12_goes_191 (pc2 := 194) rfl ?_
  refine lu_iconst X dX12_goes_194 (pc2 := 195) rfl ic_4 ?_
  refine lu_dup2 X dX12_goes_195 (pc2 := 196) rfl rfl rfl ?_
  refine lu_ialdK (q := 4) X (by decide) kM_1 lM_1 dX12_goes_196 (pc2 := 197) rfl ?_
  refine lu_iload_n X dX12_goes_197 (pc2 := 198) rfl rfl 1 rfl ?_
  refine lu_iadd X dX12_goes_198 (pc2 := 199) rfl ?_
  refine lu_iastK (q := 4) X (by decide) kM_1 lM_1 dX12_goes_199 (pc2 := 200) rfl (fun m23 => ?_)
  refine lu_aload_n X dX12_goes_200 (pc2 := 201) rfl rfl 0 rfl ?_
  refine lu_getr (r2 := 1) X rfl fl12_7 rfl kM_0 lM_0 dX12_goes_201 (pc2 := 204) rfl ?_
  refine lu_iconst X dX12_goes_204 (pc2 := 205) rfl ic_3 ?_
  refine lu_dup2 X dX12_goes_205 (pc2 := 206) rfl rfl rfl ?_
  refine lu_ialdK (q := 3) X (by decide) kM_1 lM_1 dX12_goes_206 (pc2 := 207) rfl ?_
  refine lu_iconst X dX12_goes_207 (pc2 := 208) rfl ic_1 ?_
  refine lu_iadd X dX12_goes_208 (pc2 := 209) rfl ?_
  refine lu_iastK (q := 3) X (by decide) kM_1 lM_1 dX12_goes_209 (pc2 := 210) rfl (fun m24 => ?_)
  refine lu_iload_n X dX12_goes_210 (pc2 := 211) rfl rfl 1 rfl ?_
  exact lu_iret X hret dX12_goes_211
def f12_goes_b133  (a1 : Int32) (v2 : Int32) (m : lu_M) : Option (Int32 × lu_M) :=
  f12_goes_b138 (f12_goes_b190 a1) a1 lu_fu v2 (0 : Int32) (0 : Int32) m
set_option maxRecDepth 20000 in
theorem w12_goes_b133  {G : lu_G} {ρ : Nat → Nat} {a1 : Int32}  (X : lu_X G RX12 cX12_goes 5 6 144) (hret : (lu_me G).sig.returnType = (some .int))   : ∀ (v2 : Int32) (m : lu_M), lu_Ab lu_TM G (lu_Q lu_TM G ρ lu_RVi lu_sn) (f12_goes_b133 a1 v2 m) 133 [(0, .ref (ρ 0)), (2, .int v2)] [] ρ 0 0 [] m := by
  intro v2 m
  unfold f12_goes_b133
  refine lu_iconst X dX12_goes_133 (pc2 := 134) rfl ic_0 ?_
  refine lu_istore_n (lv2 := [(3, .int (0 : Int32)), (0, .ref (ρ 0)), (2, .int v2)]) X dX12_goes_134 (pc2 := 135) rfl rfl (by decide) rfl ?_
  refine lu_iconst X dX12_goes_135 (pc2 := 136) rfl ic_0 ?_
  refine lu_istore (lv2 := [(4, .int (0 : Int32)), (3, .int (0 : Int32)), (0, .ref (ρ 0)), (2, .int v2)]) X dX12_goes_136 (pc2 := 138) rfl (by decide) rfl ?_
  exact lu_sub [2, 3, 1, 0] rfl (w12_goes_b138 X hret (w12_goes_b190 X hret) lu_fu v2 (0 : Int32) (0 : Int32) m)
def f12_goes_b83  (a1 : Int32) (v2 : Int32) (m : lu_M) : Option (Int32 × lu_M) :=
  f12_goes_b85 (f12_goes_b133 a1) a1 lu_fu v2 (0 : Int32) m
set_option maxRecDepth 20000 in
theorem w12_goes_b83  {G : lu_G} {ρ : Nat → Nat} {a1 : Int32}  (X : lu_X G RX12 cX12_goes 5 6 144) (hret : (lu_me G).sig.returnType = (some .int))   : ∀ (v2 : Int32) (m : lu_M), lu_Ab lu_TM G (lu_Q lu_TM G ρ lu_RVi lu_sn) (f12_goes_b83 a1 v2 m) 83 [(0, .ref (ρ 0)), (1, .int a1), (2, .int v2)] [] ρ 0 0 [] m := by
  intro v2 m
  unfold f12_goes_b83
  refine lu_iconst X dX12_goes_83 (pc2 := 84) rfl ic_0 ?_
  refine lu_istore_n (lv2 := [(3, .int (0 : Int32)), (0, .ref (ρ 0)), (1, .int a1), (2, .int v2)]) X dX12_goes_84 (pc2 := 85) rfl rfl (by decide) rfl ?_
  exact lu_sub [1, 2, 3, 0] rfl (w12_goes_b85 X hret (w12_goes_b133 X hret) lu_fu v2 (0 : Int32) m)
def f12_goes (a1 : Int32) (m : lu_M) : Option (Int32 × lu_M) :=
  lu_nm ((m 1 3)) fun x1 =>
  f12_goes_b9 (f12_goes_b83 a1) a1 lu_fu x1 (0 : Int32) m
set_option maxRecDepth 20000 in
theorem c12_goes (l : Launch)   (a1 : Int32) : lu_C lu_TM l yX12_goes cX12_goes 5 (some .int) 6 144 (fun ρ sa => [.ref (ρ 0), .int a1]) (f12_goes a1) lu_RVi lu_sn := by
  refine lu_met (cls := RX12) rfl (by decide +kernel) (fun _ _ => Nat.le_of_ble_eq_true rfl) ?_
  intro G ρ m hl X hret
  subst hl
  change lu_Ab lu_TM G (lu_Q lu_TM G ρ lu_RVi lu_sn) (f12_goes a1 m) 0 [(0, .ref (ρ 0)), (1, .int a1)] [] ρ 0 0 [] m
  unfold f12_goes
  refine lu_aload_n X dX12_goes_0 (pc2 := 1) rfl rfl 0 rfl ?_
  refine lu_getr (r2 := 1) X rfl fl12_7 rfl kM_0 lM_0 dX12_goes_1 (pc2 := 4) rfl ?_
  refine lu_iconst X dX12_goes_4 (pc2 := 5) rfl ic_3 ?_
  refine lu_ialdK (q := 3) X (by decide) kM_1 lM_1 dX12_goes_5 (pc2 := 6) rfl ?_
  refine lu_topi (fun x1 => ?_)
  refine lu_istore_n (lv2 := [(2, .int x1), (0, .ref (ρ 0)), (1, .int a1)]) X dX12_goes_6 (pc2 := 7) rfl rfl (by decide) rfl ?_
  refine lu_iconst X dX12_goes_7 (pc2 := 8) rfl ic_0 ?_
  refine lu_istore_n (lv2 := [(3, .int (0 : Int32)), (2, .int x1), (0, .ref (ρ 0)), (1, .int a1)]) X dX12_goes_8 (pc2 := 9) rfl rfl (by decide) rfl ?_
  exact lu_sub [2, 3, 1, 0] rfl (w12_goes_b9 X hret (w12_goes_b83 X hret) lu_fu x1 (0 : Int32) m)

theorem dX12_year_0 : decode cX12_year 0 = .ok (.aload_n 0, 1) := by decide +kernel
theorem dX12_year_1 : decode cX12_year 1 = .ok (.invokevirtual 124, 3) := by decide +kernel
theorem dX12_year_4 : decode cX12_year 4 = .ok (.ifCond .eq 8, 3) := by decide +kernel
theorem dX12_year_7 : decode cX12_year 7 = .ok (.bipush (-4), 2) := by decide +kernel
theorem dX12_year_9 : decode cX12_year 9 = .ok (.goto 8, 3) := by decide +kernel
theorem dX12_year_12 : decode cX12_year 12 = .ok (.aload_n 0, 1) := by decide +kernel
theorem dX12_year_13 : decode cX12_year 13 = .ok (.iconst 0, 1) := by decide +kernel
theorem dX12_year_14 : decode cX12_year 14 = .ok (.invokevirtual 146, 3) := by decide +kernel
theorem dX12_year_17 : decode cX12_year 17 = .ok (.ireturn, 1) := by decide +kernel
def f12_year_b17   (s0 : Int32) (m : lu_M) : Option (Int32 × lu_M) :=
  some (s0, m)
set_option maxRecDepth 20000 in
theorem w12_year_b17  {G : lu_G} {ρ : Nat → Nat}   (X : lu_X G RX12 cX12_year 1 7 168) (hret : (lu_me G).sig.returnType = (some .int))   : ∀ (s0 : Int32) (m : lu_M), lu_Ab lu_TM G (lu_Q lu_TM G ρ lu_RVi lu_sn) (f12_year_b17  s0 m) 17 [] [.int s0] ρ 0 0 [] m := by
  intro s0 m
  unfold f12_year_b17
  exact lu_iret X hret dX12_year_17
def f12_year  (m : lu_M) : Option (Int32 × lu_M) :=
  lu_bi (f12_isOver m) fun x1 m2 =>
  if x1 = 0 then (lu_bi (f12_goes (0 : Int32) m2) fun x3 m4 =>
  f12_year_b17 x3 m4)
  else (f12_year_b17 (-4 : Int32) m2)
set_option maxRecDepth 20000 in
theorem c12_year (l : Launch)    : lu_C lu_TM l yX12_year cX12_year 1 (some .int) 7 168 (fun ρ sa => [.ref (ρ 0)]) (f12_year ) lu_RVi lu_sn := by
  refine lu_met (cls := RX12) rfl (by decide +kernel) (fun _ _ => Nat.le_of_ble_eq_true rfl) ?_
  intro G ρ m hl X hret
  subst hl
  change lu_Ab lu_TM G (lu_Q lu_TM G ρ lu_RVi lu_sn) (f12_year  m) 0 [(0, .ref (ρ 0))] [] ρ 0 0 [] m
  unfold f12_year
  refine lu_aload_n X dX12_year_0 (pc2 := 1) rfl rfl 0 rfl ?_
  refine lu_invVi X (c12_isOver _) rfl q1362 mvV_12_isOver kM_0 lM_0 (by decide) ⟨_, rfl, rfl⟩ rfl rfl (Nat.le_of_ble_eq_true rfl) (Nat.le_of_ble_eq_true rfl) (Nat.le_of_ble_eq_true rfl) ⟨Nat.zero_le _, Nat.zero_le _⟩ dX12_year_1 (pc2 := 4) rfl rfl (fun x1 m2 => ?_)
  refine lu_if_eq (tgt := 12) X dX12_year_4 (pc2 := 7) rfl (by decide) (fun _ => ?_) (fun _ => ?_)
  · refine lu_aload_n X dX12_year_12 (pc2 := 13) rfl rfl 0 rfl ?_
    refine lu_iconst X dX12_year_13 (pc2 := 14) rfl ic_0 ?_
    refine lu_invVi X (c12_goes _ (0 : Int32)) rfl q1370 mvV_12_goes kM_0 lM_0 (by decide) ⟨_, rfl, rfl⟩ rfl rfl (Nat.le_of_ble_eq_true rfl) (Nat.le_of_ble_eq_true rfl) (Nat.le_of_ble_eq_true rfl) ⟨Nat.zero_le _, Nat.zero_le _⟩ dX12_year_14 (pc2 := 17) rfl rfl (fun x3 m4 => ?_)
    exact lu_sub [] rfl (w12_year_b17 X hret x3 m4)
  · refine lu_bipush X dX12_year_7 (pc2 := 9) rfl bp_m4 ?_
    refine lu_goto (tgt := 17) X dX12_year_9 (by decide) ?_
    exact lu_sub [] rfl (w12_year_b17 X hret (-4 : Int32) m2)

theorem dX12_those_0 : decode cX12_those 0 = .ok (.iconst 0, 1) := by decide +kernel
theorem dX12_those_1 : decode cX12_those 1 = .ok (.istore_n 2, 1) := by decide +kernel
theorem dX12_those_2 : decode cX12_those 2 = .ok (.iconst 0, 1) := by decide +kernel
theorem dX12_those_3 : decode cX12_those 3 = .ok (.istore_n 3, 1) := by decide +kernel
theorem dX12_those_4 : decode cX12_those 4 = .ok (.iload_n 3, 1) := by decide +kernel
theorem dX12_those_5 : decode cX12_those 5 = .ok (.aload_n 0, 1) := by decide +kernel
theorem dX12_those_6 : decode cX12_those 6 = .ok (.getfield 7, 3) := by decide +kernel
theorem dX12_those_9 : decode cX12_those 9 = .ok (.iconst 5, 1) := by decide +kernel
theorem dX12_those_10 : decode cX12_those 10 = .ok (.iaload, 1) := by decide +kernel
theorem dX12_those_11 : decode cX12_those 11 = .ok (.if_icmp .ge 29, 3) := by decide +kernel
theorem dX12_those_14 : decode cX12_those 14 = .ok (.iload_n 2, 1) := by decide +kernel
theorem dX12_those_15 : decode cX12_those 15 = .ok (.aload_n 0, 1) := by decide +kernel
theorem dX12_those_16 : decode cX12_those 16 = .ok (.iload_n 3, 1) := by decide +kernel
theorem dX12_those_17 : decode cX12_those 17 = .ok (.iconst 4, 1) := by decide +kernel
theorem dX12_those_18 : decode cX12_those 18 = .ok (.invokevirtual 90, 3) := by decide +kernel
theorem dX12_those_21 : decode cX12_those 21 = .ok (.iload_n 1, 1) := by decide +kernel
theorem dX12_those_22 : decode cX12_those 22 = .ok (.if_icmp .ne 9, 3) := by decide +kernel
theorem dX12_those_25 : decode cX12_those 25 = .ok (.iconst 1, 1) := by decide +kernel
theorem dX12_those_26 : decode cX12_those 26 = .ok (.iload_n 3, 1) := by decide +kernel
theorem dX12_those_27 : decode cX12_those 27 = .ok (.ishl, 1) := by decide +kernel
theorem dX12_those_28 : decode cX12_those 28 = .ok (.goto 4, 3) := by decide +kernel
theorem dX12_those_31 : decode cX12_those 31 = .ok (.iconst 0, 1) := by decide +kernel
theorem dX12_those_32 : decode cX12_those 32 = .ok (.ior, 1) := by decide +kernel
theorem dX12_those_33 : decode cX12_those 33 = .ok (.istore_n 2, 1) := by decide +kernel
theorem dX12_those_34 : decode cX12_those 34 = .ok (.iinc 3 1, 3) := by decide +kernel
theorem dX12_those_37 : decode cX12_those 37 = .ok (.goto (-33), 3) := by decide +kernel
theorem dX12_those_40 : decode cX12_those 40 = .ok (.iload_n 2, 1) := by decide +kernel
theorem dX12_those_41 : decode cX12_those 41 = .ok (.ireturn, 1) := by decide +kernel
def f12_those_b32 (K4 : Int32 → Int32 → lu_M → Option (Int32 × lu_M)) (K40 : Int32 → lu_M → Option (Int32 × lu_M)) (a1 : Int32) (v3 : Int32) (s0 : Int32) (s1 : Int32) (m : lu_M) : Option (Int32 × lu_M) :=
  lu_nm ((s1 ||| s0)) fun x3 =>
  K4 x3 (v3 + (1 : Int32)) m
set_option maxRecDepth 20000 in
theorem w12_those_b32  {G : lu_G} {ρ : Nat → Nat} {a1 : Int32} {K4 : Int32 → Int32 → lu_M → Option (Int32 × lu_M)} {K40 : Int32 → lu_M → Option (Int32 × lu_M)} (X : lu_X G RX12 cX12_those 4 2 43) (hret : (lu_me G).sig.returnType = (some .int))  (hK4 : ∀ (v2 : Int32) (v3 : Int32) (m : lu_M), lu_Ab lu_TM G (lu_Q lu_TM G ρ lu_RVi lu_sn) (K4 v2 v3 m) 4 [(0, .ref (ρ 0)), (1, .int a1), (2, .int v2), (3, .int v3)] [] ρ 0 0 [] m) (hK40 : ∀ (v2 : Int32) (m : lu_M), lu_Ab lu_TM G (lu_Q lu_TM G ρ lu_RVi lu_sn) (K40 v2 m) 40 [(2, .int v2)] [] ρ 0 0 [] m) : ∀ (v3 : Int32) (s0 : Int32) (s1 : Int32) (m : lu_M), lu_Ab lu_TM G (lu_Q lu_TM G ρ lu_RVi lu_sn) (f12_those_b32 K4 K40 a1 v3 s0 s1 m) 32 [(0, .ref (ρ 0)), (1, .int a1), (3, .int v3)] [.int s0, .int s1] ρ 0 0 [] m := by
  intro v3 s0 s1 m
  unfold f12_those_b32
  refine lu_ior X dX12_those_32 (pc2 := 33) rfl ?_
  refine lu_topi (fun x3 => ?_)
  refine lu_istore_n (lv2 := [(2, .int x3), (0, .ref (ρ 0)), (1, .int a1), (3, .int v3)]) X dX12_those_33 (pc2 := 34) rfl rfl (by decide) rfl ?_
  refine lu_iinc (lv2 := [(3, .int (v3 + (1 : Int32))), (2, .int x3), (0, .ref (ρ 0)), (1, .int a1)]) X dX12_those_34 (pc2 := 37) rfl 3 rfl (lu_ii _ ic_1) (by decide) rfl ?_
  refine lu_goto (tgt := 4) X dX12_those_37 (by decide) ?_
  exact lu_sub [2, 3, 1, 0] rfl (hK4 x3 (v3 + (1 : Int32)) m)
def f12_those_b4B (K40 : Int32 → lu_M → Option (Int32 × lu_M)) (rec : Int32 → Int32 → lu_M → Option (Int32 × lu_M)) (a1 : Int32) (v2 : Int32) (v3 : Int32) (m : lu_M) : Option (Int32 × lu_M) :=
  if (m 1 5) ≤ v3 then (K40 v2 m)
  else (lu_bi (f12_deedIs v3 (4 : Int32) m) fun x1 m2 =>
  if x1 = a1 then (f12_those_b32 rec K40 a1 v3 ((1 : Int32) <<< (v3 &&& 31)) v2 m2)
  else (f12_those_b32 rec K40 a1 v3 (0 : Int32) v2 m2))
def f12_those_b4 (K40 : Int32 → lu_M → Option (Int32 × lu_M)) (a1 : Int32) : Nat → Int32 → Int32 → lu_M → Option (Int32 × lu_M)
  | 0, _, _, _ => none
  | n + 1, v2, v3, m => f12_those_b4B K40 (f12_those_b4 K40 a1 n) a1 v2 v3 m
set_option maxRecDepth 20000 in
theorem w12_those_b4B  {G : lu_G} {ρ : Nat → Nat} {a1 : Int32} {K40 : Int32 → lu_M → Option (Int32 × lu_M)} {rec : Int32 → Int32 → lu_M → Option (Int32 × lu_M)} (X : lu_X G RX12 cX12_those 4 2 43) (hret : (lu_me G).sig.returnType = (some .int))  (hK40 : ∀ (v2 : Int32) (m : lu_M), lu_Ab lu_TM G (lu_Q lu_TM G ρ lu_RVi lu_sn) (K40 v2 m) 40 [(2, .int v2)] [] ρ 0 0 [] m) (hrec : ∀ (v2 : Int32) (v3 : Int32) (m : lu_M), lu_Ab lu_TM G (lu_Q lu_TM G ρ lu_RVi lu_sn) (rec v2 v3 m) 4 [(0, .ref (ρ 0)), (1, .int a1), (2, .int v2), (3, .int v3)] [] ρ 0 0 [] m) : ∀ (v2 : Int32) (v3 : Int32) (m : lu_M), lu_Ab lu_TM G (lu_Q lu_TM G ρ lu_RVi lu_sn) (f12_those_b4B K40 rec a1 v2 v3 m) 4 [(0, .ref (ρ 0)), (1, .int a1), (2, .int v2), (3, .int v3)] [] ρ 0 0 [] m := by
  intro v2 v3 m
  unfold f12_those_b4B
  refine lu_iload_n X dX12_those_4 (pc2 := 5) rfl rfl 3 rfl ?_
  refine lu_aload_n X dX12_those_5 (pc2 := 6) rfl rfl 0 rfl ?_
  refine lu_getr (r2 := 1) X rfl fl12_7 rfl kM_0 lM_0 dX12_those_6 (pc2 := 9) rfl ?_
  refine lu_iconst X dX12_those_9 (pc2 := 10) rfl ic_5 ?_
  refine lu_ialdK (q := 5) X (by decide) kM_1 lM_1 dX12_those_10 (pc2 := 11) rfl ?_
  refine lu_icmp_ge (tgt := 40) X dX12_those_11 (pc2 := 14) rfl (by decide) (fun _ => ?_) (fun _ => ?_)
  · exact lu_sub [2] rfl (hK40 v2 m)
  · refine lu_iload_n X dX12_those_14 (pc2 := 15) rfl rfl 2 rfl ?_
    refine lu_aload_n X dX12_those_15 (pc2 := 16) rfl rfl 0 rfl ?_
    refine lu_iload_n X dX12_those_16 (pc2 := 17) rfl rfl 3 rfl ?_
    refine lu_iconst X dX12_those_17 (pc2 := 18) rfl ic_4 ?_
    refine lu_invVi X (c12_deedIs _ v3 (4 : Int32)) rfl q1284 mvV_12_deedIs kM_0 lM_0 (by decide) ⟨_, rfl, rfl⟩ rfl rfl (Nat.le_of_ble_eq_true rfl) (Nat.le_of_ble_eq_true rfl) (Nat.le_of_ble_eq_true rfl) ⟨Nat.zero_le _, Nat.zero_le _⟩ dX12_those_18 (pc2 := 21) rfl rfl (fun x1 m2 => ?_)
    refine lu_iload_n X dX12_those_21 (pc2 := 22) rfl rfl 1 rfl ?_
    refine lu_icmp_ne (tgt := 31) X dX12_those_22 (pc2 := 25) rfl (by decide) (fun _ => ?_) (fun _ => ?_)
    · refine lu_iconst X dX12_those_31 (pc2 := 32) rfl ic_0 ?_
      exact lu_sub [0, 1, 3] rfl (w12_those_b32 X hret hrec hK40 v3 (0 : Int32) v2 m2)
    · refine lu_iconst X dX12_those_25 (pc2 := 26) rfl ic_1 ?_
      refine lu_iload_n X dX12_those_26 (pc2 := 27) rfl rfl 3 rfl ?_
      refine lu_ishl X dX12_those_27 (pc2 := 28) rfl ?_
      refine lu_goto (tgt := 32) X dX12_those_28 (by decide) ?_
      exact lu_sub [0, 1, 3] rfl (w12_those_b32 X hret hrec hK40 v3 ((1 : Int32) <<< (v3 &&& 31)) v2 m2)
theorem w12_those_b4  {G : lu_G} {ρ : Nat → Nat} {a1 : Int32} {K40 : Int32 → lu_M → Option (Int32 × lu_M)} (X : lu_X G RX12 cX12_those 4 2 43) (hret : (lu_me G).sig.returnType = (some .int))  (hK40 : ∀ (v2 : Int32) (m : lu_M), lu_Ab lu_TM G (lu_Q lu_TM G ρ lu_RVi lu_sn) (K40 v2 m) 40 [(2, .int v2)] [] ρ 0 0 [] m) : ∀ (n : Nat) (v2 : Int32) (v3 : Int32) (m : lu_M), lu_Ab lu_TM G (lu_Q lu_TM G ρ lu_RVi lu_sn) (f12_those_b4 K40 a1 n v2 v3 m) 4 [(0, .ref (ρ 0)), (1, .int a1), (2, .int v2), (3, .int v3)] [] ρ 0 0 [] m := by
  intro n
  induction n with
  | zero => intro v2 v3 m; exact lu_none
  | succ n ih => intro v2 v3 m; exact w12_those_b4B X hret hK40 ih v2 v3 m
def f12_those_b40  (a1 : Int32) (v2 : Int32) (m : lu_M) : Option (Int32 × lu_M) :=
  some (v2, m)
set_option maxRecDepth 20000 in
theorem w12_those_b40  {G : lu_G} {ρ : Nat → Nat} {a1 : Int32}  (X : lu_X G RX12 cX12_those 4 2 43) (hret : (lu_me G).sig.returnType = (some .int))   : ∀ (v2 : Int32) (m : lu_M), lu_Ab lu_TM G (lu_Q lu_TM G ρ lu_RVi lu_sn) (f12_those_b40 a1 v2 m) 40 [(2, .int v2)] [] ρ 0 0 [] m := by
  intro v2 m
  unfold f12_those_b40
  refine lu_iload_n X dX12_those_40 (pc2 := 41) rfl rfl 0 rfl ?_
  exact lu_iret X hret dX12_those_41
def f12_those (a1 : Int32) (m : lu_M) : Option (Int32 × lu_M) :=
  f12_those_b4 (f12_those_b40 a1) a1 lu_fu (0 : Int32) (0 : Int32) m
set_option maxRecDepth 20000 in
theorem c12_those (l : Launch)   (a1 : Int32) : lu_C lu_TM l yX12_those cX12_those 4 (some .int) 2 43 (fun ρ sa => [.ref (ρ 0), .int a1]) (f12_those a1) lu_RVi lu_sn := by
  refine lu_met (cls := RX12) rfl (by decide +kernel) (fun _ _ => Nat.le_of_ble_eq_true rfl) ?_
  intro G ρ m hl X hret
  subst hl
  change lu_Ab lu_TM G (lu_Q lu_TM G ρ lu_RVi lu_sn) (f12_those a1 m) 0 [(0, .ref (ρ 0)), (1, .int a1)] [] ρ 0 0 [] m
  unfold f12_those
  refine lu_iconst X dX12_those_0 (pc2 := 1) rfl ic_0 ?_
  refine lu_istore_n (lv2 := [(2, .int (0 : Int32)), (0, .ref (ρ 0)), (1, .int a1)]) X dX12_those_1 (pc2 := 2) rfl rfl (by decide) rfl ?_
  refine lu_iconst X dX12_those_2 (pc2 := 3) rfl ic_0 ?_
  refine lu_istore_n (lv2 := [(3, .int (0 : Int32)), (2, .int (0 : Int32)), (0, .ref (ρ 0)), (1, .int a1)]) X dX12_those_3 (pc2 := 4) rfl rfl (by decide) rfl ?_
  exact lu_sub [2, 3, 1, 0] rfl (w12_those_b4 X hret (w12_those_b40 X hret) lu_fu (0 : Int32) (0 : Int32) m)

theorem dX12_standing_0 : decode cX12_standing 0 = .ok (.iload_n 1, 1) := by decide +kernel
theorem dX12_standing_1 : decode cX12_standing 1 = .ok (.i2l, 1) := by decide +kernel
theorem dX12_standing_2 : decode cX12_standing 2 = .ok (.lconst 0, 1) := by decide +kernel
theorem dX12_standing_3 : decode cX12_standing 3 = .ok (.ldc2_w 149, 3) := by decide +kernel
theorem dX12_standing_6 : decode cX12_standing 6 = .ok (.invokestatic 64, 3) := by decide +kernel
theorem dX12_standing_9 : decode cX12_standing 9 = .ok (.ifCond .eq 11, 3) := by decide +kernel
theorem dX12_standing_12 : decode cX12_standing 12 = .ok (.aload_n 0, 1) := by decide +kernel
theorem dX12_standing_13 : decode cX12_standing 13 = .ok (.iload_n 1, 1) := by decide +kernel
theorem dX12_standing_14 : decode cX12_standing 14 = .ok (.invokevirtual 151, 3) := by decide +kernel
theorem dX12_standing_17 : decode cX12_standing 17 = .ok (.goto 4, 3) := by decide +kernel
theorem dX12_standing_20 : decode cX12_standing 20 = .ok (.iconst (-1), 1) := by decide +kernel
theorem dX12_standing_21 : decode cX12_standing 21 = .ok (.ireturn, 1) := by decide +kernel
def f12_standing_b21  (a1 : Int32) (s0 : Int32) (m : lu_M) : Option (Int32 × lu_M) :=
  some (s0, m)
set_option maxRecDepth 20000 in
theorem w12_standing_b21  {G : lu_G} {ρ : Nat → Nat} {a1 : Int32}  (X : lu_X G RX12 cX12_standing 2 3 66) (hret : (lu_me G).sig.returnType = (some .int))   : ∀ (s0 : Int32) (m : lu_M), lu_Ab lu_TM G (lu_Q lu_TM G ρ lu_RVi lu_sn) (f12_standing_b21 a1 s0 m) 21 [] [.int s0] ρ 0 0 [] m := by
  intro s0 m
  unfold f12_standing_b21
  exact lu_iret X hret dX12_standing_21
def f12_standing (a1 : Int32) (m : lu_M) : Option (Int32 × lu_M) :=
  lu_bi (f12_in a1.toInt64 (0 : Int64) (4 : Int64) m) fun x1 m2 =>
  if x1 = 0 then (f12_standing_b21 a1 (-1 : Int32) m2)
  else (lu_bi (f12_those a1 m2) fun x3 m4 =>
  f12_standing_b21 a1 x3 m4)
set_option maxRecDepth 20000 in
theorem c12_standing (l : Launch)   (a1 : Int32) : lu_C lu_TM l yX12_standing cX12_standing 2 (some .int) 3 66 (fun ρ sa => [.ref (ρ 0), .int a1]) (f12_standing a1) lu_RVi lu_sn := by
  refine lu_met (cls := RX12) rfl (by decide +kernel) (fun _ _ => Nat.le_of_ble_eq_true rfl) ?_
  intro G ρ m hl X hret
  subst hl
  change lu_Ab lu_TM G (lu_Q lu_TM G ρ lu_RVi lu_sn) (f12_standing a1 m) 0 [(0, .ref (ρ 0)), (1, .int a1)] [] ρ 0 0 [] m
  unfold f12_standing
  refine lu_iload_n X dX12_standing_0 (pc2 := 1) rfl rfl 1 rfl ?_
  refine lu_i2l X dX12_standing_1 (pc2 := 2) rfl ?_
  refine lu_lconst (v := (0 : Int64)) X dX12_standing_2 (pc2 := 3) rfl (by decide) ?_
  refine lu_ldc2 X q1382 dX12_standing_3 (pc2 := 6) rfl ?_
  refine lu_invSi X (c12_in _ a1.toInt64 (0 : Int64) (4 : Int64)) rfl q1261 mvS_12_in rfl rfl (Nat.le_of_ble_eq_true rfl) (Nat.le_of_ble_eq_true rfl) (Nat.le_of_ble_eq_true rfl) ⟨Nat.zero_le _, Nat.zero_le _⟩ dX12_standing_6 (pc2 := 9) rfl rfl (fun x1 m2 => ?_)
  refine lu_if_eq (tgt := 20) X dX12_standing_9 (pc2 := 12) rfl (by decide) (fun _ => ?_) (fun _ => ?_)
  · refine lu_iconst X dX12_standing_20 (pc2 := 21) rfl ic_m1 ?_
    exact lu_sub [] rfl (w12_standing_b21 X hret (-1 : Int32) m2)
  · refine lu_aload_n X dX12_standing_12 (pc2 := 13) rfl rfl 0 rfl ?_
    refine lu_iload_n X dX12_standing_13 (pc2 := 14) rfl rfl 1 rfl ?_
    refine lu_invVi X (c12_those _ a1) rfl q1383 mvV_12_those kM_0 lM_0 (by decide) ⟨_, rfl, rfl⟩ rfl rfl (Nat.le_of_ble_eq_true rfl) (Nat.le_of_ble_eq_true rfl) (Nat.le_of_ble_eq_true rfl) ⟨Nat.zero_le _, Nat.zero_le _⟩ dX12_standing_14 (pc2 := 17) rfl rfl (fun x3 m4 => ?_)
    refine lu_goto (tgt := 21) X dX12_standing_17 (by decide) ?_
    exact lu_sub [] rfl (w12_standing_b21 X hret x3 m4)

theorem dX12_rest_0 : decode cX12_rest 0 = .ok (.iconst 0, 1) := by decide +kernel
theorem dX12_rest_1 : decode cX12_rest 1 = .ok (.istore_n 2, 1) := by decide +kernel
theorem dX12_rest_2 : decode cX12_rest 2 = .ok (.iconst 0, 1) := by decide +kernel
theorem dX12_rest_3 : decode cX12_rest 3 = .ok (.istore_n 3, 1) := by decide +kernel
theorem dX12_rest_4 : decode cX12_rest 4 = .ok (.iload_n 3, 1) := by decide +kernel
theorem dX12_rest_5 : decode cX12_rest 5 = .ok (.iload_n 1, 1) := by decide +kernel
theorem dX12_rest_6 : decode cX12_rest 6 = .ok (.if_icmp .ge 24, 3) := by decide +kernel
theorem dX12_rest_9 : decode cX12_rest 9 = .ok (.aload_n 0, 1) := by decide +kernel
theorem dX12_rest_10 : decode cX12_rest 10 = .ok (.invokevirtual 124, 3) := by decide +kernel
theorem dX12_rest_13 : decode cX12_rest 13 = .ok (.ifCond .ne 17, 3) := by decide +kernel
theorem dX12_rest_16 : decode cX12_rest 16 = .ok (.iload_n 2, 1) := by decide +kernel
theorem dX12_rest_17 : decode cX12_rest 17 = .ok (.aload_n 0, 1) := by decide +kernel
theorem dX12_rest_18 : decode cX12_rest 18 = .ok (.iconst 0, 1) := by decide +kernel
theorem dX12_rest_19 : decode cX12_rest 19 = .ok (.invokevirtual 146, 3) := by decide +kernel
theorem dX12_rest_22 : decode cX12_rest 22 = .ok (.iadd, 1) := by decide +kernel
theorem dX12_rest_23 : decode cX12_rest 23 = .ok (.istore_n 2, 1) := by decide +kernel
theorem dX12_rest_24 : decode cX12_rest 24 = .ok (.iinc 3 1, 3) := by decide +kernel
theorem dX12_rest_27 : decode cX12_rest 27 = .ok (.goto (-23), 3) := by decide +kernel
theorem dX12_rest_30 : decode cX12_rest 30 = .ok (.iload_n 2, 1) := by decide +kernel
theorem dX12_rest_31 : decode cX12_rest 31 = .ok (.ireturn, 1) := by decide +kernel
def f12_rest_b4B (K30 : Int32 → lu_M → Option (Int32 × lu_M)) (rec : Int32 → Int32 → lu_M → Option (Int32 × lu_M)) (a1 : Int32) (v2 : Int32) (v3 : Int32) (m : lu_M) : Option (Int32 × lu_M) :=
  if a1 ≤ v3 then (K30 v2 m)
  else (lu_bi (f12_isOver m) fun x1 m2 =>
  if x1 = 0 then (lu_bi (f12_goes (0 : Int32) m2) fun x3 m4 =>
  lu_nm ((v2 + x3)) fun x5 =>
  rec x5 (v3 + (1 : Int32)) m4)
  else (K30 v2 m2))
def f12_rest_b4 (K30 : Int32 → lu_M → Option (Int32 × lu_M)) (a1 : Int32) : Nat → Int32 → Int32 → lu_M → Option (Int32 × lu_M)
  | 0, _, _, _ => none
  | n + 1, v2, v3, m => f12_rest_b4B K30 (f12_rest_b4 K30 a1 n) a1 v2 v3 m
set_option maxRecDepth 20000 in
theorem w12_rest_b4B  {G : lu_G} {ρ : Nat → Nat} {a1 : Int32} {K30 : Int32 → lu_M → Option (Int32 × lu_M)} {rec : Int32 → Int32 → lu_M → Option (Int32 × lu_M)} (X : lu_X G RX12 cX12_rest 4 7 168) (hret : (lu_me G).sig.returnType = (some .int))  (hK30 : ∀ (v2 : Int32) (m : lu_M), lu_Ab lu_TM G (lu_Q lu_TM G ρ lu_RVi lu_sn) (K30 v2 m) 30 [(2, .int v2)] [] ρ 0 0 [] m) (hrec : ∀ (v2 : Int32) (v3 : Int32) (m : lu_M), lu_Ab lu_TM G (lu_Q lu_TM G ρ lu_RVi lu_sn) (rec v2 v3 m) 4 [(0, .ref (ρ 0)), (1, .int a1), (2, .int v2), (3, .int v3)] [] ρ 0 0 [] m) : ∀ (v2 : Int32) (v3 : Int32) (m : lu_M), lu_Ab lu_TM G (lu_Q lu_TM G ρ lu_RVi lu_sn) (f12_rest_b4B K30 rec a1 v2 v3 m) 4 [(0, .ref (ρ 0)), (1, .int a1), (2, .int v2), (3, .int v3)] [] ρ 0 0 [] m := by
  intro v2 v3 m
  unfold f12_rest_b4B
  refine lu_iload_n X dX12_rest_4 (pc2 := 5) rfl rfl 3 rfl ?_
  refine lu_iload_n X dX12_rest_5 (pc2 := 6) rfl rfl 1 rfl ?_
  refine lu_icmp_ge (tgt := 30) X dX12_rest_6 (pc2 := 9) rfl (by decide) (fun _ => ?_) (fun _ => ?_)
  · exact lu_sub [2] rfl (hK30 v2 m)
  · refine lu_aload_n X dX12_rest_9 (pc2 := 10) rfl rfl 0 rfl ?_
    refine lu_invVi X (c12_isOver _) rfl q1362 mvV_12_isOver kM_0 lM_0 (by decide) ⟨_, rfl, rfl⟩ rfl rfl (Nat.le_of_ble_eq_true rfl) (Nat.le_of_ble_eq_true rfl) (Nat.le_of_ble_eq_true rfl) ⟨Nat.zero_le _, Nat.zero_le _⟩ dX12_rest_10 (pc2 := 13) rfl rfl (fun x1 m2 => ?_)
    refine lu_if_ne (tgt := 30) X dX12_rest_13 (pc2 := 16) rfl (by decide) (fun _ => ?_) (fun _ => ?_)
    · exact lu_sub [2] rfl (hK30 v2 m2)
    · refine lu_iload_n X dX12_rest_16 (pc2 := 17) rfl rfl 2 rfl ?_
      refine lu_aload_n X dX12_rest_17 (pc2 := 18) rfl rfl 0 rfl ?_
      refine lu_iconst X dX12_rest_18 (pc2 := 19) rfl ic_0 ?_
      refine lu_invVi X (c12_goes _ (0 : Int32)) rfl q1370 mvV_12_goes kM_0 lM_0 (by decide) ⟨_, rfl, rfl⟩ rfl rfl (Nat.le_of_ble_eq_true rfl) (Nat.le_of_ble_eq_true rfl) (Nat.le_of_ble_eq_true rfl) ⟨Nat.zero_le _, Nat.zero_le _⟩ dX12_rest_19 (pc2 := 22) rfl rfl (fun x3 m4 => ?_)
      refine lu_iadd X dX12_rest_22 (pc2 := 23) rfl ?_
      refine lu_topi (fun x5 => ?_)
      refine lu_istore_n (lv2 := [(2, .int x5), (0, .ref (ρ 0)), (1, .int a1), (3, .int v3)]) X dX12_rest_23 (pc2 := 24) rfl rfl (by decide) rfl ?_
      refine lu_iinc (lv2 := [(3, .int (v3 + (1 : Int32))), (2, .int x5), (0, .ref (ρ 0)), (1, .int a1)]) X dX12_rest_24 (pc2 := 27) rfl 3 rfl (lu_ii _ ic_1) (by decide) rfl ?_
      refine lu_goto (tgt := 4) X dX12_rest_27 (by decide) ?_
      exact lu_sub [2, 3, 1, 0] rfl (hrec x5 (v3 + (1 : Int32)) m4)
theorem w12_rest_b4  {G : lu_G} {ρ : Nat → Nat} {a1 : Int32} {K30 : Int32 → lu_M → Option (Int32 × lu_M)} (X : lu_X G RX12 cX12_rest 4 7 168) (hret : (lu_me G).sig.returnType = (some .int))  (hK30 : ∀ (v2 : Int32) (m : lu_M), lu_Ab lu_TM G (lu_Q lu_TM G ρ lu_RVi lu_sn) (K30 v2 m) 30 [(2, .int v2)] [] ρ 0 0 [] m) : ∀ (n : Nat) (v2 : Int32) (v3 : Int32) (m : lu_M), lu_Ab lu_TM G (lu_Q lu_TM G ρ lu_RVi lu_sn) (f12_rest_b4 K30 a1 n v2 v3 m) 4 [(0, .ref (ρ 0)), (1, .int a1), (2, .int v2), (3, .int v3)] [] ρ 0 0 [] m := by
  intro n
  induction n with
  | zero => intro v2 v3 m; exact lu_none
  | succ n ih => intro v2 v3 m; exact w12_rest_b4B X hret hK30 ih v2 v3 m
def f12_rest_b30  (a1 : Int32) (v2 : Int32) (m : lu_M) : Option (Int32 × lu_M) :=
  some (v2, m)
set_option maxRecDepth 20000 in
theorem w12_rest_b30  {G : lu_G} {ρ : Nat → Nat} {a1 : Int32}  (X : lu_X G RX12 cX12_rest 4 7 168) (hret : (lu_me G).sig.returnType = (some .int))   : ∀ (v2 : Int32) (m : lu_M), lu_Ab lu_TM G (lu_Q lu_TM G ρ lu_RVi lu_sn) (f12_rest_b30 a1 v2 m) 30 [(2, .int v2)] [] ρ 0 0 [] m := by
  intro v2 m
  unfold f12_rest_b30
  refine lu_iload_n X dX12_rest_30 (pc2 := 31) rfl rfl 0 rfl ?_
  exact lu_iret X hret dX12_rest_31
def f12_rest (a1 : Int32) (m : lu_M) : Option (Int32 × lu_M) :=
  f12_rest_b4 (f12_rest_b30 a1) a1 lu_fu (0 : Int32) (0 : Int32) m
set_option maxRecDepth 20000 in
theorem c12_rest (l : Launch)   (a1 : Int32) : lu_C lu_TM l yX12_rest cX12_rest 4 (some .int) 7 168 (fun ρ sa => [.ref (ρ 0), .int a1]) (f12_rest a1) lu_RVi lu_sn := by
  refine lu_met (cls := RX12) rfl (by decide +kernel) (fun _ _ => Nat.le_of_ble_eq_true rfl) ?_
  intro G ρ m hl X hret
  subst hl
  change lu_Ab lu_TM G (lu_Q lu_TM G ρ lu_RVi lu_sn) (f12_rest a1 m) 0 [(0, .ref (ρ 0)), (1, .int a1)] [] ρ 0 0 [] m
  unfold f12_rest
  refine lu_iconst X dX12_rest_0 (pc2 := 1) rfl ic_0 ?_
  refine lu_istore_n (lv2 := [(2, .int (0 : Int32)), (0, .ref (ρ 0)), (1, .int a1)]) X dX12_rest_1 (pc2 := 2) rfl rfl (by decide) rfl ?_
  refine lu_iconst X dX12_rest_2 (pc2 := 3) rfl ic_0 ?_
  refine lu_istore_n (lv2 := [(3, .int (0 : Int32)), (2, .int (0 : Int32)), (0, .ref (ρ 0)), (1, .int a1)]) X dX12_rest_3 (pc2 := 4) rfl rfl (by decide) rfl ?_
  exact lu_sub [2, 3, 1, 0] rfl (w12_rest_b4 X hret (w12_rest_b30 X hret) lu_fu (0 : Int32) (0 : Int32) m)

theorem dX12_leaves_0 : decode cX12_leaves 0 = .ok (.aload_n 0, 1) := by decide +kernel
theorem dX12_leaves_1 : decode cX12_leaves 1 = .ok (.iload_n 1, 1) := by decide +kernel
theorem dX12_leaves_2 : decode cX12_leaves 2 = .ok (.invokevirtual 96, 3) := by decide +kernel
theorem dX12_leaves_5 : decode cX12_leaves 5 = .ok (.ifCond .ne 5, 3) := by decide +kernel
theorem dX12_leaves_8 : decode cX12_leaves 8 = .ok (.iconst (-1), 1) := by decide +kernel
theorem dX12_leaves_9 : decode cX12_leaves 9 = .ok (.ireturn, 1) := by decide +kernel
theorem dX12_leaves_10 : decode cX12_leaves 10 = .ok (.aload_n 0, 1) := by decide +kernel
theorem dX12_leaves_11 : decode cX12_leaves 11 = .ok (.invokevirtual 154, 3) := by decide +kernel
theorem dX12_leaves_14 : decode cX12_leaves 14 = .ok (.aload_n 0, 1) := by decide +kernel
theorem dX12_leaves_15 : decode cX12_leaves 15 = .ok (.bipush 16, 2) := by decide +kernel
theorem dX12_leaves_17 : decode cX12_leaves 17 = .ok (.invokevirtual 157, 3) := by decide +kernel
theorem dX12_leaves_20 : decode cX12_leaves 20 = .ok (.istore_n 2, 1) := by decide +kernel
theorem dX12_leaves_21 : decode cX12_leaves 21 = .ok (.aload_n 0, 1) := by decide +kernel
theorem dX12_leaves_22 : decode cX12_leaves 22 = .ok (.iload_n 1, 1) := by decide +kernel
theorem dX12_leaves_23 : decode cX12_leaves 23 = .ok (.invokevirtual 99, 3) := by decide +kernel
theorem dX12_leaves_26 : decode cX12_leaves 26 = .ok (.istore_n 3, 1) := by decide +kernel
theorem dX12_leaves_27 : decode cX12_leaves 27 = .ok (.aload_n 0, 1) := by decide +kernel
theorem dX12_leaves_28 : decode cX12_leaves 28 = .ok (.invokevirtual 160, 3) := by decide +kernel
theorem dX12_leaves_31 : decode cX12_leaves 31 = .ok (.iload_n 3, 1) := by decide +kernel
theorem dX12_leaves_32 : decode cX12_leaves 32 = .ok (.ireturn, 1) := by decide +kernel
def f12_leaves (a1 : Int32) (m : lu_M) : Option (Int32 × lu_M) :=
  lu_bi (f12_isPerson a1 m) fun x1 m2 =>
  if x1 = 0 then (some ((-1 : Int32), m2))
  else (lu_bv (f12_puts m2) fun m3 =>
  lu_bi (f12_rest (16 : Int32) m3) fun x4 m5 =>
  lu_bi (f12_standWeight a1 m5) fun x6 m7 =>
  lu_bv (f12_putsBack m7) fun m8 =>
  some (x6, m8))
set_option maxRecDepth 20000 in
theorem c12_leaves (l : Launch)   (a1 : Int32) : lu_C lu_TM l yX12_leaves cX12_leaves 4 (some .int) 8 191 (fun ρ sa => [.ref (ρ 0), .int a1]) (f12_leaves a1) lu_RVi lu_sn := by
  refine lu_met (cls := RX12) rfl (by decide +kernel) (fun _ _ => Nat.le_of_ble_eq_true rfl) ?_
  intro G ρ m hl X hret
  subst hl
  change lu_Ab lu_TM G (lu_Q lu_TM G ρ lu_RVi lu_sn) (f12_leaves a1 m) 0 [(0, .ref (ρ 0)), (1, .int a1)] [] ρ 0 0 [] m
  unfold f12_leaves
  refine lu_aload_n X dX12_leaves_0 (pc2 := 1) rfl rfl 0 rfl ?_
  refine lu_iload_n X dX12_leaves_1 (pc2 := 2) rfl rfl 1 rfl ?_
  refine lu_invVi X (c12_isPerson _ a1) rfl q1272 mvV_12_isPerson kM_0 lM_0 (by decide) ⟨_, rfl, rfl⟩ rfl rfl (Nat.le_of_ble_eq_true rfl) (Nat.le_of_ble_eq_true rfl) (Nat.le_of_ble_eq_true rfl) ⟨Nat.zero_le _, Nat.zero_le _⟩ dX12_leaves_2 (pc2 := 5) rfl rfl (fun x1 m2 => ?_)
  refine lu_if_ne (tgt := 10) X dX12_leaves_5 (pc2 := 8) rfl (by decide) (fun _ => ?_) (fun _ => ?_)
  · refine lu_aload_n X dX12_leaves_10 (pc2 := 11) rfl rfl 0 rfl ?_
    refine lu_invVv X (c12_puts _) rfl q1391 mvV_12_puts kM_0 lM_0 (by decide) ⟨_, rfl, rfl⟩ rfl rfl (Nat.le_of_ble_eq_true rfl) (Nat.le_of_ble_eq_true rfl) (Nat.le_of_ble_eq_true rfl) ⟨Nat.zero_le _, Nat.zero_le _⟩ dX12_leaves_11 (pc2 := 14) rfl rfl (fun m3 => ?_)
    refine lu_aload_n X dX12_leaves_14 (pc2 := 15) rfl rfl 0 rfl ?_
    refine lu_bipush X dX12_leaves_15 (pc2 := 17) rfl bp_16 ?_
    refine lu_invVi X (c12_rest _ (16 : Int32)) rfl q1395 mvV_12_rest kM_0 lM_0 (by decide) ⟨_, rfl, rfl⟩ rfl rfl (Nat.le_of_ble_eq_true rfl) (Nat.le_of_ble_eq_true rfl) (Nat.le_of_ble_eq_true rfl) ⟨Nat.zero_le _, Nat.zero_le _⟩ dX12_leaves_17 (pc2 := 20) rfl rfl (fun x4 m5 => ?_)
    refine lu_istore_n (lv2 := [(2, .int x4), (0, .ref (ρ 0)), (1, .int a1)]) X dX12_leaves_20 (pc2 := 21) rfl rfl (by decide) rfl ?_
    refine lu_aload_n X dX12_leaves_21 (pc2 := 22) rfl rfl 1 rfl ?_
    refine lu_iload_n X dX12_leaves_22 (pc2 := 23) rfl rfl 2 rfl ?_
    refine lu_invVi X (c12_standWeight _ a1) rfl q1280 mvV_12_standWeight kM_0 lM_0 (by decide) ⟨_, rfl, rfl⟩ rfl rfl (Nat.le_of_ble_eq_true rfl) (Nat.le_of_ble_eq_true rfl) (Nat.le_of_ble_eq_true rfl) ⟨Nat.zero_le _, Nat.zero_le _⟩ dX12_leaves_23 (pc2 := 26) rfl rfl (fun x6 m7 => ?_)
    refine lu_istore_n (lv2 := [(3, .int x6), (2, .int x4), (0, .ref (ρ 0)), (1, .int a1)]) X dX12_leaves_26 (pc2 := 27) rfl rfl (by decide) rfl ?_
    refine lu_aload_n X dX12_leaves_27 (pc2 := 28) rfl rfl 2 rfl ?_
    refine lu_invVv X (c12_putsBack _) rfl q1399 mvV_12_putsBack kM_0 lM_0 (by decide) ⟨_, rfl, rfl⟩ rfl rfl (Nat.le_of_ble_eq_true rfl) (Nat.le_of_ble_eq_true rfl) (Nat.le_of_ble_eq_true rfl) ⟨Nat.zero_le _, Nat.zero_le _⟩ dX12_leaves_28 (pc2 := 31) rfl rfl (fun m8 => ?_)
    refine lu_iload_n X dX12_leaves_31 (pc2 := 32) rfl rfl 0 rfl ?_
    exact lu_iret X hret dX12_leaves_32
  · refine lu_iconst X dX12_leaves_8 (pc2 := 9) rfl ic_m1 ?_
    exact lu_iret X hret dX12_leaves_9

theorem dX12_on_0 : decode cX12_on 0 = .ok (.iload_n 1, 1) := by decide +kernel
theorem dX12_on_1 : decode cX12_on 1 = .ok (.i2l, 1) := by decide +kernel
theorem dX12_on_2 : decode cX12_on 2 = .ok (.lconst 0, 1) := by decide +kernel
theorem dX12_on_3 : decode cX12_on 3 = .ok (.ldc2_w 122, 3) := by decide +kernel
theorem dX12_on_6 : decode cX12_on 6 = .ok (.invokestatic 64, 3) := by decide +kernel
theorem dX12_on_9 : decode cX12_on 9 = .ok (.ifCond .ne 5, 3) := by decide +kernel
theorem dX12_on_12 : decode cX12_on 12 = .ok (.iconst (-1), 1) := by decide +kernel
theorem dX12_on_13 : decode cX12_on 13 = .ok (.ireturn, 1) := by decide +kernel
theorem dX12_on_14 : decode cX12_on 14 = .ok (.aload_n 0, 1) := by decide +kernel
theorem dX12_on_15 : decode cX12_on 15 = .ok (.invokevirtual 154, 3) := by decide +kernel
theorem dX12_on_18 : decode cX12_on 18 = .ok (.aload_n 0, 1) := by decide +kernel
theorem dX12_on_19 : decode cX12_on 19 = .ok (.iload_n 1, 1) := by decide +kernel
theorem dX12_on_20 : decode cX12_on 20 = .ok (.invokevirtual 157, 3) := by decide +kernel
theorem dX12_on_23 : decode cX12_on 23 = .ok (.istore_n 2, 1) := by decide +kernel
theorem dX12_on_24 : decode cX12_on 24 = .ok (.aload_n 0, 1) := by decide +kernel
theorem dX12_on_25 : decode cX12_on 25 = .ok (.invokevirtual 160, 3) := by decide +kernel
theorem dX12_on_28 : decode cX12_on 28 = .ok (.iload_n 2, 1) := by decide +kernel
theorem dX12_on_29 : decode cX12_on 29 = .ok (.ireturn, 1) := by decide +kernel
def f12_on (a1 : Int32) (m : lu_M) : Option (Int32 × lu_M) :=
  lu_bi (f12_in a1.toInt64 (0 : Int64) (16 : Int64) m) fun x1 m2 =>
  if x1 = 0 then (some ((-1 : Int32), m2))
  else (lu_bv (f12_puts m2) fun m3 =>
  lu_bi (f12_rest a1 m3) fun x4 m5 =>
  lu_bv (f12_putsBack m5) fun m6 =>
  some (x4, m6))
set_option maxRecDepth 20000 in
theorem c12_on (l : Launch)   (a1 : Int32) : lu_C lu_TM l yX12_on cX12_on 3 (some .int) 8 191 (fun ρ sa => [.ref (ρ 0), .int a1]) (f12_on a1) lu_RVi lu_sn := by
  refine lu_met (cls := RX12) rfl (by decide +kernel) (fun _ _ => Nat.le_of_ble_eq_true rfl) ?_
  intro G ρ m hl X hret
  subst hl
  change lu_Ab lu_TM G (lu_Q lu_TM G ρ lu_RVi lu_sn) (f12_on a1 m) 0 [(0, .ref (ρ 0)), (1, .int a1)] [] ρ 0 0 [] m
  unfold f12_on
  refine lu_iload_n X dX12_on_0 (pc2 := 1) rfl rfl 1 rfl ?_
  refine lu_i2l X dX12_on_1 (pc2 := 2) rfl ?_
  refine lu_lconst (v := (0 : Int64)) X dX12_on_2 (pc2 := 3) rfl (by decide) ?_
  refine lu_ldc2 X q1353 dX12_on_3 (pc2 := 6) rfl ?_
  refine lu_invSi X (c12_in _ a1.toInt64 (0 : Int64) (16 : Int64)) rfl q1261 mvS_12_in rfl rfl (Nat.le_of_ble_eq_true rfl) (Nat.le_of_ble_eq_true rfl) (Nat.le_of_ble_eq_true rfl) ⟨Nat.zero_le _, Nat.zero_le _⟩ dX12_on_6 (pc2 := 9) rfl rfl (fun x1 m2 => ?_)
  refine lu_if_ne (tgt := 14) X dX12_on_9 (pc2 := 12) rfl (by decide) (fun _ => ?_) (fun _ => ?_)
  · refine lu_aload_n X dX12_on_14 (pc2 := 15) rfl rfl 0 rfl ?_
    refine lu_invVv X (c12_puts _) rfl q1391 mvV_12_puts kM_0 lM_0 (by decide) ⟨_, rfl, rfl⟩ rfl rfl (Nat.le_of_ble_eq_true rfl) (Nat.le_of_ble_eq_true rfl) (Nat.le_of_ble_eq_true rfl) ⟨Nat.zero_le _, Nat.zero_le _⟩ dX12_on_15 (pc2 := 18) rfl rfl (fun m3 => ?_)
    refine lu_aload_n X dX12_on_18 (pc2 := 19) rfl rfl 0 rfl ?_
    refine lu_iload_n X dX12_on_19 (pc2 := 20) rfl rfl 1 rfl ?_
    refine lu_invVi X (c12_rest _ a1) rfl q1395 mvV_12_rest kM_0 lM_0 (by decide) ⟨_, rfl, rfl⟩ rfl rfl (Nat.le_of_ble_eq_true rfl) (Nat.le_of_ble_eq_true rfl) (Nat.le_of_ble_eq_true rfl) ⟨Nat.zero_le _, Nat.zero_le _⟩ dX12_on_20 (pc2 := 23) rfl rfl (fun x4 m5 => ?_)
    refine lu_istore_n (lv2 := [(2, .int x4), (0, .ref (ρ 0)), (1, .int a1)]) X dX12_on_23 (pc2 := 24) rfl rfl (by decide) rfl ?_
    refine lu_aload_n X dX12_on_24 (pc2 := 25) rfl rfl 1 rfl ?_
    refine lu_invVv X (c12_putsBack _) rfl q1399 mvV_12_putsBack kM_0 lM_0 (by decide) ⟨_, rfl, rfl⟩ rfl rfl (Nat.le_of_ble_eq_true rfl) (Nat.le_of_ble_eq_true rfl) (Nat.le_of_ble_eq_true rfl) ⟨Nat.zero_le _, Nat.zero_le _⟩ dX12_on_25 (pc2 := 28) rfl rfl (fun m6 => ?_)
    refine lu_iload_n X dX12_on_28 (pc2 := 29) rfl rfl 0 rfl ?_
    exact lu_iret X hret dX12_on_29
  · refine lu_iconst X dX12_on_12 (pc2 := 13) rfl ic_m1 ?_
    exact lu_iret X hret dX12_on_13

theorem dX12_isGone_0 : decode cX12_isGone 0 = .ok (.aload_n 0, 1) := by decide +kernel
theorem dX12_isGone_1 : decode cX12_isGone 1 = .ok (.iload_n 1, 1) := by decide +kernel
theorem dX12_isGone_2 : decode cX12_isGone 2 = .ok (.iconst 4, 1) := by decide +kernel
theorem dX12_isGone_3 : decode cX12_isGone 3 = .ok (.invokevirtual 90, 3) := by decide +kernel
theorem dX12_isGone_6 : decode cX12_isGone 6 = .ok (.iconst 2, 1) := by decide +kernel
theorem dX12_isGone_7 : decode cX12_isGone 7 = .ok (.if_icmp .eq 13, 3) := by decide +kernel
theorem dX12_isGone_10 : decode cX12_isGone 10 = .ok (.aload_n 0, 1) := by decide +kernel
theorem dX12_isGone_11 : decode cX12_isGone 11 = .ok (.iload_n 1, 1) := by decide +kernel
theorem dX12_isGone_12 : decode cX12_isGone 12 = .ok (.iconst 4, 1) := by decide +kernel
theorem dX12_isGone_13 : decode cX12_isGone 13 = .ok (.invokevirtual 90, 3) := by decide +kernel
theorem dX12_isGone_16 : decode cX12_isGone 16 = .ok (.iconst 3, 1) := by decide +kernel
theorem dX12_isGone_17 : decode cX12_isGone 17 = .ok (.if_icmp .ne 7, 3) := by decide +kernel
theorem dX12_isGone_20 : decode cX12_isGone 20 = .ok (.iconst 1, 1) := by decide +kernel
theorem dX12_isGone_21 : decode cX12_isGone 21 = .ok (.goto 4, 3) := by decide +kernel
theorem dX12_isGone_24 : decode cX12_isGone 24 = .ok (.iconst 0, 1) := by decide +kernel
theorem dX12_isGone_25 : decode cX12_isGone 25 = .ok (.ireturn, 1) := by decide +kernel
def f12_isGone_b25  (a1 : Int32) (s0 : Int32) (m : lu_M) : Option (Int32 × lu_M) :=
  lu_gd (decide (s0 = 0 ∨ s0 = 1)) (some (s0, m))
set_option maxRecDepth 20000 in
theorem w12_isGone_b25  {G : lu_G} {ρ : Nat → Nat} {a1 : Int32}  (X : lu_X G RX12 cX12_isGone 2 2 43) (hret : (lu_me G).sig.returnType = (some .boolean))   : ∀ (s0 : Int32) (m : lu_M), lu_Ab lu_TM G (lu_Q lu_TM G ρ lu_RVi lu_sn) (f12_isGone_b25 a1 s0 m) 25 [] [.int s0] ρ 0 0 [] m := by
  intro s0 m
  unfold f12_isGone_b25
  exact lu_zretG X hret dX12_isGone_25
def f12_isGone_b20  (a1 : Int32)  (m : lu_M) : Option (Int32 × lu_M) :=
  f12_isGone_b25 a1 (1 : Int32) m
set_option maxRecDepth 20000 in
theorem w12_isGone_b20  {G : lu_G} {ρ : Nat → Nat} {a1 : Int32}  (X : lu_X G RX12 cX12_isGone 2 2 43) (hret : (lu_me G).sig.returnType = (some .boolean))   : ∀  (m : lu_M), lu_Ab lu_TM G (lu_Q lu_TM G ρ lu_RVi lu_sn) (f12_isGone_b20 a1 m) 20 [] [] ρ 0 0 [] m := by
  intro  m
  unfold f12_isGone_b20
  refine lu_iconst X dX12_isGone_20 (pc2 := 21) rfl ic_1 ?_
  refine lu_goto (tgt := 25) X dX12_isGone_21 (by decide) ?_
  exact w12_isGone_b25 X hret (1 : Int32) m
def f12_isGone (a1 : Int32) (m : lu_M) : Option (Int32 × lu_M) :=
  lu_bi (f12_deedIs a1 (4 : Int32) m) fun x1 m2 =>
  if x1 = (2 : Int32) then (f12_isGone_b20 a1 m2)
  else (lu_bi (f12_deedIs a1 (4 : Int32) m2) fun x3 m4 =>
  if x3 = (3 : Int32) then (f12_isGone_b20 a1 m4)
  else (f12_isGone_b25 a1 (0 : Int32) m4))
set_option maxRecDepth 20000 in
theorem c12_isGone (l : Launch)   (a1 : Int32) : lu_C lu_TM l yX12_isGone cX12_isGone 2 (some .boolean) 2 43 (fun ρ sa => [.ref (ρ 0), .int a1]) (f12_isGone a1) lu_RVi lu_sn := by
  refine lu_met (cls := RX12) rfl (by decide +kernel) (fun _ _ => Nat.le_of_ble_eq_true rfl) ?_
  intro G ρ m hl X hret
  subst hl
  change lu_Ab lu_TM G (lu_Q lu_TM G ρ lu_RVi lu_sn) (f12_isGone a1 m) 0 [(0, .ref (ρ 0)), (1, .int a1)] [] ρ 0 0 [] m
  unfold f12_isGone
  refine lu_aload_n X dX12_isGone_0 (pc2 := 1) rfl rfl 0 rfl ?_
  refine lu_iload_n X dX12_isGone_1 (pc2 := 2) rfl rfl 1 rfl ?_
  refine lu_iconst X dX12_isGone_2 (pc2 := 3) rfl ic_4 ?_
  refine lu_invVi X (c12_deedIs _ a1 (4 : Int32)) rfl q1284 mvV_12_deedIs kM_0 lM_0 (by decide) ⟨_, rfl, rfl⟩ rfl rfl (Nat.le_of_ble_eq_true rfl) (Nat.le_of_ble_eq_true rfl) (Nat.le_of_ble_eq_true rfl) ⟨Nat.zero_le _, Nat.zero_le _⟩ dX12_isGone_3 (pc2 := 6) rfl rfl (fun x1 m2 => ?_)
  refine lu_iconst X dX12_isGone_6 (pc2 := 7) rfl ic_2 ?_
  refine lu_icmp_eq (tgt := 20) X dX12_isGone_7 (pc2 := 10) rfl (by decide) (fun _ => ?_) (fun _ => ?_)
  · exact lu_sub [] rfl (w12_isGone_b20 X hret m2)
  · refine lu_aload_n X dX12_isGone_10 (pc2 := 11) rfl rfl 0 rfl ?_
    refine lu_iload_n X dX12_isGone_11 (pc2 := 12) rfl rfl 1 rfl ?_
    refine lu_iconst X dX12_isGone_12 (pc2 := 13) rfl ic_4 ?_
    refine lu_invVi X (c12_deedIs _ a1 (4 : Int32)) rfl q1284 mvV_12_deedIs kM_0 lM_0 (by decide) ⟨_, rfl, rfl⟩ rfl rfl (Nat.le_of_ble_eq_true rfl) (Nat.le_of_ble_eq_true rfl) (Nat.le_of_ble_eq_true rfl) ⟨Nat.zero_le _, Nat.zero_le _⟩ dX12_isGone_13 (pc2 := 16) rfl rfl (fun x3 m4 => ?_)
    refine lu_iconst X dX12_isGone_16 (pc2 := 17) rfl ic_3 ?_
    refine lu_icmp_ne (tgt := 24) X dX12_isGone_17 (pc2 := 20) rfl (by decide) (fun _ => ?_) (fun _ => ?_)
    · refine lu_iconst X dX12_isGone_24 (pc2 := 25) rfl ic_0 ?_
      exact lu_sub [] rfl (w12_isGone_b25 X hret (0 : Int32) m4)
    · exact lu_sub [] rfl (w12_isGone_b20 X hret m4)

theorem dX12_until_0 : decode cX12_until 0 = .ok (.aload_n 0, 1) := by decide +kernel
theorem dX12_until_1 : decode cX12_until 1 = .ok (.iload_n 1, 1) := by decide +kernel
theorem dX12_until_2 : decode cX12_until 2 = .ok (.invokevirtual 116, 3) := by decide +kernel
theorem dX12_until_5 : decode cX12_until 5 = .ok (.ifCond .ne 5, 3) := by decide +kernel
theorem dX12_until_8 : decode cX12_until 8 = .ok (.iconst (-1), 1) := by decide +kernel
theorem dX12_until_9 : decode cX12_until 9 = .ok (.ireturn, 1) := by decide +kernel
theorem dX12_until_10 : decode cX12_until 10 = .ok (.aload_n 0, 1) := by decide +kernel
theorem dX12_until_11 : decode cX12_until 11 = .ok (.iload_n 1, 1) := by decide +kernel
theorem dX12_until_12 : decode cX12_until 12 = .ok (.invokevirtual 163, 3) := by decide +kernel
theorem dX12_until_15 : decode cX12_until 15 = .ok (.ifCond .eq 6, 3) := by decide +kernel
theorem dX12_until_18 : decode cX12_until 18 = .ok (.bipush (-3), 2) := by decide +kernel
theorem dX12_until_20 : decode cX12_until 20 = .ok (.ireturn, 1) := by decide +kernel
theorem dX12_until_21 : decode cX12_until 21 = .ok (.aload_n 0, 1) := by decide +kernel
theorem dX12_until_22 : decode cX12_until 22 = .ok (.invokevirtual 154, 3) := by decide +kernel
theorem dX12_until_25 : decode cX12_until 25 = .ok (.bipush (-3), 2) := by decide +kernel
theorem dX12_until_27 : decode cX12_until 27 = .ok (.istore_n 2, 1) := by decide +kernel
theorem dX12_until_28 : decode cX12_until 28 = .ok (.iload_n 2, 1) := by decide +kernel
theorem dX12_until_29 : decode cX12_until 29 = .ok (.ifCond .ge 41, 3) := by decide +kernel
theorem dX12_until_32 : decode cX12_until 32 = .ok (.aload_n 0, 1) := by decide +kernel
theorem dX12_until_33 : decode cX12_until 33 = .ok (.invokevirtual 124, 3) := by decide +kernel
theorem dX12_until_36 : decode cX12_until 36 = .ok (.ifCond .ne 34, 3) := by decide +kernel
theorem dX12_until_39 : decode cX12_until 39 = .ok (.aload_n 0, 1) := by decide +kernel
theorem dX12_until_40 : decode cX12_until 40 = .ok (.iconst 0, 1) := by decide +kernel
theorem dX12_until_41 : decode cX12_until 41 = .ok (.invokevirtual 146, 3) := by decide +kernel
theorem dX12_until_44 : decode cX12_until 44 = .ok (.istore_n 3, 1) := by decide +kernel
theorem dX12_until_45 : decode cX12_until 45 = .ok (.aload_n 0, 1) := by decide +kernel
theorem dX12_until_46 : decode cX12_until 46 = .ok (.iload_n 1, 1) := by decide +kernel
theorem dX12_until_47 : decode cX12_until 47 = .ok (.invokevirtual 163, 3) := by decide +kernel
theorem dX12_until_50 : decode cX12_until 50 = .ok (.ifCond .eq 14, 3) := by decide +kernel
theorem dX12_until_53 : decode cX12_until 53 = .ok (.aload_n 0, 1) := by decide +kernel
theorem dX12_until_54 : decode cX12_until 54 = .ok (.getfield 7, 3) := by decide +kernel
theorem dX12_until_57 : decode cX12_until 57 = .ok (.iconst 3, 1) := by decide +kernel
theorem dX12_until_58 : decode cX12_until 58 = .ok (.iaload, 1) := by decide +kernel
theorem dX12_until_59 : decode cX12_until 59 = .ok (.iconst 1, 1) := by decide +kernel
theorem dX12_until_60 : decode cX12_until 60 = .ok (.isub, 1) := by decide +kernel
theorem dX12_until_61 : decode cX12_until 61 = .ok (.goto 5, 3) := by decide +kernel
theorem dX12_until_64 : decode cX12_until 64 = .ok (.bipush (-3), 2) := by decide +kernel
theorem dX12_until_66 : decode cX12_until 66 = .ok (.istore_n 2, 1) := by decide +kernel
theorem dX12_until_67 : decode cX12_until 67 = .ok (.goto (-39), 3) := by decide +kernel
theorem dX12_until_70 : decode cX12_until 70 = .ok (.aload_n 0, 1) := by decide +kernel
theorem dX12_until_71 : decode cX12_until 71 = .ok (.invokevirtual 160, 3) := by decide +kernel
theorem dX12_until_74 : decode cX12_until 74 = .ok (.iload_n 2, 1) := by decide +kernel
theorem dX12_until_75 : decode cX12_until 75 = .ok (.ireturn, 1) := by decide +kernel
def f12_until_b66 (K28 : Int32 → lu_M → Option (Int32 × lu_M)) (K70 : Int32 → lu_M → Option (Int32 × lu_M)) (a1 : Int32) (s0 : Int32) (m : lu_M) : Option (Int32 × lu_M) :=
  K28 s0 m
set_option maxRecDepth 20000 in
theorem w12_until_b66  {G : lu_G} {ρ : Nat → Nat} {a1 : Int32} {K28 : Int32 → lu_M → Option (Int32 × lu_M)} {K70 : Int32 → lu_M → Option (Int32 × lu_M)} (X : lu_X G RX12 cX12_until 4 7 168) (hret : (lu_me G).sig.returnType = (some .int))  (hK28 : ∀ (v2 : Int32) (m : lu_M), lu_Ab lu_TM G (lu_Q lu_TM G ρ lu_RVi lu_sn) (K28 v2 m) 28 [(0, .ref (ρ 0)), (1, .int a1), (2, .int v2)] [] ρ 0 0 [] m) (hK70 : ∀ (v2 : Int32) (m : lu_M), lu_Ab lu_TM G (lu_Q lu_TM G ρ lu_RVi lu_sn) (K70 v2 m) 70 [(0, .ref (ρ 0)), (2, .int v2)] [] ρ 0 0 [] m) : ∀ (s0 : Int32) (m : lu_M), lu_Ab lu_TM G (lu_Q lu_TM G ρ lu_RVi lu_sn) (f12_until_b66 K28 K70 a1 s0 m) 66 [(0, .ref (ρ 0)), (1, .int a1)] [.int s0] ρ 0 0 [] m := by
  intro s0 m
  unfold f12_until_b66
  refine lu_istore_n (lv2 := [(2, .int s0), (0, .ref (ρ 0)), (1, .int a1)]) X dX12_until_66 (pc2 := 67) rfl rfl (by decide) rfl ?_
  refine lu_goto (tgt := 28) X dX12_until_67 (by decide) ?_
  exact lu_sub [1, 2, 0] rfl (hK28 s0 m)
def f12_until_b28B (K70 : Int32 → lu_M → Option (Int32 × lu_M)) (rec : Int32 → lu_M → Option (Int32 × lu_M)) (a1 : Int32) (v2 : Int32) (m : lu_M) : Option (Int32 × lu_M) :=
  if 0 ≤ v2 then (K70 v2 m)
  else (lu_bi (f12_isOver m) fun x6 m7 =>
  if x6 = 0 then (lu_bi (f12_goes (0 : Int32) m7) fun x8 m9 =>
  lu_bi (f12_isGone a1 m9) fun x10 m11 =>
  if x10 = 0 then (f12_until_b66 rec K70 a1 (-3 : Int32) m11)
  else (f12_until_b66 rec K70 a1 ((m11 1 3) - (1 : Int32)) m11))
  else (K70 v2 m7))
def f12_until_b28 (K70 : Int32 → lu_M → Option (Int32 × lu_M)) (a1 : Int32) : Nat → Int32 → lu_M → Option (Int32 × lu_M)
  | 0, _, _ => none
  | n + 1, v2, m => f12_until_b28B K70 (f12_until_b28 K70 a1 n) a1 v2 m
set_option maxRecDepth 20000 in
theorem w12_until_b28B  {G : lu_G} {ρ : Nat → Nat} {a1 : Int32} {K70 : Int32 → lu_M → Option (Int32 × lu_M)} {rec : Int32 → lu_M → Option (Int32 × lu_M)} (X : lu_X G RX12 cX12_until 4 7 168) (hret : (lu_me G).sig.returnType = (some .int))  (hK70 : ∀ (v2 : Int32) (m : lu_M), lu_Ab lu_TM G (lu_Q lu_TM G ρ lu_RVi lu_sn) (K70 v2 m) 70 [(0, .ref (ρ 0)), (2, .int v2)] [] ρ 0 0 [] m) (hrec : ∀ (v2 : Int32) (m : lu_M), lu_Ab lu_TM G (lu_Q lu_TM G ρ lu_RVi lu_sn) (rec v2 m) 28 [(0, .ref (ρ 0)), (1, .int a1), (2, .int v2)] [] ρ 0 0 [] m) : ∀ (v2 : Int32) (m : lu_M), lu_Ab lu_TM G (lu_Q lu_TM G ρ lu_RVi lu_sn) (f12_until_b28B K70 rec a1 v2 m) 28 [(0, .ref (ρ 0)), (1, .int a1), (2, .int v2)] [] ρ 0 0 [] m := by
  intro v2 m
  unfold f12_until_b28B
  refine lu_iload_n X dX12_until_28 (pc2 := 29) rfl rfl 2 rfl ?_
  refine lu_if_ge (tgt := 70) X dX12_until_29 (pc2 := 32) rfl (by decide) (fun _ => ?_) (fun _ => ?_)
  · exact lu_sub [0, 2] rfl (hK70 v2 m)
  · refine lu_aload_n X dX12_until_32 (pc2 := 33) rfl rfl 0 rfl ?_
    refine lu_invVi X (c12_isOver _) rfl q1362 mvV_12_isOver kM_0 lM_0 (by decide) ⟨_, rfl, rfl⟩ rfl rfl (Nat.le_of_ble_eq_true rfl) (Nat.le_of_ble_eq_true rfl) (Nat.le_of_ble_eq_true rfl) ⟨Nat.zero_le _, Nat.zero_le _⟩ dX12_until_33 (pc2 := 36) rfl rfl (fun x6 m7 => ?_)
    refine lu_if_ne (tgt := 70) X dX12_until_36 (pc2 := 39) rfl (by decide) (fun _ => ?_) (fun _ => ?_)
    · exact lu_sub [0, 2] rfl (hK70 v2 m7)
    · refine lu_aload_n X dX12_until_39 (pc2 := 40) rfl rfl 0 rfl ?_
      refine lu_iconst X dX12_until_40 (pc2 := 41) rfl ic_0 ?_
      refine lu_invVi X (c12_goes _ (0 : Int32)) rfl q1370 mvV_12_goes kM_0 lM_0 (by decide) ⟨_, rfl, rfl⟩ rfl rfl (Nat.le_of_ble_eq_true rfl) (Nat.le_of_ble_eq_true rfl) (Nat.le_of_ble_eq_true rfl) ⟨Nat.zero_le _, Nat.zero_le _⟩ dX12_until_41 (pc2 := 44) rfl rfl (fun x8 m9 => ?_)
      refine lu_istore_n (lv2 := [(3, .int x8), (0, .ref (ρ 0)), (1, .int a1), (2, .int v2)]) X dX12_until_44 (pc2 := 45) rfl rfl (by decide) rfl ?_
      refine lu_aload_n X dX12_until_45 (pc2 := 46) rfl rfl 1 rfl ?_
      refine lu_iload_n X dX12_until_46 (pc2 := 47) rfl rfl 2 rfl ?_
      refine lu_invVi X (c12_isGone _ a1) rfl q1411 mvV_12_isGone kM_0 lM_0 (by decide) ⟨_, rfl, rfl⟩ rfl rfl (Nat.le_of_ble_eq_true rfl) (Nat.le_of_ble_eq_true rfl) (Nat.le_of_ble_eq_true rfl) ⟨Nat.zero_le _, Nat.zero_le _⟩ dX12_until_47 (pc2 := 50) rfl rfl (fun x10 m11 => ?_)
      refine lu_if_eq (tgt := 64) X dX12_until_50 (pc2 := 53) rfl (by decide) (fun _ => ?_) (fun _ => ?_)
      · refine lu_bipush X dX12_until_64 (pc2 := 66) rfl bp_m3 ?_
        exact lu_sub [1, 2] rfl (w12_until_b66 X hret hrec hK70 (-3 : Int32) m11)
      · refine lu_aload_n X dX12_until_53 (pc2 := 54) rfl rfl 1 rfl ?_
        refine lu_getr (r2 := 1) X rfl fl12_7 rfl kM_0 lM_0 dX12_until_54 (pc2 := 57) rfl ?_
        refine lu_iconst X dX12_until_57 (pc2 := 58) rfl ic_3 ?_
        refine lu_ialdK (q := 3) X (by decide) kM_1 lM_1 dX12_until_58 (pc2 := 59) rfl ?_
        refine lu_iconst X dX12_until_59 (pc2 := 60) rfl ic_1 ?_
        refine lu_isub X dX12_until_60 (pc2 := 61) rfl ?_
        refine lu_goto (tgt := 66) X dX12_until_61 (by decide) ?_
        exact lu_sub [1, 2] rfl (w12_until_b66 X hret hrec hK70 ((m11 1 3) - (1 : Int32)) m11)
theorem w12_until_b28  {G : lu_G} {ρ : Nat → Nat} {a1 : Int32} {K70 : Int32 → lu_M → Option (Int32 × lu_M)} (X : lu_X G RX12 cX12_until 4 7 168) (hret : (lu_me G).sig.returnType = (some .int))  (hK70 : ∀ (v2 : Int32) (m : lu_M), lu_Ab lu_TM G (lu_Q lu_TM G ρ lu_RVi lu_sn) (K70 v2 m) 70 [(0, .ref (ρ 0)), (2, .int v2)] [] ρ 0 0 [] m) : ∀ (n : Nat) (v2 : Int32) (m : lu_M), lu_Ab lu_TM G (lu_Q lu_TM G ρ lu_RVi lu_sn) (f12_until_b28 K70 a1 n v2 m) 28 [(0, .ref (ρ 0)), (1, .int a1), (2, .int v2)] [] ρ 0 0 [] m := by
  intro n
  induction n with
  | zero => intro v2 m; exact lu_none
  | succ n ih => intro v2 m; exact w12_until_b28B X hret hK70 ih v2 m
def f12_until_b70  (a1 : Int32) (v2 : Int32) (m : lu_M) : Option (Int32 × lu_M) :=
  lu_bv (f12_putsBack m) fun m12 =>
  some (v2, m12)
set_option maxRecDepth 20000 in
theorem w12_until_b70  {G : lu_G} {ρ : Nat → Nat} {a1 : Int32}  (X : lu_X G RX12 cX12_until 4 7 168) (hret : (lu_me G).sig.returnType = (some .int))   : ∀ (v2 : Int32) (m : lu_M), lu_Ab lu_TM G (lu_Q lu_TM G ρ lu_RVi lu_sn) (f12_until_b70 a1 v2 m) 70 [(0, .ref (ρ 0)), (2, .int v2)] [] ρ 0 0 [] m := by
  intro v2 m
  unfold f12_until_b70
  refine lu_aload_n X dX12_until_70 (pc2 := 71) rfl rfl 0 rfl ?_
  refine lu_invVv X (c12_putsBack _) rfl q1399 mvV_12_putsBack kM_0 lM_0 (by decide) ⟨_, rfl, rfl⟩ rfl rfl (Nat.le_of_ble_eq_true rfl) (Nat.le_of_ble_eq_true rfl) (Nat.le_of_ble_eq_true rfl) ⟨Nat.zero_le _, Nat.zero_le _⟩ dX12_until_71 (pc2 := 74) rfl rfl (fun m12 => ?_)
  refine lu_iload_n X dX12_until_74 (pc2 := 75) rfl rfl 1 rfl ?_
  exact lu_iret X hret dX12_until_75
def f12_until (a1 : Int32) (m : lu_M) : Option (Int32 × lu_M) :=
  lu_bi (f12_isDeed a1 m) fun x1 m2 =>
  if x1 = 0 then (some ((-1 : Int32), m2))
  else (lu_bi (f12_isGone a1 m2) fun x3 m4 =>
  if x3 = 0 then (lu_bv (f12_puts m4) fun m5 =>
  f12_until_b28 (f12_until_b70 a1) a1 lu_fu (-3 : Int32) m5)
  else (some ((-3 : Int32), m4)))
set_option maxRecDepth 20000 in
theorem c12_until (l : Launch)   (a1 : Int32) : lu_C lu_TM l yX12_until cX12_until 4 (some .int) 7 168 (fun ρ sa => [.ref (ρ 0), .int a1]) (f12_until a1) lu_RVi lu_sn := by
  refine lu_met (cls := RX12) rfl (by decide +kernel) (fun _ _ => Nat.le_of_ble_eq_true rfl) ?_
  intro G ρ m hl X hret
  subst hl
  change lu_Ab lu_TM G (lu_Q lu_TM G ρ lu_RVi lu_sn) (f12_until a1 m) 0 [(0, .ref (ρ 0)), (1, .int a1)] [] ρ 0 0 [] m
  unfold f12_until
  refine lu_aload_n X dX12_until_0 (pc2 := 1) rfl rfl 0 rfl ?_
  refine lu_iload_n X dX12_until_1 (pc2 := 2) rfl rfl 1 rfl ?_
  refine lu_invVi X (c12_isDeed _ a1) rfl q1341 mvV_12_isDeed kM_0 lM_0 (by decide) ⟨_, rfl, rfl⟩ rfl rfl (Nat.le_of_ble_eq_true rfl) (Nat.le_of_ble_eq_true rfl) (Nat.le_of_ble_eq_true rfl) ⟨Nat.zero_le _, Nat.zero_le _⟩ dX12_until_2 (pc2 := 5) rfl rfl (fun x1 m2 => ?_)
  refine lu_if_ne (tgt := 10) X dX12_until_5 (pc2 := 8) rfl (by decide) (fun _ => ?_) (fun _ => ?_)
  · refine lu_aload_n X dX12_until_10 (pc2 := 11) rfl rfl 0 rfl ?_
    refine lu_iload_n X dX12_until_11 (pc2 := 12) rfl rfl 1 rfl ?_
    refine lu_invVi X (c12_isGone _ a1) rfl q1411 mvV_12_isGone kM_0 lM_0 (by decide) ⟨_, rfl, rfl⟩ rfl rfl (Nat.le_of_ble_eq_true rfl) (Nat.le_of_ble_eq_true rfl) (Nat.le_of_ble_eq_true rfl) ⟨Nat.zero_le _, Nat.zero_le _⟩ dX12_until_12 (pc2 := 15) rfl rfl (fun x3 m4 => ?_)
    refine lu_if_eq (tgt := 21) X dX12_until_15 (pc2 := 18) rfl (by decide) (fun _ => ?_) (fun _ => ?_)
    · refine lu_aload_n X dX12_until_21 (pc2 := 22) rfl rfl 0 rfl ?_
      refine lu_invVv X (c12_puts _) rfl q1391 mvV_12_puts kM_0 lM_0 (by decide) ⟨_, rfl, rfl⟩ rfl rfl (Nat.le_of_ble_eq_true rfl) (Nat.le_of_ble_eq_true rfl) (Nat.le_of_ble_eq_true rfl) ⟨Nat.zero_le _, Nat.zero_le _⟩ dX12_until_22 (pc2 := 25) rfl rfl (fun m5 => ?_)
      refine lu_bipush X dX12_until_25 (pc2 := 27) rfl bp_m3 ?_
      refine lu_istore_n (lv2 := [(2, .int (-3 : Int32)), (0, .ref (ρ 0)), (1, .int a1)]) X dX12_until_27 (pc2 := 28) rfl rfl (by decide) rfl ?_
      exact lu_sub [1, 2, 0] rfl (w12_until_b28 X hret (w12_until_b70 X hret) lu_fu (-3 : Int32) m5)
    · refine lu_bipush X dX12_until_18 (pc2 := 20) rfl bp_m3 ?_
      exact lu_iret X hret dX12_until_20
  · refine lu_iconst X dX12_until_8 (pc2 := 9) rfl ic_m1 ?_
    exact lu_iret X hret dX12_until_9

theorem dX12_late_0 : decode cX12_late 0 = .ok (.iconst 0, 1) := by decide +kernel
theorem dX12_late_1 : decode cX12_late 1 = .ok (.istore_n 1, 1) := by decide +kernel
theorem dX12_late_2 : decode cX12_late 2 = .ok (.iconst 0, 1) := by decide +kernel
theorem dX12_late_3 : decode cX12_late 3 = .ok (.istore_n 2, 1) := by decide +kernel
theorem dX12_late_4 : decode cX12_late 4 = .ok (.iload_n 2, 1) := by decide +kernel
theorem dX12_late_5 : decode cX12_late 5 = .ok (.aload_n 0, 1) := by decide +kernel
theorem dX12_late_6 : decode cX12_late 6 = .ok (.getfield 7, 3) := by decide +kernel
theorem dX12_late_9 : decode cX12_late 9 = .ok (.iconst 5, 1) := by decide +kernel
theorem dX12_late_10 : decode cX12_late 10 = .ok (.iaload, 1) := by decide +kernel
theorem dX12_late_11 : decode cX12_late 11 = .ok (.if_icmp .ge 50, 3) := by decide +kernel
theorem dX12_late_14 : decode cX12_late 14 = .ok (.iload_n 1, 1) := by decide +kernel
theorem dX12_late_15 : decode cX12_late 15 = .ok (.aload_n 0, 1) := by decide +kernel
theorem dX12_late_16 : decode cX12_late 16 = .ok (.iload_n 2, 1) := by decide +kernel
theorem dX12_late_17 : decode cX12_late 17 = .ok (.iconst 4, 1) := by decide +kernel
theorem dX12_late_18 : decode cX12_late 18 = .ok (.invokevirtual 90, 3) := by decide +kernel
theorem dX12_late_21 : decode cX12_late 21 = .ok (.iconst 1, 1) := by decide +kernel
theorem dX12_late_22 : decode cX12_late 22 = .ok (.if_icmp .ne 30, 3) := by decide +kernel
theorem dX12_late_25 : decode cX12_late 25 = .ok (.aload_n 0, 1) := by decide +kernel
theorem dX12_late_26 : decode cX12_late 26 = .ok (.iload_n 2, 1) := by decide +kernel
theorem dX12_late_27 : decode cX12_late 27 = .ok (.invokevirtual 119, 3) := by decide +kernel
theorem dX12_late_30 : decode cX12_late 30 = .ok (.aload_n 0, 1) := by decide +kernel
theorem dX12_late_31 : decode cX12_late 31 = .ok (.getfield 7, 3) := by decide +kernel
theorem dX12_late_34 : decode cX12_late 34 = .ok (.iconst 2, 1) := by decide +kernel
theorem dX12_late_35 : decode cX12_late 35 = .ok (.iaload, 1) := by decide +kernel
theorem dX12_late_36 : decode cX12_late 36 = .ok (.iconst 1, 1) := by decide +kernel
theorem dX12_late_37 : decode cX12_late 37 = .ok (.isub, 1) := by decide +kernel
theorem dX12_late_38 : decode cX12_late 38 = .ok (.if_icmp .ge 14, 3) := by decide +kernel
theorem dX12_late_41 : decode cX12_late 41 = .ok (.iconst 1, 1) := by decide +kernel
theorem dX12_late_42 : decode cX12_late 42 = .ok (.aload_n 0, 1) := by decide +kernel
theorem dX12_late_43 : decode cX12_late 43 = .ok (.iload_n 2, 1) := by decide +kernel
theorem dX12_late_44 : decode cX12_late 44 = .ok (.iconst 0, 1) := by decide +kernel
theorem dX12_late_45 : decode cX12_late 45 = .ok (.invokevirtual 90, 3) := by decide +kernel
theorem dX12_late_48 : decode cX12_late 48 = .ok (.ishl, 1) := by decide +kernel
theorem dX12_late_49 : decode cX12_late 49 = .ok (.goto 4, 3) := by decide +kernel
theorem dX12_late_52 : decode cX12_late 52 = .ok (.iconst 0, 1) := by decide +kernel
theorem dX12_late_53 : decode cX12_late 53 = .ok (.ior, 1) := by decide +kernel
theorem dX12_late_54 : decode cX12_late 54 = .ok (.istore_n 1, 1) := by decide +kernel
theorem dX12_late_55 : decode cX12_late 55 = .ok (.iinc 2 1, 3) := by decide +kernel
theorem dX12_late_58 : decode cX12_late 58 = .ok (.goto (-54), 3) := by decide +kernel
theorem dX12_late_61 : decode cX12_late 61 = .ok (.iload_n 1, 1) := by decide +kernel
theorem dX12_late_62 : decode cX12_late 62 = .ok (.ireturn, 1) := by decide +kernel
def f12_late_b53 (K4 : Int32 → Int32 → lu_M → Option (Int32 × lu_M)) (K61 : Int32 → lu_M → Option (Int32 × lu_M))  (v2 : Int32) (s0 : Int32) (s1 : Int32) (m : lu_M) : Option (Int32 × lu_M) :=
  lu_nm ((s1 ||| s0)) fun x3 =>
  K4 x3 (v2 + (1 : Int32)) m
set_option maxRecDepth 20000 in
theorem w12_late_b53  {G : lu_G} {ρ : Nat → Nat}  {K4 : Int32 → Int32 → lu_M → Option (Int32 × lu_M)} {K61 : Int32 → lu_M → Option (Int32 × lu_M)} (X : lu_X G RX12 cX12_late 3 3 65) (hret : (lu_me G).sig.returnType = (some .int))  (hK4 : ∀ (v1 : Int32) (v2 : Int32) (m : lu_M), lu_Ab lu_TM G (lu_Q lu_TM G ρ lu_RVi lu_sn) (K4 v1 v2 m) 4 [(0, .ref (ρ 0)), (1, .int v1), (2, .int v2)] [] ρ 0 0 [] m) (hK61 : ∀ (v1 : Int32) (m : lu_M), lu_Ab lu_TM G (lu_Q lu_TM G ρ lu_RVi lu_sn) (K61 v1 m) 61 [(1, .int v1)] [] ρ 0 0 [] m) : ∀ (v2 : Int32) (s0 : Int32) (s1 : Int32) (m : lu_M), lu_Ab lu_TM G (lu_Q lu_TM G ρ lu_RVi lu_sn) (f12_late_b53 K4 K61 v2 s0 s1 m) 53 [(0, .ref (ρ 0)), (2, .int v2)] [.int s0, .int s1] ρ 0 0 [] m := by
  intro v2 s0 s1 m
  unfold f12_late_b53
  refine lu_ior X dX12_late_53 (pc2 := 54) rfl ?_
  refine lu_topi (fun x3 => ?_)
  refine lu_istore_n (lv2 := [(1, .int x3), (0, .ref (ρ 0)), (2, .int v2)]) X dX12_late_54 (pc2 := 55) rfl rfl (by decide) rfl ?_
  refine lu_iinc (lv2 := [(2, .int (v2 + (1 : Int32))), (1, .int x3), (0, .ref (ρ 0))]) X dX12_late_55 (pc2 := 58) rfl 2 rfl (lu_ii _ ic_1) (by decide) rfl ?_
  refine lu_goto (tgt := 4) X dX12_late_58 (by decide) ?_
  exact lu_sub [2, 1, 0] rfl (hK4 x3 (v2 + (1 : Int32)) m)
def f12_late_b52 (K4 : Int32 → Int32 → lu_M → Option (Int32 × lu_M)) (K61 : Int32 → lu_M → Option (Int32 × lu_M))  (v2 : Int32) (s0 : Int32) (m : lu_M) : Option (Int32 × lu_M) :=
  f12_late_b53 K4 K61 v2 (0 : Int32) s0 m
set_option maxRecDepth 20000 in
theorem w12_late_b52  {G : lu_G} {ρ : Nat → Nat}  {K4 : Int32 → Int32 → lu_M → Option (Int32 × lu_M)} {K61 : Int32 → lu_M → Option (Int32 × lu_M)} (X : lu_X G RX12 cX12_late 3 3 65) (hret : (lu_me G).sig.returnType = (some .int))  (hK4 : ∀ (v1 : Int32) (v2 : Int32) (m : lu_M), lu_Ab lu_TM G (lu_Q lu_TM G ρ lu_RVi lu_sn) (K4 v1 v2 m) 4 [(0, .ref (ρ 0)), (1, .int v1), (2, .int v2)] [] ρ 0 0 [] m) (hK61 : ∀ (v1 : Int32) (m : lu_M), lu_Ab lu_TM G (lu_Q lu_TM G ρ lu_RVi lu_sn) (K61 v1 m) 61 [(1, .int v1)] [] ρ 0 0 [] m) : ∀ (v2 : Int32) (s0 : Int32) (m : lu_M), lu_Ab lu_TM G (lu_Q lu_TM G ρ lu_RVi lu_sn) (f12_late_b52 K4 K61 v2 s0 m) 52 [(0, .ref (ρ 0)), (2, .int v2)] [.int s0] ρ 0 0 [] m := by
  intro v2 s0 m
  unfold f12_late_b52
  refine lu_iconst X dX12_late_52 (pc2 := 53) rfl ic_0 ?_
  exact w12_late_b53 X hret hK4 hK61 v2 (0 : Int32) s0 m
def f12_late_b4B (K61 : Int32 → lu_M → Option (Int32 × lu_M)) (rec : Int32 → Int32 → lu_M → Option (Int32 × lu_M))  (v1 : Int32) (v2 : Int32) (m : lu_M) : Option (Int32 × lu_M) :=
  if (m 1 5) ≤ v2 then (K61 v1 m)
  else (lu_bi (f12_deedIs v2 (4 : Int32) m) fun x1 m2 =>
  if x1 = (1 : Int32) then (lu_bi (f12_due v2 m2) fun x4 m5 =>
  if ((m5 1 2) - (1 : Int32)) ≤ x4 then (f12_late_b52 rec K61 v2 v1 m5)
  else (lu_bi (f12_deedIs v2 (0 : Int32) m5) fun x6 m7 =>
  f12_late_b53 rec K61 v2 ((1 : Int32) <<< (x6 &&& 31)) v1 m7))
  else (f12_late_b52 rec K61 v2 v1 m2))
def f12_late_b4 (K61 : Int32 → lu_M → Option (Int32 × lu_M))  : Nat → Int32 → Int32 → lu_M → Option (Int32 × lu_M)
  | 0, _, _, _ => none
  | n + 1, v1, v2, m => f12_late_b4B K61 (f12_late_b4 K61 n) v1 v2 m
set_option maxRecDepth 20000 in
theorem w12_late_b4B  {G : lu_G} {ρ : Nat → Nat}  {K61 : Int32 → lu_M → Option (Int32 × lu_M)} {rec : Int32 → Int32 → lu_M → Option (Int32 × lu_M)} (X : lu_X G RX12 cX12_late 3 3 65) (hret : (lu_me G).sig.returnType = (some .int))  (hK61 : ∀ (v1 : Int32) (m : lu_M), lu_Ab lu_TM G (lu_Q lu_TM G ρ lu_RVi lu_sn) (K61 v1 m) 61 [(1, .int v1)] [] ρ 0 0 [] m) (hrec : ∀ (v1 : Int32) (v2 : Int32) (m : lu_M), lu_Ab lu_TM G (lu_Q lu_TM G ρ lu_RVi lu_sn) (rec v1 v2 m) 4 [(0, .ref (ρ 0)), (1, .int v1), (2, .int v2)] [] ρ 0 0 [] m) : ∀ (v1 : Int32) (v2 : Int32) (m : lu_M), lu_Ab lu_TM G (lu_Q lu_TM G ρ lu_RVi lu_sn) (f12_late_b4B K61 rec v1 v2 m) 4 [(0, .ref (ρ 0)), (1, .int v1), (2, .int v2)] [] ρ 0 0 [] m := by
  intro v1 v2 m
  unfold f12_late_b4B
  refine lu_iload_n X dX12_late_4 (pc2 := 5) rfl rfl 2 rfl ?_
  refine lu_aload_n X dX12_late_5 (pc2 := 6) rfl rfl 0 rfl ?_
  refine lu_getr (r2 := 1) X rfl fl12_7 rfl kM_0 lM_0 dX12_late_6 (pc2 := 9) rfl ?_
  refine lu_iconst X dX12_late_9 (pc2 := 10) rfl ic_5 ?_
  refine lu_ialdK (q := 5) X (by decide) kM_1 lM_1 dX12_late_10 (pc2 := 11) rfl ?_
  refine lu_icmp_ge (tgt := 61) X dX12_late_11 (pc2 := 14) rfl (by decide) (fun _ => ?_) (fun _ => ?_)
  · exact lu_sub [1] rfl (hK61 v1 m)
  · refine lu_iload_n X dX12_late_14 (pc2 := 15) rfl rfl 1 rfl ?_
    refine lu_aload_n X dX12_late_15 (pc2 := 16) rfl rfl 0 rfl ?_
    refine lu_iload_n X dX12_late_16 (pc2 := 17) rfl rfl 2 rfl ?_
    refine lu_iconst X dX12_late_17 (pc2 := 18) rfl ic_4 ?_
    refine lu_invVi X (c12_deedIs _ v2 (4 : Int32)) rfl q1284 mvV_12_deedIs kM_0 lM_0 (by decide) ⟨_, rfl, rfl⟩ rfl rfl (Nat.le_of_ble_eq_true rfl) (Nat.le_of_ble_eq_true rfl) (Nat.le_of_ble_eq_true rfl) ⟨Nat.zero_le _, Nat.zero_le _⟩ dX12_late_18 (pc2 := 21) rfl rfl (fun x1 m2 => ?_)
    refine lu_iconst X dX12_late_21 (pc2 := 22) rfl ic_1 ?_
    refine lu_icmp_ne (tgt := 52) X dX12_late_22 (pc2 := 25) rfl (by decide) (fun _ => ?_) (fun _ => ?_)
    · exact lu_sub [0, 2] rfl (w12_late_b52 X hret hrec hK61 v2 v1 m2)
    · refine lu_aload_n X dX12_late_25 (pc2 := 26) rfl rfl 0 rfl ?_
      refine lu_iload_n X dX12_late_26 (pc2 := 27) rfl rfl 2 rfl ?_
      refine lu_invVi X (c12_due _ v2) rfl q1316 mvV_12_due kM_0 lM_0 (by decide) ⟨_, rfl, rfl⟩ rfl rfl (Nat.le_of_ble_eq_true rfl) (Nat.le_of_ble_eq_true rfl) (Nat.le_of_ble_eq_true rfl) ⟨Nat.zero_le _, Nat.zero_le _⟩ dX12_late_27 (pc2 := 30) rfl rfl (fun x4 m5 => ?_)
      refine lu_aload_n X dX12_late_30 (pc2 := 31) rfl rfl 0 rfl ?_
      refine lu_getr (r2 := 1) X rfl fl12_7 rfl kM_0 lM_0 dX12_late_31 (pc2 := 34) rfl ?_
      refine lu_iconst X dX12_late_34 (pc2 := 35) rfl ic_2 ?_
      refine lu_ialdK (q := 2) X (by decide) kM_1 lM_1 dX12_late_35 (pc2 := 36) rfl ?_
      refine lu_iconst X dX12_late_36 (pc2 := 37) rfl ic_1 ?_
      refine lu_isub X dX12_late_37 (pc2 := 38) rfl ?_
      refine lu_icmp_ge (tgt := 52) X dX12_late_38 (pc2 := 41) rfl (by decide) (fun _ => ?_) (fun _ => ?_)
      · exact lu_sub [0, 2] rfl (w12_late_b52 X hret hrec hK61 v2 v1 m5)
      · refine lu_iconst X dX12_late_41 (pc2 := 42) rfl ic_1 ?_
        refine lu_aload_n X dX12_late_42 (pc2 := 43) rfl rfl 0 rfl ?_
        refine lu_iload_n X dX12_late_43 (pc2 := 44) rfl rfl 2 rfl ?_
        refine lu_iconst X dX12_late_44 (pc2 := 45) rfl ic_0 ?_
        refine lu_invVi X (c12_deedIs _ v2 (0 : Int32)) rfl q1284 mvV_12_deedIs kM_0 lM_0 (by decide) ⟨_, rfl, rfl⟩ rfl rfl (Nat.le_of_ble_eq_true rfl) (Nat.le_of_ble_eq_true rfl) (Nat.le_of_ble_eq_true rfl) ⟨Nat.zero_le _, Nat.zero_le _⟩ dX12_late_45 (pc2 := 48) rfl rfl (fun x6 m7 => ?_)
        refine lu_ishl X dX12_late_48 (pc2 := 49) rfl ?_
        refine lu_goto (tgt := 53) X dX12_late_49 (by decide) ?_
        exact lu_sub [0, 2] rfl (w12_late_b53 X hret hrec hK61 v2 ((1 : Int32) <<< (x6 &&& 31)) v1 m7)
theorem w12_late_b4  {G : lu_G} {ρ : Nat → Nat}  {K61 : Int32 → lu_M → Option (Int32 × lu_M)} (X : lu_X G RX12 cX12_late 3 3 65) (hret : (lu_me G).sig.returnType = (some .int))  (hK61 : ∀ (v1 : Int32) (m : lu_M), lu_Ab lu_TM G (lu_Q lu_TM G ρ lu_RVi lu_sn) (K61 v1 m) 61 [(1, .int v1)] [] ρ 0 0 [] m) : ∀ (n : Nat) (v1 : Int32) (v2 : Int32) (m : lu_M), lu_Ab lu_TM G (lu_Q lu_TM G ρ lu_RVi lu_sn) (f12_late_b4 K61 n v1 v2 m) 4 [(0, .ref (ρ 0)), (1, .int v1), (2, .int v2)] [] ρ 0 0 [] m := by
  intro n
  induction n with
  | zero => intro v1 v2 m; exact lu_none
  | succ n ih => intro v1 v2 m; exact w12_late_b4B X hret hK61 ih v1 v2 m
def f12_late_b61   (v1 : Int32) (m : lu_M) : Option (Int32 × lu_M) :=
  some (v1, m)
set_option maxRecDepth 20000 in
theorem w12_late_b61  {G : lu_G} {ρ : Nat → Nat}   (X : lu_X G RX12 cX12_late 3 3 65) (hret : (lu_me G).sig.returnType = (some .int))   : ∀ (v1 : Int32) (m : lu_M), lu_Ab lu_TM G (lu_Q lu_TM G ρ lu_RVi lu_sn) (f12_late_b61  v1 m) 61 [(1, .int v1)] [] ρ 0 0 [] m := by
  intro v1 m
  unfold f12_late_b61
  refine lu_iload_n X dX12_late_61 (pc2 := 62) rfl rfl 0 rfl ?_
  exact lu_iret X hret dX12_late_62
def f12_late  (m : lu_M) : Option (Int32 × lu_M) :=
  f12_late_b4 f12_late_b61 lu_fu (0 : Int32) (0 : Int32) m
set_option maxRecDepth 20000 in
theorem c12_late (l : Launch)    : lu_C lu_TM l yX12_late cX12_late 3 (some .int) 3 65 (fun ρ sa => [.ref (ρ 0)]) (f12_late ) lu_RVi lu_sn := by
  refine lu_met (cls := RX12) rfl (by decide +kernel) (fun _ _ => Nat.le_of_ble_eq_true rfl) ?_
  intro G ρ m hl X hret
  subst hl
  change lu_Ab lu_TM G (lu_Q lu_TM G ρ lu_RVi lu_sn) (f12_late  m) 0 [(0, .ref (ρ 0))] [] ρ 0 0 [] m
  unfold f12_late
  refine lu_iconst X dX12_late_0 (pc2 := 1) rfl ic_0 ?_
  refine lu_istore_n (lv2 := [(1, .int (0 : Int32)), (0, .ref (ρ 0))]) X dX12_late_1 (pc2 := 2) rfl rfl (by decide) rfl ?_
  refine lu_iconst X dX12_late_2 (pc2 := 3) rfl ic_0 ?_
  refine lu_istore_n (lv2 := [(2, .int (0 : Int32)), (1, .int (0 : Int32)), (0, .ref (ρ 0))]) X dX12_late_3 (pc2 := 4) rfl rfl (by decide) rfl ?_
  exact lu_sub [2, 1, 0] rfl (w12_late_b4 X hret (w12_late_b61 X hret) lu_fu (0 : Int32) (0 : Int32) m)

theorem dX12_overdue_0 : decode cX12_overdue 0 = .ok (.aload_n 0, 1) := by decide +kernel
theorem dX12_overdue_1 : decode cX12_overdue 1 = .ok (.invokevirtual 154, 3) := by decide +kernel
theorem dX12_overdue_4 : decode cX12_overdue 4 = .ok (.aload_n 0, 1) := by decide +kernel
theorem dX12_overdue_5 : decode cX12_overdue 5 = .ok (.bipush 16, 2) := by decide +kernel
theorem dX12_overdue_7 : decode cX12_overdue 7 = .ok (.invokevirtual 157, 3) := by decide +kernel
theorem dX12_overdue_10 : decode cX12_overdue 10 = .ok (.istore_n 1, 1) := by decide +kernel
theorem dX12_overdue_11 : decode cX12_overdue 11 = .ok (.aload_n 0, 1) := by decide +kernel
theorem dX12_overdue_12 : decode cX12_overdue 12 = .ok (.invokevirtual 166, 3) := by decide +kernel
theorem dX12_overdue_15 : decode cX12_overdue 15 = .ok (.istore_n 2, 1) := by decide +kernel
theorem dX12_overdue_16 : decode cX12_overdue 16 = .ok (.aload_n 0, 1) := by decide +kernel
theorem dX12_overdue_17 : decode cX12_overdue 17 = .ok (.invokevirtual 160, 3) := by decide +kernel
theorem dX12_overdue_20 : decode cX12_overdue 20 = .ok (.iload_n 2, 1) := by decide +kernel
theorem dX12_overdue_21 : decode cX12_overdue 21 = .ok (.ireturn, 1) := by decide +kernel
def f12_overdue  (m : lu_M) : Option (Int32 × lu_M) :=
  lu_bv (f12_puts m) fun m1 =>
  lu_bi (f12_rest (16 : Int32) m1) fun x2 m3 =>
  lu_bi (f12_late m3) fun x4 m5 =>
  lu_bv (f12_putsBack m5) fun m6 =>
  some (x4, m6)
set_option maxRecDepth 20000 in
theorem c12_overdue (l : Launch)    : lu_C lu_TM l yX12_overdue cX12_overdue 3 (some .int) 8 191 (fun ρ sa => [.ref (ρ 0)]) (f12_overdue ) lu_RVi lu_sn := by
  refine lu_met (cls := RX12) rfl (by decide +kernel) (fun _ _ => Nat.le_of_ble_eq_true rfl) ?_
  intro G ρ m hl X hret
  subst hl
  change lu_Ab lu_TM G (lu_Q lu_TM G ρ lu_RVi lu_sn) (f12_overdue  m) 0 [(0, .ref (ρ 0))] [] ρ 0 0 [] m
  unfold f12_overdue
  refine lu_aload_n X dX12_overdue_0 (pc2 := 1) rfl rfl 0 rfl ?_
  refine lu_invVv X (c12_puts _) rfl q1391 mvV_12_puts kM_0 lM_0 (by decide) ⟨_, rfl, rfl⟩ rfl rfl (Nat.le_of_ble_eq_true rfl) (Nat.le_of_ble_eq_true rfl) (Nat.le_of_ble_eq_true rfl) ⟨Nat.zero_le _, Nat.zero_le _⟩ dX12_overdue_1 (pc2 := 4) rfl rfl (fun m1 => ?_)
  refine lu_aload_n X dX12_overdue_4 (pc2 := 5) rfl rfl 0 rfl ?_
  refine lu_bipush X dX12_overdue_5 (pc2 := 7) rfl bp_16 ?_
  refine lu_invVi X (c12_rest _ (16 : Int32)) rfl q1395 mvV_12_rest kM_0 lM_0 (by decide) ⟨_, rfl, rfl⟩ rfl rfl (Nat.le_of_ble_eq_true rfl) (Nat.le_of_ble_eq_true rfl) (Nat.le_of_ble_eq_true rfl) ⟨Nat.zero_le _, Nat.zero_le _⟩ dX12_overdue_7 (pc2 := 10) rfl rfl (fun x2 m3 => ?_)
  refine lu_istore_n (lv2 := [(1, .int x2), (0, .ref (ρ 0))]) X dX12_overdue_10 (pc2 := 11) rfl rfl (by decide) rfl ?_
  refine lu_aload_n X dX12_overdue_11 (pc2 := 12) rfl rfl 1 rfl ?_
  refine lu_invVi X (c12_late _) rfl q1419 mvV_12_late kM_0 lM_0 (by decide) ⟨_, rfl, rfl⟩ rfl rfl (Nat.le_of_ble_eq_true rfl) (Nat.le_of_ble_eq_true rfl) (Nat.le_of_ble_eq_true rfl) ⟨Nat.zero_le _, Nat.zero_le _⟩ dX12_overdue_12 (pc2 := 15) rfl rfl (fun x4 m5 => ?_)
  refine lu_istore_n (lv2 := [(2, .int x4), (1, .int x2), (0, .ref (ρ 0))]) X dX12_overdue_15 (pc2 := 16) rfl rfl (by decide) rfl ?_
  refine lu_aload_n X dX12_overdue_16 (pc2 := 17) rfl rfl 2 rfl ?_
  refine lu_invVv X (c12_putsBack _) rfl q1399 mvV_12_putsBack kM_0 lM_0 (by decide) ⟨_, rfl, rfl⟩ rfl rfl (Nat.le_of_ble_eq_true rfl) (Nat.le_of_ble_eq_true rfl) (Nat.le_of_ble_eq_true rfl) ⟨Nat.zero_le _, Nat.zero_le _⟩ dX12_overdue_17 (pc2 := 20) rfl rfl (fun m6 => ?_)
  refine lu_iload_n X dX12_overdue_20 (pc2 := 21) rfl rfl 0 rfl ?_
  exact lu_iret X hret dX12_overdue_21

theorem dX12_falls_0 : decode cX12_falls 0 = .ok (.aload_n 0, 1) := by decide +kernel
theorem dX12_falls_1 : decode cX12_falls 1 = .ok (.iload_n 1, 1) := by decide +kernel
theorem dX12_falls_2 : decode cX12_falls 2 = .ok (.invokevirtual 116, 3) := by decide +kernel
theorem dX12_falls_5 : decode cX12_falls 5 = .ok (.ifCond .ne 5, 3) := by decide +kernel
theorem dX12_falls_8 : decode cX12_falls 8 = .ok (.iconst (-1), 1) := by decide +kernel
theorem dX12_falls_9 : decode cX12_falls 9 = .ok (.ireturn, 1) := by decide +kernel
theorem dX12_falls_10 : decode cX12_falls 10 = .ok (.aload_n 0, 1) := by decide +kernel
theorem dX12_falls_11 : decode cX12_falls 11 = .ok (.iload_n 1, 1) := by decide +kernel
theorem dX12_falls_12 : decode cX12_falls 12 = .ok (.iconst 4, 1) := by decide +kernel
theorem dX12_falls_13 : decode cX12_falls 13 = .ok (.invokevirtual 90, 3) := by decide +kernel
theorem dX12_falls_16 : decode cX12_falls 16 = .ok (.iconst 1, 1) := by decide +kernel
theorem dX12_falls_17 : decode cX12_falls 17 = .ok (.if_icmp .eq 6, 3) := by decide +kernel
theorem dX12_falls_20 : decode cX12_falls 20 = .ok (.bipush (-4), 2) := by decide +kernel
theorem dX12_falls_22 : decode cX12_falls 22 = .ok (.ireturn, 1) := by decide +kernel
theorem dX12_falls_23 : decode cX12_falls 23 = .ok (.aload_n 0, 1) := by decide +kernel
theorem dX12_falls_24 : decode cX12_falls 24 = .ok (.invokevirtual 154, 3) := by decide +kernel
theorem dX12_falls_27 : decode cX12_falls 27 = .ok (.aload_n 0, 1) := by decide +kernel
theorem dX12_falls_28 : decode cX12_falls 28 = .ok (.iconst 3, 1) := by decide +kernel
theorem dX12_falls_29 : decode cX12_falls 29 = .ok (.invokevirtual 151, 3) := by decide +kernel
theorem dX12_falls_32 : decode cX12_falls 32 = .ok (.istore_n 2, 1) := by decide +kernel
theorem dX12_falls_33 : decode cX12_falls 33 = .ok (.aload_n 0, 1) := by decide +kernel
theorem dX12_falls_34 : decode cX12_falls 34 = .ok (.iload_n 1, 1) := by decide +kernel
theorem dX12_falls_35 : decode cX12_falls 35 = .ok (.invokevirtual 142, 3) := by decide +kernel
theorem dX12_falls_38 : decode cX12_falls 38 = .ok (.aload_n 0, 1) := by decide +kernel
theorem dX12_falls_39 : decode cX12_falls 39 = .ok (.iconst 3, 1) := by decide +kernel
theorem dX12_falls_40 : decode cX12_falls 40 = .ok (.invokevirtual 151, 3) := by decide +kernel
theorem dX12_falls_43 : decode cX12_falls 43 = .ok (.iload_n 2, 1) := by decide +kernel
theorem dX12_falls_44 : decode cX12_falls 44 = .ok (.iconst (-1), 1) := by decide +kernel
theorem dX12_falls_45 : decode cX12_falls 45 = .ok (.ixor, 1) := by decide +kernel
theorem dX12_falls_46 : decode cX12_falls 46 = .ok (.iand, 1) := by decide +kernel
theorem dX12_falls_47 : decode cX12_falls 47 = .ok (.istore_n 3, 1) := by decide +kernel
theorem dX12_falls_48 : decode cX12_falls 48 = .ok (.aload_n 0, 1) := by decide +kernel
theorem dX12_falls_49 : decode cX12_falls 49 = .ok (.invokevirtual 160, 3) := by decide +kernel
theorem dX12_falls_52 : decode cX12_falls 52 = .ok (.iload_n 3, 1) := by decide +kernel
theorem dX12_falls_53 : decode cX12_falls 53 = .ok (.ireturn, 1) := by decide +kernel
def f12_falls (a1 : Int32) (m : lu_M) : Option (Int32 × lu_M) :=
  lu_bi (f12_isDeed a1 m) fun x1 m2 =>
  if x1 = 0 then (some ((-1 : Int32), m2))
  else (lu_bi (f12_deedIs a1 (4 : Int32) m2) fun x3 m4 =>
  if x3 = (1 : Int32) then (lu_bv (f12_puts m4) fun m5 =>
  lu_bi (f12_those (3 : Int32) m5) fun x6 m7 =>
  lu_bv (f12_undo a1 m7) fun m8 =>
  lu_bi (f12_those (3 : Int32) m8) fun x9 m10 =>
  lu_nm ((x9 &&& (x6 ^^^ (-1 : Int32)))) fun x11 =>
  lu_bv (f12_putsBack m10) fun m12 =>
  some (x11, m12))
  else (some ((-4 : Int32), m4)))
set_option maxRecDepth 20000 in
theorem c12_falls (l : Launch)   (a1 : Int32) : lu_C lu_TM l yX12_falls cX12_falls 4 (some .int) 3 67 (fun ρ sa => [.ref (ρ 0), .int a1]) (f12_falls a1) lu_RVi lu_sn := by
  refine lu_met (cls := RX12) rfl (by decide +kernel) (fun _ _ => Nat.le_of_ble_eq_true rfl) ?_
  intro G ρ m hl X hret
  subst hl
  change lu_Ab lu_TM G (lu_Q lu_TM G ρ lu_RVi lu_sn) (f12_falls a1 m) 0 [(0, .ref (ρ 0)), (1, .int a1)] [] ρ 0 0 [] m
  unfold f12_falls
  refine lu_aload_n X dX12_falls_0 (pc2 := 1) rfl rfl 0 rfl ?_
  refine lu_iload_n X dX12_falls_1 (pc2 := 2) rfl rfl 1 rfl ?_
  refine lu_invVi X (c12_isDeed _ a1) rfl q1341 mvV_12_isDeed kM_0 lM_0 (by decide) ⟨_, rfl, rfl⟩ rfl rfl (Nat.le_of_ble_eq_true rfl) (Nat.le_of_ble_eq_true rfl) (Nat.le_of_ble_eq_true rfl) ⟨Nat.zero_le _, Nat.zero_le _⟩ dX12_falls_2 (pc2 := 5) rfl rfl (fun x1 m2 => ?_)
  refine lu_if_ne (tgt := 10) X dX12_falls_5 (pc2 := 8) rfl (by decide) (fun _ => ?_) (fun _ => ?_)
  · refine lu_aload_n X dX12_falls_10 (pc2 := 11) rfl rfl 0 rfl ?_
    refine lu_iload_n X dX12_falls_11 (pc2 := 12) rfl rfl 1 rfl ?_
    refine lu_iconst X dX12_falls_12 (pc2 := 13) rfl ic_4 ?_
    refine lu_invVi X (c12_deedIs _ a1 (4 : Int32)) rfl q1284 mvV_12_deedIs kM_0 lM_0 (by decide) ⟨_, rfl, rfl⟩ rfl rfl (Nat.le_of_ble_eq_true rfl) (Nat.le_of_ble_eq_true rfl) (Nat.le_of_ble_eq_true rfl) ⟨Nat.zero_le _, Nat.zero_le _⟩ dX12_falls_13 (pc2 := 16) rfl rfl (fun x3 m4 => ?_)
    refine lu_iconst X dX12_falls_16 (pc2 := 17) rfl ic_1 ?_
    refine lu_icmp_eq (tgt := 23) X dX12_falls_17 (pc2 := 20) rfl (by decide) (fun _ => ?_) (fun _ => ?_)
    · refine lu_aload_n X dX12_falls_23 (pc2 := 24) rfl rfl 0 rfl ?_
      refine lu_invVv X (c12_puts _) rfl q1391 mvV_12_puts kM_0 lM_0 (by decide) ⟨_, rfl, rfl⟩ rfl rfl (Nat.le_of_ble_eq_true rfl) (Nat.le_of_ble_eq_true rfl) (Nat.le_of_ble_eq_true rfl) ⟨Nat.zero_le _, Nat.zero_le _⟩ dX12_falls_24 (pc2 := 27) rfl rfl (fun m5 => ?_)
      refine lu_aload_n X dX12_falls_27 (pc2 := 28) rfl rfl 0 rfl ?_
      refine lu_iconst X dX12_falls_28 (pc2 := 29) rfl ic_3 ?_
      refine lu_invVi X (c12_those _ (3 : Int32)) rfl q1383 mvV_12_those kM_0 lM_0 (by decide) ⟨_, rfl, rfl⟩ rfl rfl (Nat.le_of_ble_eq_true rfl) (Nat.le_of_ble_eq_true rfl) (Nat.le_of_ble_eq_true rfl) ⟨Nat.zero_le _, Nat.zero_le _⟩ dX12_falls_29 (pc2 := 32) rfl rfl (fun x6 m7 => ?_)
      refine lu_istore_n (lv2 := [(2, .int x6), (0, .ref (ρ 0)), (1, .int a1)]) X dX12_falls_32 (pc2 := 33) rfl rfl (by decide) rfl ?_
      refine lu_aload_n X dX12_falls_33 (pc2 := 34) rfl rfl 1 rfl ?_
      refine lu_iload_n X dX12_falls_34 (pc2 := 35) rfl rfl 2 rfl ?_
      refine lu_invVv X (c12_undo _ a1) rfl q1374 mvV_12_undo kM_0 lM_0 (by decide) ⟨_, rfl, rfl⟩ rfl rfl (Nat.le_of_ble_eq_true rfl) (Nat.le_of_ble_eq_true rfl) (Nat.le_of_ble_eq_true rfl) ⟨Nat.zero_le _, Nat.zero_le _⟩ dX12_falls_35 (pc2 := 38) rfl rfl (fun m8 => ?_)
      refine lu_aload_n X dX12_falls_38 (pc2 := 39) rfl rfl 1 rfl ?_
      refine lu_iconst X dX12_falls_39 (pc2 := 40) rfl ic_3 ?_
      refine lu_invVi X (c12_those _ (3 : Int32)) rfl q1383 mvV_12_those kM_0 lM_0 (by decide) ⟨_, rfl, rfl⟩ rfl rfl (Nat.le_of_ble_eq_true rfl) (Nat.le_of_ble_eq_true rfl) (Nat.le_of_ble_eq_true rfl) ⟨Nat.zero_le _, Nat.zero_le _⟩ dX12_falls_40 (pc2 := 43) rfl rfl (fun x9 m10 => ?_)
      refine lu_iload_n X dX12_falls_43 (pc2 := 44) rfl rfl 0 rfl ?_
      refine lu_iconst X dX12_falls_44 (pc2 := 45) rfl ic_m1 ?_
      refine lu_ixor X dX12_falls_45 (pc2 := 46) rfl ?_
      refine lu_iand X dX12_falls_46 (pc2 := 47) rfl ?_
      refine lu_topi (fun x11 => ?_)
      refine lu_istore_n (lv2 := [(3, .int x11), (2, .int x6), (0, .ref (ρ 0)), (1, .int a1)]) X dX12_falls_47 (pc2 := 48) rfl rfl (by decide) rfl ?_
      refine lu_aload_n X dX12_falls_48 (pc2 := 49) rfl rfl 2 rfl ?_
      refine lu_invVv X (c12_putsBack _) rfl q1399 mvV_12_putsBack kM_0 lM_0 (by decide) ⟨_, rfl, rfl⟩ rfl rfl (Nat.le_of_ble_eq_true rfl) (Nat.le_of_ble_eq_true rfl) (Nat.le_of_ble_eq_true rfl) ⟨Nat.zero_le _, Nat.zero_le _⟩ dX12_falls_49 (pc2 := 52) rfl rfl (fun m12 => ?_)
      refine lu_iload_n X dX12_falls_52 (pc2 := 53) rfl rfl 0 rfl ?_
      exact lu_iret X hret dX12_falls_53
    · refine lu_bipush X dX12_falls_20 (pc2 := 22) rfl bp_m4 ?_
      exact lu_iret X hret dX12_falls_22
  · refine lu_iconst X dX12_falls_8 (pc2 := 9) rfl ic_m1 ?_
    exact lu_iret X hret dX12_falls_9

theorem dX12_graceFor_0 : decode cX12_graceFor 0 = .ok (.aload_n 0, 1) := by decide +kernel
theorem dX12_graceFor_1 : decode cX12_graceFor 1 = .ok (.iload_n 1, 1) := by decide +kernel
theorem dX12_graceFor_2 : decode cX12_graceFor 2 = .ok (.invokevirtual 96, 3) := by decide +kernel
theorem dX12_graceFor_5 : decode cX12_graceFor 5 = .ok (.ifCond .ne 5, 3) := by decide +kernel
theorem dX12_graceFor_8 : decode cX12_graceFor 8 = .ok (.iconst (-1), 1) := by decide +kernel
theorem dX12_graceFor_9 : decode cX12_graceFor 9 = .ok (.ireturn, 1) := by decide +kernel
theorem dX12_graceFor_10 : decode cX12_graceFor 10 = .ok (.iconst 0, 1) := by decide +kernel
theorem dX12_graceFor_11 : decode cX12_graceFor 11 = .ok (.istore_n 2, 1) := by decide +kernel
theorem dX12_graceFor_12 : decode cX12_graceFor 12 = .ok (.iconst (-1), 1) := by decide +kernel
theorem dX12_graceFor_13 : decode cX12_graceFor 13 = .ok (.istore_n 3, 1) := by decide +kernel
theorem dX12_graceFor_14 : decode cX12_graceFor 14 = .ok (.iconst 1, 1) := by decide +kernel
theorem dX12_graceFor_15 : decode cX12_graceFor 15 = .ok (.istore 4, 2) := by decide +kernel
theorem dX12_graceFor_17 : decode cX12_graceFor 17 = .ok (.iload 4, 2) := by decide +kernel
theorem dX12_graceFor_19 : decode cX12_graceFor 19 = .ok (.bipush 10, 2) := by decide +kernel
theorem dX12_graceFor_21 : decode cX12_graceFor 21 = .ok (.if_icmp .ge 63, 3) := by decide +kernel
theorem dX12_graceFor_24 : decode cX12_graceFor 24 = .ok (.aload_n 0, 1) := by decide +kernel
theorem dX12_graceFor_25 : decode cX12_graceFor 25 = .ok (.invokevirtual 154, 3) := by decide +kernel
theorem dX12_graceFor_28 : decode cX12_graceFor 28 = .ok (.aload_n 0, 1) := by decide +kernel
theorem dX12_graceFor_29 : decode cX12_graceFor 29 = .ok (.getfield 7, 3) := by decide +kernel
theorem dX12_graceFor_32 : decode cX12_graceFor 32 = .ok (.iload_n 1, 1) := by decide +kernel
theorem dX12_graceFor_33 : decode cX12_graceFor 33 = .ok (.iconst 1, 1) := by decide +kernel
theorem dX12_graceFor_34 : decode cX12_graceFor 34 = .ok (.invokestatic 68, 3) := by decide +kernel
theorem dX12_graceFor_37 : decode cX12_graceFor 37 = .ok (.iload 4, 2) := by decide +kernel
theorem dX12_graceFor_39 : decode cX12_graceFor 39 = .ok (.iastore, 1) := by decide +kernel
theorem dX12_graceFor_40 : decode cX12_graceFor 40 = .ok (.aload_n 0, 1) := by decide +kernel
theorem dX12_graceFor_41 : decode cX12_graceFor 41 = .ok (.bipush 16, 2) := by decide +kernel
theorem dX12_graceFor_43 : decode cX12_graceFor 43 = .ok (.invokevirtual 157, 3) := by decide +kernel
theorem dX12_graceFor_46 : decode cX12_graceFor 46 = .ok (.istore 5, 2) := by decide +kernel
theorem dX12_graceFor_48 : decode cX12_graceFor 48 = .ok (.iload 5, 2) := by decide +kernel
theorem dX12_graceFor_50 : decode cX12_graceFor 50 = .ok (.iload_n 3, 1) := by decide +kernel
theorem dX12_graceFor_51 : decode cX12_graceFor 51 = .ok (.if_icmp .le 8, 3) := by decide +kernel
theorem dX12_graceFor_54 : decode cX12_graceFor 54 = .ok (.iload 4, 2) := by decide +kernel
theorem dX12_graceFor_56 : decode cX12_graceFor 56 = .ok (.goto 4, 3) := by decide +kernel
theorem dX12_graceFor_59 : decode cX12_graceFor 59 = .ok (.iload_n 2, 1) := by decide +kernel
theorem dX12_graceFor_60 : decode cX12_graceFor 60 = .ok (.istore_n 2, 1) := by decide +kernel
theorem dX12_graceFor_61 : decode cX12_graceFor 61 = .ok (.iload 5, 2) := by decide +kernel
theorem dX12_graceFor_63 : decode cX12_graceFor 63 = .ok (.iload_n 3, 1) := by decide +kernel
theorem dX12_graceFor_64 : decode cX12_graceFor 64 = .ok (.if_icmp .le 8, 3) := by decide +kernel
theorem dX12_graceFor_67 : decode cX12_graceFor 67 = .ok (.iload 5, 2) := by decide +kernel
theorem dX12_graceFor_69 : decode cX12_graceFor 69 = .ok (.goto 4, 3) := by decide +kernel
theorem dX12_graceFor_72 : decode cX12_graceFor 72 = .ok (.iload_n 3, 1) := by decide +kernel
theorem dX12_graceFor_73 : decode cX12_graceFor 73 = .ok (.istore_n 3, 1) := by decide +kernel
theorem dX12_graceFor_74 : decode cX12_graceFor 74 = .ok (.aload_n 0, 1) := by decide +kernel
theorem dX12_graceFor_75 : decode cX12_graceFor 75 = .ok (.invokevirtual 160, 3) := by decide +kernel
theorem dX12_graceFor_78 : decode cX12_graceFor 78 = .ok (.iinc 4 1, 3) := by decide +kernel
theorem dX12_graceFor_81 : decode cX12_graceFor 81 = .ok (.goto (-64), 3) := by decide +kernel
theorem dX12_graceFor_84 : decode cX12_graceFor 84 = .ok (.iload_n 2, 1) := by decide +kernel
theorem dX12_graceFor_85 : decode cX12_graceFor 85 = .ok (.ireturn, 1) := by decide +kernel
def f12_graceFor_b73 (K17 : Int32 → Int32 → Int32 → lu_M → Option (Int32 × lu_M)) (K84 : Int32 → lu_M → Option (Int32 × lu_M)) (a1 : Int32) (v2 : Int32) (v4 : Int32) (s0 : Int32) (m : lu_M) : Option (Int32 × lu_M) :=
  lu_bv (f12_putsBack m) fun m9 =>
  K17 v2 s0 (v4 + (1 : Int32)) m9
set_option maxRecDepth 20000 in
theorem w12_graceFor_b73  {G : lu_G} {ρ : Nat → Nat} {a1 : Int32} {K17 : Int32 → Int32 → Int32 → lu_M → Option (Int32 × lu_M)} {K84 : Int32 → lu_M → Option (Int32 × lu_M)} (X : lu_X G RX12 cX12_graceFor 6 8 191) (hret : (lu_me G).sig.returnType = (some .int))  (hK17 : ∀ (v2 : Int32) (v3 : Int32) (v4 : Int32) (m : lu_M), lu_Ab lu_TM G (lu_Q lu_TM G ρ lu_RVi lu_sn) (K17 v2 v3 v4 m) 17 [(0, .ref (ρ 0)), (1, .int a1), (2, .int v2), (3, .int v3), (4, .int v4)] [] ρ 0 0 [] m) (hK84 : ∀ (v2 : Int32) (m : lu_M), lu_Ab lu_TM G (lu_Q lu_TM G ρ lu_RVi lu_sn) (K84 v2 m) 84 [(2, .int v2)] [] ρ 0 0 [] m) : ∀ (v2 : Int32) (v4 : Int32) (s0 : Int32) (m : lu_M), lu_Ab lu_TM G (lu_Q lu_TM G ρ lu_RVi lu_sn) (f12_graceFor_b73 K17 K84 a1 v2 v4 s0 m) 73 [(0, .ref (ρ 0)), (1, .int a1), (2, .int v2), (4, .int v4)] [.int s0] ρ 0 0 [] m := by
  intro v2 v4 s0 m
  unfold f12_graceFor_b73
  refine lu_istore_n (lv2 := [(3, .int s0), (0, .ref (ρ 0)), (1, .int a1), (2, .int v2), (4, .int v4)]) X dX12_graceFor_73 (pc2 := 74) rfl rfl (by decide) rfl ?_
  refine lu_aload_n X dX12_graceFor_74 (pc2 := 75) rfl rfl 1 rfl ?_
  refine lu_invVv X (c12_putsBack _) rfl q1399 mvV_12_putsBack kM_0 lM_0 (by decide) ⟨_, rfl, rfl⟩ rfl rfl (Nat.le_of_ble_eq_true rfl) (Nat.le_of_ble_eq_true rfl) (Nat.le_of_ble_eq_true rfl) ⟨Nat.zero_le _, Nat.zero_le _⟩ dX12_graceFor_75 (pc2 := 78) rfl rfl (fun m9 => ?_)
  refine lu_iinc (lv2 := [(4, .int (v4 + (1 : Int32))), (3, .int s0), (0, .ref (ρ 0)), (1, .int a1), (2, .int v2)]) X dX12_graceFor_78 (pc2 := 81) rfl 4 rfl (lu_ii _ ic_1) (by decide) rfl ?_
  refine lu_goto (tgt := 17) X dX12_graceFor_81 (by decide) ?_
  exact lu_sub [2, 3, 4, 1, 0] rfl (hK17 v2 s0 (v4 + (1 : Int32)) m9)
def f12_graceFor_b60 (K17 : Int32 → Int32 → Int32 → lu_M → Option (Int32 × lu_M)) (K84 : Int32 → lu_M → Option (Int32 × lu_M)) (a1 : Int32) (v3 : Int32) (v4 : Int32) (v5 : Int32) (s0 : Int32) (m : lu_M) : Option (Int32 × lu_M) :=
  if v5 ≤ v3 then (f12_graceFor_b73 K17 K84 a1 s0 v4 v3 m)
  else (f12_graceFor_b73 K17 K84 a1 s0 v4 v5 m)
set_option maxRecDepth 20000 in
theorem w12_graceFor_b60  {G : lu_G} {ρ : Nat → Nat} {a1 : Int32} {K17 : Int32 → Int32 → Int32 → lu_M → Option (Int32 × lu_M)} {K84 : Int32 → lu_M → Option (Int32 × lu_M)} (X : lu_X G RX12 cX12_graceFor 6 8 191) (hret : (lu_me G).sig.returnType = (some .int))  (hK17 : ∀ (v2 : Int32) (v3 : Int32) (v4 : Int32) (m : lu_M), lu_Ab lu_TM G (lu_Q lu_TM G ρ lu_RVi lu_sn) (K17 v2 v3 v4 m) 17 [(0, .ref (ρ 0)), (1, .int a1), (2, .int v2), (3, .int v3), (4, .int v4)] [] ρ 0 0 [] m) (hK84 : ∀ (v2 : Int32) (m : lu_M), lu_Ab lu_TM G (lu_Q lu_TM G ρ lu_RVi lu_sn) (K84 v2 m) 84 [(2, .int v2)] [] ρ 0 0 [] m) : ∀ (v3 : Int32) (v4 : Int32) (v5 : Int32) (s0 : Int32) (m : lu_M), lu_Ab lu_TM G (lu_Q lu_TM G ρ lu_RVi lu_sn) (f12_graceFor_b60 K17 K84 a1 v3 v4 v5 s0 m) 60 [(0, .ref (ρ 0)), (1, .int a1), (3, .int v3), (4, .int v4), (5, .int v5)] [.int s0] ρ 0 0 [] m := by
  intro v3 v4 v5 s0 m
  unfold f12_graceFor_b60
  refine lu_istore_n (lv2 := [(2, .int s0), (0, .ref (ρ 0)), (1, .int a1), (3, .int v3), (4, .int v4), (5, .int v5)]) X dX12_graceFor_60 (pc2 := 61) rfl rfl (by decide) rfl ?_
  refine lu_iload X dX12_graceFor_61 (pc2 := 63) rfl 5 rfl ?_
  refine lu_iload_n X dX12_graceFor_63 (pc2 := 64) rfl rfl 3 rfl ?_
  refine lu_icmp_le (tgt := 72) X dX12_graceFor_64 (pc2 := 67) rfl (by decide) (fun _ => ?_) (fun _ => ?_)
  · refine lu_iload_n X dX12_graceFor_72 (pc2 := 73) rfl rfl 3 rfl ?_
    exact lu_sub [1, 2, 0, 4] rfl (w12_graceFor_b73 X hret hK17 hK84 s0 v4 v3 m)
  · refine lu_iload X dX12_graceFor_67 (pc2 := 69) rfl 5 rfl ?_
    refine lu_goto (tgt := 73) X dX12_graceFor_69 (by decide) ?_
    exact lu_sub [1, 2, 0, 4] rfl (w12_graceFor_b73 X hret hK17 hK84 s0 v4 v5 m)
def f12_graceFor_b17B (K84 : Int32 → lu_M → Option (Int32 × lu_M)) (rec : Int32 → Int32 → Int32 → lu_M → Option (Int32 × lu_M)) (a1 : Int32) (v2 : Int32) (v3 : Int32) (v4 : Int32) (m : lu_M) : Option (Int32 × lu_M) :=
  if (10 : Int32) ≤ v4 then (K84 v2 m)
  else (lu_bv (f12_puts m) fun m3 =>
  lu_bi (f12_at a1 (1 : Int32) m3) fun x4 m5 =>
  lu_gd (lu_ib x4 368) <|
  lu_nm (lu_st m5 1 x4.toNatClampNeg v4) fun m6 =>
  lu_bi (f12_rest (16 : Int32) m6) fun x7 m8 =>
  if x7 ≤ v3 then (f12_graceFor_b60 rec K84 a1 v3 v4 x7 v2 m8)
  else (f12_graceFor_b60 rec K84 a1 v3 v4 x7 v4 m8))
def f12_graceFor_b17 (K84 : Int32 → lu_M → Option (Int32 × lu_M)) (a1 : Int32) : Nat → Int32 → Int32 → Int32 → lu_M → Option (Int32 × lu_M)
  | 0, _, _, _, _ => none
  | n + 1, v2, v3, v4, m => f12_graceFor_b17B K84 (f12_graceFor_b17 K84 a1 n) a1 v2 v3 v4 m
set_option maxRecDepth 20000 in
theorem w12_graceFor_b17B  {G : lu_G} {ρ : Nat → Nat} {a1 : Int32} {K84 : Int32 → lu_M → Option (Int32 × lu_M)} {rec : Int32 → Int32 → Int32 → lu_M → Option (Int32 × lu_M)} (X : lu_X G RX12 cX12_graceFor 6 8 191) (hret : (lu_me G).sig.returnType = (some .int))  (hK84 : ∀ (v2 : Int32) (m : lu_M), lu_Ab lu_TM G (lu_Q lu_TM G ρ lu_RVi lu_sn) (K84 v2 m) 84 [(2, .int v2)] [] ρ 0 0 [] m) (hrec : ∀ (v2 : Int32) (v3 : Int32) (v4 : Int32) (m : lu_M), lu_Ab lu_TM G (lu_Q lu_TM G ρ lu_RVi lu_sn) (rec v2 v3 v4 m) 17 [(0, .ref (ρ 0)), (1, .int a1), (2, .int v2), (3, .int v3), (4, .int v4)] [] ρ 0 0 [] m) : ∀ (v2 : Int32) (v3 : Int32) (v4 : Int32) (m : lu_M), lu_Ab lu_TM G (lu_Q lu_TM G ρ lu_RVi lu_sn) (f12_graceFor_b17B K84 rec a1 v2 v3 v4 m) 17 [(0, .ref (ρ 0)), (1, .int a1), (2, .int v2), (3, .int v3), (4, .int v4)] [] ρ 0 0 [] m := by
  intro v2 v3 v4 m
  unfold f12_graceFor_b17B
  refine lu_iload X dX12_graceFor_17 (pc2 := 19) rfl 4 rfl ?_
  refine lu_bipush X dX12_graceFor_19 (pc2 := 21) rfl bp_10 ?_
  refine lu_icmp_ge (tgt := 84) X dX12_graceFor_21 (pc2 := 24) rfl (by decide) (fun _ => ?_) (fun _ => ?_)
  · exact lu_sub [2] rfl (hK84 v2 m)
  · refine lu_aload_n X dX12_graceFor_24 (pc2 := 25) rfl rfl 0 rfl ?_
    refine lu_invVv X (c12_puts _) rfl q1391 mvV_12_puts kM_0 lM_0 (by decide) ⟨_, rfl, rfl⟩ rfl rfl (Nat.le_of_ble_eq_true rfl) (Nat.le_of_ble_eq_true rfl) (Nat.le_of_ble_eq_true rfl) ⟨Nat.zero_le _, Nat.zero_le _⟩ dX12_graceFor_25 (pc2 := 28) rfl rfl (fun m3 => ?_)
    refine lu_aload_n X dX12_graceFor_28 (pc2 := 29) rfl rfl 0 rfl ?_
    refine lu_getr (r2 := 1) X rfl fl12_7 rfl kM_0 lM_0 dX12_graceFor_29 (pc2 := 32) rfl ?_
    refine lu_iload_n X dX12_graceFor_32 (pc2 := 33) rfl rfl 1 rfl ?_
    refine lu_iconst X dX12_graceFor_33 (pc2 := 34) rfl ic_1 ?_
    refine lu_invSi X (c12_at _ a1 (1 : Int32)) rfl q1265 mvS_12_at rfl rfl (Nat.le_of_ble_eq_true rfl) (Nat.le_of_ble_eq_true rfl) (Nat.le_of_ble_eq_true rfl) ⟨Nat.zero_le _, Nat.zero_le _⟩ dX12_graceFor_34 (pc2 := 37) rfl rfl (fun x4 m5 => ?_)
    refine lu_iload X dX12_graceFor_37 (pc2 := 39) rfl 4 rfl ?_
    refine lu_iast X kM_1 lM_1 dX12_graceFor_39 (pc2 := 40) rfl (fun m6 => ?_)
    refine lu_aload_n X dX12_graceFor_40 (pc2 := 41) rfl rfl 0 rfl ?_
    refine lu_bipush X dX12_graceFor_41 (pc2 := 43) rfl bp_16 ?_
    refine lu_invVi X (c12_rest _ (16 : Int32)) rfl q1395 mvV_12_rest kM_0 lM_0 (by decide) ⟨_, rfl, rfl⟩ rfl rfl (Nat.le_of_ble_eq_true rfl) (Nat.le_of_ble_eq_true rfl) (Nat.le_of_ble_eq_true rfl) ⟨Nat.zero_le _, Nat.zero_le _⟩ dX12_graceFor_43 (pc2 := 46) rfl rfl (fun x7 m8 => ?_)
    refine lu_istore (lv2 := [(5, .int x7), (0, .ref (ρ 0)), (1, .int a1), (2, .int v2), (3, .int v3), (4, .int v4)]) X dX12_graceFor_46 (pc2 := 48) rfl (by decide) rfl ?_
    refine lu_iload X dX12_graceFor_48 (pc2 := 50) rfl 0 rfl ?_
    refine lu_iload_n X dX12_graceFor_50 (pc2 := 51) rfl rfl 4 rfl ?_
    refine lu_icmp_le (tgt := 59) X dX12_graceFor_51 (pc2 := 54) rfl (by decide) (fun _ => ?_) (fun _ => ?_)
    · refine lu_iload_n X dX12_graceFor_59 (pc2 := 60) rfl rfl 3 rfl ?_
      exact lu_sub [1, 2, 4, 5, 0] rfl (w12_graceFor_b60 X hret hrec hK84 v3 v4 x7 v2 m8)
    · refine lu_iload X dX12_graceFor_54 (pc2 := 56) rfl 5 rfl ?_
      refine lu_goto (tgt := 60) X dX12_graceFor_56 (by decide) ?_
      exact lu_sub [1, 2, 4, 5, 0] rfl (w12_graceFor_b60 X hret hrec hK84 v3 v4 x7 v4 m8)
theorem w12_graceFor_b17  {G : lu_G} {ρ : Nat → Nat} {a1 : Int32} {K84 : Int32 → lu_M → Option (Int32 × lu_M)} (X : lu_X G RX12 cX12_graceFor 6 8 191) (hret : (lu_me G).sig.returnType = (some .int))  (hK84 : ∀ (v2 : Int32) (m : lu_M), lu_Ab lu_TM G (lu_Q lu_TM G ρ lu_RVi lu_sn) (K84 v2 m) 84 [(2, .int v2)] [] ρ 0 0 [] m) : ∀ (n : Nat) (v2 : Int32) (v3 : Int32) (v4 : Int32) (m : lu_M), lu_Ab lu_TM G (lu_Q lu_TM G ρ lu_RVi lu_sn) (f12_graceFor_b17 K84 a1 n v2 v3 v4 m) 17 [(0, .ref (ρ 0)), (1, .int a1), (2, .int v2), (3, .int v3), (4, .int v4)] [] ρ 0 0 [] m := by
  intro n
  induction n with
  | zero => intro v2 v3 v4 m; exact lu_none
  | succ n ih => intro v2 v3 v4 m; exact w12_graceFor_b17B X hret hK84 ih v2 v3 v4 m
def f12_graceFor_b84  (a1 : Int32) (v2 : Int32) (m : lu_M) : Option (Int32 × lu_M) :=
  some (v2, m)
set_option maxRecDepth 20000 in
theorem w12_graceFor_b84  {G : lu_G} {ρ : Nat → Nat} {a1 : Int32}  (X : lu_X G RX12 cX12_graceFor 6 8 191) (hret : (lu_me G).sig.returnType = (some .int))   : ∀ (v2 : Int32) (m : lu_M), lu_Ab lu_TM G (lu_Q lu_TM G ρ lu_RVi lu_sn) (f12_graceFor_b84 a1 v2 m) 84 [(2, .int v2)] [] ρ 0 0 [] m := by
  intro v2 m
  unfold f12_graceFor_b84
  refine lu_iload_n X dX12_graceFor_84 (pc2 := 85) rfl rfl 0 rfl ?_
  exact lu_iret X hret dX12_graceFor_85
def f12_graceFor (a1 : Int32) (m : lu_M) : Option (Int32 × lu_M) :=
  lu_bi (f12_isPerson a1 m) fun x1 m2 =>
  if x1 = 0 then (some ((-1 : Int32), m2))
  else (f12_graceFor_b17 (f12_graceFor_b84 a1) a1 lu_fu (0 : Int32) (-1 : Int32) (1 : Int32) m2)
set_option maxRecDepth 20000 in
theorem c12_graceFor (l : Launch)   (a1 : Int32) : lu_C lu_TM l yX12_graceFor cX12_graceFor 6 (some .int) 8 191 (fun ρ sa => [.ref (ρ 0), .int a1]) (f12_graceFor a1) lu_RVi lu_sn := by
  refine lu_met (cls := RX12) rfl (by decide +kernel) (fun _ _ => Nat.le_of_ble_eq_true rfl) ?_
  intro G ρ m hl X hret
  subst hl
  change lu_Ab lu_TM G (lu_Q lu_TM G ρ lu_RVi lu_sn) (f12_graceFor a1 m) 0 [(0, .ref (ρ 0)), (1, .int a1)] [] ρ 0 0 [] m
  unfold f12_graceFor
  refine lu_aload_n X dX12_graceFor_0 (pc2 := 1) rfl rfl 0 rfl ?_
  refine lu_iload_n X dX12_graceFor_1 (pc2 := 2) rfl rfl 1 rfl ?_
  refine lu_invVi X (c12_isPerson _ a1) rfl q1272 mvV_12_isPerson kM_0 lM_0 (by decide) ⟨_, rfl, rfl⟩ rfl rfl (Nat.le_of_ble_eq_true rfl) (Nat.le_of_ble_eq_true rfl) (Nat.le_of_ble_eq_true rfl) ⟨Nat.zero_le _, Nat.zero_le _⟩ dX12_graceFor_2 (pc2 := 5) rfl rfl (fun x1 m2 => ?_)
  refine lu_if_ne (tgt := 10) X dX12_graceFor_5 (pc2 := 8) rfl (by decide) (fun _ => ?_) (fun _ => ?_)
  · refine lu_iconst X dX12_graceFor_10 (pc2 := 11) rfl ic_0 ?_
    refine lu_istore_n (lv2 := [(2, .int (0 : Int32)), (0, .ref (ρ 0)), (1, .int a1)]) X dX12_graceFor_11 (pc2 := 12) rfl rfl (by decide) rfl ?_
    refine lu_iconst X dX12_graceFor_12 (pc2 := 13) rfl ic_m1 ?_
    refine lu_istore_n (lv2 := [(3, .int (-1 : Int32)), (2, .int (0 : Int32)), (0, .ref (ρ 0)), (1, .int a1)]) X dX12_graceFor_13 (pc2 := 14) rfl rfl (by decide) rfl ?_
    refine lu_iconst X dX12_graceFor_14 (pc2 := 15) rfl ic_1 ?_
    refine lu_istore (lv2 := [(4, .int (1 : Int32)), (3, .int (-1 : Int32)), (2, .int (0 : Int32)), (0, .ref (ρ 0)), (1, .int a1)]) X dX12_graceFor_15 (pc2 := 17) rfl (by decide) rfl ?_
    exact lu_sub [3, 4, 2, 1, 0] rfl (w12_graceFor_b17 X hret (w12_graceFor_b84 X hret) lu_fu (0 : Int32) (-1 : Int32) (1 : Int32) m2)
  · refine lu_iconst X dX12_graceFor_8 (pc2 := 9) rfl ic_m1 ?_
    exact lu_iret X hret dX12_graceFor_9

theorem dX12_strengthFor_0 : decode cX12_strengthFor 0 = .ok (.aload_n 0, 1) := by decide +kernel
theorem dX12_strengthFor_1 : decode cX12_strengthFor 1 = .ok (.iload_n 1, 1) := by decide +kernel
theorem dX12_strengthFor_2 : decode cX12_strengthFor 2 = .ok (.invokevirtual 96, 3) := by decide +kernel
theorem dX12_strengthFor_5 : decode cX12_strengthFor 5 = .ok (.ifCond .ne 5, 3) := by decide +kernel
theorem dX12_strengthFor_8 : decode cX12_strengthFor 8 = .ok (.iconst (-1), 1) := by decide +kernel
theorem dX12_strengthFor_9 : decode cX12_strengthFor 9 = .ok (.ireturn, 1) := by decide +kernel
theorem dX12_strengthFor_10 : decode cX12_strengthFor 10 = .ok (.iconst 1, 1) := by decide +kernel
theorem dX12_strengthFor_11 : decode cX12_strengthFor 11 = .ok (.istore_n 2, 1) := by decide +kernel
theorem dX12_strengthFor_12 : decode cX12_strengthFor 12 = .ok (.iload_n 2, 1) := by decide +kernel
theorem dX12_strengthFor_13 : decode cX12_strengthFor 13 = .ok (.bipush 10, 2) := by decide +kernel
theorem dX12_strengthFor_15 : decode cX12_strengthFor 15 = .ok (.if_icmp .ge 60, 3) := by decide +kernel
theorem dX12_strengthFor_18 : decode cX12_strengthFor 18 = .ok (.aload_n 0, 1) := by decide +kernel
theorem dX12_strengthFor_19 : decode cX12_strengthFor 19 = .ok (.invokevirtual 154, 3) := by decide +kernel
theorem dX12_strengthFor_22 : decode cX12_strengthFor 22 = .ok (.aload_n 0, 1) := by decide +kernel
theorem dX12_strengthFor_23 : decode cX12_strengthFor 23 = .ok (.getfield 7, 3) := by decide +kernel
theorem dX12_strengthFor_26 : decode cX12_strengthFor 26 = .ok (.iload_n 1, 1) := by decide +kernel
theorem dX12_strengthFor_27 : decode cX12_strengthFor 27 = .ok (.iconst 2, 1) := by decide +kernel
theorem dX12_strengthFor_28 : decode cX12_strengthFor 28 = .ok (.invokestatic 68, 3) := by decide +kernel
theorem dX12_strengthFor_31 : decode cX12_strengthFor 31 = .ok (.iload_n 2, 1) := by decide +kernel
theorem dX12_strengthFor_32 : decode cX12_strengthFor 32 = .ok (.iastore, 1) := by decide +kernel
theorem dX12_strengthFor_33 : decode cX12_strengthFor 33 = .ok (.aload_n 0, 1) := by decide +kernel
theorem dX12_strengthFor_34 : decode cX12_strengthFor 34 = .ok (.bipush 16, 2) := by decide +kernel
theorem dX12_strengthFor_36 : decode cX12_strengthFor 36 = .ok (.invokevirtual 157, 3) := by decide +kernel
theorem dX12_strengthFor_39 : decode cX12_strengthFor 39 = .ok (.istore_n 3, 1) := by decide +kernel
theorem dX12_strengthFor_40 : decode cX12_strengthFor 40 = .ok (.aload_n 0, 1) := by decide +kernel
theorem dX12_strengthFor_41 : decode cX12_strengthFor 41 = .ok (.invokevirtual 166, 3) := by decide +kernel
theorem dX12_strengthFor_44 : decode cX12_strengthFor 44 = .ok (.iload_n 1, 1) := by decide +kernel
theorem dX12_strengthFor_45 : decode cX12_strengthFor 45 = .ok (.ishr, 1) := by decide +kernel
theorem dX12_strengthFor_46 : decode cX12_strengthFor 46 = .ok (.iconst 1, 1) := by decide +kernel
theorem dX12_strengthFor_47 : decode cX12_strengthFor 47 = .ok (.iand, 1) := by decide +kernel
theorem dX12_strengthFor_48 : decode cX12_strengthFor 48 = .ok (.ifCond .ne 7, 3) := by decide +kernel
theorem dX12_strengthFor_51 : decode cX12_strengthFor 51 = .ok (.iconst 1, 1) := by decide +kernel
theorem dX12_strengthFor_52 : decode cX12_strengthFor 52 = .ok (.goto 4, 3) := by decide +kernel
theorem dX12_strengthFor_55 : decode cX12_strengthFor 55 = .ok (.iconst 0, 1) := by decide +kernel
theorem dX12_strengthFor_56 : decode cX12_strengthFor 56 = .ok (.istore 4, 2) := by decide +kernel
theorem dX12_strengthFor_58 : decode cX12_strengthFor 58 = .ok (.aload_n 0, 1) := by decide +kernel
theorem dX12_strengthFor_59 : decode cX12_strengthFor 59 = .ok (.invokevirtual 160, 3) := by decide +kernel
theorem dX12_strengthFor_62 : decode cX12_strengthFor 62 = .ok (.iload 4, 2) := by decide +kernel
theorem dX12_strengthFor_64 : decode cX12_strengthFor 64 = .ok (.ifCond .eq 5, 3) := by decide +kernel
theorem dX12_strengthFor_67 : decode cX12_strengthFor 67 = .ok (.iload_n 2, 1) := by decide +kernel
theorem dX12_strengthFor_68 : decode cX12_strengthFor 68 = .ok (.ireturn, 1) := by decide +kernel
theorem dX12_strengthFor_69 : decode cX12_strengthFor 69 = .ok (.iinc 2 1, 3) := by decide +kernel
theorem dX12_strengthFor_72 : decode cX12_strengthFor 72 = .ok (.goto (-60), 3) := by decide +kernel
theorem dX12_strengthFor_75 : decode cX12_strengthFor 75 = .ok (.bipush (-3), 2) := by decide +kernel
theorem dX12_strengthFor_77 : decode cX12_strengthFor 77 = .ok (.ireturn, 1) := by decide +kernel
def f12_strengthFor_b56 (K12 : Int32 → lu_M → Option (Int32 × lu_M)) (K67 : Int32 → lu_M → Option (Int32 × lu_M)) (K75 : lu_M → Option (Int32 × lu_M)) (a1 : Int32) (v2 : Int32) (s0 : Int32) (m : lu_M) : Option (Int32 × lu_M) :=
  lu_bv (f12_putsBack m) fun m11 =>
  if s0 = 0 then (K12 (v2 + (1 : Int32)) m11)
  else (K67 v2 m11)
set_option maxRecDepth 20000 in
theorem w12_strengthFor_b56  {G : lu_G} {ρ : Nat → Nat} {a1 : Int32} {K12 : Int32 → lu_M → Option (Int32 × lu_M)} {K67 : Int32 → lu_M → Option (Int32 × lu_M)} {K75 : lu_M → Option (Int32 × lu_M)} (X : lu_X G RX12 cX12_strengthFor 5 8 191) (hret : (lu_me G).sig.returnType = (some .int))  (hK12 : ∀ (v2 : Int32) (m : lu_M), lu_Ab lu_TM G (lu_Q lu_TM G ρ lu_RVi lu_sn) (K12 v2 m) 12 [(0, .ref (ρ 0)), (1, .int a1), (2, .int v2)] [] ρ 0 0 [] m) (hK67 : ∀ (v2 : Int32) (m : lu_M), lu_Ab lu_TM G (lu_Q lu_TM G ρ lu_RVi lu_sn) (K67 v2 m) 67 [(2, .int v2)] [] ρ 0 0 [] m) (hK75 : ∀  (m : lu_M), lu_Ab lu_TM G (lu_Q lu_TM G ρ lu_RVi lu_sn) (K75 m) 75 [] [] ρ 0 0 [] m) : ∀ (v2 : Int32) (s0 : Int32) (m : lu_M), lu_Ab lu_TM G (lu_Q lu_TM G ρ lu_RVi lu_sn) (f12_strengthFor_b56 K12 K67 K75 a1 v2 s0 m) 56 [(0, .ref (ρ 0)), (1, .int a1), (2, .int v2)] [.int s0] ρ 0 0 [] m := by
  intro v2 s0 m
  unfold f12_strengthFor_b56
  refine lu_istore (lv2 := [(4, .int s0), (0, .ref (ρ 0)), (1, .int a1), (2, .int v2)]) X dX12_strengthFor_56 (pc2 := 58) rfl (by decide) rfl ?_
  refine lu_aload_n X dX12_strengthFor_58 (pc2 := 59) rfl rfl 1 rfl ?_
  refine lu_invVv X (c12_putsBack _) rfl q1399 mvV_12_putsBack kM_0 lM_0 (by decide) ⟨_, rfl, rfl⟩ rfl rfl (Nat.le_of_ble_eq_true rfl) (Nat.le_of_ble_eq_true rfl) (Nat.le_of_ble_eq_true rfl) ⟨Nat.zero_le _, Nat.zero_le _⟩ dX12_strengthFor_59 (pc2 := 62) rfl rfl (fun m11 => ?_)
  refine lu_iload X dX12_strengthFor_62 (pc2 := 64) rfl 0 rfl ?_
  refine lu_if_eq (tgt := 69) X dX12_strengthFor_64 (pc2 := 67) rfl (by decide) (fun _ => ?_) (fun _ => ?_)
  · refine lu_iinc (lv2 := [(2, .int (v2 + (1 : Int32))), (4, .int s0), (0, .ref (ρ 0)), (1, .int a1)]) X dX12_strengthFor_69 (pc2 := 72) rfl 3 rfl (lu_ii _ ic_1) (by decide) rfl ?_
    refine lu_goto (tgt := 12) X dX12_strengthFor_72 (by decide) ?_
    exact lu_sub [2, 3, 0] rfl (hK12 (v2 + (1 : Int32)) m11)
  · exact lu_sub [3] rfl (hK67 v2 m11)
def f12_strengthFor_b12B (K67 : Int32 → lu_M → Option (Int32 × lu_M)) (K75 : lu_M → Option (Int32 × lu_M)) (rec : Int32 → lu_M → Option (Int32 × lu_M)) (a1 : Int32) (v2 : Int32) (m : lu_M) : Option (Int32 × lu_M) :=
  if (10 : Int32) ≤ v2 then (K75 m)
  else (lu_bv (f12_puts m) fun m3 =>
  lu_bi (f12_at a1 (2 : Int32) m3) fun x4 m5 =>
  lu_gd (lu_ib x4 368) <|
  lu_nm (lu_st m5 1 x4.toNatClampNeg v2) fun m6 =>
  lu_bi (f12_rest (16 : Int32) m6) fun x7 m8 =>
  lu_bi (f12_late m8) fun x9 m10 =>
  if ((x9 >>> (a1 &&& 31)) &&& (1 : Int32)) = 0 then (f12_strengthFor_b56 rec K67 K75 a1 v2 (1 : Int32) m10)
  else (f12_strengthFor_b56 rec K67 K75 a1 v2 (0 : Int32) m10))
def f12_strengthFor_b12 (K67 : Int32 → lu_M → Option (Int32 × lu_M)) (K75 : lu_M → Option (Int32 × lu_M)) (a1 : Int32) : Nat → Int32 → lu_M → Option (Int32 × lu_M)
  | 0, _, _ => none
  | n + 1, v2, m => f12_strengthFor_b12B K67 K75 (f12_strengthFor_b12 K67 K75 a1 n) a1 v2 m
set_option maxRecDepth 20000 in
theorem w12_strengthFor_b12B  {G : lu_G} {ρ : Nat → Nat} {a1 : Int32} {K67 : Int32 → lu_M → Option (Int32 × lu_M)} {K75 : lu_M → Option (Int32 × lu_M)} {rec : Int32 → lu_M → Option (Int32 × lu_M)} (X : lu_X G RX12 cX12_strengthFor 5 8 191) (hret : (lu_me G).sig.returnType = (some .int))  (hK67 : ∀ (v2 : Int32) (m : lu_M), lu_Ab lu_TM G (lu_Q lu_TM G ρ lu_RVi lu_sn) (K67 v2 m) 67 [(2, .int v2)] [] ρ 0 0 [] m) (hK75 : ∀  (m : lu_M), lu_Ab lu_TM G (lu_Q lu_TM G ρ lu_RVi lu_sn) (K75 m) 75 [] [] ρ 0 0 [] m) (hrec : ∀ (v2 : Int32) (m : lu_M), lu_Ab lu_TM G (lu_Q lu_TM G ρ lu_RVi lu_sn) (rec v2 m) 12 [(0, .ref (ρ 0)), (1, .int a1), (2, .int v2)] [] ρ 0 0 [] m) : ∀ (v2 : Int32) (m : lu_M), lu_Ab lu_TM G (lu_Q lu_TM G ρ lu_RVi lu_sn) (f12_strengthFor_b12B K67 K75 rec a1 v2 m) 12 [(0, .ref (ρ 0)), (1, .int a1), (2, .int v2)] [] ρ 0 0 [] m := by
  intro v2 m
  unfold f12_strengthFor_b12B
  refine lu_iload_n X dX12_strengthFor_12 (pc2 := 13) rfl rfl 2 rfl ?_
  refine lu_bipush X dX12_strengthFor_13 (pc2 := 15) rfl bp_10 ?_
  refine lu_icmp_ge (tgt := 75) X dX12_strengthFor_15 (pc2 := 18) rfl (by decide) (fun _ => ?_) (fun _ => ?_)
  · exact lu_sub [] rfl (hK75 m)
  · refine lu_aload_n X dX12_strengthFor_18 (pc2 := 19) rfl rfl 0 rfl ?_
    refine lu_invVv X (c12_puts _) rfl q1391 mvV_12_puts kM_0 lM_0 (by decide) ⟨_, rfl, rfl⟩ rfl rfl (Nat.le_of_ble_eq_true rfl) (Nat.le_of_ble_eq_true rfl) (Nat.le_of_ble_eq_true rfl) ⟨Nat.zero_le _, Nat.zero_le _⟩ dX12_strengthFor_19 (pc2 := 22) rfl rfl (fun m3 => ?_)
    refine lu_aload_n X dX12_strengthFor_22 (pc2 := 23) rfl rfl 0 rfl ?_
    refine lu_getr (r2 := 1) X rfl fl12_7 rfl kM_0 lM_0 dX12_strengthFor_23 (pc2 := 26) rfl ?_
    refine lu_iload_n X dX12_strengthFor_26 (pc2 := 27) rfl rfl 1 rfl ?_
    refine lu_iconst X dX12_strengthFor_27 (pc2 := 28) rfl ic_2 ?_
    refine lu_invSi X (c12_at _ a1 (2 : Int32)) rfl q1265 mvS_12_at rfl rfl (Nat.le_of_ble_eq_true rfl) (Nat.le_of_ble_eq_true rfl) (Nat.le_of_ble_eq_true rfl) ⟨Nat.zero_le _, Nat.zero_le _⟩ dX12_strengthFor_28 (pc2 := 31) rfl rfl (fun x4 m5 => ?_)
    refine lu_iload_n X dX12_strengthFor_31 (pc2 := 32) rfl rfl 2 rfl ?_
    refine lu_iast X kM_1 lM_1 dX12_strengthFor_32 (pc2 := 33) rfl (fun m6 => ?_)
    refine lu_aload_n X dX12_strengthFor_33 (pc2 := 34) rfl rfl 0 rfl ?_
    refine lu_bipush X dX12_strengthFor_34 (pc2 := 36) rfl bp_16 ?_
    refine lu_invVi X (c12_rest _ (16 : Int32)) rfl q1395 mvV_12_rest kM_0 lM_0 (by decide) ⟨_, rfl, rfl⟩ rfl rfl (Nat.le_of_ble_eq_true rfl) (Nat.le_of_ble_eq_true rfl) (Nat.le_of_ble_eq_true rfl) ⟨Nat.zero_le _, Nat.zero_le _⟩ dX12_strengthFor_36 (pc2 := 39) rfl rfl (fun x7 m8 => ?_)
    refine lu_istore_n (lv2 := [(3, .int x7), (0, .ref (ρ 0)), (1, .int a1), (2, .int v2)]) X dX12_strengthFor_39 (pc2 := 40) rfl rfl (by decide) rfl ?_
    refine lu_aload_n X dX12_strengthFor_40 (pc2 := 41) rfl rfl 1 rfl ?_
    refine lu_invVi X (c12_late _) rfl q1419 mvV_12_late kM_0 lM_0 (by decide) ⟨_, rfl, rfl⟩ rfl rfl (Nat.le_of_ble_eq_true rfl) (Nat.le_of_ble_eq_true rfl) (Nat.le_of_ble_eq_true rfl) ⟨Nat.zero_le _, Nat.zero_le _⟩ dX12_strengthFor_41 (pc2 := 44) rfl rfl (fun x9 m10 => ?_)
    refine lu_iload_n X dX12_strengthFor_44 (pc2 := 45) rfl rfl 2 rfl ?_
    refine lu_ishr X dX12_strengthFor_45 (pc2 := 46) rfl ?_
    refine lu_iconst X dX12_strengthFor_46 (pc2 := 47) rfl ic_1 ?_
    refine lu_iand X dX12_strengthFor_47 (pc2 := 48) rfl ?_
    refine lu_if_ne (tgt := 55) X dX12_strengthFor_48 (pc2 := 51) rfl (by decide) (fun _ => ?_) (fun _ => ?_)
    · refine lu_iconst X dX12_strengthFor_55 (pc2 := 56) rfl ic_0 ?_
      exact lu_sub [1, 2, 3] rfl (w12_strengthFor_b56 X hret hrec hK67 hK75 v2 (0 : Int32) m10)
    · refine lu_iconst X dX12_strengthFor_51 (pc2 := 52) rfl ic_1 ?_
      refine lu_goto (tgt := 56) X dX12_strengthFor_52 (by decide) ?_
      exact lu_sub [1, 2, 3] rfl (w12_strengthFor_b56 X hret hrec hK67 hK75 v2 (1 : Int32) m10)
theorem w12_strengthFor_b12  {G : lu_G} {ρ : Nat → Nat} {a1 : Int32} {K67 : Int32 → lu_M → Option (Int32 × lu_M)} {K75 : lu_M → Option (Int32 × lu_M)} (X : lu_X G RX12 cX12_strengthFor 5 8 191) (hret : (lu_me G).sig.returnType = (some .int))  (hK67 : ∀ (v2 : Int32) (m : lu_M), lu_Ab lu_TM G (lu_Q lu_TM G ρ lu_RVi lu_sn) (K67 v2 m) 67 [(2, .int v2)] [] ρ 0 0 [] m) (hK75 : ∀  (m : lu_M), lu_Ab lu_TM G (lu_Q lu_TM G ρ lu_RVi lu_sn) (K75 m) 75 [] [] ρ 0 0 [] m) : ∀ (n : Nat) (v2 : Int32) (m : lu_M), lu_Ab lu_TM G (lu_Q lu_TM G ρ lu_RVi lu_sn) (f12_strengthFor_b12 K67 K75 a1 n v2 m) 12 [(0, .ref (ρ 0)), (1, .int a1), (2, .int v2)] [] ρ 0 0 [] m := by
  intro n
  induction n with
  | zero => intro v2 m; exact lu_none
  | succ n ih => intro v2 m; exact w12_strengthFor_b12B X hret hK67 hK75 ih v2 m
def f12_strengthFor_b67  (a1 : Int32) (v2 : Int32) (m : lu_M) : Option (Int32 × lu_M) :=
  some (v2, m)
set_option maxRecDepth 20000 in
theorem w12_strengthFor_b67  {G : lu_G} {ρ : Nat → Nat} {a1 : Int32}  (X : lu_X G RX12 cX12_strengthFor 5 8 191) (hret : (lu_me G).sig.returnType = (some .int))   : ∀ (v2 : Int32) (m : lu_M), lu_Ab lu_TM G (lu_Q lu_TM G ρ lu_RVi lu_sn) (f12_strengthFor_b67 a1 v2 m) 67 [(2, .int v2)] [] ρ 0 0 [] m := by
  intro v2 m
  unfold f12_strengthFor_b67
  refine lu_iload_n X dX12_strengthFor_67 (pc2 := 68) rfl rfl 0 rfl ?_
  exact lu_iret X hret dX12_strengthFor_68
def f12_strengthFor_b75  (a1 : Int32)  (m : lu_M) : Option (Int32 × lu_M) :=
  some ((-3 : Int32), m)
set_option maxRecDepth 20000 in
theorem w12_strengthFor_b75  {G : lu_G} {ρ : Nat → Nat} {a1 : Int32}  (X : lu_X G RX12 cX12_strengthFor 5 8 191) (hret : (lu_me G).sig.returnType = (some .int))   : ∀  (m : lu_M), lu_Ab lu_TM G (lu_Q lu_TM G ρ lu_RVi lu_sn) (f12_strengthFor_b75 a1 m) 75 [] [] ρ 0 0 [] m := by
  intro  m
  unfold f12_strengthFor_b75
  refine lu_bipush X dX12_strengthFor_75 (pc2 := 77) rfl bp_m3 ?_
  exact lu_iret X hret dX12_strengthFor_77
def f12_strengthFor (a1 : Int32) (m : lu_M) : Option (Int32 × lu_M) :=
  lu_bi (f12_isPerson a1 m) fun x1 m2 =>
  if x1 = 0 then (some ((-1 : Int32), m2))
  else (f12_strengthFor_b12 (f12_strengthFor_b67 a1) (f12_strengthFor_b75 a1) a1 lu_fu (1 : Int32) m2)
set_option maxRecDepth 20000 in
theorem c12_strengthFor (l : Launch)   (a1 : Int32) : lu_C lu_TM l yX12_strengthFor cX12_strengthFor 5 (some .int) 8 191 (fun ρ sa => [.ref (ρ 0), .int a1]) (f12_strengthFor a1) lu_RVi lu_sn := by
  refine lu_met (cls := RX12) rfl (by decide +kernel) (fun _ _ => Nat.le_of_ble_eq_true rfl) ?_
  intro G ρ m hl X hret
  subst hl
  change lu_Ab lu_TM G (lu_Q lu_TM G ρ lu_RVi lu_sn) (f12_strengthFor a1 m) 0 [(0, .ref (ρ 0)), (1, .int a1)] [] ρ 0 0 [] m
  unfold f12_strengthFor
  refine lu_aload_n X dX12_strengthFor_0 (pc2 := 1) rfl rfl 0 rfl ?_
  refine lu_iload_n X dX12_strengthFor_1 (pc2 := 2) rfl rfl 1 rfl ?_
  refine lu_invVi X (c12_isPerson _ a1) rfl q1272 mvV_12_isPerson kM_0 lM_0 (by decide) ⟨_, rfl, rfl⟩ rfl rfl (Nat.le_of_ble_eq_true rfl) (Nat.le_of_ble_eq_true rfl) (Nat.le_of_ble_eq_true rfl) ⟨Nat.zero_le _, Nat.zero_le _⟩ dX12_strengthFor_2 (pc2 := 5) rfl rfl (fun x1 m2 => ?_)
  refine lu_if_ne (tgt := 10) X dX12_strengthFor_5 (pc2 := 8) rfl (by decide) (fun _ => ?_) (fun _ => ?_)
  · refine lu_iconst X dX12_strengthFor_10 (pc2 := 11) rfl ic_1 ?_
    refine lu_istore_n (lv2 := [(2, .int (1 : Int32)), (0, .ref (ρ 0)), (1, .int a1)]) X dX12_strengthFor_11 (pc2 := 12) rfl rfl (by decide) rfl ?_
    exact lu_sub [1, 2, 0] rfl (w12_strengthFor_b12 X hret (w12_strengthFor_b67 X hret) (w12_strengthFor_b75 X hret) lu_fu (1 : Int32) m2)
  · refine lu_iconst X dX12_strengthFor_8 (pc2 := 9) rfl ic_m1 ?_
    exact lu_iret X hret dX12_strengthFor_9

theorem dX12_areTwo_0 : decode cX12_areTwo 0 = .ok (.aload_n 0, 1) := by decide +kernel
theorem dX12_areTwo_1 : decode cX12_areTwo 1 = .ok (.iload_n 1, 1) := by decide +kernel
theorem dX12_areTwo_2 : decode cX12_areTwo 2 = .ok (.invokevirtual 96, 3) := by decide +kernel
theorem dX12_areTwo_5 : decode cX12_areTwo 5 = .ok (.ifCond .eq 20, 3) := by decide +kernel
theorem dX12_areTwo_8 : decode cX12_areTwo 8 = .ok (.aload_n 0, 1) := by decide +kernel
theorem dX12_areTwo_9 : decode cX12_areTwo 9 = .ok (.iload_n 2, 1) := by decide +kernel
theorem dX12_areTwo_10 : decode cX12_areTwo 10 = .ok (.invokevirtual 96, 3) := by decide +kernel
theorem dX12_areTwo_13 : decode cX12_areTwo 13 = .ok (.ifCond .eq 12, 3) := by decide +kernel
theorem dX12_areTwo_16 : decode cX12_areTwo 16 = .ok (.iload_n 1, 1) := by decide +kernel
theorem dX12_areTwo_17 : decode cX12_areTwo 17 = .ok (.iload_n 2, 1) := by decide +kernel
theorem dX12_areTwo_18 : decode cX12_areTwo 18 = .ok (.if_icmp .eq 7, 3) := by decide +kernel
theorem dX12_areTwo_21 : decode cX12_areTwo 21 = .ok (.iconst 1, 1) := by decide +kernel
theorem dX12_areTwo_22 : decode cX12_areTwo 22 = .ok (.goto 4, 3) := by decide +kernel
theorem dX12_areTwo_25 : decode cX12_areTwo 25 = .ok (.iconst 0, 1) := by decide +kernel
theorem dX12_areTwo_26 : decode cX12_areTwo 26 = .ok (.ireturn, 1) := by decide +kernel
def f12_areTwo_b26  (a1 : Int32) (a2 : Int32) (s0 : Int32) (m : lu_M) : Option (Int32 × lu_M) :=
  lu_gd (decide (s0 = 0 ∨ s0 = 1)) (some (s0, m))
set_option maxRecDepth 20000 in
theorem w12_areTwo_b26  {G : lu_G} {ρ : Nat → Nat} {a1 : Int32} {a2 : Int32}  (X : lu_X G RX12 cX12_areTwo 3 2 46) (hret : (lu_me G).sig.returnType = (some .boolean))   : ∀ (s0 : Int32) (m : lu_M), lu_Ab lu_TM G (lu_Q lu_TM G ρ lu_RVi lu_sn) (f12_areTwo_b26 a1 a2 s0 m) 26 [] [.int s0] ρ 0 0 [] m := by
  intro s0 m
  unfold f12_areTwo_b26
  exact lu_zretG X hret dX12_areTwo_26
def f12_areTwo_b25  (a1 : Int32) (a2 : Int32)  (m : lu_M) : Option (Int32 × lu_M) :=
  f12_areTwo_b26 a1 a2 (0 : Int32) m
set_option maxRecDepth 20000 in
theorem w12_areTwo_b25  {G : lu_G} {ρ : Nat → Nat} {a1 : Int32} {a2 : Int32}  (X : lu_X G RX12 cX12_areTwo 3 2 46) (hret : (lu_me G).sig.returnType = (some .boolean))   : ∀  (m : lu_M), lu_Ab lu_TM G (lu_Q lu_TM G ρ lu_RVi lu_sn) (f12_areTwo_b25 a1 a2 m) 25 [] [] ρ 0 0 [] m := by
  intro  m
  unfold f12_areTwo_b25
  refine lu_iconst X dX12_areTwo_25 (pc2 := 26) rfl ic_0 ?_
  exact w12_areTwo_b26 X hret (0 : Int32) m
def f12_areTwo (a1 : Int32) (a2 : Int32) (m : lu_M) : Option (Int32 × lu_M) :=
  lu_bi (f12_isPerson a1 m) fun x1 m2 =>
  if x1 = 0 then (f12_areTwo_b25 a1 a2 m2)
  else (lu_bi (f12_isPerson a2 m2) fun x3 m4 =>
  if x3 = 0 then (f12_areTwo_b25 a1 a2 m4)
  else (if a1 = a2 then (f12_areTwo_b25 a1 a2 m4)
  else (f12_areTwo_b26 a1 a2 (1 : Int32) m4)))
set_option maxRecDepth 20000 in
theorem c12_areTwo (l : Launch)   (a1 : Int32) (a2 : Int32) : lu_C lu_TM l yX12_areTwo cX12_areTwo 3 (some .boolean) 2 46 (fun ρ sa => [.ref (ρ 0), .int a1, .int a2]) (f12_areTwo a1 a2) lu_RVi lu_sn := by
  refine lu_met (cls := RX12) rfl (by decide +kernel) (fun _ _ => Nat.le_of_ble_eq_true rfl) ?_
  intro G ρ m hl X hret
  subst hl
  change lu_Ab lu_TM G (lu_Q lu_TM G ρ lu_RVi lu_sn) (f12_areTwo a1 a2 m) 0 [(0, .ref (ρ 0)), (1, .int a1), (2, .int a2)] [] ρ 0 0 [] m
  unfold f12_areTwo
  refine lu_aload_n X dX12_areTwo_0 (pc2 := 1) rfl rfl 0 rfl ?_
  refine lu_iload_n X dX12_areTwo_1 (pc2 := 2) rfl rfl 1 rfl ?_
  refine lu_invVi X (c12_isPerson _ a1) rfl q1272 mvV_12_isPerson kM_0 lM_0 (by decide) ⟨_, rfl, rfl⟩ rfl rfl (Nat.le_of_ble_eq_true rfl) (Nat.le_of_ble_eq_true rfl) (Nat.le_of_ble_eq_true rfl) ⟨Nat.zero_le _, Nat.zero_le _⟩ dX12_areTwo_2 (pc2 := 5) rfl rfl (fun x1 m2 => ?_)
  refine lu_if_eq (tgt := 25) X dX12_areTwo_5 (pc2 := 8) rfl (by decide) (fun _ => ?_) (fun _ => ?_)
  · exact lu_sub [] rfl (w12_areTwo_b25 X hret m2)
  · refine lu_aload_n X dX12_areTwo_8 (pc2 := 9) rfl rfl 0 rfl ?_
    refine lu_iload_n X dX12_areTwo_9 (pc2 := 10) rfl rfl 2 rfl ?_
    refine lu_invVi X (c12_isPerson _ a2) rfl q1272 mvV_12_isPerson kM_0 lM_0 (by decide) ⟨_, rfl, rfl⟩ rfl rfl (Nat.le_of_ble_eq_true rfl) (Nat.le_of_ble_eq_true rfl) (Nat.le_of_ble_eq_true rfl) ⟨Nat.zero_le _, Nat.zero_le _⟩ dX12_areTwo_10 (pc2 := 13) rfl rfl (fun x3 m4 => ?_)
    refine lu_if_eq (tgt := 25) X dX12_areTwo_13 (pc2 := 16) rfl (by decide) (fun _ => ?_) (fun _ => ?_)
    · exact lu_sub [] rfl (w12_areTwo_b25 X hret m4)
    · refine lu_iload_n X dX12_areTwo_16 (pc2 := 17) rfl rfl 1 rfl ?_
      refine lu_iload_n X dX12_areTwo_17 (pc2 := 18) rfl rfl 2 rfl ?_
      refine lu_icmp_eq (tgt := 25) X dX12_areTwo_18 (pc2 := 21) rfl (by decide) (fun _ => ?_) (fun _ => ?_)
      · exact lu_sub [] rfl (w12_areTwo_b25 X hret m4)
      · refine lu_iconst X dX12_areTwo_21 (pc2 := 22) rfl ic_1 ?_
        refine lu_goto (tgt := 26) X dX12_areTwo_22 (by decide) ?_
        exact lu_sub [] rfl (w12_areTwo_b26 X hret (1 : Int32) m4)

theorem dX12_owe_0 : decode cX12_owe 0 = .ok (.aload_n 0, 1) := by decide +kernel
theorem dX12_owe_1 : decode cX12_owe 1 = .ok (.iload_n 1, 1) := by decide +kernel
theorem dX12_owe_2 : decode cX12_owe 2 = .ok (.iload_n 2, 1) := by decide +kernel
theorem dX12_owe_3 : decode cX12_owe 3 = .ok (.invokevirtual 170, 3) := by decide +kernel
theorem dX12_owe_6 : decode cX12_owe 6 = .ok (.ifCond .eq 32, 3) := by decide +kernel
theorem dX12_owe_9 : decode cX12_owe 9 = .ok (.iload_n 3, 1) := by decide +kernel
theorem dX12_owe_10 : decode cX12_owe 10 = .ok (.i2l, 1) := by decide +kernel
theorem dX12_owe_11 : decode cX12_owe 11 = .ok (.lconst 0, 1) := by decide +kernel
theorem dX12_owe_12 : decode cX12_owe 12 = .ok (.ldc2_w 173, 3) := by decide +kernel
theorem dX12_owe_15 : decode cX12_owe 15 = .ok (.invokestatic 64, 3) := by decide +kernel
theorem dX12_owe_18 : decode cX12_owe 18 = .ok (.ifCond .eq 20, 3) := by decide +kernel
theorem dX12_owe_21 : decode cX12_owe 21 = .ok (.aload_n 0, 1) := by decide +kernel
theorem dX12_owe_22 : decode cX12_owe 22 = .ok (.bipush 76, 2) := by decide +kernel
theorem dX12_owe_24 : decode cX12_owe 24 = .ok (.bipush 6, 2) := by decide +kernel
theorem dX12_owe_26 : decode cX12_owe 26 = .ok (.iload_n 1, 1) := by decide +kernel
theorem dX12_owe_27 : decode cX12_owe 27 = .ok (.imul, 1) := by decide +kernel
theorem dX12_owe_28 : decode cX12_owe 28 = .ok (.iadd, 1) := by decide +kernel
theorem dX12_owe_29 : decode cX12_owe 29 = .ok (.iload_n 2, 1) := by decide +kernel
theorem dX12_owe_30 : decode cX12_owe 30 = .ok (.iadd, 1) := by decide +kernel
theorem dX12_owe_31 : decode cX12_owe 31 = .ok (.iload_n 3, 1) := by decide +kernel
theorem dX12_owe_32 : decode cX12_owe 32 = .ok (.invokevirtual 111, 3) := by decide +kernel
theorem dX12_owe_35 : decode cX12_owe 35 = .ok (.goto 4, 3) := by decide +kernel
theorem dX12_owe_38 : decode cX12_owe 38 = .ok (.iconst (-1), 1) := by decide +kernel
theorem dX12_owe_39 : decode cX12_owe 39 = .ok (.ireturn, 1) := by decide +kernel
def f12_owe_b39  (a1 : Int32) (a2 : Int32) (a3 : Int32) (s0 : Int32) (m : lu_M) : Option (Int32 × lu_M) :=
  some (s0, m)
set_option maxRecDepth 20000 in
theorem w12_owe_b39  {G : lu_G} {ρ : Nat → Nat} {a1 : Int32} {a2 : Int32} {a3 : Int32}  (X : lu_X G RX12 cX12_owe 4 3 68) (hret : (lu_me G).sig.returnType = (some .int))   : ∀ (s0 : Int32) (m : lu_M), lu_Ab lu_TM G (lu_Q lu_TM G ρ lu_RVi lu_sn) (f12_owe_b39 a1 a2 a3 s0 m) 39 [] [.int s0] ρ 0 0 [] m := by
  intro s0 m
  unfold f12_owe_b39
  exact lu_iret X hret dX12_owe_39
def f12_owe_b38  (a1 : Int32) (a2 : Int32) (a3 : Int32)  (m : lu_M) : Option (Int32 × lu_M) :=
  f12_owe_b39 a1 a2 a3 (-1 : Int32) m
set_option maxRecDepth 20000 in
theorem w12_owe_b38  {G : lu_G} {ρ : Nat → Nat} {a1 : Int32} {a2 : Int32} {a3 : Int32}  (X : lu_X G RX12 cX12_owe 4 3 68) (hret : (lu_me G).sig.returnType = (some .int))   : ∀  (m : lu_M), lu_Ab lu_TM G (lu_Q lu_TM G ρ lu_RVi lu_sn) (f12_owe_b38 a1 a2 a3 m) 38 [] [] ρ 0 0 [] m := by
  intro  m
  unfold f12_owe_b38
  refine lu_iconst X dX12_owe_38 (pc2 := 39) rfl ic_m1 ?_
  exact w12_owe_b39 X hret (-1 : Int32) m
def f12_owe (a1 : Int32) (a2 : Int32) (a3 : Int32) (m : lu_M) : Option (Int32 × lu_M) :=
  lu_bi (f12_areTwo a1 a2 m) fun x1 m2 =>
  if x1 = 0 then (f12_owe_b38 a1 a2 a3 m2)
  else (lu_bi (f12_in a3.toInt64 (0 : Int64) (99 : Int64) m2) fun x3 m4 =>
  if x3 = 0 then (f12_owe_b38 a1 a2 a3 m4)
  else (lu_bi (f12_becomes (((76 : Int32) + ((6 : Int32) * a1)) + a2) a3 m4) fun x5 m6 =>
  f12_owe_b39 a1 a2 a3 x5 m6))
set_option maxRecDepth 20000 in
theorem c12_owe (l : Launch)   (a1 : Int32) (a2 : Int32) (a3 : Int32) : lu_C lu_TM l yX12_owe cX12_owe 4 (some .int) 3 68 (fun ρ sa => [.ref (ρ 0), .int a1, .int a2, .int a3]) (f12_owe a1 a2 a3) lu_RVi lu_sn := by
  refine lu_met (cls := RX12) rfl (by decide +kernel) (fun _ _ => Nat.le_of_ble_eq_true rfl) ?_
  intro G ρ m hl X hret
  subst hl
  change lu_Ab lu_TM G (lu_Q lu_TM G ρ lu_RVi lu_sn) (f12_owe a1 a2 a3 m) 0 [(0, .ref (ρ 0)), (1, .int a1), (2, .int a2), (3, .int a3)] [] ρ 0 0 [] m
  unfold f12_owe
  refine lu_aload_n X dX12_owe_0 (pc2 := 1) rfl rfl 0 rfl ?_
  refine lu_iload_n X dX12_owe_1 (pc2 := 2) rfl rfl 1 rfl ?_
  refine lu_iload_n X dX12_owe_2 (pc2 := 3) rfl rfl 2 rfl ?_
  refine lu_invVi X (c12_areTwo _ a1 a2) rfl q1439 mvV_12_areTwo kM_0 lM_0 (by decide) ⟨_, rfl, rfl⟩ rfl rfl (Nat.le_of_ble_eq_true rfl) (Nat.le_of_ble_eq_true rfl) (Nat.le_of_ble_eq_true rfl) ⟨Nat.zero_le _, Nat.zero_le _⟩ dX12_owe_3 (pc2 := 6) rfl rfl (fun x1 m2 => ?_)
  refine lu_if_eq (tgt := 38) X dX12_owe_6 (pc2 := 9) rfl (by decide) (fun _ => ?_) (fun _ => ?_)
  · exact lu_sub [] rfl (w12_owe_b38 X hret m2)
  · refine lu_iload_n X dX12_owe_9 (pc2 := 10) rfl rfl 3 rfl ?_
    refine lu_i2l X dX12_owe_10 (pc2 := 11) rfl ?_
    refine lu_lconst (v := (0 : Int64)) X dX12_owe_11 (pc2 := 12) rfl (by decide) ?_
    refine lu_ldc2 X q1443 dX12_owe_12 (pc2 := 15) rfl ?_
    refine lu_invSi X (c12_in _ a3.toInt64 (0 : Int64) (99 : Int64)) rfl q1261 mvS_12_in rfl rfl (Nat.le_of_ble_eq_true rfl) (Nat.le_of_ble_eq_true rfl) (Nat.le_of_ble_eq_true rfl) ⟨Nat.zero_le _, Nat.zero_le _⟩ dX12_owe_15 (pc2 := 18) rfl rfl (fun x3 m4 => ?_)
    refine lu_if_eq (tgt := 38) X dX12_owe_18 (pc2 := 21) rfl (by decide) (fun _ => ?_) (fun _ => ?_)
    · exact lu_sub [] rfl (w12_owe_b38 X hret m4)
    · refine lu_aload_n X dX12_owe_21 (pc2 := 22) rfl rfl 0 rfl ?_
      refine lu_bipush X dX12_owe_22 (pc2 := 24) rfl bp_76 ?_
      refine lu_bipush X dX12_owe_24 (pc2 := 26) rfl bp_6 ?_
      refine lu_iload_n X dX12_owe_26 (pc2 := 27) rfl rfl 1 rfl ?_
      refine lu_imul X dX12_owe_27 (pc2 := 28) rfl ?_
      refine lu_iadd X dX12_owe_28 (pc2 := 29) rfl ?_
      refine lu_iload_n X dX12_owe_29 (pc2 := 30) rfl rfl 2 rfl ?_
      refine lu_iadd X dX12_owe_30 (pc2 := 31) rfl ?_
      refine lu_iload_n X dX12_owe_31 (pc2 := 32) rfl rfl 3 rfl ?_
      refine lu_invVi X (c12_becomes _ (((76 : Int32) + ((6 : Int32) * a1)) + a2) a3) rfl q1328 mvV_12_becomes kM_0 lM_0 (by decide) ⟨_, rfl, rfl⟩ rfl rfl (Nat.le_of_ble_eq_true rfl) (Nat.le_of_ble_eq_true rfl) (Nat.le_of_ble_eq_true rfl) ⟨Nat.zero_le _, Nat.zero_le _⟩ dX12_owe_32 (pc2 := 35) rfl rfl (fun x5 m6 => ?_)
      refine lu_goto (tgt := 39) X dX12_owe_35 (by decide) ?_
      exact lu_sub [] rfl (w12_owe_b39 X hret x5 m6)

theorem dX12_owes_0 : decode cX12_owes 0 = .ok (.aload_n 0, 1) := by decide +kernel
theorem dX12_owes_1 : decode cX12_owes 1 = .ok (.iload_n 1, 1) := by decide +kernel
theorem dX12_owes_2 : decode cX12_owes 2 = .ok (.iload_n 2, 1) := by decide +kernel
theorem dX12_owes_3 : decode cX12_owes 3 = .ok (.invokevirtual 170, 3) := by decide +kernel
theorem dX12_owes_6 : decode cX12_owes 6 = .ok (.ifCond .eq 20, 3) := by decide +kernel
theorem dX12_owes_9 : decode cX12_owes 9 = .ok (.aload_n 0, 1) := by decide +kernel
theorem dX12_owes_10 : decode cX12_owes 10 = .ok (.getfield 7, 3) := by decide +kernel
theorem dX12_owes_13 : decode cX12_owes 13 = .ok (.bipush 76, 2) := by decide +kernel
theorem dX12_owes_15 : decode cX12_owes 15 = .ok (.bipush 6, 2) := by decide +kernel
theorem dX12_owes_17 : decode cX12_owes 17 = .ok (.iload_n 1, 1) := by decide +kernel
theorem dX12_owes_18 : decode cX12_owes 18 = .ok (.imul, 1) := by decide +kernel
theorem dX12_owes_19 : decode cX12_owes 19 = .ok (.iadd, 1) := by decide +kernel
theorem dX12_owes_20 : decode cX12_owes 20 = .ok (.iload_n 2, 1) := by decide +kernel
theorem dX12_owes_21 : decode cX12_owes 21 = .ok (.iadd, 1) := by decide +kernel
theorem dX12_owes_22 : decode cX12_owes 22 = .ok (.iaload, 1) := by decide +kernel
theorem dX12_owes_23 : decode cX12_owes 23 = .ok (.goto 4, 3) := by decide +kernel
theorem dX12_owes_26 : decode cX12_owes 26 = .ok (.iconst (-1), 1) := by decide +kernel
theorem dX12_owes_27 : decode cX12_owes 27 = .ok (.ireturn, 1) := by decide +kernel
def f12_owes_b27  (a1 : Int32) (a2 : Int32) (s0 : Int32) (m : lu_M) : Option (Int32 × lu_M) :=
  some (s0, m)
set_option maxRecDepth 20000 in
theorem w12_owes_b27  {G : lu_G} {ρ : Nat → Nat} {a1 : Int32} {a2 : Int32}  (X : lu_X G RX12 cX12_owes 3 3 68) (hret : (lu_me G).sig.returnType = (some .int))   : ∀ (s0 : Int32) (m : lu_M), lu_Ab lu_TM G (lu_Q lu_TM G ρ lu_RVi lu_sn) (f12_owes_b27 a1 a2 s0 m) 27 [] [.int s0] ρ 0 0 [] m := by
  intro s0 m
  unfold f12_owes_b27
  exact lu_iret X hret dX12_owes_27
def f12_owes (a1 : Int32) (a2 : Int32) (m : lu_M) : Option (Int32 × lu_M) :=
  lu_bi (f12_areTwo a1 a2 m) fun x1 m2 =>
  if x1 = 0 then (f12_owes_b27 a1 a2 (-1 : Int32) m2)
  else (lu_gd (lu_ib (((76 : Int32) + ((6 : Int32) * a1)) + a2) 368) <|
  f12_owes_b27 a1 a2 (m2 1 (((76 : Int32) + ((6 : Int32) * a1)) + a2).toNatClampNeg) m2)
set_option maxRecDepth 20000 in
theorem c12_owes (l : Launch)   (a1 : Int32) (a2 : Int32) : lu_C lu_TM l yX12_owes cX12_owes 3 (some .int) 3 68 (fun ρ sa => [.ref (ρ 0), .int a1, .int a2]) (f12_owes a1 a2) lu_RVi lu_sn := by
  refine lu_met (cls := RX12) rfl (by decide +kernel) (fun _ _ => Nat.le_of_ble_eq_true rfl) ?_
  intro G ρ m hl X hret
  subst hl
  change lu_Ab lu_TM G (lu_Q lu_TM G ρ lu_RVi lu_sn) (f12_owes a1 a2 m) 0 [(0, .ref (ρ 0)), (1, .int a1), (2, .int a2)] [] ρ 0 0 [] m
  unfold f12_owes
  refine lu_aload_n X dX12_owes_0 (pc2 := 1) rfl rfl 0 rfl ?_
  refine lu_iload_n X dX12_owes_1 (pc2 := 2) rfl rfl 1 rfl ?_
  refine lu_iload_n X dX12_owes_2 (pc2 := 3) rfl rfl 2 rfl ?_
  refine lu_invVi X (c12_areTwo _ a1 a2) rfl q1439 mvV_12_areTwo kM_0 lM_0 (by decide) ⟨_, rfl, rfl⟩ rfl rfl (Nat.le_of_ble_eq_true rfl) (Nat.le_of_ble_eq_true rfl) (Nat.le_of_ble_eq_true rfl) ⟨Nat.zero_le _, Nat.zero_le _⟩ dX12_owes_3 (pc2 := 6) rfl rfl (fun x1 m2 => ?_)
  refine lu_if_eq (tgt := 26) X dX12_owes_6 (pc2 := 9) rfl (by decide) (fun _ => ?_) (fun _ => ?_)
  · refine lu_iconst X dX12_owes_26 (pc2 := 27) rfl ic_m1 ?_
    exact lu_sub [] rfl (w12_owes_b27 X hret (-1 : Int32) m2)
  · refine lu_aload_n X dX12_owes_9 (pc2 := 10) rfl rfl 0 rfl ?_
    refine lu_getr (r2 := 1) X rfl fl12_7 rfl kM_0 lM_0 dX12_owes_10 (pc2 := 13) rfl ?_
    refine lu_bipush X dX12_owes_13 (pc2 := 15) rfl bp_76 ?_
    refine lu_bipush X dX12_owes_15 (pc2 := 17) rfl bp_6 ?_
    refine lu_iload_n X dX12_owes_17 (pc2 := 18) rfl rfl 1 rfl ?_
    refine lu_imul X dX12_owes_18 (pc2 := 19) rfl ?_
    refine lu_iadd X dX12_owes_19 (pc2 := 20) rfl ?_
    refine lu_iload_n X dX12_owes_20 (pc2 := 21) rfl rfl 2 rfl ?_
    refine lu_iadd X dX12_owes_21 (pc2 := 22) rfl ?_
    refine lu_iald X kM_1 lM_1 dX12_owes_22 (pc2 := 23) rfl ?_
    refine lu_goto (tgt := 27) X dX12_owes_23 (by decide) ?_
    exact lu_sub [] rfl (w12_owes_b27 X hret (m2 1 (((76 : Int32) + ((6 : Int32) * a1)) + a2).toNatClampNeg) m2)

theorem dX12_netOf_0 : decode cX12_netOf 0 = .ok (.iconst 0, 1) := by decide +kernel
theorem dX12_netOf_1 : decode cX12_netOf 1 = .ok (.istore_n 2, 1) := by decide +kernel
theorem dX12_netOf_2 : decode cX12_netOf 2 = .ok (.iconst 0, 1) := by decide +kernel
theorem dX12_netOf_3 : decode cX12_netOf 3 = .ok (.istore_n 3, 1) := by decide +kernel
theorem dX12_netOf_4 : decode cX12_netOf 4 = .ok (.iload_n 3, 1) := by decide +kernel
theorem dX12_netOf_5 : decode cX12_netOf 5 = .ok (.bipush 6, 2) := by decide +kernel
theorem dX12_netOf_7 : decode cX12_netOf 7 = .ok (.if_icmp .ge 41, 3) := by decide +kernel
theorem dX12_netOf_10 : decode cX12_netOf 10 = .ok (.iload_n 2, 1) := by decide +kernel
theorem dX12_netOf_11 : decode cX12_netOf 11 = .ok (.aload_n 0, 1) := by decide +kernel
theorem dX12_netOf_12 : decode cX12_netOf 12 = .ok (.getfield 7, 3) := by decide +kernel
theorem dX12_netOf_15 : decode cX12_netOf 15 = .ok (.bipush 76, 2) := by decide +kernel
theorem dX12_netOf_17 : decode cX12_netOf 17 = .ok (.bipush 6, 2) := by decide +kernel
theorem dX12_netOf_19 : decode cX12_netOf 19 = .ok (.iload_n 3, 1) := by decide +kernel
theorem dX12_netOf_20 : decode cX12_netOf 20 = .ok (.imul, 1) := by decide +kernel
theorem dX12_netOf_21 : decode cX12_netOf 21 = .ok (.iadd, 1) := by decide +kernel
theorem dX12_netOf_22 : decode cX12_netOf 22 = .ok (.iload_n 1, 1) := by decide +kernel
theorem dX12_netOf_23 : decode cX12_netOf 23 = .ok (.iadd, 1) := by decide +kernel
theorem dX12_netOf_24 : decode cX12_netOf 24 = .ok (.iaload, 1) := by decide +kernel
theorem dX12_netOf_25 : decode cX12_netOf 25 = .ok (.aload_n 0, 1) := by decide +kernel
theorem dX12_netOf_26 : decode cX12_netOf 26 = .ok (.getfield 7, 3) := by decide +kernel
theorem dX12_netOf_29 : decode cX12_netOf 29 = .ok (.bipush 76, 2) := by decide +kernel
theorem dX12_netOf_31 : decode cX12_netOf 31 = .ok (.bipush 6, 2) := by decide +kernel
theorem dX12_netOf_33 : decode cX12_netOf 33 = .ok (.iload_n 1, 1) := by decide +kernel
theorem dX12_netOf_34 : decode cX12_netOf 34 = .ok (.imul, 1) := by decide +kernel
theorem dX12_netOf_35 : decode cX12_netOf 35 = .ok (.iadd, 1) := by decide +kernel
theorem dX12_netOf_36 : decode cX12_netOf 36 = .ok (.iload_n 3, 1) := by decide +kernel
theorem dX12_netOf_37 : decode cX12_netOf 37 = .ok (.iadd, 1) := by decide +kernel
theorem dX12_netOf_38 : decode cX12_netOf 38 = .ok (.iaload, 1) := by decide +kernel
theorem dX12_netOf_39 : decode cX12_netOf 39 = .ok (.isub, 1) := by decide +kernel
theorem dX12_netOf_40 : decode cX12_netOf 40 = .ok (.iadd, 1) := by decide +kernel
theorem dX12_netOf_41 : decode cX12_netOf 41 = .ok (.istore_n 2, 1) := by decide +kernel
theorem dX12_netOf_42 : decode cX12_netOf 42 = .ok (.iinc 3 1, 3) := by decide +kernel
theorem dX12_netOf_45 : decode cX12_netOf 45 = .ok (.goto (-41), 3) := by decide +kernel
theorem dX12_netOf_48 : decode cX12_netOf 48 = .ok (.iload_n 2, 1) := by decide +kernel
theorem dX12_netOf_49 : decode cX12_netOf 49 = .ok (.ireturn, 1) := by decide +kernel
def f12_netOf_b4B (K48 : Int32 → lu_M → Option (Int32 × lu_M)) (rec : Int32 → Int32 → lu_M → Option (Int32 × lu_M)) (a1 : Int32) (v2 : Int32) (v3 : Int32) (m : lu_M) : Option (Int32 × lu_M) :=
  if (6 : Int32) ≤ v3 then (K48 v2 m)
  else (lu_gd (lu_ib (((76 : Int32) + ((6 : Int32) * v3)) + a1) 368) <|
  lu_gd (lu_ib (((76 : Int32) + ((6 : Int32) * a1)) + v3) 368) <|
  lu_nm ((v2 + ((m 1 (((76 : Int32) + ((6 : Int32) * v3)) + a1).toNatClampNeg) - (m 1 (((76 : Int32) + ((6 : Int32) * a1)) + v3).toNatClampNeg)))) fun x1 =>
  rec x1 (v3 + (1 : Int32)) m)
def f12_netOf_b4 (K48 : Int32 → lu_M → Option (Int32 × lu_M)) (a1 : Int32) : Nat → Int32 → Int32 → lu_M → Option (Int32 × lu_M)
  | 0, _, _, _ => none
  | n + 1, v2, v3, m => f12_netOf_b4B K48 (f12_netOf_b4 K48 a1 n) a1 v2 v3 m
set_option maxRecDepth 20000 in
theorem w12_netOf_b4B  {G : lu_G} {ρ : Nat → Nat} {a1 : Int32} {K48 : Int32 → lu_M → Option (Int32 × lu_M)} {rec : Int32 → Int32 → lu_M → Option (Int32 × lu_M)} (X : lu_X G RX12 cX12_netOf 4 0 0) (hret : (lu_me G).sig.returnType = (some .int))  (hK48 : ∀ (v2 : Int32) (m : lu_M), lu_Ab lu_TM G (lu_Q lu_TM G ρ lu_RVi lu_sn) (K48 v2 m) 48 [(2, .int v2)] [] ρ 0 0 [] m) (hrec : ∀ (v2 : Int32) (v3 : Int32) (m : lu_M), lu_Ab lu_TM G (lu_Q lu_TM G ρ lu_RVi lu_sn) (rec v2 v3 m) 4 [(0, .ref (ρ 0)), (1, .int a1), (2, .int v2), (3, .int v3)] [] ρ 0 0 [] m) : ∀ (v2 : Int32) (v3 : Int32) (m : lu_M), lu_Ab lu_TM G (lu_Q lu_TM G ρ lu_RVi lu_sn) (f12_netOf_b4B K48 rec a1 v2 v3 m) 4 [(0, .ref (ρ 0)), (1, .int a1), (2, .int v2), (3, .int v3)] [] ρ 0 0 [] m := by
  intro v2 v3 m
  unfold f12_netOf_b4B
  refine lu_iload_n X dX12_netOf_4 (pc2 := 5) rfl rfl 3 rfl ?_
  refine lu_bipush X dX12_netOf_5 (pc2 := 7) rfl bp_6 ?_
  refine lu_icmp_ge (tgt := 48) X dX12_netOf_7 (pc2 := 10) rfl (by decide) (fun _ => ?_) (fun _ => ?_)
  · exact lu_sub [2] rfl (hK48 v2 m)
  · refine lu_iload_n X dX12_netOf_10 (pc2 := 11) rfl rfl 2 rfl ?_
    refine lu_aload_n X dX12_netOf_11 (pc2 := 12) rfl rfl 0 rfl ?_
    refine lu_getr (r2 := 1) X rfl fl12_7 rfl kM_0 lM_0 dX12_netOf_12 (pc2 := 15) rfl ?_
    refine lu_bipush X dX12_netOf_15 (pc2 := 17) rfl bp_76 ?_
    refine lu_bipush X dX12_netOf_17 (pc2 := 19) rfl bp_6 ?_
    refine lu_iload_n X dX12_netOf_19 (pc2 := 20) rfl rfl 3 rfl ?_
    refine lu_imul X dX12_netOf_20 (pc2 := 21) rfl ?_
    refine lu_iadd X dX12_netOf_21 (pc2 := 22) rfl ?_
    refine lu_iload_n X dX12_netOf_22 (pc2 := 23) rfl rfl 1 rfl ?_
    refine lu_iadd X dX12_netOf_23 (pc2 := 24) rfl ?_
    refine lu_iald X kM_1 lM_1 dX12_netOf_24 (pc2 := 25) rfl ?_
    refine lu_aload_n X dX12_netOf_25 (pc2 := 26) rfl rfl 0 rfl ?_
    refine lu_getr (r2 := 1) X rfl fl12_7 rfl kM_0 lM_0 dX12_netOf_26 (pc2 := 29) rfl ?_
    refine lu_bipush X dX12_netOf_29 (pc2 := 31) rfl bp_76 ?_
    refine lu_bipush X dX12_netOf_31 (pc2 := 33) rfl bp_6 ?_
    refine lu_iload_n X dX12_netOf_33 (pc2 := 34) rfl rfl 1 rfl ?_
    refine lu_imul X dX12_netOf_34 (pc2 := 35) rfl ?_
    refine lu_iadd X dX12_netOf_35 (pc2 := 36) rfl ?_
    refine lu_iload_n X dX12_netOf_36 (pc2 := 37) rfl rfl 3 rfl ?_
    refine lu_iadd X dX12_netOf_37 (pc2 := 38) rfl ?_
    refine lu_iald X kM_1 lM_1 dX12_netOf_38 (pc2 := 39) rfl ?_
    refine lu_isub X dX12_netOf_39 (pc2 := 40) rfl ?_
    refine lu_iadd X dX12_netOf_40 (pc2 := 41) rfl ?_
    refine lu_topi (fun x1 => ?_)
    refine lu_istore_n (lv2 := [(2, .int x1), (0, .ref (ρ 0)), (1, .int a1), (3, .int v3)]) X dX12_netOf_41 (pc2 := 42) rfl rfl (by decide) rfl ?_
    refine lu_iinc (lv2 := [(3, .int (v3 + (1 : Int32))), (2, .int x1), (0, .ref (ρ 0)), (1, .int a1)]) X dX12_netOf_42 (pc2 := 45) rfl 3 rfl (lu_ii _ ic_1) (by decide) rfl ?_
    refine lu_goto (tgt := 4) X dX12_netOf_45 (by decide) ?_
    exact lu_sub [2, 3, 1, 0] rfl (hrec x1 (v3 + (1 : Int32)) m)
theorem w12_netOf_b4  {G : lu_G} {ρ : Nat → Nat} {a1 : Int32} {K48 : Int32 → lu_M → Option (Int32 × lu_M)} (X : lu_X G RX12 cX12_netOf 4 0 0) (hret : (lu_me G).sig.returnType = (some .int))  (hK48 : ∀ (v2 : Int32) (m : lu_M), lu_Ab lu_TM G (lu_Q lu_TM G ρ lu_RVi lu_sn) (K48 v2 m) 48 [(2, .int v2)] [] ρ 0 0 [] m) : ∀ (n : Nat) (v2 : Int32) (v3 : Int32) (m : lu_M), lu_Ab lu_TM G (lu_Q lu_TM G ρ lu_RVi lu_sn) (f12_netOf_b4 K48 a1 n v2 v3 m) 4 [(0, .ref (ρ 0)), (1, .int a1), (2, .int v2), (3, .int v3)] [] ρ 0 0 [] m := by
  intro n
  induction n with
  | zero => intro v2 v3 m; exact lu_none
  | succ n ih => intro v2 v3 m; exact w12_netOf_b4B X hret hK48 ih v2 v3 m
def f12_netOf_b48  (a1 : Int32) (v2 : Int32) (m : lu_M) : Option (Int32 × lu_M) :=
  some (v2, m)
set_option maxRecDepth 20000 in
theorem w12_netOf_b48  {G : lu_G} {ρ : Nat → Nat} {a1 : Int32}  (X : lu_X G RX12 cX12_netOf 4 0 0) (hret : (lu_me G).sig.returnType = (some .int))   : ∀ (v2 : Int32) (m : lu_M), lu_Ab lu_TM G (lu_Q lu_TM G ρ lu_RVi lu_sn) (f12_netOf_b48 a1 v2 m) 48 [(2, .int v2)] [] ρ 0 0 [] m := by
  intro v2 m
  unfold f12_netOf_b48
  refine lu_iload_n X dX12_netOf_48 (pc2 := 49) rfl rfl 0 rfl ?_
  exact lu_iret X hret dX12_netOf_49
def f12_netOf (a1 : Int32) (m : lu_M) : Option (Int32 × lu_M) :=
  f12_netOf_b4 (f12_netOf_b48 a1) a1 lu_fu (0 : Int32) (0 : Int32) m
set_option maxRecDepth 20000 in
theorem c12_netOf (l : Launch)   (a1 : Int32) : lu_C lu_TM l yX12_netOf cX12_netOf 4 (some .int) 0 0 (fun ρ sa => [.ref (ρ 0), .int a1]) (f12_netOf a1) lu_RVi lu_sn := by
  refine lu_met (cls := RX12) rfl (by decide +kernel) (fun _ _ => Nat.le_of_ble_eq_true rfl) ?_
  intro G ρ m hl X hret
  subst hl
  change lu_Ab lu_TM G (lu_Q lu_TM G ρ lu_RVi lu_sn) (f12_netOf a1 m) 0 [(0, .ref (ρ 0)), (1, .int a1)] [] ρ 0 0 [] m
  unfold f12_netOf
  refine lu_iconst X dX12_netOf_0 (pc2 := 1) rfl ic_0 ?_
  refine lu_istore_n (lv2 := [(2, .int (0 : Int32)), (0, .ref (ρ 0)), (1, .int a1)]) X dX12_netOf_1 (pc2 := 2) rfl rfl (by decide) rfl ?_
  refine lu_iconst X dX12_netOf_2 (pc2 := 3) rfl ic_0 ?_
  refine lu_istore_n (lv2 := [(3, .int (0 : Int32)), (2, .int (0 : Int32)), (0, .ref (ρ 0)), (1, .int a1)]) X dX12_netOf_3 (pc2 := 4) rfl rfl (by decide) rfl ?_
  exact lu_sub [2, 3, 1, 0] rfl (w12_netOf_b4 X hret (w12_netOf_b48 X hret) lu_fu (0 : Int32) (0 : Int32) m)

/-! WALKS of methods (written by a program out of their instructions): functions of the memory, and contracts -/
theorem dX12_net_0 : decode cX12_net 0 = .ok (.aload_n 0, 1) := by decide +kernel
theorem dX12_net_1 : decode cX12_net 1 = .ok (.iload_n 1, 1) := by decide +kernel
theorem dX12_net_2 : decode cX12_net 2 = .ok (.invokevirtual 96, 3) := by decide +kernel
theorem dX12_net_5 : decode cX12_net 5 = .ok (.ifCond .eq 15, 3) := by decide +kernel
theorem dX12_net_8 : decode cX12_net 8 = .ok (.sipush 10000, 3) := by decide +kernel
theorem dX12_net_11 : decode cX12_net 11 = .ok (.aload_n 0, 1) := by decide +kernel
theorem dX12_net_12 : decode cX12_net 12 = .ok (.iload_n 1, 1) := by decide +kernel
theorem dX12_net_13 : decode cX12_net 13 = .ok (.invokevirtual 175, 3) := by decide +kernel
theorem dX12_net_16 : decode cX12_net 16 = .ok (.iadd, 1) := by decide +kernel
theorem dX12_net_17 : decode cX12_net 17 = .ok (.goto 4, 3) := by decide +kernel
theorem dX12_net_20 : decode cX12_net 20 = .ok (.iconst (-1), 1) := by decide +kernel
theorem dX12_net_21 : decode cX12_net 21 = .ok (.ireturn, 1) := by decide +kernel
def f12_net_b21  (a1 : Int32) (s0 : Int32) (m : lu_M) : Option (Int32 × lu_M) :=
  some (s0, m)
set_option maxRecDepth 20000 in
theorem w12_net_b21  {G : lu_G} {ρ : Nat → Nat} {a1 : Int32}  (X : lu_X G RX12 cX12_net 2 2 46) (hret : (lu_me G).sig.returnType = (some .int))   : ∀ (s0 : Int32) (m : lu_M), lu_Ab lu_TM G (lu_Q lu_TM G ρ lu_RVi lu_sn) (f12_net_b21 a1 s0 m) 21 [] [.int s0] ρ 0 0 [] m := by
  intro s0 m
  unfold f12_net_b21
  exact lu_iret X hret dX12_net_21
def f12_net (a1 : Int32) (m : lu_M) : Option (Int32 × lu_M) :=
  lu_bi (f12_isPerson a1 m) fun x1 m2 =>
  if x1 = 0 then (f12_net_b21 a1 (-1 : Int32) m2)
  else (lu_bi (f12_netOf a1 m2) fun x3 m4 =>
  f12_net_b21 a1 ((10000 : Int32) + x3) m4)
set_option maxRecDepth 20000 in
theorem c12_net (l : Launch)   (a1 : Int32) : lu_C lu_TM l yX12_net cX12_net 2 (some .int) 2 46 (fun ρ sa => [.ref (ρ 0), .int a1]) (f12_net a1) lu_RVi lu_sn := by
  refine lu_met (cls := RX12) rfl (by decide +kernel) (fun _ _ => Nat.le_of_ble_eq_true rfl) ?_
  intro G ρ m hl X hret
  subst hl
  change lu_Ab lu_TM G (lu_Q lu_TM G ρ lu_RVi lu_sn) (f12_net a1 m) 0 [(0, .ref (ρ 0)), (1, .int a1)] [] ρ 0 0 [] m
  unfold f12_net
  refine lu_aload_n X dX12_net_0 (pc2 := 1) rfl rfl 0 rfl ?_
  refine lu_iload_n X dX12_net_1 (pc2 := 2) rfl rfl 1 rfl ?_
  refine lu_invVi X (c12_isPerson _ a1) rfl q1272 mvV_12_isPerson kM_0 lM_0 (by decide) ⟨_, rfl, rfl⟩ rfl rfl (Nat.le_of_ble_eq_true rfl) (Nat.le_of_ble_eq_true rfl) (Nat.le_of_ble_eq_true rfl) ⟨Nat.zero_le _, Nat.zero_le _⟩ dX12_net_2 (pc2 := 5) rfl rfl (fun x1 m2 => ?_)
  refine lu_if_eq (tgt := 20) X dX12_net_5 (pc2 := 8) rfl (by decide) (fun _ => ?_) (fun _ => ?_)
  · refine lu_iconst X dX12_net_20 (pc2 := 21) rfl ic_m1 ?_
    exact lu_sub [] rfl (w12_net_b21 X hret (-1 : Int32) m2)
  · refine lu_sipush X dX12_net_8 (pc2 := 11) rfl sp_10000 ?_
    refine lu_aload_n X dX12_net_11 (pc2 := 12) rfl rfl 0 rfl ?_
    refine lu_iload_n X dX12_net_12 (pc2 := 13) rfl rfl 1 rfl ?_
    refine lu_invVi X (c12_netOf _ a1) rfl q1452 mvV_12_netOf kM_0 lM_0 (by decide) ⟨_, rfl, rfl⟩ rfl rfl (Nat.le_of_ble_eq_true rfl) (Nat.le_of_ble_eq_true rfl) (Nat.le_of_ble_eq_true rfl) ⟨Nat.zero_le _, Nat.zero_le _⟩ dX12_net_13 (pc2 := 16) rfl rfl (fun x3 m4 => ?_)
    refine lu_iadd X dX12_net_16 (pc2 := 17) rfl ?_
    refine lu_goto (tgt := 21) X dX12_net_17 (by decide) ?_
    exact lu_sub [] rfl (w12_net_b21 X hret ((10000 : Int32) + x3) m4)

theorem dX12_owedBy_0 : decode cX12_owedBy 0 = .ok (.iconst 0, 1) := by decide +kernel
theorem dX12_owedBy_1 : decode cX12_owedBy 1 = .ok (.istore_n 2, 1) := by decide +kernel
theorem dX12_owedBy_2 : decode cX12_owedBy 2 = .ok (.iconst 0, 1) := by decide +kernel
theorem dX12_owedBy_3 : decode cX12_owedBy 3 = .ok (.istore_n 3, 1) := by decide +kernel
theorem dX12_owedBy_4 : decode cX12_owedBy 4 = .ok (.iload_n 3, 1) := by decide +kernel
theorem dX12_owedBy_5 : decode cX12_owedBy 5 = .ok (.bipush 36, 2) := by decide +kernel
theorem dX12_owedBy_7 : decode cX12_owedBy 7 = .ok (.if_icmp .ge 46, 3) := by decide +kernel
theorem dX12_owedBy_10 : decode cX12_owedBy 10 = .ok (.iload_n 2, 1) := by decide +kernel
theorem dX12_owedBy_11 : decode cX12_owedBy 11 = .ok (.iload_n 1, 1) := by decide +kernel
theorem dX12_owedBy_12 : decode cX12_owedBy 12 = .ok (.iload_n 3, 1) := by decide +kernel
theorem dX12_owedBy_13 : decode cX12_owedBy 13 = .ok (.bipush 6, 2) := by decide +kernel
theorem dX12_owedBy_15 : decode cX12_owedBy 15 = .ok (.idiv, 1) := by decide +kernel
theorem dX12_owedBy_16 : decode cX12_owedBy 16 = .ok (.ishr, 1) := by decide +kernel
theorem dX12_owedBy_17 : decode cX12_owedBy 17 = .ok (.iconst 1, 1) := by decide +kernel
theorem dX12_owedBy_18 : decode cX12_owedBy 18 = .ok (.iand, 1) := by decide +kernel
theorem dX12_owedBy_19 : decode cX12_owedBy 19 = .ok (.iconst 1, 1) := by decide +kernel
theorem dX12_owedBy_20 : decode cX12_owedBy 20 = .ok (.if_icmp .ne 24, 3) := by decide +kernel
theorem dX12_owedBy_23 : decode cX12_owedBy 23 = .ok (.aload_n 0, 1) := by decide +kernel
theorem dX12_owedBy_24 : decode cX12_owedBy 24 = .ok (.getfield 7, 3) := by decide +kernel
theorem dX12_owedBy_27 : decode cX12_owedBy 27 = .ok (.bipush 76, 2) := by decide +kernel
theorem dX12_owedBy_29 : decode cX12_owedBy 29 = .ok (.iload_n 3, 1) := by decide +kernel
theorem dX12_owedBy_30 : decode cX12_owedBy 30 = .ok (.iadd, 1) := by decide +kernel
theorem dX12_owedBy_31 : decode cX12_owedBy 31 = .ok (.iaload, 1) := by decide +kernel
theorem dX12_owedBy_32 : decode cX12_owedBy 32 = .ok (.ifCond .le 12, 3) := by decide +kernel
theorem dX12_owedBy_35 : decode cX12_owedBy 35 = .ok (.iconst 1, 1) := by decide +kernel
theorem dX12_owedBy_36 : decode cX12_owedBy 36 = .ok (.iload_n 3, 1) := by decide +kernel
theorem dX12_owedBy_37 : decode cX12_owedBy 37 = .ok (.bipush 6, 2) := by decide +kernel
theorem dX12_owedBy_39 : decode cX12_owedBy 39 = .ok (.irem, 1) := by decide +kernel
theorem dX12_owedBy_40 : decode cX12_owedBy 40 = .ok (.ishl, 1) := by decide +kernel
theorem dX12_owedBy_41 : decode cX12_owedBy 41 = .ok (.goto 4, 3) := by decide +kernel
theorem dX12_owedBy_44 : decode cX12_owedBy 44 = .ok (.iconst 0, 1) := by decide +kernel
theorem dX12_owedBy_45 : decode cX12_owedBy 45 = .ok (.ior, 1) := by decide +kernel
theorem dX12_owedBy_46 : decode cX12_owedBy 46 = .ok (.istore_n 2, 1) := by decide +kernel
theorem dX12_owedBy_47 : decode cX12_owedBy 47 = .ok (.iinc 3 1, 3) := by decide +kernel
theorem dX12_owedBy_50 : decode cX12_owedBy 50 = .ok (.goto (-46), 3) := by decide +kernel
theorem dX12_owedBy_53 : decode cX12_owedBy 53 = .ok (.iload_n 2, 1) := by decide +kernel
theorem dX12_owedBy_54 : decode cX12_owedBy 54 = .ok (.ireturn, 1) := by decide +kernel
def f12_owedBy_b45 (K4 : Int32 → Int32 → lu_M → Option (Int32 × lu_M)) (K53 : Int32 → lu_M → Option (Int32 × lu_M)) (a1 : Int32) (v3 : Int32) (s0 : Int32) (s1 : Int32) (m : lu_M) : Option (Int32 × lu_M) :=
  lu_nm ((s1 ||| s0)) fun x1 =>
  K4 x1 (v3 + (1 : Int32)) m
set_option maxRecDepth 20000 in
theorem w12_owedBy_b45  {G : lu_G} {ρ : Nat → Nat} {a1 : Int32} {K4 : Int32 → Int32 → lu_M → Option (Int32 × lu_M)} {K53 : Int32 → lu_M → Option (Int32 × lu_M)} (X : lu_X G RX12 cX12_owedBy 4 0 0) (hret : (lu_me G).sig.returnType = (some .int))  (hK4 : ∀ (v2 : Int32) (v3 : Int32) (m : lu_M), lu_Ab lu_TM G (lu_Q lu_TM G ρ lu_RVi lu_sn) (K4 v2 v3 m) 4 [(0, .ref (ρ 0)), (1, .int a1), (2, .int v2), (3, .int v3)] [] ρ 0 0 [] m) (hK53 : ∀ (v2 : Int32) (m : lu_M), lu_Ab lu_TM G (lu_Q lu_TM G ρ lu_RVi lu_sn) (K53 v2 m) 53 [(2, .int v2)] [] ρ 0 0 [] m) : ∀ (v3 : Int32) (s0 : Int32) (s1 : Int32) (m : lu_M), lu_Ab lu_TM G (lu_Q lu_TM G ρ lu_RVi lu_sn) (f12_owedBy_b45 K4 K53 a1 v3 s0 s1 m) 45 [(0, .ref (ρ 0)), (1, .int a1), (3, .int v3)] [.int s0, .int s1] ρ 0 0 [] m := by
  intro v3 s0 s1 m
  unfold f12_owedBy_b45
  refine lu_ior X dX12_owedBy_45 (pc2 := 46) rfl ?_
  refine lu_topi (fun x1 => ?_)
  refine lu_istore_n (lv2 := [(2, .int x1), (0, .ref (ρ 0)), (1, .int a1), (3, .int v3)]) X dX12_owedBy_46 (pc2 := 47) rfl rfl (by decide) rfl ?_
  refine lu_iinc (lv2 := [(3, .int (v3 + (1 : Int32))), (2, .int x1), (0, .ref (ρ 0)), (1, .int a1)]) X dX12_owedBy_47 (pc2 := 50) rfl 3 rfl (lu_ii _ ic_1) (by decide) rfl ?_
  refine lu_goto (tgt := 4) X dX12_owedBy_50 (by decide) ?_
  exact lu_sub [2, 3, 1, 0] rfl (hK4 x1 (v3 + (1 : Int32)) m)
def f12_owedBy_b44 (K4 : Int32 → Int32 → lu_M → Option (Int32 × lu_M)) (K53 : Int32 → lu_M → Option (Int32 × lu_M)) (a1 : Int32) (v3 : Int32) (s0 : Int32) (m : lu_M) : Option (Int32 × lu_M) :=
  f12_owedBy_b45 K4 K53 a1 v3 (0 : Int32) s0 m
set_option maxRecDepth 20000 in
theorem w12_owedBy_b44  {G : lu_G} {ρ : Nat → Nat} {a1 : Int32} {K4 : Int32 → Int32 → lu_M → Option (Int32 × lu_M)} {K53 : Int32 → lu_M → Option (Int32 × lu_M)} (X : lu_X G RX12 cX12_owedBy 4 0 0) (hret : (lu_me G).sig.returnType = (some .int))  (hK4 : ∀ (v2 : Int32) (v3 : Int32) (m : lu_M), lu_Ab lu_TM G (lu_Q lu_TM G ρ lu_RVi lu_sn) (K4 v2 v3 m) 4 [(0, .ref (ρ 0)), (1, .int a1), (2, .int v2), (3, .int v3)] [] ρ 0 0 [] m) (hK53 : ∀ (v2 : Int32) (m : lu_M), lu_Ab lu_TM G (lu_Q lu_TM G ρ lu_RVi lu_sn) (K53 v2 m) 53 [(2, .int v2)] [] ρ 0 0 [] m) : ∀ (v3 : Int32) (s0 : Int32) (m : lu_M), lu_Ab lu_TM G (lu_Q lu_TM G ρ lu_RVi lu_sn) (f12_owedBy_b44 K4 K53 a1 v3 s0 m) 44 [(0, .ref (ρ 0)), (1, .int a1), (3, .int v3)] [.int s0] ρ 0 0 [] m := by
  intro v3 s0 m
  unfold f12_owedBy_b44
  refine lu_iconst X dX12_owedBy_44 (pc2 := 45) rfl ic_0 ?_
  exact w12_owedBy_b45 X hret hK4 hK53 v3 (0 : Int32) s0 m
def f12_owedBy_b4B (K53 : Int32 → lu_M → Option (Int32 × lu_M)) (rec : Int32 → Int32 → lu_M → Option (Int32 × lu_M)) (a1 : Int32) (v2 : Int32) (v3 : Int32) (m : lu_M) : Option (Int32 × lu_M) :=
  if (36 : Int32) ≤ v3 then (K53 v2 m)
  else (if ((a1 >>> ((v3 / (6 : Int32)) &&& 31)) &&& (1 : Int32)) = (1 : Int32) then (lu_gd (lu_ib ((76 : Int32) + v3) 368) <|
  if (m 1 ((76 : Int32) + v3).toNatClampNeg) ≤ 0 then (f12_owedBy_b44 rec K53 a1 v3 v2 m)
  else (f12_owedBy_b45 rec K53 a1 v3 ((1 : Int32) <<< ((v3 - v3 / (6 : Int32) * (6 : Int32)) &&& 31)) v2 m))
  else (f12_owedBy_b44 rec K53 a1 v3 v2 m))
def f12_owedBy_b4 (K53 : Int32 → lu_M → Option (Int32 × lu_M)) (a1 : Int32) : Nat → Int32 → Int32 → lu_M → Option (Int32 × lu_M)
  | 0, _, _, _ => none
  | n + 1, v2, v3, m => f12_owedBy_b4B K53 (f12_owedBy_b4 K53 a1 n) a1 v2 v3 m
set_option maxRecDepth 20000 in
theorem w12_owedBy_b4B  {G : lu_G} {ρ : Nat → Nat} {a1 : Int32} {K53 : Int32 → lu_M → Option (Int32 × lu_M)} {rec : Int32 → Int32 → lu_M → Option (Int32 × lu_M)} (X : lu_X G RX12 cX12_owedBy 4 0 0) (hret : (lu_me G).sig.returnType = (some .int))  (hK53 : ∀ (v2 : Int32) (m : lu_M), lu_Ab lu_TM G (lu_Q lu_TM G ρ lu_RVi lu_sn) (K53 v2 m) 53 [(2, .int v2)] [] ρ 0 0 [] m) (hrec : ∀ (v2 : Int32) (v3 : Int32) (m : lu_M), lu_Ab lu_TM G (lu_Q lu_TM G ρ lu_RVi lu_sn) (rec v2 v3 m) 4 [(0, .ref (ρ 0)), (1, .int a1), (2, .int v2), (3, .int v3)] [] ρ 0 0 [] m) : ∀ (v2 : Int32) (v3 : Int32) (m : lu_M), lu_Ab lu_TM G (lu_Q lu_TM G ρ lu_RVi lu_sn) (f12_owedBy_b4B K53 rec a1 v2 v3 m) 4 [(0, .ref (ρ 0)), (1, .int a1), (2, .int v2), (3, .int v3)] [] ρ 0 0 [] m := by
  intro v2 v3 m
  unfold f12_owedBy_b4B
  refine lu_iload_n X dX12_owedBy_4 (pc2 := 5) rfl rfl 3 rfl ?_
  refine lu_bipush X dX12_owedBy_5 (pc2 := 7) rfl bp_36 ?_
  refine lu_icmp_ge (tgt := 53) X dX12_owedBy_7 (pc2 := 10) rfl (by decide) (fun _ => ?_) (fun _ => ?_)
  · exact lu_sub [2] rfl (hK53 v2 m)
  · refine lu_iload_n X dX12_owedBy_10 (pc2 := 11) rfl rfl 2 rfl ?_
    refine lu_iload_n X dX12_owedBy_11 (pc2 := 12) rfl rfl 1 rfl ?_
    refine lu_iload_n X dX12_owedBy_12 (pc2 := 13) rfl rfl 3 rfl ?_
    refine lu_bipush X dX12_owedBy_13 (pc2 := 15) rfl bp_6 ?_
    refine lu_idivK X dX12_owedBy_15 (pc2 := 16) rfl (by decide) ?_
    refine lu_ishr X dX12_owedBy_16 (pc2 := 17) rfl ?_
    refine lu_iconst X dX12_owedBy_17 (pc2 := 18) rfl ic_1 ?_
    refine lu_iand X dX12_owedBy_18 (pc2 := 19) rfl ?_
    refine lu_iconst X dX12_owedBy_19 (pc2 := 20) rfl ic_1 ?_
    refine lu_icmp_ne (tgt := 44) X dX12_owedBy_20 (pc2 := 23) rfl (by decide) (fun _ => ?_) (fun _ => ?_)
    · exact lu_sub [0, 1, 3] rfl (w12_owedBy_b44 X hret hrec hK53 v3 v2 m)
    · refine lu_aload_n X dX12_owedBy_23 (pc2 := 24) rfl rfl 0 rfl ?_
      refine lu_getr (r2 := 1) X rfl fl12_7 rfl kM_0 lM_0 dX12_owedBy_24 (pc2 := 27) rfl ?_
      refine lu_bipush X dX12_owedBy_27 (pc2 := 29) rfl bp_76 ?_
      refine lu_iload_n X dX12_owedBy_29 (pc2 := 30) rfl rfl 3 rfl ?_
      refine lu_iadd X dX12_owedBy_30 (pc2 := 31) rfl ?_
      refine lu_iald X kM_1 lM_1 dX12_owedBy_31 (pc2 := 32) rfl ?_
      refine lu_if_le (tgt := 44) X dX12_owedBy_32 (pc2 := 35) rfl (by decide) (fun _ => ?_) (fun _ => ?_)
      · exact lu_sub [0, 1, 3] rfl (w12_owedBy_b44 X hret hrec hK53 v3 v2 m)
      · refine lu_iconst X dX12_owedBy_35 (pc2 := 36) rfl ic_1 ?_
        refine lu_iload_n X dX12_owedBy_36 (pc2 := 37) rfl rfl 3 rfl ?_
        refine lu_bipush X dX12_owedBy_37 (pc2 := 39) rfl bp_6 ?_
        refine lu_iremK X dX12_owedBy_39 (pc2 := 40) rfl (by decide) ?_
        refine lu_ishl X dX12_owedBy_40 (pc2 := 41) rfl ?_
        refine lu_goto (tgt := 45) X dX12_owedBy_41 (by decide) ?_
        exact lu_sub [0, 1, 3] rfl (w12_owedBy_b45 X hret hrec hK53 v3 ((1 : Int32) <<< ((v3 - v3 / (6 : Int32) * (6 : Int32)) &&& 31)) v2 m)
theorem w12_owedBy_b4  {G : lu_G} {ρ : Nat → Nat} {a1 : Int32} {K53 : Int32 → lu_M → Option (Int32 × lu_M)} (X : lu_X G RX12 cX12_owedBy 4 0 0) (hret : (lu_me G).sig.returnType = (some .int))  (hK53 : ∀ (v2 : Int32) (m : lu_M), lu_Ab lu_TM G (lu_Q lu_TM G ρ lu_RVi lu_sn) (K53 v2 m) 53 [(2, .int v2)] [] ρ 0 0 [] m) : ∀ (n : Nat) (v2 : Int32) (v3 : Int32) (m : lu_M), lu_Ab lu_TM G (lu_Q lu_TM G ρ lu_RVi lu_sn) (f12_owedBy_b4 K53 a1 n v2 v3 m) 4 [(0, .ref (ρ 0)), (1, .int a1), (2, .int v2), (3, .int v3)] [] ρ 0 0 [] m := by
  intro n
  induction n with
  | zero => intro v2 v3 m; exact lu_none
  | succ n ih => intro v2 v3 m; exact w12_owedBy_b4B X hret hK53 ih v2 v3 m
def f12_owedBy_b53  (a1 : Int32) (v2 : Int32) (m : lu_M) : Option (Int32 × lu_M) :=
  some (v2, m)
set_option maxRecDepth 20000 in
theorem w12_owedBy_b53  {G : lu_G} {ρ : Nat → Nat} {a1 : Int32}  (X : lu_X G RX12 cX12_owedBy 4 0 0) (hret : (lu_me G).sig.returnType = (some .int))   : ∀ (v2 : Int32) (m : lu_M), lu_Ab lu_TM G (lu_Q lu_TM G ρ lu_RVi lu_sn) (f12_owedBy_b53 a1 v2 m) 53 [(2, .int v2)] [] ρ 0 0 [] m := by
  intro v2 m
  unfold f12_owedBy_b53
  refine lu_iload_n X dX12_owedBy_53 (pc2 := 54) rfl rfl 0 rfl ?_
  exact lu_iret X hret dX12_owedBy_54
def f12_owedBy (a1 : Int32) (m : lu_M) : Option (Int32 × lu_M) :=
  f12_owedBy_b4 (f12_owedBy_b53 a1) a1 lu_fu (0 : Int32) (0 : Int32) m
set_option maxRecDepth 20000 in
theorem c12_owedBy (l : Launch)   (a1 : Int32) : lu_C lu_TM l yX12_owedBy cX12_owedBy 4 (some .int) 0 0 (fun ρ sa => [.ref (ρ 0), .int a1]) (f12_owedBy a1) lu_RVi lu_sn := by
  refine lu_met (cls := RX12) rfl (by decide +kernel) (fun _ _ => Nat.le_of_ble_eq_true rfl) ?_
  intro G ρ m hl X hret
  subst hl
  change lu_Ab lu_TM G (lu_Q lu_TM G ρ lu_RVi lu_sn) (f12_owedBy a1 m) 0 [(0, .ref (ρ 0)), (1, .int a1)] [] ρ 0 0 [] m
  unfold f12_owedBy
  refine lu_iconst X dX12_owedBy_0 (pc2 := 1) rfl ic_0 ?_
  refine lu_istore_n (lv2 := [(2, .int (0 : Int32)), (0, .ref (ρ 0)), (1, .int a1)]) X dX12_owedBy_1 (pc2 := 2) rfl rfl (by decide) rfl ?_
  refine lu_iconst X dX12_owedBy_2 (pc2 := 3) rfl ic_0 ?_
  refine lu_istore_n (lv2 := [(3, .int (0 : Int32)), (2, .int (0 : Int32)), (0, .ref (ρ 0)), (1, .int a1)]) X dX12_owedBy_3 (pc2 := 4) rfl rfl (by decide) rfl ?_
  exact lu_sub [2, 3, 1, 0] rfl (w12_owedBy_b4 X hret (w12_owedBy_b53 X hret) lu_fu (0 : Int32) (0 : Int32) m)

theorem dX12_ring_0 : decode cX12_ring 0 = .ok (.aload_n 0, 1) := by decide +kernel
theorem dX12_ring_1 : decode cX12_ring 1 = .ok (.iload_n 1, 1) := by decide +kernel
theorem dX12_ring_2 : decode cX12_ring 2 = .ok (.invokevirtual 96, 3) := by decide +kernel
theorem dX12_ring_5 : decode cX12_ring 5 = .ok (.ifCond .ne 5, 3) := by decide +kernel
theorem dX12_ring_8 : decode cX12_ring 8 = .ok (.iconst (-1), 1) := by decide +kernel
theorem dX12_ring_9 : decode cX12_ring 9 = .ok (.ireturn, 1) := by decide +kernel
theorem dX12_ring_10 : decode cX12_ring 10 = .ok (.iconst 1, 1) := by decide +kernel
theorem dX12_ring_11 : decode cX12_ring 11 = .ok (.iload_n 1, 1) := by decide +kernel
theorem dX12_ring_12 : decode cX12_ring 12 = .ok (.ishl, 1) := by decide +kernel
theorem dX12_ring_13 : decode cX12_ring 13 = .ok (.istore_n 2, 1) := by decide +kernel
theorem dX12_ring_14 : decode cX12_ring 14 = .ok (.iconst 1, 1) := by decide +kernel
theorem dX12_ring_15 : decode cX12_ring 15 = .ok (.istore_n 3, 1) := by decide +kernel
theorem dX12_ring_16 : decode cX12_ring 16 = .ok (.iload_n 3, 1) := by decide +kernel
theorem dX12_ring_17 : decode cX12_ring 17 = .ok (.bipush 6, 2) := by decide +kernel
theorem dX12_ring_19 : decode cX12_ring 19 = .ok (.if_icmp .gt 26, 3) := by decide +kernel
theorem dX12_ring_22 : decode cX12_ring 22 = .ok (.aload_n 0, 1) := by decide +kernel
theorem dX12_ring_23 : decode cX12_ring 23 = .ok (.iload_n 2, 1) := by decide +kernel
theorem dX12_ring_24 : decode cX12_ring 24 = .ok (.invokevirtual 178, 3) := by decide +kernel
theorem dX12_ring_27 : decode cX12_ring 27 = .ok (.istore_n 2, 1) := by decide +kernel
theorem dX12_ring_28 : decode cX12_ring 28 = .ok (.iload_n 2, 1) := by decide +kernel
theorem dX12_ring_29 : decode cX12_ring 29 = .ok (.iload_n 1, 1) := by decide +kernel
theorem dX12_ring_30 : decode cX12_ring 30 = .ok (.ishr, 1) := by decide +kernel
theorem dX12_ring_31 : decode cX12_ring 31 = .ok (.iconst 1, 1) := by decide +kernel
theorem dX12_ring_32 : decode cX12_ring 32 = .ok (.iand, 1) := by decide +kernel
theorem dX12_ring_33 : decode cX12_ring 33 = .ok (.iconst 1, 1) := by decide +kernel
theorem dX12_ring_34 : decode cX12_ring 34 = .ok (.if_icmp .ne 5, 3) := by decide +kernel
theorem dX12_ring_37 : decode cX12_ring 37 = .ok (.iload_n 3, 1) := by decide +kernel
theorem dX12_ring_38 : decode cX12_ring 38 = .ok (.ireturn, 1) := by decide +kernel
theorem dX12_ring_39 : decode cX12_ring 39 = .ok (.iinc 3 1, 3) := by decide +kernel
theorem dX12_ring_42 : decode cX12_ring 42 = .ok (.goto (-26), 3) := by decide +kernel
theorem dX12_ring_45 : decode cX12_ring 45 = .ok (.bipush (-3), 2) := by decide +kernel
theorem dX12_ring_47 : decode cX12_ring 47 = .ok (.ireturn, 1) := by decide +kernel
def f12_ring_b16B (K37 : Int32 → lu_M → Option (Int32 × lu_M)) (K45 : lu_M → Option (Int32 × lu_M)) (rec : Int32 → Int32 → lu_M → Option (Int32 × lu_M)) (a1 : Int32) (v2 : Int32) (v3 : Int32) (m : lu_M) : Option (Int32 × lu_M) :=
  if (6 : Int32) < v3 then (K45 m)
  else (lu_bi (f12_owedBy v2 m) fun x4 m5 =>
  if ((x4 >>> (a1 &&& 31)) &&& (1 : Int32)) = (1 : Int32) then (K37 v3 m5)
  else (rec x4 (v3 + (1 : Int32)) m5))
def f12_ring_b16 (K37 : Int32 → lu_M → Option (Int32 × lu_M)) (K45 : lu_M → Option (Int32 × lu_M)) (a1 : Int32) : Nat → Int32 → Int32 → lu_M → Option (Int32 × lu_M)
  | 0, _, _, _ => none
  | n + 1, v2, v3, m => f12_ring_b16B K37 K45 (f12_ring_b16 K37 K45 a1 n) a1 v2 v3 m
set_option maxRecDepth 20000 in
theorem w12_ring_b16B  {G : lu_G} {ρ : Nat → Nat} {a1 : Int32} {K37 : Int32 → lu_M → Option (Int32 × lu_M)} {K45 : lu_M → Option (Int32 × lu_M)} {rec : Int32 → Int32 → lu_M → Option (Int32 × lu_M)} (X : lu_X G RX12 cX12_ring 4 2 46) (hret : (lu_me G).sig.returnType = (some .int))  (hK37 : ∀ (v3 : Int32) (m : lu_M), lu_Ab lu_TM G (lu_Q lu_TM G ρ lu_RVi lu_sn) (K37 v3 m) 37 [(3, .int v3)] [] ρ 0 0 [] m) (hK45 : ∀  (m : lu_M), lu_Ab lu_TM G (lu_Q lu_TM G ρ lu_RVi lu_sn) (K45 m) 45 [] [] ρ 0 0 [] m) (hrec : ∀ (v2 : Int32) (v3 : Int32) (m : lu_M), lu_Ab lu_TM G (lu_Q lu_TM G ρ lu_RVi lu_sn) (rec v2 v3 m) 16 [(0, .ref (ρ 0)), (1, .int a1), (2, .int v2), (3, .int v3)] [] ρ 0 0 [] m) : ∀ (v2 : Int32) (v3 : Int32) (m : lu_M), lu_Ab lu_TM G (lu_Q lu_TM G ρ lu_RVi lu_sn) (f12_ring_b16B K37 K45 rec a1 v2 v3 m) 16 [(0, .ref (ρ 0)), (1, .int a1), (2, .int v2), (3, .int v3)] [] ρ 0 0 [] m := by
  intro v2 v3 m
  unfold f12_ring_b16B
  refine lu_iload_n X dX12_ring_16 (pc2 := 17) rfl rfl 3 rfl ?_
  refine lu_bipush X dX12_ring_17 (pc2 := 19) rfl bp_6 ?_
  refine lu_icmp_gt (tgt := 45) X dX12_ring_19 (pc2 := 22) rfl (by decide) (fun _ => ?_) (fun _ => ?_)
  · exact lu_sub [] rfl (hK45 m)
  · refine lu_aload_n X dX12_ring_22 (pc2 := 23) rfl rfl 0 rfl ?_
    refine lu_iload_n X dX12_ring_23 (pc2 := 24) rfl rfl 2 rfl ?_
    refine lu_invVi X (c12_owedBy _ v2) rfl q1460 mvV_12_owedBy kM_0 lM_0 (by decide) ⟨_, rfl, rfl⟩ rfl rfl (Nat.le_of_ble_eq_true rfl) (Nat.le_of_ble_eq_true rfl) (Nat.le_of_ble_eq_true rfl) ⟨Nat.zero_le _, Nat.zero_le _⟩ dX12_ring_24 (pc2 := 27) rfl rfl (fun x4 m5 => ?_)
    refine lu_istore_n (lv2 := [(2, .int x4), (0, .ref (ρ 0)), (1, .int a1), (3, .int v3)]) X dX12_ring_27 (pc2 := 28) rfl rfl (by decide) rfl ?_
    refine lu_iload_n X dX12_ring_28 (pc2 := 29) rfl rfl 0 rfl ?_
    refine lu_iload_n X dX12_ring_29 (pc2 := 30) rfl rfl 2 rfl ?_
    refine lu_ishr X dX12_ring_30 (pc2 := 31) rfl ?_
    refine lu_iconst X dX12_ring_31 (pc2 := 32) rfl ic_1 ?_
    refine lu_iand X dX12_ring_32 (pc2 := 33) rfl ?_
    refine lu_iconst X dX12_ring_33 (pc2 := 34) rfl ic_1 ?_
    refine lu_icmp_ne (tgt := 39) X dX12_ring_34 (pc2 := 37) rfl (by decide) (fun _ => ?_) (fun _ => ?_)
    · refine lu_iinc (lv2 := [(3, .int (v3 + (1 : Int32))), (2, .int x4), (0, .ref (ρ 0)), (1, .int a1)]) X dX12_ring_39 (pc2 := 42) rfl 3 rfl (lu_ii _ ic_1) (by decide) rfl ?_
      refine lu_goto (tgt := 16) X dX12_ring_42 (by decide) ?_
      exact lu_sub [2, 3, 1, 0] rfl (hrec x4 (v3 + (1 : Int32)) m5)
    · exact lu_sub [3] rfl (hK37 v3 m5)
theorem w12_ring_b16  {G : lu_G} {ρ : Nat → Nat} {a1 : Int32} {K37 : Int32 → lu_M → Option (Int32 × lu_M)} {K45 : lu_M → Option (Int32 × lu_M)} (X : lu_X G RX12 cX12_ring 4 2 46) (hret : (lu_me G).sig.returnType = (some .int))  (hK37 : ∀ (v3 : Int32) (m : lu_M), lu_Ab lu_TM G (lu_Q lu_TM G ρ lu_RVi lu_sn) (K37 v3 m) 37 [(3, .int v3)] [] ρ 0 0 [] m) (hK45 : ∀  (m : lu_M), lu_Ab lu_TM G (lu_Q lu_TM G ρ lu_RVi lu_sn) (K45 m) 45 [] [] ρ 0 0 [] m) : ∀ (n : Nat) (v2 : Int32) (v3 : Int32) (m : lu_M), lu_Ab lu_TM G (lu_Q lu_TM G ρ lu_RVi lu_sn) (f12_ring_b16 K37 K45 a1 n v2 v3 m) 16 [(0, .ref (ρ 0)), (1, .int a1), (2, .int v2), (3, .int v3)] [] ρ 0 0 [] m := by
  intro n
  induction n with
  | zero => intro v2 v3 m; exact lu_none
  | succ n ih => intro v2 v3 m; exact w12_ring_b16B X hret hK37 hK45 ih v2 v3 m
def f12_ring_b37  (a1 : Int32) (v3 : Int32) (m : lu_M) : Option (Int32 × lu_M) :=
  some (v3, m)
set_option maxRecDepth 20000 in
theorem w12_ring_b37  {G : lu_G} {ρ : Nat → Nat} {a1 : Int32}  (X : lu_X G RX12 cX12_ring 4 2 46) (hret : (lu_me G).sig.returnType = (some .int))   : ∀ (v3 : Int32) (m : lu_M), lu_Ab lu_TM G (lu_Q lu_TM G ρ lu_RVi lu_sn) (f12_ring_b37 a1 v3 m) 37 [(3, .int v3)] [] ρ 0 0 [] m := by
  intro v3 m
  unfold f12_ring_b37
  refine lu_iload_n X dX12_ring_37 (pc2 := 38) rfl rfl 0 rfl ?_
  exact lu_iret X hret dX12_ring_38
def f12_ring_b45  (a1 : Int32)  (m : lu_M) : Option (Int32 × lu_M) :=
  some ((-3 : Int32), m)
set_option maxRecDepth 20000 in
theorem w12_ring_b45  {G : lu_G} {ρ : Nat → Nat} {a1 : Int32}  (X : lu_X G RX12 cX12_ring 4 2 46) (hret : (lu_me G).sig.returnType = (some .int))   : ∀  (m : lu_M), lu_Ab lu_TM G (lu_Q lu_TM G ρ lu_RVi lu_sn) (f12_ring_b45 a1 m) 45 [] [] ρ 0 0 [] m := by
  intro  m
  unfold f12_ring_b45
  refine lu_bipush X dX12_ring_45 (pc2 := 47) rfl bp_m3 ?_
  exact lu_iret X hret dX12_ring_47
def f12_ring (a1 : Int32) (m : lu_M) : Option (Int32 × lu_M) :=
  lu_bi (f12_isPerson a1 m) fun x1 m2 =>
  if x1 = 0 then (some ((-1 : Int32), m2))
  else (lu_nm (((1 : Int32) <<< (a1 &&& 31))) fun x3 =>
  f12_ring_b16 (f12_ring_b37 a1) (f12_ring_b45 a1) a1 lu_fu x3 (1 : Int32) m2)
set_option maxRecDepth 20000 in
theorem c12_ring (l : Launch)   (a1 : Int32) : lu_C lu_TM l yX12_ring cX12_ring 4 (some .int) 2 46 (fun ρ sa => [.ref (ρ 0), .int a1]) (f12_ring a1) lu_RVi lu_sn := by
  refine lu_met (cls := RX12) rfl (by decide +kernel) (fun _ _ => Nat.le_of_ble_eq_true rfl) ?_
  intro G ρ m hl X hret
  subst hl
  change lu_Ab lu_TM G (lu_Q lu_TM G ρ lu_RVi lu_sn) (f12_ring a1 m) 0 [(0, .ref (ρ 0)), (1, .int a1)] [] ρ 0 0 [] m
  unfold f12_ring
  refine lu_aload_n X dX12_ring_0 (pc2 := 1) rfl rfl 0 rfl ?_
  refine lu_iload_n X dX12_ring_1 (pc2 := 2) rfl rfl 1 rfl ?_
  refine lu_invVi X (c12_isPerson _ a1) rfl q1272 mvV_12_isPerson kM_0 lM_0 (by decide) ⟨_, rfl, rfl⟩ rfl rfl (Nat.le_of_ble_eq_true rfl) (Nat.le_of_ble_eq_true rfl) (Nat.le_of_ble_eq_true rfl) ⟨Nat.zero_le _, Nat.zero_le _⟩ dX12_ring_2 (pc2 := 5) rfl rfl (fun x1 m2 => ?_)
  refine lu_if_ne (tgt := 10) X dX12_ring_5 (pc2 := 8) rfl (by decide) (fun _ => ?_) (fun _ => ?_)
  · refine lu_iconst X dX12_ring_10 (pc2 := 11) rfl ic_1 ?_
    refine lu_iload_n X dX12_ring_11 (pc2 := 12) rfl rfl 1 rfl ?_
    refine lu_ishl X dX12_ring_12 (pc2 := 13) rfl ?_
    refine lu_topi (fun x3 => ?_)
    refine lu_istore_n (lv2 := [(2, .int x3), (0, .ref (ρ 0)), (1, .int a1)]) X dX12_ring_13 (pc2 := 14) rfl rfl (by decide) rfl ?_
    refine lu_iconst X dX12_ring_14 (pc2 := 15) rfl ic_1 ?_
    refine lu_istore_n (lv2 := [(3, .int (1 : Int32)), (2, .int x3), (0, .ref (ρ 0)), (1, .int a1)]) X dX12_ring_15 (pc2 := 16) rfl rfl (by decide) rfl ?_
    exact lu_sub [2, 3, 1, 0] rfl (w12_ring_b16 X hret (w12_ring_b37 X hret) (w12_ring_b45 X hret) lu_fu x3 (1 : Int32) m2)
  · refine lu_iconst X dX12_ring_8 (pc2 := 9) rfl ic_m1 ?_
    exact lu_iret X hret dX12_ring_9

theorem dX12_payments_0 : decode cX12_payments 0 = .ok (.iconst 0, 1) := by decide +kernel
theorem dX12_payments_1 : decode cX12_payments 1 = .ok (.istore_n 1, 1) := by decide +kernel
theorem dX12_payments_2 : decode cX12_payments 2 = .ok (.iconst 0, 1) := by decide +kernel
theorem dX12_payments_3 : decode cX12_payments 3 = .ok (.istore_n 2, 1) := by decide +kernel
theorem dX12_payments_4 : decode cX12_payments 4 = .ok (.iload_n 2, 1) := by decide +kernel
theorem dX12_payments_5 : decode cX12_payments 5 = .ok (.bipush 64, 2) := by decide +kernel
theorem dX12_payments_7 : decode cX12_payments 7 = .ok (.if_icmp .ge 141, 3) := by decide +kernel
theorem dX12_payments_10 : decode cX12_payments 10 = .ok (.aload_n 0, 1) := by decide +kernel
theorem dX12_payments_11 : decode cX12_payments 11 = .ok (.getfield 22, 3) := by decide +kernel
theorem dX12_payments_14 : decode cX12_payments 14 = .ok (.iload_n 2, 1) := by decide +kernel
theorem dX12_payments_15 : decode cX12_payments 15 = .ok (.iconst 0, 1) := by decide +kernel
theorem dX12_payments_16 : decode cX12_payments 16 = .ok (.iastore, 1) := by decide +kernel
theorem dX12_payments_17 : decode cX12_payments 17 = .ok (.aload_n 0, 1) := by decide +kernel
theorem dX12_payments_18 : decode cX12_payments 18 = .ok (.getfield 25, 3) := by decide +kernel
theorem dX12_payments_21 : decode cX12_payments 21 = .ok (.iload_n 2, 1) := by decide +kernel
theorem dX12_payments_22 : decode cX12_payments 22 = .ok (.iconst 0, 1) := by decide +kernel
theorem dX12_payments_23 : decode cX12_payments 23 = .ok (.iastore, 1) := by decide +kernel
theorem dX12_payments_24 : decode cX12_payments 24 = .ok (.iconst 0, 1) := by decide +kernel
theorem dX12_payments_25 : decode cX12_payments 25 = .ok (.istore_n 3, 1) := by decide +kernel
theorem dX12_payments_26 : decode cX12_payments 26 = .ok (.iload_n 3, 1) := by decide +kernel
theorem dX12_payments_27 : decode cX12_payments 27 = .ok (.bipush 6, 2) := by decide +kernel
theorem dX12_payments_29 : decode cX12_payments 29 = .ok (.if_icmp .ge 86, 3) := by decide +kernel
theorem dX12_payments_32 : decode cX12_payments 32 = .ok (.iload_n 2, 1) := by decide +kernel
theorem dX12_payments_33 : decode cX12_payments 33 = .ok (.iconst 1, 1) := by decide +kernel
theorem dX12_payments_34 : decode cX12_payments 34 = .ok (.iload_n 3, 1) := by decide +kernel
theorem dX12_payments_35 : decode cX12_payments 35 = .ok (.ishl, 1) := by decide +kernel
theorem dX12_payments_36 : decode cX12_payments 36 = .ok (.iconst (-1), 1) := by decide +kernel
theorem dX12_payments_37 : decode cX12_payments 37 = .ok (.ixor, 1) := by decide +kernel
theorem dX12_payments_38 : decode cX12_payments 38 = .ok (.iand, 1) := by decide +kernel
theorem dX12_payments_39 : decode cX12_payments 39 = .ok (.istore 4, 2) := by decide +kernel
theorem dX12_payments_41 : decode cX12_payments 41 = .ok (.aload_n 0, 1) := by decide +kernel
theorem dX12_payments_42 : decode cX12_payments 42 = .ok (.getfield 22, 3) := by decide +kernel
theorem dX12_payments_45 : decode cX12_payments 45 = .ok (.iload_n 2, 1) := by decide +kernel
theorem dX12_payments_46 : decode cX12_payments 46 = .ok (.dup2, 1) := by decide +kernel
theorem dX12_payments_47 : decode cX12_payments 47 = .ok (.iaload, 1) := by decide +kernel
theorem dX12_payments_48 : decode cX12_payments 48 = .ok (.iload 4, 2) := by decide +kernel
theorem dX12_payments_50 : decode cX12_payments 50 = .ok (.iload_n 2, 1) := by decide +kernel
theorem dX12_payments_51 : decode cX12_payments 51 = .ok (.if_icmp .eq 11, 3) := by decide +kernel
theorem dX12_payments_54 : decode cX12_payments 54 = .ok (.aload_n 0, 1) := by decide +kernel
theorem dX12_payments_55 : decode cX12_payments 55 = .ok (.iload_n 3, 1) := by decide +kernel
theorem dX12_payments_56 : decode cX12_payments 56 = .ok (.invokevirtual 175, 3) := by decide +kernel
theorem dX12_payments_59 : decode cX12_payments 59 = .ok (.goto 4, 3) := by decide +kernel
theorem dX12_payments_62 : decode cX12_payments 62 = .ok (.iconst 0, 1) := by decide +kernel
theorem dX12_payments_63 : decode cX12_payments 63 = .ok (.iadd, 1) := by decide +kernel
theorem dX12_payments_64 : decode cX12_payments 64 = .ok (.iastore, 1) := by decide +kernel
theorem dX12_payments_65 : decode cX12_payments 65 = .ok (.aload_n 0, 1) := by decide +kernel
theorem dX12_payments_66 : decode cX12_payments 66 = .ok (.getfield 25, 3) := by decide +kernel
theorem dX12_payments_69 : decode cX12_payments 69 = .ok (.iload_n 2, 1) := by decide +kernel
theorem dX12_payments_70 : decode cX12_payments 70 = .ok (.iload 4, 2) := by decide +kernel
theorem dX12_payments_72 : decode cX12_payments 72 = .ok (.iload_n 2, 1) := by decide +kernel
theorem dX12_payments_73 : decode cX12_payments 73 = .ok (.if_icmp .eq 29, 3) := by decide +kernel
theorem dX12_payments_76 : decode cX12_payments 76 = .ok (.aload_n 0, 1) := by decide +kernel
theorem dX12_payments_77 : decode cX12_payments 77 = .ok (.getfield 25, 3) := by decide +kernel
theorem dX12_payments_80 : decode cX12_payments 80 = .ok (.iload 4, 2) := by decide +kernel
theorem dX12_payments_82 : decode cX12_payments 82 = .ok (.iaload, 1) := by decide +kernel
theorem dX12_payments_83 : decode cX12_payments 83 = .ok (.aload_n 0, 1) := by decide +kernel
theorem dX12_payments_84 : decode cX12_payments 84 = .ok (.getfield 25, 3) := by decide +kernel
theorem dX12_payments_87 : decode cX12_payments 87 = .ok (.iload_n 2, 1) := by decide +kernel
theorem dX12_payments_88 : decode cX12_payments 88 = .ok (.iaload, 1) := by decide +kernel
theorem dX12_payments_89 : decode cX12_payments 89 = .ok (.if_icmp .le 13, 3) := by decide +kernel
theorem dX12_payments_92 : decode cX12_payments 92 = .ok (.aload_n 0, 1) := by decide +kernel
theorem dX12_payments_93 : decode cX12_payments 93 = .ok (.getfield 25, 3) := by decide +kernel
theorem dX12_payments_96 : decode cX12_payments 96 = .ok (.iload 4, 2) := by decide +kernel
theorem dX12_payments_98 : decode cX12_payments 98 = .ok (.iaload, 1) := by decide +kernel
theorem dX12_payments_99 : decode cX12_payments 99 = .ok (.goto 9, 3) := by decide +kernel
theorem dX12_payments_102 : decode cX12_payments 102 = .ok (.aload_n 0, 1) := by decide +kernel
theorem dX12_payments_103 : decode cX12_payments 103 = .ok (.getfield 25, 3) := by decide +kernel
theorem dX12_payments_106 : decode cX12_payments 106 = .ok (.iload_n 2, 1) := by decide +kernel
theorem dX12_payments_107 : decode cX12_payments 107 = .ok (.iaload, 1) := by decide +kernel
theorem dX12_payments_108 : decode cX12_payments 108 = .ok (.iastore, 1) := by decide +kernel
theorem dX12_payments_109 : decode cX12_payments 109 = .ok (.iinc 3 1, 3) := by decide +kernel
theorem dX12_payments_112 : decode cX12_payments 112 = .ok (.goto (-86), 3) := by decide +kernel
theorem dX12_payments_115 : decode cX12_payments 115 = .ok (.aload_n 0, 1) := by decide +kernel
theorem dX12_payments_116 : decode cX12_payments 116 = .ok (.getfield 25, 3) := by decide +kernel
theorem dX12_payments_119 : decode cX12_payments 119 = .ok (.iload_n 2, 1) := by decide +kernel
theorem dX12_payments_120 : decode cX12_payments 120 = .ok (.dup2, 1) := by decide +kernel
theorem dX12_payments_121 : decode cX12_payments 121 = .ok (.iaload, 1) := by decide +kernel
theorem dX12_payments_122 : decode cX12_payments 122 = .ok (.iload_n 2, 1) := by decide +kernel
theorem dX12_payments_123 : decode cX12_payments 123 = .ok (.ifCond .eq 16, 3) := by decide +kernel
theorem dX12_payments_126 : decode cX12_payments 126 = .ok (.aload_n 0, 1) := by decide +kernel
theorem dX12_payments_127 : decode cX12_payments 127 = .ok (.getfield 22, 3) := by decide +kernel
theorem dX12_payments_130 : decode cX12_payments 130 = .ok (.iload_n 2, 1) := by decide +kernel
theorem dX12_payments_131 : decode cX12_payments 131 = .ok (.iaload, 1) := by decide +kernel
theorem dX12_payments_132 : decode cX12_payments 132 = .ok (.ifCond .ne 7, 3) := by decide +kernel
theorem dX12_payments_135 : decode cX12_payments 135 = .ok (.iconst 1, 1) := by decide +kernel
theorem dX12_payments_136 : decode cX12_payments 136 = .ok (.goto 4, 3) := by decide +kernel
theorem dX12_payments_139 : decode cX12_payments 139 = .ok (.iconst 0, 1) := by decide +kernel
theorem dX12_payments_140 : decode cX12_payments 140 = .ok (.iadd, 1) := by decide +kernel
theorem dX12_payments_141 : decode cX12_payments 141 = .ok (.iastore, 1) := by decide +kernel
theorem dX12_payments_142 : decode cX12_payments 142 = .ok (.iinc 2 1, 3) := by decide +kernel
theorem dX12_payments_145 : decode cX12_payments 145 = .ok (.goto (-141), 3) := by decide +kernel
theorem dX12_payments_148 : decode cX12_payments 148 = .ok (.iconst 0, 1) := by decide +kernel
theorem dX12_payments_149 : decode cX12_payments 149 = .ok (.istore_n 2, 1) := by decide +kernel
theorem dX12_payments_150 : decode cX12_payments 150 = .ok (.iload_n 2, 1) := by decide +kernel
theorem dX12_payments_151 : decode cX12_payments 151 = .ok (.bipush 6, 2) := by decide +kernel
theorem dX12_payments_153 : decode cX12_payments 153 = .ok (.if_icmp .ge 27, 3) := by decide +kernel
theorem dX12_payments_156 : decode cX12_payments 156 = .ok (.iload_n 1, 1) := by decide +kernel
theorem dX12_payments_157 : decode cX12_payments 157 = .ok (.aload_n 0, 1) := by decide +kernel
theorem dX12_payments_158 : decode cX12_payments 158 = .ok (.iload_n 2, 1) := by decide +kernel
theorem dX12_payments_159 : decode cX12_payments 159 = .ok (.invokevirtual 175, 3) := by decide +kernel
theorem dX12_payments_162 : decode cX12_payments 162 = .ok (.ifCond .eq 9, 3) := by decide +kernel
theorem dX12_payments_165 : decode cX12_payments 165 = .ok (.iconst 1, 1) := by decide +kernel
theorem dX12_payments_166 : decode cX12_payments 166 = .ok (.iload_n 2, 1) := by decide +kernel
theorem dX12_payments_167 : decode cX12_payments 167 = .ok (.ishl, 1) := by decide +kernel
theorem dX12_payments_168 : decode cX12_payments 168 = .ok (.goto 4, 3) := by decide +kernel
theorem dX12_payments_171 : decode cX12_payments 171 = .ok (.iconst 0, 1) := by decide +kernel
theorem dX12_payments_172 : decode cX12_payments 172 = .ok (.ior, 1) := by decide +kernel
theorem dX12_payments_173 : decode cX12_payments 173 = .ok (.istore_n 1, 1) := by decide +kernel
theorem dX12_payments_174 : decode cX12_payments 174 = .ok (.iinc 2 1, 3) := by decide +kernel
theorem dX12_payments_177 : decode cX12_payments 177 = .ok (.goto (-27), 3) := by decide +kernel
theorem dX12_payments_180 : decode cX12_payments 180 = .ok (.iconst 0, 1) := by decide +kernel
theorem dX12_payments_181 : decode cX12_payments 181 = .ok (.istore_n 2, 1) := by decide +kernel
theorem dX12_payments_182 : decode cX12_payments 182 = .ok (.iload_n 1, 1) := by decide +kernel
theorem dX12_payments_183 : decode cX12_payments 183 = .ok (.istore_n 3, 1) := by decide +kernel
theorem dX12_payments_184 : decode cX12_payments 184 = .ok (.iload_n 3, 1) := by decide +kernel
theorem dX12_payments_185 : decode cX12_payments 185 = .ok (.ifCond .eq 15, 3) := by decide +kernel
theorem dX12_payments_188 : decode cX12_payments 188 = .ok (.iinc 2 1, 3) := by decide +kernel
theorem dX12_payments_191 : decode cX12_payments 191 = .ok (.iload_n 3, 1) := by decide +kernel
theorem dX12_payments_192 : decode cX12_payments 192 = .ok (.iload_n 3, 1) := by decide +kernel
theorem dX12_payments_193 : decode cX12_payments 193 = .ok (.iconst 1, 1) := by decide +kernel
theorem dX12_payments_194 : decode cX12_payments 194 = .ok (.isub, 1) := by decide +kernel
theorem dX12_payments_195 : decode cX12_payments 195 = .ok (.iand, 1) := by decide +kernel
theorem dX12_payments_196 : decode cX12_payments 196 = .ok (.istore_n 3, 1) := by decide +kernel
theorem dX12_payments_197 : decode cX12_payments 197 = .ok (.goto (-13), 3) := by decide +kernel
theorem dX12_payments_200 : decode cX12_payments 200 = .ok (.iload_n 2, 1) := by decide +kernel
theorem dX12_payments_201 : decode cX12_payments 201 = .ok (.aload_n 0, 1) := by decide +kernel
theorem dX12_payments_202 : decode cX12_payments 202 = .ok (.getfield 25, 3) := by decide +kernel
theorem dX12_payments_205 : decode cX12_payments 205 = .ok (.iload_n 1, 1) := by decide +kernel
theorem dX12_payments_206 : decode cX12_payments 206 = .ok (.iaload, 1) := by decide +kernel
theorem dX12_payments_207 : decode cX12_payments 207 = .ok (.isub, 1) := by decide +kernel
theorem dX12_payments_208 : decode cX12_payments 208 = .ok (.ireturn, 1) := by decide +kernel
def f12_payments_b108 (K26 : Int32 → Int32 → Int32 → lu_M → Option (Int32 × lu_M)) (K115 : Int32 → Int32 → lu_M → Option (Int32 × lu_M))  (v1 : Int32) (v2 : Int32) (v3 : Int32) (s0 : Int32) (s1 : Int32) (m : lu_M) : Option (Int32 × lu_M) :=
  lu_gd (lu_ib s1 64) <|
  lu_nm (lu_st m 6 s1.toNatClampNeg s0) fun m5 =>
  K26 v1 v2 (v3 + (1 : Int32)) m5
set_option maxRecDepth 20000 in
theorem w12_payments_b108  {G : lu_G} {ρ : Nat → Nat}  {K26 : Int32 → Int32 → Int32 → lu_M → Option (Int32 × lu_M)} {K115 : Int32 → Int32 → lu_M → Option (Int32 × lu_M)} (X : lu_X G RX12 cX12_payments 5 1 23) (hret : (lu_me G).sig.returnType = (some .int))  (hK26 : ∀ (v1 : Int32) (v2 : Int32) (v3 : Int32) (m : lu_M), lu_Ab lu_TM G (lu_Q lu_TM G ρ lu_RVi lu_sn) (K26 v1 v2 v3 m) 26 [(0, .ref (ρ 0)), (1, .int v1), (2, .int v2), (3, .int v3)] [] ρ 0 0 [] m) (hK115 : ∀ (v1 : Int32) (v2 : Int32) (m : lu_M), lu_Ab lu_TM G (lu_Q lu_TM G ρ lu_RVi lu_sn) (K115 v1 v2 m) 115 [(0, .ref (ρ 0)), (1, .int v1), (2, .int v2)] [] ρ 0 0 [] m) : ∀ (v1 : Int32) (v2 : Int32) (v3 : Int32) (s0 : Int32) (s1 : Int32) (m : lu_M), lu_Ab lu_TM G (lu_Q lu_TM G ρ lu_RVi lu_sn) (f12_payments_b108 K26 K115 v1 v2 v3 s0 s1 m) 108 [(0, .ref (ρ 0)), (1, .int v1), (2, .int v2), (3, .int v3)] [.int s0, .int s1, .ref (ρ 6)] ρ 0 0 [] m := by
  intro v1 v2 v3 s0 s1 m
  unfold f12_payments_b108
  refine lu_iast X kM_6 lM_6 dX12_payments_108 (pc2 := 109) rfl (fun m5 => ?_)
  refine lu_iinc (lv2 := [(3, .int (v3 + (1 : Int32))), (0, .ref (ρ 0)), (1, .int v1), (2, .int v2)]) X dX12_payments_109 (pc2 := 112) rfl 3 rfl (lu_ii _ ic_1) (by decide) rfl ?_
  refine lu_goto (tgt := 26) X dX12_payments_112 (by decide) ?_
  exact lu_sub [1, 2, 3, 0] rfl (hK26 v1 v2 (v3 + (1 : Int32)) m5)
def f12_payments_b102 (K26 : Int32 → Int32 → Int32 → lu_M → Option (Int32 × lu_M)) (K115 : Int32 → Int32 → lu_M → Option (Int32 × lu_M))  (v1 : Int32) (v2 : Int32) (v3 : Int32) (s0 : Int32) (m : lu_M) : Option (Int32 × lu_M) :=
  lu_gd (lu_ib v2 64) <|
  f12_payments_b108 K26 K115 v1 v2 v3 (m 6 v2.toNatClampNeg) s0 m
set_option maxRecDepth 20000 in
theorem w12_payments_b102  {G : lu_G} {ρ : Nat → Nat}  {K26 : Int32 → Int32 → Int32 → lu_M → Option (Int32 × lu_M)} {K115 : Int32 → Int32 → lu_M → Option (Int32 × lu_M)} (X : lu_X G RX12 cX12_payments 5 1 23) (hret : (lu_me G).sig.returnType = (some .int))  (hK26 : ∀ (v1 : Int32) (v2 : Int32) (v3 : Int32) (m : lu_M), lu_Ab lu_TM G (lu_Q lu_TM G ρ lu_RVi lu_sn) (K26 v1 v2 v3 m) 26 [(0, .ref (ρ 0)), (1, .int v1), (2, .int v2), (3, .int v3)] [] ρ 0 0 [] m) (hK115 : ∀ (v1 : Int32) (v2 : Int32) (m : lu_M), lu_Ab lu_TM G (lu_Q lu_TM G ρ lu_RVi lu_sn) (K115 v1 v2 m) 115 [(0, .ref (ρ 0)), (1, .int v1), (2, .int v2)] [] ρ 0 0 [] m) : ∀ (v1 : Int32) (v2 : Int32) (v3 : Int32) (s0 : Int32) (m : lu_M), lu_Ab lu_TM G (lu_Q lu_TM G ρ lu_RVi lu_sn) (f12_payments_b102 K26 K115 v1 v2 v3 s0 m) 102 [(0, .ref (ρ 0)), (1, .int v1), (2, .int v2), (3, .int v3)] [.int s0, .ref (ρ 6)] ρ 0 0 [] m := by
  intro v1 v2 v3 s0 m
  unfold f12_payments_b102
  refine lu_aload_n X dX12_payments_102 (pc2 := 103) rfl rfl 0 rfl ?_
  refine lu_getr (r2 := 6) X rfl fl12_25 rfl kM_0 lM_0 dX12_payments_103 (pc2 := 106) rfl ?_
  refine lu_iload_n X dX12_payments_106 (pc2 := 107) rfl rfl 2 rfl ?_
  refine lu_iald X kM_6 lM_6 dX12_payments_107 (pc2 := 108) rfl ?_
  exact w12_payments_b108 X hret hK26 hK115 v1 v2 v3 (m 6 v2.toNatClampNeg) s0 m
def f12_payments_b63 (K26 : Int32 → Int32 → Int32 → lu_M → Option (Int32 × lu_M)) (K115 : Int32 → Int32 → lu_M → Option (Int32 × lu_M))  (v1 : Int32) (v2 : Int32) (v3 : Int32) (v4 : Int32) (s0 : Int32) (s1 : Int32) (s2 : Int32) (m : lu_M) : Option (Int32 × lu_M) :=
  lu_gd (lu_ib s2 64) <|
  lu_nm (lu_st m 5 s2.toNatClampNeg (s1 + s0)) fun m4 =>
  if v4 = v2 then (f12_payments_b102 K26 K115 v1 v2 v3 v2 m4)
  else (lu_gd (lu_ib v4 64) <|
  lu_gd (lu_ib v2 64) <|
  if (m4 6 v4.toNatClampNeg) ≤ (m4 6 v2.toNatClampNeg) then (f12_payments_b102 K26 K115 v1 v2 v3 v2 m4)
  else (lu_gd (lu_ib v4 64) <|
  f12_payments_b108 K26 K115 v1 v2 v3 (m4 6 v4.toNatClampNeg) v2 m4))
set_option maxRecDepth 20000 in
theorem w12_payments_b63  {G : lu_G} {ρ : Nat → Nat}  {K26 : Int32 → Int32 → Int32 → lu_M → Option (Int32 × lu_M)} {K115 : Int32 → Int32 → lu_M → Option (Int32 × lu_M)} (X : lu_X G RX12 cX12_payments 5 1 23) (hret : (lu_me G).sig.returnType = (some .int))  (hK26 : ∀ (v1 : Int32) (v2 : Int32) (v3 : Int32) (m : lu_M), lu_Ab lu_TM G (lu_Q lu_TM G ρ lu_RVi lu_sn) (K26 v1 v2 v3 m) 26 [(0, .ref (ρ 0)), (1, .int v1), (2, .int v2), (3, .int v3)] [] ρ 0 0 [] m) (hK115 : ∀ (v1 : Int32) (v2 : Int32) (m : lu_M), lu_Ab lu_TM G (lu_Q lu_TM G ρ lu_RVi lu_sn) (K115 v1 v2 m) 115 [(0, .ref (ρ 0)), (1, .int v1), (2, .int v2)] [] ρ 0 0 [] m) : ∀ (v1 : Int32) (v2 : Int32) (v3 : Int32) (v4 : Int32) (s0 : Int32) (s1 : Int32) (s2 : Int32) (m : lu_M), lu_Ab lu_TM G (lu_Q lu_TM G ρ lu_RVi lu_sn) (f12_payments_b63 K26 K115 v1 v2 v3 v4 s0 s1 s2 m) 63 [(0, .ref (ρ 0)), (1, .int v1), (2, .int v2), (3, .int v3), (4, .int v4)] [.int s0, .int s1, .int s2, .ref (ρ 5)] ρ 0 0 [] m := by
  intro v1 v2 v3 v4 s0 s1 s2 m
  unfold f12_payments_b63
  refine lu_iadd X dX12_payments_63 (pc2 := 64) rfl ?_
  refine lu_iast X kM_5 lM_5 dX12_payments_64 (pc2 := 65) rfl (fun m4 => ?_)
  refine lu_aload_n X dX12_payments_65 (pc2 := 66) rfl rfl 0 rfl ?_
  refine lu_getr (r2 := 6) X rfl fl12_25 rfl kM_0 lM_0 dX12_payments_66 (pc2 := 69) rfl ?_
  refine lu_iload_n X dX12_payments_69 (pc2 := 70) rfl rfl 2 rfl ?_
  refine lu_iload X dX12_payments_70 (pc2 := 72) rfl 4 rfl ?_
  refine lu_iload_n X dX12_payments_72 (pc2 := 73) rfl rfl 2 rfl ?_
  refine lu_icmp_eq (tgt := 102) X dX12_payments_73 (pc2 := 76) rfl (by decide) (fun _ => ?_) (fun _ => ?_)
  · exact lu_sub [0, 1, 2, 3] rfl (w12_payments_b102 X hret hK26 hK115 v1 v2 v3 v2 m4)
  · refine lu_aload_n X dX12_payments_76 (pc2 := 77) rfl rfl 0 rfl ?_
    refine lu_getr (r2 := 6) X rfl fl12_25 rfl kM_0 lM_0 dX12_payments_77 (pc2 := 80) rfl ?_
    refine lu_iload X dX12_payments_80 (pc2 := 82) rfl 4 rfl ?_
    refine lu_iald X kM_6 lM_6 dX12_payments_82 (pc2 := 83) rfl ?_
    refine lu_aload_n X dX12_payments_83 (pc2 := 84) rfl rfl 0 rfl ?_
    refine lu_getr (r2 := 6) X rfl fl12_25 rfl kM_0 lM_0 dX12_payments_84 (pc2 := 87) rfl ?_
    refine lu_iload_n X dX12_payments_87 (pc2 := 88) rfl rfl 2 rfl ?_
    refine lu_iald X kM_6 lM_6 dX12_payments_88 (pc2 := 89) rfl ?_
    refine lu_icmp_le (tgt := 102) X dX12_payments_89 (pc2 := 92) rfl (by decide) (fun _ => ?_) (fun _ => ?_)
    · exact lu_sub [0, 1, 2, 3] rfl (w12_payments_b102 X hret hK26 hK115 v1 v2 v3 v2 m4)
    · refine lu_aload_n X dX12_payments_92 (pc2 := 93) rfl rfl 0 rfl ?_
      refine lu_getr (r2 := 6) X rfl fl12_25 rfl kM_0 lM_0 dX12_payments_93 (pc2 := 96) rfl ?_
      refine lu_iload X dX12_payments_96 (pc2 := 98) rfl 4 rfl ?_
      refine lu_iald X kM_6 lM_6 dX12_payments_98 (pc2 := 99) rfl ?_
      refine lu_goto (tgt := 108) X dX12_payments_99 (by decide) ?_
      exact lu_sub [0, 1, 2, 3] rfl (w12_payments_b108 X hret hK26 hK115 v1 v2 v3 (m4 6 v4.toNatClampNeg) v2 m4)
def f12_payments_b26B (K115 : Int32 → Int32 → lu_M → Option (Int32 × lu_M)) (rec : Int32 → Int32 → Int32 → lu_M → Option (Int32 × lu_M))  (v1 : Int32) (v2 : Int32) (v3 : Int32) (m : lu_M) : Option (Int32 × lu_M) :=
  if (6 : Int32) ≤ v3 then (K115 v1 v2 m)
  else (lu_nm ((v2 &&& (((1 : Int32) <<< (v3 &&& 31)) ^^^ (-1 : Int32)))) fun x3 =>
  lu_gd (lu_ib v2 64) <|
  if x3 = v2 then (f12_payments_b63 rec K115 v1 v2 v3 x3 (0 : Int32) (m 5 v2.toNatClampNeg) v2 m)
  else (lu_bi (f12_netOf v3 m) fun x6 m7 =>
  f12_payments_b63 rec K115 v1 v2 v3 x3 x6 (m 5 v2.toNatClampNeg) v2 m7))
def f12_payments_b26 (K115 : Int32 → Int32 → lu_M → Option (Int32 × lu_M))  : Nat → Int32 → Int32 → Int32 → lu_M → Option (Int32 × lu_M)
  | 0, _, _, _, _ => none
  | n + 1, v1, v2, v3, m => f12_payments_b26B K115 (f12_payments_b26 K115 n) v1 v2 v3 m
set_option maxRecDepth 20000 in
theorem w12_payments_b26B  {G : lu_G} {ρ : Nat → Nat}  {K115 : Int32 → Int32 → lu_M → Option (Int32 × lu_M)} {rec : Int32 → Int32 → Int32 → lu_M → Option (Int32 × lu_M)} (X : lu_X G RX12 cX12_payments 5 1 23) (hret : (lu_me G).sig.returnType = (some .int))  (hK115 : ∀ (v1 : Int32) (v2 : Int32) (m : lu_M), lu_Ab lu_TM G (lu_Q lu_TM G ρ lu_RVi lu_sn) (K115 v1 v2 m) 115 [(0, .ref (ρ 0)), (1, .int v1), (2, .int v2)] [] ρ 0 0 [] m) (hrec : ∀ (v1 : Int32) (v2 : Int32) (v3 : Int32) (m : lu_M), lu_Ab lu_TM G (lu_Q lu_TM G ρ lu_RVi lu_sn) (rec v1 v2 v3 m) 26 [(0, .ref (ρ 0)), (1, .int v1), (2, .int v2), (3, .int v3)] [] ρ 0 0 [] m) : ∀ (v1 : Int32) (v2 : Int32) (v3 : Int32) (m : lu_M), lu_Ab lu_TM G (lu_Q lu_TM G ρ lu_RVi lu_sn) (f12_payments_b26B K115 rec v1 v2 v3 m) 26 [(0, .ref (ρ 0)), (1, .int v1), (2, .int v2), (3, .int v3)] [] ρ 0 0 [] m := by
  intro v1 v2 v3 m
  unfold f12_payments_b26B
  refine lu_iload_n X dX12_payments_26 (pc2 := 27) rfl rfl 3 rfl ?_
  refine lu_bipush X dX12_payments_27 (pc2 := 29) rfl bp_6 ?_
  refine lu_icmp_ge (tgt := 115) X dX12_payments_29 (pc2 := 32) rfl (by decide) (fun _ => ?_) (fun _ => ?_)
  · exact lu_sub [0, 1, 2] rfl (hK115 v1 v2 m)
  · refine lu_iload_n X dX12_payments_32 (pc2 := 33) rfl rfl 2 rfl ?_
    refine lu_iconst X dX12_payments_33 (pc2 := 34) rfl ic_1 ?_
    refine lu_iload_n X dX12_payments_34 (pc2 := 35) rfl rfl 3 rfl ?_
    refine lu_ishl X dX12_payments_35 (pc2 := 36) rfl ?_
    refine lu_iconst X dX12_payments_36 (pc2 := 37) rfl ic_m1 ?_
    refine lu_ixor X dX12_payments_37 (pc2 := 38) rfl ?_
    refine lu_iand X dX12_payments_38 (pc2 := 39) rfl ?_
    refine lu_topi (fun x3 => ?_)
    refine lu_istore (lv2 := [(4, .int x3), (0, .ref (ρ 0)), (1, .int v1), (2, .int v2), (3, .int v3)]) X dX12_payments_39 (pc2 := 41) rfl (by decide) rfl ?_
    refine lu_aload_n X dX12_payments_41 (pc2 := 42) rfl rfl 1 rfl ?_
    refine lu_getr (r2 := 5) X rfl fl12_22 rfl kM_0 lM_0 dX12_payments_42 (pc2 := 45) rfl ?_
    refine lu_iload_n X dX12_payments_45 (pc2 := 46) rfl rfl 3 rfl ?_
    refine lu_dup2 X dX12_payments_46 (pc2 := 47) rfl rfl rfl ?_
    refine lu_iald X kM_5 lM_5 dX12_payments_47 (pc2 := 48) rfl ?_
    refine lu_iload X dX12_payments_48 (pc2 := 50) rfl 0 rfl ?_
    refine lu_iload_n X dX12_payments_50 (pc2 := 51) rfl rfl 3 rfl ?_
    refine lu_icmp_eq (tgt := 62) X dX12_payments_51 (pc2 := 54) rfl (by decide) (fun _ => ?_) (fun _ => ?_)
    · refine lu_iconst X dX12_payments_62 (pc2 := 63) rfl ic_0 ?_
      exact lu_sub [1, 2, 3, 4, 0] rfl (w12_payments_b63 X hret hrec hK115 v1 v2 v3 x3 (0 : Int32) (m 5 v2.toNatClampNeg) v2 m)
    · refine lu_aload_n X dX12_payments_54 (pc2 := 55) rfl rfl 1 rfl ?_
      refine lu_iload_n X dX12_payments_55 (pc2 := 56) rfl rfl 4 rfl ?_
      refine lu_invVi X (c12_netOf _ v3) rfl q1452 mvV_12_netOf kM_0 lM_0 (by decide) ⟨_, rfl, rfl⟩ rfl rfl (Nat.le_of_ble_eq_true rfl) (Nat.le_of_ble_eq_true rfl) (Nat.le_of_ble_eq_true rfl) ⟨Nat.zero_le _, Nat.zero_le _⟩ dX12_payments_56 (pc2 := 59) rfl rfl (fun x6 m7 => ?_)
      refine lu_goto (tgt := 63) X dX12_payments_59 (by decide) ?_
      exact lu_sub [1, 2, 3, 4, 0] rfl (w12_payments_b63 X hret hrec hK115 v1 v2 v3 x3 x6 (m 5 v2.toNatClampNeg) v2 m7)
theorem w12_payments_b26  {G : lu_G} {ρ : Nat → Nat}  {K115 : Int32 → Int32 → lu_M → Option (Int32 × lu_M)} (X : lu_X G RX12 cX12_payments 5 1 23) (hret : (lu_me G).sig.returnType = (some .int))  (hK115 : ∀ (v1 : Int32) (v2 : Int32) (m : lu_M), lu_Ab lu_TM G (lu_Q lu_TM G ρ lu_RVi lu_sn) (K115 v1 v2 m) 115 [(0, .ref (ρ 0)), (1, .int v1), (2, .int v2)] [] ρ 0 0 [] m) : ∀ (n : Nat) (v1 : Int32) (v2 : Int32) (v3 : Int32) (m : lu_M), lu_Ab lu_TM G (lu_Q lu_TM G ρ lu_RVi lu_sn) (f12_payments_b26 K115 n v1 v2 v3 m) 26 [(0, .ref (ρ 0)), (1, .int v1), (2, .int v2), (3, .int v3)] [] ρ 0 0 [] m := by
  intro n
  induction n with
  | zero => intro v1 v2 v3 m; exact lu_none
  | succ n ih => intro v1 v2 v3 m; exact w12_payments_b26B X hret hK115 ih v1 v2 v3 m
def f12_payments_b140 (K4 : Int32 → Int32 → lu_M → Option (Int32 × lu_M)) (K148 : Int32 → lu_M → Option (Int32 × lu_M))  (v1 : Int32) (v2 : Int32) (s0 : Int32) (s1 : Int32) (s2 : Int32) (m : lu_M) : Option (Int32 × lu_M) :=
  lu_gd (lu_ib s2 64) <|
  lu_nm (lu_st m 6 s2.toNatClampNeg (s1 + s0)) fun m8 =>
  K4 v1 (v2 + (1 : Int32)) m8
set_option maxRecDepth 20000 in
theorem w12_payments_b140  {G : lu_G} {ρ : Nat → Nat}  {K4 : Int32 → Int32 → lu_M → Option (Int32 × lu_M)} {K148 : Int32 → lu_M → Option (Int32 × lu_M)} (X : lu_X G RX12 cX12_payments 5 1 23) (hret : (lu_me G).sig.returnType = (some .int))  (hK4 : ∀ (v1 : Int32) (v2 : Int32) (m : lu_M), lu_Ab lu_TM G (lu_Q lu_TM G ρ lu_RVi lu_sn) (K4 v1 v2 m) 4 [(0, .ref (ρ 0)), (1, .int v1), (2, .int v2)] [] ρ 0 0 [] m) (hK148 : ∀ (v1 : Int32) (m : lu_M), lu_Ab lu_TM G (lu_Q lu_TM G ρ lu_RVi lu_sn) (K148 v1 m) 148 [(0, .ref (ρ 0)), (1, .int v1)] [] ρ 0 0 [] m) : ∀ (v1 : Int32) (v2 : Int32) (s0 : Int32) (s1 : Int32) (s2 : Int32) (m : lu_M), lu_Ab lu_TM G (lu_Q lu_TM G ρ lu_RVi lu_sn) (f12_payments_b140 K4 K148 v1 v2 s0 s1 s2 m) 140 [(0, .ref (ρ 0)), (1, .int v1), (2, .int v2)] [.int s0, .int s1, .int s2, .ref (ρ 6)] ρ 0 0 [] m := by
  intro v1 v2 s0 s1 s2 m
  unfold f12_payments_b140
  refine lu_iadd X dX12_payments_140 (pc2 := 141) rfl ?_
  refine lu_iast X kM_6 lM_6 dX12_payments_141 (pc2 := 142) rfl (fun m8 => ?_)
  refine lu_iinc (lv2 := [(2, .int (v2 + (1 : Int32))), (0, .ref (ρ 0)), (1, .int v1)]) X dX12_payments_142 (pc2 := 145) rfl 2 rfl (lu_ii _ ic_1) (by decide) rfl ?_
  refine lu_goto (tgt := 4) X dX12_payments_145 (by decide) ?_
  exact lu_sub [1, 2, 0] rfl (hK4 v1 (v2 + (1 : Int32)) m8)
def f12_payments_b139 (K4 : Int32 → Int32 → lu_M → Option (Int32 × lu_M)) (K148 : Int32 → lu_M → Option (Int32 × lu_M))  (v1 : Int32) (v2 : Int32) (s0 : Int32) (s1 : Int32) (m : lu_M) : Option (Int32 × lu_M) :=
  f12_payments_b140 K4 K148 v1 v2 (0 : Int32) s0 s1 m
set_option maxRecDepth 20000 in
theorem w12_payments_b139  {G : lu_G} {ρ : Nat → Nat}  {K4 : Int32 → Int32 → lu_M → Option (Int32 × lu_M)} {K148 : Int32 → lu_M → Option (Int32 × lu_M)} (X : lu_X G RX12 cX12_payments 5 1 23) (hret : (lu_me G).sig.returnType = (some .int))  (hK4 : ∀ (v1 : Int32) (v2 : Int32) (m : lu_M), lu_Ab lu_TM G (lu_Q lu_TM G ρ lu_RVi lu_sn) (K4 v1 v2 m) 4 [(0, .ref (ρ 0)), (1, .int v1), (2, .int v2)] [] ρ 0 0 [] m) (hK148 : ∀ (v1 : Int32) (m : lu_M), lu_Ab lu_TM G (lu_Q lu_TM G ρ lu_RVi lu_sn) (K148 v1 m) 148 [(0, .ref (ρ 0)), (1, .int v1)] [] ρ 0 0 [] m) : ∀ (v1 : Int32) (v2 : Int32) (s0 : Int32) (s1 : Int32) (m : lu_M), lu_Ab lu_TM G (lu_Q lu_TM G ρ lu_RVi lu_sn) (f12_payments_b139 K4 K148 v1 v2 s0 s1 m) 139 [(0, .ref (ρ 0)), (1, .int v1), (2, .int v2)] [.int s0, .int s1, .ref (ρ 6)] ρ 0 0 [] m := by
  intro v1 v2 s0 s1 m
  unfold f12_payments_b139
  refine lu_iconst X dX12_payments_139 (pc2 := 140) rfl ic_0 ?_
  exact w12_payments_b140 X hret hK4 hK148 v1 v2 (0 : Int32) s0 s1 m
def f12_payments_b115 (K4 : Int32 → Int32 → lu_M → Option (Int32 × lu_M)) (K148 : Int32 → lu_M → Option (Int32 × lu_M))  (v1 : Int32) (v2 : Int32) (m : lu_M) : Option (Int32 × lu_M) :=
  lu_gd (lu_ib v2 64) <|
  if v2 = 0 then (f12_payments_b139 K4 K148 v1 v2 (m 6 v2.toNatClampNeg) v2 m)
  else (lu_gd (lu_ib v2 64) <|
  if (m 5 v2.toNatClampNeg) = 0 then (f12_payments_b140 K4 K148 v1 v2 (1 : Int32) (m 6 v2.toNatClampNeg) v2 m)
  else (f12_payments_b139 K4 K148 v1 v2 (m 6 v2.toNatClampNeg) v2 m))
set_option maxRecDepth 20000 in
theorem w12_payments_b115  {G : lu_G} {ρ : Nat → Nat}  {K4 : Int32 → Int32 → lu_M → Option (Int32 × lu_M)} {K148 : Int32 → lu_M → Option (Int32 × lu_M)} (X : lu_X G RX12 cX12_payments 5 1 23) (hret : (lu_me G).sig.returnType = (some .int))  (hK4 : ∀ (v1 : Int32) (v2 : Int32) (m : lu_M), lu_Ab lu_TM G (lu_Q lu_TM G ρ lu_RVi lu_sn) (K4 v1 v2 m) 4 [(0, .ref (ρ 0)), (1, .int v1), (2, .int v2)] [] ρ 0 0 [] m) (hK148 : ∀ (v1 : Int32) (m : lu_M), lu_Ab lu_TM G (lu_Q lu_TM G ρ lu_RVi lu_sn) (K148 v1 m) 148 [(0, .ref (ρ 0)), (1, .int v1)] [] ρ 0 0 [] m) : ∀ (v1 : Int32) (v2 : Int32) (m : lu_M), lu_Ab lu_TM G (lu_Q lu_TM G ρ lu_RVi lu_sn) (f12_payments_b115 K4 K148 v1 v2 m) 115 [(0, .ref (ρ 0)), (1, .int v1), (2, .int v2)] [] ρ 0 0 [] m := by
  intro v1 v2 m
  unfold f12_payments_b115
  refine lu_aload_n X dX12_payments_115 (pc2 := 116) rfl rfl 0 rfl ?_
  refine lu_getr (r2 := 6) X rfl fl12_25 rfl kM_0 lM_0 dX12_payments_116 (pc2 := 119) rfl ?_
  refine lu_iload_n X dX12_payments_119 (pc2 := 120) rfl rfl 2 rfl ?_
  refine lu_dup2 X dX12_payments_120 (pc2 := 121) rfl rfl rfl ?_
  refine lu_iald X kM_6 lM_6 dX12_payments_121 (pc2 := 122) rfl ?_
  refine lu_iload_n X dX12_payments_122 (pc2 := 123) rfl rfl 2 rfl ?_
  refine lu_if_eq (tgt := 139) X dX12_payments_123 (pc2 := 126) rfl (by decide) (fun _ => ?_) (fun _ => ?_)
  · exact w12_payments_b139 X hret hK4 hK148 v1 v2 (m 6 v2.toNatClampNeg) v2 m
  · refine lu_aload_n X dX12_payments_126 (pc2 := 127) rfl rfl 0 rfl ?_
    refine lu_getr (r2 := 5) X rfl fl12_22 rfl kM_0 lM_0 dX12_payments_127 (pc2 := 130) rfl ?_
    refine lu_iload_n X dX12_payments_130 (pc2 := 131) rfl rfl 2 rfl ?_
    refine lu_iald X kM_5 lM_5 dX12_payments_131 (pc2 := 132) rfl ?_
    refine lu_if_ne (tgt := 139) X dX12_payments_132 (pc2 := 135) rfl (by decide) (fun _ => ?_) (fun _ => ?_)
    · exact w12_payments_b139 X hret hK4 hK148 v1 v2 (m 6 v2.toNatClampNeg) v2 m
    · refine lu_iconst X dX12_payments_135 (pc2 := 136) rfl ic_1 ?_
      refine lu_goto (tgt := 140) X dX12_payments_136 (by decide) ?_
      exact w12_payments_b140 X hret hK4 hK148 v1 v2 (1 : Int32) (m 6 v2.toNatClampNeg) v2 m
def f12_payments_b4B (K148 : Int32 → lu_M → Option (Int32 × lu_M)) (rec : Int32 → Int32 → lu_M → Option (Int32 × lu_M))  (v1 : Int32) (v2 : Int32) (m : lu_M) : Option (Int32 × lu_M) :=
  if (64 : Int32) ≤ v2 then (K148 v1 m)
  else (lu_gd (lu_ib v2 64) <|
  lu_nm (lu_st m 5 v2.toNatClampNeg (0 : Int32)) fun m1 =>
  lu_gd (lu_ib v2 64) <|
  lu_nm (lu_st m1 6 v2.toNatClampNeg (0 : Int32)) fun m2 =>
  f12_payments_b26 (f12_payments_b115 rec K148) lu_fu v1 v2 (0 : Int32) m2)
def f12_payments_b4 (K148 : Int32 → lu_M → Option (Int32 × lu_M))  : Nat → Int32 → Int32 → lu_M → Option (Int32 × lu_M)
  | 0, _, _, _ => none
  | n + 1, v1, v2, m => f12_payments_b4B K148 (f12_payments_b4 K148 n) v1 v2 m
set_option maxRecDepth 20000 in
theorem w12_payments_b4B  {G : lu_G} {ρ : Nat → Nat}  {K148 : Int32 → lu_M → Option (Int32 × lu_M)} {rec : Int32 → Int32 → lu_M → Option (Int32 × lu_M)} (X : lu_X G RX12 cX12_payments 5 1 23) (hret : (lu_me G).sig.returnType = (some .int))  (hK148 : ∀ (v1 : Int32) (m : lu_M), lu_Ab lu_TM G (lu_Q lu_TM G ρ lu_RVi lu_sn) (K148 v1 m) 148 [(0, .ref (ρ 0)), (1, .int v1)] [] ρ 0 0 [] m) (hrec : ∀ (v1 : Int32) (v2 : Int32) (m : lu_M), lu_Ab lu_TM G (lu_Q lu_TM G ρ lu_RVi lu_sn) (rec v1 v2 m) 4 [(0, .ref (ρ 0)), (1, .int v1), (2, .int v2)] [] ρ 0 0 [] m) : ∀ (v1 : Int32) (v2 : Int32) (m : lu_M), lu_Ab lu_TM G (lu_Q lu_TM G ρ lu_RVi lu_sn) (f12_payments_b4B K148 rec v1 v2 m) 4 [(0, .ref (ρ 0)), (1, .int v1), (2, .int v2)] [] ρ 0 0 [] m := by
  intro v1 v2 m
  unfold f12_payments_b4B
  refine lu_iload_n X dX12_payments_4 (pc2 := 5) rfl rfl 2 rfl ?_
  refine lu_bipush X dX12_payments_5 (pc2 := 7) rfl bp_64 ?_
  refine lu_icmp_ge (tgt := 148) X dX12_payments_7 (pc2 := 10) rfl (by decide) (fun _ => ?_) (fun _ => ?_)
  · exact lu_sub [0, 1] rfl (hK148 v1 m)
  · refine lu_aload_n X dX12_payments_10 (pc2 := 11) rfl rfl 0 rfl ?_
    refine lu_getr (r2 := 5) X rfl fl12_22 rfl kM_0 lM_0 dX12_payments_11 (pc2 := 14) rfl ?_
    refine lu_iload_n X dX12_payments_14 (pc2 := 15) rfl rfl 2 rfl ?_
    refine lu_iconst X dX12_payments_15 (pc2 := 16) rfl ic_0 ?_
    refine lu_iast X kM_5 lM_5 dX12_payments_16 (pc2 := 17) rfl (fun m1 => ?_)
    refine lu_aload_n X dX12_payments_17 (pc2 := 18) rfl rfl 0 rfl ?_
    refine lu_getr (r2 := 6) X rfl fl12_25 rfl kM_0 lM_0 dX12_payments_18 (pc2 := 21) rfl ?_
    refine lu_iload_n X dX12_payments_21 (pc2 := 22) rfl rfl 2 rfl ?_
    refine lu_iconst X dX12_payments_22 (pc2 := 23) rfl ic_0 ?_
    refine lu_iast X kM_6 lM_6 dX12_payments_23 (pc2 := 24) rfl (fun m2 => ?_)
    refine lu_iconst X dX12_payments_24 (pc2 := 25) rfl ic_0 ?_
    refine lu_istore_n (lv2 := [(3, .int (0 : Int32)), (0, .ref (ρ 0)), (1, .int v1), (2, .int v2)]) X dX12_payments_25 (pc2 := 26) rfl rfl (by decide) rfl ?_
    exact lu_sub [1, 2, 3, 0] rfl (w12_payments_b26 X hret (w12_payments_b115 X hret hrec hK148) lu_fu v1 v2 (0 : Int32) m2)
theorem w12_payments_b4  {G : lu_G} {ρ : Nat → Nat}  {K148 : Int32 → lu_M → Option (Int32 × lu_M)} (X : lu_X G RX12 cX12_payments 5 1 23) (hret : (lu_me G).sig.returnType = (some .int))  (hK148 : ∀ (v1 : Int32) (m : lu_M), lu_Ab lu_TM G (lu_Q lu_TM G ρ lu_RVi lu_sn) (K148 v1 m) 148 [(0, .ref (ρ 0)), (1, .int v1)] [] ρ 0 0 [] m) : ∀ (n : Nat) (v1 : Int32) (v2 : Int32) (m : lu_M), lu_Ab lu_TM G (lu_Q lu_TM G ρ lu_RVi lu_sn) (f12_payments_b4 K148 n v1 v2 m) 4 [(0, .ref (ρ 0)), (1, .int v1), (2, .int v2)] [] ρ 0 0 [] m := by
  intro n
  induction n with
  | zero => intro v1 v2 m; exact lu_none
  | succ n ih => intro v1 v2 m; exact w12_payments_b4B X hret hK148 ih v1 v2 m
def f12_payments_b172 (K150 : Int32 → Int32 → lu_M → Option (Int32 × lu_M)) (K180 : Int32 → lu_M → Option (Int32 × lu_M))  (v2 : Int32) (s0 : Int32) (s1 : Int32) (m : lu_M) : Option (Int32 × lu_M) :=
  lu_nm ((s1 ||| s0)) fun x11 =>
  K150 x11 (v2 + (1 : Int32)) m
set_option maxRecDepth 20000 in
theorem w12_payments_b172  {G : lu_G} {ρ : Nat → Nat}  {K150 : Int32 → Int32 → lu_M → Option (Int32 × lu_M)} {K180 : Int32 → lu_M → Option (Int32 × lu_M)} (X : lu_X G RX12 cX12_payments 5 1 23) (hret : (lu_me G).sig.returnType = (some .int))  (hK150 : ∀ (v1 : Int32) (v2 : Int32) (m : lu_M), lu_Ab lu_TM G (lu_Q lu_TM G ρ lu_RVi lu_sn) (K150 v1 v2 m) 150 [(0, .ref (ρ 0)), (1, .int v1), (2, .int v2)] [] ρ 0 0 [] m) (hK180 : ∀ (v1 : Int32) (m : lu_M), lu_Ab lu_TM G (lu_Q lu_TM G ρ lu_RVi lu_sn) (K180 v1 m) 180 [(0, .ref (ρ 0)), (1, .int v1)] [] ρ 0 0 [] m) : ∀ (v2 : Int32) (s0 : Int32) (s1 : Int32) (m : lu_M), lu_Ab lu_TM G (lu_Q lu_TM G ρ lu_RVi lu_sn) (f12_payments_b172 K150 K180 v2 s0 s1 m) 172 [(0, .ref (ρ 0)), (2, .int v2)] [.int s0, .int s1] ρ 0 0 [] m := by
  intro v2 s0 s1 m
  unfold f12_payments_b172
  refine lu_ior X dX12_payments_172 (pc2 := 173) rfl ?_
  refine lu_topi (fun x11 => ?_)
  refine lu_istore_n (lv2 := [(1, .int x11), (0, .ref (ρ 0)), (2, .int v2)]) X dX12_payments_173 (pc2 := 174) rfl rfl (by decide) rfl ?_
  refine lu_iinc (lv2 := [(2, .int (v2 + (1 : Int32))), (1, .int x11), (0, .ref (ρ 0))]) X dX12_payments_174 (pc2 := 177) rfl 2 rfl (lu_ii _ ic_1) (by decide) rfl ?_
  refine lu_goto (tgt := 150) X dX12_payments_177 (by decide) ?_
  exact lu_sub [2, 1, 0] rfl (hK150 x11 (v2 + (1 : Int32)) m)
def f12_payments_b150B (K180 : Int32 → lu_M → Option (Int32 × lu_M)) (rec : Int32 → Int32 → lu_M → Option (Int32 × lu_M))  (v1 : Int32) (v2 : Int32) (m : lu_M) : Option (Int32 × lu_M) :=
  if (6 : Int32) ≤ v2 then (K180 v1 m)
  else (lu_bi (f12_netOf v2 m) fun x9 m10 =>
  if x9 = 0 then (f12_payments_b172 rec K180 v2 (0 : Int32) v1 m10)
  else (f12_payments_b172 rec K180 v2 ((1 : Int32) <<< (v2 &&& 31)) v1 m10))
def f12_payments_b150 (K180 : Int32 → lu_M → Option (Int32 × lu_M))  : Nat → Int32 → Int32 → lu_M → Option (Int32 × lu_M)
  | 0, _, _, _ => none
  | n + 1, v1, v2, m => f12_payments_b150B K180 (f12_payments_b150 K180 n) v1 v2 m
set_option maxRecDepth 20000 in
theorem w12_payments_b150B  {G : lu_G} {ρ : Nat → Nat}  {K180 : Int32 → lu_M → Option (Int32 × lu_M)} {rec : Int32 → Int32 → lu_M → Option (Int32 × lu_M)} (X : lu_X G RX12 cX12_payments 5 1 23) (hret : (lu_me G).sig.returnType = (some .int))  (hK180 : ∀ (v1 : Int32) (m : lu_M), lu_Ab lu_TM G (lu_Q lu_TM G ρ lu_RVi lu_sn) (K180 v1 m) 180 [(0, .ref (ρ 0)), (1, .int v1)] [] ρ 0 0 [] m) (hrec : ∀ (v1 : Int32) (v2 : Int32) (m : lu_M), lu_Ab lu_TM G (lu_Q lu_TM G ρ lu_RVi lu_sn) (rec v1 v2 m) 150 [(0, .ref (ρ 0)), (1, .int v1), (2, .int v2)] [] ρ 0 0 [] m) : ∀ (v1 : Int32) (v2 : Int32) (m : lu_M), lu_Ab lu_TM G (lu_Q lu_TM G ρ lu_RVi lu_sn) (f12_payments_b150B K180 rec v1 v2 m) 150 [(0, .ref (ρ 0)), (1, .int v1), (2, .int v2)] [] ρ 0 0 [] m := by
  intro v1 v2 m
  unfold f12_payments_b150B
  refine lu_iload_n X dX12_payments_150 (pc2 := 151) rfl rfl 2 rfl ?_
  refine lu_bipush X dX12_payments_151 (pc2 := 153) rfl bp_6 ?_
  refine lu_icmp_ge (tgt := 180) X dX12_payments_153 (pc2 := 156) rfl (by decide) (fun _ => ?_) (fun _ => ?_)
  · exact lu_sub [0, 1] rfl (hK180 v1 m)
  · refine lu_iload_n X dX12_payments_156 (pc2 := 157) rfl rfl 1 rfl ?_
    refine lu_aload_n X dX12_payments_157 (pc2 := 158) rfl rfl 0 rfl ?_
    refine lu_iload_n X dX12_payments_158 (pc2 := 159) rfl rfl 2 rfl ?_
    refine lu_invVi X (c12_netOf _ v2) rfl q1452 mvV_12_netOf kM_0 lM_0 (by decide) ⟨_, rfl, rfl⟩ rfl rfl (Nat.le_of_ble_eq_true rfl) (Nat.le_of_ble_eq_true rfl) (Nat.le_of_ble_eq_true rfl) ⟨Nat.zero_le _, Nat.zero_le _⟩ dX12_payments_159 (pc2 := 162) rfl rfl (fun x9 m10 => ?_)
    refine lu_if_eq (tgt := 171) X dX12_payments_162 (pc2 := 165) rfl (by decide) (fun _ => ?_) (fun _ => ?_)
    · refine lu_iconst X dX12_payments_171 (pc2 := 172) rfl ic_0 ?_
      exact lu_sub [0, 2] rfl (w12_payments_b172 X hret hrec hK180 v2 (0 : Int32) v1 m10)
    · refine lu_iconst X dX12_payments_165 (pc2 := 166) rfl ic_1 ?_
      refine lu_iload_n X dX12_payments_166 (pc2 := 167) rfl rfl 2 rfl ?_
      refine lu_ishl X dX12_payments_167 (pc2 := 168) rfl ?_
      refine lu_goto (tgt := 172) X dX12_payments_168 (by decide) ?_
      exact lu_sub [0, 2] rfl (w12_payments_b172 X hret hrec hK180 v2 ((1 : Int32) <<< (v2 &&& 31)) v1 m10)
theorem w12_payments_b150  {G : lu_G} {ρ : Nat → Nat}  {K180 : Int32 → lu_M → Option (Int32 × lu_M)} (X : lu_X G RX12 cX12_payments 5 1 23) (hret : (lu_me G).sig.returnType = (some .int))  (hK180 : ∀ (v1 : Int32) (m : lu_M), lu_Ab lu_TM G (lu_Q lu_TM G ρ lu_RVi lu_sn) (K180 v1 m) 180 [(0, .ref (ρ 0)), (1, .int v1)] [] ρ 0 0 [] m) : ∀ (n : Nat) (v1 : Int32) (v2 : Int32) (m : lu_M), lu_Ab lu_TM G (lu_Q lu_TM G ρ lu_RVi lu_sn) (f12_payments_b150 K180 n v1 v2 m) 150 [(0, .ref (ρ 0)), (1, .int v1), (2, .int v2)] [] ρ 0 0 [] m := by
  intro n
  induction n with
  | zero => intro v1 v2 m; exact lu_none
  | succ n ih => intro v1 v2 m; exact w12_payments_b150B X hret hK180 ih v1 v2 m
def f12_payments_b184B (K200 : Int32 → Int32 → lu_M → Option (Int32 × lu_M)) (rec : Int32 → Int32 → Int32 → lu_M → Option (Int32 × lu_M))  (v1 : Int32) (v2 : Int32) (v3 : Int32) (m : lu_M) : Option (Int32 × lu_M) :=
  if v3 = 0 then (K200 v1 v2 m)
  else (lu_nm ((v3 &&& (v3 - (1 : Int32)))) fun x12 =>
  rec v1 (v2 + (1 : Int32)) x12 m)
def f12_payments_b184 (K200 : Int32 → Int32 → lu_M → Option (Int32 × lu_M))  : Nat → Int32 → Int32 → Int32 → lu_M → Option (Int32 × lu_M)
  | 0, _, _, _, _ => none
  | n + 1, v1, v2, v3, m => f12_payments_b184B K200 (f12_payments_b184 K200 n) v1 v2 v3 m
set_option maxRecDepth 20000 in
theorem w12_payments_b184B  {G : lu_G} {ρ : Nat → Nat}  {K200 : Int32 → Int32 → lu_M → Option (Int32 × lu_M)} {rec : Int32 → Int32 → Int32 → lu_M → Option (Int32 × lu_M)} (X : lu_X G RX12 cX12_payments 5 1 23) (hret : (lu_me G).sig.returnType = (some .int))  (hK200 : ∀ (v1 : Int32) (v2 : Int32) (m : lu_M), lu_Ab lu_TM G (lu_Q lu_TM G ρ lu_RVi lu_sn) (K200 v1 v2 m) 200 [(0, .ref (ρ 0)), (1, .int v1), (2, .int v2)] [] ρ 0 0 [] m) (hrec : ∀ (v1 : Int32) (v2 : Int32) (v3 : Int32) (m : lu_M), lu_Ab lu_TM G (lu_Q lu_TM G ρ lu_RVi lu_sn) (rec v1 v2 v3 m) 184 [(0, .ref (ρ 0)), (1, .int v1), (2, .int v2), (3, .int v3)] [] ρ 0 0 [] m) : ∀ (v1 : Int32) (v2 : Int32) (v3 : Int32) (m : lu_M), lu_Ab lu_TM G (lu_Q lu_TM G ρ lu_RVi lu_sn) (f12_payments_b184B K200 rec v1 v2 v3 m) 184 [(0, .ref (ρ 0)), (1, .int v1), (2, .int v2), (3, .int v3)] [] ρ 0 0 [] m := by
  intro v1 v2 v3 m
  unfold f12_payments_b184B
  refine lu_iload_n X dX12_payments_184 (pc2 := 185) rfl rfl 3 rfl ?_
  refine lu_if_eq (tgt := 200) X dX12_payments_185 (pc2 := 188) rfl (by decide) (fun _ => ?_) (fun _ => ?_)
  · exact lu_sub [0, 1, 2] rfl (hK200 v1 v2 m)
  · refine lu_iinc (lv2 := [(2, .int (v2 + (1 : Int32))), (0, .ref (ρ 0)), (1, .int v1), (3, .int v3)]) X dX12_payments_188 (pc2 := 191) rfl 2 rfl (lu_ii _ ic_1) (by decide) rfl ?_
    refine lu_iload_n X dX12_payments_191 (pc2 := 192) rfl rfl 3 rfl ?_
    refine lu_iload_n X dX12_payments_192 (pc2 := 193) rfl rfl 3 rfl ?_
    refine lu_iconst X dX12_payments_193 (pc2 := 194) rfl ic_1 ?_
    refine lu_isub X dX12_payments_194 (pc2 := 195) rfl ?_
    refine lu_iand X dX12_payments_195 (pc2 := 196) rfl ?_
    refine lu_topi (fun x12 => ?_)
    refine lu_istore_n (lv2 := [(3, .int x12), (2, .int (v2 + (1 : Int32))), (0, .ref (ρ 0)), (1, .int v1)]) X dX12_payments_196 (pc2 := 197) rfl rfl (by decide) rfl ?_
    refine lu_goto (tgt := 184) X dX12_payments_197 (by decide) ?_
    exact lu_sub [2, 3, 1, 0] rfl (hrec v1 (v2 + (1 : Int32)) x12 m)
theorem w12_payments_b184  {G : lu_G} {ρ : Nat → Nat}  {K200 : Int32 → Int32 → lu_M → Option (Int32 × lu_M)} (X : lu_X G RX12 cX12_payments 5 1 23) (hret : (lu_me G).sig.returnType = (some .int))  (hK200 : ∀ (v1 : Int32) (v2 : Int32) (m : lu_M), lu_Ab lu_TM G (lu_Q lu_TM G ρ lu_RVi lu_sn) (K200 v1 v2 m) 200 [(0, .ref (ρ 0)), (1, .int v1), (2, .int v2)] [] ρ 0 0 [] m) : ∀ (n : Nat) (v1 : Int32) (v2 : Int32) (v3 : Int32) (m : lu_M), lu_Ab lu_TM G (lu_Q lu_TM G ρ lu_RVi lu_sn) (f12_payments_b184 K200 n v1 v2 v3 m) 184 [(0, .ref (ρ 0)), (1, .int v1), (2, .int v2), (3, .int v3)] [] ρ 0 0 [] m := by
  intro n
  induction n with
  | zero => intro v1 v2 v3 m; exact lu_none
  | succ n ih => intro v1 v2 v3 m; exact w12_payments_b184B X hret hK200 ih v1 v2 v3 m
def f12_payments_b200   (v1 : Int32) (v2 : Int32) (m : lu_M) : Option (Int32 × lu_M) :=
  lu_gd (lu_ib v1 64) <|
  some ((v2 - (m 6 v1.toNatClampNeg)), m)
set_option maxRecDepth 20000 in
theorem w12_payments_b200  {G : lu_G} {ρ : Nat → Nat}   (X : lu_X G RX12 cX12_payments 5 1 23) (hret : (lu_me G).sig.returnType = (some .int))   : ∀ (v1 : Int32) (v2 : Int32) (m : lu_M), lu_Ab lu_TM G (lu_Q lu_TM G ρ lu_RVi lu_sn) (f12_payments_b200  v1 v2 m) 200 [(0, .ref (ρ 0)), (1, .int v1), (2, .int v2)] [] ρ 0 0 [] m := by
  intro v1 v2 m
  unfold f12_payments_b200
  refine lu_iload_n X dX12_payments_200 (pc2 := 201) rfl rfl 2 rfl ?_
  refine lu_aload_n X dX12_payments_201 (pc2 := 202) rfl rfl 0 rfl ?_
  refine lu_getr (r2 := 6) X rfl fl12_25 rfl kM_0 lM_0 dX12_payments_202 (pc2 := 205) rfl ?_
  refine lu_iload_n X dX12_payments_205 (pc2 := 206) rfl rfl 1 rfl ?_
  refine lu_iald X kM_6 lM_6 dX12_payments_206 (pc2 := 207) rfl ?_
  refine lu_isub X dX12_payments_207 (pc2 := 208) rfl ?_
  exact lu_iret X hret dX12_payments_208
def f12_payments_b180   (v1 : Int32) (m : lu_M) : Option (Int32 × lu_M) :=
  f12_payments_b184 f12_payments_b200 lu_fu v1 (0 : Int32) v1 m
set_option maxRecDepth 20000 in
theorem w12_payments_b180  {G : lu_G} {ρ : Nat → Nat}   (X : lu_X G RX12 cX12_payments 5 1 23) (hret : (lu_me G).sig.returnType = (some .int))   : ∀ (v1 : Int32) (m : lu_M), lu_Ab lu_TM G (lu_Q lu_TM G ρ lu_RVi lu_sn) (f12_payments_b180  v1 m) 180 [(0, .ref (ρ 0)), (1, .int v1)] [] ρ 0 0 [] m := by
  intro v1 m
  unfold f12_payments_b180
  refine lu_iconst X dX12_payments_180 (pc2 := 181) rfl ic_0 ?_
  refine lu_istore_n (lv2 := [(2, .int (0 : Int32)), (0, .ref (ρ 0)), (1, .int v1)]) X dX12_payments_181 (pc2 := 182) rfl rfl (by decide) rfl ?_
  refine lu_iload_n X dX12_payments_182 (pc2 := 183) rfl rfl 2 rfl ?_
  refine lu_istore_n (lv2 := [(3, .int v1), (2, .int (0 : Int32)), (0, .ref (ρ 0)), (1, .int v1)]) X dX12_payments_183 (pc2 := 184) rfl rfl (by decide) rfl ?_
  exact lu_sub [2, 3, 1, 0] rfl (w12_payments_b184 X hret (w12_payments_b200 X hret) lu_fu v1 (0 : Int32) v1 m)
def f12_payments_b148   (v1 : Int32) (m : lu_M) : Option (Int32 × lu_M) :=
  f12_payments_b150 f12_payments_b180 lu_fu v1 (0 : Int32) m
set_option maxRecDepth 20000 in
theorem w12_payments_b148  {G : lu_G} {ρ : Nat → Nat}   (X : lu_X G RX12 cX12_payments 5 1 23) (hret : (lu_me G).sig.returnType = (some .int))   : ∀ (v1 : Int32) (m : lu_M), lu_Ab lu_TM G (lu_Q lu_TM G ρ lu_RVi lu_sn) (f12_payments_b148  v1 m) 148 [(0, .ref (ρ 0)), (1, .int v1)] [] ρ 0 0 [] m := by
  intro v1 m
  unfold f12_payments_b148
  refine lu_iconst X dX12_payments_148 (pc2 := 149) rfl ic_0 ?_
  refine lu_istore_n (lv2 := [(2, .int (0 : Int32)), (0, .ref (ρ 0)), (1, .int v1)]) X dX12_payments_149 (pc2 := 150) rfl rfl (by decide) rfl ?_
  exact lu_sub [1, 2, 0] rfl (w12_payments_b150 X hret (w12_payments_b180 X hret) lu_fu v1 (0 : Int32) m)
def f12_payments  (m : lu_M) : Option (Int32 × lu_M) :=
  f12_payments_b4 f12_payments_b148 lu_fu (0 : Int32) (0 : Int32) m
set_option maxRecDepth 20000 in
theorem c12_payments (l : Launch)    : lu_C lu_TM l yX12_payments cX12_payments 5 (some .int) 1 23 (fun ρ sa => [.ref (ρ 0)]) (f12_payments ) lu_RVi lu_sn := by
  refine lu_met (cls := RX12) rfl (by decide +kernel) (fun _ _ => Nat.le_of_ble_eq_true rfl) ?_
  intro G ρ m hl X hret
  subst hl
  change lu_Ab lu_TM G (lu_Q lu_TM G ρ lu_RVi lu_sn) (f12_payments  m) 0 [(0, .ref (ρ 0))] [] ρ 0 0 [] m
  unfold f12_payments
  refine lu_iconst X dX12_payments_0 (pc2 := 1) rfl ic_0 ?_
  refine lu_istore_n (lv2 := [(1, .int (0 : Int32)), (0, .ref (ρ 0))]) X dX12_payments_1 (pc2 := 2) rfl rfl (by decide) rfl ?_
  refine lu_iconst X dX12_payments_2 (pc2 := 3) rfl ic_0 ?_
  refine lu_istore_n (lv2 := [(2, .int (0 : Int32)), (1, .int (0 : Int32)), (0, .ref (ρ 0))]) X dX12_payments_3 (pc2 := 4) rfl rfl (by decide) rfl ?_
  exact lu_sub [2, 1, 0] rfl (w12_payments_b4 X hret (w12_payments_b148 X hret) lu_fu (0 : Int32) (0 : Int32) m)

theorem dX12_saves_0 : decode cX12_saves 0 = .ok (.iconst 0, 1) := by decide +kernel
theorem dX12_saves_1 : decode cX12_saves 1 = .ok (.istore_n 2, 1) := by decide +kernel
theorem dX12_saves_2 : decode cX12_saves 2 = .ok (.iload_n 2, 1) := by decide +kernel
theorem dX12_saves_3 : decode cX12_saves 3 = .ok (.bipush 10, 2) := by decide +kernel
theorem dX12_saves_5 : decode cX12_saves 5 = .ok (.if_icmp .ge 26, 3) := by decide +kernel
theorem dX12_saves_8 : decode cX12_saves 8 = .ok (.aload_n 0, 1) := by decide +kernel
theorem dX12_saves_9 : decode cX12_saves 9 = .ok (.getfield 28, 3) := by decide +kernel
theorem dX12_saves_12 : decode cX12_saves 12 = .ok (.bipush 12, 2) := by decide +kernel
theorem dX12_saves_14 : decode cX12_saves 14 = .ok (.iload_n 1, 1) := by decide +kernel
theorem dX12_saves_15 : decode cX12_saves 15 = .ok (.imul, 1) := by decide +kernel
theorem dX12_saves_16 : decode cX12_saves 16 = .ok (.iload_n 2, 1) := by decide +kernel
theorem dX12_saves_17 : decode cX12_saves 17 = .ok (.iadd, 1) := by decide +kernel
theorem dX12_saves_18 : decode cX12_saves 18 = .ok (.aload_n 0, 1) := by decide +kernel
theorem dX12_saves_19 : decode cX12_saves 19 = .ok (.iload_n 2, 1) := by decide +kernel
theorem dX12_saves_20 : decode cX12_saves 20 = .ok (.iconst 4, 1) := by decide +kernel
theorem dX12_saves_21 : decode cX12_saves 21 = .ok (.invokevirtual 90, 3) := by decide +kernel
theorem dX12_saves_24 : decode cX12_saves 24 = .ok (.iastore, 1) := by decide +kernel
theorem dX12_saves_25 : decode cX12_saves 25 = .ok (.iinc 2 1, 3) := by decide +kernel
theorem dX12_saves_28 : decode cX12_saves 28 = .ok (.goto (-26), 3) := by decide +kernel
theorem dX12_saves_31 : decode cX12_saves 31 = .ok (.aload_n 0, 1) := by decide +kernel
theorem dX12_saves_32 : decode cX12_saves 32 = .ok (.getfield 28, 3) := by decide +kernel
theorem dX12_saves_35 : decode cX12_saves 35 = .ok (.bipush 12, 2) := by decide +kernel
theorem dX12_saves_37 : decode cX12_saves 37 = .ok (.iload_n 1, 1) := by decide +kernel
theorem dX12_saves_38 : decode cX12_saves 38 = .ok (.imul, 1) := by decide +kernel
theorem dX12_saves_39 : decode cX12_saves 39 = .ok (.bipush 10, 2) := by decide +kernel
theorem dX12_saves_41 : decode cX12_saves 41 = .ok (.iadd, 1) := by decide +kernel
theorem dX12_saves_42 : decode cX12_saves 42 = .ok (.aload_n 0, 1) := by decide +kernel
theorem dX12_saves_43 : decode cX12_saves 43 = .ok (.getfield 7, 3) := by decide +kernel
theorem dX12_saves_46 : decode cX12_saves 46 = .ok (.iconst 3, 1) := by decide +kernel
theorem dX12_saves_47 : decode cX12_saves 47 = .ok (.iaload, 1) := by decide +kernel
theorem dX12_saves_48 : decode cX12_saves 48 = .ok (.iastore, 1) := by decide +kernel
theorem dX12_saves_49 : decode cX12_saves 49 = .ok (.aload_n 0, 1) := by decide +kernel
theorem dX12_saves_50 : decode cX12_saves 50 = .ok (.getfield 28, 3) := by decide +kernel
theorem dX12_saves_53 : decode cX12_saves 53 = .ok (.bipush 12, 2) := by decide +kernel
theorem dX12_saves_55 : decode cX12_saves 55 = .ok (.iload_n 1, 1) := by decide +kernel
theorem dX12_saves_56 : decode cX12_saves 56 = .ok (.imul, 1) := by decide +kernel
theorem dX12_saves_57 : decode cX12_saves 57 = .ok (.bipush 11, 2) := by decide +kernel
theorem dX12_saves_59 : decode cX12_saves 59 = .ok (.iadd, 1) := by decide +kernel
theorem dX12_saves_60 : decode cX12_saves 60 = .ok (.aload_n 0, 1) := by decide +kernel
theorem dX12_saves_61 : decode cX12_saves 61 = .ok (.getfield 7, 3) := by decide +kernel
theorem dX12_saves_64 : decode cX12_saves 64 = .ok (.iconst 4, 1) := by decide +kernel
theorem dX12_saves_65 : decode cX12_saves 65 = .ok (.iaload, 1) := by decide +kernel
theorem dX12_saves_66 : decode cX12_saves 66 = .ok (.iastore, 1) := by decide +kernel
theorem dX12_saves_67 : decode cX12_saves 67 = .ok (.return_, 1) := by decide +kernel
def f12_saves_b2B (K31 : lu_M → Option (lu_M)) (rec : Int32 → lu_M → Option (lu_M)) (a1 : Int32) (v2 : Int32) (m : lu_M) : Option (lu_M) :=
  if (10 : Int32) ≤ v2 then (K31 m)
  else (lu_bi (f12_deedIs v2 (4 : Int32) m) fun x1 m2 =>
  lu_gd (lu_ib (((12 : Int32) * a1) + v2) 60) <|
  lu_nm (lu_st m2 7 (((12 : Int32) * a1) + v2).toNatClampNeg x1) fun m3 =>
  rec (v2 + (1 : Int32)) m3)
def f12_saves_b2 (K31 : lu_M → Option (lu_M)) (a1 : Int32) : Nat → Int32 → lu_M → Option (lu_M)
  | 0, _, _ => none
  | n + 1, v2, m => f12_saves_b2B K31 (f12_saves_b2 K31 a1 n) a1 v2 m
set_option maxRecDepth 20000 in
theorem w12_saves_b2B  {G : lu_G} {ρ : Nat → Nat} {a1 : Int32} {K31 : lu_M → Option (lu_M)} {rec : Int32 → lu_M → Option (lu_M)} (X : lu_X G RX12 cX12_saves 3 2 43) (hret : (lu_me G).sig.returnType = none)  (hK31 : ∀  (m : lu_M), lu_Ab lu_TM G (lu_Q lu_TM G ρ lu_RVv lu_id) (K31 m) 31 [(0, .ref (ρ 0)), (1, .int a1)] [] ρ 0 0 [] m) (hrec : ∀ (v2 : Int32) (m : lu_M), lu_Ab lu_TM G (lu_Q lu_TM G ρ lu_RVv lu_id) (rec v2 m) 2 [(0, .ref (ρ 0)), (1, .int a1), (2, .int v2)] [] ρ 0 0 [] m) : ∀ (v2 : Int32) (m : lu_M), lu_Ab lu_TM G (lu_Q lu_TM G ρ lu_RVv lu_id) (f12_saves_b2B K31 rec a1 v2 m) 2 [(0, .ref (ρ 0)), (1, .int a1), (2, .int v2)] [] ρ 0 0 [] m := by
  intro v2 m
  unfold f12_saves_b2B
  refine lu_iload_n X dX12_saves_2 (pc2 := 3) rfl rfl 2 rfl ?_
  refine lu_bipush X dX12_saves_3 (pc2 := 5) rfl bp_10 ?_
  refine lu_icmp_ge (tgt := 31) X dX12_saves_5 (pc2 := 8) rfl (by decide) (fun _ => ?_) (fun _ => ?_)
  · exact lu_sub [0, 1] rfl (hK31 m)
  · refine lu_aload_n X dX12_saves_8 (pc2 := 9) rfl rfl 0 rfl ?_
    refine lu_getr (r2 := 7) X rfl fl12_28 rfl kM_0 lM_0 dX12_saves_9 (pc2 := 12) rfl ?_
    refine lu_bipush X dX12_saves_12 (pc2 := 14) rfl bp_12 ?_
    refine lu_iload_n X dX12_saves_14 (pc2 := 15) rfl rfl 1 rfl ?_
    refine lu_imul X dX12_saves_15 (pc2 := 16) rfl ?_
    refine lu_iload_n X dX12_saves_16 (pc2 := 17) rfl rfl 2 rfl ?_
    refine lu_iadd X dX12_saves_17 (pc2 := 18) rfl ?_
    refine lu_aload_n X dX12_saves_18 (pc2 := 19) rfl rfl 0 rfl ?_
    refine lu_iload_n X dX12_saves_19 (pc2 := 20) rfl rfl 2 rfl ?_
    refine lu_iconst X dX12_saves_20 (pc2 := 21) rfl ic_4 ?_
    refine lu_invVi X (c12_deedIs _ v2 (4 : Int32)) rfl q1284 mvV_12_deedIs kM_0 lM_0 (by decide) ⟨_, rfl, rfl⟩ rfl rfl (Nat.le_of_ble_eq_true rfl) (Nat.le_of_ble_eq_true rfl) (Nat.le_of_ble_eq_true rfl) ⟨Nat.zero_le _, Nat.zero_le _⟩ dX12_saves_21 (pc2 := 24) rfl rfl (fun x1 m2 => ?_)
    refine lu_iast X kM_7 lM_7 dX12_saves_24 (pc2 := 25) rfl (fun m3 => ?_)
    refine lu_iinc (lv2 := [(2, .int (v2 + (1 : Int32))), (0, .ref (ρ 0)), (1, .int a1)]) X dX12_saves_25 (pc2 := 28) rfl 2 rfl (lu_ii _ ic_1) (by decide) rfl ?_
    refine lu_goto (tgt := 2) X dX12_saves_28 (by decide) ?_
    exact lu_sub [1, 2, 0] rfl (hrec (v2 + (1 : Int32)) m3)
theorem w12_saves_b2  {G : lu_G} {ρ : Nat → Nat} {a1 : Int32} {K31 : lu_M → Option (lu_M)} (X : lu_X G RX12 cX12_saves 3 2 43) (hret : (lu_me G).sig.returnType = none)  (hK31 : ∀  (m : lu_M), lu_Ab lu_TM G (lu_Q lu_TM G ρ lu_RVv lu_id) (K31 m) 31 [(0, .ref (ρ 0)), (1, .int a1)] [] ρ 0 0 [] m) : ∀ (n : Nat) (v2 : Int32) (m : lu_M), lu_Ab lu_TM G (lu_Q lu_TM G ρ lu_RVv lu_id) (f12_saves_b2 K31 a1 n v2 m) 2 [(0, .ref (ρ 0)), (1, .int a1), (2, .int v2)] [] ρ 0 0 [] m := by
  intro n
  induction n with
  | zero => intro v2 m; exact lu_none
  | succ n ih => intro v2 m; exact w12_saves_b2B X hret hK31 ih v2 m
def f12_saves_b31  (a1 : Int32)  (m : lu_M) : Option (lu_M) :=
  lu_gd (lu_ib (((12 : Int32) * a1) + (10 : Int32)) 60) <|
  lu_nm (lu_st m 7 (((12 : Int32) * a1) + (10 : Int32)).toNatClampNeg (m 1 3)) fun m4 =>
  lu_gd (lu_ib (((12 : Int32) * a1) + (11 : Int32)) 60) <|
  lu_nm (lu_st m4 7 (((12 : Int32) * a1) + (11 : Int32)).toNatClampNeg (m4 1 4)) fun m5 =>
  some m5
set_option maxRecDepth 20000 in
theorem w12_saves_b31  {G : lu_G} {ρ : Nat → Nat} {a1 : Int32}  (X : lu_X G RX12 cX12_saves 3 2 43) (hret : (lu_me G).sig.returnType = none)   : ∀  (m : lu_M), lu_Ab lu_TM G (lu_Q lu_TM G ρ lu_RVv lu_id) (f12_saves_b31 a1 m) 31 [(0, .ref (ρ 0)), (1, .int a1)] [] ρ 0 0 [] m := by
  intro  m
  unfold f12_saves_b31
  refine lu_aload_n X dX12_saves_31 (pc2 := 32) rfl rfl 0 rfl ?_
  refine lu_getr (r2 := 7) X rfl fl12_28 rfl kM_0 lM_0 dX12_saves_32 (pc2 := 35) rfl ?_
  refine lu_bipush X dX12_saves_35 (pc2 := 37) rfl bp_12 ?_
  refine lu_iload_n X dX12_saves_37 (pc2 := 38) rfl rfl 1 rfl ?_
  refine lu_imul X dX12_saves_38 (pc2 := 39) rfl ?_
  refine lu_bipush X dX12_saves_39 (pc2 := 41) rfl bp_10 ?_
  refine lu_iadd X dX12_saves_41 (pc2 := 42) rfl ?_
  refine lu_aload_n X dX12_saves_42 (pc2 := 43) rfl rfl 0 rfl ?_
  refine lu_getr (r2 := 1) X rfl fl12_7 rfl kM_0 lM_0 dX12_saves_43 (pc2 := 46) rfl ?_
  refine lu_iconst X dX12_saves_46 (pc2 := 47) rfl ic_3 ?_
  refine lu_ialdK (q := 3) X (by decide) kM_1 lM_1 dX12_saves_47 (pc2 := 48) rfl ?_
  refine lu_iast X kM_7 lM_7 dX12_saves_48 (pc2 := 49) rfl (fun m4 => ?_)
  refine lu_aload_n X dX12_saves_49 (pc2 := 50) rfl rfl 0 rfl ?_
  refine lu_getr (r2 := 7) X rfl fl12_28 rfl kM_0 lM_0 dX12_saves_50 (pc2 := 53) rfl ?_
  refine lu_bipush X dX12_saves_53 (pc2 := 55) rfl bp_12 ?_
  refine lu_iload_n X dX12_saves_55 (pc2 := 56) rfl rfl 1 rfl ?_
  refine lu_imul X dX12_saves_56 (pc2 := 57) rfl ?_
  refine lu_bipush X dX12_saves_57 (pc2 := 59) rfl bp_11 ?_
  refine lu_iadd X dX12_saves_59 (pc2 := 60) rfl ?_
  refine lu_aload_n X dX12_saves_60 (pc2 := 61) rfl rfl 0 rfl ?_
  refine lu_getr (r2 := 1) X rfl fl12_7 rfl kM_0 lM_0 dX12_saves_61 (pc2 := 64) rfl ?_
  refine lu_iconst X dX12_saves_64 (pc2 := 65) rfl ic_4 ?_
  refine lu_ialdK (q := 4) X (by decide) kM_1 lM_1 dX12_saves_65 (pc2 := 66) rfl ?_
  refine lu_iast X kM_7 lM_7 dX12_saves_66 (pc2 := 67) rfl (fun m5 => ?_)
  exact lu_vret X hret dX12_saves_67
def f12_saves (a1 : Int32) (m : lu_M) : Option (lu_M) :=
  f12_saves_b2 (f12_saves_b31 a1) a1 lu_fu (0 : Int32) m
set_option maxRecDepth 20000 in
theorem c12_saves (l : Launch)   (a1 : Int32) : lu_C lu_TM l yX12_saves cX12_saves 3 none 2 43 (fun ρ sa => [.ref (ρ 0), .int a1]) (f12_saves a1) lu_RVv lu_id := by
  refine lu_met (cls := RX12) rfl (by decide +kernel) (fun _ _ => Nat.le_of_ble_eq_true rfl) ?_
  intro G ρ m hl X hret
  subst hl
  change lu_Ab lu_TM G (lu_Q lu_TM G ρ lu_RVv lu_id) (f12_saves a1 m) 0 [(0, .ref (ρ 0)), (1, .int a1)] [] ρ 0 0 [] m
  unfold f12_saves
  refine lu_iconst X dX12_saves_0 (pc2 := 1) rfl ic_0 ?_
  refine lu_istore_n (lv2 := [(2, .int (0 : Int32)), (0, .ref (ρ 0)), (1, .int a1)]) X dX12_saves_1 (pc2 := 2) rfl rfl (by decide) rfl ?_
  exact lu_sub [1, 2, 0] rfl (w12_saves_b2 X hret (w12_saves_b31 X hret) lu_fu (0 : Int32) m)

theorem dX12_takesBack_0 : decode cX12_takesBack 0 = .ok (.iconst 0, 1) := by decide +kernel
theorem dX12_takesBack_1 : decode cX12_takesBack 1 = .ok (.istore_n 2, 1) := by decide +kernel
theorem dX12_takesBack_2 : decode cX12_takesBack 2 = .ok (.iload_n 2, 1) := by decide +kernel
theorem dX12_takesBack_3 : decode cX12_takesBack 3 = .ok (.bipush 10, 2) := by decide +kernel
theorem dX12_takesBack_5 : decode cX12_takesBack 5 = .ok (.if_icmp .ge 30, 3) := by decide +kernel
theorem dX12_takesBack_8 : decode cX12_takesBack 8 = .ok (.aload_n 0, 1) := by decide +kernel
theorem dX12_takesBack_9 : decode cX12_takesBack 9 = .ok (.getfield 7, 3) := by decide +kernel
theorem dX12_takesBack_12 : decode cX12_takesBack 12 = .ok (.iload_n 2, 1) := by decide +kernel
theorem dX12_takesBack_13 : decode cX12_takesBack 13 = .ok (.iconst 4, 1) := by decide +kernel
theorem dX12_takesBack_14 : decode cX12_takesBack 14 = .ok (.invokestatic 72, 3) := by decide +kernel
theorem dX12_takesBack_17 : decode cX12_takesBack 17 = .ok (.aload_n 0, 1) := by decide +kernel
theorem dX12_takesBack_18 : decode cX12_takesBack 18 = .ok (.getfield 28, 3) := by decide +kernel
theorem dX12_takesBack_21 : decode cX12_takesBack 21 = .ok (.bipush 12, 2) := by decide +kernel
theorem dX12_takesBack_23 : decode cX12_takesBack 23 = .ok (.iload_n 1, 1) := by decide +kernel
theorem dX12_takesBack_24 : decode cX12_takesBack 24 = .ok (.imul, 1) := by decide +kernel
theorem dX12_takesBack_25 : decode cX12_takesBack 25 = .ok (.iload_n 2, 1) := by decide +kernel
theorem dX12_takesBack_26 : decode cX12_takesBack 26 = .ok (.iadd, 1) := by decide +kernel
theorem dX12_takesBack_27 : decode cX12_takesBack 27 = .ok (.iaload, 1) := by decide +kernel
theorem dX12_takesBack_28 : decode cX12_takesBack 28 = .ok (.iastore, 1) := by decide +kernel
theorem dX12_takesBack_29 : decode cX12_takesBack 29 = .ok (.iinc 2 1, 3) := by decide +kernel
theorem dX12_takesBack_32 : decode cX12_takesBack 32 = .ok (.goto (-30), 3) := by decide +kernel
theorem dX12_takesBack_35 : decode cX12_takesBack 35 = .ok (.aload_n 0, 1) := by decide +kernel
theorem dX12_takesBack_36 : decode cX12_takesBack 36 = .ok (.getfield 7, 3) := by decide +kernel
theorem dX12_takesBack_39 : decode cX12_takesBack 39 = .ok (.iconst 3, 1) := by decide +kernel
theorem dX12_takesBack_40 : decode cX12_takesBack 40 = .ok (.aload_n 0, 1) := by decide +kernel
theorem dX12_takesBack_41 : decode cX12_takesBack 41 = .ok (.getfield 28, 3) := by decide +kernel
theorem dX12_takesBack_44 : decode cX12_takesBack 44 = .ok (.bipush 12, 2) := by decide +kernel
theorem dX12_takesBack_46 : decode cX12_takesBack 46 = .ok (.iload_n 1, 1) := by decide +kernel
theorem dX12_takesBack_47 : decode cX12_takesBack 47 = .ok (.imul, 1) := by decide +kernel
theorem dX12_takesBack_48 : decode cX12_takesBack 48 = .ok (.bipush 10, 2) := by decide +kernel
theorem dX12_takesBack_50 : decode cX12_takesBack 50 = .ok (.iadd, 1) := by decide +kernel
theorem dX12_takesBack_51 : decode cX12_takesBack 51 = .ok (.iaload, 1) := by decide +kernel
theorem dX12_takesBack_52 : decode cX12_takesBack 52 = .ok (.iastore, 1) := by decide +kernel
theorem dX12_takesBack_53 : decode cX12_takesBack 53 = .ok (.aload_n 0, 1) := by decide +kernel
theorem dX12_takesBack_54 : decode cX12_takesBack 54 = .ok (.getfield 7, 3) := by decide +kernel
theorem dX12_takesBack_57 : decode cX12_takesBack 57 = .ok (.iconst 4, 1) := by decide +kernel
theorem dX12_takesBack_58 : decode cX12_takesBack 58 = .ok (.aload_n 0, 1) := by decide +kernel
theorem dX12_takesBack_59 : decode cX12_takesBack 59 = .ok (.getfield 28, 3) := by decide +kernel
theorem dX12_takesBack_62 : decode cX12_takesBack 62 = .ok (.bipush 12, 2) := by decide +kernel
theorem dX12_takesBack_64 : decode cX12_takesBack 64 = .ok (.iload_n 1, 1) := by decide +kernel
theorem dX12_takesBack_65 : decode cX12_takesBack 65 = .ok (.imul, 1) := by decide +kernel
theorem dX12_takesBack_66 : decode cX12_takesBack 66 = .ok (.bipush 11, 2) := by decide +kernel
theorem dX12_takesBack_68 : decode cX12_takesBack 68 = .ok (.iadd, 1) := by decide +kernel
theorem dX12_takesBack_69 : decode cX12_takesBack 69 = .ok (.iaload, 1) := by decide +kernel
theorem dX12_takesBack_70 : decode cX12_takesBack 70 = .ok (.iastore, 1) := by decide +kernel
theorem dX12_takesBack_71 : decode cX12_takesBack 71 = .ok (.return_, 1) := by decide +kernel
def f12_takesBack_b2B (K35 : lu_M → Option (lu_M)) (rec : Int32 → lu_M → Option (lu_M)) (a1 : Int32) (v2 : Int32) (m : lu_M) : Option (lu_M) :=
  if (10 : Int32) ≤ v2 then (K35 m)
  else (lu_bi (f12_spot v2 (4 : Int32) m) fun x1 m2 =>
  lu_gd (lu_ib (((12 : Int32) * a1) + v2) 60) <|
  lu_gd (lu_ib x1 368) <|
  lu_nm (lu_st m2 1 x1.toNatClampNeg (m2 7 (((12 : Int32) * a1) + v2).toNatClampNeg)) fun m3 =>
  rec (v2 + (1 : Int32)) m3)
def f12_takesBack_b2 (K35 : lu_M → Option (lu_M)) (a1 : Int32) : Nat → Int32 → lu_M → Option (lu_M)
  | 0, _, _ => none
  | n + 1, v2, m => f12_takesBack_b2B K35 (f12_takesBack_b2 K35 a1 n) a1 v2 m
set_option maxRecDepth 20000 in
theorem w12_takesBack_b2B  {G : lu_G} {ρ : Nat → Nat} {a1 : Int32} {K35 : lu_M → Option (lu_M)} {rec : Int32 → lu_M → Option (lu_M)} (X : lu_X G RX12 cX12_takesBack 3 1 21) (hret : (lu_me G).sig.returnType = none)  (hK35 : ∀  (m : lu_M), lu_Ab lu_TM G (lu_Q lu_TM G ρ lu_RVv lu_id) (K35 m) 35 [(0, .ref (ρ 0)), (1, .int a1)] [] ρ 0 0 [] m) (hrec : ∀ (v2 : Int32) (m : lu_M), lu_Ab lu_TM G (lu_Q lu_TM G ρ lu_RVv lu_id) (rec v2 m) 2 [(0, .ref (ρ 0)), (1, .int a1), (2, .int v2)] [] ρ 0 0 [] m) : ∀ (v2 : Int32) (m : lu_M), lu_Ab lu_TM G (lu_Q lu_TM G ρ lu_RVv lu_id) (f12_takesBack_b2B K35 rec a1 v2 m) 2 [(0, .ref (ρ 0)), (1, .int a1), (2, .int v2)] [] ρ 0 0 [] m := by
  intro v2 m
  unfold f12_takesBack_b2B
  refine lu_iload_n X dX12_takesBack_2 (pc2 := 3) rfl rfl 2 rfl ?_
  refine lu_bipush X dX12_takesBack_3 (pc2 := 5) rfl bp_10 ?_
  refine lu_icmp_ge (tgt := 35) X dX12_takesBack_5 (pc2 := 8) rfl (by decide) (fun _ => ?_) (fun _ => ?_)
  · exact lu_sub [0, 1] rfl (hK35 m)
  · refine lu_aload_n X dX12_takesBack_8 (pc2 := 9) rfl rfl 0 rfl ?_
    refine lu_getr (r2 := 1) X rfl fl12_7 rfl kM_0 lM_0 dX12_takesBack_9 (pc2 := 12) rfl ?_
    refine lu_iload_n X dX12_takesBack_12 (pc2 := 13) rfl rfl 2 rfl ?_
    refine lu_iconst X dX12_takesBack_13 (pc2 := 14) rfl ic_4 ?_
    refine lu_invSi X (c12_spot _ v2 (4 : Int32)) rfl q1288 mvS_12_spot rfl rfl (Nat.le_of_ble_eq_true rfl) (Nat.le_of_ble_eq_true rfl) (Nat.le_of_ble_eq_true rfl) ⟨Nat.zero_le _, Nat.zero_le _⟩ dX12_takesBack_14 (pc2 := 17) rfl rfl (fun x1 m2 => ?_)
    refine lu_aload_n X dX12_takesBack_17 (pc2 := 18) rfl rfl 0 rfl ?_
    refine lu_getr (r2 := 7) X rfl fl12_28 rfl kM_0 lM_0 dX12_takesBack_18 (pc2 := 21) rfl ?_
    refine lu_bipush X dX12_takesBack_21 (pc2 := 23) rfl bp_12 ?_
    refine lu_iload_n X dX12_takesBack_23 (pc2 := 24) rfl rfl 1 rfl ?_
    refine lu_imul X dX12_takesBack_24 (pc2 := 25) rfl ?_
    refine lu_iload_n X dX12_takesBack_25 (pc2 := 26) rfl rfl 2 rfl ?_
    refine lu_iadd X dX12_takesBack_26 (pc2 := 27) rfl ?_
    refine lu_iald X kM_7 lM_7 dX12_takesBack_27 (pc2 := 28) rfl ?_
    refine lu_iast X kM_1 lM_1 dX12_takesBack_28 (pc2 := 29) rfl (fun m3 => ?_)
    refine lu_iinc (lv2 := [(2, .int (v2 + (1 : Int32))), (0, .ref (ρ 0)), (1, .int a1)]) X dX12_takesBack_29 (pc2 := 32) rfl 2 rfl (lu_ii _ ic_1) (by decide) rfl ?_
    refine lu_goto (tgt := 2) X dX12_takesBack_32 (by decide) ?_
    exact lu_sub [1, 2, 0] rfl (hrec (v2 + (1 : Int32)) m3)
theorem w12_takesBack_b2  {G : lu_G} {ρ : Nat → Nat} {a1 : Int32} {K35 : lu_M → Option (lu_M)} (X : lu_X G RX12 cX12_takesBack 3 1 21) (hret : (lu_me G).sig.returnType = none)  (hK35 : ∀  (m : lu_M), lu_Ab lu_TM G (lu_Q lu_TM G ρ lu_RVv lu_id) (K35 m) 35 [(0, .ref (ρ 0)), (1, .int a1)] [] ρ 0 0 [] m) : ∀ (n : Nat) (v2 : Int32) (m : lu_M), lu_Ab lu_TM G (lu_Q lu_TM G ρ lu_RVv lu_id) (f12_takesBack_b2 K35 a1 n v2 m) 2 [(0, .ref (ρ 0)), (1, .int a1), (2, .int v2)] [] ρ 0 0 [] m := by
  intro n
  induction n with
  | zero => intro v2 m; exact lu_none
  | succ n ih => intro v2 m; exact w12_takesBack_b2B X hret hK35 ih v2 m
def f12_takesBack_b35  (a1 : Int32)  (m : lu_M) : Option (lu_M) :=
  lu_gd (lu_ib (((12 : Int32) * a1) + (10 : Int32)) 60) <|
  lu_nm (lu_st m 1 3 (m 7 (((12 : Int32) * a1) + (10 : Int32)).toNatClampNeg)) fun m4 =>
  lu_gd (lu_ib (((12 : Int32) * a1) + (11 : Int32)) 60) <|
  lu_nm (lu_st m4 1 4 (m4 7 (((12 : Int32) * a1) + (11 : Int32)).toNatClampNeg)) fun m5 =>
  some m5
set_option maxRecDepth 20000 in
theorem w12_takesBack_b35  {G : lu_G} {ρ : Nat → Nat} {a1 : Int32}  (X : lu_X G RX12 cX12_takesBack 3 1 21) (hret : (lu_me G).sig.returnType = none)   : ∀  (m : lu_M), lu_Ab lu_TM G (lu_Q lu_TM G ρ lu_RVv lu_id) (f12_takesBack_b35 a1 m) 35 [(0, .ref (ρ 0)), (1, .int a1)] [] ρ 0 0 [] m := by
  intro  m
  unfold f12_takesBack_b35
  refine lu_aload_n X dX12_takesBack_35 (pc2 := 36) rfl rfl 0 rfl ?_
  refine lu_getr (r2 := 1) X rfl fl12_7 rfl kM_0 lM_0 dX12_takesBack_36 (pc2 := 39) rfl ?_
  refine lu_iconst X dX12_takesBack_39 (pc2 := 40) rfl ic_3 ?_
  refine lu_aload_n X dX12_takesBack_40 (pc2 := 41) rfl rfl 0 rfl ?_
  refine lu_getr (r2 := 7) X rfl fl12_28 rfl kM_0 lM_0 dX12_takesBack_41 (pc2 := 44) rfl ?_
  refine lu_bipush X dX12_takesBack_44 (pc2 := 46) rfl bp_12 ?_
  refine lu_iload_n X dX12_takesBack_46 (pc2 := 47) rfl rfl 1 rfl ?_
  refine lu_imul X dX12_takesBack_47 (pc2 := 48) rfl ?_
  refine lu_bipush X dX12_takesBack_48 (pc2 := 50) rfl bp_10 ?_
  refine lu_iadd X dX12_takesBack_50 (pc2 := 51) rfl ?_
  refine lu_iald X kM_7 lM_7 dX12_takesBack_51 (pc2 := 52) rfl ?_
  refine lu_iastK (q := 3) X (by decide) kM_1 lM_1 dX12_takesBack_52 (pc2 := 53) rfl (fun m4 => ?_)
  refine lu_aload_n X dX12_takesBack_53 (pc2 := 54) rfl rfl 0 rfl ?_
  refine lu_getr (r2 := 1) X rfl fl12_7 rfl kM_0 lM_0 dX12_takesBack_54 (pc2 := 57) rfl ?_
  refine lu_iconst X dX12_takesBack_57 (pc2 := 58) rfl ic_4 ?_
  refine lu_aload_n X dX12_takesBack_58 (pc2 := 59) rfl rfl 0 rfl ?_
  refine lu_getr (r2 := 7) X rfl fl12_28 rfl kM_0 lM_0 dX12_takesBack_59 (pc2 := 62) rfl ?_
  refine lu_bipush X dX12_takesBack_62 (pc2 := 64) rfl bp_12 ?_
  refine lu_iload_n X dX12_takesBack_64 (pc2 := 65) rfl rfl 1 rfl ?_
  refine lu_imul X dX12_takesBack_65 (pc2 := 66) rfl ?_
  refine lu_bipush X dX12_takesBack_66 (pc2 := 68) rfl bp_11 ?_
  refine lu_iadd X dX12_takesBack_68 (pc2 := 69) rfl ?_
  refine lu_iald X kM_7 lM_7 dX12_takesBack_69 (pc2 := 70) rfl ?_
  refine lu_iastK (q := 4) X (by decide) kM_1 lM_1 dX12_takesBack_70 (pc2 := 71) rfl (fun m5 => ?_)
  exact lu_vret X hret dX12_takesBack_71
def f12_takesBack (a1 : Int32) (m : lu_M) : Option (lu_M) :=
  f12_takesBack_b2 (f12_takesBack_b35 a1) a1 lu_fu (0 : Int32) m
set_option maxRecDepth 20000 in
theorem c12_takesBack (l : Launch)   (a1 : Int32) : lu_C lu_TM l yX12_takesBack cX12_takesBack 3 none 1 21 (fun ρ sa => [.ref (ρ 0), .int a1]) (f12_takesBack a1) lu_RVv lu_id := by
  refine lu_met (cls := RX12) rfl (by decide +kernel) (fun _ _ => Nat.le_of_ble_eq_true rfl) ?_
  intro G ρ m hl X hret
  subst hl
  change lu_Ab lu_TM G (lu_Q lu_TM G ρ lu_RVv lu_id) (f12_takesBack a1 m) 0 [(0, .ref (ρ 0)), (1, .int a1)] [] ρ 0 0 [] m
  unfold f12_takesBack
  refine lu_iconst X dX12_takesBack_0 (pc2 := 1) rfl ic_0 ?_
  refine lu_istore_n (lv2 := [(2, .int (0 : Int32)), (0, .ref (ρ 0)), (1, .int a1)]) X dX12_takesBack_1 (pc2 := 2) rfl rfl (by decide) rfl ?_
  exact lu_sub [1, 2, 0] rfl (w12_takesBack_b2 X hret (w12_takesBack_b35 X hret) lu_fu (0 : Int32) m)

theorem dX12_ended_0 : decode cX12_ended 0 = .ok (.iload_n 2, 1) := by decide +kernel
theorem dX12_ended_1 : decode cX12_ended 1 = .ok (.aload_n 0, 1) := by decide +kernel
theorem dX12_ended_2 : decode cX12_ended 2 = .ok (.getfield 181, 3) := by decide +kernel
theorem dX12_ended_5 : decode cX12_ended 5 = .ok (.if_icmp .le 38, 3) := by decide +kernel
theorem dX12_ended_8 : decode cX12_ended 8 = .ok (.aload_n 0, 1) := by decide +kernel
theorem dX12_ended_9 : decode cX12_ended 9 = .ok (.iload_n 2, 1) := by decide +kernel
theorem dX12_ended_10 : decode cX12_ended 10 = .ok (.putfield 181, 3) := by decide +kernel
theorem dX12_ended_13 : decode cX12_ended 13 = .ok (.aload_n 0, 1) := by decide +kernel
theorem dX12_ended_14 : decode cX12_ended 14 = .ok (.iconst 0, 1) := by decide +kernel
theorem dX12_ended_15 : decode cX12_ended 15 = .ok (.putfield 185, 3) := by decide +kernel
theorem dX12_ended_18 : decode cX12_ended 18 = .ok (.iconst 0, 1) := by decide +kernel
theorem dX12_ended_19 : decode cX12_ended 19 = .ok (.istore_n 3, 1) := by decide +kernel
theorem dX12_ended_20 : decode cX12_ended 20 = .ok (.iload_n 3, 1) := by decide +kernel
theorem dX12_ended_21 : decode cX12_ended 21 = .ok (.iload_n 1, 1) := by decide +kernel
theorem dX12_ended_22 : decode cX12_ended 22 = .ok (.if_icmp .ge 21, 3) := by decide +kernel
theorem dX12_ended_25 : decode cX12_ended 25 = .ok (.aload_n 0, 1) := by decide +kernel
theorem dX12_ended_26 : decode cX12_ended 26 = .ok (.getfield 34, 3) := by decide +kernel
theorem dX12_ended_29 : decode cX12_ended 29 = .ok (.iload_n 3, 1) := by decide +kernel
theorem dX12_ended_30 : decode cX12_ended 30 = .ok (.aload_n 0, 1) := by decide +kernel
theorem dX12_ended_31 : decode cX12_ended 31 = .ok (.getfield 31, 3) := by decide +kernel
theorem dX12_ended_34 : decode cX12_ended 34 = .ok (.iload_n 3, 1) := by decide +kernel
theorem dX12_ended_35 : decode cX12_ended 35 = .ok (.iaload, 1) := by decide +kernel
theorem dX12_ended_36 : decode cX12_ended 36 = .ok (.iastore, 1) := by decide +kernel
theorem dX12_ended_37 : decode cX12_ended 37 = .ok (.iinc 3 1, 3) := by decide +kernel
theorem dX12_ended_40 : decode cX12_ended 40 = .ok (.goto (-20), 3) := by decide +kernel
theorem dX12_ended_43 : decode cX12_ended 43 = .ok (.aload_n 0, 1) := by decide +kernel
theorem dX12_ended_44 : decode cX12_ended 44 = .ok (.dup, 1) := by decide +kernel
theorem dX12_ended_45 : decode cX12_ended 45 = .ok (.getfield 185, 3) := by decide +kernel
theorem dX12_ended_48 : decode cX12_ended 48 = .ok (.iload_n 2, 1) := by decide +kernel
theorem dX12_ended_49 : decode cX12_ended 49 = .ok (.aload_n 0, 1) := by decide +kernel
theorem dX12_ended_50 : decode cX12_ended 50 = .ok (.getfield 181, 3) := by decide +kernel
theorem dX12_ended_53 : decode cX12_ended 53 = .ok (.if_icmp .ne 7, 3) := by decide +kernel
theorem dX12_ended_56 : decode cX12_ended 56 = .ok (.iconst 1, 1) := by decide +kernel
theorem dX12_ended_57 : decode cX12_ended 57 = .ok (.goto 4, 3) := by decide +kernel
theorem dX12_ended_60 : decode cX12_ended 60 = .ok (.iconst 0, 1) := by decide +kernel
theorem dX12_ended_61 : decode cX12_ended 61 = .ok (.iadd, 1) := by decide +kernel
theorem dX12_ended_62 : decode cX12_ended 62 = .ok (.putfield 185, 3) := by decide +kernel
theorem dX12_ended_65 : decode cX12_ended 65 = .ok (.iconst 0, 1) := by decide +kernel
theorem dX12_ended_66 : decode cX12_ended 66 = .ok (.istore_n 3, 1) := by decide +kernel
theorem dX12_ended_67 : decode cX12_ended 67 = .ok (.iconst 0, 1) := by decide +kernel
theorem dX12_ended_68 : decode cX12_ended 68 = .ok (.istore 4, 2) := by decide +kernel
theorem dX12_ended_70 : decode cX12_ended 70 = .ok (.iload 4, 2) := by decide +kernel
theorem dX12_ended_72 : decode cX12_ended 72 = .ok (.iload_n 1, 1) := by decide +kernel
theorem dX12_ended_73 : decode cX12_ended 73 = .ok (.if_icmp .ge 27, 3) := by decide +kernel
theorem dX12_ended_76 : decode cX12_ended 76 = .ok (.iload_n 3, 1) := by decide +kernel
theorem dX12_ended_77 : decode cX12_ended 77 = .ok (.aload_n 0, 1) := by decide +kernel
theorem dX12_ended_78 : decode cX12_ended 78 = .ok (.getfield 31, 3) := by decide +kernel
theorem dX12_ended_81 : decode cX12_ended 81 = .ok (.iload 4, 2) := by decide +kernel
theorem dX12_ended_83 : decode cX12_ended 83 = .ok (.iaload, 1) := by decide +kernel
theorem dX12_ended_84 : decode cX12_ended 84 = .ok (.ifCond .le 7, 3) := by decide +kernel
theorem dX12_ended_87 : decode cX12_ended 87 = .ok (.iconst 1, 1) := by decide +kernel
theorem dX12_ended_88 : decode cX12_ended 88 = .ok (.goto 4, 3) := by decide +kernel
theorem dX12_ended_91 : decode cX12_ended 91 = .ok (.iconst 0, 1) := by decide +kernel
theorem dX12_ended_92 : decode cX12_ended 92 = .ok (.iadd, 1) := by decide +kernel
theorem dX12_ended_93 : decode cX12_ended 93 = .ok (.istore_n 3, 1) := by decide +kernel
theorem dX12_ended_94 : decode cX12_ended 94 = .ok (.iinc 4 1, 3) := by decide +kernel
theorem dX12_ended_97 : decode cX12_ended 97 = .ok (.goto (-27), 3) := by decide +kernel
theorem dX12_ended_100 : decode cX12_ended 100 = .ok (.aload_n 0, 1) := by decide +kernel
theorem dX12_ended_101 : decode cX12_ended 101 = .ok (.iconst 1, 1) := by decide +kernel
theorem dX12_ended_102 : decode cX12_ended 102 = .ok (.invokevirtual 151, 3) := by decide +kernel
theorem dX12_ended_105 : decode cX12_ended 105 = .ok (.istore 4, 2) := by decide +kernel
theorem dX12_ended_107 : decode cX12_ended 107 = .ok (.aload_n 0, 1) := by decide +kernel
theorem dX12_ended_108 : decode cX12_ended 108 = .ok (.dup, 1) := by decide +kernel
theorem dX12_ended_109 : decode cX12_ended 109 = .ok (.getfield 188, 3) := by decide +kernel
theorem dX12_ended_112 : decode cX12_ended 112 = .ok (.iload 4, 2) := by decide +kernel
theorem dX12_ended_114 : decode cX12_ended 114 = .ok (.ior, 1) := by decide +kernel
theorem dX12_ended_115 : decode cX12_ended 115 = .ok (.putfield 188, 3) := by decide +kernel
theorem dX12_ended_118 : decode cX12_ended 118 = .ok (.aload_n 0, 1) := by decide +kernel
theorem dX12_ended_119 : decode cX12_ended 119 = .ok (.aload_n 0, 1) := by decide +kernel
theorem dX12_ended_120 : decode cX12_ended 120 = .ok (.getfield 191, 3) := by decide +kernel
theorem dX12_ended_123 : decode cX12_ended 123 = .ok (.iload 4, 2) := by decide +kernel
theorem dX12_ended_125 : decode cX12_ended 125 = .ok (.iconst (-1), 1) := by decide +kernel
theorem dX12_ended_126 : decode cX12_ended 126 = .ok (.ixor, 1) := by decide +kernel
theorem dX12_ended_127 : decode cX12_ended 127 = .ok (.iand, 1) := by decide +kernel
theorem dX12_ended_128 : decode cX12_ended 128 = .ok (.ifCond .ne 15, 3) := by decide +kernel
theorem dX12_ended_131 : decode cX12_ended 131 = .ok (.iload_n 3, 1) := by decide +kernel
theorem dX12_ended_132 : decode cX12_ended 132 = .ok (.aload_n 0, 1) := by decide +kernel
theorem dX12_ended_133 : decode cX12_ended 133 = .ok (.getfield 194, 3) := by decide +kernel
theorem dX12_ended_136 : decode cX12_ended 136 = .ok (.if_icmp .ge 7, 3) := by decide +kernel
theorem dX12_ended_139 : decode cX12_ended 139 = .ok (.iload_n 3, 1) := by decide +kernel
theorem dX12_ended_140 : decode cX12_ended 140 = .ok (.goto 7, 3) := by decide +kernel
theorem dX12_ended_143 : decode cX12_ended 143 = .ok (.aload_n 0, 1) := by decide +kernel
theorem dX12_ended_144 : decode cX12_ended 144 = .ok (.getfield 194, 3) := by decide +kernel
theorem dX12_ended_147 : decode cX12_ended 147 = .ok (.putfield 194, 3) := by decide +kernel
theorem dX12_ended_150 : decode cX12_ended 150 = .ok (.return_, 1) := by decide +kernel
def f12_ended_b92 (K70 : Int32 → Int32 → lu_M → Option (lu_M)) (K100 : Int32 → lu_M → Option (lu_M)) (a1 : Int32) (a2 : Int32) (v4 : Int32) (s0 : Int32) (s1 : Int32) (m : lu_M) : Option (lu_M) :=
  lu_nm ((s1 + s0)) fun x2 =>
  K70 x2 (v4 + (1 : Int32)) m
set_option maxRecDepth 20000 in
theorem w12_ended_b92  {G : lu_G} {ρ : Nat → Nat} {a1 : Int32} {a2 : Int32} {K70 : Int32 → Int32 → lu_M → Option (lu_M)} {K100 : Int32 → lu_M → Option (lu_M)} (X : lu_X G RX12 cX12_ended 5 3 66) (hret : (lu_me G).sig.returnType = none)  (hK70 : ∀ (v3 : Int32) (v4 : Int32) (m : lu_M), lu_Ab lu_TM G (lu_Q lu_TM G ρ lu_RVv lu_id) (K70 v3 v4 m) 70 [(0, .ref (ρ 0)), (1, .int a1), (3, .int v3), (4, .int v4)] [] ρ 0 0 [] m) (hK100 : ∀ (v3 : Int32) (m : lu_M), lu_Ab lu_TM G (lu_Q lu_TM G ρ lu_RVv lu_id) (K100 v3 m) 100 [(0, .ref (ρ 0)), (3, .int v3)] [] ρ 0 0 [] m) : ∀ (v4 : Int32) (s0 : Int32) (s1 : Int32) (m : lu_M), lu_Ab lu_TM G (lu_Q lu_TM G ρ lu_RVv lu_id) (f12_ended_b92 K70 K100 a1 a2 v4 s0 s1 m) 92 [(0, .ref (ρ 0)), (1, .int a1), (4, .int v4)] [.int s0, .int s1] ρ 0 0 [] m := by
  intro v4 s0 s1 m
  unfold f12_ended_b92
  refine lu_iadd X dX12_ended_92 (pc2 := 93) rfl ?_
  refine lu_topi (fun x2 => ?_)
  refine lu_istore_n (lv2 := [(3, .int x2), (0, .ref (ρ 0)), (1, .int a1), (4, .int v4)]) X dX12_ended_93 (pc2 := 94) rfl rfl (by decide) rfl ?_
  refine lu_iinc (lv2 := [(4, .int (v4 + (1 : Int32))), (3, .int x2), (0, .ref (ρ 0)), (1, .int a1)]) X dX12_ended_94 (pc2 := 97) rfl 3 rfl (lu_ii _ ic_1) (by decide) rfl ?_
  refine lu_goto (tgt := 70) X dX12_ended_97 (by decide) ?_
  exact lu_sub [2, 3, 1, 0] rfl (hK70 x2 (v4 + (1 : Int32)) m)
def f12_ended_b70B (K100 : Int32 → lu_M → Option (lu_M)) (rec : Int32 → Int32 → lu_M → Option (lu_M)) (a1 : Int32) (a2 : Int32) (v3 : Int32) (v4 : Int32) (m : lu_M) : Option (lu_M) :=
  if a1 ≤ v4 then (K100 v3 m)
  else (lu_gd (lu_ib v4 4) <|
  if (m 8 v4.toNatClampNeg) ≤ 0 then (f12_ended_b92 rec K100 a1 a2 v4 (0 : Int32) v3 m)
  else (f12_ended_b92 rec K100 a1 a2 v4 (1 : Int32) v3 m))
def f12_ended_b70 (K100 : Int32 → lu_M → Option (lu_M)) (a1 : Int32) (a2 : Int32) : Nat → Int32 → Int32 → lu_M → Option (lu_M)
  | 0, _, _, _ => none
  | n + 1, v3, v4, m => f12_ended_b70B K100 (f12_ended_b70 K100 a1 a2 n) a1 a2 v3 v4 m
set_option maxRecDepth 20000 in
theorem w12_ended_b70B  {G : lu_G} {ρ : Nat → Nat} {a1 : Int32} {a2 : Int32} {K100 : Int32 → lu_M → Option (lu_M)} {rec : Int32 → Int32 → lu_M → Option (lu_M)} (X : lu_X G RX12 cX12_ended 5 3 66) (hret : (lu_me G).sig.returnType = none)  (hK100 : ∀ (v3 : Int32) (m : lu_M), lu_Ab lu_TM G (lu_Q lu_TM G ρ lu_RVv lu_id) (K100 v3 m) 100 [(0, .ref (ρ 0)), (3, .int v3)] [] ρ 0 0 [] m) (hrec : ∀ (v3 : Int32) (v4 : Int32) (m : lu_M), lu_Ab lu_TM G (lu_Q lu_TM G ρ lu_RVv lu_id) (rec v3 v4 m) 70 [(0, .ref (ρ 0)), (1, .int a1), (3, .int v3), (4, .int v4)] [] ρ 0 0 [] m) : ∀ (v3 : Int32) (v4 : Int32) (m : lu_M), lu_Ab lu_TM G (lu_Q lu_TM G ρ lu_RVv lu_id) (f12_ended_b70B K100 rec a1 a2 v3 v4 m) 70 [(0, .ref (ρ 0)), (1, .int a1), (3, .int v3), (4, .int v4)] [] ρ 0 0 [] m := by
  intro v3 v4 m
  unfold f12_ended_b70B
  refine lu_iload X dX12_ended_70 (pc2 := 72) rfl 3 rfl ?_
  refine lu_iload_n X dX12_ended_72 (pc2 := 73) rfl rfl 1 rfl ?_
  refine lu_icmp_ge (tgt := 100) X dX12_ended_73 (pc2 := 76) rfl (by decide) (fun _ => ?_) (fun _ => ?_)
  · exact lu_sub [0, 2] rfl (hK100 v3 m)
  · refine lu_iload_n X dX12_ended_76 (pc2 := 77) rfl rfl 2 rfl ?_
    refine lu_aload_n X dX12_ended_77 (pc2 := 78) rfl rfl 0 rfl ?_
    refine lu_getr (r2 := 8) X rfl fl12_31 rfl kM_0 lM_0 dX12_ended_78 (pc2 := 81) rfl ?_
    refine lu_iload X dX12_ended_81 (pc2 := 83) rfl 3 rfl ?_
    refine lu_iald X kM_8 lM_8 dX12_ended_83 (pc2 := 84) rfl ?_
    refine lu_if_le (tgt := 91) X dX12_ended_84 (pc2 := 87) rfl (by decide) (fun _ => ?_) (fun _ => ?_)
    · refine lu_iconst X dX12_ended_91 (pc2 := 92) rfl ic_0 ?_
      exact lu_sub [0, 1, 3] rfl (w12_ended_b92 X hret hrec hK100 v4 (0 : Int32) v3 m)
    · refine lu_iconst X dX12_ended_87 (pc2 := 88) rfl ic_1 ?_
      refine lu_goto (tgt := 92) X dX12_ended_88 (by decide) ?_
      exact lu_sub [0, 1, 3] rfl (w12_ended_b92 X hret hrec hK100 v4 (1 : Int32) v3 m)
theorem w12_ended_b70  {G : lu_G} {ρ : Nat → Nat} {a1 : Int32} {a2 : Int32} {K100 : Int32 → lu_M → Option (lu_M)} (X : lu_X G RX12 cX12_ended 5 3 66) (hret : (lu_me G).sig.returnType = none)  (hK100 : ∀ (v3 : Int32) (m : lu_M), lu_Ab lu_TM G (lu_Q lu_TM G ρ lu_RVv lu_id) (K100 v3 m) 100 [(0, .ref (ρ 0)), (3, .int v3)] [] ρ 0 0 [] m) : ∀ (n : Nat) (v3 : Int32) (v4 : Int32) (m : lu_M), lu_Ab lu_TM G (lu_Q lu_TM G ρ lu_RVv lu_id) (f12_ended_b70 K100 a1 a2 n v3 v4 m) 70 [(0, .ref (ρ 0)), (1, .int a1), (3, .int v3), (4, .int v4)] [] ρ 0 0 [] m := by
  intro n
  induction n with
  | zero => intro v3 v4 m; exact lu_none
  | succ n ih => intro v3 v4 m; exact w12_ended_b70B X hret hK100 ih v3 v4 m
def f12_ended_b147  (a1 : Int32) (a2 : Int32) (s0 : Int32) (m : lu_M) : Option (lu_M) :=
  lu_nm (lu_st m 0 12 s0) fun m6 =>
  some m6
set_option maxRecDepth 20000 in
theorem w12_ended_b147  {G : lu_G} {ρ : Nat → Nat} {a1 : Int32} {a2 : Int32}  (X : lu_X G RX12 cX12_ended 5 3 66) (hret : (lu_me G).sig.returnType = none)   : ∀ (s0 : Int32) (m : lu_M), lu_Ab lu_TM G (lu_Q lu_TM G ρ lu_RVv lu_id) (f12_ended_b147 a1 a2 s0 m) 147 [] [.int s0, .ref (ρ 0)] ρ 0 0 [] m := by
  intro s0 m
  unfold f12_ended_b147
  refine lu_put X fl12_194 rfl (Or.inl (by decide)) rfl (by decide +kernel) kM_0 lM_0 dX12_ended_147 (pc2 := 150) rfl (fun m6 => ?_)
  exact lu_vret X hret dX12_ended_150
def f12_ended_b143  (a1 : Int32) (a2 : Int32)  (m : lu_M) : Option (lu_M) :=
  f12_ended_b147 a1 a2 (m 0 12) m
set_option maxRecDepth 20000 in
theorem w12_ended_b143  {G : lu_G} {ρ : Nat → Nat} {a1 : Int32} {a2 : Int32}  (X : lu_X G RX12 cX12_ended 5 3 66) (hret : (lu_me G).sig.returnType = none)   : ∀  (m : lu_M), lu_Ab lu_TM G (lu_Q lu_TM G ρ lu_RVv lu_id) (f12_ended_b143 a1 a2 m) 143 [(0, .ref (ρ 0))] [.ref (ρ 0)] ρ 0 0 [] m := by
  intro  m
  unfold f12_ended_b143
  refine lu_aload_n X dX12_ended_143 (pc2 := 144) rfl rfl 0 rfl ?_
  refine lu_get X fl12_194 rfl kM_0 lM_0 dX12_ended_144 (pc2 := 147) rfl ?_
  exact lu_sub [] rfl (w12_ended_b147 X hret (m 0 12) m)
def f12_ended_b100  (a1 : Int32) (a2 : Int32) (v3 : Int32) (m : lu_M) : Option (lu_M) :=
  lu_bi (f12_those (1 : Int32) m) fun x3 m4 =>
  lu_nm (lu_st m4 0 13 ((m4 0 13) ||| x3)) fun m5 =>
  if ((m5 0 14) &&& (x3 ^^^ (-1 : Int32))) = 0 then (if (m5 0 12) ≤ v3 then (f12_ended_b143 a1 a2 m5)
  else (f12_ended_b147 a1 a2 v3 m5))
  else (f12_ended_b143 a1 a2 m5)
set_option maxRecDepth 20000 in
theorem w12_ended_b100  {G : lu_G} {ρ : Nat → Nat} {a1 : Int32} {a2 : Int32}  (X : lu_X G RX12 cX12_ended 5 3 66) (hret : (lu_me G).sig.returnType = none)   : ∀ (v3 : Int32) (m : lu_M), lu_Ab lu_TM G (lu_Q lu_TM G ρ lu_RVv lu_id) (f12_ended_b100 a1 a2 v3 m) 100 [(0, .ref (ρ 0)), (3, .int v3)] [] ρ 0 0 [] m := by
  intro v3 m
  unfold f12_ended_b100
  refine lu_aload_n X dX12_ended_100 (pc2 := 101) rfl rfl 0 rfl ?_
  refine lu_iconst X dX12_ended_101 (pc2 := 102) rfl ic_1 ?_
  refine lu_invVi X (c12_those _ (1 : Int32)) rfl q1383 mvV_12_those kM_0 lM_0 (by decide) ⟨_, rfl, rfl⟩ rfl rfl (Nat.le_of_ble_eq_true rfl) (Nat.le_of_ble_eq_true rfl) (Nat.le_of_ble_eq_true rfl) ⟨Nat.zero_le _, Nat.zero_le _⟩ dX12_ended_102 (pc2 := 105) rfl rfl (fun x3 m4 => ?_)
  refine lu_istore (lv2 := [(4, .int x3), (0, .ref (ρ 0)), (3, .int v3)]) X dX12_ended_105 (pc2 := 107) rfl (by decide) rfl ?_
  refine lu_aload_n X dX12_ended_107 (pc2 := 108) rfl rfl 1 rfl ?_
  refine lu_dup X dX12_ended_108 (pc2 := 109) rfl rfl ?_
  refine lu_get X fl12_188 rfl kM_0 lM_0 dX12_ended_109 (pc2 := 112) rfl ?_
  refine lu_iload X dX12_ended_112 (pc2 := 114) rfl 0 rfl ?_
  refine lu_ior X dX12_ended_114 (pc2 := 115) rfl ?_
  refine lu_put X fl12_188 rfl (Or.inl (by decide)) rfl (by decide +kernel) kM_0 lM_0 dX12_ended_115 (pc2 := 118) rfl (fun m5 => ?_)
  refine lu_aload_n X dX12_ended_118 (pc2 := 119) rfl rfl 1 rfl ?_
  refine lu_aload_n X dX12_ended_119 (pc2 := 120) rfl rfl 1 rfl ?_
  refine lu_get X fl12_191 rfl kM_0 lM_0 dX12_ended_120 (pc2 := 123) rfl ?_
  refine lu_iload X dX12_ended_123 (pc2 := 125) rfl 0 rfl ?_
  refine lu_iconst X dX12_ended_125 (pc2 := 126) rfl ic_m1 ?_
  refine lu_ixor X dX12_ended_126 (pc2 := 127) rfl ?_
  refine lu_iand X dX12_ended_127 (pc2 := 128) rfl ?_
  refine lu_if_ne (tgt := 143) X dX12_ended_128 (pc2 := 131) rfl (by decide) (fun _ => ?_) (fun _ => ?_)
  · exact lu_sub [1] rfl (w12_ended_b143 X hret m5)
  · refine lu_iload_n X dX12_ended_131 (pc2 := 132) rfl rfl 2 rfl ?_
    refine lu_aload_n X dX12_ended_132 (pc2 := 133) rfl rfl 1 rfl ?_
    refine lu_get X fl12_194 rfl kM_0 lM_0 dX12_ended_133 (pc2 := 136) rfl ?_
    refine lu_icmp_ge (tgt := 143) X dX12_ended_136 (pc2 := 139) rfl (by decide) (fun _ => ?_) (fun _ => ?_)
    · exact lu_sub [1] rfl (w12_ended_b143 X hret m5)
    · refine lu_iload_n X dX12_ended_139 (pc2 := 140) rfl rfl 2 rfl ?_
      refine lu_goto (tgt := 147) X dX12_ended_140 (by decide) ?_
      exact lu_sub [] rfl (w12_ended_b147 X hret v3 m5)
def f12_ended_b61  (a1 : Int32) (a2 : Int32) (s0 : Int32) (s1 : Int32) (m : lu_M) : Option (lu_M) :=
  lu_nm (lu_st m 0 11 (s1 + s0)) fun m1 =>
  f12_ended_b70 (f12_ended_b100 a1 a2) a1 a2 lu_fu (0 : Int32) (0 : Int32) m1
set_option maxRecDepth 20000 in
theorem w12_ended_b61  {G : lu_G} {ρ : Nat → Nat} {a1 : Int32} {a2 : Int32}  (X : lu_X G RX12 cX12_ended 5 3 66) (hret : (lu_me G).sig.returnType = none)   : ∀ (s0 : Int32) (s1 : Int32) (m : lu_M), lu_Ab lu_TM G (lu_Q lu_TM G ρ lu_RVv lu_id) (f12_ended_b61 a1 a2 s0 s1 m) 61 [(0, .ref (ρ 0)), (1, .int a1)] [.int s0, .int s1, .ref (ρ 0)] ρ 0 0 [] m := by
  intro s0 s1 m
  unfold f12_ended_b61
  refine lu_iadd X dX12_ended_61 (pc2 := 62) rfl ?_
  refine lu_put X fl12_185 rfl (Or.inl (by decide)) rfl (by decide +kernel) kM_0 lM_0 dX12_ended_62 (pc2 := 65) rfl (fun m1 => ?_)
  refine lu_iconst X dX12_ended_65 (pc2 := 66) rfl ic_0 ?_
  refine lu_istore_n (lv2 := [(3, .int (0 : Int32)), (0, .ref (ρ 0)), (1, .int a1)]) X dX12_ended_66 (pc2 := 67) rfl rfl (by decide) rfl ?_
  refine lu_iconst X dX12_ended_67 (pc2 := 68) rfl ic_0 ?_
  refine lu_istore (lv2 := [(4, .int (0 : Int32)), (3, .int (0 : Int32)), (0, .ref (ρ 0)), (1, .int a1)]) X dX12_ended_68 (pc2 := 70) rfl (by decide) rfl ?_
  exact lu_sub [2, 3, 1, 0] rfl (w12_ended_b70 X hret (w12_ended_b100 X hret) lu_fu (0 : Int32) (0 : Int32) m1)
def f12_ended_b43  (a1 : Int32) (a2 : Int32)  (m : lu_M) : Option (lu_M) :=
  if a2 = (m 0 10) then (f12_ended_b61 a1 a2 (1 : Int32) (m 0 11) m)
  else (f12_ended_b61 a1 a2 (0 : Int32) (m 0 11) m)
set_option maxRecDepth 20000 in
theorem w12_ended_b43  {G : lu_G} {ρ : Nat → Nat} {a1 : Int32} {a2 : Int32}  (X : lu_X G RX12 cX12_ended 5 3 66) (hret : (lu_me G).sig.returnType = none)   : ∀  (m : lu_M), lu_Ab lu_TM G (lu_Q lu_TM G ρ lu_RVv lu_id) (f12_ended_b43 a1 a2 m) 43 [(0, .ref (ρ 0)), (1, .int a1), (2, .int a2)] [] ρ 0 0 [] m := by
  intro  m
  unfold f12_ended_b43
  refine lu_aload_n X dX12_ended_43 (pc2 := 44) rfl rfl 0 rfl ?_
  refine lu_dup X dX12_ended_44 (pc2 := 45) rfl rfl ?_
  refine lu_get X fl12_185 rfl kM_0 lM_0 dX12_ended_45 (pc2 := 48) rfl ?_
  refine lu_iload_n X dX12_ended_48 (pc2 := 49) rfl rfl 2 rfl ?_
  refine lu_aload_n X dX12_ended_49 (pc2 := 50) rfl rfl 0 rfl ?_
  refine lu_get X fl12_181 rfl kM_0 lM_0 dX12_ended_50 (pc2 := 53) rfl ?_
  refine lu_icmp_ne (tgt := 60) X dX12_ended_53 (pc2 := 56) rfl (by decide) (fun _ => ?_) (fun _ => ?_)
  · refine lu_iconst X dX12_ended_60 (pc2 := 61) rfl ic_0 ?_
    exact lu_sub [0, 1] rfl (w12_ended_b61 X hret (0 : Int32) (m 0 11) m)
  · refine lu_iconst X dX12_ended_56 (pc2 := 57) rfl ic_1 ?_
    refine lu_goto (tgt := 61) X dX12_ended_57 (by decide) ?_
    exact lu_sub [0, 1] rfl (w12_ended_b61 X hret (1 : Int32) (m 0 11) m)
def f12_ended_b20B (K43 : lu_M → Option (lu_M)) (rec : Int32 → lu_M → Option (lu_M)) (a1 : Int32) (a2 : Int32) (v3 : Int32) (m : lu_M) : Option (lu_M) :=
  if a1 ≤ v3 then (K43 m)
  else (lu_gd (lu_ib v3 4) <|
  lu_gd (lu_ib v3 4) <|
  lu_nm (lu_st m 9 v3.toNatClampNeg (m 8 v3.toNatClampNeg)) fun m9 =>
  rec (v3 + (1 : Int32)) m9)
def f12_ended_b20 (K43 : lu_M → Option (lu_M)) (a1 : Int32) (a2 : Int32) : Nat → Int32 → lu_M → Option (lu_M)
  | 0, _, _ => none
  | n + 1, v3, m => f12_ended_b20B K43 (f12_ended_b20 K43 a1 a2 n) a1 a2 v3 m
set_option maxRecDepth 20000 in
theorem w12_ended_b20B  {G : lu_G} {ρ : Nat → Nat} {a1 : Int32} {a2 : Int32} {K43 : lu_M → Option (lu_M)} {rec : Int32 → lu_M → Option (lu_M)} (X : lu_X G RX12 cX12_ended 5 3 66) (hret : (lu_me G).sig.returnType = none)  (hK43 : ∀  (m : lu_M), lu_Ab lu_TM G (lu_Q lu_TM G ρ lu_RVv lu_id) (K43 m) 43 [(0, .ref (ρ 0)), (1, .int a1), (2, .int a2)] [] ρ 0 0 [] m) (hrec : ∀ (v3 : Int32) (m : lu_M), lu_Ab lu_TM G (lu_Q lu_TM G ρ lu_RVv lu_id) (rec v3 m) 20 [(0, .ref (ρ 0)), (1, .int a1), (2, .int a2), (3, .int v3)] [] ρ 0 0 [] m) : ∀ (v3 : Int32) (m : lu_M), lu_Ab lu_TM G (lu_Q lu_TM G ρ lu_RVv lu_id) (f12_ended_b20B K43 rec a1 a2 v3 m) 20 [(0, .ref (ρ 0)), (1, .int a1), (2, .int a2), (3, .int v3)] [] ρ 0 0 [] m := by
  intro v3 m
  unfold f12_ended_b20B
  refine lu_iload_n X dX12_ended_20 (pc2 := 21) rfl rfl 3 rfl ?_
  refine lu_iload_n X dX12_ended_21 (pc2 := 22) rfl rfl 1 rfl ?_
  refine lu_icmp_ge (tgt := 43) X dX12_ended_22 (pc2 := 25) rfl (by decide) (fun _ => ?_) (fun _ => ?_)
  · exact lu_sub [0, 1, 2] rfl (hK43 m)
  · refine lu_aload_n X dX12_ended_25 (pc2 := 26) rfl rfl 0 rfl ?_
    refine lu_getr (r2 := 9) X rfl fl12_34 rfl kM_0 lM_0 dX12_ended_26 (pc2 := 29) rfl ?_
    refine lu_iload_n X dX12_ended_29 (pc2 := 30) rfl rfl 3 rfl ?_
    refine lu_aload_n X dX12_ended_30 (pc2 := 31) rfl rfl 0 rfl ?_
    refine lu_getr (r2 := 8) X rfl fl12_31 rfl kM_0 lM_0 dX12_ended_31 (pc2 := 34) rfl ?_
    refine lu_iload_n X dX12_ended_34 (pc2 := 35) rfl rfl 3 rfl ?_
    refine lu_iald X kM_8 lM_8 dX12_ended_35 (pc2 := 36) rfl ?_
    refine lu_iast X kM_9 lM_9 dX12_ended_36 (pc2 := 37) rfl (fun m9 => ?_)
    refine lu_iinc (lv2 := [(3, .int (v3 + (1 : Int32))), (0, .ref (ρ 0)), (1, .int a1), (2, .int a2)]) X dX12_ended_37 (pc2 := 40) rfl 3 rfl (lu_ii _ ic_1) (by decide) rfl ?_
    refine lu_goto (tgt := 20) X dX12_ended_40 (by decide) ?_
    exact lu_sub [1, 2, 3, 0] rfl (hrec (v3 + (1 : Int32)) m9)
theorem w12_ended_b20  {G : lu_G} {ρ : Nat → Nat} {a1 : Int32} {a2 : Int32} {K43 : lu_M → Option (lu_M)} (X : lu_X G RX12 cX12_ended 5 3 66) (hret : (lu_me G).sig.returnType = none)  (hK43 : ∀  (m : lu_M), lu_Ab lu_TM G (lu_Q lu_TM G ρ lu_RVv lu_id) (K43 m) 43 [(0, .ref (ρ 0)), (1, .int a1), (2, .int a2)] [] ρ 0 0 [] m) : ∀ (n : Nat) (v3 : Int32) (m : lu_M), lu_Ab lu_TM G (lu_Q lu_TM G ρ lu_RVv lu_id) (f12_ended_b20 K43 a1 a2 n v3 m) 20 [(0, .ref (ρ 0)), (1, .int a1), (2, .int a2), (3, .int v3)] [] ρ 0 0 [] m := by
  intro n
  induction n with
  | zero => intro v3 m; exact lu_none
  | succ n ih => intro v3 m; exact w12_ended_b20B X hret hK43 ih v3 m
def f12_ended (a1 : Int32) (a2 : Int32) (m : lu_M) : Option (lu_M) :=
  if a2 ≤ (m 0 10) then (f12_ended_b43 a1 a2 m)
  else (lu_nm (lu_st m 0 10 a2) fun m7 =>
  lu_nm (lu_st m7 0 11 (0 : Int32)) fun m8 =>
  f12_ended_b20 (f12_ended_b43 a1 a2) a1 a2 lu_fu (0 : Int32) m8)
set_option maxRecDepth 20000 in
theorem c12_ended (l : Launch)   (a1 : Int32) (a2 : Int32) : lu_C lu_TM l yX12_ended cX12_ended 5 none 3 66 (fun ρ sa => [.ref (ρ 0), .int a1, .int a2]) (f12_ended a1 a2) lu_RVv lu_id := by
  refine lu_met (cls := RX12) rfl (by decide +kernel) (fun _ _ => Nat.le_of_ble_eq_true rfl) ?_
  intro G ρ m hl X hret
  subst hl
  change lu_Ab lu_TM G (lu_Q lu_TM G ρ lu_RVv lu_id) (f12_ended a1 a2 m) 0 [(0, .ref (ρ 0)), (1, .int a1), (2, .int a2)] [] ρ 0 0 [] m
  unfold f12_ended
  refine lu_iload_n X dX12_ended_0 (pc2 := 1) rfl rfl 2 rfl ?_
  refine lu_aload_n X dX12_ended_1 (pc2 := 2) rfl rfl 0 rfl ?_
  refine lu_get X fl12_181 rfl kM_0 lM_0 dX12_ended_2 (pc2 := 5) rfl ?_
  refine lu_icmp_le (tgt := 43) X dX12_ended_5 (pc2 := 8) rfl (by decide) (fun _ => ?_) (fun _ => ?_)
  · exact w12_ended_b43 X hret m
  · refine lu_aload_n X dX12_ended_8 (pc2 := 9) rfl rfl 0 rfl ?_
    refine lu_iload_n X dX12_ended_9 (pc2 := 10) rfl rfl 2 rfl ?_
    refine lu_put X fl12_181 rfl (Or.inl (by decide)) rfl (by decide +kernel) kM_0 lM_0 dX12_ended_10 (pc2 := 13) rfl (fun m7 => ?_)
    refine lu_aload_n X dX12_ended_13 (pc2 := 14) rfl rfl 0 rfl ?_
    refine lu_iconst X dX12_ended_14 (pc2 := 15) rfl ic_0 ?_
    refine lu_put X fl12_185 rfl (Or.inl (by decide)) rfl (by decide +kernel) kM_0 lM_0 dX12_ended_15 (pc2 := 18) rfl (fun m8 => ?_)
    refine lu_iconst X dX12_ended_18 (pc2 := 19) rfl ic_0 ?_
    refine lu_istore_n (lv2 := [(3, .int (0 : Int32)), (0, .ref (ρ 0)), (1, .int a1), (2, .int a2)]) X dX12_ended_19 (pc2 := 20) rfl rfl (by decide) rfl ?_
    exact lu_sub [1, 2, 3, 0] rfl (w12_ended_b20 X hret (w12_ended_b43 X hret) lu_fu (0 : Int32) m8)

theorem dX12_plans_0 : decode cX12_plans 0 = .ok (.iload_n 1, 1) := by decide +kernel
theorem dX12_plans_1 : decode cX12_plans 1 = .ok (.iload_n 2, 1) := by decide +kernel
theorem dX12_plans_2 : decode cX12_plans 2 = .ok (.if_icmp .ne 10, 3) := by decide +kernel
theorem dX12_plans_5 : decode cX12_plans 5 = .ok (.aload_n 0, 1) := by decide +kernel
theorem dX12_plans_6 : decode cX12_plans 6 = .ok (.iload_n 2, 1) := by decide +kernel
theorem dX12_plans_7 : decode cX12_plans 7 = .ok (.iload_n 3, 1) := by decide +kernel
theorem dX12_plans_8 : decode cX12_plans 8 = .ok (.invokevirtual 197, 3) := by decide +kernel
theorem dX12_plans_11 : decode cX12_plans 11 = .ok (.return_, 1) := by decide +kernel
theorem dX12_plans_12 : decode cX12_plans 12 = .ok (.iconst 0, 1) := by decide +kernel
theorem dX12_plans_13 : decode cX12_plans 13 = .ok (.istore 4, 2) := by decide +kernel
theorem dX12_plans_15 : decode cX12_plans 15 = .ok (.iload 4, 2) := by decide +kernel
theorem dX12_plans_17 : decode cX12_plans 17 = .ok (.aload_n 0, 1) := by decide +kernel
theorem dX12_plans_18 : decode cX12_plans 18 = .ok (.getfield 7, 3) := by decide +kernel
theorem dX12_plans_21 : decode cX12_plans 21 = .ok (.iconst 0, 1) := by decide +kernel
theorem dX12_plans_22 : decode cX12_plans 22 = .ok (.iaload, 1) := by decide +kernel
theorem dX12_plans_23 : decode cX12_plans 23 = .ok (.if_icmp .gt 43, 3) := by decide +kernel
theorem dX12_plans_26 : decode cX12_plans 26 = .ok (.aload_n 0, 1) := by decide +kernel
theorem dX12_plans_27 : decode cX12_plans 27 = .ok (.iload_n 1, 1) := by decide +kernel
theorem dX12_plans_28 : decode cX12_plans 28 = .ok (.invokevirtual 201, 3) := by decide +kernel
theorem dX12_plans_31 : decode cX12_plans 31 = .ok (.aload_n 0, 1) := by decide +kernel
theorem dX12_plans_32 : decode cX12_plans 32 = .ok (.getfield 31, 3) := by decide +kernel
theorem dX12_plans_35 : decode cX12_plans 35 = .ok (.iload_n 1, 1) := by decide +kernel
theorem dX12_plans_36 : decode cX12_plans 36 = .ok (.iload 4, 2) := by decide +kernel
theorem dX12_plans_38 : decode cX12_plans 38 = .ok (.iastore, 1) := by decide +kernel
theorem dX12_plans_39 : decode cX12_plans 39 = .ok (.aload_n 0, 1) := by decide +kernel
theorem dX12_plans_40 : decode cX12_plans 40 = .ok (.iload_n 1, 1) := by decide +kernel
theorem dX12_plans_41 : decode cX12_plans 41 = .ok (.iconst 1, 1) := by decide +kernel
theorem dX12_plans_42 : decode cX12_plans 42 = .ok (.iadd, 1) := by decide +kernel
theorem dX12_plans_43 : decode cX12_plans 43 = .ok (.iload_n 2, 1) := by decide +kernel
theorem dX12_plans_44 : decode cX12_plans 44 = .ok (.iload_n 3, 1) := by decide +kernel
theorem dX12_plans_45 : decode cX12_plans 45 = .ok (.aload_n 0, 1) := by decide +kernel
theorem dX12_plans_46 : decode cX12_plans 46 = .ok (.iload 4, 2) := by decide +kernel
theorem dX12_plans_48 : decode cX12_plans 48 = .ok (.invokevirtual 146, 3) := by decide +kernel
theorem dX12_plans_51 : decode cX12_plans 51 = .ok (.iadd, 1) := by decide +kernel
theorem dX12_plans_52 : decode cX12_plans 52 = .ok (.invokevirtual 204, 3) := by decide +kernel
theorem dX12_plans_55 : decode cX12_plans 55 = .ok (.aload_n 0, 1) := by decide +kernel
theorem dX12_plans_56 : decode cX12_plans 56 = .ok (.iload_n 1, 1) := by decide +kernel
theorem dX12_plans_57 : decode cX12_plans 57 = .ok (.invokevirtual 208, 3) := by decide +kernel
theorem dX12_plans_60 : decode cX12_plans 60 = .ok (.iinc 4 1, 3) := by decide +kernel
theorem dX12_plans_63 : decode cX12_plans 63 = .ok (.goto (-48), 3) := by decide +kernel
theorem dX12_plans_66 : decode cX12_plans 66 = .ok (.return_, 1) := by decide +kernel
def f12_plans_b15B (K66 : lu_M → Option (lu_M)) (rc : Int32 → Int32 → Int32 → lu_M → Option (lu_M)) (rec : Int32 → lu_M → Option (lu_M)) (a1 : Int32) (a2 : Int32) (a3 : Int32) (v4 : Int32) (m : lu_M) : Option (lu_M) :=
  if (m 1 0) < v4 then (K66 m)
  else (lu_bv (f12_saves a1 m) fun m1 =>
  lu_gd (lu_ib a1 4) <|
  lu_nm (lu_st m1 8 a1.toNatClampNeg v4) fun m2 =>
  lu_bi (f12_goes v4 m2) fun x3 m4 =>
  lu_bv (rc (a1 + (1 : Int32)) a2 (a3 + x3) m4) fun m5 =>
  lu_bv (f12_takesBack a1 m5) fun m6 =>
  rec (v4 + (1 : Int32)) m6)
def f12_plans_b15 (K66 : lu_M → Option (lu_M)) (rc : Int32 → Int32 → Int32 → lu_M → Option (lu_M)) (a1 : Int32) (a2 : Int32) (a3 : Int32) : Nat → Int32 → lu_M → Option (lu_M)
  | 0, _, _ => none
  | n + 1, v4, m => f12_plans_b15B K66 rc (f12_plans_b15 K66 rc a1 a2 a3 n) a1 a2 a3 v4 m
set_option maxRecDepth 20000 in
theorem w12_plans_b15B {rc : Int32 → Int32 → Int32 → lu_M → Option (lu_M)} {frc loc : Nat}  {G : lu_G} {ρ : Nat → Nat} {a1 : Int32} {a2 : Int32} {a3 : Int32} {K66 : lu_M → Option (lu_M)} {rec : Int32 → lu_M → Option (lu_M)} (X : lu_X G RX12 cX12_plans 5 (frc + 7) (loc + 168)) (hret : (lu_me G).sig.returnType = none) (hrc : ∀ (b0 : Int32) (b1 : Int32) (b2 : Int32), lu_C lu_TM (lu_l G) yX12_plans cX12_plans 5 none frc loc (fun ρ _ => [.ref (ρ 0), .int b0, .int b1, .int b2]) (fun m => rc b0 b1 b2 m) lu_RVv lu_id)  (hK66 : ∀  (m : lu_M), lu_Ab lu_TM G (lu_Q lu_TM G ρ lu_RVv lu_id) (K66 m) 66 [] [] ρ 0 0 [] m) (hrec : ∀ (v4 : Int32) (m : lu_M), lu_Ab lu_TM G (lu_Q lu_TM G ρ lu_RVv lu_id) (rec v4 m) 15 [(0, .ref (ρ 0)), (1, .int a1), (2, .int a2), (3, .int a3), (4, .int v4)] [] ρ 0 0 [] m) : ∀ (v4 : Int32) (m : lu_M), lu_Ab lu_TM G (lu_Q lu_TM G ρ lu_RVv lu_id) (f12_plans_b15B K66 rc rec a1 a2 a3 v4 m) 15 [(0, .ref (ρ 0)), (1, .int a1), (2, .int a2), (3, .int a3), (4, .int v4)] [] ρ 0 0 [] m := by
  intro v4 m
  unfold f12_plans_b15B
  refine lu_iload X dX12_plans_15 (pc2 := 17) rfl 4 rfl ?_
  refine lu_aload_n X dX12_plans_17 (pc2 := 18) rfl rfl 0 rfl ?_
  refine lu_getr (r2 := 1) X rfl fl12_7 rfl kM_0 lM_0 dX12_plans_18 (pc2 := 21) rfl ?_
  refine lu_iconst X dX12_plans_21 (pc2 := 22) rfl ic_0 ?_
  refine lu_ialdK (q := 0) X (by decide) kM_1 lM_1 dX12_plans_22 (pc2 := 23) rfl ?_
  refine lu_icmp_gt (tgt := 66) X dX12_plans_23 (pc2 := 26) rfl (by decide) (fun _ => ?_) (fun _ => ?_)
  · exact lu_sub [] rfl (hK66 m)
  · refine lu_aload_n X dX12_plans_26 (pc2 := 27) rfl rfl 0 rfl ?_
    refine lu_iload_n X dX12_plans_27 (pc2 := 28) rfl rfl 1 rfl ?_
    refine lu_invVv X (c12_saves _ a1) rfl q1491 mvV_12_saves kM_0 lM_0 (by decide) ⟨_, rfl, rfl⟩ rfl rfl (Nat.le_of_ble_eq_true rfl) (by omega) (by omega) ⟨Nat.zero_le _, Nat.zero_le _⟩ dX12_plans_28 (pc2 := 31) rfl rfl (fun m1 => ?_)
    refine lu_aload_n X dX12_plans_31 (pc2 := 32) rfl rfl 0 rfl ?_
    refine lu_getr (r2 := 8) X rfl fl12_31 rfl kM_0 lM_0 dX12_plans_32 (pc2 := 35) rfl ?_
    refine lu_iload_n X dX12_plans_35 (pc2 := 36) rfl rfl 1 rfl ?_
    refine lu_iload X dX12_plans_36 (pc2 := 38) rfl 4 rfl ?_
    refine lu_iast X kM_8 lM_8 dX12_plans_38 (pc2 := 39) rfl (fun m2 => ?_)
    refine lu_aload_n X dX12_plans_39 (pc2 := 40) rfl rfl 0 rfl ?_
    refine lu_iload_n X dX12_plans_40 (pc2 := 41) rfl rfl 1 rfl ?_
    refine lu_iconst X dX12_plans_41 (pc2 := 42) rfl ic_1 ?_
    refine lu_iadd X dX12_plans_42 (pc2 := 43) rfl ?_
    refine lu_iload_n X dX12_plans_43 (pc2 := 44) rfl rfl 2 rfl ?_
    refine lu_iload_n X dX12_plans_44 (pc2 := 45) rfl rfl 3 rfl ?_
    refine lu_aload_n X dX12_plans_45 (pc2 := 46) rfl rfl 0 rfl ?_
    refine lu_iload X dX12_plans_46 (pc2 := 48) rfl 4 rfl ?_
    refine lu_invVi X (c12_goes _ v4) rfl q1370 mvV_12_goes kM_0 lM_0 (by decide) ⟨_, rfl, rfl⟩ rfl rfl (Nat.le_of_ble_eq_true rfl) (by omega) (by omega) ⟨Nat.zero_le _, Nat.zero_le _⟩ dX12_plans_48 (pc2 := 51) rfl rfl (fun x3 m4 => ?_)
    refine lu_iadd X dX12_plans_51 (pc2 := 52) rfl ?_
    refine lu_invVv X (hrc (a1 + (1 : Int32)) a2 (a3 + x3)) rfl q1483 mvV_12_plans kM_0 lM_0 (by decide) ⟨_, rfl, rfl⟩ rfl rfl (Nat.le_of_ble_eq_true rfl) (by omega) (by omega) ⟨Nat.zero_le _, Nat.zero_le _⟩ dX12_plans_52 (pc2 := 55) rfl rfl (fun m5 => ?_)
    refine lu_aload_n X dX12_plans_55 (pc2 := 56) rfl rfl 0 rfl ?_
    refine lu_iload_n X dX12_plans_56 (pc2 := 57) rfl rfl 1 rfl ?_
    refine lu_invVv X (c12_takesBack _ a1) rfl q1495 mvV_12_takesBack kM_0 lM_0 (by decide) ⟨_, rfl, rfl⟩ rfl rfl (Nat.le_of_ble_eq_true rfl) (by omega) (by omega) ⟨Nat.zero_le _, Nat.zero_le _⟩ dX12_plans_57 (pc2 := 60) rfl rfl (fun m6 => ?_)
    refine lu_iinc (lv2 := [(4, .int (v4 + (1 : Int32))), (0, .ref (ρ 0)), (1, .int a1), (2, .int a2), (3, .int a3)]) X dX12_plans_60 (pc2 := 63) rfl 4 rfl (lu_ii _ ic_1) (by decide) rfl ?_
    refine lu_goto (tgt := 15) X dX12_plans_63 (by decide) ?_
    exact lu_sub [1, 2, 3, 4, 0] rfl (hrec (v4 + (1 : Int32)) m6)
theorem w12_plans_b15 {rc : Int32 → Int32 → Int32 → lu_M → Option (lu_M)} {frc loc : Nat}  {G : lu_G} {ρ : Nat → Nat} {a1 : Int32} {a2 : Int32} {a3 : Int32} {K66 : lu_M → Option (lu_M)} (X : lu_X G RX12 cX12_plans 5 (frc + 7) (loc + 168)) (hret : (lu_me G).sig.returnType = none) (hrc : ∀ (b0 : Int32) (b1 : Int32) (b2 : Int32), lu_C lu_TM (lu_l G) yX12_plans cX12_plans 5 none frc loc (fun ρ _ => [.ref (ρ 0), .int b0, .int b1, .int b2]) (fun m => rc b0 b1 b2 m) lu_RVv lu_id)  (hK66 : ∀  (m : lu_M), lu_Ab lu_TM G (lu_Q lu_TM G ρ lu_RVv lu_id) (K66 m) 66 [] [] ρ 0 0 [] m) : ∀ (n : Nat) (v4 : Int32) (m : lu_M), lu_Ab lu_TM G (lu_Q lu_TM G ρ lu_RVv lu_id) (f12_plans_b15 K66 rc a1 a2 a3 n v4 m) 15 [(0, .ref (ρ 0)), (1, .int a1), (2, .int a2), (3, .int a3), (4, .int v4)] [] ρ 0 0 [] m := by
  intro n
  induction n with
  | zero => intro v4 m; exact lu_none
  | succ n ih => intro v4 m; exact w12_plans_b15B X hret hrc hK66 ih v4 m
def f12_plans_b66  (rc : Int32 → Int32 → Int32 → lu_M → Option (lu_M)) (a1 : Int32) (a2 : Int32) (a3 : Int32)  (m : lu_M) : Option (lu_M) :=
  some m
set_option maxRecDepth 20000 in
theorem w12_plans_b66 {rc : Int32 → Int32 → Int32 → lu_M → Option (lu_M)} {frc loc : Nat}  {G : lu_G} {ρ : Nat → Nat} {a1 : Int32} {a2 : Int32} {a3 : Int32}  (X : lu_X G RX12 cX12_plans 5 (frc + 7) (loc + 168)) (hret : (lu_me G).sig.returnType = none) (hrc : ∀ (b0 : Int32) (b1 : Int32) (b2 : Int32), lu_C lu_TM (lu_l G) yX12_plans cX12_plans 5 none frc loc (fun ρ _ => [.ref (ρ 0), .int b0, .int b1, .int b2]) (fun m => rc b0 b1 b2 m) lu_RVv lu_id)   : ∀  (m : lu_M), lu_Ab lu_TM G (lu_Q lu_TM G ρ lu_RVv lu_id) (f12_plans_b66 rc a1 a2 a3 m) 66 [] [] ρ 0 0 [] m := by
  intro  m
  unfold f12_plans_b66
  exact lu_vret X hret dX12_plans_66
def f12_plansO (rc : Int32 → Int32 → Int32 → lu_M → Option (lu_M)) (a1 : Int32) (a2 : Int32) (a3 : Int32) (m : lu_M) : Option (lu_M) :=
  if a1 = a2 then (lu_bv (f12_ended a2 a3 m) fun m7 =>
  some m7)
  else (f12_plans_b15 (f12_plans_b66 rc a1 a2 a3) rc a1 a2 a3 lu_fu (0 : Int32) m)
set_option maxRecDepth 20000 in
theorem c12_plansO {rc : Int32 → Int32 → Int32 → lu_M → Option (lu_M)} {frc loc : Nat} (l : Launch) (hrc : ∀ (b0 : Int32) (b1 : Int32) (b2 : Int32), lu_C lu_TM (l) yX12_plans cX12_plans 5 none frc loc (fun ρ _ => [.ref (ρ 0), .int b0, .int b1, .int b2]) (fun m => rc b0 b1 b2 m) lu_RVv lu_id)   (a1 : Int32) (a2 : Int32) (a3 : Int32) : lu_C lu_TM l yX12_plans cX12_plans 5 none (frc + 7) (loc + 168) (fun ρ sa => [.ref (ρ 0), .int a1, .int a2, .int a3]) (f12_plansO rc a1 a2 a3) lu_RVv lu_id := by
  refine lu_met (cls := RX12) rfl (by decide +kernel) (fun _ _ => Nat.le_of_ble_eq_true rfl) ?_
  intro G ρ m hl X hret
  subst hl
  change lu_Ab lu_TM G (lu_Q lu_TM G ρ lu_RVv lu_id) (f12_plansO rc a1 a2 a3 m) 0 [(0, .ref (ρ 0)), (1, .int a1), (2, .int a2), (3, .int a3)] [] ρ 0 0 [] m
  unfold f12_plansO
  refine lu_iload_n X dX12_plans_0 (pc2 := 1) rfl rfl 1 rfl ?_
  refine lu_iload_n X dX12_plans_1 (pc2 := 2) rfl rfl 2 rfl ?_
  refine lu_icmp_ne (tgt := 12) X dX12_plans_2 (pc2 := 5) rfl (by decide) (fun _ => ?_) (fun _ => ?_)
  · refine lu_iconst X dX12_plans_12 (pc2 := 13) rfl ic_0 ?_
    refine lu_istore (lv2 := [(4, .int (0 : Int32)), (0, .ref (ρ 0)), (1, .int a1), (2, .int a2), (3, .int a3)]) X dX12_plans_13 (pc2 := 15) rfl (by decide) rfl ?_
    exact lu_sub [1, 2, 3, 4, 0] rfl (w12_plans_b15 X hret hrc (w12_plans_b66 X hret hrc) lu_fu (0 : Int32) m)
  · refine lu_aload_n X dX12_plans_5 (pc2 := 6) rfl rfl 0 rfl ?_
    refine lu_iload_n X dX12_plans_6 (pc2 := 7) rfl rfl 2 rfl ?_
    refine lu_iload_n X dX12_plans_7 (pc2 := 8) rfl rfl 3 rfl ?_
    refine lu_invVv X (c12_ended _ a2 a3) rfl q1487 mvV_12_ended kM_0 lM_0 (by decide) ⟨_, rfl, rfl⟩ rfl rfl (Nat.le_of_ble_eq_true rfl) (by omega) (by omega) ⟨Nat.zero_le _, Nat.zero_le _⟩ dX12_plans_8 (pc2 := 11) rfl rfl (fun m7 => ?_)
    exact lu_vret X hret dX12_plans_11
def f12_plans : Nat → Int32 → Int32 → Int32 → lu_M → Option (lu_M)
  | 0, _, _, _, _ => none
  | d + 1, b0, b1, b2, m => f12_plansO (f12_plans d) b0 b1 b2 m
theorem c12_plans (l : Launch) : ∀ (d : Nat) (b0 : Int32) (b1 : Int32) (b2 : Int32), lu_C lu_TM l yX12_plans cX12_plans 5 none (7 * d) (168 * d) (fun ρ _ => [.ref (ρ 0), .int b0, .int b1, .int b2]) (fun m => f12_plans d b0 b1 b2 m) lu_RVv lu_id := by
  intro d
  induction d with
  | zero => intro b0 b1 b2 D cs ρ m sa sz b h; cases h
  | succ d ih => intro b0 b1 b2; exact c12_plansO (frc := 7 * d) (loc := 168 * d) l ih b0 b1 b2

theorem dX12_yearsOf_0 : decode cX12_yearsOf 0 = .ok (.aload_n 0, 1) := by decide +kernel
theorem dX12_yearsOf_1 : decode cX12_yearsOf 1 = .ok (.getfield 7, 3) := by decide +kernel
theorem dX12_yearsOf_4 : decode cX12_yearsOf 4 = .ok (.iconst 2, 1) := by decide +kernel
theorem dX12_yearsOf_5 : decode cX12_yearsOf 5 = .ok (.iaload, 1) := by decide +kernel
theorem dX12_yearsOf_6 : decode cX12_yearsOf 6 = .ok (.aload_n 0, 1) := by decide +kernel
theorem dX12_yearsOf_7 : decode cX12_yearsOf 7 = .ok (.getfield 7, 3) := by decide +kernel
theorem dX12_yearsOf_10 : decode cX12_yearsOf 10 = .ok (.iconst 3, 1) := by decide +kernel
theorem dX12_yearsOf_11 : decode cX12_yearsOf 11 = .ok (.iaload, 1) := by decide +kernel
theorem dX12_yearsOf_12 : decode cX12_yearsOf 12 = .ok (.isub, 1) := by decide +kernel
theorem dX12_yearsOf_13 : decode cX12_yearsOf 13 = .ok (.istore_n 2, 1) := by decide +kernel
theorem dX12_yearsOf_14 : decode cX12_yearsOf 14 = .ok (.iload_n 1, 1) := by decide +kernel
theorem dX12_yearsOf_15 : decode cX12_yearsOf 15 = .ok (.iload_n 2, 1) := by decide +kernel
theorem dX12_yearsOf_16 : decode cX12_yearsOf 16 = .ok (.if_icmp .ge 7, 3) := by decide +kernel
theorem dX12_yearsOf_19 : decode cX12_yearsOf 19 = .ok (.iload_n 1, 1) := by decide +kernel
theorem dX12_yearsOf_20 : decode cX12_yearsOf 20 = .ok (.goto 12, 3) := by decide +kernel
theorem dX12_yearsOf_23 : decode cX12_yearsOf 23 = .ok (.iload_n 2, 1) := by decide +kernel
theorem dX12_yearsOf_24 : decode cX12_yearsOf 24 = .ok (.ifCond .ge 7, 3) := by decide +kernel
theorem dX12_yearsOf_27 : decode cX12_yearsOf 27 = .ok (.iconst 0, 1) := by decide +kernel
theorem dX12_yearsOf_28 : decode cX12_yearsOf 28 = .ok (.goto 4, 3) := by decide +kernel
theorem dX12_yearsOf_31 : decode cX12_yearsOf 31 = .ok (.iload_n 2, 1) := by decide +kernel
theorem dX12_yearsOf_32 : decode cX12_yearsOf 32 = .ok (.ireturn, 1) := by decide +kernel
def f12_yearsOf_b32  (a1 : Int32) (s0 : Int32) (m : lu_M) : Option (Int32 × lu_M) :=
  some (s0, m)
set_option maxRecDepth 20000 in
theorem w12_yearsOf_b32  {G : lu_G} {ρ : Nat → Nat} {a1 : Int32}  (X : lu_X G RX12 cX12_yearsOf 3 0 0) (hret : (lu_me G).sig.returnType = (some .int))   : ∀ (s0 : Int32) (m : lu_M), lu_Ab lu_TM G (lu_Q lu_TM G ρ lu_RVi lu_sn) (f12_yearsOf_b32 a1 s0 m) 32 [] [.int s0] ρ 0 0 [] m := by
  intro s0 m
  unfold f12_yearsOf_b32
  exact lu_iret X hret dX12_yearsOf_32
def f12_yearsOf (a1 : Int32) (m : lu_M) : Option (Int32 × lu_M) :=
  lu_nm (((m 1 2) - (m 1 3))) fun x1 =>
  if x1 ≤ a1 then (if 0 ≤ x1 then (f12_yearsOf_b32 a1 x1 m)
  else (f12_yearsOf_b32 a1 (0 : Int32) m))
  else (f12_yearsOf_b32 a1 a1 m)
set_option maxRecDepth 20000 in
theorem c12_yearsOf (l : Launch)   (a1 : Int32) : lu_C lu_TM l yX12_yearsOf cX12_yearsOf 3 (some .int) 0 0 (fun ρ sa => [.ref (ρ 0), .int a1]) (f12_yearsOf a1) lu_RVi lu_sn := by
  refine lu_met (cls := RX12) rfl (by decide +kernel) (fun _ _ => Nat.le_of_ble_eq_true rfl) ?_
  intro G ρ m hl X hret
  subst hl
  change lu_Ab lu_TM G (lu_Q lu_TM G ρ lu_RVi lu_sn) (f12_yearsOf a1 m) 0 [(0, .ref (ρ 0)), (1, .int a1)] [] ρ 0 0 [] m
  unfold f12_yearsOf
  refine lu_aload_n X dX12_yearsOf_0 (pc2 := 1) rfl rfl 0 rfl ?_
  refine lu_getr (r2 := 1) X rfl fl12_7 rfl kM_0 lM_0 dX12_yearsOf_1 (pc2 := 4) rfl ?_
  refine lu_iconst X dX12_yearsOf_4 (pc2 := 5) rfl ic_2 ?_
  refine lu_ialdK (q := 2) X (by decide) kM_1 lM_1 dX12_yearsOf_5 (pc2 := 6) rfl ?_
  refine lu_aload_n X dX12_yearsOf_6 (pc2 := 7) rfl rfl 0 rfl ?_
  refine lu_getr (r2 := 1) X rfl fl12_7 rfl kM_0 lM_0 dX12_yearsOf_7 (pc2 := 10) rfl ?_
  refine lu_iconst X dX12_yearsOf_10 (pc2 := 11) rfl ic_3 ?_
  refine lu_ialdK (q := 3) X (by decide) kM_1 lM_1 dX12_yearsOf_11 (pc2 := 12) rfl ?_
  refine lu_isub X dX12_yearsOf_12 (pc2 := 13) rfl ?_
  refine lu_topi (fun x1 => ?_)
  refine lu_istore_n (lv2 := [(2, .int x1), (0, .ref (ρ 0)), (1, .int a1)]) X dX12_yearsOf_13 (pc2 := 14) rfl rfl (by decide) rfl ?_
  refine lu_iload_n X dX12_yearsOf_14 (pc2 := 15) rfl rfl 2 rfl ?_
  refine lu_iload_n X dX12_yearsOf_15 (pc2 := 16) rfl rfl 0 rfl ?_
  refine lu_icmp_ge (tgt := 23) X dX12_yearsOf_16 (pc2 := 19) rfl (by decide) (fun _ => ?_) (fun _ => ?_)
  · refine lu_iload_n X dX12_yearsOf_23 (pc2 := 24) rfl rfl 0 rfl ?_
    refine lu_if_ge (tgt := 31) X dX12_yearsOf_24 (pc2 := 27) rfl (by decide) (fun _ => ?_) (fun _ => ?_)
    · refine lu_iload_n X dX12_yearsOf_31 (pc2 := 32) rfl rfl 0 rfl ?_
      exact lu_sub [] rfl (w12_yearsOf_b32 X hret x1 m)
    · refine lu_iconst X dX12_yearsOf_27 (pc2 := 28) rfl ic_0 ?_
      refine lu_goto (tgt := 32) X dX12_yearsOf_28 (by decide) ?_
      exact lu_sub [] rfl (w12_yearsOf_b32 X hret (0 : Int32) m)
  · refine lu_iload_n X dX12_yearsOf_19 (pc2 := 20) rfl rfl 2 rfl ?_
    refine lu_goto (tgt := 32) X dX12_yearsOf_20 (by decide) ?_
    exact lu_sub [] rfl (w12_yearsOf_b32 X hret a1 m)

theorem dX12_plansOf_0 : decode cX12_plansOf 0 = .ok (.aload_n 0, 1) := by decide +kernel
theorem dX12_plansOf_1 : decode cX12_plansOf 1 = .ok (.iconst (-1), 1) := by decide +kernel
theorem dX12_plansOf_2 : decode cX12_plansOf 2 = .ok (.putfield 181, 3) := by decide +kernel
theorem dX12_plansOf_5 : decode cX12_plansOf 5 = .ok (.aload_n 0, 1) := by decide +kernel
theorem dX12_plansOf_6 : decode cX12_plansOf 6 = .ok (.iconst 0, 1) := by decide +kernel
theorem dX12_plansOf_7 : decode cX12_plansOf 7 = .ok (.putfield 185, 3) := by decide +kernel
theorem dX12_plansOf_10 : decode cX12_plansOf 10 = .ok (.aload_n 0, 1) := by decide +kernel
theorem dX12_plansOf_11 : decode cX12_plansOf 11 = .ok (.iconst 5, 1) := by decide +kernel
theorem dX12_plansOf_12 : decode cX12_plansOf 12 = .ok (.putfield 194, 3) := by decide +kernel
theorem dX12_plansOf_15 : decode cX12_plansOf 15 = .ok (.aload_n 0, 1) := by decide +kernel
theorem dX12_plansOf_16 : decode cX12_plansOf 16 = .ok (.iconst 0, 1) := by decide +kernel
theorem dX12_plansOf_17 : decode cX12_plansOf 17 = .ok (.putfield 188, 3) := by decide +kernel
theorem dX12_plansOf_20 : decode cX12_plansOf 20 = .ok (.aload_n 0, 1) := by decide +kernel
theorem dX12_plansOf_21 : decode cX12_plansOf 21 = .ok (.iload_n 2, 1) := by decide +kernel
theorem dX12_plansOf_22 : decode cX12_plansOf 22 = .ok (.putfield 191, 3) := by decide +kernel
theorem dX12_plansOf_25 : decode cX12_plansOf 25 = .ok (.aload_n 0, 1) := by decide +kernel
theorem dX12_plansOf_26 : decode cX12_plansOf 26 = .ok (.iload_n 1, 1) := by decide +kernel
theorem dX12_plansOf_27 : decode cX12_plansOf 27 = .ok (.invokevirtual 211, 3) := by decide +kernel
theorem dX12_plansOf_30 : decode cX12_plansOf 30 = .ok (.istore_n 3, 1) := by decide +kernel
theorem dX12_plansOf_31 : decode cX12_plansOf 31 = .ok (.aload_n 0, 1) := by decide +kernel
theorem dX12_plansOf_32 : decode cX12_plansOf 32 = .ok (.iconst 0, 1) := by decide +kernel
theorem dX12_plansOf_33 : decode cX12_plansOf 33 = .ok (.iload_n 3, 1) := by decide +kernel
theorem dX12_plansOf_34 : decode cX12_plansOf 34 = .ok (.iconst 0, 1) := by decide +kernel
theorem dX12_plansOf_35 : decode cX12_plansOf 35 = .ok (.invokevirtual 204, 3) := by decide +kernel
theorem dX12_plansOf_38 : decode cX12_plansOf 38 = .ok (.iload_n 3, 1) := by decide +kernel
theorem dX12_plansOf_39 : decode cX12_plansOf 39 = .ok (.ireturn, 1) := by decide +kernel
def f12_plansOf (a1 : Int32) (a2 : Int32) (m : lu_M) : Option (Int32 × lu_M) :=
  lu_nm (lu_st m 0 10 (-1 : Int32)) fun m1 =>
  lu_nm (lu_st m1 0 11 (0 : Int32)) fun m2 =>
  lu_nm (lu_st m2 0 12 (5 : Int32)) fun m3 =>
  lu_nm (lu_st m3 0 13 (0 : Int32)) fun m4 =>
  lu_nm (lu_st m4 0 14 a2) fun m5 =>
  lu_bi (f12_yearsOf a1 m5) fun x6 m7 =>
  lu_bv (f12_plans 6 (0 : Int32) x6 (0 : Int32) m7) fun m8 =>
  some (x6, m8)
set_option maxRecDepth 20000 in
theorem c12_plansOf (l : Launch)   (a1 : Int32) (a2 : Int32) : lu_C lu_TM l yX12_plansOf cX12_plansOf 4 (some .int) 43 1032 (fun ρ sa => [.ref (ρ 0), .int a1, .int a2]) (f12_plansOf a1 a2) lu_RVi lu_sn := by
  refine lu_met (cls := RX12) rfl (by decide +kernel) (fun _ _ => Nat.le_of_ble_eq_true rfl) ?_
  intro G ρ m hl X hret
  subst hl
  change lu_Ab lu_TM G (lu_Q lu_TM G ρ lu_RVi lu_sn) (f12_plansOf a1 a2 m) 0 [(0, .ref (ρ 0)), (1, .int a1), (2, .int a2)] [] ρ 0 0 [] m
  unfold f12_plansOf
  refine lu_aload_n X dX12_plansOf_0 (pc2 := 1) rfl rfl 0 rfl ?_
  refine lu_iconst X dX12_plansOf_1 (pc2 := 2) rfl ic_m1 ?_
  refine lu_put X fl12_181 rfl (Or.inl (by decide)) rfl (by decide +kernel) kM_0 lM_0 dX12_plansOf_2 (pc2 := 5) rfl (fun m1 => ?_)
  refine lu_aload_n X dX12_plansOf_5 (pc2 := 6) rfl rfl 0 rfl ?_
  refine lu_iconst X dX12_plansOf_6 (pc2 := 7) rfl ic_0 ?_
  refine lu_put X fl12_185 rfl (Or.inl (by decide)) rfl (by decide +kernel) kM_0 lM_0 dX12_plansOf_7 (pc2 := 10) rfl (fun m2 => ?_)
  refine lu_aload_n X dX12_plansOf_10 (pc2 := 11) rfl rfl 0 rfl ?_
  refine lu_iconst X dX12_plansOf_11 (pc2 := 12) rfl ic_5 ?_
  refine lu_put X fl12_194 rfl (Or.inl (by decide)) rfl (by decide +kernel) kM_0 lM_0 dX12_plansOf_12 (pc2 := 15) rfl (fun m3 => ?_)
  refine lu_aload_n X dX12_plansOf_15 (pc2 := 16) rfl rfl 0 rfl ?_
  refine lu_iconst X dX12_plansOf_16 (pc2 := 17) rfl ic_0 ?_
  refine lu_put X fl12_188 rfl (Or.inl (by decide)) rfl (by decide +kernel) kM_0 lM_0 dX12_plansOf_17 (pc2 := 20) rfl (fun m4 => ?_)
  refine lu_aload_n X dX12_plansOf_20 (pc2 := 21) rfl rfl 0 rfl ?_
  refine lu_iload_n X dX12_plansOf_21 (pc2 := 22) rfl rfl 2 rfl ?_
  refine lu_put X fl12_191 rfl (Or.inl (by decide)) rfl (by decide +kernel) kM_0 lM_0 dX12_plansOf_22 (pc2 := 25) rfl (fun m5 => ?_)
  refine lu_aload_n X dX12_plansOf_25 (pc2 := 26) rfl rfl 0 rfl ?_
  refine lu_iload_n X dX12_plansOf_26 (pc2 := 27) rfl rfl 1 rfl ?_
  refine lu_invVi X (c12_yearsOf _ a1) rfl q1479 mvV_12_yearsOf kM_0 lM_0 (by decide) ⟨_, rfl, rfl⟩ rfl rfl (Nat.le_of_ble_eq_true rfl) (Nat.le_of_ble_eq_true rfl) (Nat.le_of_ble_eq_true rfl) ⟨Nat.zero_le _, Nat.zero_le _⟩ dX12_plansOf_27 (pc2 := 30) rfl rfl (fun x6 m7 => ?_)
  refine lu_istore_n (lv2 := [(3, .int x6), (0, .ref (ρ 0)), (1, .int a1), (2, .int a2)]) X dX12_plansOf_30 (pc2 := 31) rfl rfl (by decide) rfl ?_
  refine lu_aload_n X dX12_plansOf_31 (pc2 := 32) rfl rfl 1 rfl ?_
  refine lu_iconst X dX12_plansOf_32 (pc2 := 33) rfl ic_0 ?_
  refine lu_iload_n X dX12_plansOf_33 (pc2 := 34) rfl rfl 0 rfl ?_
  refine lu_iconst X dX12_plansOf_34 (pc2 := 35) rfl ic_0 ?_
  refine lu_invVv X (c12_plans _ 6 (0 : Int32) x6 (0 : Int32)) rfl q1483 mvV_12_plans kM_0 lM_0 (by decide) ⟨_, rfl, rfl⟩ rfl rfl (Nat.le_of_ble_eq_true rfl) (Nat.le_of_ble_eq_true rfl) (Nat.le_of_ble_eq_true rfl) ⟨Nat.zero_le _, Nat.zero_le _⟩ dX12_plansOf_35 (pc2 := 38) rfl rfl (fun m8 => ?_)
  refine lu_iload_n X dX12_plansOf_38 (pc2 := 39) rfl rfl 0 rfl ?_
  exact lu_iret X hret dX12_plansOf_39

theorem dX12_isLong_0 : decode cX12_isLong 0 = .ok (.iload_n 0, 1) := by decide +kernel
theorem dX12_isLong_1 : decode cX12_isLong 1 = .ok (.i2l, 1) := by decide +kernel
theorem dX12_isLong_2 : decode cX12_isLong 2 = .ok (.lconst 0, 1) := by decide +kernel
theorem dX12_isLong_3 : decode cX12_isLong 3 = .ok (.ldc2_w 149, 3) := by decide +kernel
theorem dX12_isLong_6 : decode cX12_isLong 6 = .ok (.invokestatic 64, 3) := by decide +kernel
theorem dX12_isLong_9 : decode cX12_isLong 9 = .ok (.ireturn, 1) := by decide +kernel
def f12_isLong (a0 : Int32) (m : lu_M) : Option (Int32 × lu_M) :=
  lu_bi (f12_in a0.toInt64 (0 : Int64) (4 : Int64) m) fun x1 m2 =>
  lu_gd (decide (x1 = 0 ∨ x1 = 1)) (some (x1, m2))
set_option maxRecDepth 20000 in
theorem c12_isLong (l : Launch)   (a0 : Int32) : lu_C lu_TM l yX12_isLong cX12_isLong 1 (some .boolean) 1 25 (fun ρ sa => [.int a0]) (f12_isLong a0) lu_RVi lu_sn := by
  refine lu_met (cls := RX12) rfl (by decide +kernel) (fun _ _ => Nat.le_of_ble_eq_true rfl) ?_
  intro G ρ m hl X hret
  subst hl
  change lu_Ab lu_TM G (lu_Q lu_TM G ρ lu_RVi lu_sn) (f12_isLong a0 m) 0 [(0, .int a0)] [] ρ 0 0 [] m
  unfold f12_isLong
  refine lu_iload_n X dX12_isLong_0 (pc2 := 1) rfl rfl 0 rfl ?_
  refine lu_i2l X dX12_isLong_1 (pc2 := 2) rfl ?_
  refine lu_lconst (v := (0 : Int64)) X dX12_isLong_2 (pc2 := 3) rfl (by decide) ?_
  refine lu_ldc2 X q1382 dX12_isLong_3 (pc2 := 6) rfl ?_
  refine lu_invSi X (c12_in _ a0.toInt64 (0 : Int64) (4 : Int64)) rfl q1261 mvS_12_in rfl rfl (Nat.le_of_ble_eq_true rfl) (Nat.le_of_ble_eq_true rfl) (Nat.le_of_ble_eq_true rfl) ⟨Nat.zero_le _, Nat.zero_le _⟩ dX12_isLong_6 (pc2 := 9) rfl rfl (fun x1 m2 => ?_)
  exact lu_zretG X hret dX12_isLong_9

theorem dX12_best_0 : decode cX12_best 0 = .ok (.iload_n 1, 1) := by decide +kernel
theorem dX12_best_1 : decode cX12_best 1 = .ok (.invokestatic 214, 3) := by decide +kernel
theorem dX12_best_4 : decode cX12_best 4 = .ok (.ifCond .ne 5, 3) := by decide +kernel
theorem dX12_best_7 : decode cX12_best 7 = .ok (.iconst (-1), 1) := by decide +kernel
theorem dX12_best_8 : decode cX12_best 8 = .ok (.ireturn, 1) := by decide +kernel
theorem dX12_best_9 : decode cX12_best 9 = .ok (.aload_n 0, 1) := by decide +kernel
theorem dX12_best_10 : decode cX12_best 10 = .ok (.iload_n 1, 1) := by decide +kernel
theorem dX12_best_11 : decode cX12_best 11 = .ok (.iconst 0, 1) := by decide +kernel
theorem dX12_best_12 : decode cX12_best 12 = .ok (.invokevirtual 217, 3) := by decide +kernel
theorem dX12_best_15 : decode cX12_best 15 = .ok (.istore_n 2, 1) := by decide +kernel
theorem dX12_best_16 : decode cX12_best 16 = .ok (.aload_n 0, 1) := by decide +kernel
theorem dX12_best_17 : decode cX12_best 17 = .ok (.getfield 181, 3) := by decide +kernel
theorem dX12_best_20 : decode cX12_best 20 = .ok (.ireturn, 1) := by decide +kernel
def f12_best (a1 : Int32) (m : lu_M) : Option (Int32 × lu_M) :=
  lu_bi (f12_isLong a1 m) fun x1 m2 =>
  if x1 = 0 then (some ((-1 : Int32), m2))
  else (lu_bi (f12_plansOf a1 (0 : Int32) m2) fun x3 m4 =>
  some ((m4 0 10), m4))
set_option maxRecDepth 20000 in
theorem c12_best (l : Launch)   (a1 : Int32) : lu_C lu_TM l yX12_best cX12_best 3 (some .int) 44 1055 (fun ρ sa => [.ref (ρ 0), .int a1]) (f12_best a1) lu_RVi lu_sn := by
  refine lu_met (cls := RX12) rfl (by decide +kernel) (fun _ _ => Nat.le_of_ble_eq_true rfl) ?_
  intro G ρ m hl X hret
  subst hl
  change lu_Ab lu_TM G (lu_Q lu_TM G ρ lu_RVi lu_sn) (f12_best a1 m) 0 [(0, .ref (ρ 0)), (1, .int a1)] [] ρ 0 0 [] m
  unfold f12_best
  refine lu_iload_n X dX12_best_0 (pc2 := 1) rfl rfl 1 rfl ?_
  refine lu_invSi X (c12_isLong _ a1) rfl q1472 mvS_12_isLong rfl rfl (Nat.le_of_ble_eq_true rfl) (Nat.le_of_ble_eq_true rfl) (Nat.le_of_ble_eq_true rfl) ⟨Nat.zero_le _, Nat.zero_le _⟩ dX12_best_1 (pc2 := 4) rfl rfl (fun x1 m2 => ?_)
  refine lu_if_ne (tgt := 9) X dX12_best_4 (pc2 := 7) rfl (by decide) (fun _ => ?_) (fun _ => ?_)
  · refine lu_aload_n X dX12_best_9 (pc2 := 10) rfl rfl 0 rfl ?_
    refine lu_iload_n X dX12_best_10 (pc2 := 11) rfl rfl 1 rfl ?_
    refine lu_iconst X dX12_best_11 (pc2 := 12) rfl ic_0 ?_
    refine lu_invVi X (c12_plansOf _ a1 (0 : Int32)) rfl q1475 mvV_12_plansOf kM_0 lM_0 (by decide) ⟨_, rfl, rfl⟩ rfl rfl (Nat.le_of_ble_eq_true rfl) (Nat.le_of_ble_eq_true rfl) (Nat.le_of_ble_eq_true rfl) ⟨Nat.zero_le _, Nat.zero_le _⟩ dX12_best_12 (pc2 := 15) rfl rfl (fun x3 m4 => ?_)
    refine lu_istore_n (lv2 := [(2, .int x3), (0, .ref (ρ 0)), (1, .int a1)]) X dX12_best_15 (pc2 := 16) rfl rfl (by decide) rfl ?_
    refine lu_aload_n X dX12_best_16 (pc2 := 17) rfl rfl 1 rfl ?_
    refine lu_get X fl12_181 rfl kM_0 lM_0 dX12_best_17 (pc2 := 20) rfl ?_
    exact lu_iret X hret dX12_best_20
  · refine lu_iconst X dX12_best_7 (pc2 := 8) rfl ic_m1 ?_
    exact lu_iret X hret dX12_best_8

theorem dX12_ith_0 : decode cX12_ith 0 = .ok (.iload_n 1, 1) := by decide +kernel
theorem dX12_ith_1 : decode cX12_ith 1 = .ok (.invokestatic 214, 3) := by decide +kernel
theorem dX12_ith_4 : decode cX12_ith 4 = .ok (.ifCond .eq 15, 3) := by decide +kernel
theorem dX12_ith_7 : decode cX12_ith 7 = .ok (.iload_n 2, 1) := by decide +kernel
theorem dX12_ith_8 : decode cX12_ith 8 = .ok (.i2l, 1) := by decide +kernel
theorem dX12_ith_9 : decode cX12_ith 9 = .ok (.lconst 0, 1) := by decide +kernel
theorem dX12_ith_10 : decode cX12_ith 10 = .ok (.ldc2_w 220, 3) := by decide +kernel
theorem dX12_ith_13 : decode cX12_ith 13 = .ok (.invokestatic 64, 3) := by decide +kernel
theorem dX12_ith_16 : decode cX12_ith 16 = .ok (.ifCond .ne 5, 3) := by decide +kernel
theorem dX12_ith_19 : decode cX12_ith 19 = .ok (.iconst (-1), 1) := by decide +kernel
theorem dX12_ith_20 : decode cX12_ith 20 = .ok (.ireturn, 1) := by decide +kernel
theorem dX12_ith_21 : decode cX12_ith 21 = .ok (.iload_n 2, 1) := by decide +kernel
theorem dX12_ith_22 : decode cX12_ith 22 = .ok (.aload_n 0, 1) := by decide +kernel
theorem dX12_ith_23 : decode cX12_ith 23 = .ok (.iload_n 1, 1) := by decide +kernel
theorem dX12_ith_24 : decode cX12_ith 24 = .ok (.iconst 0, 1) := by decide +kernel
theorem dX12_ith_25 : decode cX12_ith 25 = .ok (.invokevirtual 217, 3) := by decide +kernel
theorem dX12_ith_28 : decode cX12_ith 28 = .ok (.if_icmp .ge 12, 3) := by decide +kernel
theorem dX12_ith_31 : decode cX12_ith 31 = .ok (.aload_n 0, 1) := by decide +kernel
theorem dX12_ith_32 : decode cX12_ith 32 = .ok (.getfield 34, 3) := by decide +kernel
theorem dX12_ith_35 : decode cX12_ith 35 = .ok (.iload_n 2, 1) := by decide +kernel
theorem dX12_ith_36 : decode cX12_ith 36 = .ok (.iaload, 1) := by decide +kernel
theorem dX12_ith_37 : decode cX12_ith 37 = .ok (.goto 5, 3) := by decide +kernel
theorem dX12_ith_40 : decode cX12_ith 40 = .ok (.bipush (-3), 2) := by decide +kernel
theorem dX12_ith_42 : decode cX12_ith 42 = .ok (.ireturn, 1) := by decide +kernel
def f12_ith_b19  (a1 : Int32) (a2 : Int32)  (m : lu_M) : Option (Int32 × lu_M) :=
  some ((-1 : Int32), m)
set_option maxRecDepth 20000 in
theorem w12_ith_b19  {G : lu_G} {ρ : Nat → Nat} {a1 : Int32} {a2 : Int32}  (X : lu_X G RX12 cX12_ith 3 44 1055) (hret : (lu_me G).sig.returnType = (some .int))   : ∀  (m : lu_M), lu_Ab lu_TM G (lu_Q lu_TM G ρ lu_RVi lu_sn) (f12_ith_b19 a1 a2 m) 19 [] [] ρ 0 0 [] m := by
  intro  m
  unfold f12_ith_b19
  refine lu_iconst X dX12_ith_19 (pc2 := 20) rfl ic_m1 ?_
  exact lu_iret X hret dX12_ith_20
def f12_ith_b42  (a1 : Int32) (a2 : Int32) (s0 : Int32) (m : lu_M) : Option (Int32 × lu_M) :=
  some (s0, m)
set_option maxRecDepth 20000 in
theorem w12_ith_b42  {G : lu_G} {ρ : Nat → Nat} {a1 : Int32} {a2 : Int32}  (X : lu_X G RX12 cX12_ith 3 44 1055) (hret : (lu_me G).sig.returnType = (some .int))   : ∀ (s0 : Int32) (m : lu_M), lu_Ab lu_TM G (lu_Q lu_TM G ρ lu_RVi lu_sn) (f12_ith_b42 a1 a2 s0 m) 42 [] [.int s0] ρ 0 0 [] m := by
  intro s0 m
  unfold f12_ith_b42
  exact lu_iret X hret dX12_ith_42
def f12_ith (a1 : Int32) (a2 : Int32) (m : lu_M) : Option (Int32 × lu_M) :=
  lu_bi (f12_isLong a1 m) fun x1 m2 =>
  if x1 = 0 then (f12_ith_b19 a1 a2 m2)
  else (lu_bi (f12_in a2.toInt64 (0 : Int64) (3 : Int64) m2) fun x3 m4 =>
  if x3 = 0 then (f12_ith_b19 a1 a2 m4)
  else (lu_bi (f12_plansOf a1 (0 : Int32) m4) fun x5 m6 =>
  if x5 ≤ a2 then (f12_ith_b42 a1 a2 (-3 : Int32) m6)
  else (lu_gd (lu_ib a2 4) <|
  f12_ith_b42 a1 a2 (m6 9 a2.toNatClampNeg) m6)))
set_option maxRecDepth 20000 in
theorem c12_ith (l : Launch)   (a1 : Int32) (a2 : Int32) : lu_C lu_TM l yX12_ith cX12_ith 3 (some .int) 44 1055 (fun ρ sa => [.ref (ρ 0), .int a1, .int a2]) (f12_ith a1 a2) lu_RVi lu_sn := by
  refine lu_met (cls := RX12) rfl (by decide +kernel) (fun _ _ => Nat.le_of_ble_eq_true rfl) ?_
  intro G ρ m hl X hret
  subst hl
  change lu_Ab lu_TM G (lu_Q lu_TM G ρ lu_RVi lu_sn) (f12_ith a1 a2 m) 0 [(0, .ref (ρ 0)), (1, .int a1), (2, .int a2)] [] ρ 0 0 [] m
  unfold f12_ith
  refine lu_iload_n X dX12_ith_0 (pc2 := 1) rfl rfl 1 rfl ?_
  refine lu_invSi X (c12_isLong _ a1) rfl q1472 mvS_12_isLong rfl rfl (Nat.le_of_ble_eq_true rfl) (Nat.le_of_ble_eq_true rfl) (Nat.le_of_ble_eq_true rfl) ⟨Nat.zero_le _, Nat.zero_le _⟩ dX12_ith_1 (pc2 := 4) rfl rfl (fun x1 m2 => ?_)
  refine lu_if_eq (tgt := 19) X dX12_ith_4 (pc2 := 7) rfl (by decide) (fun _ => ?_) (fun _ => ?_)
  · exact lu_sub [] rfl (w12_ith_b19 X hret m2)
  · refine lu_iload_n X dX12_ith_7 (pc2 := 8) rfl rfl 2 rfl ?_
    refine lu_i2l X dX12_ith_8 (pc2 := 9) rfl ?_
    refine lu_lconst (v := (0 : Int64)) X dX12_ith_9 (pc2 := 10) rfl (by decide) ?_
    refine lu_ldc2 X q1503 dX12_ith_10 (pc2 := 13) rfl ?_
    refine lu_invSi X (c12_in _ a2.toInt64 (0 : Int64) (3 : Int64)) rfl q1261 mvS_12_in rfl rfl (Nat.le_of_ble_eq_true rfl) (Nat.le_of_ble_eq_true rfl) (Nat.le_of_ble_eq_true rfl) ⟨Nat.zero_le _, Nat.zero_le _⟩ dX12_ith_13 (pc2 := 16) rfl rfl (fun x3 m4 => ?_)
    refine lu_if_ne (tgt := 21) X dX12_ith_16 (pc2 := 19) rfl (by decide) (fun _ => ?_) (fun _ => ?_)
    · refine lu_iload_n X dX12_ith_21 (pc2 := 22) rfl rfl 2 rfl ?_
      refine lu_aload_n X dX12_ith_22 (pc2 := 23) rfl rfl 0 rfl ?_
      refine lu_iload_n X dX12_ith_23 (pc2 := 24) rfl rfl 1 rfl ?_
      refine lu_iconst X dX12_ith_24 (pc2 := 25) rfl ic_0 ?_
      refine lu_invVi X (c12_plansOf _ a1 (0 : Int32)) rfl q1475 mvV_12_plansOf kM_0 lM_0 (by decide) ⟨_, rfl, rfl⟩ rfl rfl (Nat.le_of_ble_eq_true rfl) (Nat.le_of_ble_eq_true rfl) (Nat.le_of_ble_eq_true rfl) ⟨Nat.zero_le _, Nat.zero_le _⟩ dX12_ith_25 (pc2 := 28) rfl rfl (fun x5 m6 => ?_)
      refine lu_icmp_ge (tgt := 40) X dX12_ith_28 (pc2 := 31) rfl (by decide) (fun _ => ?_) (fun _ => ?_)
      · refine lu_bipush X dX12_ith_40 (pc2 := 42) rfl bp_m3 ?_
        exact lu_sub [] rfl (w12_ith_b42 X hret (-3 : Int32) m6)
      · refine lu_aload_n X dX12_ith_31 (pc2 := 32) rfl rfl 0 rfl ?_
        refine lu_getr (r2 := 9) X rfl fl12_34 rfl kM_0 lM_0 dX12_ith_32 (pc2 := 35) rfl ?_
        refine lu_iload_n X dX12_ith_35 (pc2 := 36) rfl rfl 2 rfl ?_
        refine lu_iald X kM_9 lM_9 dX12_ith_36 (pc2 := 37) rfl ?_
        refine lu_goto (tgt := 42) X dX12_ith_37 (by decide) ?_
        exact lu_sub [] rfl (w12_ith_b42 X hret (m6 9 a2.toNatClampNeg) m6)
    · exact lu_sub [] rfl (w12_ith_b19 X hret m4)

theorem dX12_ways_0 : decode cX12_ways 0 = .ok (.iload_n 1, 1) := by decide +kernel
theorem dX12_ways_1 : decode cX12_ways 1 = .ok (.invokestatic 214, 3) := by decide +kernel
theorem dX12_ways_4 : decode cX12_ways 4 = .ok (.ifCond .ne 5, 3) := by decide +kernel
theorem dX12_ways_7 : decode cX12_ways 7 = .ok (.iconst (-1), 1) := by decide +kernel
theorem dX12_ways_8 : decode cX12_ways 8 = .ok (.ireturn, 1) := by decide +kernel
theorem dX12_ways_9 : decode cX12_ways 9 = .ok (.aload_n 0, 1) := by decide +kernel
theorem dX12_ways_10 : decode cX12_ways 10 = .ok (.iload_n 1, 1) := by decide +kernel
theorem dX12_ways_11 : decode cX12_ways 11 = .ok (.iconst 0, 1) := by decide +kernel
theorem dX12_ways_12 : decode cX12_ways 12 = .ok (.invokevirtual 217, 3) := by decide +kernel
theorem dX12_ways_15 : decode cX12_ways 15 = .ok (.istore_n 2, 1) := by decide +kernel
theorem dX12_ways_16 : decode cX12_ways 16 = .ok (.aload_n 0, 1) := by decide +kernel
theorem dX12_ways_17 : decode cX12_ways 17 = .ok (.getfield 185, 3) := by decide +kernel
theorem dX12_ways_20 : decode cX12_ways 20 = .ok (.ireturn, 1) := by decide +kernel
def f12_ways (a1 : Int32) (m : lu_M) : Option (Int32 × lu_M) :=
  lu_bi (f12_isLong a1 m) fun x1 m2 =>
  if x1 = 0 then (some ((-1 : Int32), m2))
  else (lu_bi (f12_plansOf a1 (0 : Int32) m2) fun x3 m4 =>
  some ((m4 0 11), m4))
set_option maxRecDepth 20000 in
theorem c12_ways (l : Launch)   (a1 : Int32) : lu_C lu_TM l yX12_ways cX12_ways 3 (some .int) 44 1055 (fun ρ sa => [.ref (ρ 0), .int a1]) (f12_ways a1) lu_RVi lu_sn := by
  refine lu_met (cls := RX12) rfl (by decide +kernel) (fun _ _ => Nat.le_of_ble_eq_true rfl) ?_
  intro G ρ m hl X hret
  subst hl
  change lu_Ab lu_TM G (lu_Q lu_TM G ρ lu_RVi lu_sn) (f12_ways a1 m) 0 [(0, .ref (ρ 0)), (1, .int a1)] [] ρ 0 0 [] m
  unfold f12_ways
  refine lu_iload_n X dX12_ways_0 (pc2 := 1) rfl rfl 1 rfl ?_
  refine lu_invSi X (c12_isLong _ a1) rfl q1472 mvS_12_isLong rfl rfl (Nat.le_of_ble_eq_true rfl) (Nat.le_of_ble_eq_true rfl) (Nat.le_of_ble_eq_true rfl) ⟨Nat.zero_le _, Nat.zero_le _⟩ dX12_ways_1 (pc2 := 4) rfl rfl (fun x1 m2 => ?_)
  refine lu_if_ne (tgt := 9) X dX12_ways_4 (pc2 := 7) rfl (by decide) (fun _ => ?_) (fun _ => ?_)
  · refine lu_aload_n X dX12_ways_9 (pc2 := 10) rfl rfl 0 rfl ?_
    refine lu_iload_n X dX12_ways_10 (pc2 := 11) rfl rfl 1 rfl ?_
    refine lu_iconst X dX12_ways_11 (pc2 := 12) rfl ic_0 ?_
    refine lu_invVi X (c12_plansOf _ a1 (0 : Int32)) rfl q1475 mvV_12_plansOf kM_0 lM_0 (by decide) ⟨_, rfl, rfl⟩ rfl rfl (Nat.le_of_ble_eq_true rfl) (Nat.le_of_ble_eq_true rfl) (Nat.le_of_ble_eq_true rfl) ⟨Nat.zero_le _, Nat.zero_le _⟩ dX12_ways_12 (pc2 := 15) rfl rfl (fun x3 m4 => ?_)
    refine lu_istore_n (lv2 := [(2, .int x3), (0, .ref (ρ 0)), (1, .int a1)]) X dX12_ways_15 (pc2 := 16) rfl rfl (by decide) rfl ?_
    refine lu_aload_n X dX12_ways_16 (pc2 := 17) rfl rfl 1 rfl ?_
    refine lu_get X fl12_185 rfl kM_0 lM_0 dX12_ways_17 (pc2 := 20) rfl ?_
    exact lu_iret X hret dX12_ways_20
  · refine lu_iconst X dX12_ways_7 (pc2 := 8) rfl ic_m1 ?_
    exact lu_iret X hret dX12_ways_8

theorem dX12_life_0 : decode cX12_life 0 = .ok (.iload_n 1, 1) := by decide +kernel
theorem dX12_life_1 : decode cX12_life 1 = .ok (.invokestatic 214, 3) := by decide +kernel
theorem dX12_life_4 : decode cX12_life 4 = .ok (.ifCond .eq 11, 3) := by decide +kernel
theorem dX12_life_7 : decode cX12_life 7 = .ok (.aload_n 0, 1) := by decide +kernel
theorem dX12_life_8 : decode cX12_life 8 = .ok (.iload_n 2, 1) := by decide +kernel
theorem dX12_life_9 : decode cX12_life 9 = .ok (.invokevirtual 222, 3) := by decide +kernel
theorem dX12_life_12 : decode cX12_life 12 = .ok (.ifCond .ne 5, 3) := by decide +kernel
theorem dX12_life_15 : decode cX12_life 15 = .ok (.iconst (-1), 1) := by decide +kernel
theorem dX12_life_16 : decode cX12_life 16 = .ok (.ireturn, 1) := by decide +kernel
theorem dX12_life_17 : decode cX12_life 17 = .ok (.aload_n 0, 1) := by decide +kernel
theorem dX12_life_18 : decode cX12_life 18 = .ok (.iload_n 1, 1) := by decide +kernel
theorem dX12_life_19 : decode cX12_life 19 = .ok (.iload_n 2, 1) := by decide +kernel
theorem dX12_life_20 : decode cX12_life 20 = .ok (.invokevirtual 217, 3) := by decide +kernel
theorem dX12_life_23 : decode cX12_life 23 = .ok (.istore_n 3, 1) := by decide +kernel
theorem dX12_life_24 : decode cX12_life 24 = .ok (.aload_n 0, 1) := by decide +kernel
theorem dX12_life_25 : decode cX12_life 25 = .ok (.getfield 194, 3) := by decide +kernel
theorem dX12_life_28 : decode cX12_life 28 = .ok (.iconst 4, 1) := by decide +kernel
theorem dX12_life_29 : decode cX12_life 29 = .ok (.if_icmp .le 8, 3) := by decide +kernel
theorem dX12_life_32 : decode cX12_life 32 = .ok (.bipush (-3), 2) := by decide +kernel
theorem dX12_life_34 : decode cX12_life 34 = .ok (.goto 7, 3) := by decide +kernel
theorem dX12_life_37 : decode cX12_life 37 = .ok (.aload_n 0, 1) := by decide +kernel
theorem dX12_life_38 : decode cX12_life 38 = .ok (.getfield 194, 3) := by decide +kernel
theorem dX12_life_41 : decode cX12_life 41 = .ok (.ireturn, 1) := by decide +kernel
def f12_life_b15  (a1 : Int32) (a2 : Int32)  (m : lu_M) : Option (Int32 × lu_M) :=
  some ((-1 : Int32), m)
set_option maxRecDepth 20000 in
theorem w12_life_b15  {G : lu_G} {ρ : Nat → Nat} {a1 : Int32} {a2 : Int32}  (X : lu_X G RX12 cX12_life 4 44 1055) (hret : (lu_me G).sig.returnType = (some .int))   : ∀  (m : lu_M), lu_Ab lu_TM G (lu_Q lu_TM G ρ lu_RVi lu_sn) (f12_life_b15 a1 a2 m) 15 [] [] ρ 0 0 [] m := by
  intro  m
  unfold f12_life_b15
  refine lu_iconst X dX12_life_15 (pc2 := 16) rfl ic_m1 ?_
  exact lu_iret X hret dX12_life_16
def f12_life_b41  (a1 : Int32) (a2 : Int32) (s0 : Int32) (m : lu_M) : Option (Int32 × lu_M) :=
  some (s0, m)
set_option maxRecDepth 20000 in
theorem w12_life_b41  {G : lu_G} {ρ : Nat → Nat} {a1 : Int32} {a2 : Int32}  (X : lu_X G RX12 cX12_life 4 44 1055) (hret : (lu_me G).sig.returnType = (some .int))   : ∀ (s0 : Int32) (m : lu_M), lu_Ab lu_TM G (lu_Q lu_TM G ρ lu_RVi lu_sn) (f12_life_b41 a1 a2 s0 m) 41 [] [.int s0] ρ 0 0 [] m := by
  intro s0 m
  unfold f12_life_b41
  exact lu_iret X hret dX12_life_41
def f12_life (a1 : Int32) (a2 : Int32) (m : lu_M) : Option (Int32 × lu_M) :=
  lu_bi (f12_isLong a1 m) fun x1 m2 =>
  if x1 = 0 then (f12_life_b15 a1 a2 m2)
  else (lu_bi (f12_areDeeds a2 m2) fun x3 m4 =>
  if x3 = 0 then (f12_life_b15 a1 a2 m4)
  else (lu_bi (f12_plansOf a1 a2 m4) fun x5 m6 =>
  if (m6 0 12) ≤ (4 : Int32) then (f12_life_b41 a1 a2 (m6 0 12) m6)
  else (f12_life_b41 a1 a2 (-3 : Int32) m6)))
set_option maxRecDepth 20000 in
theorem c12_life (l : Launch)   (a1 : Int32) (a2 : Int32) : lu_C lu_TM l yX12_life cX12_life 4 (some .int) 44 1055 (fun ρ sa => [.ref (ρ 0), .int a1, .int a2]) (f12_life a1 a2) lu_RVi lu_sn := by
  refine lu_met (cls := RX12) rfl (by decide +kernel) (fun _ _ => Nat.le_of_ble_eq_true rfl) ?_
  intro G ρ m hl X hret
  subst hl
  change lu_Ab lu_TM G (lu_Q lu_TM G ρ lu_RVi lu_sn) (f12_life a1 a2 m) 0 [(0, .ref (ρ 0)), (1, .int a1), (2, .int a2)] [] ρ 0 0 [] m
  unfold f12_life
  refine lu_iload_n X dX12_life_0 (pc2 := 1) rfl rfl 1 rfl ?_
  refine lu_invSi X (c12_isLong _ a1) rfl q1472 mvS_12_isLong rfl rfl (Nat.le_of_ble_eq_true rfl) (Nat.le_of_ble_eq_true rfl) (Nat.le_of_ble_eq_true rfl) ⟨Nat.zero_le _, Nat.zero_le _⟩ dX12_life_1 (pc2 := 4) rfl rfl (fun x1 m2 => ?_)
  refine lu_if_eq (tgt := 15) X dX12_life_4 (pc2 := 7) rfl (by decide) (fun _ => ?_) (fun _ => ?_)
  · exact lu_sub [] rfl (w12_life_b15 X hret m2)
  · refine lu_aload_n X dX12_life_7 (pc2 := 8) rfl rfl 0 rfl ?_
    refine lu_iload_n X dX12_life_8 (pc2 := 9) rfl rfl 2 rfl ?_
    refine lu_invVi X (c12_areDeeds _ a2) rfl q1512 mvV_12_areDeeds kM_0 lM_0 (by decide) ⟨_, rfl, rfl⟩ rfl rfl (Nat.le_of_ble_eq_true rfl) (Nat.le_of_ble_eq_true rfl) (Nat.le_of_ble_eq_true rfl) ⟨Nat.zero_le _, Nat.zero_le _⟩ dX12_life_9 (pc2 := 12) rfl rfl (fun x3 m4 => ?_)
    refine lu_if_ne (tgt := 17) X dX12_life_12 (pc2 := 15) rfl (by decide) (fun _ => ?_) (fun _ => ?_)
    · refine lu_aload_n X dX12_life_17 (pc2 := 18) rfl rfl 0 rfl ?_
      refine lu_iload_n X dX12_life_18 (pc2 := 19) rfl rfl 1 rfl ?_
      refine lu_iload_n X dX12_life_19 (pc2 := 20) rfl rfl 2 rfl ?_
      refine lu_invVi X (c12_plansOf _ a1 a2) rfl q1475 mvV_12_plansOf kM_0 lM_0 (by decide) ⟨_, rfl, rfl⟩ rfl rfl (Nat.le_of_ble_eq_true rfl) (Nat.le_of_ble_eq_true rfl) (Nat.le_of_ble_eq_true rfl) ⟨Nat.zero_le _, Nat.zero_le _⟩ dX12_life_20 (pc2 := 23) rfl rfl (fun x5 m6 => ?_)
      refine lu_istore_n (lv2 := [(3, .int x5), (0, .ref (ρ 0)), (1, .int a1), (2, .int a2)]) X dX12_life_23 (pc2 := 24) rfl rfl (by decide) rfl ?_
      refine lu_aload_n X dX12_life_24 (pc2 := 25) rfl rfl 1 rfl ?_
      refine lu_get X fl12_194 rfl kM_0 lM_0 dX12_life_25 (pc2 := 28) rfl ?_
      refine lu_iconst X dX12_life_28 (pc2 := 29) rfl ic_4 ?_
      refine lu_icmp_le (tgt := 37) X dX12_life_29 (pc2 := 32) rfl (by decide) (fun _ => ?_) (fun _ => ?_)
      · refine lu_aload_n X dX12_life_37 (pc2 := 38) rfl rfl 1 rfl ?_
        refine lu_get X fl12_194 rfl kM_0 lM_0 dX12_life_38 (pc2 := 41) rfl ?_
        exact lu_sub [] rfl (w12_life_b41 X hret (m6 0 12) m6)
      · refine lu_bipush X dX12_life_32 (pc2 := 34) rfl bp_m3 ?_
        refine lu_goto (tgt := 41) X dX12_life_34 (by decide) ?_
        exact lu_sub [] rfl (w12_life_b41 X hret (-3 : Int32) m6)
    · exact lu_sub [] rfl (w12_life_b15 X hret m4)

theorem dX12_bars_0 : decode cX12_bars 0 = .ok (.iload_n 1, 1) := by decide +kernel
theorem dX12_bars_1 : decode cX12_bars 1 = .ok (.invokestatic 214, 3) := by decide +kernel
theorem dX12_bars_4 : decode cX12_bars 4 = .ok (.ifCond .eq 11, 3) := by decide +kernel
theorem dX12_bars_7 : decode cX12_bars 7 = .ok (.aload_n 0, 1) := by decide +kernel
theorem dX12_bars_8 : decode cX12_bars 8 = .ok (.iload_n 2, 1) := by decide +kernel
theorem dX12_bars_9 : decode cX12_bars 9 = .ok (.invokevirtual 222, 3) := by decide +kernel
theorem dX12_bars_12 : decode cX12_bars 12 = .ok (.ifCond .ne 5, 3) := by decide +kernel
theorem dX12_bars_15 : decode cX12_bars 15 = .ok (.iconst (-1), 1) := by decide +kernel
theorem dX12_bars_16 : decode cX12_bars 16 = .ok (.ireturn, 1) := by decide +kernel
theorem dX12_bars_17 : decode cX12_bars 17 = .ok (.aload_n 0, 1) := by decide +kernel
theorem dX12_bars_18 : decode cX12_bars 18 = .ok (.iload_n 1, 1) := by decide +kernel
theorem dX12_bars_19 : decode cX12_bars 19 = .ok (.iload_n 2, 1) := by decide +kernel
theorem dX12_bars_20 : decode cX12_bars 20 = .ok (.invokevirtual 217, 3) := by decide +kernel
theorem dX12_bars_23 : decode cX12_bars 23 = .ok (.istore_n 3, 1) := by decide +kernel
theorem dX12_bars_24 : decode cX12_bars 24 = .ok (.iconst 0, 1) := by decide +kernel
theorem dX12_bars_25 : decode cX12_bars 25 = .ok (.istore 4, 2) := by decide +kernel
theorem dX12_bars_27 : decode cX12_bars 27 = .ok (.iload 4, 2) := by decide +kernel
theorem dX12_bars_29 : decode cX12_bars 29 = .ok (.bipush 10, 2) := by decide +kernel
theorem dX12_bars_31 : decode cX12_bars 31 = .ok (.if_icmp .ge 43, 3) := by decide +kernel
theorem dX12_bars_34 : decode cX12_bars 34 = .ok (.iload_n 2, 1) := by decide +kernel
theorem dX12_bars_35 : decode cX12_bars 35 = .ok (.aload_n 0, 1) := by decide +kernel
theorem dX12_bars_36 : decode cX12_bars 36 = .ok (.getfield 188, 3) := by decide +kernel
theorem dX12_bars_39 : decode cX12_bars 39 = .ok (.iconst (-1), 1) := by decide +kernel
theorem dX12_bars_40 : decode cX12_bars 40 = .ok (.ixor, 1) := by decide +kernel
theorem dX12_bars_41 : decode cX12_bars 41 = .ok (.iand, 1) := by decide +kernel
theorem dX12_bars_42 : decode cX12_bars 42 = .ok (.iload 4, 2) := by decide +kernel
theorem dX12_bars_44 : decode cX12_bars 44 = .ok (.ishr, 1) := by decide +kernel
theorem dX12_bars_45 : decode cX12_bars 45 = .ok (.ifCond .eq 23, 3) := by decide +kernel
theorem dX12_bars_48 : decode cX12_bars 48 = .ok (.iload_n 2, 1) := by decide +kernel
theorem dX12_bars_49 : decode cX12_bars 49 = .ok (.aload_n 0, 1) := by decide +kernel
theorem dX12_bars_50 : decode cX12_bars 50 = .ok (.getfield 188, 3) := by decide +kernel
theorem dX12_bars_53 : decode cX12_bars 53 = .ok (.iconst (-1), 1) := by decide +kernel
theorem dX12_bars_54 : decode cX12_bars 54 = .ok (.ixor, 1) := by decide +kernel
theorem dX12_bars_55 : decode cX12_bars 55 = .ok (.iand, 1) := by decide +kernel
theorem dX12_bars_56 : decode cX12_bars 56 = .ok (.iload 4, 2) := by decide +kernel
theorem dX12_bars_58 : decode cX12_bars 58 = .ok (.ishr, 1) := by decide +kernel
theorem dX12_bars_59 : decode cX12_bars 59 = .ok (.iconst 1, 1) := by decide +kernel
theorem dX12_bars_60 : decode cX12_bars 60 = .ok (.iand, 1) := by decide +kernel
theorem dX12_bars_61 : decode cX12_bars 61 = .ok (.iconst 1, 1) := by decide +kernel
theorem dX12_bars_62 : decode cX12_bars 62 = .ok (.if_icmp .ne 6, 3) := by decide +kernel
theorem dX12_bars_65 : decode cX12_bars 65 = .ok (.iload 4, 2) := by decide +kernel
theorem dX12_bars_67 : decode cX12_bars 67 = .ok (.ireturn, 1) := by decide +kernel
theorem dX12_bars_68 : decode cX12_bars 68 = .ok (.iinc 4 1, 3) := by decide +kernel
theorem dX12_bars_71 : decode cX12_bars 71 = .ok (.goto (-44), 3) := by decide +kernel
theorem dX12_bars_74 : decode cX12_bars 74 = .ok (.bipush (-3), 2) := by decide +kernel
theorem dX12_bars_76 : decode cX12_bars 76 = .ok (.ireturn, 1) := by decide +kernel
def f12_bars_b15  (a1 : Int32) (a2 : Int32)  (m : lu_M) : Option (Int32 × lu_M) :=
  some ((-1 : Int32), m)
set_option maxRecDepth 20000 in
theorem w12_bars_b15  {G : lu_G} {ρ : Nat → Nat} {a1 : Int32} {a2 : Int32}  (X : lu_X G RX12 cX12_bars 5 44 1055) (hret : (lu_me G).sig.returnType = (some .int))   : ∀  (m : lu_M), lu_Ab lu_TM G (lu_Q lu_TM G ρ lu_RVi lu_sn) (f12_bars_b15 a1 a2 m) 15 [] [] ρ 0 0 [] m := by
  intro  m
  unfold f12_bars_b15
  refine lu_iconst X dX12_bars_15 (pc2 := 16) rfl ic_m1 ?_
  exact lu_iret X hret dX12_bars_16
def f12_bars_b68 (K27 : Int32 → lu_M → Option (Int32 × lu_M)) (K74 : lu_M → Option (Int32 × lu_M)) (a1 : Int32) (a2 : Int32) (v4 : Int32) (m : lu_M) : Option (Int32 × lu_M) :=
  K27 (v4 + (1 : Int32)) m
set_option maxRecDepth 20000 in
theorem w12_bars_b68  {G : lu_G} {ρ : Nat → Nat} {a1 : Int32} {a2 : Int32} {K27 : Int32 → lu_M → Option (Int32 × lu_M)} {K74 : lu_M → Option (Int32 × lu_M)} (X : lu_X G RX12 cX12_bars 5 44 1055) (hret : (lu_me G).sig.returnType = (some .int))  (hK27 : ∀ (v4 : Int32) (m : lu_M), lu_Ab lu_TM G (lu_Q lu_TM G ρ lu_RVi lu_sn) (K27 v4 m) 27 [(0, .ref (ρ 0)), (2, .int a2), (4, .int v4)] [] ρ 0 0 [] m) (hK74 : ∀  (m : lu_M), lu_Ab lu_TM G (lu_Q lu_TM G ρ lu_RVi lu_sn) (K74 m) 74 [] [] ρ 0 0 [] m) : ∀ (v4 : Int32) (m : lu_M), lu_Ab lu_TM G (lu_Q lu_TM G ρ lu_RVi lu_sn) (f12_bars_b68 K27 K74 a1 a2 v4 m) 68 [(0, .ref (ρ 0)), (2, .int a2), (4, .int v4)] [] ρ 0 0 [] m := by
  intro v4 m
  unfold f12_bars_b68
  refine lu_iinc (lv2 := [(4, .int (v4 + (1 : Int32))), (0, .ref (ρ 0)), (2, .int a2)]) X dX12_bars_68 (pc2 := 71) rfl 2 rfl (lu_ii _ ic_1) (by decide) rfl ?_
  refine lu_goto (tgt := 27) X dX12_bars_71 (by decide) ?_
  exact lu_sub [1, 2, 0] rfl (hK27 (v4 + (1 : Int32)) m)
def f12_bars_b27B (K65 : Int32 → lu_M → Option (Int32 × lu_M)) (K74 : lu_M → Option (Int32 × lu_M)) (rec : Int32 → lu_M → Option (Int32 × lu_M)) (a1 : Int32) (a2 : Int32) (v4 : Int32) (m : lu_M) : Option (Int32 × lu_M) :=
  if (10 : Int32) ≤ v4 then (K74 m)
  else (if ((a2 &&& ((m 0 13) ^^^ (-1 : Int32))) >>> (v4 &&& 31)) = 0 then (f12_bars_b68 rec K74 a1 a2 v4 m)
  else (if (((a2 &&& ((m 0 13) ^^^ (-1 : Int32))) >>> (v4 &&& 31)) &&& (1 : Int32)) = (1 : Int32) then (K65 v4 m)
  else (f12_bars_b68 rec K74 a1 a2 v4 m)))
def f12_bars_b27 (K65 : Int32 → lu_M → Option (Int32 × lu_M)) (K74 : lu_M → Option (Int32 × lu_M)) (a1 : Int32) (a2 : Int32) : Nat → Int32 → lu_M → Option (Int32 × lu_M)
  | 0, _, _ => none
  | n + 1, v4, m => f12_bars_b27B K65 K74 (f12_bars_b27 K65 K74 a1 a2 n) a1 a2 v4 m
set_option maxRecDepth 20000 in
theorem w12_bars_b27B  {G : lu_G} {ρ : Nat → Nat} {a1 : Int32} {a2 : Int32} {K65 : Int32 → lu_M → Option (Int32 × lu_M)} {K74 : lu_M → Option (Int32 × lu_M)} {rec : Int32 → lu_M → Option (Int32 × lu_M)} (X : lu_X G RX12 cX12_bars 5 44 1055) (hret : (lu_me G).sig.returnType = (some .int))  (hK65 : ∀ (v4 : Int32) (m : lu_M), lu_Ab lu_TM G (lu_Q lu_TM G ρ lu_RVi lu_sn) (K65 v4 m) 65 [(4, .int v4)] [] ρ 0 0 [] m) (hK74 : ∀  (m : lu_M), lu_Ab lu_TM G (lu_Q lu_TM G ρ lu_RVi lu_sn) (K74 m) 74 [] [] ρ 0 0 [] m) (hrec : ∀ (v4 : Int32) (m : lu_M), lu_Ab lu_TM G (lu_Q lu_TM G ρ lu_RVi lu_sn) (rec v4 m) 27 [(0, .ref (ρ 0)), (2, .int a2), (4, .int v4)] [] ρ 0 0 [] m) : ∀ (v4 : Int32) (m : lu_M), lu_Ab lu_TM G (lu_Q lu_TM G ρ lu_RVi lu_sn) (f12_bars_b27B K65 K74 rec a1 a2 v4 m) 27 [(0, .ref (ρ 0)), (2, .int a2), (4, .int v4)] [] ρ 0 0 [] m := by
  intro v4 m
  unfold f12_bars_b27B
  refine lu_iload X dX12_bars_27 (pc2 := 29) rfl 2 rfl ?_
  refine lu_bipush X dX12_bars_29 (pc2 := 31) rfl bp_10 ?_
  refine lu_icmp_ge (tgt := 74) X dX12_bars_31 (pc2 := 34) rfl (by decide) (fun _ => ?_) (fun _ => ?_)
  · exact lu_sub [] rfl (hK74 m)
  · refine lu_iload_n X dX12_bars_34 (pc2 := 35) rfl rfl 1 rfl ?_
    refine lu_aload_n X dX12_bars_35 (pc2 := 36) rfl rfl 0 rfl ?_
    refine lu_get X fl12_188 rfl kM_0 lM_0 dX12_bars_36 (pc2 := 39) rfl ?_
    refine lu_iconst X dX12_bars_39 (pc2 := 40) rfl ic_m1 ?_
    refine lu_ixor X dX12_bars_40 (pc2 := 41) rfl ?_
    refine lu_iand X dX12_bars_41 (pc2 := 42) rfl ?_
    refine lu_iload X dX12_bars_42 (pc2 := 44) rfl 2 rfl ?_
    refine lu_ishr X dX12_bars_44 (pc2 := 45) rfl ?_
    refine lu_if_eq (tgt := 68) X dX12_bars_45 (pc2 := 48) rfl (by decide) (fun _ => ?_) (fun _ => ?_)
    · exact w12_bars_b68 X hret hrec hK74 v4 m
    · refine lu_iload_n X dX12_bars_48 (pc2 := 49) rfl rfl 1 rfl ?_
      refine lu_aload_n X dX12_bars_49 (pc2 := 50) rfl rfl 0 rfl ?_
      refine lu_get X fl12_188 rfl kM_0 lM_0 dX12_bars_50 (pc2 := 53) rfl ?_
      refine lu_iconst X dX12_bars_53 (pc2 := 54) rfl ic_m1 ?_
      refine lu_ixor X dX12_bars_54 (pc2 := 55) rfl ?_
      refine lu_iand X dX12_bars_55 (pc2 := 56) rfl ?_
      refine lu_iload X dX12_bars_56 (pc2 := 58) rfl 2 rfl ?_
      refine lu_ishr X dX12_bars_58 (pc2 := 59) rfl ?_
      refine lu_iconst X dX12_bars_59 (pc2 := 60) rfl ic_1 ?_
      refine lu_iand X dX12_bars_60 (pc2 := 61) rfl ?_
      refine lu_iconst X dX12_bars_61 (pc2 := 62) rfl ic_1 ?_
      refine lu_icmp_ne (tgt := 68) X dX12_bars_62 (pc2 := 65) rfl (by decide) (fun _ => ?_) (fun _ => ?_)
      · exact w12_bars_b68 X hret hrec hK74 v4 m
      · exact lu_sub [2] rfl (hK65 v4 m)
theorem w12_bars_b27  {G : lu_G} {ρ : Nat → Nat} {a1 : Int32} {a2 : Int32} {K65 : Int32 → lu_M → Option (Int32 × lu_M)} {K74 : lu_M → Option (Int32 × lu_M)} (X : lu_X G RX12 cX12_bars 5 44 1055) (hret : (lu_me G).sig.returnType = (some .int))  (hK65 : ∀ (v4 : Int32) (m : lu_M), lu_Ab lu_TM G (lu_Q lu_TM G ρ lu_RVi lu_sn) (K65 v4 m) 65 [(4, .int v4)] [] ρ 0 0 [] m) (hK74 : ∀  (m : lu_M), lu_Ab lu_TM G (lu_Q lu_TM G ρ lu_RVi lu_sn) (K74 m) 74 [] [] ρ 0 0 [] m) : ∀ (n : Nat) (v4 : Int32) (m : lu_M), lu_Ab lu_TM G (lu_Q lu_TM G ρ lu_RVi lu_sn) (f12_bars_b27 K65 K74 a1 a2 n v4 m) 27 [(0, .ref (ρ 0)), (2, .int a2), (4, .int v4)] [] ρ 0 0 [] m := by
  intro n
  induction n with
  | zero => intro v4 m; exact lu_none
  | succ n ih => intro v4 m; exact w12_bars_b27B X hret hK65 hK74 ih v4 m
def f12_bars_b65  (a1 : Int32) (a2 : Int32) (v4 : Int32) (m : lu_M) : Option (Int32 × lu_M) :=
  some (v4, m)
set_option maxRecDepth 20000 in
theorem w12_bars_b65  {G : lu_G} {ρ : Nat → Nat} {a1 : Int32} {a2 : Int32}  (X : lu_X G RX12 cX12_bars 5 44 1055) (hret : (lu_me G).sig.returnType = (some .int))   : ∀ (v4 : Int32) (m : lu_M), lu_Ab lu_TM G (lu_Q lu_TM G ρ lu_RVi lu_sn) (f12_bars_b65 a1 a2 v4 m) 65 [(4, .int v4)] [] ρ 0 0 [] m := by
  intro v4 m
  unfold f12_bars_b65
  refine lu_iload X dX12_bars_65 (pc2 := 67) rfl 0 rfl ?_
  exact lu_iret X hret dX12_bars_67
def f12_bars_b74  (a1 : Int32) (a2 : Int32)  (m : lu_M) : Option (Int32 × lu_M) :=
  some ((-3 : Int32), m)
set_option maxRecDepth 20000 in
theorem w12_bars_b74  {G : lu_G} {ρ : Nat → Nat} {a1 : Int32} {a2 : Int32}  (X : lu_X G RX12 cX12_bars 5 44 1055) (hret : (lu_me G).sig.returnType = (some .int))   : ∀  (m : lu_M), lu_Ab lu_TM G (lu_Q lu_TM G ρ lu_RVi lu_sn) (f12_bars_b74 a1 a2 m) 74 [] [] ρ 0 0 [] m := by
  intro  m
  unfold f12_bars_b74
  refine lu_bipush X dX12_bars_74 (pc2 := 76) rfl bp_m3 ?_
  exact lu_iret X hret dX12_bars_76
def f12_bars (a1 : Int32) (a2 : Int32) (m : lu_M) : Option (Int32 × lu_M) :=
  lu_bi (f12_isLong a1 m) fun x1 m2 =>
  if x1 = 0 then (f12_bars_b15 a1 a2 m2)
  else (lu_bi (f12_areDeeds a2 m2) fun x3 m4 =>
  if x3 = 0 then (f12_bars_b15 a1 a2 m4)
  else (lu_bi (f12_plansOf a1 a2 m4) fun x5 m6 =>
  f12_bars_b27 (f12_bars_b65 a1 a2) (f12_bars_b74 a1 a2) a1 a2 lu_fu (0 : Int32) m6))
set_option maxRecDepth 20000 in
theorem c12_bars (l : Launch)   (a1 : Int32) (a2 : Int32) : lu_C lu_TM l yX12_bars cX12_bars 5 (some .int) 44 1055 (fun ρ sa => [.ref (ρ 0), .int a1, .int a2]) (f12_bars a1 a2) lu_RVi lu_sn := by
  refine lu_met (cls := RX12) rfl (by decide +kernel) (fun _ _ => Nat.le_of_ble_eq_true rfl) ?_
  intro G ρ m hl X hret
  subst hl
  change lu_Ab lu_TM G (lu_Q lu_TM G ρ lu_RVi lu_sn) (f12_bars a1 a2 m) 0 [(0, .ref (ρ 0)), (1, .int a1), (2, .int a2)] [] ρ 0 0 [] m
  unfold f12_bars
  refine lu_iload_n X dX12_bars_0 (pc2 := 1) rfl rfl 1 rfl ?_
  refine lu_invSi X (c12_isLong _ a1) rfl q1472 mvS_12_isLong rfl rfl (Nat.le_of_ble_eq_true rfl) (Nat.le_of_ble_eq_true rfl) (Nat.le_of_ble_eq_true rfl) ⟨Nat.zero_le _, Nat.zero_le _⟩ dX12_bars_1 (pc2 := 4) rfl rfl (fun x1 m2 => ?_)
  refine lu_if_eq (tgt := 15) X dX12_bars_4 (pc2 := 7) rfl (by decide) (fun _ => ?_) (fun _ => ?_)
  · exact lu_sub [] rfl (w12_bars_b15 X hret m2)
  · refine lu_aload_n X dX12_bars_7 (pc2 := 8) rfl rfl 0 rfl ?_
    refine lu_iload_n X dX12_bars_8 (pc2 := 9) rfl rfl 2 rfl ?_
    refine lu_invVi X (c12_areDeeds _ a2) rfl q1512 mvV_12_areDeeds kM_0 lM_0 (by decide) ⟨_, rfl, rfl⟩ rfl rfl (Nat.le_of_ble_eq_true rfl) (Nat.le_of_ble_eq_true rfl) (Nat.le_of_ble_eq_true rfl) ⟨Nat.zero_le _, Nat.zero_le _⟩ dX12_bars_9 (pc2 := 12) rfl rfl (fun x3 m4 => ?_)
    refine lu_if_ne (tgt := 17) X dX12_bars_12 (pc2 := 15) rfl (by decide) (fun _ => ?_) (fun _ => ?_)
    · refine lu_aload_n X dX12_bars_17 (pc2 := 18) rfl rfl 0 rfl ?_
      refine lu_iload_n X dX12_bars_18 (pc2 := 19) rfl rfl 1 rfl ?_
      refine lu_iload_n X dX12_bars_19 (pc2 := 20) rfl rfl 2 rfl ?_
      refine lu_invVi X (c12_plansOf _ a1 a2) rfl q1475 mvV_12_plansOf kM_0 lM_0 (by decide) ⟨_, rfl, rfl⟩ rfl rfl (Nat.le_of_ble_eq_true rfl) (Nat.le_of_ble_eq_true rfl) (Nat.le_of_ble_eq_true rfl) ⟨Nat.zero_le _, Nat.zero_le _⟩ dX12_bars_20 (pc2 := 23) rfl rfl (fun x5 m6 => ?_)
      refine lu_istore_n (lv2 := [(3, .int x5), (0, .ref (ρ 0)), (1, .int a1), (2, .int a2)]) X dX12_bars_23 (pc2 := 24) rfl rfl (by decide) rfl ?_
      refine lu_iconst X dX12_bars_24 (pc2 := 25) rfl ic_0 ?_
      refine lu_istore (lv2 := [(4, .int (0 : Int32)), (3, .int x5), (0, .ref (ρ 0)), (1, .int a1), (2, .int a2)]) X dX12_bars_25 (pc2 := 27) rfl (by decide) rfl ?_
      exact lu_sub [2, 4, 0] rfl (w12_bars_b27 X hret (w12_bars_b65 X hret) (w12_bars_b74 X hret) lu_fu (0 : Int32) m6)
    · exact lu_sub [] rfl (w12_bars_b15 X hret m4)

theorem dX12_played_0 : decode cX12_played 0 = .ok (.iload_n 1, 1) := by decide +kernel
theorem dX12_played_1 : decode cX12_played 1 = .ok (.iload_n 2, 1) := by decide +kernel
theorem dX12_played_2 : decode cX12_played 2 = .ok (.if_icmp .ne 5, 3) := by decide +kernel
theorem dX12_played_5 : decode cX12_played 5 = .ok (.iconst 0, 1) := by decide +kernel
theorem dX12_played_6 : decode cX12_played 6 = .ok (.ireturn, 1) := by decide +kernel
theorem dX12_played_7 : decode cX12_played 7 = .ok (.iconst 0, 1) := by decide +kernel
theorem dX12_played_8 : decode cX12_played 8 = .ok (.istore 4, 2) := by decide +kernel
theorem dX12_played_10 : decode cX12_played 10 = .ok (.iconst (-1), 1) := by decide +kernel
theorem dX12_played_11 : decode cX12_played 11 = .ok (.istore 5, 2) := by decide +kernel
theorem dX12_played_13 : decode cX12_played 13 = .ok (.iconst 0, 1) := by decide +kernel
theorem dX12_played_14 : decode cX12_played 14 = .ok (.istore 6, 2) := by decide +kernel
theorem dX12_played_16 : decode cX12_played 16 = .ok (.iload 6, 2) := by decide +kernel
theorem dX12_played_18 : decode cX12_played 18 = .ok (.aload_n 0, 1) := by decide +kernel
theorem dX12_played_19 : decode cX12_played 19 = .ok (.getfield 7, 3) := by decide +kernel
theorem dX12_played_22 : decode cX12_played 22 = .ok (.iconst 0, 1) := by decide +kernel
theorem dX12_played_23 : decode cX12_played 23 = .ok (.iaload, 1) := by decide +kernel
theorem dX12_played_24 : decode cX12_played 24 = .ok (.if_icmp .gt 110, 3) := by decide +kernel
theorem dX12_played_27 : decode cX12_played 27 = .ok (.aload_n 0, 1) := by decide +kernel
theorem dX12_played_28 : decode cX12_played 28 = .ok (.iload_n 1, 1) := by decide +kernel
theorem dX12_played_29 : decode cX12_played 29 = .ok (.invokevirtual 201, 3) := by decide +kernel
theorem dX12_played_32 : decode cX12_played 32 = .ok (.aload_n 0, 1) := by decide +kernel
theorem dX12_played_33 : decode cX12_played 33 = .ok (.iload 6, 2) := by decide +kernel
theorem dX12_played_35 : decode cX12_played 35 = .ok (.invokevirtual 146, 3) := by decide +kernel
theorem dX12_played_38 : decode cX12_played 38 = .ok (.istore 7, 2) := by decide +kernel
theorem dX12_played_40 : decode cX12_played 40 = .ok (.iload 7, 2) := by decide +kernel
theorem dX12_played_42 : decode cX12_played 42 = .ok (.aload_n 0, 1) := by decide +kernel
theorem dX12_played_43 : decode cX12_played 43 = .ok (.iload_n 1, 1) := by decide +kernel
theorem dX12_played_44 : decode cX12_played 44 = .ok (.iconst 1, 1) := by decide +kernel
theorem dX12_played_45 : decode cX12_played 45 = .ok (.iadd, 1) := by decide +kernel
theorem dX12_played_46 : decode cX12_played 46 = .ok (.iload_n 2, 1) := by decide +kernel
theorem dX12_played_47 : decode cX12_played 47 = .ok (.iload_n 3, 1) := by decide +kernel
theorem dX12_played_48 : decode cX12_played 48 = .ok (.ifCond .ne 7, 3) := by decide +kernel
theorem dX12_played_51 : decode cX12_played 51 = .ok (.iconst 1, 1) := by decide +kernel
theorem dX12_played_52 : decode cX12_played 52 = .ok (.goto 4, 3) := by decide +kernel
theorem dX12_played_55 : decode cX12_played 55 = .ok (.iconst 0, 1) := by decide +kernel
theorem dX12_played_56 : decode cX12_played 56 = .ok (.invokevirtual 225, 3) := by decide +kernel
theorem dX12_played_59 : decode cX12_played 59 = .ok (.iadd, 1) := by decide +kernel
theorem dX12_played_60 : decode cX12_played 60 = .ok (.istore 7, 2) := by decide +kernel
theorem dX12_played_62 : decode cX12_played 62 = .ok (.aload_n 0, 1) := by decide +kernel
theorem dX12_played_63 : decode cX12_played 63 = .ok (.iload_n 1, 1) := by decide +kernel
theorem dX12_played_64 : decode cX12_played 64 = .ok (.invokevirtual 208, 3) := by decide +kernel
theorem dX12_played_67 : decode cX12_played 67 = .ok (.iload 5, 2) := by decide +kernel
theorem dX12_played_69 : decode cX12_played 69 = .ok (.ifCond .lt 24, 3) := by decide +kernel
theorem dX12_played_72 : decode cX12_played 72 = .ok (.iload_n 3, 1) := by decide +kernel
theorem dX12_played_73 : decode cX12_played 73 = .ok (.ifCond .eq 13, 3) := by decide +kernel
theorem dX12_played_76 : decode cX12_played 76 = .ok (.iload 7, 2) := by decide +kernel
theorem dX12_played_78 : decode cX12_played 78 = .ok (.iload 4, 2) := by decide +kernel
theorem dX12_played_80 : decode cX12_played 80 = .ok (.if_icmp .le 17, 3) := by decide +kernel
theorem dX12_played_83 : decode cX12_played 83 = .ok (.goto 10, 3) := by decide +kernel
theorem dX12_played_86 : decode cX12_played 86 = .ok (.iload 7, 2) := by decide +kernel
theorem dX12_played_88 : decode cX12_played 88 = .ok (.iload 4, 2) := by decide +kernel
theorem dX12_played_90 : decode cX12_played 90 = .ok (.if_icmp .ge 7, 3) := by decide +kernel
theorem dX12_played_93 : decode cX12_played 93 = .ok (.iconst 1, 1) := by decide +kernel
theorem dX12_played_94 : decode cX12_played 94 = .ok (.goto 4, 3) := by decide +kernel
theorem dX12_played_97 : decode cX12_played 97 = .ok (.iconst 0, 1) := by decide +kernel
theorem dX12_played_98 : decode cX12_played 98 = .ok (.istore 8, 2) := by decide +kernel
theorem dX12_played_100 : decode cX12_played 100 = .ok (.iload 8, 2) := by decide +kernel
theorem dX12_played_102 : decode cX12_played 102 = .ok (.ifCond .eq 8, 3) := by decide +kernel
theorem dX12_played_105 : decode cX12_played 105 = .ok (.iload 7, 2) := by decide +kernel
theorem dX12_played_107 : decode cX12_played 107 = .ok (.goto 5, 3) := by decide +kernel
theorem dX12_played_110 : decode cX12_played 110 = .ok (.iload 4, 2) := by decide +kernel
theorem dX12_played_112 : decode cX12_played 112 = .ok (.istore 4, 2) := by decide +kernel
theorem dX12_played_114 : decode cX12_played 114 = .ok (.iload 8, 2) := by decide +kernel
theorem dX12_played_116 : decode cX12_played 116 = .ok (.ifCond .eq 8, 3) := by decide +kernel
theorem dX12_played_119 : decode cX12_played 119 = .ok (.iload 6, 2) := by decide +kernel
theorem dX12_played_121 : decode cX12_played 121 = .ok (.goto 5, 3) := by decide +kernel
theorem dX12_played_124 : decode cX12_played 124 = .ok (.iload 5, 2) := by decide +kernel
theorem dX12_played_126 : decode cX12_played 126 = .ok (.istore 5, 2) := by decide +kernel
theorem dX12_played_128 : decode cX12_played 128 = .ok (.iinc 6 1, 3) := by decide +kernel
theorem dX12_played_131 : decode cX12_played 131 = .ok (.goto (-115), 3) := by decide +kernel
theorem dX12_played_134 : decode cX12_played 134 = .ok (.aload_n 0, 1) := by decide +kernel
theorem dX12_played_135 : decode cX12_played 135 = .ok (.iload 5, 2) := by decide +kernel
theorem dX12_played_137 : decode cX12_played 137 = .ok (.putfield 229, 3) := by decide +kernel
theorem dX12_played_140 : decode cX12_played 140 = .ok (.iload 4, 2) := by decide +kernel
theorem dX12_played_142 : decode cX12_played 142 = .ok (.ireturn, 1) := by decide +kernel
def f12_played_b126 (K16 : Int32 → Int32 → Int32 → lu_M → Option (Int32 × lu_M)) (K134 : Int32 → Int32 → lu_M → Option (Int32 × lu_M)) (rc : Int32 → Int32 → Int32 → lu_M → Option (Int32 × lu_M)) (a1 : Int32) (a2 : Int32) (a3 : Int32) (v4 : Int32) (v6 : Int32) (s0 : Int32) (m : lu_M) : Option (Int32 × lu_M) :=
  K16 v4 s0 (v6 + (1 : Int32)) m
set_option maxRecDepth 20000 in
theorem w12_played_b126 {rc : Int32 → Int32 → Int32 → lu_M → Option (Int32 × lu_M)} {frc loc : Nat}  {G : lu_G} {ρ : Nat → Nat} {a1 : Int32} {a2 : Int32} {a3 : Int32} {K16 : Int32 → Int32 → Int32 → lu_M → Option (Int32 × lu_M)} {K134 : Int32 → Int32 → lu_M → Option (Int32 × lu_M)} (X : lu_X G RX12 cX12_played 9 (frc + 7) (loc + 168)) (hret : (lu_me G).sig.returnType = (some .int)) (hrc : ∀ (b0 : Int32) (b1 : Int32) (b2 : Int32), lu_C lu_TM (lu_l G) yX12_played cX12_played 9 (some .int) frc loc (fun ρ _ => [.ref (ρ 0), .int b0, .int b1, .int b2]) (fun m => rc b0 b1 b2 m) lu_RVi lu_sn)  (hK16 : ∀ (v4 : Int32) (v5 : Int32) (v6 : Int32) (m : lu_M), lu_Ab lu_TM G (lu_Q lu_TM G ρ lu_RVi lu_sn) (K16 v4 v5 v6 m) 16 [(0, .ref (ρ 0)), (1, .int a1), (2, .int a2), (3, .int a3), (4, .int v4), (5, .int v5), (6, .int v6)] [] ρ 0 0 [] m) (hK134 : ∀ (v4 : Int32) (v5 : Int32) (m : lu_M), lu_Ab lu_TM G (lu_Q lu_TM G ρ lu_RVi lu_sn) (K134 v4 v5 m) 134 [(0, .ref (ρ 0)), (4, .int v4), (5, .int v5)] [] ρ 0 0 [] m) : ∀ (v4 : Int32) (v6 : Int32) (s0 : Int32) (m : lu_M), lu_Ab lu_TM G (lu_Q lu_TM G ρ lu_RVi lu_sn) (f12_played_b126 K16 K134 rc a1 a2 a3 v4 v6 s0 m) 126 [(0, .ref (ρ 0)), (1, .int a1), (2, .int a2), (3, .int a3), (4, .int v4), (6, .int v6)] [.int s0] ρ 0 0 [] m := by
  intro v4 v6 s0 m
  unfold f12_played_b126
  refine lu_istore (lv2 := [(5, .int s0), (0, .ref (ρ 0)), (1, .int a1), (2, .int a2), (3, .int a3), (4, .int v4), (6, .int v6)]) X dX12_played_126 (pc2 := 128) rfl (by decide) rfl ?_
  refine lu_iinc (lv2 := [(6, .int (v6 + (1 : Int32))), (5, .int s0), (0, .ref (ρ 0)), (1, .int a1), (2, .int a2), (3, .int a3), (4, .int v4)]) X dX12_played_128 (pc2 := 131) rfl 6 rfl (lu_ii _ ic_1) (by decide) rfl ?_
  refine lu_goto (tgt := 16) X dX12_played_131 (by decide) ?_
  exact lu_sub [2, 3, 4, 5, 6, 1, 0] rfl (hK16 v4 s0 (v6 + (1 : Int32)) m)
def f12_played_b112 (K16 : Int32 → Int32 → Int32 → lu_M → Option (Int32 × lu_M)) (K134 : Int32 → Int32 → lu_M → Option (Int32 × lu_M)) (rc : Int32 → Int32 → Int32 → lu_M → Option (Int32 × lu_M)) (a1 : Int32) (a2 : Int32) (a3 : Int32) (v5 : Int32) (v6 : Int32) (v8 : Int32) (s0 : Int32) (m : lu_M) : Option (Int32 × lu_M) :=
  if v8 = 0 then (f12_played_b126 K16 K134 rc a1 a2 a3 s0 v6 v5 m)
  else (f12_played_b126 K16 K134 rc a1 a2 a3 s0 v6 v6 m)
set_option maxRecDepth 20000 in
theorem w12_played_b112 {rc : Int32 → Int32 → Int32 → lu_M → Option (Int32 × lu_M)} {frc loc : Nat}  {G : lu_G} {ρ : Nat → Nat} {a1 : Int32} {a2 : Int32} {a3 : Int32} {K16 : Int32 → Int32 → Int32 → lu_M → Option (Int32 × lu_M)} {K134 : Int32 → Int32 → lu_M → Option (Int32 × lu_M)} (X : lu_X G RX12 cX12_played 9 (frc + 7) (loc + 168)) (hret : (lu_me G).sig.returnType = (some .int)) (hrc : ∀ (b0 : Int32) (b1 : Int32) (b2 : Int32), lu_C lu_TM (lu_l G) yX12_played cX12_played 9 (some .int) frc loc (fun ρ _ => [.ref (ρ 0), .int b0, .int b1, .int b2]) (fun m => rc b0 b1 b2 m) lu_RVi lu_sn)  (hK16 : ∀ (v4 : Int32) (v5 : Int32) (v6 : Int32) (m : lu_M), lu_Ab lu_TM G (lu_Q lu_TM G ρ lu_RVi lu_sn) (K16 v4 v5 v6 m) 16 [(0, .ref (ρ 0)), (1, .int a1), (2, .int a2), (3, .int a3), (4, .int v4), (5, .int v5), (6, .int v6)] [] ρ 0 0 [] m) (hK134 : ∀ (v4 : Int32) (v5 : Int32) (m : lu_M), lu_Ab lu_TM G (lu_Q lu_TM G ρ lu_RVi lu_sn) (K134 v4 v5 m) 134 [(0, .ref (ρ 0)), (4, .int v4), (5, .int v5)] [] ρ 0 0 [] m) : ∀ (v5 : Int32) (v6 : Int32) (v8 : Int32) (s0 : Int32) (m : lu_M), lu_Ab lu_TM G (lu_Q lu_TM G ρ lu_RVi lu_sn) (f12_played_b112 K16 K134 rc a1 a2 a3 v5 v6 v8 s0 m) 112 [(0, .ref (ρ 0)), (1, .int a1), (2, .int a2), (3, .int a3), (5, .int v5), (6, .int v6), (8, .int v8)] [.int s0] ρ 0 0 [] m := by
  intro v5 v6 v8 s0 m
  unfold f12_played_b112
  refine lu_istore (lv2 := [(4, .int s0), (0, .ref (ρ 0)), (1, .int a1), (2, .int a2), (3, .int a3), (5, .int v5), (6, .int v6), (8, .int v8)]) X dX12_played_112 (pc2 := 114) rfl (by decide) rfl ?_
  refine lu_iload X dX12_played_114 (pc2 := 116) rfl 7 rfl ?_
  refine lu_if_eq (tgt := 124) X dX12_played_116 (pc2 := 119) rfl (by decide) (fun _ => ?_) (fun _ => ?_)
  · refine lu_iload X dX12_played_124 (pc2 := 126) rfl 5 rfl ?_
    exact lu_sub [1, 2, 3, 4, 0, 6] rfl (w12_played_b126 X hret hrc hK16 hK134 s0 v6 v5 m)
  · refine lu_iload X dX12_played_119 (pc2 := 121) rfl 6 rfl ?_
    refine lu_goto (tgt := 126) X dX12_played_121 (by decide) ?_
    exact lu_sub [1, 2, 3, 4, 0, 6] rfl (w12_played_b126 X hret hrc hK16 hK134 s0 v6 v6 m)
def f12_played_b98 (K16 : Int32 → Int32 → Int32 → lu_M → Option (Int32 × lu_M)) (K134 : Int32 → Int32 → lu_M → Option (Int32 × lu_M)) (rc : Int32 → Int32 → Int32 → lu_M → Option (Int32 × lu_M)) (a1 : Int32) (a2 : Int32) (a3 : Int32) (v4 : Int32) (v5 : Int32) (v6 : Int32) (v7 : Int32) (s0 : Int32) (m : lu_M) : Option (Int32 × lu_M) :=
  if s0 = 0 then (f12_played_b112 K16 K134 rc a1 a2 a3 v5 v6 s0 v4 m)
  else (f12_played_b112 K16 K134 rc a1 a2 a3 v5 v6 s0 v7 m)
set_option maxRecDepth 20000 in
theorem w12_played_b98 {rc : Int32 → Int32 → Int32 → lu_M → Option (Int32 × lu_M)} {frc loc : Nat}  {G : lu_G} {ρ : Nat → Nat} {a1 : Int32} {a2 : Int32} {a3 : Int32} {K16 : Int32 → Int32 → Int32 → lu_M → Option (Int32 × lu_M)} {K134 : Int32 → Int32 → lu_M → Option (Int32 × lu_M)} (X : lu_X G RX12 cX12_played 9 (frc + 7) (loc + 168)) (hret : (lu_me G).sig.returnType = (some .int)) (hrc : ∀ (b0 : Int32) (b1 : Int32) (b2 : Int32), lu_C lu_TM (lu_l G) yX12_played cX12_played 9 (some .int) frc loc (fun ρ _ => [.ref (ρ 0), .int b0, .int b1, .int b2]) (fun m => rc b0 b1 b2 m) lu_RVi lu_sn)  (hK16 : ∀ (v4 : Int32) (v5 : Int32) (v6 : Int32) (m : lu_M), lu_Ab lu_TM G (lu_Q lu_TM G ρ lu_RVi lu_sn) (K16 v4 v5 v6 m) 16 [(0, .ref (ρ 0)), (1, .int a1), (2, .int a2), (3, .int a3), (4, .int v4), (5, .int v5), (6, .int v6)] [] ρ 0 0 [] m) (hK134 : ∀ (v4 : Int32) (v5 : Int32) (m : lu_M), lu_Ab lu_TM G (lu_Q lu_TM G ρ lu_RVi lu_sn) (K134 v4 v5 m) 134 [(0, .ref (ρ 0)), (4, .int v4), (5, .int v5)] [] ρ 0 0 [] m) : ∀ (v4 : Int32) (v5 : Int32) (v6 : Int32) (v7 : Int32) (s0 : Int32) (m : lu_M), lu_Ab lu_TM G (lu_Q lu_TM G ρ lu_RVi lu_sn) (f12_played_b98 K16 K134 rc a1 a2 a3 v4 v5 v6 v7 s0 m) 98 [(0, .ref (ρ 0)), (1, .int a1), (2, .int a2), (3, .int a3), (4, .int v4), (5, .int v5), (6, .int v6), (7, .int v7)] [.int s0] ρ 0 0 [] m := by
  intro v4 v5 v6 v7 s0 m
  unfold f12_played_b98
  refine lu_istore (lv2 := [(8, .int s0), (0, .ref (ρ 0)), (1, .int a1), (2, .int a2), (3, .int a3), (4, .int v4), (5, .int v5), (6, .int v6), (7, .int v7)]) X dX12_played_98 (pc2 := 100) rfl (by decide) rfl ?_
  refine lu_iload X dX12_played_100 (pc2 := 102) rfl 0 rfl ?_
  refine lu_if_eq (tgt := 110) X dX12_played_102 (pc2 := 105) rfl (by decide) (fun _ => ?_) (fun _ => ?_)
  · refine lu_iload X dX12_played_110 (pc2 := 112) rfl 5 rfl ?_
    exact lu_sub [1, 2, 3, 4, 6, 7, 0] rfl (w12_played_b112 X hret hrc hK16 hK134 v5 v6 s0 v4 m)
  · refine lu_iload X dX12_played_105 (pc2 := 107) rfl 8 rfl ?_
    refine lu_goto (tgt := 112) X dX12_played_107 (by decide) ?_
    exact lu_sub [1, 2, 3, 4, 6, 7, 0] rfl (w12_played_b112 X hret hrc hK16 hK134 v5 v6 s0 v7 m)
def f12_played_b93 (K16 : Int32 → Int32 → Int32 → lu_M → Option (Int32 × lu_M)) (K134 : Int32 → Int32 → lu_M → Option (Int32 × lu_M)) (rc : Int32 → Int32 → Int32 → lu_M → Option (Int32 × lu_M)) (a1 : Int32) (a2 : Int32) (a3 : Int32) (v4 : Int32) (v5 : Int32) (v6 : Int32) (v7 : Int32) (m : lu_M) : Option (Int32 × lu_M) :=
  f12_played_b98 K16 K134 rc a1 a2 a3 v4 v5 v6 v7 (1 : Int32) m
set_option maxRecDepth 20000 in
theorem w12_played_b93 {rc : Int32 → Int32 → Int32 → lu_M → Option (Int32 × lu_M)} {frc loc : Nat}  {G : lu_G} {ρ : Nat → Nat} {a1 : Int32} {a2 : Int32} {a3 : Int32} {K16 : Int32 → Int32 → Int32 → lu_M → Option (Int32 × lu_M)} {K134 : Int32 → Int32 → lu_M → Option (Int32 × lu_M)} (X : lu_X G RX12 cX12_played 9 (frc + 7) (loc + 168)) (hret : (lu_me G).sig.returnType = (some .int)) (hrc : ∀ (b0 : Int32) (b1 : Int32) (b2 : Int32), lu_C lu_TM (lu_l G) yX12_played cX12_played 9 (some .int) frc loc (fun ρ _ => [.ref (ρ 0), .int b0, .int b1, .int b2]) (fun m => rc b0 b1 b2 m) lu_RVi lu_sn)  (hK16 : ∀ (v4 : Int32) (v5 : Int32) (v6 : Int32) (m : lu_M), lu_Ab lu_TM G (lu_Q lu_TM G ρ lu_RVi lu_sn) (K16 v4 v5 v6 m) 16 [(0, .ref (ρ 0)), (1, .int a1), (2, .int a2), (3, .int a3), (4, .int v4), (5, .int v5), (6, .int v6)] [] ρ 0 0 [] m) (hK134 : ∀ (v4 : Int32) (v5 : Int32) (m : lu_M), lu_Ab lu_TM G (lu_Q lu_TM G ρ lu_RVi lu_sn) (K134 v4 v5 m) 134 [(0, .ref (ρ 0)), (4, .int v4), (5, .int v5)] [] ρ 0 0 [] m) : ∀ (v4 : Int32) (v5 : Int32) (v6 : Int32) (v7 : Int32) (m : lu_M), lu_Ab lu_TM G (lu_Q lu_TM G ρ lu_RVi lu_sn) (f12_played_b93 K16 K134 rc a1 a2 a3 v4 v5 v6 v7 m) 93 [(0, .ref (ρ 0)), (1, .int a1), (2, .int a2), (3, .int a3), (4, .int v4), (5, .int v5), (6, .int v6), (7, .int v7)] [] ρ 0 0 [] m := by
  intro v4 v5 v6 v7 m
  unfold f12_played_b93
  refine lu_iconst X dX12_played_93 (pc2 := 94) rfl ic_1 ?_
  refine lu_goto (tgt := 98) X dX12_played_94 (by decide) ?_
  exact w12_played_b98 X hret hrc hK16 hK134 v4 v5 v6 v7 (1 : Int32) m
def f12_played_b97 (K16 : Int32 → Int32 → Int32 → lu_M → Option (Int32 × lu_M)) (K134 : Int32 → Int32 → lu_M → Option (Int32 × lu_M)) (rc : Int32 → Int32 → Int32 → lu_M → Option (Int32 × lu_M)) (a1 : Int32) (a2 : Int32) (a3 : Int32) (v4 : Int32) (v5 : Int32) (v6 : Int32) (v7 : Int32) (m : lu_M) : Option (Int32 × lu_M) :=
  f12_played_b98 K16 K134 rc a1 a2 a3 v4 v5 v6 v7 (0 : Int32) m
set_option maxRecDepth 20000 in
theorem w12_played_b97 {rc : Int32 → Int32 → Int32 → lu_M → Option (Int32 × lu_M)} {frc loc : Nat}  {G : lu_G} {ρ : Nat → Nat} {a1 : Int32} {a2 : Int32} {a3 : Int32} {K16 : Int32 → Int32 → Int32 → lu_M → Option (Int32 × lu_M)} {K134 : Int32 → Int32 → lu_M → Option (Int32 × lu_M)} (X : lu_X G RX12 cX12_played 9 (frc + 7) (loc + 168)) (hret : (lu_me G).sig.returnType = (some .int)) (hrc : ∀ (b0 : Int32) (b1 : Int32) (b2 : Int32), lu_C lu_TM (lu_l G) yX12_played cX12_played 9 (some .int) frc loc (fun ρ _ => [.ref (ρ 0), .int b0, .int b1, .int b2]) (fun m => rc b0 b1 b2 m) lu_RVi lu_sn)  (hK16 : ∀ (v4 : Int32) (v5 : Int32) (v6 : Int32) (m : lu_M), lu_Ab lu_TM G (lu_Q lu_TM G ρ lu_RVi lu_sn) (K16 v4 v5 v6 m) 16 [(0, .ref (ρ 0)), (1, .int a1), (2, .int a2), (3, .int a3), (4, .int v4), (5, .int v5), (6, .int v6)] [] ρ 0 0 [] m) (hK134 : ∀ (v4 : Int32) (v5 : Int32) (m : lu_M), lu_Ab lu_TM G (lu_Q lu_TM G ρ lu_RVi lu_sn) (K134 v4 v5 m) 134 [(0, .ref (ρ 0)), (4, .int v4), (5, .int v5)] [] ρ 0 0 [] m) : ∀ (v4 : Int32) (v5 : Int32) (v6 : Int32) (v7 : Int32) (m : lu_M), lu_Ab lu_TM G (lu_Q lu_TM G ρ lu_RVi lu_sn) (f12_played_b97 K16 K134 rc a1 a2 a3 v4 v5 v6 v7 m) 97 [(0, .ref (ρ 0)), (1, .int a1), (2, .int a2), (3, .int a3), (4, .int v4), (5, .int v5), (6, .int v6), (7, .int v7)] [] ρ 0 0 [] m := by
  intro v4 v5 v6 v7 m
  unfold f12_played_b97
  refine lu_iconst X dX12_played_97 (pc2 := 98) rfl ic_0 ?_
  exact w12_played_b98 X hret hrc hK16 hK134 v4 v5 v6 v7 (0 : Int32) m
def f12_played_b56 (K16 : Int32 → Int32 → Int32 → lu_M → Option (Int32 × lu_M)) (K134 : Int32 → Int32 → lu_M → Option (Int32 × lu_M)) (rc : Int32 → Int32 → Int32 → lu_M → Option (Int32 × lu_M)) (a1 : Int32) (a2 : Int32) (a3 : Int32) (v4 : Int32) (v5 : Int32) (v6 : Int32) (s0 : Int32) (s1 : Int32) (s2 : Int32) (s4 : Int32) (m : lu_M) : Option (Int32 × lu_M) :=
  lu_bi (rc s2 s1 s0 m) fun x4 m5 =>
  lu_nm ((s4 + x4)) fun x6 =>
  lu_bv (f12_takesBack a1 m5) fun m7 =>
  if v5 < 0 then (f12_played_b93 K16 K134 rc a1 a2 a3 v4 v5 v6 x6 m7)
  else (if a3 = 0 then (if v4 ≤ x6 then (f12_played_b97 K16 K134 rc a1 a2 a3 v4 v5 v6 x6 m7)
  else (f12_played_b93 K16 K134 rc a1 a2 a3 v4 v5 v6 x6 m7))
  else (if x6 ≤ v4 then (f12_played_b97 K16 K134 rc a1 a2 a3 v4 v5 v6 x6 m7)
  else (f12_played_b93 K16 K134 rc a1 a2 a3 v4 v5 v6 x6 m7)))
set_option maxRecDepth 20000 in
theorem w12_played_b56 {rc : Int32 → Int32 → Int32 → lu_M → Option (Int32 × lu_M)} {frc loc : Nat}  {G : lu_G} {ρ : Nat → Nat} {a1 : Int32} {a2 : Int32} {a3 : Int32} {K16 : Int32 → Int32 → Int32 → lu_M → Option (Int32 × lu_M)} {K134 : Int32 → Int32 → lu_M → Option (Int32 × lu_M)} (X : lu_X G RX12 cX12_played 9 (frc + 7) (loc + 168)) (hret : (lu_me G).sig.returnType = (some .int)) (hrc : ∀ (b0 : Int32) (b1 : Int32) (b2 : Int32), lu_C lu_TM (lu_l G) yX12_played cX12_played 9 (some .int) frc loc (fun ρ _ => [.ref (ρ 0), .int b0, .int b1, .int b2]) (fun m => rc b0 b1 b2 m) lu_RVi lu_sn)  (hK16 : ∀ (v4 : Int32) (v5 : Int32) (v6 : Int32) (m : lu_M), lu_Ab lu_TM G (lu_Q lu_TM G ρ lu_RVi lu_sn) (K16 v4 v5 v6 m) 16 [(0, .ref (ρ 0)), (1, .int a1), (2, .int a2), (3, .int a3), (4, .int v4), (5, .int v5), (6, .int v6)] [] ρ 0 0 [] m) (hK134 : ∀ (v4 : Int32) (v5 : Int32) (m : lu_M), lu_Ab lu_TM G (lu_Q lu_TM G ρ lu_RVi lu_sn) (K134 v4 v5 m) 134 [(0, .ref (ρ 0)), (4, .int v4), (5, .int v5)] [] ρ 0 0 [] m) : ∀ (v4 : Int32) (v5 : Int32) (v6 : Int32) (s0 : Int32) (s1 : Int32) (s2 : Int32) (s4 : Int32) (m : lu_M), lu_Ab lu_TM G (lu_Q lu_TM G ρ lu_RVi lu_sn) (f12_played_b56 K16 K134 rc a1 a2 a3 v4 v5 v6 s0 s1 s2 s4 m) 56 [(0, .ref (ρ 0)), (1, .int a1), (2, .int a2), (3, .int a3), (4, .int v4), (5, .int v5), (6, .int v6)] [.int s0, .int s1, .int s2, .ref (ρ 0), .int s4] ρ 0 0 [] m := by
  intro v4 v5 v6 s0 s1 s2 s4 m
  unfold f12_played_b56
  refine lu_invVi X (hrc s2 s1 s0) rfl q1524 mvV_12_played kM_0 lM_0 (by decide) ⟨_, rfl, rfl⟩ rfl rfl (Nat.le_of_ble_eq_true rfl) (by omega) (by omega) ⟨Nat.zero_le _, Nat.zero_le _⟩ dX12_played_56 (pc2 := 59) rfl rfl (fun x4 m5 => ?_)
  refine lu_iadd X dX12_played_59 (pc2 := 60) rfl ?_
  refine lu_topi (fun x6 => ?_)
  refine lu_istore (lv2 := [(7, .int x6), (0, .ref (ρ 0)), (1, .int a1), (2, .int a2), (3, .int a3), (4, .int v4), (5, .int v5), (6, .int v6)]) X dX12_played_60 (pc2 := 62) rfl (by decide) rfl ?_
  refine lu_aload_n X dX12_played_62 (pc2 := 63) rfl rfl 1 rfl ?_
  refine lu_iload_n X dX12_played_63 (pc2 := 64) rfl rfl 2 rfl ?_
  refine lu_invVv X (c12_takesBack _ a1) rfl q1495 mvV_12_takesBack kM_0 lM_0 (by decide) ⟨_, rfl, rfl⟩ rfl rfl (Nat.le_of_ble_eq_true rfl) (by omega) (by omega) ⟨Nat.zero_le _, Nat.zero_le _⟩ dX12_played_64 (pc2 := 67) rfl rfl (fun m7 => ?_)
  refine lu_iload X dX12_played_67 (pc2 := 69) rfl 6 rfl ?_
  refine lu_if_lt (tgt := 93) X dX12_played_69 (pc2 := 72) rfl (by decide) (fun _ => ?_) (fun _ => ?_)
  · exact lu_sub [1, 2, 3, 4, 5, 6, 7, 0] rfl (w12_played_b93 X hret hrc hK16 hK134 v4 v5 v6 x6 m7)
  · refine lu_iload_n X dX12_played_72 (pc2 := 73) rfl rfl 4 rfl ?_
    refine lu_if_eq (tgt := 86) X dX12_played_73 (pc2 := 76) rfl (by decide) (fun _ => ?_) (fun _ => ?_)
    · refine lu_iload X dX12_played_86 (pc2 := 88) rfl 0 rfl ?_
      refine lu_iload X dX12_played_88 (pc2 := 90) rfl 5 rfl ?_
      refine lu_icmp_ge (tgt := 97) X dX12_played_90 (pc2 := 93) rfl (by decide) (fun _ => ?_) (fun _ => ?_)
      · exact lu_sub [1, 2, 3, 4, 5, 6, 7, 0] rfl (w12_played_b97 X hret hrc hK16 hK134 v4 v5 v6 x6 m7)
      · exact lu_sub [1, 2, 3, 4, 5, 6, 7, 0] rfl (w12_played_b93 X hret hrc hK16 hK134 v4 v5 v6 x6 m7)
    · refine lu_iload X dX12_played_76 (pc2 := 78) rfl 0 rfl ?_
      refine lu_iload X dX12_played_78 (pc2 := 80) rfl 5 rfl ?_
      refine lu_icmp_le (tgt := 97) X dX12_played_80 (pc2 := 83) rfl (by decide) (fun _ => ?_) (fun _ => ?_)
      · exact lu_sub [1, 2, 3, 4, 5, 6, 7, 0] rfl (w12_played_b97 X hret hrc hK16 hK134 v4 v5 v6 x6 m7)
      · refine lu_goto (tgt := 93) X dX12_played_83 (by decide) ?_
        exact lu_sub [1, 2, 3, 4, 5, 6, 7, 0] rfl (w12_played_b93 X hret hrc hK16 hK134 v4 v5 v6 x6 m7)
def f12_played_b16B (K134 : Int32 → Int32 → lu_M → Option (Int32 × lu_M)) (rc : Int32 → Int32 → Int32 → lu_M → Option (Int32 × lu_M)) (rec : Int32 → Int32 → Int32 → lu_M → Option (Int32 × lu_M)) (a1 : Int32) (a2 : Int32) (a3 : Int32) (v4 : Int32) (v5 : Int32) (v6 : Int32) (m : lu_M) : Option (Int32 × lu_M) :=
  if (m 1 0) < v6 then (K134 v4 v5 m)
  else (lu_bv (f12_saves a1 m) fun m1 =>
  lu_bi (f12_goes v6 m1) fun x2 m3 =>
  if a3 = 0 then (f12_played_b56 rec K134 rc a1 a2 a3 v4 v5 v6 (1 : Int32) a2 (a1 + (1 : Int32)) x2 m3)
  else (f12_played_b56 rec K134 rc a1 a2 a3 v4 v5 v6 (0 : Int32) a2 (a1 + (1 : Int32)) x2 m3))
def f12_played_b16 (K134 : Int32 → Int32 → lu_M → Option (Int32 × lu_M)) (rc : Int32 → Int32 → Int32 → lu_M → Option (Int32 × lu_M)) (a1 : Int32) (a2 : Int32) (a3 : Int32) : Nat → Int32 → Int32 → Int32 → lu_M → Option (Int32 × lu_M)
  | 0, _, _, _, _ => none
  | n + 1, v4, v5, v6, m => f12_played_b16B K134 rc (f12_played_b16 K134 rc a1 a2 a3 n) a1 a2 a3 v4 v5 v6 m
set_option maxRecDepth 20000 in
theorem w12_played_b16B {rc : Int32 → Int32 → Int32 → lu_M → Option (Int32 × lu_M)} {frc loc : Nat}  {G : lu_G} {ρ : Nat → Nat} {a1 : Int32} {a2 : Int32} {a3 : Int32} {K134 : Int32 → Int32 → lu_M → Option (Int32 × lu_M)} {rec : Int32 → Int32 → Int32 → lu_M → Option (Int32 × lu_M)} (X : lu_X G RX12 cX12_played 9 (frc + 7) (loc + 168)) (hret : (lu_me G).sig.returnType = (some .int)) (hrc : ∀ (b0 : Int32) (b1 : Int32) (b2 : Int32), lu_C lu_TM (lu_l G) yX12_played cX12_played 9 (some .int) frc loc (fun ρ _ => [.ref (ρ 0), .int b0, .int b1, .int b2]) (fun m => rc b0 b1 b2 m) lu_RVi lu_sn)  (hK134 : ∀ (v4 : Int32) (v5 : Int32) (m : lu_M), lu_Ab lu_TM G (lu_Q lu_TM G ρ lu_RVi lu_sn) (K134 v4 v5 m) 134 [(0, .ref (ρ 0)), (4, .int v4), (5, .int v5)] [] ρ 0 0 [] m) (hrec : ∀ (v4 : Int32) (v5 : Int32) (v6 : Int32) (m : lu_M), lu_Ab lu_TM G (lu_Q lu_TM G ρ lu_RVi lu_sn) (rec v4 v5 v6 m) 16 [(0, .ref (ρ 0)), (1, .int a1), (2, .int a2), (3, .int a3), (4, .int v4), (5, .int v5), (6, .int v6)] [] ρ 0 0 [] m) : ∀ (v4 : Int32) (v5 : Int32) (v6 : Int32) (m : lu_M), lu_Ab lu_TM G (lu_Q lu_TM G ρ lu_RVi lu_sn) (f12_played_b16B K134 rc rec a1 a2 a3 v4 v5 v6 m) 16 [(0, .ref (ρ 0)), (1, .int a1), (2, .int a2), (3, .int a3), (4, .int v4), (5, .int v5), (6, .int v6)] [] ρ 0 0 [] m := by
  intro v4 v5 v6 m
  unfold f12_played_b16B
  refine lu_iload X dX12_played_16 (pc2 := 18) rfl 6 rfl ?_
  refine lu_aload_n X dX12_played_18 (pc2 := 19) rfl rfl 0 rfl ?_
  refine lu_getr (r2 := 1) X rfl fl12_7 rfl kM_0 lM_0 dX12_played_19 (pc2 := 22) rfl ?_
  refine lu_iconst X dX12_played_22 (pc2 := 23) rfl ic_0 ?_
  refine lu_ialdK (q := 0) X (by decide) kM_1 lM_1 dX12_played_23 (pc2 := 24) rfl ?_
  refine lu_icmp_gt (tgt := 134) X dX12_played_24 (pc2 := 27) rfl (by decide) (fun _ => ?_) (fun _ => ?_)
  · exact lu_sub [0, 4, 5] rfl (hK134 v4 v5 m)
  · refine lu_aload_n X dX12_played_27 (pc2 := 28) rfl rfl 0 rfl ?_
    refine lu_iload_n X dX12_played_28 (pc2 := 29) rfl rfl 1 rfl ?_
    refine lu_invVv X (c12_saves _ a1) rfl q1491 mvV_12_saves kM_0 lM_0 (by decide) ⟨_, rfl, rfl⟩ rfl rfl (Nat.le_of_ble_eq_true rfl) (by omega) (by omega) ⟨Nat.zero_le _, Nat.zero_le _⟩ dX12_played_29 (pc2 := 32) rfl rfl (fun m1 => ?_)
    refine lu_aload_n X dX12_played_32 (pc2 := 33) rfl rfl 0 rfl ?_
    refine lu_iload X dX12_played_33 (pc2 := 35) rfl 6 rfl ?_
    refine lu_invVi X (c12_goes _ v6) rfl q1370 mvV_12_goes kM_0 lM_0 (by decide) ⟨_, rfl, rfl⟩ rfl rfl (Nat.le_of_ble_eq_true rfl) (by omega) (by omega) ⟨Nat.zero_le _, Nat.zero_le _⟩ dX12_played_35 (pc2 := 38) rfl rfl (fun x2 m3 => ?_)
    refine lu_istore (lv2 := [(7, .int x2), (0, .ref (ρ 0)), (1, .int a1), (2, .int a2), (3, .int a3), (4, .int v4), (5, .int v5), (6, .int v6)]) X dX12_played_38 (pc2 := 40) rfl (by decide) rfl ?_
    refine lu_iload X dX12_played_40 (pc2 := 42) rfl 0 rfl ?_
    refine lu_aload_n X dX12_played_42 (pc2 := 43) rfl rfl 1 rfl ?_
    refine lu_iload_n X dX12_played_43 (pc2 := 44) rfl rfl 2 rfl ?_
    refine lu_iconst X dX12_played_44 (pc2 := 45) rfl ic_1 ?_
    refine lu_iadd X dX12_played_45 (pc2 := 46) rfl ?_
    refine lu_iload_n X dX12_played_46 (pc2 := 47) rfl rfl 3 rfl ?_
    refine lu_iload_n X dX12_played_47 (pc2 := 48) rfl rfl 4 rfl ?_
    refine lu_if_ne (tgt := 55) X dX12_played_48 (pc2 := 51) rfl (by decide) (fun _ => ?_) (fun _ => ?_)
    · refine lu_iconst X dX12_played_55 (pc2 := 56) rfl ic_0 ?_
      exact lu_sub [1, 2, 3, 4, 5, 6, 7] rfl (w12_played_b56 X hret hrc hrec hK134 v4 v5 v6 (0 : Int32) a2 (a1 + (1 : Int32)) x2 m3)
    · refine lu_iconst X dX12_played_51 (pc2 := 52) rfl ic_1 ?_
      refine lu_goto (tgt := 56) X dX12_played_52 (by decide) ?_
      exact lu_sub [1, 2, 3, 4, 5, 6, 7] rfl (w12_played_b56 X hret hrc hrec hK134 v4 v5 v6 (1 : Int32) a2 (a1 + (1 : Int32)) x2 m3)
theorem w12_played_b16 {rc : Int32 → Int32 → Int32 → lu_M → Option (Int32 × lu_M)} {frc loc : Nat}  {G : lu_G} {ρ : Nat → Nat} {a1 : Int32} {a2 : Int32} {a3 : Int32} {K134 : Int32 → Int32 → lu_M → Option (Int32 × lu_M)} (X : lu_X G RX12 cX12_played 9 (frc + 7) (loc + 168)) (hret : (lu_me G).sig.returnType = (some .int)) (hrc : ∀ (b0 : Int32) (b1 : Int32) (b2 : Int32), lu_C lu_TM (lu_l G) yX12_played cX12_played 9 (some .int) frc loc (fun ρ _ => [.ref (ρ 0), .int b0, .int b1, .int b2]) (fun m => rc b0 b1 b2 m) lu_RVi lu_sn)  (hK134 : ∀ (v4 : Int32) (v5 : Int32) (m : lu_M), lu_Ab lu_TM G (lu_Q lu_TM G ρ lu_RVi lu_sn) (K134 v4 v5 m) 134 [(0, .ref (ρ 0)), (4, .int v4), (5, .int v5)] [] ρ 0 0 [] m) : ∀ (n : Nat) (v4 : Int32) (v5 : Int32) (v6 : Int32) (m : lu_M), lu_Ab lu_TM G (lu_Q lu_TM G ρ lu_RVi lu_sn) (f12_played_b16 K134 rc a1 a2 a3 n v4 v5 v6 m) 16 [(0, .ref (ρ 0)), (1, .int a1), (2, .int a2), (3, .int a3), (4, .int v4), (5, .int v5), (6, .int v6)] [] ρ 0 0 [] m := by
  intro n
  induction n with
  | zero => intro v4 v5 v6 m; exact lu_none
  | succ n ih => intro v4 v5 v6 m; exact w12_played_b16B X hret hrc hK134 ih v4 v5 v6 m
def f12_played_b134  (rc : Int32 → Int32 → Int32 → lu_M → Option (Int32 × lu_M)) (a1 : Int32) (a2 : Int32) (a3 : Int32) (v4 : Int32) (v5 : Int32) (m : lu_M) : Option (Int32 × lu_M) :=
  lu_nm (lu_st m 0 15 v5) fun m8 =>
  some (v4, m8)
set_option maxRecDepth 20000 in
theorem w12_played_b134 {rc : Int32 → Int32 → Int32 → lu_M → Option (Int32 × lu_M)} {frc loc : Nat}  {G : lu_G} {ρ : Nat → Nat} {a1 : Int32} {a2 : Int32} {a3 : Int32}  (X : lu_X G RX12 cX12_played 9 (frc + 7) (loc + 168)) (hret : (lu_me G).sig.returnType = (some .int)) (hrc : ∀ (b0 : Int32) (b1 : Int32) (b2 : Int32), lu_C lu_TM (lu_l G) yX12_played cX12_played 9 (some .int) frc loc (fun ρ _ => [.ref (ρ 0), .int b0, .int b1, .int b2]) (fun m => rc b0 b1 b2 m) lu_RVi lu_sn)   : ∀ (v4 : Int32) (v5 : Int32) (m : lu_M), lu_Ab lu_TM G (lu_Q lu_TM G ρ lu_RVi lu_sn) (f12_played_b134 rc a1 a2 a3 v4 v5 m) 134 [(0, .ref (ρ 0)), (4, .int v4), (5, .int v5)] [] ρ 0 0 [] m := by
  intro v4 v5 m
  unfold f12_played_b134
  refine lu_aload_n X dX12_played_134 (pc2 := 135) rfl rfl 0 rfl ?_
  refine lu_iload X dX12_played_135 (pc2 := 137) rfl 2 rfl ?_
  refine lu_put X fl12_229 rfl (Or.inl (by decide)) rfl (by decide +kernel) kM_0 lM_0 dX12_played_137 (pc2 := 140) rfl (fun m8 => ?_)
  refine lu_iload X dX12_played_140 (pc2 := 142) rfl 1 rfl ?_
  exact lu_iret X hret dX12_played_142
def f12_playedO (rc : Int32 → Int32 → Int32 → lu_M → Option (Int32 × lu_M)) (a1 : Int32) (a2 : Int32) (a3 : Int32) (m : lu_M) : Option (Int32 × lu_M) :=
  if a1 = a2 then (some ((0 : Int32), m))
  else (f12_played_b16 (f12_played_b134 rc a1 a2 a3) rc a1 a2 a3 lu_fu (0 : Int32) (-1 : Int32) (0 : Int32) m)
set_option maxRecDepth 20000 in
theorem c12_playedO {rc : Int32 → Int32 → Int32 → lu_M → Option (Int32 × lu_M)} {frc loc : Nat} (l : Launch) (hrc : ∀ (b0 : Int32) (b1 : Int32) (b2 : Int32), lu_C lu_TM (l) yX12_played cX12_played 9 (some .int) frc loc (fun ρ _ => [.ref (ρ 0), .int b0, .int b1, .int b2]) (fun m => rc b0 b1 b2 m) lu_RVi lu_sn)   (a1 : Int32) (a2 : Int32) (a3 : Int32) : lu_C lu_TM l yX12_played cX12_played 9 (some .int) (frc + 7) (loc + 168) (fun ρ sa => [.ref (ρ 0), .int a1, .int a2, .int a3]) (f12_playedO rc a1 a2 a3) lu_RVi lu_sn := by
  refine lu_met (cls := RX12) rfl (by decide +kernel) (fun _ _ => Nat.le_of_ble_eq_true rfl) ?_
  intro G ρ m hl X hret
  subst hl
  change lu_Ab lu_TM G (lu_Q lu_TM G ρ lu_RVi lu_sn) (f12_playedO rc a1 a2 a3 m) 0 [(0, .ref (ρ 0)), (1, .int a1), (2, .int a2), (3, .int a3)] [] ρ 0 0 [] m
  unfold f12_playedO
  refine lu_iload_n X dX12_played_0 (pc2 := 1) rfl rfl 1 rfl ?_
  refine lu_iload_n X dX12_played_1 (pc2 := 2) rfl rfl 2 rfl ?_
  refine lu_icmp_ne (tgt := 7) X dX12_played_2 (pc2 := 5) rfl (by decide) (fun _ => ?_) (fun _ => ?_)
  · refine lu_iconst X dX12_played_7 (pc2 := 8) rfl ic_0 ?_
    refine lu_istore (lv2 := [(4, .int (0 : Int32)), (0, .ref (ρ 0)), (1, .int a1), (2, .int a2), (3, .int a3)]) X dX12_played_8 (pc2 := 10) rfl (by decide) rfl ?_
    refine lu_iconst X dX12_played_10 (pc2 := 11) rfl ic_m1 ?_
    refine lu_istore (lv2 := [(5, .int (-1 : Int32)), (4, .int (0 : Int32)), (0, .ref (ρ 0)), (1, .int a1), (2, .int a2), (3, .int a3)]) X dX12_played_11 (pc2 := 13) rfl (by decide) rfl ?_
    refine lu_iconst X dX12_played_13 (pc2 := 14) rfl ic_0 ?_
    refine lu_istore (lv2 := [(6, .int (0 : Int32)), (5, .int (-1 : Int32)), (4, .int (0 : Int32)), (0, .ref (ρ 0)), (1, .int a1), (2, .int a2), (3, .int a3)]) X dX12_played_14 (pc2 := 16) rfl (by decide) rfl ?_
    exact lu_sub [3, 4, 5, 6, 2, 1, 0] rfl (w12_played_b16 X hret hrc (w12_played_b134 X hret hrc) lu_fu (0 : Int32) (-1 : Int32) (0 : Int32) m)
  · refine lu_iconst X dX12_played_5 (pc2 := 6) rfl ic_0 ?_
    exact lu_iret X hret dX12_played_6
def f12_played : Nat → Int32 → Int32 → Int32 → lu_M → Option (Int32 × lu_M)
  | 0, _, _, _, _ => none
  | d + 1, b0, b1, b2, m => f12_playedO (f12_played d) b0 b1 b2 m
theorem c12_played (l : Launch) : ∀ (d : Nat) (b0 : Int32) (b1 : Int32) (b2 : Int32), lu_C lu_TM l yX12_played cX12_played 9 (some .int) (7 * d) (168 * d) (fun ρ _ => [.ref (ρ 0), .int b0, .int b1, .int b2]) (fun m => f12_played d b0 b1 b2 m) lu_RVi lu_sn := by
  intro d
  induction d with
  | zero => intro b0 b1 b2 D cs ρ m sa sz b h; cases h
  | succ d ih => intro b0 b1 b2; exact c12_playedO (frc := 7 * d) (loc := 168 * d) l ih b0 b1 b2

theorem dX12_game_0 : decode cX12_game 0 = .ok (.iload_n 1, 1) := by decide +kernel
theorem dX12_game_1 : decode cX12_game 1 = .ok (.i2l, 1) := by decide +kernel
theorem dX12_game_2 : decode cX12_game 2 = .ok (.lconst 1, 1) := by decide +kernel
theorem dX12_game_3 : decode cX12_game 3 = .ok (.ldc2_w 149, 3) := by decide +kernel
theorem dX12_game_6 : decode cX12_game 6 = .ok (.invokestatic 64, 3) := by decide +kernel
theorem dX12_game_9 : decode cX12_game 9 = .ok (.ifCond .eq 17, 3) := by decide +kernel
theorem dX12_game_12 : decode cX12_game 12 = .ok (.aload_n 0, 1) := by decide +kernel
theorem dX12_game_13 : decode cX12_game 13 = .ok (.iconst 0, 1) := by decide +kernel
theorem dX12_game_14 : decode cX12_game 14 = .ok (.aload_n 0, 1) := by decide +kernel
theorem dX12_game_15 : decode cX12_game 15 = .ok (.iload_n 1, 1) := by decide +kernel
theorem dX12_game_16 : decode cX12_game 16 = .ok (.invokevirtual 211, 3) := by decide +kernel
theorem dX12_game_19 : decode cX12_game 19 = .ok (.iconst 1, 1) := by decide +kernel
theorem dX12_game_20 : decode cX12_game 20 = .ok (.invokevirtual 225, 3) := by decide +kernel
theorem dX12_game_23 : decode cX12_game 23 = .ok (.goto 4, 3) := by decide +kernel
theorem dX12_game_26 : decode cX12_game 26 = .ok (.iconst (-1), 1) := by decide +kernel
theorem dX12_game_27 : decode cX12_game 27 = .ok (.ireturn, 1) := by decide +kernel
def f12_game_b27  (a1 : Int32) (s0 : Int32) (m : lu_M) : Option (Int32 × lu_M) :=
  some (s0, m)
set_option maxRecDepth 20000 in
theorem w12_game_b27  {G : lu_G} {ρ : Nat → Nat} {a1 : Int32}  (X : lu_X G RX12 cX12_game 2 43 1036) (hret : (lu_me G).sig.returnType = (some .int))   : ∀ (s0 : Int32) (m : lu_M), lu_Ab lu_TM G (lu_Q lu_TM G ρ lu_RVi lu_sn) (f12_game_b27 a1 s0 m) 27 [] [.int s0] ρ 0 0 [] m := by
  intro s0 m
  unfold f12_game_b27
  exact lu_iret X hret dX12_game_27
def f12_game (a1 : Int32) (m : lu_M) : Option (Int32 × lu_M) :=
  lu_bi (f12_in a1.toInt64 (1 : Int64) (4 : Int64) m) fun x1 m2 =>
  if x1 = 0 then (f12_game_b27 a1 (-1 : Int32) m2)
  else (lu_bi (f12_yearsOf a1 m2) fun x3 m4 =>
  lu_bi (f12_played 6 (0 : Int32) x3 (1 : Int32) m4) fun x5 m6 =>
  f12_game_b27 a1 x5 m6)
set_option maxRecDepth 20000 in
theorem c12_game (l : Launch)   (a1 : Int32) : lu_C lu_TM l yX12_game cX12_game 2 (some .int) 43 1036 (fun ρ sa => [.ref (ρ 0), .int a1]) (f12_game a1) lu_RVi lu_sn := by
  refine lu_met (cls := RX12) rfl (by decide +kernel) (fun _ _ => Nat.le_of_ble_eq_true rfl) ?_
  intro G ρ m hl X hret
  subst hl
  change lu_Ab lu_TM G (lu_Q lu_TM G ρ lu_RVi lu_sn) (f12_game a1 m) 0 [(0, .ref (ρ 0)), (1, .int a1)] [] ρ 0 0 [] m
  unfold f12_game
  refine lu_iload_n X dX12_game_0 (pc2 := 1) rfl rfl 1 rfl ?_
  refine lu_i2l X dX12_game_1 (pc2 := 2) rfl ?_
  refine lu_lconst (v := (1 : Int64)) X dX12_game_2 (pc2 := 3) rfl (by decide) ?_
  refine lu_ldc2 X q1382 dX12_game_3 (pc2 := 6) rfl ?_
  refine lu_invSi X (c12_in _ a1.toInt64 (1 : Int64) (4 : Int64)) rfl q1261 mvS_12_in rfl rfl (Nat.le_of_ble_eq_true rfl) (Nat.le_of_ble_eq_true rfl) (Nat.le_of_ble_eq_true rfl) ⟨Nat.zero_le _, Nat.zero_le _⟩ dX12_game_6 (pc2 := 9) rfl rfl (fun x1 m2 => ?_)
  refine lu_if_eq (tgt := 26) X dX12_game_9 (pc2 := 12) rfl (by decide) (fun _ => ?_) (fun _ => ?_)
  · refine lu_iconst X dX12_game_26 (pc2 := 27) rfl ic_m1 ?_
    exact lu_sub [] rfl (w12_game_b27 X hret (-1 : Int32) m2)
  · refine lu_aload_n X dX12_game_12 (pc2 := 13) rfl rfl 0 rfl ?_
    refine lu_iconst X dX12_game_13 (pc2 := 14) rfl ic_0 ?_
    refine lu_aload_n X dX12_game_14 (pc2 := 15) rfl rfl 0 rfl ?_
    refine lu_iload_n X dX12_game_15 (pc2 := 16) rfl rfl 1 rfl ?_
    refine lu_invVi X (c12_yearsOf _ a1) rfl q1479 mvV_12_yearsOf kM_0 lM_0 (by decide) ⟨_, rfl, rfl⟩ rfl rfl (Nat.le_of_ble_eq_true rfl) (Nat.le_of_ble_eq_true rfl) (Nat.le_of_ble_eq_true rfl) ⟨Nat.zero_le _, Nat.zero_le _⟩ dX12_game_16 (pc2 := 19) rfl rfl (fun x3 m4 => ?_)
    refine lu_iconst X dX12_game_19 (pc2 := 20) rfl ic_1 ?_
    refine lu_invVi X (c12_played _ 6 (0 : Int32) x3 (1 : Int32)) rfl q1524 mvV_12_played kM_0 lM_0 (by decide) ⟨_, rfl, rfl⟩ rfl rfl (Nat.le_of_ble_eq_true rfl) (Nat.le_of_ble_eq_true rfl) (Nat.le_of_ble_eq_true rfl) ⟨Nat.zero_le _, Nat.zero_le _⟩ dX12_game_20 (pc2 := 23) rfl rfl (fun x5 m6 => ?_)
    refine lu_goto (tgt := 27) X dX12_game_23 (by decide) ?_
    exact lu_sub [] rfl (w12_game_b27 X hret x5 m6)

theorem dX12_play_0 : decode cX12_play 0 = .ok (.iload_n 1, 1) := by decide +kernel
theorem dX12_play_1 : decode cX12_play 1 = .ok (.i2l, 1) := by decide +kernel
theorem dX12_play_2 : decode cX12_play 2 = .ok (.lconst 1, 1) := by decide +kernel
theorem dX12_play_3 : decode cX12_play 3 = .ok (.ldc2_w 149, 3) := by decide +kernel
theorem dX12_play_6 : decode cX12_play 6 = .ok (.invokestatic 64, 3) := by decide +kernel
theorem dX12_play_9 : decode cX12_play 9 = .ok (.ifCond .ne 5, 3) := by decide +kernel
theorem dX12_play_12 : decode cX12_play 12 = .ok (.iconst (-1), 1) := by decide +kernel
theorem dX12_play_13 : decode cX12_play 13 = .ok (.ireturn, 1) := by decide +kernel
theorem dX12_play_14 : decode cX12_play 14 = .ok (.aload_n 0, 1) := by decide +kernel
theorem dX12_play_15 : decode cX12_play 15 = .ok (.invokevirtual 124, 3) := by decide +kernel
theorem dX12_play_18 : decode cX12_play 18 = .ok (.ifCond .eq 6, 3) := by decide +kernel
theorem dX12_play_21 : decode cX12_play 21 = .ok (.bipush (-3), 2) := by decide +kernel
theorem dX12_play_23 : decode cX12_play 23 = .ok (.ireturn, 1) := by decide +kernel
theorem dX12_play_24 : decode cX12_play 24 = .ok (.aload_n 0, 1) := by decide +kernel
theorem dX12_play_25 : decode cX12_play 25 = .ok (.iconst 0, 1) := by decide +kernel
theorem dX12_play_26 : decode cX12_play 26 = .ok (.aload_n 0, 1) := by decide +kernel
theorem dX12_play_27 : decode cX12_play 27 = .ok (.iload_n 1, 1) := by decide +kernel
theorem dX12_play_28 : decode cX12_play 28 = .ok (.invokevirtual 211, 3) := by decide +kernel
theorem dX12_play_31 : decode cX12_play 31 = .ok (.iconst 1, 1) := by decide +kernel
theorem dX12_play_32 : decode cX12_play 32 = .ok (.invokevirtual 225, 3) := by decide +kernel
theorem dX12_play_35 : decode cX12_play 35 = .ok (.istore_n 2, 1) := by decide +kernel
theorem dX12_play_36 : decode cX12_play 36 = .ok (.aload_n 0, 1) := by decide +kernel
theorem dX12_play_37 : decode cX12_play 37 = .ok (.getfield 229, 3) := by decide +kernel
theorem dX12_play_40 : decode cX12_play 40 = .ok (.ireturn, 1) := by decide +kernel
def f12_play (a1 : Int32) (m : lu_M) : Option (Int32 × lu_M) :=
  lu_bi (f12_in a1.toInt64 (1 : Int64) (4 : Int64) m) fun x1 m2 =>
  if x1 = 0 then (some ((-1 : Int32), m2))
  else (lu_bi (f12_isOver m2) fun x3 m4 =>
  if x3 = 0 then (lu_bi (f12_yearsOf a1 m4) fun x5 m6 =>
  lu_bi (f12_played 6 (0 : Int32) x5 (1 : Int32) m6) fun x7 m8 =>
  some ((m8 0 15), m8))
  else (some ((-3 : Int32), m4)))
set_option maxRecDepth 20000 in
theorem c12_play (l : Launch)   (a1 : Int32) : lu_C lu_TM l yX12_play cX12_play 3 (some .int) 43 1036 (fun ρ sa => [.ref (ρ 0), .int a1]) (f12_play a1) lu_RVi lu_sn := by
  refine lu_met (cls := RX12) rfl (by decide +kernel) (fun _ _ => Nat.le_of_ble_eq_true rfl) ?_
  intro G ρ m hl X hret
  subst hl
  change lu_Ab lu_TM G (lu_Q lu_TM G ρ lu_RVi lu_sn) (f12_play a1 m) 0 [(0, .ref (ρ 0)), (1, .int a1)] [] ρ 0 0 [] m
  unfold f12_play
  refine lu_iload_n X dX12_play_0 (pc2 := 1) rfl rfl 1 rfl ?_
  refine lu_i2l X dX12_play_1 (pc2 := 2) rfl ?_
  refine lu_lconst (v := (1 : Int64)) X dX12_play_2 (pc2 := 3) rfl (by decide) ?_
  refine lu_ldc2 X q1382 dX12_play_3 (pc2 := 6) rfl ?_
  refine lu_invSi X (c12_in _ a1.toInt64 (1 : Int64) (4 : Int64)) rfl q1261 mvS_12_in rfl rfl (Nat.le_of_ble_eq_true rfl) (Nat.le_of_ble_eq_true rfl) (Nat.le_of_ble_eq_true rfl) ⟨Nat.zero_le _, Nat.zero_le _⟩ dX12_play_6 (pc2 := 9) rfl rfl (fun x1 m2 => ?_)
  refine lu_if_ne (tgt := 14) X dX12_play_9 (pc2 := 12) rfl (by decide) (fun _ => ?_) (fun _ => ?_)
  · refine lu_aload_n X dX12_play_14 (pc2 := 15) rfl rfl 0 rfl ?_
    refine lu_invVi X (c12_isOver _) rfl q1362 mvV_12_isOver kM_0 lM_0 (by decide) ⟨_, rfl, rfl⟩ rfl rfl (Nat.le_of_ble_eq_true rfl) (Nat.le_of_ble_eq_true rfl) (Nat.le_of_ble_eq_true rfl) ⟨Nat.zero_le _, Nat.zero_le _⟩ dX12_play_15 (pc2 := 18) rfl rfl (fun x3 m4 => ?_)
    refine lu_if_eq (tgt := 24) X dX12_play_18 (pc2 := 21) rfl (by decide) (fun _ => ?_) (fun _ => ?_)
    · refine lu_aload_n X dX12_play_24 (pc2 := 25) rfl rfl 0 rfl ?_
      refine lu_iconst X dX12_play_25 (pc2 := 26) rfl ic_0 ?_
      refine lu_aload_n X dX12_play_26 (pc2 := 27) rfl rfl 0 rfl ?_
      refine lu_iload_n X dX12_play_27 (pc2 := 28) rfl rfl 1 rfl ?_
      refine lu_invVi X (c12_yearsOf _ a1) rfl q1479 mvV_12_yearsOf kM_0 lM_0 (by decide) ⟨_, rfl, rfl⟩ rfl rfl (Nat.le_of_ble_eq_true rfl) (Nat.le_of_ble_eq_true rfl) (Nat.le_of_ble_eq_true rfl) ⟨Nat.zero_le _, Nat.zero_le _⟩ dX12_play_28 (pc2 := 31) rfl rfl (fun x5 m6 => ?_)
      refine lu_iconst X dX12_play_31 (pc2 := 32) rfl ic_1 ?_
      refine lu_invVi X (c12_played _ 6 (0 : Int32) x5 (1 : Int32)) rfl q1524 mvV_12_played kM_0 lM_0 (by decide) ⟨_, rfl, rfl⟩ rfl rfl (Nat.le_of_ble_eq_true rfl) (Nat.le_of_ble_eq_true rfl) (Nat.le_of_ble_eq_true rfl) ⟨Nat.zero_le _, Nat.zero_le _⟩ dX12_play_32 (pc2 := 35) rfl rfl (fun x7 m8 => ?_)
      refine lu_istore_n (lv2 := [(2, .int x7), (0, .ref (ρ 0)), (1, .int a1)]) X dX12_play_35 (pc2 := 36) rfl rfl (by decide) rfl ?_
      refine lu_aload_n X dX12_play_36 (pc2 := 37) rfl rfl 1 rfl ?_
      refine lu_get X fl12_229 rfl kM_0 lM_0 dX12_play_37 (pc2 := 40) rfl ?_
      exact lu_iret X hret dX12_play_40
    · refine lu_bipush X dX12_play_21 (pc2 := 23) rfl bp_m3 ?_
      exact lu_iret X hret dX12_play_23
  · refine lu_iconst X dX12_play_12 (pc2 := 13) rfl ic_m1 ?_
    exact lu_iret X hret dX12_play_13

theorem dX12_report_0 : decode cX12_report 0 = .ok (.iload_n 1, 1) := by decide +kernel
theorem dX12_report_1 : decode cX12_report 1 = .ok (.i2l, 1) := by decide +kernel
theorem dX12_report_2 : decode cX12_report 2 = .ok (.lconst 1, 1) := by decide +kernel
theorem dX12_report_3 : decode cX12_report 3 = .ok (.ldc2_w 81, 3) := by decide +kernel
theorem dX12_report_6 : decode cX12_report 6 = .ok (.invokestatic 64, 3) := by decide +kernel
theorem dX12_report_9 : decode cX12_report 9 = .ok (.ifCond .eq 38, 3) := by decide +kernel
theorem dX12_report_12 : decode cX12_report 12 = .ok (.iload_n 2, 1) := by decide +kernel
theorem dX12_report_13 : decode cX12_report 13 = .ok (.i2l, 1) := by decide +kernel
theorem dX12_report_14 : decode cX12_report 14 = .ok (.lconst 0, 1) := by decide +kernel
theorem dX12_report_15 : decode cX12_report 15 = .ok (.ldc2_w 114, 3) := by decide +kernel
theorem dX12_report_18 : decode cX12_report 18 = .ok (.invokestatic 64, 3) := by decide +kernel
theorem dX12_report_21 : decode cX12_report 21 = .ok (.ifCond .eq 26, 3) := by decide +kernel
theorem dX12_report_24 : decode cX12_report 24 = .ok (.iload_n 3, 1) := by decide +kernel
theorem dX12_report_25 : decode cX12_report 25 = .ok (.i2l, 1) := by decide +kernel
theorem dX12_report_26 : decode cX12_report 26 = .ok (.lconst 0, 1) := by decide +kernel
theorem dX12_report_27 : decode cX12_report 27 = .ok (.ldc2_w 232, 3) := by decide +kernel
theorem dX12_report_30 : decode cX12_report 30 = .ok (.invokestatic 64, 3) := by decide +kernel
theorem dX12_report_33 : decode cX12_report 33 = .ok (.ifCond .eq 14, 3) := by decide +kernel
theorem dX12_report_36 : decode cX12_report 36 = .ok (.iload 4, 2) := by decide +kernel
theorem dX12_report_38 : decode cX12_report 38 = .ok (.i2l, 1) := by decide +kernel
theorem dX12_report_39 : decode cX12_report 39 = .ok (.lconst 0, 1) := by decide +kernel
theorem dX12_report_40 : decode cX12_report 40 = .ok (.lconst 1, 1) := by decide +kernel
theorem dX12_report_41 : decode cX12_report 41 = .ok (.invokestatic 64, 3) := by decide +kernel
theorem dX12_report_44 : decode cX12_report 44 = .ok (.ifCond .ne 5, 3) := by decide +kernel
theorem dX12_report_47 : decode cX12_report 47 = .ok (.iconst (-1), 1) := by decide +kernel
theorem dX12_report_48 : decode cX12_report 48 = .ok (.ireturn, 1) := by decide +kernel
theorem dX12_report_49 : decode cX12_report 49 = .ok (.aload_n 0, 1) := by decide +kernel
theorem dX12_report_50 : decode cX12_report 50 = .ok (.getfield 7, 3) := by decide +kernel
theorem dX12_report_53 : decode cX12_report 53 = .ok (.bipush 6, 2) := by decide +kernel
theorem dX12_report_55 : decode cX12_report 55 = .ok (.iaload, 1) := by decide +kernel
theorem dX12_report_56 : decode cX12_report 56 = .ok (.bipush 6, 2) := by decide +kernel
theorem dX12_report_58 : decode cX12_report 58 = .ok (.if_icmp .ne 6, 3) := by decide +kernel
theorem dX12_report_61 : decode cX12_report 61 = .ok (.bipush (-2), 2) := by decide +kernel
theorem dX12_report_63 : decode cX12_report 63 = .ok (.ireturn, 1) := by decide +kernel
theorem dX12_report_64 : decode cX12_report 64 = .ok (.bipush 112, 2) := by decide +kernel
theorem dX12_report_66 : decode cX12_report 66 = .ok (.iconst 4, 1) := by decide +kernel
theorem dX12_report_67 : decode cX12_report 67 = .ok (.aload_n 0, 1) := by decide +kernel
theorem dX12_report_68 : decode cX12_report 68 = .ok (.getfield 7, 3) := by decide +kernel
theorem dX12_report_71 : decode cX12_report 71 = .ok (.bipush 6, 2) := by decide +kernel
theorem dX12_report_73 : decode cX12_report 73 = .ok (.iaload, 1) := by decide +kernel
theorem dX12_report_74 : decode cX12_report 74 = .ok (.imul, 1) := by decide +kernel
theorem dX12_report_75 : decode cX12_report 75 = .ok (.iadd, 1) := by decide +kernel
theorem dX12_report_76 : decode cX12_report 76 = .ok (.istore 5, 2) := by decide +kernel
theorem dX12_report_78 : decode cX12_report 78 = .ok (.aload_n 0, 1) := by decide +kernel
theorem dX12_report_79 : decode cX12_report 79 = .ok (.getfield 7, 3) := by decide +kernel
theorem dX12_report_82 : decode cX12_report 82 = .ok (.iload 5, 2) := by decide +kernel
theorem dX12_report_84 : decode cX12_report 84 = .ok (.iload_n 1, 1) := by decide +kernel
theorem dX12_report_85 : decode cX12_report 85 = .ok (.iastore, 1) := by decide +kernel
theorem dX12_report_86 : decode cX12_report 86 = .ok (.aload_n 0, 1) := by decide +kernel
theorem dX12_report_87 : decode cX12_report 87 = .ok (.getfield 7, 3) := by decide +kernel
theorem dX12_report_90 : decode cX12_report 90 = .ok (.iload 5, 2) := by decide +kernel
theorem dX12_report_92 : decode cX12_report 92 = .ok (.iconst 1, 1) := by decide +kernel
theorem dX12_report_93 : decode cX12_report 93 = .ok (.iadd, 1) := by decide +kernel
theorem dX12_report_94 : decode cX12_report 94 = .ok (.iload_n 2, 1) := by decide +kernel
theorem dX12_report_95 : decode cX12_report 95 = .ok (.iastore, 1) := by decide +kernel
theorem dX12_report_96 : decode cX12_report 96 = .ok (.aload_n 0, 1) := by decide +kernel
theorem dX12_report_97 : decode cX12_report 97 = .ok (.getfield 7, 3) := by decide +kernel
theorem dX12_report_100 : decode cX12_report 100 = .ok (.iload 5, 2) := by decide +kernel
theorem dX12_report_102 : decode cX12_report 102 = .ok (.iconst 2, 1) := by decide +kernel
theorem dX12_report_103 : decode cX12_report 103 = .ok (.iadd, 1) := by decide +kernel
theorem dX12_report_104 : decode cX12_report 104 = .ok (.iload_n 3, 1) := by decide +kernel
theorem dX12_report_105 : decode cX12_report 105 = .ok (.iastore, 1) := by decide +kernel
theorem dX12_report_106 : decode cX12_report 106 = .ok (.aload_n 0, 1) := by decide +kernel
theorem dX12_report_107 : decode cX12_report 107 = .ok (.getfield 7, 3) := by decide +kernel
theorem dX12_report_110 : decode cX12_report 110 = .ok (.iload 5, 2) := by decide +kernel
theorem dX12_report_112 : decode cX12_report 112 = .ok (.iconst 3, 1) := by decide +kernel
theorem dX12_report_113 : decode cX12_report 113 = .ok (.iadd, 1) := by decide +kernel
theorem dX12_report_114 : decode cX12_report 114 = .ok (.iload 4, 2) := by decide +kernel
theorem dX12_report_116 : decode cX12_report 116 = .ok (.iastore, 1) := by decide +kernel
theorem dX12_report_117 : decode cX12_report 117 = .ok (.aload_n 0, 1) := by decide +kernel
theorem dX12_report_118 : decode cX12_report 118 = .ok (.getfield 7, 3) := by decide +kernel
theorem dX12_report_121 : decode cX12_report 121 = .ok (.bipush 6, 2) := by decide +kernel
theorem dX12_report_123 : decode cX12_report 123 = .ok (.dup2, 1) := by decide +kernel
theorem dX12_report_124 : decode cX12_report 124 = .ok (.iaload, 1) := by decide +kernel
theorem dX12_report_125 : decode cX12_report 125 = .ok (.iconst 1, 1) := by decide +kernel
theorem dX12_report_126 : decode cX12_report 126 = .ok (.iadd, 1) := by decide +kernel
theorem dX12_report_127 : decode cX12_report 127 = .ok (.iastore, 1) := by decide +kernel
theorem dX12_report_128 : decode cX12_report 128 = .ok (.aload_n 0, 1) := by decide +kernel
theorem dX12_report_129 : decode cX12_report 129 = .ok (.getfield 7, 3) := by decide +kernel
theorem dX12_report_132 : decode cX12_report 132 = .ok (.bipush 6, 2) := by decide +kernel
theorem dX12_report_134 : decode cX12_report 134 = .ok (.iaload, 1) := by decide +kernel
theorem dX12_report_135 : decode cX12_report 135 = .ok (.iconst 1, 1) := by decide +kernel
theorem dX12_report_136 : decode cX12_report 136 = .ok (.isub, 1) := by decide +kernel
theorem dX12_report_137 : decode cX12_report 137 = .ok (.ireturn, 1) := by decide +kernel
def f12_report_b47  (a1 : Int32) (a2 : Int32) (a3 : Int32) (a4 : Int32)  (m : lu_M) : Option (Int32 × lu_M) :=
  some ((-1 : Int32), m)
set_option maxRecDepth 20000 in
theorem w12_report_b47  {G : lu_G} {ρ : Nat → Nat} {a1 : Int32} {a2 : Int32} {a3 : Int32} {a4 : Int32}  (X : lu_X G RX12 cX12_report 6 1 25) (hret : (lu_me G).sig.returnType = (some .int))   : ∀  (m : lu_M), lu_Ab lu_TM G (lu_Q lu_TM G ρ lu_RVi lu_sn) (f12_report_b47 a1 a2 a3 a4 m) 47 [] [] ρ 0 0 [] m := by
  intro  m
  unfold f12_report_b47
  refine lu_iconst X dX12_report_47 (pc2 := 48) rfl ic_m1 ?_
  exact lu_iret X hret dX12_report_48
def f12_report (a1 : Int32) (a2 : Int32) (a3 : Int32) (a4 : Int32) (m : lu_M) : Option (Int32 × lu_M) :=
  lu_bi (f12_in a1.toInt64 (1 : Int64) (9 : Int64) m) fun x1 m2 =>
  if x1 = 0 then (f12_report_b47 a1 a2 a3 a4 m2)
  else (lu_bi (f12_in a2.toInt64 (0 : Int64) (15 : Int64) m2) fun x3 m4 =>
  if x3 = 0 then (f12_report_b47 a1 a2 a3 a4 m4)
  else (lu_bi (f12_in a3.toInt64 (0 : Int64) (31 : Int64) m4) fun x5 m6 =>
  if x5 = 0 then (f12_report_b47 a1 a2 a3 a4 m6)
  else (lu_bi (f12_in a4.toInt64 (0 : Int64) (1 : Int64) m6) fun x7 m8 =>
  if x7 = 0 then (f12_report_b47 a1 a2 a3 a4 m8)
  else (if (m8 1 6) = (6 : Int32) then (some ((-2 : Int32), m8))
  else (lu_nm (((112 : Int32) + ((4 : Int32) * (m8 1 6)))) fun x9 =>
  lu_gd (lu_ib x9 368) <|
  lu_nm (lu_st m8 1 x9.toNatClampNeg a1) fun m10 =>
  lu_gd (lu_ib (x9 + (1 : Int32)) 368) <|
  lu_nm (lu_st m10 1 (x9 + (1 : Int32)).toNatClampNeg a2) fun m11 =>
  lu_gd (lu_ib (x9 + (2 : Int32)) 368) <|
  lu_nm (lu_st m11 1 (x9 + (2 : Int32)).toNatClampNeg a3) fun m12 =>
  lu_gd (lu_ib (x9 + (3 : Int32)) 368) <|
  lu_nm (lu_st m12 1 (x9 + (3 : Int32)).toNatClampNeg a4) fun m13 =>
  lu_nm (lu_st m13 1 6 ((m13 1 6) + (1 : Int32))) fun m14 =>
  some (((m14 1 6) - (1 : Int32)), m14))))))
set_option maxRecDepth 20000 in
theorem c12_report (l : Launch)   (a1 : Int32) (a2 : Int32) (a3 : Int32) (a4 : Int32) : lu_C lu_TM l yX12_report cX12_report 6 (some .int) 1 25 (fun ρ sa => [.ref (ρ 0), .int a1, .int a2, .int a3, .int a4]) (f12_report a1 a2 a3 a4) lu_RVi lu_sn := by
  refine lu_met (cls := RX12) rfl (by decide +kernel) (fun _ _ => Nat.le_of_ble_eq_true rfl) ?_
  intro G ρ m hl X hret
  subst hl
  change lu_Ab lu_TM G (lu_Q lu_TM G ρ lu_RVi lu_sn) (f12_report a1 a2 a3 a4 m) 0 [(0, .ref (ρ 0)), (1, .int a1), (2, .int a2), (3, .int a3), (4, .int a4)] [] ρ 0 0 [] m
  unfold f12_report
  refine lu_iload_n X dX12_report_0 (pc2 := 1) rfl rfl 1 rfl ?_
  refine lu_i2l X dX12_report_1 (pc2 := 2) rfl ?_
  refine lu_lconst (v := (1 : Int64)) X dX12_report_2 (pc2 := 3) rfl (by decide) ?_
  refine lu_ldc2 X q1264 dX12_report_3 (pc2 := 6) rfl ?_
  refine lu_invSi X (c12_in _ a1.toInt64 (1 : Int64) (9 : Int64)) rfl q1261 mvS_12_in rfl rfl (Nat.le_of_ble_eq_true rfl) (Nat.le_of_ble_eq_true rfl) (Nat.le_of_ble_eq_true rfl) ⟨Nat.zero_le _, Nat.zero_le _⟩ dX12_report_6 (pc2 := 9) rfl rfl (fun x1 m2 => ?_)
  refine lu_if_eq (tgt := 47) X dX12_report_9 (pc2 := 12) rfl (by decide) (fun _ => ?_) (fun _ => ?_)
  · exact lu_sub [] rfl (w12_report_b47 X hret m2)
  · refine lu_iload_n X dX12_report_12 (pc2 := 13) rfl rfl 2 rfl ?_
    refine lu_i2l X dX12_report_13 (pc2 := 14) rfl ?_
    refine lu_lconst (v := (0 : Int64)) X dX12_report_14 (pc2 := 15) rfl (by decide) ?_
    refine lu_ldc2 X q1340 dX12_report_15 (pc2 := 18) rfl ?_
    refine lu_invSi X (c12_in _ a2.toInt64 (0 : Int64) (15 : Int64)) rfl q1261 mvS_12_in rfl rfl (Nat.le_of_ble_eq_true rfl) (Nat.le_of_ble_eq_true rfl) (Nat.le_of_ble_eq_true rfl) ⟨Nat.zero_le _, Nat.zero_le _⟩ dX12_report_18 (pc2 := 21) rfl rfl (fun x3 m4 => ?_)
    refine lu_if_eq (tgt := 47) X dX12_report_21 (pc2 := 24) rfl (by decide) (fun _ => ?_) (fun _ => ?_)
    · exact lu_sub [] rfl (w12_report_b47 X hret m4)
    · refine lu_iload_n X dX12_report_24 (pc2 := 25) rfl rfl 3 rfl ?_
      refine lu_i2l X dX12_report_25 (pc2 := 26) rfl ?_
      refine lu_lconst (v := (0 : Int64)) X dX12_report_26 (pc2 := 27) rfl (by decide) ?_
      refine lu_ldc2 X q1536 dX12_report_27 (pc2 := 30) rfl ?_
      refine lu_invSi X (c12_in _ a3.toInt64 (0 : Int64) (31 : Int64)) rfl q1261 mvS_12_in rfl rfl (Nat.le_of_ble_eq_true rfl) (Nat.le_of_ble_eq_true rfl) (Nat.le_of_ble_eq_true rfl) ⟨Nat.zero_le _, Nat.zero_le _⟩ dX12_report_30 (pc2 := 33) rfl rfl (fun x5 m6 => ?_)
      refine lu_if_eq (tgt := 47) X dX12_report_33 (pc2 := 36) rfl (by decide) (fun _ => ?_) (fun _ => ?_)
      · exact lu_sub [] rfl (w12_report_b47 X hret m6)
      · refine lu_iload X dX12_report_36 (pc2 := 38) rfl 4 rfl ?_
        refine lu_i2l X dX12_report_38 (pc2 := 39) rfl ?_
        refine lu_lconst (v := (0 : Int64)) X dX12_report_39 (pc2 := 40) rfl (by decide) ?_
        refine lu_lconst (v := (1 : Int64)) X dX12_report_40 (pc2 := 41) rfl (by decide) ?_
        refine lu_invSi X (c12_in _ a4.toInt64 (0 : Int64) (1 : Int64)) rfl q1261 mvS_12_in rfl rfl (Nat.le_of_ble_eq_true rfl) (Nat.le_of_ble_eq_true rfl) (Nat.le_of_ble_eq_true rfl) ⟨Nat.zero_le _, Nat.zero_le _⟩ dX12_report_41 (pc2 := 44) rfl rfl (fun x7 m8 => ?_)
        refine lu_if_ne (tgt := 49) X dX12_report_44 (pc2 := 47) rfl (by decide) (fun _ => ?_) (fun _ => ?_)
        · refine lu_aload_n X dX12_report_49 (pc2 := 50) rfl rfl 0 rfl ?_
          refine lu_getr (r2 := 1) X rfl fl12_7 rfl kM_0 lM_0 dX12_report_50 (pc2 := 53) rfl ?_
          refine lu_bipush X dX12_report_53 (pc2 := 55) rfl bp_6 ?_
          refine lu_ialdK (q := 6) X (by decide) kM_1 lM_1 dX12_report_55 (pc2 := 56) rfl ?_
          refine lu_bipush X dX12_report_56 (pc2 := 58) rfl bp_6 ?_
          refine lu_icmp_ne (tgt := 64) X dX12_report_58 (pc2 := 61) rfl (by decide) (fun _ => ?_) (fun _ => ?_)
          · refine lu_bipush X dX12_report_64 (pc2 := 66) rfl bp_112 ?_
            refine lu_iconst X dX12_report_66 (pc2 := 67) rfl ic_4 ?_
            refine lu_aload_n X dX12_report_67 (pc2 := 68) rfl rfl 0 rfl ?_
            refine lu_getr (r2 := 1) X rfl fl12_7 rfl kM_0 lM_0 dX12_report_68 (pc2 := 71) rfl ?_
            refine lu_bipush X dX12_report_71 (pc2 := 73) rfl bp_6 ?_
            refine lu_ialdK (q := 6) X (by decide) kM_1 lM_1 dX12_report_73 (pc2 := 74) rfl ?_
            refine lu_imul X dX12_report_74 (pc2 := 75) rfl ?_
            refine lu_iadd X dX12_report_75 (pc2 := 76) rfl ?_
            refine lu_topi (fun x9 => ?_)
            refine lu_istore (lv2 := [(5, .int x9), (0, .ref (ρ 0)), (1, .int a1), (2, .int a2), (3, .int a3), (4, .int a4)]) X dX12_report_76 (pc2 := 78) rfl (by decide) rfl ?_
            refine lu_aload_n X dX12_report_78 (pc2 := 79) rfl rfl 1 rfl ?_
            refine lu_getr (r2 := 1) X rfl fl12_7 rfl kM_0 lM_0 dX12_report_79 (pc2 := 82) rfl ?_
            refine lu_iload X dX12_report_82 (pc2 := 84) rfl 0 rfl ?_
            refine lu_iload_n X dX12_report_84 (pc2 := 85) rfl rfl 2 rfl ?_
            refine lu_iast X kM_1 lM_1 dX12_report_85 (pc2 := 86) rfl (fun m10 => ?_)
            refine lu_aload_n X dX12_report_86 (pc2 := 87) rfl rfl 1 rfl ?_
            refine lu_getr (r2 := 1) X rfl fl12_7 rfl kM_0 lM_0 dX12_report_87 (pc2 := 90) rfl ?_
            refine lu_iload X dX12_report_90 (pc2 := 92) rfl 0 rfl ?_
            refine lu_iconst X dX12_report_92 (pc2 := 93) rfl ic_1 ?_
            refine lu_iadd X dX12_report_93 (pc2 := 94) rfl ?_
            refine lu_iload_n X dX12_report_94 (pc2 := 95) rfl rfl 3 rfl ?_
            refine lu_iast X kM_1 lM_1 dX12_report_95 (pc2 := 96) rfl (fun m11 => ?_)
            refine lu_aload_n X dX12_report_96 (pc2 := 97) rfl rfl 1 rfl ?_
            refine lu_getr (r2 := 1) X rfl fl12_7 rfl kM_0 lM_0 dX12_report_97 (pc2 := 100) rfl ?_
            refine lu_iload X dX12_report_100 (pc2 := 102) rfl 0 rfl ?_
            refine lu_iconst X dX12_report_102 (pc2 := 103) rfl ic_2 ?_
            refine lu_iadd X dX12_report_103 (pc2 := 104) rfl ?_
            refine lu_iload_n X dX12_report_104 (pc2 := 105) rfl rfl 4 rfl ?_
            refine lu_iast X kM_1 lM_1 dX12_report_105 (pc2 := 106) rfl (fun m12 => ?_)
            refine lu_aload_n X dX12_report_106 (pc2 := 107) rfl rfl 1 rfl ?_
            refine lu_getr (r2 := 1) X rfl fl12_7 rfl kM_0 lM_0 dX12_report_107 (pc2 := 110) rfl ?_
            refine lu_iload X dX12_report_110 (pc2 := 112) rfl 0 rfl ?_
            refine lu_iconst X dX12_report_112 (pc2 := 113) rfl ic_3 ?_
            refine lu_iadd X dX12_report_113 (pc2 := 114) rfl ?_
            refine lu_iload X dX12_report_114 (pc2 := 116) rfl 5 rfl ?_
            refine lu_iast X kM_1 lM_1 dX12_report_116 (pc2 := 117) rfl (fun m13 => ?_)
            refine lu_aload_n X dX12_report_117 (pc2 := 118) rfl rfl 1 rfl ?_
            refine lu_getr (r2 := 1) X rfl fl12_7 rfl kM_0 lM_0 dX12_report_118 (pc2 := 121) rfl ?_
            refine lu_bipush X dX12_report_121 (pc2 := 123) rfl bp_6 ?_
            refine lu_dup2 X dX12_report_123 (pc2 := 124) rfl rfl rfl ?_
            refine lu_ialdK (q := 6) X (by decide) kM_1 lM_1 dX12_report_124 (pc2 := 125) rfl ?_
            refine lu_iconst X dX12_report_125 (pc2 := 126) rfl ic_1 ?_
            refine lu_iadd X dX12_report_126 (pc2 := 127) rfl ?_
            refine lu_iastK (q := 6) X (by decide) kM_1 lM_1 dX12_report_127 (pc2 := 128) rfl (fun m14 => ?_)
            refine lu_aload_n X dX12_report_128 (pc2 := 129) rfl rfl 1 rfl ?_
            refine lu_getr (r2 := 1) X rfl fl12_7 rfl kM_0 lM_0 dX12_report_129 (pc2 := 132) rfl ?_
            refine lu_bipush X dX12_report_132 (pc2 := 134) rfl bp_6 ?_
            refine lu_ialdK (q := 6) X (by decide) kM_1 lM_1 dX12_report_134 (pc2 := 135) rfl ?_
            refine lu_iconst X dX12_report_135 (pc2 := 136) rfl ic_1 ?_
            refine lu_isub X dX12_report_136 (pc2 := 137) rfl ?_
            exact lu_iret X hret dX12_report_137
          · refine lu_bipush X dX12_report_61 (pc2 := 63) rfl bp_m2 ?_
            exact lu_iret X hret dX12_report_63
        · exact lu_sub [] rfl (w12_report_b47 X hret m8)

/-! WALKS of methods (written by a program out of their instructions): functions of the memory, and contracts -/
theorem dX12_in_0 : decode cX12_in 0 = .ok (.lload_n 0, 1) := by decide +kernel
theorem dX12_in_1 : decode cX12_in 1 = .ok (.lload_n 2, 1) := by decide +kernel
theorem dX12_in_2 : decode cX12_in 2 = .ok (.lcmp, 1) := by decide +kernel
theorem dX12_in_3 : decode cX12_in 3 = .ok (.ifCond .lt 14, 3) := by decide +kernel
theorem dX12_in_6 : decode cX12_in 6 = .ok (.lload_n 0, 1) := by decide +kernel
theorem dX12_in_7 : decode cX12_in 7 = .ok (.lload 4, 2) := by decide +kernel
theorem dX12_in_9 : decode cX12_in 9 = .ok (.lcmp, 1) := by decide +kernel
theorem dX12_in_10 : decode cX12_in 10 = .ok (.ifCond .gt 7, 3) := by decide +kernel
theorem dX12_in_13 : decode cX12_in 13 = .ok (.iconst 1, 1) := by decide +kernel
theorem dX12_in_14 : decode cX12_in 14 = .ok (.goto 4, 3) := by decide +kernel
theorem dX12_in_17 : decode cX12_in 17 = .ok (.iconst 0, 1) := by decide +kernel
theorem dX12_in_18 : decode cX12_in 18 = .ok (.ireturn, 1) := by decide +kernel
def f12_in_b18  (a0 : Int64) (a2 : Int64) (a4 : Int64) (s0 : Int32) (m : lu_M) : Option (Int32 × lu_M) :=
  lu_gd (decide (s0 = 0 ∨ s0 = 1)) (some (s0, m))
set_option maxRecDepth 20000 in
theorem w12_in_b18  {G : lu_G} {ρ : Nat → Nat} {a0 : Int64} {a2 : Int64} {a4 : Int64}  (X : lu_X G RX12 cX12_in 6 0 0) (hret : (lu_me G).sig.returnType = (some .boolean))   : ∀ (s0 : Int32) (m : lu_M), lu_Ab lu_TM G (lu_Q lu_TM G ρ lu_RVi lu_sn) (f12_in_b18 a0 a2 a4 s0 m) 18 [] [.int s0] ρ 0 0 [] m := by
  intro s0 m
  unfold f12_in_b18
  exact lu_zretG X hret dX12_in_18
def f12_in_b17  (a0 : Int64) (a2 : Int64) (a4 : Int64)  (m : lu_M) : Option (Int32 × lu_M) :=
  f12_in_b18 a0 a2 a4 (0 : Int32) m
set_option maxRecDepth 20000 in
theorem w12_in_b17  {G : lu_G} {ρ : Nat → Nat} {a0 : Int64} {a2 : Int64} {a4 : Int64}  (X : lu_X G RX12 cX12_in 6 0 0) (hret : (lu_me G).sig.returnType = (some .boolean))   : ∀  (m : lu_M), lu_Ab lu_TM G (lu_Q lu_TM G ρ lu_RVi lu_sn) (f12_in_b17 a0 a2 a4 m) 17 [] [] ρ 0 0 [] m := by
  intro  m
  unfold f12_in_b17
  refine lu_iconst X dX12_in_17 (pc2 := 18) rfl ic_0 ?_
  exact w12_in_b18 X hret (0 : Int32) m
def f12_in (a0 : Int64) (a2 : Int64) (a4 : Int64) (m : lu_M) : Option (Int32 × lu_M) :=
  if (lg_cmp a0 a2) < 0 then (f12_in_b17 a0 a2 a4 m)
  else (if 0 < (lg_cmp a0 a4) then (f12_in_b17 a0 a2 a4 m)
  else (f12_in_b18 a0 a2 a4 (1 : Int32) m))
set_option maxRecDepth 20000 in
theorem c12_in (l : Launch)   (a0 : Int64) (a2 : Int64) (a4 : Int64) : lu_C lu_TM l yX12_in cX12_in 6 (some .boolean) 0 0 (fun ρ sa => [.long a0, .long a2, .long a4]) (f12_in a0 a2 a4) lu_RVi lu_sn := by
  refine lu_met (cls := RX12) rfl (by decide +kernel) (fun _ _ => Nat.le_of_ble_eq_true rfl) ?_
  intro G ρ m hl X hret
  subst hl
  change lu_Ab lu_TM G (lu_Q lu_TM G ρ lu_RVi lu_sn) (f12_in a0 a2 a4 m) 0 [(0, .long a0), (2, .long a2), (4, .long a4)] [] ρ 0 0 [] m
  unfold f12_in
  refine lu_lload_n X dX12_in_0 (pc2 := 1) rfl rfl 0 rfl ?_
  refine lu_lload_n X dX12_in_1 (pc2 := 2) rfl rfl 1 rfl ?_
  refine lu_lcmp X dX12_in_2 (pc2 := 3) rfl ?_
  refine lu_if_lt (tgt := 17) X dX12_in_3 (pc2 := 6) rfl (by decide) (fun _ => ?_) (fun _ => ?_)
  · exact lu_sub [] rfl (w12_in_b17 X hret m)
  · refine lu_lload_n X dX12_in_6 (pc2 := 7) rfl rfl 0 rfl ?_
    refine lu_lload X dX12_in_7 (pc2 := 9) rfl 2 rfl ?_
    refine lu_lcmp X dX12_in_9 (pc2 := 10) rfl ?_
    refine lu_if_gt (tgt := 17) X dX12_in_10 (pc2 := 13) rfl (by decide) (fun _ => ?_) (fun _ => ?_)
    · exact lu_sub [] rfl (w12_in_b17 X hret m)
    · refine lu_iconst X dX12_in_13 (pc2 := 14) rfl ic_1 ?_
      refine lu_goto (tgt := 18) X dX12_in_14 (by decide) ?_
      exact lu_sub [] rfl (w12_in_b18 X hret (1 : Int32) m)

theorem dX12_isPerson_0 : decode cX12_isPerson 0 = .ok (.iload_n 1, 1) := by decide +kernel
theorem dX12_isPerson_1 : decode cX12_isPerson 1 = .ok (.i2l, 1) := by decide +kernel
theorem dX12_isPerson_2 : decode cX12_isPerson 2 = .ok (.lconst 0, 1) := by decide +kernel
theorem dX12_isPerson_3 : decode cX12_isPerson 3 = .ok (.aload_n 0, 1) := by decide +kernel
theorem dX12_isPerson_4 : decode cX12_isPerson 4 = .ok (.getfield 7, 3) := by decide +kernel
theorem dX12_isPerson_7 : decode cX12_isPerson 7 = .ok (.iconst 0, 1) := by decide +kernel
theorem dX12_isPerson_8 : decode cX12_isPerson 8 = .ok (.iaload, 1) := by decide +kernel
theorem dX12_isPerson_9 : decode cX12_isPerson 9 = .ok (.iconst 1, 1) := by decide +kernel
theorem dX12_isPerson_10 : decode cX12_isPerson 10 = .ok (.isub, 1) := by decide +kernel
theorem dX12_isPerson_11 : decode cX12_isPerson 11 = .ok (.i2l, 1) := by decide +kernel
theorem dX12_isPerson_12 : decode cX12_isPerson 12 = .ok (.invokestatic 64, 3) := by decide +kernel
theorem dX12_isPerson_15 : decode cX12_isPerson 15 = .ok (.ireturn, 1) := by decide +kernel
def f12_isPerson (a1 : Int32) (m : lu_M) : Option (Int32 × lu_M) :=
  lu_bi (f12_in a1.toInt64 (0 : Int64) (((m 1 0) - (1 : Int32)).toInt64) m) fun x1 m2 =>
  lu_gd (decide (x1 = 0 ∨ x1 = 1)) (some (x1, m2))
set_option maxRecDepth 20000 in
theorem c12_isPerson (l : Launch)   (a1 : Int32) : lu_C lu_TM l yX12_isPerson cX12_isPerson 2 (some .boolean) 1 25 (fun ρ sa => [.ref (ρ 0), .int a1]) (f12_isPerson a1) lu_RVi lu_sn := by
  refine lu_met (cls := RX12) rfl (by decide +kernel) (fun _ _ => Nat.le_of_ble_eq_true rfl) ?_
  intro G ρ m hl X hret
  subst hl
  change lu_Ab lu_TM G (lu_Q lu_TM G ρ lu_RVi lu_sn) (f12_isPerson a1 m) 0 [(0, .ref (ρ 0)), (1, .int a1)] [] ρ 0 0 [] m
  unfold f12_isPerson
  refine lu_iload_n X dX12_isPerson_0 (pc2 := 1) rfl rfl 1 rfl ?_
  refine lu_i2l X dX12_isPerson_1 (pc2 := 2) rfl ?_
  refine lu_lconst (v := (0 : Int64)) X dX12_isPerson_2 (pc2 := 3) rfl (by decide) ?_
  refine lu_aload_n X dX12_isPerson_3 (pc2 := 4) rfl rfl 0 rfl ?_
  refine lu_getr (r2 := 1) X rfl fl12_7 rfl kM_0 lM_0 dX12_isPerson_4 (pc2 := 7) rfl ?_
  refine lu_iconst X dX12_isPerson_7 (pc2 := 8) rfl ic_0 ?_
  refine lu_ialdK (q := 0) X (by decide) kM_1 lM_1 dX12_isPerson_8 (pc2 := 9) rfl ?_
  refine lu_iconst X dX12_isPerson_9 (pc2 := 10) rfl ic_1 ?_
  refine lu_isub X dX12_isPerson_10 (pc2 := 11) rfl ?_
  refine lu_i2l X dX12_isPerson_11 (pc2 := 12) rfl ?_
  refine lu_invSi X (c12_in _ a1.toInt64 (0 : Int64) (((m 1 0) - (1 : Int32)).toInt64)) rfl q1261 mvS_12_in rfl rfl (Nat.le_of_ble_eq_true rfl) (Nat.le_of_ble_eq_true rfl) (Nat.le_of_ble_eq_true rfl) ⟨Nat.zero_le _, Nat.zero_le _⟩ dX12_isPerson_12 (pc2 := 15) rfl rfl (fun x1 m2 => ?_)
  exact lu_zretG X hret dX12_isPerson_15

theorem dX12_isDeed_0 : decode cX12_isDeed 0 = .ok (.iload_n 1, 1) := by decide +kernel
theorem dX12_isDeed_1 : decode cX12_isDeed 1 = .ok (.i2l, 1) := by decide +kernel
theorem dX12_isDeed_2 : decode cX12_isDeed 2 = .ok (.lconst 0, 1) := by decide +kernel
theorem dX12_isDeed_3 : decode cX12_isDeed 3 = .ok (.aload_n 0, 1) := by decide +kernel
theorem dX12_isDeed_4 : decode cX12_isDeed 4 = .ok (.getfield 7, 3) := by decide +kernel
theorem dX12_isDeed_7 : decode cX12_isDeed 7 = .ok (.iconst 5, 1) := by decide +kernel
theorem dX12_isDeed_8 : decode cX12_isDeed 8 = .ok (.iaload, 1) := by decide +kernel
theorem dX12_isDeed_9 : decode cX12_isDeed 9 = .ok (.iconst 1, 1) := by decide +kernel
theorem dX12_isDeed_10 : decode cX12_isDeed 10 = .ok (.isub, 1) := by decide +kernel
theorem dX12_isDeed_11 : decode cX12_isDeed 11 = .ok (.i2l, 1) := by decide +kernel
theorem dX12_isDeed_12 : decode cX12_isDeed 12 = .ok (.invokestatic 64, 3) := by decide +kernel
theorem dX12_isDeed_15 : decode cX12_isDeed 15 = .ok (.ireturn, 1) := by decide +kernel
def f12_isDeed (a1 : Int32) (m : lu_M) : Option (Int32 × lu_M) :=
  lu_bi (f12_in a1.toInt64 (0 : Int64) (((m 1 5) - (1 : Int32)).toInt64) m) fun x1 m2 =>
  lu_gd (decide (x1 = 0 ∨ x1 = 1)) (some (x1, m2))
set_option maxRecDepth 20000 in
theorem c12_isDeed (l : Launch)   (a1 : Int32) : lu_C lu_TM l yX12_isDeed cX12_isDeed 2 (some .boolean) 1 25 (fun ρ sa => [.ref (ρ 0), .int a1]) (f12_isDeed a1) lu_RVi lu_sn := by
  refine lu_met (cls := RX12) rfl (by decide +kernel) (fun _ _ => Nat.le_of_ble_eq_true rfl) ?_
  intro G ρ m hl X hret
  subst hl
  change lu_Ab lu_TM G (lu_Q lu_TM G ρ lu_RVi lu_sn) (f12_isDeed a1 m) 0 [(0, .ref (ρ 0)), (1, .int a1)] [] ρ 0 0 [] m
  unfold f12_isDeed
  refine lu_iload_n X dX12_isDeed_0 (pc2 := 1) rfl rfl 1 rfl ?_
  refine lu_i2l X dX12_isDeed_1 (pc2 := 2) rfl ?_
  refine lu_lconst (v := (0 : Int64)) X dX12_isDeed_2 (pc2 := 3) rfl (by decide) ?_
  refine lu_aload_n X dX12_isDeed_3 (pc2 := 4) rfl rfl 0 rfl ?_
  refine lu_getr (r2 := 1) X rfl fl12_7 rfl kM_0 lM_0 dX12_isDeed_4 (pc2 := 7) rfl ?_
  refine lu_iconst X dX12_isDeed_7 (pc2 := 8) rfl ic_5 ?_
  refine lu_ialdK (q := 5) X (by decide) kM_1 lM_1 dX12_isDeed_8 (pc2 := 9) rfl ?_
  refine lu_iconst X dX12_isDeed_9 (pc2 := 10) rfl ic_1 ?_
  refine lu_isub X dX12_isDeed_10 (pc2 := 11) rfl ?_
  refine lu_i2l X dX12_isDeed_11 (pc2 := 12) rfl ?_
  refine lu_invSi X (c12_in _ a1.toInt64 (0 : Int64) (((m 1 5) - (1 : Int32)).toInt64)) rfl q1261 mvS_12_in rfl rfl (Nat.le_of_ble_eq_true rfl) (Nat.le_of_ble_eq_true rfl) (Nat.le_of_ble_eq_true rfl) ⟨Nat.zero_le _, Nat.zero_le _⟩ dX12_isDeed_12 (pc2 := 15) rfl rfl (fun x1 m2 => ?_)
  exact lu_zretG X hret dX12_isDeed_15

theorem dX12_areDeeds_0 : decode cX12_areDeeds 0 = .ok (.iload_n 1, 1) := by decide +kernel
theorem dX12_areDeeds_1 : decode cX12_areDeeds 1 = .ok (.i2l, 1) := by decide +kernel
theorem dX12_areDeeds_2 : decode cX12_areDeeds 2 = .ok (.lconst 0, 1) := by decide +kernel
theorem dX12_areDeeds_3 : decode cX12_areDeeds 3 = .ok (.iconst 1, 1) := by decide +kernel
theorem dX12_areDeeds_4 : decode cX12_areDeeds 4 = .ok (.aload_n 0, 1) := by decide +kernel
theorem dX12_areDeeds_5 : decode cX12_areDeeds 5 = .ok (.getfield 7, 3) := by decide +kernel
theorem dX12_areDeeds_8 : decode cX12_areDeeds 8 = .ok (.iconst 5, 1) := by decide +kernel
theorem dX12_areDeeds_9 : decode cX12_areDeeds 9 = .ok (.iaload, 1) := by decide +kernel
theorem dX12_areDeeds_10 : decode cX12_areDeeds 10 = .ok (.ishl, 1) := by decide +kernel
theorem dX12_areDeeds_11 : decode cX12_areDeeds 11 = .ok (.iconst 1, 1) := by decide +kernel
theorem dX12_areDeeds_12 : decode cX12_areDeeds 12 = .ok (.isub, 1) := by decide +kernel
theorem dX12_areDeeds_13 : decode cX12_areDeeds 13 = .ok (.i2l, 1) := by decide +kernel
theorem dX12_areDeeds_14 : decode cX12_areDeeds 14 = .ok (.invokestatic 64, 3) := by decide +kernel
theorem dX12_areDeeds_17 : decode cX12_areDeeds 17 = .ok (.ireturn, 1) := by decide +kernel
def f12_areDeeds (a1 : Int32) (m : lu_M) : Option (Int32 × lu_M) :=
  lu_bi (f12_in a1.toInt64 (0 : Int64) ((((1 : Int32) <<< ((m 1 5) &&& 31)) - (1 : Int32)).toInt64) m) fun x1 m2 =>
  lu_gd (decide (x1 = 0 ∨ x1 = 1)) (some (x1, m2))
set_option maxRecDepth 20000 in
theorem c12_areDeeds (l : Launch)   (a1 : Int32) : lu_C lu_TM l yX12_areDeeds cX12_areDeeds 2 (some .boolean) 1 25 (fun ρ sa => [.ref (ρ 0), .int a1]) (f12_areDeeds a1) lu_RVi lu_sn := by
  refine lu_met (cls := RX12) rfl (by decide +kernel) (fun _ _ => Nat.le_of_ble_eq_true rfl) ?_
  intro G ρ m hl X hret
  subst hl
  change lu_Ab lu_TM G (lu_Q lu_TM G ρ lu_RVi lu_sn) (f12_areDeeds a1 m) 0 [(0, .ref (ρ 0)), (1, .int a1)] [] ρ 0 0 [] m
  unfold f12_areDeeds
  refine lu_iload_n X dX12_areDeeds_0 (pc2 := 1) rfl rfl 1 rfl ?_
  refine lu_i2l X dX12_areDeeds_1 (pc2 := 2) rfl ?_
  refine lu_lconst (v := (0 : Int64)) X dX12_areDeeds_2 (pc2 := 3) rfl (by decide) ?_
  refine lu_iconst X dX12_areDeeds_3 (pc2 := 4) rfl ic_1 ?_
  refine lu_aload_n X dX12_areDeeds_4 (pc2 := 5) rfl rfl 0 rfl ?_
  refine lu_getr (r2 := 1) X rfl fl12_7 rfl kM_0 lM_0 dX12_areDeeds_5 (pc2 := 8) rfl ?_
  refine lu_iconst X dX12_areDeeds_8 (pc2 := 9) rfl ic_5 ?_
  refine lu_ialdK (q := 5) X (by decide) kM_1 lM_1 dX12_areDeeds_9 (pc2 := 10) rfl ?_
  refine lu_ishl X dX12_areDeeds_10 (pc2 := 11) rfl ?_
  refine lu_iconst X dX12_areDeeds_11 (pc2 := 12) rfl ic_1 ?_
  refine lu_isub X dX12_areDeeds_12 (pc2 := 13) rfl ?_
  refine lu_i2l X dX12_areDeeds_13 (pc2 := 14) rfl ?_
  refine lu_invSi X (c12_in _ a1.toInt64 (0 : Int64) ((((1 : Int32) <<< ((m 1 5) &&& 31)) - (1 : Int32)).toInt64)) rfl q1261 mvS_12_in rfl rfl (Nat.le_of_ble_eq_true rfl) (Nat.le_of_ble_eq_true rfl) (Nat.le_of_ble_eq_true rfl) ⟨Nat.zero_le _, Nat.zero_le _⟩ dX12_areDeeds_14 (pc2 := 17) rfl rfl (fun x1 m2 => ?_)
  exact lu_zretG X hret dX12_areDeeds_17

theorem dX12_puts_0 : decode cX12_puts 0 = .ok (.iconst 0, 1) := by decide +kernel
theorem dX12_puts_1 : decode cX12_puts 1 = .ok (.istore_n 1, 1) := by decide +kernel
theorem dX12_puts_2 : decode cX12_puts 2 = .ok (.iload_n 1, 1) := by decide +kernel
theorem dX12_puts_3 : decode cX12_puts 3 = .ok (.sipush 368, 3) := by decide +kernel
theorem dX12_puts_6 : decode cX12_puts 6 = .ok (.if_icmp .ge 21, 3) := by decide +kernel
theorem dX12_puts_9 : decode cX12_puts 9 = .ok (.aload_n 0, 1) := by decide +kernel
theorem dX12_puts_10 : decode cX12_puts 10 = .ok (.getfield 16, 3) := by decide +kernel
theorem dX12_puts_13 : decode cX12_puts 13 = .ok (.iload_n 1, 1) := by decide +kernel
theorem dX12_puts_14 : decode cX12_puts 14 = .ok (.aload_n 0, 1) := by decide +kernel
theorem dX12_puts_15 : decode cX12_puts 15 = .ok (.getfield 7, 3) := by decide +kernel
theorem dX12_puts_18 : decode cX12_puts 18 = .ok (.iload_n 1, 1) := by decide +kernel
theorem dX12_puts_19 : decode cX12_puts 19 = .ok (.iaload, 1) := by decide +kernel
theorem dX12_puts_20 : decode cX12_puts 20 = .ok (.iastore, 1) := by decide +kernel
theorem dX12_puts_21 : decode cX12_puts 21 = .ok (.iinc 1 1, 3) := by decide +kernel
theorem dX12_puts_24 : decode cX12_puts 24 = .ok (.goto (-22), 3) := by decide +kernel
theorem dX12_puts_27 : decode cX12_puts 27 = .ok (.return_, 1) := by decide +kernel
def f12_puts_b2B (K27 : lu_M → Option (lu_M)) (rec : Int32 → lu_M → Option (lu_M))  (v1 : Int32) (m : lu_M) : Option (lu_M) :=
  if (368 : Int32) ≤ v1 then (K27 m)
  else (lu_gd (lu_ib v1 368) <|
  lu_gd (lu_ib v1 368) <|
  lu_nm (lu_st m 3 v1.toNatClampNeg (m 1 v1.toNatClampNeg)) fun m1 =>
  rec (v1 + (1 : Int32)) m1)
def f12_puts_b2 (K27 : lu_M → Option (lu_M))  : Nat → Int32 → lu_M → Option (lu_M)
  | 0, _, _ => none
  | n + 1, v1, m => f12_puts_b2B K27 (f12_puts_b2 K27 n) v1 m
set_option maxRecDepth 20000 in
theorem w12_puts_b2B  {G : lu_G} {ρ : Nat → Nat}  {K27 : lu_M → Option (lu_M)} {rec : Int32 → lu_M → Option (lu_M)} (X : lu_X G RX12 cX12_puts 2 0 0) (hret : (lu_me G).sig.returnType = none)  (hK27 : ∀  (m : lu_M), lu_Ab lu_TM G (lu_Q lu_TM G ρ lu_RVv lu_id) (K27 m) 27 [] [] ρ 0 0 [] m) (hrec : ∀ (v1 : Int32) (m : lu_M), lu_Ab lu_TM G (lu_Q lu_TM G ρ lu_RVv lu_id) (rec v1 m) 2 [(0, .ref (ρ 0)), (1, .int v1)] [] ρ 0 0 [] m) : ∀ (v1 : Int32) (m : lu_M), lu_Ab lu_TM G (lu_Q lu_TM G ρ lu_RVv lu_id) (f12_puts_b2B K27 rec v1 m) 2 [(0, .ref (ρ 0)), (1, .int v1)] [] ρ 0 0 [] m := by
  intro v1 m
  unfold f12_puts_b2B
  refine lu_iload_n X dX12_puts_2 (pc2 := 3) rfl rfl 1 rfl ?_
  refine lu_sipush X dX12_puts_3 (pc2 := 6) rfl sp_368 ?_
  refine lu_icmp_ge (tgt := 27) X dX12_puts_6 (pc2 := 9) rfl (by decide) (fun _ => ?_) (fun _ => ?_)
  · exact lu_sub [] rfl (hK27 m)
  · refine lu_aload_n X dX12_puts_9 (pc2 := 10) rfl rfl 0 rfl ?_
    refine lu_getr (r2 := 3) X rfl fl12_16 rfl kM_0 lM_0 dX12_puts_10 (pc2 := 13) rfl ?_
    refine lu_iload_n X dX12_puts_13 (pc2 := 14) rfl rfl 1 rfl ?_
    refine lu_aload_n X dX12_puts_14 (pc2 := 15) rfl rfl 0 rfl ?_
    refine lu_getr (r2 := 1) X rfl fl12_7 rfl kM_0 lM_0 dX12_puts_15 (pc2 := 18) rfl ?_
    refine lu_iload_n X dX12_puts_18 (pc2 := 19) rfl rfl 1 rfl ?_
    refine lu_iald X kM_1 lM_1 dX12_puts_19 (pc2 := 20) rfl ?_
    refine lu_iast X kM_3 lM_3 dX12_puts_20 (pc2 := 21) rfl (fun m1 => ?_)
    refine lu_iinc (lv2 := [(1, .int (v1 + (1 : Int32))), (0, .ref (ρ 0))]) X dX12_puts_21 (pc2 := 24) rfl 1 rfl (lu_ii _ ic_1) (by decide) rfl ?_
    refine lu_goto (tgt := 2) X dX12_puts_24 (by decide) ?_
    exact lu_sub [1, 0] rfl (hrec (v1 + (1 : Int32)) m1)
theorem w12_puts_b2  {G : lu_G} {ρ : Nat → Nat}  {K27 : lu_M → Option (lu_M)} (X : lu_X G RX12 cX12_puts 2 0 0) (hret : (lu_me G).sig.returnType = none)  (hK27 : ∀  (m : lu_M), lu_Ab lu_TM G (lu_Q lu_TM G ρ lu_RVv lu_id) (K27 m) 27 [] [] ρ 0 0 [] m) : ∀ (n : Nat) (v1 : Int32) (m : lu_M), lu_Ab lu_TM G (lu_Q lu_TM G ρ lu_RVv lu_id) (f12_puts_b2 K27 n v1 m) 2 [(0, .ref (ρ 0)), (1, .int v1)] [] ρ 0 0 [] m := by
  intro n
  induction n with
  | zero => intro v1 m; exact lu_none
  | succ n ih => intro v1 m; exact w12_puts_b2B X hret hK27 ih v1 m
def f12_puts_b27    (m : lu_M) : Option (lu_M) :=
  some m
set_option maxRecDepth 20000 in
theorem w12_puts_b27  {G : lu_G} {ρ : Nat → Nat}   (X : lu_X G RX12 cX12_puts 2 0 0) (hret : (lu_me G).sig.returnType = none)   : ∀  (m : lu_M), lu_Ab lu_TM G (lu_Q lu_TM G ρ lu_RVv lu_id) (f12_puts_b27  m) 27 [] [] ρ 0 0 [] m := by
  intro  m
  unfold f12_puts_b27
  exact lu_vret X hret dX12_puts_27
def f12_puts  (m : lu_M) : Option (lu_M) :=
  f12_puts_b2 f12_puts_b27 lu_fu (0 : Int32) m
set_option maxRecDepth 20000 in
theorem c12_puts (l : Launch)    : lu_C lu_TM l yX12_puts cX12_puts 2 none 0 0 (fun ρ sa => [.ref (ρ 0)]) (f12_puts ) lu_RVv lu_id := by
  refine lu_met (cls := RX12) rfl (by decide +kernel) (fun _ _ => Nat.le_of_ble_eq_true rfl) ?_
  intro G ρ m hl X hret
  subst hl
  change lu_Ab lu_TM G (lu_Q lu_TM G ρ lu_RVv lu_id) (f12_puts  m) 0 [(0, .ref (ρ 0))] [] ρ 0 0 [] m
  unfold f12_puts
  refine lu_iconst X dX12_puts_0 (pc2 := 1) rfl ic_0 ?_
  refine lu_istore_n (lv2 := [(1, .int (0 : Int32)), (0, .ref (ρ 0))]) X dX12_puts_1 (pc2 := 2) rfl rfl (by decide) rfl ?_
  exact lu_sub [1, 0] rfl (w12_puts_b2 X hret (w12_puts_b27 X hret) lu_fu (0 : Int32) m)

theorem dX12_putsBack_0 : decode cX12_putsBack 0 = .ok (.iconst 0, 1) := by decide +kernel
theorem dX12_putsBack_1 : decode cX12_putsBack 1 = .ok (.istore_n 1, 1) := by decide +kernel
theorem dX12_putsBack_2 : decode cX12_putsBack 2 = .ok (.iload_n 1, 1) := by decide +kernel
theorem dX12_putsBack_3 : decode cX12_putsBack 3 = .ok (.sipush 368, 3) := by decide +kernel
theorem dX12_putsBack_6 : decode cX12_putsBack 6 = .ok (.if_icmp .ge 21, 3) := by decide +kernel
theorem dX12_putsBack_9 : decode cX12_putsBack 9 = .ok (.aload_n 0, 1) := by decide +kernel
theorem dX12_putsBack_10 : decode cX12_putsBack 10 = .ok (.getfield 7, 3) := by decide +kernel
theorem dX12_putsBack_13 : decode cX12_putsBack 13 = .ok (.iload_n 1, 1) := by decide +kernel
theorem dX12_putsBack_14 : decode cX12_putsBack 14 = .ok (.aload_n 0, 1) := by decide +kernel
theorem dX12_putsBack_15 : decode cX12_putsBack 15 = .ok (.getfield 16, 3) := by decide +kernel
theorem dX12_putsBack_18 : decode cX12_putsBack 18 = .ok (.iload_n 1, 1) := by decide +kernel
theorem dX12_putsBack_19 : decode cX12_putsBack 19 = .ok (.iaload, 1) := by decide +kernel
theorem dX12_putsBack_20 : decode cX12_putsBack 20 = .ok (.iastore, 1) := by decide +kernel
theorem dX12_putsBack_21 : decode cX12_putsBack 21 = .ok (.iinc 1 1, 3) := by decide +kernel
theorem dX12_putsBack_24 : decode cX12_putsBack 24 = .ok (.goto (-22), 3) := by decide +kernel
theorem dX12_putsBack_27 : decode cX12_putsBack 27 = .ok (.return_, 1) := by decide +kernel
def f12_putsBack_b2B (K27 : lu_M → Option (lu_M)) (rec : Int32 → lu_M → Option (lu_M))  (v1 : Int32) (m : lu_M) : Option (lu_M) :=
  if (368 : Int32) ≤ v1 then (K27 m)
  else (lu_gd (lu_ib v1 368) <|
  lu_gd (lu_ib v1 368) <|
  lu_nm (lu_st m 1 v1.toNatClampNeg (m 3 v1.toNatClampNeg)) fun m1 =>
  rec (v1 + (1 : Int32)) m1)
def f12_putsBack_b2 (K27 : lu_M → Option (lu_M))  : Nat → Int32 → lu_M → Option (lu_M)
  | 0, _, _ => none
  | n + 1, v1, m => f12_putsBack_b2B K27 (f12_putsBack_b2 K27 n) v1 m
set_option maxRecDepth 20000 in
theorem w12_putsBack_b2B  {G : lu_G} {ρ : Nat → Nat}  {K27 : lu_M → Option (lu_M)} {rec : Int32 → lu_M → Option (lu_M)} (X : lu_X G RX12 cX12_putsBack 2 0 0) (hret : (lu_me G).sig.returnType = none)  (hK27 : ∀  (m : lu_M), lu_Ab lu_TM G (lu_Q lu_TM G ρ lu_RVv lu_id) (K27 m) 27 [] [] ρ 0 0 [] m) (hrec : ∀ (v1 : Int32) (m : lu_M), lu_Ab lu_TM G (lu_Q lu_TM G ρ lu_RVv lu_id) (rec v1 m) 2 [(0, .ref (ρ 0)), (1, .int v1)] [] ρ 0 0 [] m) : ∀ (v1 : Int32) (m : lu_M), lu_Ab lu_TM G (lu_Q lu_TM G ρ lu_RVv lu_id) (f12_putsBack_b2B K27 rec v1 m) 2 [(0, .ref (ρ 0)), (1, .int v1)] [] ρ 0 0 [] m := by
  intro v1 m
  unfold f12_putsBack_b2B
  refine lu_iload_n X dX12_putsBack_2 (pc2 := 3) rfl rfl 1 rfl ?_
  refine lu_sipush X dX12_putsBack_3 (pc2 := 6) rfl sp_368 ?_
  refine lu_icmp_ge (tgt := 27) X dX12_putsBack_6 (pc2 := 9) rfl (by decide) (fun _ => ?_) (fun _ => ?_)
  · exact lu_sub [] rfl (hK27 m)
  · refine lu_aload_n X dX12_putsBack_9 (pc2 := 10) rfl rfl 0 rfl ?_
    refine lu_getr (r2 := 1) X rfl fl12_7 rfl kM_0 lM_0 dX12_putsBack_10 (pc2 := 13) rfl ?_
    refine lu_iload_n X dX12_putsBack_13 (pc2 := 14) rfl rfl 1 rfl ?_
    refine lu_aload_n X dX12_putsBack_14 (pc2 := 15) rfl rfl 0 rfl ?_
    refine lu_getr (r2 := 3) X rfl fl12_16 rfl kM_0 lM_0 dX12_putsBack_15 (pc2 := 18) rfl ?_
    refine lu_iload_n X dX12_putsBack_18 (pc2 := 19) rfl rfl 1 rfl ?_
    refine lu_iald X kM_3 lM_3 dX12_putsBack_19 (pc2 := 20) rfl ?_
    refine lu_iast X kM_1 lM_1 dX12_putsBack_20 (pc2 := 21) rfl (fun m1 => ?_)
    refine lu_iinc (lv2 := [(1, .int (v1 + (1 : Int32))), (0, .ref (ρ 0))]) X dX12_putsBack_21 (pc2 := 24) rfl 1 rfl (lu_ii _ ic_1) (by decide) rfl ?_
    refine lu_goto (tgt := 2) X dX12_putsBack_24 (by decide) ?_
    exact lu_sub [1, 0] rfl (hrec (v1 + (1 : Int32)) m1)
theorem w12_putsBack_b2  {G : lu_G} {ρ : Nat → Nat}  {K27 : lu_M → Option (lu_M)} (X : lu_X G RX12 cX12_putsBack 2 0 0) (hret : (lu_me G).sig.returnType = none)  (hK27 : ∀  (m : lu_M), lu_Ab lu_TM G (lu_Q lu_TM G ρ lu_RVv lu_id) (K27 m) 27 [] [] ρ 0 0 [] m) : ∀ (n : Nat) (v1 : Int32) (m : lu_M), lu_Ab lu_TM G (lu_Q lu_TM G ρ lu_RVv lu_id) (f12_putsBack_b2 K27 n v1 m) 2 [(0, .ref (ρ 0)), (1, .int v1)] [] ρ 0 0 [] m := by
  intro n
  induction n with
  | zero => intro v1 m; exact lu_none
  | succ n ih => intro v1 m; exact w12_putsBack_b2B X hret hK27 ih v1 m
def f12_putsBack_b27    (m : lu_M) : Option (lu_M) :=
  some m
set_option maxRecDepth 20000 in
theorem w12_putsBack_b27  {G : lu_G} {ρ : Nat → Nat}   (X : lu_X G RX12 cX12_putsBack 2 0 0) (hret : (lu_me G).sig.returnType = none)   : ∀  (m : lu_M), lu_Ab lu_TM G (lu_Q lu_TM G ρ lu_RVv lu_id) (f12_putsBack_b27  m) 27 [] [] ρ 0 0 [] m := by
  intro  m
  unfold f12_putsBack_b27
  exact lu_vret X hret dX12_putsBack_27
def f12_putsBack  (m : lu_M) : Option (lu_M) :=
  f12_putsBack_b2 f12_putsBack_b27 lu_fu (0 : Int32) m
set_option maxRecDepth 20000 in
theorem c12_putsBack (l : Launch)    : lu_C lu_TM l yX12_putsBack cX12_putsBack 2 none 0 0 (fun ρ sa => [.ref (ρ 0)]) (f12_putsBack ) lu_RVv lu_id := by
  refine lu_met (cls := RX12) rfl (by decide +kernel) (fun _ _ => Nat.le_of_ble_eq_true rfl) ?_
  intro G ρ m hl X hret
  subst hl
  change lu_Ab lu_TM G (lu_Q lu_TM G ρ lu_RVv lu_id) (f12_putsBack  m) 0 [(0, .ref (ρ 0))] [] ρ 0 0 [] m
  unfold f12_putsBack
  refine lu_iconst X dX12_putsBack_0 (pc2 := 1) rfl ic_0 ?_
  refine lu_istore_n (lv2 := [(1, .int (0 : Int32)), (0, .ref (ρ 0))]) X dX12_putsBack_1 (pc2 := 2) rfl rfl (by decide) rfl ?_
  exact lu_sub [1, 0] rfl (w12_putsBack_b2 X hret (w12_putsBack_b27 X hret) lu_fu (0 : Int32) m)

theorem dX12_becomes_0 : decode cX12_becomes 0 = .ok (.aload_n 0, 1) := by decide +kernel
theorem dX12_becomes_1 : decode cX12_becomes 1 = .ok (.getfield 7, 3) := by decide +kernel
theorem dX12_becomes_4 : decode cX12_becomes 4 = .ok (.iload_n 1, 1) := by decide +kernel
theorem dX12_becomes_5 : decode cX12_becomes 5 = .ok (.iaload, 1) := by decide +kernel
theorem dX12_becomes_6 : decode cX12_becomes 6 = .ok (.istore_n 3, 1) := by decide +kernel
theorem dX12_becomes_7 : decode cX12_becomes 7 = .ok (.aload_n 0, 1) := by decide +kernel
theorem dX12_becomes_8 : decode cX12_becomes 8 = .ok (.getfield 7, 3) := by decide +kernel
theorem dX12_becomes_11 : decode cX12_becomes 11 = .ok (.iload_n 1, 1) := by decide +kernel
theorem dX12_becomes_12 : decode cX12_becomes 12 = .ok (.iload_n 2, 1) := by decide +kernel
theorem dX12_becomes_13 : decode cX12_becomes 13 = .ok (.iastore, 1) := by decide +kernel
theorem dX12_becomes_14 : decode cX12_becomes 14 = .ok (.iload_n 3, 1) := by decide +kernel
theorem dX12_becomes_15 : decode cX12_becomes 15 = .ok (.ireturn, 1) := by decide +kernel
def f12_becomes (a1 : Int32) (a2 : Int32) (m : lu_M) : Option (Int32 × lu_M) :=
  lu_gd (lu_ib a1 368) <|
  lu_nm ((m 1 a1.toNatClampNeg)) fun x1 =>
  lu_gd (lu_ib a1 368) <|
  lu_nm (lu_st m 1 a1.toNatClampNeg a2) fun m2 =>
  some (x1, m2)
set_option maxRecDepth 20000 in
theorem c12_becomes (l : Launch)   (a1 : Int32) (a2 : Int32) : lu_C lu_TM l yX12_becomes cX12_becomes 4 (some .int) 0 0 (fun ρ sa => [.ref (ρ 0), .int a1, .int a2]) (f12_becomes a1 a2) lu_RVi lu_sn := by
  refine lu_met (cls := RX12) rfl (by decide +kernel) (fun _ _ => Nat.le_of_ble_eq_true rfl) ?_
  intro G ρ m hl X hret
  subst hl
  change lu_Ab lu_TM G (lu_Q lu_TM G ρ lu_RVi lu_sn) (f12_becomes a1 a2 m) 0 [(0, .ref (ρ 0)), (1, .int a1), (2, .int a2)] [] ρ 0 0 [] m
  unfold f12_becomes
  refine lu_aload_n X dX12_becomes_0 (pc2 := 1) rfl rfl 0 rfl ?_
  refine lu_getr (r2 := 1) X rfl fl12_7 rfl kM_0 lM_0 dX12_becomes_1 (pc2 := 4) rfl ?_
  refine lu_iload_n X dX12_becomes_4 (pc2 := 5) rfl rfl 1 rfl ?_
  refine lu_iald X kM_1 lM_1 dX12_becomes_5 (pc2 := 6) rfl ?_
  refine lu_topi (fun x1 => ?_)
  refine lu_istore_n (lv2 := [(3, .int x1), (0, .ref (ρ 0)), (1, .int a1), (2, .int a2)]) X dX12_becomes_6 (pc2 := 7) rfl rfl (by decide) rfl ?_
  refine lu_aload_n X dX12_becomes_7 (pc2 := 8) rfl rfl 1 rfl ?_
  refine lu_getr (r2 := 1) X rfl fl12_7 rfl kM_0 lM_0 dX12_becomes_8 (pc2 := 11) rfl ?_
  refine lu_iload_n X dX12_becomes_11 (pc2 := 12) rfl rfl 2 rfl ?_
  refine lu_iload_n X dX12_becomes_12 (pc2 := 13) rfl rfl 3 rfl ?_
  refine lu_iast X kM_1 lM_1 dX12_becomes_13 (pc2 := 14) rfl (fun m2 => ?_)
  refine lu_iload_n X dX12_becomes_14 (pc2 := 15) rfl rfl 0 rfl ?_
  exact lu_iret X hret dX12_becomes_15

theorem dX12_at_0 : decode cX12_at 0 = .ok (.bipush 8, 2) := by decide +kernel
theorem dX12_at_2 : decode cX12_at 2 = .ok (.iconst 3, 1) := by decide +kernel
theorem dX12_at_3 : decode cX12_at 3 = .ok (.iload_n 0, 1) := by decide +kernel
theorem dX12_at_4 : decode cX12_at 4 = .ok (.imul, 1) := by decide +kernel
theorem dX12_at_5 : decode cX12_at 5 = .ok (.iadd, 1) := by decide +kernel
theorem dX12_at_6 : decode cX12_at 6 = .ok (.iload_n 1, 1) := by decide +kernel
theorem dX12_at_7 : decode cX12_at 7 = .ok (.iadd, 1) := by decide +kernel
theorem dX12_at_8 : decode cX12_at 8 = .ok (.ireturn, 1) := by decide +kernel
def f12_at (a0 : Int32) (a1 : Int32) (m : lu_M) : Option (Int32 × lu_M) :=
  some ((((8 : Int32) + ((3 : Int32) * a0)) + a1), m)
set_option maxRecDepth 20000 in
theorem c12_at (l : Launch)   (a0 : Int32) (a1 : Int32) : lu_C lu_TM l yX12_at cX12_at 2 (some .int) 0 0 (fun ρ sa => [.int a0, .int a1]) (f12_at a0 a1) lu_RVi lu_sn := by
  refine lu_met (cls := RX12) rfl (by decide +kernel) (fun _ _ => Nat.le_of_ble_eq_true rfl) ?_
  intro G ρ m hl X hret
  subst hl
  change lu_Ab lu_TM G (lu_Q lu_TM G ρ lu_RVi lu_sn) (f12_at a0 a1 m) 0 [(0, .int a0), (1, .int a1)] [] ρ 0 0 [] m
  unfold f12_at
  refine lu_bipush X dX12_at_0 (pc2 := 2) rfl bp_8 ?_
  refine lu_iconst X dX12_at_2 (pc2 := 3) rfl ic_3 ?_
  refine lu_iload_n X dX12_at_3 (pc2 := 4) rfl rfl 0 rfl ?_
  refine lu_imul X dX12_at_4 (pc2 := 5) rfl ?_
  refine lu_iadd X dX12_at_5 (pc2 := 6) rfl ?_
  refine lu_iload_n X dX12_at_6 (pc2 := 7) rfl rfl 1 rfl ?_
  refine lu_iadd X dX12_at_7 (pc2 := 8) rfl ?_
  exact lu_iret X hret dX12_at_8

theorem dX12_its_0 : decode cX12_its 0 = .ok (.aload_n 0, 1) := by decide +kernel
theorem dX12_its_1 : decode cX12_its 1 = .ok (.getfield 7, 3) := by decide +kernel
theorem dX12_its_4 : decode cX12_its 4 = .ok (.iload_n 1, 1) := by decide +kernel
theorem dX12_its_5 : decode cX12_its 5 = .ok (.iload_n 2, 1) := by decide +kernel
theorem dX12_its_6 : decode cX12_its 6 = .ok (.invokestatic 68, 3) := by decide +kernel
theorem dX12_its_9 : decode cX12_its 9 = .ok (.iaload, 1) := by decide +kernel
theorem dX12_its_10 : decode cX12_its 10 = .ok (.ireturn, 1) := by decide +kernel
def f12_its (a1 : Int32) (a2 : Int32) (m : lu_M) : Option (Int32 × lu_M) :=
  lu_bi (f12_at a1 a2 m) fun x1 m2 =>
  lu_gd (lu_ib x1 368) <|
  some ((m2 1 x1.toNatClampNeg), m2)
set_option maxRecDepth 20000 in
theorem c12_its (l : Launch)   (a1 : Int32) (a2 : Int32) : lu_C lu_TM l yX12_its cX12_its 3 (some .int) 1 21 (fun ρ sa => [.ref (ρ 0), .int a1, .int a2]) (f12_its a1 a2) lu_RVi lu_sn := by
  refine lu_met (cls := RX12) rfl (by decide +kernel) (fun _ _ => Nat.le_of_ble_eq_true rfl) ?_
  intro G ρ m hl X hret
  subst hl
  change lu_Ab lu_TM G (lu_Q lu_TM G ρ lu_RVi lu_sn) (f12_its a1 a2 m) 0 [(0, .ref (ρ 0)), (1, .int a1), (2, .int a2)] [] ρ 0 0 [] m
  unfold f12_its
  refine lu_aload_n X dX12_its_0 (pc2 := 1) rfl rfl 0 rfl ?_
  refine lu_getr (r2 := 1) X rfl fl12_7 rfl kM_0 lM_0 dX12_its_1 (pc2 := 4) rfl ?_
  refine lu_iload_n X dX12_its_4 (pc2 := 5) rfl rfl 1 rfl ?_
  refine lu_iload_n X dX12_its_5 (pc2 := 6) rfl rfl 2 rfl ?_
  refine lu_invSi X (c12_at _ a1 a2) rfl q1265 mvS_12_at rfl rfl (Nat.le_of_ble_eq_true rfl) (Nat.le_of_ble_eq_true rfl) (Nat.le_of_ble_eq_true rfl) ⟨Nat.zero_le _, Nat.zero_le _⟩ dX12_its_6 (pc2 := 9) rfl rfl (fun x1 m2 => ?_)
  refine lu_iald X kM_1 lM_1 dX12_its_9 (pc2 := 10) rfl ?_
  exact lu_iret X hret dX12_its_10

theorem dX12_spot_0 : decode cX12_spot 0 = .ok (.bipush 26, 2) := by decide +kernel
theorem dX12_spot_2 : decode cX12_spot 2 = .ok (.iconst 5, 1) := by decide +kernel
theorem dX12_spot_3 : decode cX12_spot 3 = .ok (.iload_n 0, 1) := by decide +kernel
theorem dX12_spot_4 : decode cX12_spot 4 = .ok (.imul, 1) := by decide +kernel
theorem dX12_spot_5 : decode cX12_spot 5 = .ok (.iadd, 1) := by decide +kernel
theorem dX12_spot_6 : decode cX12_spot 6 = .ok (.iload_n 1, 1) := by decide +kernel
theorem dX12_spot_7 : decode cX12_spot 7 = .ok (.iadd, 1) := by decide +kernel
theorem dX12_spot_8 : decode cX12_spot 8 = .ok (.ireturn, 1) := by decide +kernel
def f12_spot (a0 : Int32) (a1 : Int32) (m : lu_M) : Option (Int32 × lu_M) :=
  some ((((26 : Int32) + ((5 : Int32) * a0)) + a1), m)
set_option maxRecDepth 20000 in
theorem c12_spot (l : Launch)   (a0 : Int32) (a1 : Int32) : lu_C lu_TM l yX12_spot cX12_spot 2 (some .int) 0 0 (fun ρ sa => [.int a0, .int a1]) (f12_spot a0 a1) lu_RVi lu_sn := by
  refine lu_met (cls := RX12) rfl (by decide +kernel) (fun _ _ => Nat.le_of_ble_eq_true rfl) ?_
  intro G ρ m hl X hret
  subst hl
  change lu_Ab lu_TM G (lu_Q lu_TM G ρ lu_RVi lu_sn) (f12_spot a0 a1 m) 0 [(0, .int a0), (1, .int a1)] [] ρ 0 0 [] m
  unfold f12_spot
  refine lu_bipush X dX12_spot_0 (pc2 := 2) rfl bp_26 ?_
  refine lu_iconst X dX12_spot_2 (pc2 := 3) rfl ic_5 ?_
  refine lu_iload_n X dX12_spot_3 (pc2 := 4) rfl rfl 0 rfl ?_
  refine lu_imul X dX12_spot_4 (pc2 := 5) rfl ?_
  refine lu_iadd X dX12_spot_5 (pc2 := 6) rfl ?_
  refine lu_iload_n X dX12_spot_6 (pc2 := 7) rfl rfl 1 rfl ?_
  refine lu_iadd X dX12_spot_7 (pc2 := 8) rfl ?_
  exact lu_iret X hret dX12_spot_8

theorem dX12_deedIs_0 : decode cX12_deedIs 0 = .ok (.aload_n 0, 1) := by decide +kernel
theorem dX12_deedIs_1 : decode cX12_deedIs 1 = .ok (.getfield 7, 3) := by decide +kernel
theorem dX12_deedIs_4 : decode cX12_deedIs 4 = .ok (.iload_n 1, 1) := by decide +kernel
theorem dX12_deedIs_5 : decode cX12_deedIs 5 = .ok (.iload_n 2, 1) := by decide +kernel
theorem dX12_deedIs_6 : decode cX12_deedIs 6 = .ok (.invokestatic 72, 3) := by decide +kernel
theorem dX12_deedIs_9 : decode cX12_deedIs 9 = .ok (.iaload, 1) := by decide +kernel
theorem dX12_deedIs_10 : decode cX12_deedIs 10 = .ok (.ireturn, 1) := by decide +kernel
def f12_deedIs (a1 : Int32) (a2 : Int32) (m : lu_M) : Option (Int32 × lu_M) :=
  lu_bi (f12_spot a1 a2 m) fun x1 m2 =>
  lu_gd (lu_ib x1 368) <|
  some ((m2 1 x1.toNatClampNeg), m2)
set_option maxRecDepth 20000 in
theorem c12_deedIs (l : Launch)   (a1 : Int32) (a2 : Int32) : lu_C lu_TM l yX12_deedIs cX12_deedIs 3 (some .int) 1 21 (fun ρ sa => [.ref (ρ 0), .int a1, .int a2]) (f12_deedIs a1 a2) lu_RVi lu_sn := by
  refine lu_met (cls := RX12) rfl (by decide +kernel) (fun _ _ => Nat.le_of_ble_eq_true rfl) ?_
  intro G ρ m hl X hret
  subst hl
  change lu_Ab lu_TM G (lu_Q lu_TM G ρ lu_RVi lu_sn) (f12_deedIs a1 a2 m) 0 [(0, .ref (ρ 0)), (1, .int a1), (2, .int a2)] [] ρ 0 0 [] m
  unfold f12_deedIs
  refine lu_aload_n X dX12_deedIs_0 (pc2 := 1) rfl rfl 0 rfl ?_
  refine lu_getr (r2 := 1) X rfl fl12_7 rfl kM_0 lM_0 dX12_deedIs_1 (pc2 := 4) rfl ?_
  refine lu_iload_n X dX12_deedIs_4 (pc2 := 5) rfl rfl 1 rfl ?_
  refine lu_iload_n X dX12_deedIs_5 (pc2 := 6) rfl rfl 2 rfl ?_
  refine lu_invSi X (c12_spot _ a1 a2) rfl q1288 mvS_12_spot rfl rfl (Nat.le_of_ble_eq_true rfl) (Nat.le_of_ble_eq_true rfl) (Nat.le_of_ble_eq_true rfl) ⟨Nat.zero_le _, Nat.zero_le _⟩ dX12_deedIs_6 (pc2 := 9) rfl rfl (fun x1 m2 => ?_)
  refine lu_iald X kM_1 lM_1 dX12_deedIs_9 (pc2 := 10) rfl ?_
  exact lu_iret X hret dX12_deedIs_10

theorem dX12_isKind_0 : decode cX12_isKind 0 = .ok (.iload_n 0, 1) := by decide +kernel
theorem dX12_isKind_1 : decode cX12_isKind 1 = .ok (.i2l, 1) := by decide +kernel
theorem dX12_isKind_2 : decode cX12_isKind 2 = .ok (.lconst 1, 1) := by decide +kernel
theorem dX12_isKind_3 : decode cX12_isKind 3 = .ok (.ldc2_w 75, 3) := by decide +kernel
theorem dX12_isKind_6 : decode cX12_isKind 6 = .ok (.invokestatic 64, 3) := by decide +kernel
theorem dX12_isKind_9 : decode cX12_isKind 9 = .ok (.ireturn, 1) := by decide +kernel
def f12_isKind (a0 : Int32) (m : lu_M) : Option (Int32 × lu_M) :=
  lu_bi (f12_in a0.toInt64 (1 : Int64) (5 : Int64) m) fun x1 m2 =>
  lu_gd (decide (x1 = 0 ∨ x1 = 1)) (some (x1, m2))
set_option maxRecDepth 20000 in
theorem c12_isKind (l : Launch)   (a0 : Int32) : lu_C lu_TM l yX12_isKind cX12_isKind 1 (some .boolean) 1 25 (fun ρ sa => [.int a0]) (f12_isKind a0) lu_RVi lu_sn := by
  refine lu_met (cls := RX12) rfl (by decide +kernel) (fun _ _ => Nat.le_of_ble_eq_true rfl) ?_
  intro G ρ m hl X hret
  subst hl
  change lu_Ab lu_TM G (lu_Q lu_TM G ρ lu_RVi lu_sn) (f12_isKind a0 m) 0 [(0, .int a0)] [] ρ 0 0 [] m
  unfold f12_isKind
  refine lu_iload_n X dX12_isKind_0 (pc2 := 1) rfl rfl 0 rfl ?_
  refine lu_i2l X dX12_isKind_1 (pc2 := 2) rfl ?_
  refine lu_lconst (v := (1 : Int64)) X dX12_isKind_2 (pc2 := 3) rfl (by decide) ?_
  refine lu_ldc2 X q1260 dX12_isKind_3 (pc2 := 6) rfl ?_
  refine lu_invSi X (c12_in _ a0.toInt64 (1 : Int64) (5 : Int64)) rfl q1261 mvS_12_in rfl rfl (Nat.le_of_ble_eq_true rfl) (Nat.le_of_ble_eq_true rfl) (Nat.le_of_ble_eq_true rfl) ⟨Nat.zero_le _, Nat.zero_le _⟩ dX12_isKind_6 (pc2 := 9) rfl rfl (fun x1 m2 => ?_)
  exact lu_zretG X hret dX12_isKind_9

theorem dX12_person_0 : decode cX12_person 0 = .ok (.iload_n 1, 1) := by decide +kernel
theorem dX12_person_1 : decode cX12_person 1 = .ok (.invokestatic 77, 3) := by decide +kernel
theorem dX12_person_4 : decode cX12_person 4 = .ok (.ifCond .eq 27, 3) := by decide +kernel
theorem dX12_person_7 : decode cX12_person 7 = .ok (.iload_n 2, 1) := by decide +kernel
theorem dX12_person_8 : decode cX12_person 8 = .ok (.i2l, 1) := by decide +kernel
theorem dX12_person_9 : decode cX12_person 9 = .ok (.lconst 1, 1) := by decide +kernel
theorem dX12_person_10 : decode cX12_person 10 = .ok (.ldc2_w 81, 3) := by decide +kernel
theorem dX12_person_13 : decode cX12_person 13 = .ok (.invokestatic 64, 3) := by decide +kernel
theorem dX12_person_16 : decode cX12_person 16 = .ok (.ifCond .eq 15, 3) := by decide +kernel
theorem dX12_person_19 : decode cX12_person 19 = .ok (.iload_n 3, 1) := by decide +kernel
theorem dX12_person_20 : decode cX12_person 20 = .ok (.i2l, 1) := by decide +kernel
theorem dX12_person_21 : decode cX12_person 21 = .ok (.lconst 1, 1) := by decide +kernel
theorem dX12_person_22 : decode cX12_person 22 = .ok (.ldc2_w 81, 3) := by decide +kernel
theorem dX12_person_25 : decode cX12_person 25 = .ok (.invokestatic 64, 3) := by decide +kernel
theorem dX12_person_28 : decode cX12_person 28 = .ok (.ifCond .ne 5, 3) := by decide +kernel
theorem dX12_person_31 : decode cX12_person 31 = .ok (.iconst (-1), 1) := by decide +kernel
theorem dX12_person_32 : decode cX12_person 32 = .ok (.ireturn, 1) := by decide +kernel
theorem dX12_person_33 : decode cX12_person 33 = .ok (.aload_n 0, 1) := by decide +kernel
theorem dX12_person_34 : decode cX12_person 34 = .ok (.getfield 7, 3) := by decide +kernel
theorem dX12_person_37 : decode cX12_person 37 = .ok (.iconst 0, 1) := by decide +kernel
theorem dX12_person_38 : decode cX12_person 38 = .ok (.iaload, 1) := by decide +kernel
theorem dX12_person_39 : decode cX12_person 39 = .ok (.bipush 6, 2) := by decide +kernel
theorem dX12_person_41 : decode cX12_person 41 = .ok (.if_icmp .ne 6, 3) := by decide +kernel
theorem dX12_person_44 : decode cX12_person 44 = .ok (.bipush (-2), 2) := by decide +kernel
theorem dX12_person_46 : decode cX12_person 46 = .ok (.ireturn, 1) := by decide +kernel
theorem dX12_person_47 : decode cX12_person 47 = .ok (.aload_n 0, 1) := by decide +kernel
theorem dX12_person_48 : decode cX12_person 48 = .ok (.getfield 7, 3) := by decide +kernel
theorem dX12_person_51 : decode cX12_person 51 = .ok (.iconst 0, 1) := by decide +kernel
theorem dX12_person_52 : decode cX12_person 52 = .ok (.iaload, 1) := by decide +kernel
theorem dX12_person_53 : decode cX12_person 53 = .ok (.istore 4, 2) := by decide +kernel
theorem dX12_person_55 : decode cX12_person 55 = .ok (.aload_n 0, 1) := by decide +kernel
theorem dX12_person_56 : decode cX12_person 56 = .ok (.getfield 7, 3) := by decide +kernel
theorem dX12_person_59 : decode cX12_person 59 = .ok (.iload 4, 2) := by decide +kernel
theorem dX12_person_61 : decode cX12_person 61 = .ok (.iconst 0, 1) := by decide +kernel
theorem dX12_person_62 : decode cX12_person 62 = .ok (.invokestatic 68, 3) := by decide +kernel
theorem dX12_person_65 : decode cX12_person 65 = .ok (.iload_n 1, 1) := by decide +kernel
theorem dX12_person_66 : decode cX12_person 66 = .ok (.iastore, 1) := by decide +kernel
theorem dX12_person_67 : decode cX12_person 67 = .ok (.aload_n 0, 1) := by decide +kernel
theorem dX12_person_68 : decode cX12_person 68 = .ok (.getfield 7, 3) := by decide +kernel
theorem dX12_person_71 : decode cX12_person 71 = .ok (.iload 4, 2) := by decide +kernel
theorem dX12_person_73 : decode cX12_person 73 = .ok (.iconst 1, 1) := by decide +kernel
theorem dX12_person_74 : decode cX12_person 74 = .ok (.invokestatic 68, 3) := by decide +kernel
theorem dX12_person_77 : decode cX12_person 77 = .ok (.iload_n 2, 1) := by decide +kernel
theorem dX12_person_78 : decode cX12_person 78 = .ok (.iastore, 1) := by decide +kernel
theorem dX12_person_79 : decode cX12_person 79 = .ok (.aload_n 0, 1) := by decide +kernel
theorem dX12_person_80 : decode cX12_person 80 = .ok (.getfield 7, 3) := by decide +kernel
theorem dX12_person_83 : decode cX12_person 83 = .ok (.iload 4, 2) := by decide +kernel
theorem dX12_person_85 : decode cX12_person 85 = .ok (.iconst 2, 1) := by decide +kernel
theorem dX12_person_86 : decode cX12_person 86 = .ok (.invokestatic 68, 3) := by decide +kernel
theorem dX12_person_89 : decode cX12_person 89 = .ok (.iload_n 3, 1) := by decide +kernel
theorem dX12_person_90 : decode cX12_person 90 = .ok (.iastore, 1) := by decide +kernel
theorem dX12_person_91 : decode cX12_person 91 = .ok (.aload_n 0, 1) := by decide +kernel
theorem dX12_person_92 : decode cX12_person 92 = .ok (.getfield 7, 3) := by decide +kernel
theorem dX12_person_95 : decode cX12_person 95 = .ok (.iconst 0, 1) := by decide +kernel
theorem dX12_person_96 : decode cX12_person 96 = .ok (.dup2, 1) := by decide +kernel
theorem dX12_person_97 : decode cX12_person 97 = .ok (.iaload, 1) := by decide +kernel
theorem dX12_person_98 : decode cX12_person 98 = .ok (.iconst 1, 1) := by decide +kernel
theorem dX12_person_99 : decode cX12_person 99 = .ok (.iadd, 1) := by decide +kernel
theorem dX12_person_100 : decode cX12_person 100 = .ok (.iastore, 1) := by decide +kernel
theorem dX12_person_101 : decode cX12_person 101 = .ok (.iload 4, 2) := by decide +kernel
theorem dX12_person_103 : decode cX12_person 103 = .ok (.ireturn, 1) := by decide +kernel
def f12_person_b31  (a1 : Int32) (a2 : Int32) (a3 : Int32)  (m : lu_M) : Option (Int32 × lu_M) :=
  some ((-1 : Int32), m)
set_option maxRecDepth 20000 in
theorem w12_person_b31  {G : lu_G} {ρ : Nat → Nat} {a1 : Int32} {a2 : Int32} {a3 : Int32}  (X : lu_X G RX12 cX12_person 5 2 45) (hret : (lu_me G).sig.returnType = (some .int))   : ∀  (m : lu_M), lu_Ab lu_TM G (lu_Q lu_TM G ρ lu_RVi lu_sn) (f12_person_b31 a1 a2 a3 m) 31 [] [] ρ 0 0 [] m := by
  intro  m
  unfold f12_person_b31
  refine lu_iconst X dX12_person_31 (pc2 := 32) rfl ic_m1 ?_
  exact lu_iret X hret dX12_person_32
def f12_person (a1 : Int32) (a2 : Int32) (a3 : Int32) (m : lu_M) : Option (Int32 × lu_M) :=
  lu_bi (f12_isKind a1 m) fun x1 m2 =>
  if x1 = 0 then (f12_person_b31 a1 a2 a3 m2)
  else (lu_bi (f12_in a2.toInt64 (1 : Int64) (9 : Int64) m2) fun x3 m4 =>
  if x3 = 0 then (f12_person_b31 a1 a2 a3 m4)
  else (lu_bi (f12_in a3.toInt64 (1 : Int64) (9 : Int64) m4) fun x5 m6 =>
  if x5 = 0 then (f12_person_b31 a1 a2 a3 m6)
  else (if (m6 1 0) = (6 : Int32) then (some ((-2 : Int32), m6))
  else (lu_nm ((m6 1 0)) fun x7 =>
  lu_bi (f12_at x7 (0 : Int32) m6) fun x8 m9 =>
  lu_gd (lu_ib x8 368) <|
  lu_nm (lu_st m9 1 x8.toNatClampNeg a1) fun m10 =>
  lu_bi (f12_at x7 (1 : Int32) m10) fun x11 m12 =>
  lu_gd (lu_ib x11 368) <|
  lu_nm (lu_st m12 1 x11.toNatClampNeg a2) fun m13 =>
  lu_bi (f12_at x7 (2 : Int32) m13) fun x14 m15 =>
  lu_gd (lu_ib x14 368) <|
  lu_nm (lu_st m15 1 x14.toNatClampNeg a3) fun m16 =>
  lu_nm (lu_st m16 1 0 ((m16 1 0) + (1 : Int32))) fun m17 =>
  some (x7, m17)))))
set_option maxRecDepth 20000 in
theorem c12_person (l : Launch)   (a1 : Int32) (a2 : Int32) (a3 : Int32) : lu_C lu_TM l yX12_person cX12_person 5 (some .int) 2 45 (fun ρ sa => [.ref (ρ 0), .int a1, .int a2, .int a3]) (f12_person a1 a2 a3) lu_RVi lu_sn := by
  refine lu_met (cls := RX12) rfl (by decide +kernel) (fun _ _ => Nat.le_of_ble_eq_true rfl) ?_
  intro G ρ m hl X hret
  subst hl
  change lu_Ab lu_TM G (lu_Q lu_TM G ρ lu_RVi lu_sn) (f12_person a1 a2 a3 m) 0 [(0, .ref (ρ 0)), (1, .int a1), (2, .int a2), (3, .int a3)] [] ρ 0 0 [] m
  unfold f12_person
  refine lu_iload_n X dX12_person_0 (pc2 := 1) rfl rfl 1 rfl ?_
  refine lu_invSi X (c12_isKind _ a1) rfl q1257 mvS_12_isKind rfl rfl (Nat.le_of_ble_eq_true rfl) (Nat.le_of_ble_eq_true rfl) (Nat.le_of_ble_eq_true rfl) ⟨Nat.zero_le _, Nat.zero_le _⟩ dX12_person_1 (pc2 := 4) rfl rfl (fun x1 m2 => ?_)
  refine lu_if_eq (tgt := 31) X dX12_person_4 (pc2 := 7) rfl (by decide) (fun _ => ?_) (fun _ => ?_)
  · exact lu_sub [] rfl (w12_person_b31 X hret m2)
  · refine lu_iload_n X dX12_person_7 (pc2 := 8) rfl rfl 2 rfl ?_
    refine lu_i2l X dX12_person_8 (pc2 := 9) rfl ?_
    refine lu_lconst (v := (1 : Int64)) X dX12_person_9 (pc2 := 10) rfl (by decide) ?_
    refine lu_ldc2 X q1264 dX12_person_10 (pc2 := 13) rfl ?_
    refine lu_invSi X (c12_in _ a2.toInt64 (1 : Int64) (9 : Int64)) rfl q1261 mvS_12_in rfl rfl (Nat.le_of_ble_eq_true rfl) (Nat.le_of_ble_eq_true rfl) (Nat.le_of_ble_eq_true rfl) ⟨Nat.zero_le _, Nat.zero_le _⟩ dX12_person_13 (pc2 := 16) rfl rfl (fun x3 m4 => ?_)
    refine lu_if_eq (tgt := 31) X dX12_person_16 (pc2 := 19) rfl (by decide) (fun _ => ?_) (fun _ => ?_)
    · exact lu_sub [] rfl (w12_person_b31 X hret m4)
    · refine lu_iload_n X dX12_person_19 (pc2 := 20) rfl rfl 3 rfl ?_
      refine lu_i2l X dX12_person_20 (pc2 := 21) rfl ?_
      refine lu_lconst (v := (1 : Int64)) X dX12_person_21 (pc2 := 22) rfl (by decide) ?_
      refine lu_ldc2 X q1264 dX12_person_22 (pc2 := 25) rfl ?_
      refine lu_invSi X (c12_in _ a3.toInt64 (1 : Int64) (9 : Int64)) rfl q1261 mvS_12_in rfl rfl (Nat.le_of_ble_eq_true rfl) (Nat.le_of_ble_eq_true rfl) (Nat.le_of_ble_eq_true rfl) ⟨Nat.zero_le _, Nat.zero_le _⟩ dX12_person_25 (pc2 := 28) rfl rfl (fun x5 m6 => ?_)
      refine lu_if_ne (tgt := 33) X dX12_person_28 (pc2 := 31) rfl (by decide) (fun _ => ?_) (fun _ => ?_)
      · refine lu_aload_n X dX12_person_33 (pc2 := 34) rfl rfl 0 rfl ?_
        refine lu_getr (r2 := 1) X rfl fl12_7 rfl kM_0 lM_0 dX12_person_34 (pc2 := 37) rfl ?_
        refine lu_iconst X dX12_person_37 (pc2 := 38) rfl ic_0 ?_
        refine lu_ialdK (q := 0) X (by decide) kM_1 lM_1 dX12_person_38 (pc2 := 39) rfl ?_
        refine lu_bipush X dX12_person_39 (pc2 := 41) rfl bp_6 ?_
        refine lu_icmp_ne (tgt := 47) X dX12_person_41 (pc2 := 44) rfl (by decide) (fun _ => ?_) (fun _ => ?_)
        · refine lu_aload_n X dX12_person_47 (pc2 := 48) rfl rfl 0 rfl ?_
          refine lu_getr (r2 := 1) X rfl fl12_7 rfl kM_0 lM_0 dX12_person_48 (pc2 := 51) rfl ?_
          refine lu_iconst X dX12_person_51 (pc2 := 52) rfl ic_0 ?_
          refine lu_ialdK (q := 0) X (by decide) kM_1 lM_1 dX12_person_52 (pc2 := 53) rfl ?_
          refine lu_topi (fun x7 => ?_)
          refine lu_istore (lv2 := [(4, .int x7), (0, .ref (ρ 0)), (1, .int a1), (2, .int a2), (3, .int a3)]) X dX12_person_53 (pc2 := 55) rfl (by decide) rfl ?_
          refine lu_aload_n X dX12_person_55 (pc2 := 56) rfl rfl 1 rfl ?_
          refine lu_getr (r2 := 1) X rfl fl12_7 rfl kM_0 lM_0 dX12_person_56 (pc2 := 59) rfl ?_
          refine lu_iload X dX12_person_59 (pc2 := 61) rfl 0 rfl ?_
          refine lu_iconst X dX12_person_61 (pc2 := 62) rfl ic_0 ?_
          refine lu_invSi X (c12_at _ x7 (0 : Int32)) rfl q1265 mvS_12_at rfl rfl (Nat.le_of_ble_eq_true rfl) (Nat.le_of_ble_eq_true rfl) (Nat.le_of_ble_eq_true rfl) ⟨Nat.zero_le _, Nat.zero_le _⟩ dX12_person_62 (pc2 := 65) rfl rfl (fun x8 m9 => ?_)
          refine lu_iload_n X dX12_person_65 (pc2 := 66) rfl rfl 2 rfl ?_
          refine lu_iast X kM_1 lM_1 dX12_person_66 (pc2 := 67) rfl (fun m10 => ?_)
          refine lu_aload_n X dX12_person_67 (pc2 := 68) rfl rfl 1 rfl ?_
          refine lu_getr (r2 := 1) X rfl fl12_7 rfl kM_0 lM_0 dX12_person_68 (pc2 := 71) rfl ?_
          refine lu_iload X dX12_person_71 (pc2 := 73) rfl 0 rfl ?_
          refine lu_iconst X dX12_person_73 (pc2 := 74) rfl ic_1 ?_
          refine lu_invSi X (c12_at _ x7 (1 : Int32)) rfl q1265 mvS_12_at rfl rfl (Nat.le_of_ble_eq_true rfl) (Nat.le_of_ble_eq_true rfl) (Nat.le_of_ble_eq_true rfl) ⟨Nat.zero_le _, Nat.zero_le _⟩ dX12_person_74 (pc2 := 77) rfl rfl (fun x11 m12 => ?_)
          refine lu_iload_n X dX12_person_77 (pc2 := 78) rfl rfl 3 rfl ?_
          refine lu_iast X kM_1 lM_1 dX12_person_78 (pc2 := 79) rfl (fun m13 => ?_)
          refine lu_aload_n X dX12_person_79 (pc2 := 80) rfl rfl 1 rfl ?_
          refine lu_getr (r2 := 1) X rfl fl12_7 rfl kM_0 lM_0 dX12_person_80 (pc2 := 83) rfl ?_
          refine lu_iload X dX12_person_83 (pc2 := 85) rfl 0 rfl ?_
          refine lu_iconst X dX12_person_85 (pc2 := 86) rfl ic_2 ?_
          refine lu_invSi X (c12_at _ x7 (2 : Int32)) rfl q1265 mvS_12_at rfl rfl (Nat.le_of_ble_eq_true rfl) (Nat.le_of_ble_eq_true rfl) (Nat.le_of_ble_eq_true rfl) ⟨Nat.zero_le _, Nat.zero_le _⟩ dX12_person_86 (pc2 := 89) rfl rfl (fun x14 m15 => ?_)
          refine lu_iload_n X dX12_person_89 (pc2 := 90) rfl rfl 4 rfl ?_
          refine lu_iast X kM_1 lM_1 dX12_person_90 (pc2 := 91) rfl (fun m16 => ?_)
          refine lu_aload_n X dX12_person_91 (pc2 := 92) rfl rfl 1 rfl ?_
          refine lu_getr (r2 := 1) X rfl fl12_7 rfl kM_0 lM_0 dX12_person_92 (pc2 := 95) rfl ?_
          refine lu_iconst X dX12_person_95 (pc2 := 96) rfl ic_0 ?_
          refine lu_dup2 X dX12_person_96 (pc2 := 97) rfl rfl rfl ?_
          refine lu_ialdK (q := 0) X (by decide) kM_1 lM_1 dX12_person_97 (pc2 := 98) rfl ?_
          refine lu_iconst X dX12_person_98 (pc2 := 99) rfl ic_1 ?_
          refine lu_iadd X dX12_person_99 (pc2 := 100) rfl ?_
          refine lu_iastK (q := 0) X (by decide) kM_1 lM_1 dX12_person_100 (pc2 := 101) rfl (fun m17 => ?_)
          refine lu_iload X dX12_person_101 (pc2 := 103) rfl 0 rfl ?_
          exact lu_iret X hret dX12_person_103
        · refine lu_bipush X dX12_person_44 (pc2 := 46) rfl bp_m2 ?_
          exact lu_iret X hret dX12_person_46
      · exact lu_sub [] rfl (w12_person_b31 X hret m6)

theorem dX12_termOf_0 : decode cX12_termOf 0 = .ok (.iload_n 0, 1) := by decide +kernel
theorem dX12_termOf_1 : decode cX12_termOf 1 = .ok (.tableswitch 50 2 5 #[31, 35, 41, 45], 31) := by decide +kernel
theorem dX12_termOf_32 : decode cX12_termOf 32 = .ok (.iconst 2, 1) := by decide +kernel
theorem dX12_termOf_33 : decode cX12_termOf 33 = .ok (.iload_n 1, 1) := by decide +kernel
theorem dX12_termOf_34 : decode cX12_termOf 34 = .ok (.imul, 1) := by decide +kernel
theorem dX12_termOf_35 : decode cX12_termOf 35 = .ok (.ireturn, 1) := by decide +kernel
theorem dX12_termOf_36 : decode cX12_termOf 36 = .ok (.iconst 2, 1) := by decide +kernel
theorem dX12_termOf_37 : decode cX12_termOf 37 = .ok (.iload_n 1, 1) := by decide +kernel
theorem dX12_termOf_38 : decode cX12_termOf 38 = .ok (.imul, 1) := by decide +kernel
theorem dX12_termOf_39 : decode cX12_termOf 39 = .ok (.iconst 1, 1) := by decide +kernel
theorem dX12_termOf_40 : decode cX12_termOf 40 = .ok (.isub, 1) := by decide +kernel
theorem dX12_termOf_41 : decode cX12_termOf 41 = .ok (.ireturn, 1) := by decide +kernel
theorem dX12_termOf_42 : decode cX12_termOf 42 = .ok (.iload_n 1, 1) := by decide +kernel
theorem dX12_termOf_43 : decode cX12_termOf 43 = .ok (.iconst 2, 1) := by decide +kernel
theorem dX12_termOf_44 : decode cX12_termOf 44 = .ok (.iadd, 1) := by decide +kernel
theorem dX12_termOf_45 : decode cX12_termOf 45 = .ok (.ireturn, 1) := by decide +kernel
theorem dX12_termOf_46 : decode cX12_termOf 46 = .ok (.iload_n 1, 1) := by decide +kernel
theorem dX12_termOf_47 : decode cX12_termOf 47 = .ok (.bipush 11, 2) := by decide +kernel
theorem dX12_termOf_49 : decode cX12_termOf 49 = .ok (.iadd, 1) := by decide +kernel
theorem dX12_termOf_50 : decode cX12_termOf 50 = .ok (.ireturn, 1) := by decide +kernel
theorem dX12_termOf_51 : decode cX12_termOf 51 = .ok (.iload_n 1, 1) := by decide +kernel
theorem dX12_termOf_52 : decode cX12_termOf 52 = .ok (.ireturn, 1) := by decide +kernel
def f12_termOf (a0 : Int32) (a1 : Int32) (m : lu_M) : Option (Int32 × lu_M) :=
  if a0 = (2 : Int32) then (some (((2 : Int32) * a1), m))
  else (if a0 = (3 : Int32) then (some ((((2 : Int32) * a1) - (1 : Int32)), m))
  else (if a0 = (4 : Int32) then (some ((a1 + (2 : Int32)), m))
  else (if a0 = (5 : Int32) then (some ((a1 + (11 : Int32)), m))
  else (some (a1, m)))))
set_option maxRecDepth 20000 in
theorem c12_termOf (l : Launch)   (a0 : Int32) (a1 : Int32) : lu_C lu_TM l yX12_termOf cX12_termOf 2 (some .int) 0 0 (fun ρ sa => [.int a0, .int a1]) (f12_termOf a0 a1) lu_RVi lu_sn := by
  refine lu_met (cls := RX12) rfl (by decide +kernel) (fun _ _ => Nat.le_of_ble_eq_true rfl) ?_
  intro G ρ m hl X hret
  subst hl
  change lu_Ab lu_TM G (lu_Q lu_TM G ρ lu_RVi lu_sn) (f12_termOf a0 a1 m) 0 [(0, .int a0), (1, .int a1)] [] ρ 0 0 [] m
  unfold f12_termOf
  refine lu_iload_n X dX12_termOf_0 (pc2 := 1) rfl rfl 0 rfl ?_
  refine lu_ite (fun c0 => ?_) (fun c0 => ?_)
  · refine lu_tsIn X c0 dX12_termOf_1 (tgt := 32) (by decide) (by decide) rfl (by decide) ?_
    refine lu_iconst X dX12_termOf_32 (pc2 := 33) rfl ic_2 ?_
    refine lu_iload_n X dX12_termOf_33 (pc2 := 34) rfl rfl 1 rfl ?_
    refine lu_imul X dX12_termOf_34 (pc2 := 35) rfl ?_
    exact lu_iret X hret dX12_termOf_35
  · refine lu_ite (fun c1 => ?_) (fun c1 => ?_)
    · refine lu_tsIn X c1 dX12_termOf_1 (tgt := 36) (by decide) (by decide) rfl (by decide) ?_
      refine lu_iconst X dX12_termOf_36 (pc2 := 37) rfl ic_2 ?_
      refine lu_iload_n X dX12_termOf_37 (pc2 := 38) rfl rfl 1 rfl ?_
      refine lu_imul X dX12_termOf_38 (pc2 := 39) rfl ?_
      refine lu_iconst X dX12_termOf_39 (pc2 := 40) rfl ic_1 ?_
      refine lu_isub X dX12_termOf_40 (pc2 := 41) rfl ?_
      exact lu_iret X hret dX12_termOf_41
    · refine lu_ite (fun c2 => ?_) (fun c2 => ?_)
      · refine lu_tsIn X c2 dX12_termOf_1 (tgt := 42) (by decide) (by decide) rfl (by decide) ?_
        refine lu_iload_n X dX12_termOf_42 (pc2 := 43) rfl rfl 1 rfl ?_
        refine lu_iconst X dX12_termOf_43 (pc2 := 44) rfl ic_2 ?_
        refine lu_iadd X dX12_termOf_44 (pc2 := 45) rfl ?_
        exact lu_iret X hret dX12_termOf_45
      · refine lu_ite (fun c3 => ?_) (fun c3 => ?_)
        · refine lu_tsIn X c3 dX12_termOf_1 (tgt := 46) (by decide) (by decide) rfl (by decide) ?_
          refine lu_iload_n X dX12_termOf_46 (pc2 := 47) rfl rfl 1 rfl ?_
          refine lu_bipush X dX12_termOf_47 (pc2 := 49) rfl bp_11 ?_
          refine lu_iadd X dX12_termOf_49 (pc2 := 50) rfl ?_
          exact lu_iret X hret dX12_termOf_50
        · refine lu_tsOut (tgt := 51) X dX12_termOf_1 (by have h0 := lv_neT c0 (a := 2) (by decide); have h1 := lv_neT c1 (a := 3) (by decide); have h2 := lv_neT c2 (a := 4) (by decide); have h3 := lv_neT c3 (a := 5) (by decide); omega) (by decide) ?_
          refine lu_iload_n X dX12_termOf_51 (pc2 := 52) rfl rfl 1 rfl ?_
          exact lu_iret X hret dX12_termOf_52

theorem dX12_pullOf_0 : decode cX12_pullOf 0 = .ok (.iload_n 0, 1) := by decide +kernel
theorem dX12_pullOf_1 : decode cX12_pullOf 1 = .ok (.tableswitch 71 1 5 #[35, 71, 48, 52, 56], 35) := by decide +kernel
theorem dX12_pullOf_36 : decode cX12_pullOf 36 = .ok (.iload_n 2, 1) := by decide +kernel
theorem dX12_pullOf_37 : decode cX12_pullOf 37 = .ok (.iconst 3, 1) := by decide +kernel
theorem dX12_pullOf_38 : decode cX12_pullOf 38 = .ok (.irem, 1) := by decide +kernel
theorem dX12_pullOf_39 : decode cX12_pullOf 39 = .ok (.iconst 2, 1) := by decide +kernel
theorem dX12_pullOf_40 : decode cX12_pullOf 40 = .ok (.if_icmp .ne 7, 3) := by decide +kernel
theorem dX12_pullOf_43 : decode cX12_pullOf 43 = .ok (.iconst 0, 1) := by decide +kernel
theorem dX12_pullOf_44 : decode cX12_pullOf 44 = .ok (.goto 4, 3) := by decide +kernel
theorem dX12_pullOf_47 : decode cX12_pullOf 47 = .ok (.iload_n 1, 1) := by decide +kernel
theorem dX12_pullOf_48 : decode cX12_pullOf 48 = .ok (.ireturn, 1) := by decide +kernel
theorem dX12_pullOf_49 : decode cX12_pullOf 49 = .ok (.iload_n 1, 1) := by decide +kernel
theorem dX12_pullOf_50 : decode cX12_pullOf 50 = .ok (.iconst 1, 1) := by decide +kernel
theorem dX12_pullOf_51 : decode cX12_pullOf 51 = .ok (.iadd, 1) := by decide +kernel
theorem dX12_pullOf_52 : decode cX12_pullOf 52 = .ok (.ireturn, 1) := by decide +kernel
theorem dX12_pullOf_53 : decode cX12_pullOf 53 = .ok (.iload_n 1, 1) := by decide +kernel
theorem dX12_pullOf_54 : decode cX12_pullOf 54 = .ok (.iconst 2, 1) := by decide +kernel
theorem dX12_pullOf_55 : decode cX12_pullOf 55 = .ok (.idiv, 1) := by decide +kernel
theorem dX12_pullOf_56 : decode cX12_pullOf 56 = .ok (.ireturn, 1) := by decide +kernel
theorem dX12_pullOf_57 : decode cX12_pullOf 57 = .ok (.iload_n 2, 1) := by decide +kernel
theorem dX12_pullOf_58 : decode cX12_pullOf 58 = .ok (.bipush 9, 2) := by decide +kernel
theorem dX12_pullOf_60 : decode cX12_pullOf 60 = .ok (.if_icmp .lt 8, 3) := by decide +kernel
theorem dX12_pullOf_63 : decode cX12_pullOf 63 = .ok (.bipush 9, 2) := by decide +kernel
theorem dX12_pullOf_65 : decode cX12_pullOf 65 = .ok (.goto 6, 3) := by decide +kernel
theorem dX12_pullOf_68 : decode cX12_pullOf 68 = .ok (.iload_n 1, 1) := by decide +kernel
theorem dX12_pullOf_69 : decode cX12_pullOf 69 = .ok (.iconst 2, 1) := by decide +kernel
theorem dX12_pullOf_70 : decode cX12_pullOf 70 = .ok (.idiv, 1) := by decide +kernel
theorem dX12_pullOf_71 : decode cX12_pullOf 71 = .ok (.ireturn, 1) := by decide +kernel
theorem dX12_pullOf_72 : decode cX12_pullOf 72 = .ok (.iload_n 1, 1) := by decide +kernel
theorem dX12_pullOf_73 : decode cX12_pullOf 73 = .ok (.ireturn, 1) := by decide +kernel
def f12_pullOf_b48  (a0 : Int32) (a1 : Int32) (a2 : Int32) (s0 : Int32) (m : lu_M) : Option (Int32 × lu_M) :=
  some (s0, m)
set_option maxRecDepth 20000 in
theorem w12_pullOf_b48  {G : lu_G} {ρ : Nat → Nat} {a0 : Int32} {a1 : Int32} {a2 : Int32}  (X : lu_X G RX12 cX12_pullOf 3 0 0) (hret : (lu_me G).sig.returnType = (some .int))   : ∀ (s0 : Int32) (m : lu_M), lu_Ab lu_TM G (lu_Q lu_TM G ρ lu_RVi lu_sn) (f12_pullOf_b48 a0 a1 a2 s0 m) 48 [] [.int s0] ρ 0 0 [] m := by
  intro s0 m
  unfold f12_pullOf_b48
  exact lu_iret X hret dX12_pullOf_48
def f12_pullOf_b72  (a0 : Int32) (a1 : Int32) (a2 : Int32)  (m : lu_M) : Option (Int32 × lu_M) :=
  some (a1, m)
set_option maxRecDepth 20000 in
theorem w12_pullOf_b72  {G : lu_G} {ρ : Nat → Nat} {a0 : Int32} {a1 : Int32} {a2 : Int32}  (X : lu_X G RX12 cX12_pullOf 3 0 0) (hret : (lu_me G).sig.returnType = (some .int))   : ∀  (m : lu_M), lu_Ab lu_TM G (lu_Q lu_TM G ρ lu_RVi lu_sn) (f12_pullOf_b72 a0 a1 a2 m) 72 [(1, .int a1)] [] ρ 0 0 [] m := by
  intro  m
  unfold f12_pullOf_b72
  refine lu_iload_n X dX12_pullOf_72 (pc2 := 73) rfl rfl 0 rfl ?_
  exact lu_iret X hret dX12_pullOf_73
def f12_pullOf_b71  (a0 : Int32) (a1 : Int32) (a2 : Int32) (s0 : Int32) (m : lu_M) : Option (Int32 × lu_M) :=
  some (s0, m)
set_option maxRecDepth 20000 in
theorem w12_pullOf_b71  {G : lu_G} {ρ : Nat → Nat} {a0 : Int32} {a1 : Int32} {a2 : Int32}  (X : lu_X G RX12 cX12_pullOf 3 0 0) (hret : (lu_me G).sig.returnType = (some .int))   : ∀ (s0 : Int32) (m : lu_M), lu_Ab lu_TM G (lu_Q lu_TM G ρ lu_RVi lu_sn) (f12_pullOf_b71 a0 a1 a2 s0 m) 71 [] [.int s0] ρ 0 0 [] m := by
  intro s0 m
  unfold f12_pullOf_b71
  exact lu_iret X hret dX12_pullOf_71
def f12_pullOf (a0 : Int32) (a1 : Int32) (a2 : Int32) (m : lu_M) : Option (Int32 × lu_M) :=
  if a0 = (1 : Int32) then (if (a2 - a2 / (3 : Int32) * (3 : Int32)) = (2 : Int32) then (f12_pullOf_b48 a0 a1 a2 (0 : Int32) m)
  else (f12_pullOf_b48 a0 a1 a2 a1 m))
  else (if a0 = (2 : Int32) then (f12_pullOf_b72 a0 a1 a2 m)
  else (if a0 = (3 : Int32) then (some ((a1 + (1 : Int32)), m))
  else (if a0 = (4 : Int32) then (some ((a1 / (2 : Int32)), m))
  else (if a0 = (5 : Int32) then (if a2 < (9 : Int32) then (f12_pullOf_b71 a0 a1 a2 (a1 / (2 : Int32)) m)
  else (f12_pullOf_b71 a0 a1 a2 (9 : Int32) m))
  else (f12_pullOf_b72 a0 a1 a2 m)))))
set_option maxRecDepth 20000 in
theorem c12_pullOf (l : Launch)   (a0 : Int32) (a1 : Int32) (a2 : Int32) : lu_C lu_TM l yX12_pullOf cX12_pullOf 3 (some .int) 0 0 (fun ρ sa => [.int a0, .int a1, .int a2]) (f12_pullOf a0 a1 a2) lu_RVi lu_sn := by
  refine lu_met (cls := RX12) rfl (by decide +kernel) (fun _ _ => Nat.le_of_ble_eq_true rfl) ?_
  intro G ρ m hl X hret
  subst hl
  change lu_Ab lu_TM G (lu_Q lu_TM G ρ lu_RVi lu_sn) (f12_pullOf a0 a1 a2 m) 0 [(0, .int a0), (1, .int a1), (2, .int a2)] [] ρ 0 0 [] m
  unfold f12_pullOf
  refine lu_iload_n X dX12_pullOf_0 (pc2 := 1) rfl rfl 0 rfl ?_
  refine lu_ite (fun c0 => ?_) (fun c0 => ?_)
  · refine lu_tsIn X c0 dX12_pullOf_1 (tgt := 36) (by decide) (by decide) rfl (by decide) ?_
    refine lu_iload_n X dX12_pullOf_36 (pc2 := 37) rfl rfl 2 rfl ?_
    refine lu_iconst X dX12_pullOf_37 (pc2 := 38) rfl ic_3 ?_
    refine lu_iremK X dX12_pullOf_38 (pc2 := 39) rfl (by decide) ?_
    refine lu_iconst X dX12_pullOf_39 (pc2 := 40) rfl ic_2 ?_
    refine lu_icmp_ne (tgt := 47) X dX12_pullOf_40 (pc2 := 43) rfl (by decide) (fun _ => ?_) (fun _ => ?_)
    · refine lu_iload_n X dX12_pullOf_47 (pc2 := 48) rfl rfl 1 rfl ?_
      exact lu_sub [] rfl (w12_pullOf_b48 X hret a1 m)
    · refine lu_iconst X dX12_pullOf_43 (pc2 := 44) rfl ic_0 ?_
      refine lu_goto (tgt := 48) X dX12_pullOf_44 (by decide) ?_
      exact lu_sub [] rfl (w12_pullOf_b48 X hret (0 : Int32) m)
  · refine lu_ite (fun c1 => ?_) (fun c1 => ?_)
    · refine lu_tsIn X c1 dX12_pullOf_1 (tgt := 72) (by decide) (by decide) rfl (by decide) ?_
      exact lu_sub [1] rfl (w12_pullOf_b72 X hret m)
    · refine lu_ite (fun c2 => ?_) (fun c2 => ?_)
      · refine lu_tsIn X c2 dX12_pullOf_1 (tgt := 49) (by decide) (by decide) rfl (by decide) ?_
        refine lu_iload_n X dX12_pullOf_49 (pc2 := 50) rfl rfl 1 rfl ?_
        refine lu_iconst X dX12_pullOf_50 (pc2 := 51) rfl ic_1 ?_
        refine lu_iadd X dX12_pullOf_51 (pc2 := 52) rfl ?_
        exact lu_iret X hret dX12_pullOf_52
      · refine lu_ite (fun c3 => ?_) (fun c3 => ?_)
        · refine lu_tsIn X c3 dX12_pullOf_1 (tgt := 53) (by decide) (by decide) rfl (by decide) ?_
          refine lu_iload_n X dX12_pullOf_53 (pc2 := 54) rfl rfl 1 rfl ?_
          refine lu_iconst X dX12_pullOf_54 (pc2 := 55) rfl ic_2 ?_
          refine lu_idivK X dX12_pullOf_55 (pc2 := 56) rfl (by decide) ?_
          exact lu_iret X hret dX12_pullOf_56
        · refine lu_ite (fun c4 => ?_) (fun c4 => ?_)
          · refine lu_tsIn X c4 dX12_pullOf_1 (tgt := 57) (by decide) (by decide) rfl (by decide) ?_
            refine lu_iload_n X dX12_pullOf_57 (pc2 := 58) rfl rfl 2 rfl ?_
            refine lu_bipush X dX12_pullOf_58 (pc2 := 60) rfl bp_9 ?_
            refine lu_icmp_lt (tgt := 68) X dX12_pullOf_60 (pc2 := 63) rfl (by decide) (fun _ => ?_) (fun _ => ?_)
            · refine lu_iload_n X dX12_pullOf_68 (pc2 := 69) rfl rfl 1 rfl ?_
              refine lu_iconst X dX12_pullOf_69 (pc2 := 70) rfl ic_2 ?_
              refine lu_idivK X dX12_pullOf_70 (pc2 := 71) rfl (by decide) ?_
              exact lu_sub [] rfl (w12_pullOf_b71 X hret (a1 / (2 : Int32)) m)
            · refine lu_bipush X dX12_pullOf_63 (pc2 := 65) rfl bp_9 ?_
              refine lu_goto (tgt := 71) X dX12_pullOf_65 (by decide) ?_
              exact lu_sub [] rfl (w12_pullOf_b71 X hret (9 : Int32) m)
          · refine lu_tsOut (tgt := 72) X dX12_pullOf_1 (by have h0 := lv_neT c0 (a := 1) (by decide); have h1 := lv_neT c1 (a := 2) (by decide); have h2 := lv_neT c2 (a := 3) (by decide); have h3 := lv_neT c3 (a := 4) (by decide); have h4 := lv_neT c4 (a := 5) (by decide); omega) (by decide) ?_
            exact lu_sub [1] rfl (w12_pullOf_b72 X hret m)

theorem dX12_pulls_0 : decode cX12_pulls 0 = .ok (.aload_n 0, 1) := by decide +kernel
theorem dX12_pulls_1 : decode cX12_pulls 1 = .ok (.iload_n 1, 1) := by decide +kernel
theorem dX12_pulls_2 : decode cX12_pulls 2 = .ok (.iconst 0, 1) := by decide +kernel
theorem dX12_pulls_3 : decode cX12_pulls 3 = .ok (.invokevirtual 83, 3) := by decide +kernel
theorem dX12_pulls_6 : decode cX12_pulls 6 = .ok (.aload_n 0, 1) := by decide +kernel
theorem dX12_pulls_7 : decode cX12_pulls 7 = .ok (.iload_n 1, 1) := by decide +kernel
theorem dX12_pulls_8 : decode cX12_pulls 8 = .ok (.iconst 2, 1) := by decide +kernel
theorem dX12_pulls_9 : decode cX12_pulls 9 = .ok (.invokevirtual 83, 3) := by decide +kernel
theorem dX12_pulls_12 : decode cX12_pulls 12 = .ok (.aload_n 0, 1) := by decide +kernel
theorem dX12_pulls_13 : decode cX12_pulls 13 = .ok (.getfield 7, 3) := by decide +kernel
theorem dX12_pulls_16 : decode cX12_pulls 16 = .ok (.iconst 3, 1) := by decide +kernel
theorem dX12_pulls_17 : decode cX12_pulls 17 = .ok (.iaload, 1) := by decide +kernel
theorem dX12_pulls_18 : decode cX12_pulls 18 = .ok (.invokestatic 86, 3) := by decide +kernel
theorem dX12_pulls_21 : decode cX12_pulls 21 = .ok (.ireturn, 1) := by decide +kernel
def f12_pulls (a1 : Int32) (m : lu_M) : Option (Int32 × lu_M) :=
  lu_bi (f12_its a1 (0 : Int32) m) fun x1 m2 =>
  lu_bi (f12_its a1 (2 : Int32) m2) fun x3 m4 =>
  lu_bi (f12_pullOf x1 x3 (m4 1 3) m4) fun x5 m6 =>
  some (x5, m6)
set_option maxRecDepth 20000 in
theorem c12_pulls (l : Launch)   (a1 : Int32) : lu_C lu_TM l yX12_pulls cX12_pulls 2 (some .int) 2 43 (fun ρ sa => [.ref (ρ 0), .int a1]) (f12_pulls a1) lu_RVi lu_sn := by
  refine lu_met (cls := RX12) rfl (by decide +kernel) (fun _ _ => Nat.le_of_ble_eq_true rfl) ?_
  intro G ρ m hl X hret
  subst hl
  change lu_Ab lu_TM G (lu_Q lu_TM G ρ lu_RVi lu_sn) (f12_pulls a1 m) 0 [(0, .ref (ρ 0)), (1, .int a1)] [] ρ 0 0 [] m
  unfold f12_pulls
  refine lu_aload_n X dX12_pulls_0 (pc2 := 1) rfl rfl 0 rfl ?_
  refine lu_iload_n X dX12_pulls_1 (pc2 := 2) rfl rfl 1 rfl ?_
  refine lu_iconst X dX12_pulls_2 (pc2 := 3) rfl ic_0 ?_
  refine lu_invVi X (c12_its _ a1 (0 : Int32)) rfl q1276 mvV_12_its kM_0 lM_0 (by decide) ⟨_, rfl, rfl⟩ rfl rfl (Nat.le_of_ble_eq_true rfl) (Nat.le_of_ble_eq_true rfl) (Nat.le_of_ble_eq_true rfl) ⟨Nat.zero_le _, Nat.zero_le _⟩ dX12_pulls_3 (pc2 := 6) rfl rfl (fun x1 m2 => ?_)
  refine lu_aload_n X dX12_pulls_6 (pc2 := 7) rfl rfl 0 rfl ?_
  refine lu_iload_n X dX12_pulls_7 (pc2 := 8) rfl rfl 1 rfl ?_
  refine lu_iconst X dX12_pulls_8 (pc2 := 9) rfl ic_2 ?_
  refine lu_invVi X (c12_its _ a1 (2 : Int32)) rfl q1276 mvV_12_its kM_0 lM_0 (by decide) ⟨_, rfl, rfl⟩ rfl rfl (Nat.le_of_ble_eq_true rfl) (Nat.le_of_ble_eq_true rfl) (Nat.le_of_ble_eq_true rfl) ⟨Nat.zero_le _, Nat.zero_le _⟩ dX12_pulls_9 (pc2 := 12) rfl rfl (fun x3 m4 => ?_)
  refine lu_aload_n X dX12_pulls_12 (pc2 := 13) rfl rfl 0 rfl ?_
  refine lu_getr (r2 := 1) X rfl fl12_7 rfl kM_0 lM_0 dX12_pulls_13 (pc2 := 16) rfl ?_
  refine lu_iconst X dX12_pulls_16 (pc2 := 17) rfl ic_3 ?_
  refine lu_ialdK (q := 3) X (by decide) kM_1 lM_1 dX12_pulls_17 (pc2 := 18) rfl ?_
  refine lu_invSi X (c12_pullOf _ x1 x3 (m4 1 3)) rfl q1295 mvS_12_pullOf rfl rfl (Nat.le_of_ble_eq_true rfl) (Nat.le_of_ble_eq_true rfl) (Nat.le_of_ble_eq_true rfl) ⟨Nat.zero_le _, Nat.zero_le _⟩ dX12_pulls_18 (pc2 := 21) rfl rfl (fun x5 m6 => ?_)
  exact lu_iret X hret dX12_pulls_21

theorem dX12_due_0 : decode cX12_due 0 = .ok (.aload_n 0, 1) := by decide +kernel
theorem dX12_due_1 : decode cX12_due 1 = .ok (.iload_n 1, 1) := by decide +kernel
theorem dX12_due_2 : decode cX12_due 2 = .ok (.iconst 0, 1) := by decide +kernel
theorem dX12_due_3 : decode cX12_due 3 = .ok (.invokevirtual 90, 3) := by decide +kernel
theorem dX12_due_6 : decode cX12_due 6 = .ok (.istore_n 2, 1) := by decide +kernel
theorem dX12_due_7 : decode cX12_due 7 = .ok (.aload_n 0, 1) := by decide +kernel
theorem dX12_due_8 : decode cX12_due 8 = .ok (.iload_n 1, 1) := by decide +kernel
theorem dX12_due_9 : decode cX12_due 9 = .ok (.iconst 1, 1) := by decide +kernel
theorem dX12_due_10 : decode cX12_due 10 = .ok (.invokevirtual 90, 3) := by decide +kernel
theorem dX12_due_13 : decode cX12_due 13 = .ok (.aload_n 0, 1) := by decide +kernel
theorem dX12_due_14 : decode cX12_due 14 = .ok (.iload_n 2, 1) := by decide +kernel
theorem dX12_due_15 : decode cX12_due 15 = .ok (.iconst 0, 1) := by decide +kernel
theorem dX12_due_16 : decode cX12_due 16 = .ok (.invokevirtual 83, 3) := by decide +kernel
theorem dX12_due_19 : decode cX12_due 19 = .ok (.aload_n 0, 1) := by decide +kernel
theorem dX12_due_20 : decode cX12_due 20 = .ok (.iload_n 2, 1) := by decide +kernel
theorem dX12_due_21 : decode cX12_due 21 = .ok (.iconst 1, 1) := by decide +kernel
theorem dX12_due_22 : decode cX12_due 22 = .ok (.invokevirtual 83, 3) := by decide +kernel
theorem dX12_due_25 : decode cX12_due 25 = .ok (.invokestatic 93, 3) := by decide +kernel
theorem dX12_due_28 : decode cX12_due 28 = .ok (.iadd, 1) := by decide +kernel
theorem dX12_due_29 : decode cX12_due 29 = .ok (.ireturn, 1) := by decide +kernel
def f12_due (a1 : Int32) (m : lu_M) : Option (Int32 × lu_M) :=
  lu_bi (f12_deedIs a1 (0 : Int32) m) fun x1 m2 =>
  lu_bi (f12_deedIs a1 (1 : Int32) m2) fun x3 m4 =>
  lu_bi (f12_its x1 (0 : Int32) m4) fun x5 m6 =>
  lu_bi (f12_its x1 (1 : Int32) m6) fun x7 m8 =>
  lu_bi (f12_termOf x5 x7 m8) fun x9 m10 =>
  some ((x3 + x9), m10)
set_option maxRecDepth 20000 in
theorem c12_due (l : Launch)   (a1 : Int32) : lu_C lu_TM l yX12_due cX12_due 3 (some .int) 2 43 (fun ρ sa => [.ref (ρ 0), .int a1]) (f12_due a1) lu_RVi lu_sn := by
  refine lu_met (cls := RX12) rfl (by decide +kernel) (fun _ _ => Nat.le_of_ble_eq_true rfl) ?_
  intro G ρ m hl X hret
  subst hl
  change lu_Ab lu_TM G (lu_Q lu_TM G ρ lu_RVi lu_sn) (f12_due a1 m) 0 [(0, .ref (ρ 0)), (1, .int a1)] [] ρ 0 0 [] m
  unfold f12_due
  refine lu_aload_n X dX12_due_0 (pc2 := 1) rfl rfl 0 rfl ?_
  refine lu_iload_n X dX12_due_1 (pc2 := 2) rfl rfl 1 rfl ?_
  refine lu_iconst X dX12_due_2 (pc2 := 3) rfl ic_0 ?_
  refine lu_invVi X (c12_deedIs _ a1 (0 : Int32)) rfl q1284 mvV_12_deedIs kM_0 lM_0 (by decide) ⟨_, rfl, rfl⟩ rfl rfl (Nat.le_of_ble_eq_true rfl) (Nat.le_of_ble_eq_true rfl) (Nat.le_of_ble_eq_true rfl) ⟨Nat.zero_le _, Nat.zero_le _⟩ dX12_due_3 (pc2 := 6) rfl rfl (fun x1 m2 => ?_)
  refine lu_istore_n (lv2 := [(2, .int x1), (0, .ref (ρ 0)), (1, .int a1)]) X dX12_due_6 (pc2 := 7) rfl rfl (by decide) rfl ?_
  refine lu_aload_n X dX12_due_7 (pc2 := 8) rfl rfl 1 rfl ?_
  refine lu_iload_n X dX12_due_8 (pc2 := 9) rfl rfl 2 rfl ?_
  refine lu_iconst X dX12_due_9 (pc2 := 10) rfl ic_1 ?_
  refine lu_invVi X (c12_deedIs _ a1 (1 : Int32)) rfl q1284 mvV_12_deedIs kM_0 lM_0 (by decide) ⟨_, rfl, rfl⟩ rfl rfl (Nat.le_of_ble_eq_true rfl) (Nat.le_of_ble_eq_true rfl) (Nat.le_of_ble_eq_true rfl) ⟨Nat.zero_le _, Nat.zero_le _⟩ dX12_due_10 (pc2 := 13) rfl rfl (fun x3 m4 => ?_)
  refine lu_aload_n X dX12_due_13 (pc2 := 14) rfl rfl 1 rfl ?_
  refine lu_iload_n X dX12_due_14 (pc2 := 15) rfl rfl 0 rfl ?_
  refine lu_iconst X dX12_due_15 (pc2 := 16) rfl ic_0 ?_
  refine lu_invVi X (c12_its _ x1 (0 : Int32)) rfl q1276 mvV_12_its kM_0 lM_0 (by decide) ⟨_, rfl, rfl⟩ rfl rfl (Nat.le_of_ble_eq_true rfl) (Nat.le_of_ble_eq_true rfl) (Nat.le_of_ble_eq_true rfl) ⟨Nat.zero_le _, Nat.zero_le _⟩ dX12_due_16 (pc2 := 19) rfl rfl (fun x5 m6 => ?_)
  refine lu_aload_n X dX12_due_19 (pc2 := 20) rfl rfl 1 rfl ?_
  refine lu_iload_n X dX12_due_20 (pc2 := 21) rfl rfl 0 rfl ?_
  refine lu_iconst X dX12_due_21 (pc2 := 22) rfl ic_1 ?_
  refine lu_invVi X (c12_its _ x1 (1 : Int32)) rfl q1276 mvV_12_its kM_0 lM_0 (by decide) ⟨_, rfl, rfl⟩ rfl rfl (Nat.le_of_ble_eq_true rfl) (Nat.le_of_ble_eq_true rfl) (Nat.le_of_ble_eq_true rfl) ⟨Nat.zero_le _, Nat.zero_le _⟩ dX12_due_22 (pc2 := 25) rfl rfl (fun x7 m8 => ?_)
  refine lu_invSi X (c12_termOf _ x5 x7) rfl q1320 mvS_12_termOf rfl rfl (Nat.le_of_ble_eq_true rfl) (Nat.le_of_ble_eq_true rfl) (Nat.le_of_ble_eq_true rfl) ⟨Nat.zero_le _, Nat.zero_le _⟩ dX12_due_25 (pc2 := 28) rfl rfl (fun x9 m10 => ?_)
  refine lu_iadd X dX12_due_28 (pc2 := 29) rfl ?_
  exact lu_iret X hret dX12_due_29

theorem dX12_standWeight_0 : decode cX12_standWeight 0 = .ok (.iconst 0, 1) := by decide +kernel
theorem dX12_standWeight_1 : decode cX12_standWeight 1 = .ok (.istore_n 2, 1) := by decide +kernel
theorem dX12_standWeight_2 : decode cX12_standWeight 2 = .ok (.iconst 0, 1) := by decide +kernel
theorem dX12_standWeight_3 : decode cX12_standWeight 3 = .ok (.istore_n 3, 1) := by decide +kernel
theorem dX12_standWeight_4 : decode cX12_standWeight 4 = .ok (.iload_n 3, 1) := by decide +kernel
theorem dX12_standWeight_5 : decode cX12_standWeight 5 = .ok (.aload_n 0, 1) := by decide +kernel
theorem dX12_standWeight_6 : decode cX12_standWeight 6 = .ok (.getfield 7, 3) := by decide +kernel
theorem dX12_standWeight_9 : decode cX12_standWeight 9 = .ok (.iconst 5, 1) := by decide +kernel
theorem dX12_standWeight_10 : decode cX12_standWeight 10 = .ok (.iaload, 1) := by decide +kernel
theorem dX12_standWeight_11 : decode cX12_standWeight 11 = .ok (.if_icmp .ge 46, 3) := by decide +kernel
theorem dX12_standWeight_14 : decode cX12_standWeight 14 = .ok (.iload_n 2, 1) := by decide +kernel
theorem dX12_standWeight_15 : decode cX12_standWeight 15 = .ok (.aload_n 0, 1) := by decide +kernel
theorem dX12_standWeight_16 : decode cX12_standWeight 16 = .ok (.iload_n 3, 1) := by decide +kernel
theorem dX12_standWeight_17 : decode cX12_standWeight 17 = .ok (.iconst 4, 1) := by decide +kernel
theorem dX12_standWeight_18 : decode cX12_standWeight 18 = .ok (.invokevirtual 90, 3) := by decide +kernel
theorem dX12_standWeight_21 : decode cX12_standWeight 21 = .ok (.iconst 1, 1) := by decide +kernel
theorem dX12_standWeight_22 : decode cX12_standWeight 22 = .ok (.if_icmp .ne 26, 3) := by decide +kernel
theorem dX12_standWeight_25 : decode cX12_standWeight 25 = .ok (.iload_n 1, 1) := by decide +kernel
theorem dX12_standWeight_26 : decode cX12_standWeight 26 = .ok (.ifCond .lt 13, 3) := by decide +kernel
theorem dX12_standWeight_29 : decode cX12_standWeight 29 = .ok (.aload_n 0, 1) := by decide +kernel
theorem dX12_standWeight_30 : decode cX12_standWeight 30 = .ok (.iload_n 3, 1) := by decide +kernel
theorem dX12_standWeight_31 : decode cX12_standWeight 31 = .ok (.iconst 0, 1) := by decide +kernel
theorem dX12_standWeight_32 : decode cX12_standWeight 32 = .ok (.invokevirtual 90, 3) := by decide +kernel
theorem dX12_standWeight_35 : decode cX12_standWeight 35 = .ok (.iload_n 1, 1) := by decide +kernel
theorem dX12_standWeight_36 : decode cX12_standWeight 36 = .ok (.if_icmp .ne 12, 3) := by decide +kernel
theorem dX12_standWeight_39 : decode cX12_standWeight 39 = .ok (.aload_n 0, 1) := by decide +kernel
theorem dX12_standWeight_40 : decode cX12_standWeight 40 = .ok (.iload_n 3, 1) := by decide +kernel
theorem dX12_standWeight_41 : decode cX12_standWeight 41 = .ok (.iconst 2, 1) := by decide +kernel
theorem dX12_standWeight_42 : decode cX12_standWeight 42 = .ok (.invokevirtual 90, 3) := by decide +kernel
theorem dX12_standWeight_45 : decode cX12_standWeight 45 = .ok (.goto 4, 3) := by decide +kernel
theorem dX12_standWeight_48 : decode cX12_standWeight 48 = .ok (.iconst 0, 1) := by decide +kernel
theorem dX12_standWeight_49 : decode cX12_standWeight 49 = .ok (.iadd, 1) := by decide +kernel
theorem dX12_standWeight_50 : decode cX12_standWeight 50 = .ok (.istore_n 2, 1) := by decide +kernel
theorem dX12_standWeight_51 : decode cX12_standWeight 51 = .ok (.iinc 3 1, 3) := by decide +kernel
theorem dX12_standWeight_54 : decode cX12_standWeight 54 = .ok (.goto (-50), 3) := by decide +kernel
theorem dX12_standWeight_57 : decode cX12_standWeight 57 = .ok (.iload_n 2, 1) := by decide +kernel
theorem dX12_standWeight_58 : decode cX12_standWeight 58 = .ok (.ireturn, 1) := by decide +kernel
def f12_standWeight_b49 (K4 : Int32 → Int32 → lu_M → Option (Int32 × lu_M)) (K57 : Int32 → lu_M → Option (Int32 × lu_M)) (a1 : Int32) (v3 : Int32) (s0 : Int32) (s1 : Int32) (m : lu_M) : Option (Int32 × lu_M) :=
  lu_nm ((s1 + s0)) fun x3 =>
  K4 x3 (v3 + (1 : Int32)) m
set_option maxRecDepth 20000 in
theorem w12_standWeight_b49  {G : lu_G} {ρ : Nat → Nat} {a1 : Int32} {K4 : Int32 → Int32 → lu_M → Option (Int32 × lu_M)} {K57 : Int32 → lu_M → Option (Int32 × lu_M)} (X : lu_X G RX12 cX12_standWeight 4 2 43) (hret : (lu_me G).sig.returnType = (some .int))  (hK4 : ∀ (v2 : Int32) (v3 : Int32) (m : lu_M), lu_Ab lu_TM G (lu_Q lu_TM G ρ lu_RVi lu_sn) (K4 v2 v3 m) 4 [(0, .ref (ρ 0)), (1, .int a1), (2, .int v2), (3, .int v3)] [] ρ 0 0 [] m) (hK57 : ∀ (v2 : Int32) (m : lu_M), lu_Ab lu_TM G (lu_Q lu_TM G ρ lu_RVi lu_sn) (K57 v2 m) 57 [(2, .int v2)] [] ρ 0 0 [] m) : ∀ (v3 : Int32) (s0 : Int32) (s1 : Int32) (m : lu_M), lu_Ab lu_TM G (lu_Q lu_TM G ρ lu_RVi lu_sn) (f12_standWeight_b49 K4 K57 a1 v3 s0 s1 m) 49 [(0, .ref (ρ 0)), (1, .int a1), (3, .int v3)] [.int s0, .int s1] ρ 0 0 [] m := by
  intro v3 s0 s1 m
  unfold f12_standWeight_b49
  refine lu_iadd X dX12_standWeight_49 (pc2 := 50) rfl ?_
  refine lu_topi (fun x3 => ?_)
  refine lu_istore_n (lv2 := [(2, .int x3), (0, .ref (ρ 0)), (1, .int a1), (3, .int v3)]) X dX12_standWeight_50 (pc2 := 51) rfl rfl (by decide) rfl ?_
  refine lu_iinc (lv2 := [(3, .int (v3 + (1 : Int32))), (2, .int x3), (0, .ref (ρ 0)), (1, .int a1)]) X dX12_standWeight_51 (pc2 := 54) rfl 3 rfl (lu_ii _ ic_1) (by decide) rfl ?_
  refine lu_goto (tgt := 4) X dX12_standWeight_54 (by decide) ?_
  exact lu_sub [2, 3, 1, 0] rfl (hK4 x3 (v3 + (1 : Int32)) m)
def f12_standWeight_b48 (K4 : Int32 → Int32 → lu_M → Option (Int32 × lu_M)) (K57 : Int32 → lu_M → Option (Int32 × lu_M)) (a1 : Int32) (v3 : Int32) (s0 : Int32) (m : lu_M) : Option (Int32 × lu_M) :=
  f12_standWeight_b49 K4 K57 a1 v3 (0 : Int32) s0 m
set_option maxRecDepth 20000 in
theorem w12_standWeight_b48  {G : lu_G} {ρ : Nat → Nat} {a1 : Int32} {K4 : Int32 → Int32 → lu_M → Option (Int32 × lu_M)} {K57 : Int32 → lu_M → Option (Int32 × lu_M)} (X : lu_X G RX12 cX12_standWeight 4 2 43) (hret : (lu_me G).sig.returnType = (some .int))  (hK4 : ∀ (v2 : Int32) (v3 : Int32) (m : lu_M), lu_Ab lu_TM G (lu_Q lu_TM G ρ lu_RVi lu_sn) (K4 v2 v3 m) 4 [(0, .ref (ρ 0)), (1, .int a1), (2, .int v2), (3, .int v3)] [] ρ 0 0 [] m) (hK57 : ∀ (v2 : Int32) (m : lu_M), lu_Ab lu_TM G (lu_Q lu_TM G ρ lu_RVi lu_sn) (K57 v2 m) 57 [(2, .int v2)] [] ρ 0 0 [] m) : ∀ (v3 : Int32) (s0 : Int32) (m : lu_M), lu_Ab lu_TM G (lu_Q lu_TM G ρ lu_RVi lu_sn) (f12_standWeight_b48 K4 K57 a1 v3 s0 m) 48 [(0, .ref (ρ 0)), (1, .int a1), (3, .int v3)] [.int s0] ρ 0 0 [] m := by
  intro v3 s0 m
  unfold f12_standWeight_b48
  refine lu_iconst X dX12_standWeight_48 (pc2 := 49) rfl ic_0 ?_
  exact w12_standWeight_b49 X hret hK4 hK57 v3 (0 : Int32) s0 m
def f12_standWeight_b39 (K4 : Int32 → Int32 → lu_M → Option (Int32 × lu_M)) (K57 : Int32 → lu_M → Option (Int32 × lu_M)) (a1 : Int32) (v3 : Int32) (s0 : Int32) (m : lu_M) : Option (Int32 × lu_M) :=
  lu_bi (f12_deedIs v3 (2 : Int32) m) fun x4 m5 =>
  f12_standWeight_b49 K4 K57 a1 v3 x4 s0 m5
set_option maxRecDepth 20000 in
theorem w12_standWeight_b39  {G : lu_G} {ρ : Nat → Nat} {a1 : Int32} {K4 : Int32 → Int32 → lu_M → Option (Int32 × lu_M)} {K57 : Int32 → lu_M → Option (Int32 × lu_M)} (X : lu_X G RX12 cX12_standWeight 4 2 43) (hret : (lu_me G).sig.returnType = (some .int))  (hK4 : ∀ (v2 : Int32) (v3 : Int32) (m : lu_M), lu_Ab lu_TM G (lu_Q lu_TM G ρ lu_RVi lu_sn) (K4 v2 v3 m) 4 [(0, .ref (ρ 0)), (1, .int a1), (2, .int v2), (3, .int v3)] [] ρ 0 0 [] m) (hK57 : ∀ (v2 : Int32) (m : lu_M), lu_Ab lu_TM G (lu_Q lu_TM G ρ lu_RVi lu_sn) (K57 v2 m) 57 [(2, .int v2)] [] ρ 0 0 [] m) : ∀ (v3 : Int32) (s0 : Int32) (m : lu_M), lu_Ab lu_TM G (lu_Q lu_TM G ρ lu_RVi lu_sn) (f12_standWeight_b39 K4 K57 a1 v3 s0 m) 39 [(0, .ref (ρ 0)), (1, .int a1), (3, .int v3)] [.int s0] ρ 0 0 [] m := by
  intro v3 s0 m
  unfold f12_standWeight_b39
  refine lu_aload_n X dX12_standWeight_39 (pc2 := 40) rfl rfl 0 rfl ?_
  refine lu_iload_n X dX12_standWeight_40 (pc2 := 41) rfl rfl 2 rfl ?_
  refine lu_iconst X dX12_standWeight_41 (pc2 := 42) rfl ic_2 ?_
  refine lu_invVi X (c12_deedIs _ v3 (2 : Int32)) rfl q1284 mvV_12_deedIs kM_0 lM_0 (by decide) ⟨_, rfl, rfl⟩ rfl rfl (Nat.le_of_ble_eq_true rfl) (Nat.le_of_ble_eq_true rfl) (Nat.le_of_ble_eq_true rfl) ⟨Nat.zero_le _, Nat.zero_le _⟩ dX12_standWeight_42 (pc2 := 45) rfl rfl (fun x4 m5 => ?_)
  refine lu_goto (tgt := 49) X dX12_standWeight_45 (by decide) ?_
  exact w12_standWeight_b49 X hret hK4 hK57 v3 x4 s0 m5
def f12_standWeight_b4B (K57 : Int32 → lu_M → Option (Int32 × lu_M)) (rec : Int32 → Int32 → lu_M → Option (Int32 × lu_M)) (a1 : Int32) (v2 : Int32) (v3 : Int32) (m : lu_M) : Option (Int32 × lu_M) :=
  if (m 1 5) ≤ v3 then (K57 v2 m)
  else (lu_bi (f12_deedIs v3 (4 : Int32) m) fun x1 m2 =>
  if x1 = (1 : Int32) then (if a1 < 0 then (f12_standWeight_b39 rec K57 a1 v3 v2 m2)
  else (lu_bi (f12_deedIs v3 (0 : Int32) m2) fun x6 m7 =>
  if x6 = a1 then (f12_standWeight_b39 rec K57 a1 v3 v2 m7)
  else (f12_standWeight_b48 rec K57 a1 v3 v2 m7)))
  else (f12_standWeight_b48 rec K57 a1 v3 v2 m2))
def f12_standWeight_b4 (K57 : Int32 → lu_M → Option (Int32 × lu_M)) (a1 : Int32) : Nat → Int32 → Int32 → lu_M → Option (Int32 × lu_M)
  | 0, _, _, _ => none
  | n + 1, v2, v3, m => f12_standWeight_b4B K57 (f12_standWeight_b4 K57 a1 n) a1 v2 v3 m
set_option maxRecDepth 20000 in
theorem w12_standWeight_b4B  {G : lu_G} {ρ : Nat → Nat} {a1 : Int32} {K57 : Int32 → lu_M → Option (Int32 × lu_M)} {rec : Int32 → Int32 → lu_M → Option (Int32 × lu_M)} (X : lu_X G RX12 cX12_standWeight 4 2 43) (hret : (lu_me G).sig.returnType = (some .int))  (hK57 : ∀ (v2 : Int32) (m : lu_M), lu_Ab lu_TM G (lu_Q lu_TM G ρ lu_RVi lu_sn) (K57 v2 m) 57 [(2, .int v2)] [] ρ 0 0 [] m) (hrec : ∀ (v2 : Int32) (v3 : Int32) (m : lu_M), lu_Ab lu_TM G (lu_Q lu_TM G ρ lu_RVi lu_sn) (rec v2 v3 m) 4 [(0, .ref (ρ 0)), (1, .int a1), (2, .int v2), (3, .int v3)] [] ρ 0 0 [] m) : ∀ (v2 : Int32) (v3 : Int32) (m : lu_M), lu_Ab lu_TM G (lu_Q lu_TM G ρ lu_RVi lu_sn) (f12_standWeight_b4B K57 rec a1 v2 v3 m) 4 [(0, .ref (ρ 0)), (1, .int a1), (2, .int v2), (3, .int v3)] [] ρ 0 0 [] m := by
  intro v2 v3 m
  unfold f12_standWeight_b4B
  refine lu_iload_n X dX12_standWeight_4 (pc2 := 5) rfl rfl 3 rfl ?_
  refine lu_aload_n X dX12_standWeight_5 (pc2 := 6) rfl rfl 0 rfl ?_
  refine lu_getr (r2 := 1) X rfl fl12_7 rfl kM_0 lM_0 dX12_standWeight_6 (pc2 := 9) rfl ?_
  refine lu_iconst X dX12_standWeight_9 (pc2 := 10) rfl ic_5 ?_
  refine lu_ialdK (q := 5) X (by decide) kM_1 lM_1 dX12_standWeight_10 (pc2 := 11) rfl ?_
  refine lu_icmp_ge (tgt := 57) X dX12_standWeight_11 (pc2 := 14) rfl (by decide) (fun _ => ?_) (fun _ => ?_)
  · exact lu_sub [2] rfl (hK57 v2 m)
  · refine lu_iload_n X dX12_standWeight_14 (pc2 := 15) rfl rfl 2 rfl ?_
    refine lu_aload_n X dX12_standWeight_15 (pc2 := 16) rfl rfl 0 rfl ?_
    refine lu_iload_n X dX12_standWeight_16 (pc2 := 17) rfl rfl 3 rfl ?_
    refine lu_iconst X dX12_standWeight_17 (pc2 := 18) rfl ic_4 ?_
    refine lu_invVi X (c12_deedIs _ v3 (4 : Int32)) rfl q1284 mvV_12_deedIs kM_0 lM_0 (by decide) ⟨_, rfl, rfl⟩ rfl rfl (Nat.le_of_ble_eq_true rfl) (Nat.le_of_ble_eq_true rfl) (Nat.le_of_ble_eq_true rfl) ⟨Nat.zero_le _, Nat.zero_le _⟩ dX12_standWeight_18 (pc2 := 21) rfl rfl (fun x1 m2 => ?_)
    refine lu_iconst X dX12_standWeight_21 (pc2 := 22) rfl ic_1 ?_
    refine lu_icmp_ne (tgt := 48) X dX12_standWeight_22 (pc2 := 25) rfl (by decide) (fun _ => ?_) (fun _ => ?_)
    · exact lu_sub [0, 1, 3] rfl (w12_standWeight_b48 X hret hrec hK57 v3 v2 m2)
    · refine lu_iload_n X dX12_standWeight_25 (pc2 := 26) rfl rfl 1 rfl ?_
      refine lu_if_lt (tgt := 39) X dX12_standWeight_26 (pc2 := 29) rfl (by decide) (fun _ => ?_) (fun _ => ?_)
      · exact lu_sub [0, 1, 3] rfl (w12_standWeight_b39 X hret hrec hK57 v3 v2 m2)
      · refine lu_aload_n X dX12_standWeight_29 (pc2 := 30) rfl rfl 0 rfl ?_
        refine lu_iload_n X dX12_standWeight_30 (pc2 := 31) rfl rfl 3 rfl ?_
        refine lu_iconst X dX12_standWeight_31 (pc2 := 32) rfl ic_0 ?_
        refine lu_invVi X (c12_deedIs _ v3 (0 : Int32)) rfl q1284 mvV_12_deedIs kM_0 lM_0 (by decide) ⟨_, rfl, rfl⟩ rfl rfl (Nat.le_of_ble_eq_true rfl) (Nat.le_of_ble_eq_true rfl) (Nat.le_of_ble_eq_true rfl) ⟨Nat.zero_le _, Nat.zero_le _⟩ dX12_standWeight_32 (pc2 := 35) rfl rfl (fun x6 m7 => ?_)
        refine lu_iload_n X dX12_standWeight_35 (pc2 := 36) rfl rfl 1 rfl ?_
        refine lu_icmp_ne (tgt := 48) X dX12_standWeight_36 (pc2 := 39) rfl (by decide) (fun _ => ?_) (fun _ => ?_)
        · exact lu_sub [0, 1, 3] rfl (w12_standWeight_b48 X hret hrec hK57 v3 v2 m7)
        · exact lu_sub [0, 1, 3] rfl (w12_standWeight_b39 X hret hrec hK57 v3 v2 m7)
theorem w12_standWeight_b4  {G : lu_G} {ρ : Nat → Nat} {a1 : Int32} {K57 : Int32 → lu_M → Option (Int32 × lu_M)} (X : lu_X G RX12 cX12_standWeight 4 2 43) (hret : (lu_me G).sig.returnType = (some .int))  (hK57 : ∀ (v2 : Int32) (m : lu_M), lu_Ab lu_TM G (lu_Q lu_TM G ρ lu_RVi lu_sn) (K57 v2 m) 57 [(2, .int v2)] [] ρ 0 0 [] m) : ∀ (n : Nat) (v2 : Int32) (v3 : Int32) (m : lu_M), lu_Ab lu_TM G (lu_Q lu_TM G ρ lu_RVi lu_sn) (f12_standWeight_b4 K57 a1 n v2 v3 m) 4 [(0, .ref (ρ 0)), (1, .int a1), (2, .int v2), (3, .int v3)] [] ρ 0 0 [] m := by
  intro n
  induction n with
  | zero => intro v2 v3 m; exact lu_none
  | succ n ih => intro v2 v3 m; exact w12_standWeight_b4B X hret hK57 ih v2 v3 m
def f12_standWeight_b57  (a1 : Int32) (v2 : Int32) (m : lu_M) : Option (Int32 × lu_M) :=
  some (v2, m)
set_option maxRecDepth 20000 in
theorem w12_standWeight_b57  {G : lu_G} {ρ : Nat → Nat} {a1 : Int32}  (X : lu_X G RX12 cX12_standWeight 4 2 43) (hret : (lu_me G).sig.returnType = (some .int))   : ∀ (v2 : Int32) (m : lu_M), lu_Ab lu_TM G (lu_Q lu_TM G ρ lu_RVi lu_sn) (f12_standWeight_b57 a1 v2 m) 57 [(2, .int v2)] [] ρ 0 0 [] m := by
  intro v2 m
  unfold f12_standWeight_b57
  refine lu_iload_n X dX12_standWeight_57 (pc2 := 58) rfl rfl 0 rfl ?_
  exact lu_iret X hret dX12_standWeight_58
def f12_standWeight (a1 : Int32) (m : lu_M) : Option (Int32 × lu_M) :=
  f12_standWeight_b4 (f12_standWeight_b57 a1) a1 lu_fu (0 : Int32) (0 : Int32) m
set_option maxRecDepth 20000 in
theorem c12_standWeight (l : Launch)   (a1 : Int32) : lu_C lu_TM l yX12_standWeight cX12_standWeight 4 (some .int) 2 43 (fun ρ sa => [.ref (ρ 0), .int a1]) (f12_standWeight a1) lu_RVi lu_sn := by
  refine lu_met (cls := RX12) rfl (by decide +kernel) (fun _ _ => Nat.le_of_ble_eq_true rfl) ?_
  intro G ρ m hl X hret
  subst hl
  change lu_Ab lu_TM G (lu_Q lu_TM G ρ lu_RVi lu_sn) (f12_standWeight a1 m) 0 [(0, .ref (ρ 0)), (1, .int a1)] [] ρ 0 0 [] m
  unfold f12_standWeight
  refine lu_iconst X dX12_standWeight_0 (pc2 := 1) rfl ic_0 ?_
  refine lu_istore_n (lv2 := [(2, .int (0 : Int32)), (0, .ref (ρ 0)), (1, .int a1)]) X dX12_standWeight_1 (pc2 := 2) rfl rfl (by decide) rfl ?_
  refine lu_iconst X dX12_standWeight_2 (pc2 := 3) rfl ic_0 ?_
  refine lu_istore_n (lv2 := [(3, .int (0 : Int32)), (2, .int (0 : Int32)), (0, .ref (ρ 0)), (1, .int a1)]) X dX12_standWeight_3 (pc2 := 4) rfl rfl (by decide) rfl ?_
  exact lu_sub [2, 3, 1, 0] rfl (w12_standWeight_b4 X hret (w12_standWeight_b57 X hret) lu_fu (0 : Int32) (0 : Int32) m)

theorem dX12_isUnder_0 : decode cX12_isUnder 0 = .ok (.iload_n 1, 1) := by decide +kernel
theorem dX12_isUnder_1 : decode cX12_isUnder 1 = .ok (.ifCond .eq 28, 3) := by decide +kernel
theorem dX12_isUnder_4 : decode cX12_isUnder 4 = .ok (.iload_n 0, 1) := by decide +kernel
theorem dX12_isUnder_5 : decode cX12_isUnder 5 = .ok (.iload_n 1, 1) := by decide +kernel
theorem dX12_isUnder_6 : decode cX12_isUnder 6 = .ok (.if_icmp .eq 23, 3) := by decide +kernel
theorem dX12_isUnder_9 : decode cX12_isUnder 9 = .ok (.iload_n 0, 1) := by decide +kernel
theorem dX12_isUnder_10 : decode cX12_isUnder 10 = .ok (.iconst 3, 1) := by decide +kernel
theorem dX12_isUnder_11 : decode cX12_isUnder 11 = .ok (.if_icmp .ne 8, 3) := by decide +kernel
theorem dX12_isUnder_14 : decode cX12_isUnder 14 = .ok (.iload_n 1, 1) := by decide +kernel
theorem dX12_isUnder_15 : decode cX12_isUnder 15 = .ok (.iconst 2, 1) := by decide +kernel
theorem dX12_isUnder_16 : decode cX12_isUnder 16 = .ok (.if_icmp .eq 13, 3) := by decide +kernel
theorem dX12_isUnder_19 : decode cX12_isUnder 19 = .ok (.iload_n 0, 1) := by decide +kernel
theorem dX12_isUnder_20 : decode cX12_isUnder 20 = .ok (.iconst 5, 1) := by decide +kernel
theorem dX12_isUnder_21 : decode cX12_isUnder 21 = .ok (.if_icmp .ne 12, 3) := by decide +kernel
theorem dX12_isUnder_24 : decode cX12_isUnder 24 = .ok (.iload_n 1, 1) := by decide +kernel
theorem dX12_isUnder_25 : decode cX12_isUnder 25 = .ok (.iconst 4, 1) := by decide +kernel
theorem dX12_isUnder_26 : decode cX12_isUnder 26 = .ok (.if_icmp .ne 7, 3) := by decide +kernel
theorem dX12_isUnder_29 : decode cX12_isUnder 29 = .ok (.iconst 1, 1) := by decide +kernel
theorem dX12_isUnder_30 : decode cX12_isUnder 30 = .ok (.goto 4, 3) := by decide +kernel
theorem dX12_isUnder_33 : decode cX12_isUnder 33 = .ok (.iconst 0, 1) := by decide +kernel
theorem dX12_isUnder_34 : decode cX12_isUnder 34 = .ok (.ireturn, 1) := by decide +kernel
def f12_isUnder_b34  (a0 : Int32) (a1 : Int32) (s0 : Int32) (m : lu_M) : Option (Int32 × lu_M) :=
  lu_gd (decide (s0 = 0 ∨ s0 = 1)) (some (s0, m))
set_option maxRecDepth 20000 in
theorem w12_isUnder_b34  {G : lu_G} {ρ : Nat → Nat} {a0 : Int32} {a1 : Int32}  (X : lu_X G RX12 cX12_isUnder 2 0 0) (hret : (lu_me G).sig.returnType = (some .boolean))   : ∀ (s0 : Int32) (m : lu_M), lu_Ab lu_TM G (lu_Q lu_TM G ρ lu_RVi lu_sn) (f12_isUnder_b34 a0 a1 s0 m) 34 [] [.int s0] ρ 0 0 [] m := by
  intro s0 m
  unfold f12_isUnder_b34
  exact lu_zretG X hret dX12_isUnder_34
def f12_isUnder_b29  (a0 : Int32) (a1 : Int32)  (m : lu_M) : Option (Int32 × lu_M) :=
  f12_isUnder_b34 a0 a1 (1 : Int32) m
set_option maxRecDepth 20000 in
theorem w12_isUnder_b29  {G : lu_G} {ρ : Nat → Nat} {a0 : Int32} {a1 : Int32}  (X : lu_X G RX12 cX12_isUnder 2 0 0) (hret : (lu_me G).sig.returnType = (some .boolean))   : ∀  (m : lu_M), lu_Ab lu_TM G (lu_Q lu_TM G ρ lu_RVi lu_sn) (f12_isUnder_b29 a0 a1 m) 29 [] [] ρ 0 0 [] m := by
  intro  m
  unfold f12_isUnder_b29
  refine lu_iconst X dX12_isUnder_29 (pc2 := 30) rfl ic_1 ?_
  refine lu_goto (tgt := 34) X dX12_isUnder_30 (by decide) ?_
  exact w12_isUnder_b34 X hret (1 : Int32) m
def f12_isUnder_b33  (a0 : Int32) (a1 : Int32)  (m : lu_M) : Option (Int32 × lu_M) :=
  f12_isUnder_b34 a0 a1 (0 : Int32) m
set_option maxRecDepth 20000 in
theorem w12_isUnder_b33  {G : lu_G} {ρ : Nat → Nat} {a0 : Int32} {a1 : Int32}  (X : lu_X G RX12 cX12_isUnder 2 0 0) (hret : (lu_me G).sig.returnType = (some .boolean))   : ∀  (m : lu_M), lu_Ab lu_TM G (lu_Q lu_TM G ρ lu_RVi lu_sn) (f12_isUnder_b33 a0 a1 m) 33 [] [] ρ 0 0 [] m := by
  intro  m
  unfold f12_isUnder_b33
  refine lu_iconst X dX12_isUnder_33 (pc2 := 34) rfl ic_0 ?_
  exact w12_isUnder_b34 X hret (0 : Int32) m
def f12_isUnder_b19  (a0 : Int32) (a1 : Int32)  (m : lu_M) : Option (Int32 × lu_M) :=
  if a0 = (5 : Int32) then (if a1 = (4 : Int32) then (f12_isUnder_b29 a0 a1 m)
  else (f12_isUnder_b33 a0 a1 m))
  else (f12_isUnder_b33 a0 a1 m)
set_option maxRecDepth 20000 in
theorem w12_isUnder_b19  {G : lu_G} {ρ : Nat → Nat} {a0 : Int32} {a1 : Int32}  (X : lu_X G RX12 cX12_isUnder 2 0 0) (hret : (lu_me G).sig.returnType = (some .boolean))   : ∀  (m : lu_M), lu_Ab lu_TM G (lu_Q lu_TM G ρ lu_RVi lu_sn) (f12_isUnder_b19 a0 a1 m) 19 [(0, .int a0), (1, .int a1)] [] ρ 0 0 [] m := by
  intro  m
  unfold f12_isUnder_b19
  refine lu_iload_n X dX12_isUnder_19 (pc2 := 20) rfl rfl 0 rfl ?_
  refine lu_iconst X dX12_isUnder_20 (pc2 := 21) rfl ic_5 ?_
  refine lu_icmp_ne (tgt := 33) X dX12_isUnder_21 (pc2 := 24) rfl (by decide) (fun _ => ?_) (fun _ => ?_)
  · exact lu_sub [] rfl (w12_isUnder_b33 X hret m)
  · refine lu_iload_n X dX12_isUnder_24 (pc2 := 25) rfl rfl 1 rfl ?_
    refine lu_iconst X dX12_isUnder_25 (pc2 := 26) rfl ic_4 ?_
    refine lu_icmp_ne (tgt := 33) X dX12_isUnder_26 (pc2 := 29) rfl (by decide) (fun _ => ?_) (fun _ => ?_)
    · exact lu_sub [] rfl (w12_isUnder_b33 X hret m)
    · exact lu_sub [] rfl (w12_isUnder_b29 X hret m)
def f12_isUnder (a0 : Int32) (a1 : Int32) (m : lu_M) : Option (Int32 × lu_M) :=
  if a1 = 0 then (f12_isUnder_b29 a0 a1 m)
  else (if a0 = a1 then (f12_isUnder_b29 a0 a1 m)
  else (if a0 = (3 : Int32) then (if a1 = (2 : Int32) then (f12_isUnder_b29 a0 a1 m)
  else (f12_isUnder_b19 a0 a1 m))
  else (f12_isUnder_b19 a0 a1 m)))
set_option maxRecDepth 20000 in
theorem c12_isUnder (l : Launch)   (a0 : Int32) (a1 : Int32) : lu_C lu_TM l yX12_isUnder cX12_isUnder 2 (some .boolean) 0 0 (fun ρ sa => [.int a0, .int a1]) (f12_isUnder a0 a1) lu_RVi lu_sn := by
  refine lu_met (cls := RX12) rfl (by decide +kernel) (fun _ _ => Nat.le_of_ble_eq_true rfl) ?_
  intro G ρ m hl X hret
  subst hl
  change lu_Ab lu_TM G (lu_Q lu_TM G ρ lu_RVi lu_sn) (f12_isUnder a0 a1 m) 0 [(0, .int a0), (1, .int a1)] [] ρ 0 0 [] m
  unfold f12_isUnder
  refine lu_iload_n X dX12_isUnder_0 (pc2 := 1) rfl rfl 1 rfl ?_
  refine lu_if_eq (tgt := 29) X dX12_isUnder_1 (pc2 := 4) rfl (by decide) (fun _ => ?_) (fun _ => ?_)
  · exact lu_sub [] rfl (w12_isUnder_b29 X hret m)
  · refine lu_iload_n X dX12_isUnder_4 (pc2 := 5) rfl rfl 0 rfl ?_
    refine lu_iload_n X dX12_isUnder_5 (pc2 := 6) rfl rfl 1 rfl ?_
    refine lu_icmp_eq (tgt := 29) X dX12_isUnder_6 (pc2 := 9) rfl (by decide) (fun _ => ?_) (fun _ => ?_)
    · exact lu_sub [] rfl (w12_isUnder_b29 X hret m)
    · refine lu_iload_n X dX12_isUnder_9 (pc2 := 10) rfl rfl 0 rfl ?_
      refine lu_iconst X dX12_isUnder_10 (pc2 := 11) rfl ic_3 ?_
      refine lu_icmp_ne (tgt := 19) X dX12_isUnder_11 (pc2 := 14) rfl (by decide) (fun _ => ?_) (fun _ => ?_)
      · exact w12_isUnder_b19 X hret m
      · refine lu_iload_n X dX12_isUnder_14 (pc2 := 15) rfl rfl 1 rfl ?_
        refine lu_iconst X dX12_isUnder_15 (pc2 := 16) rfl ic_2 ?_
        refine lu_icmp_eq (tgt := 29) X dX12_isUnder_16 (pc2 := 19) rfl (by decide) (fun _ => ?_) (fun _ => ?_)
        · exact lu_sub [] rfl (w12_isUnder_b29 X hret m)
        · exact w12_isUnder_b19 X hret m

theorem dX12_isHolding_0 : decode cX12_isHolding 0 = .ok (.iload_n 0, 1) := by decide +kernel
theorem dX12_isHolding_1 : decode cX12_isHolding 1 = .ok (.lookupswitch 92 #[(-21, 76), (-13, 65), (-12, 54), (-11, 43)], 43) := by decide +kernel
theorem dX12_isHolding_44 : decode cX12_isHolding 44 = .ok (.iload_n 1, 1) := by decide +kernel
theorem dX12_isHolding_45 : decode cX12_isHolding 45 = .ok (.iload_n 2, 1) := by decide +kernel
theorem dX12_isHolding_46 : decode cX12_isHolding 46 = .ok (.if_icmp .ge 7, 3) := by decide +kernel
theorem dX12_isHolding_49 : decode cX12_isHolding 49 = .ok (.iconst 1, 1) := by decide +kernel
theorem dX12_isHolding_50 : decode cX12_isHolding 50 = .ok (.goto 4, 3) := by decide +kernel
theorem dX12_isHolding_53 : decode cX12_isHolding 53 = .ok (.iconst 0, 1) := by decide +kernel
theorem dX12_isHolding_54 : decode cX12_isHolding 54 = .ok (.ireturn, 1) := by decide +kernel
theorem dX12_isHolding_55 : decode cX12_isHolding 55 = .ok (.iload_n 1, 1) := by decide +kernel
theorem dX12_isHolding_56 : decode cX12_isHolding 56 = .ok (.iload_n 2, 1) := by decide +kernel
theorem dX12_isHolding_57 : decode cX12_isHolding 57 = .ok (.if_icmp .ne 7, 3) := by decide +kernel
theorem dX12_isHolding_60 : decode cX12_isHolding 60 = .ok (.iconst 1, 1) := by decide +kernel
theorem dX12_isHolding_61 : decode cX12_isHolding 61 = .ok (.goto 4, 3) := by decide +kernel
theorem dX12_isHolding_64 : decode cX12_isHolding 64 = .ok (.iconst 0, 1) := by decide +kernel
theorem dX12_isHolding_65 : decode cX12_isHolding 65 = .ok (.ireturn, 1) := by decide +kernel
theorem dX12_isHolding_66 : decode cX12_isHolding 66 = .ok (.iload_n 1, 1) := by decide +kernel
theorem dX12_isHolding_67 : decode cX12_isHolding 67 = .ok (.iload_n 2, 1) := by decide +kernel
theorem dX12_isHolding_68 : decode cX12_isHolding 68 = .ok (.if_icmp .le 7, 3) := by decide +kernel
theorem dX12_isHolding_71 : decode cX12_isHolding 71 = .ok (.iconst 1, 1) := by decide +kernel
theorem dX12_isHolding_72 : decode cX12_isHolding 72 = .ok (.goto 4, 3) := by decide +kernel
theorem dX12_isHolding_75 : decode cX12_isHolding 75 = .ok (.iconst 0, 1) := by decide +kernel
theorem dX12_isHolding_76 : decode cX12_isHolding 76 = .ok (.ireturn, 1) := by decide +kernel
theorem dX12_isHolding_77 : decode cX12_isHolding 77 = .ok (.iload_n 1, 1) := by decide +kernel
theorem dX12_isHolding_78 : decode cX12_isHolding 78 = .ok (.iconst 1, 1) := by decide +kernel
theorem dX12_isHolding_79 : decode cX12_isHolding 79 = .ok (.if_icmp .ne 12, 3) := by decide +kernel
theorem dX12_isHolding_82 : decode cX12_isHolding 82 = .ok (.iload_n 2, 1) := by decide +kernel
theorem dX12_isHolding_83 : decode cX12_isHolding 83 = .ok (.iconst 1, 1) := by decide +kernel
theorem dX12_isHolding_84 : decode cX12_isHolding 84 = .ok (.if_icmp .ne 7, 3) := by decide +kernel
theorem dX12_isHolding_87 : decode cX12_isHolding 87 = .ok (.iconst 1, 1) := by decide +kernel
theorem dX12_isHolding_88 : decode cX12_isHolding 88 = .ok (.goto 4, 3) := by decide +kernel
theorem dX12_isHolding_91 : decode cX12_isHolding 91 = .ok (.iconst 0, 1) := by decide +kernel
theorem dX12_isHolding_92 : decode cX12_isHolding 92 = .ok (.ireturn, 1) := by decide +kernel
theorem dX12_isHolding_93 : decode cX12_isHolding 93 = .ok (.iload_n 1, 1) := by decide +kernel
theorem dX12_isHolding_94 : decode cX12_isHolding 94 = .ok (.iconst 1, 1) := by decide +kernel
theorem dX12_isHolding_95 : decode cX12_isHolding 95 = .ok (.if_icmp .eq 8, 3) := by decide +kernel
theorem dX12_isHolding_98 : decode cX12_isHolding 98 = .ok (.iload_n 2, 1) := by decide +kernel
theorem dX12_isHolding_99 : decode cX12_isHolding 99 = .ok (.iconst 1, 1) := by decide +kernel
theorem dX12_isHolding_100 : decode cX12_isHolding 100 = .ok (.if_icmp .ne 7, 3) := by decide +kernel
theorem dX12_isHolding_103 : decode cX12_isHolding 103 = .ok (.iconst 1, 1) := by decide +kernel
theorem dX12_isHolding_104 : decode cX12_isHolding 104 = .ok (.goto 4, 3) := by decide +kernel
theorem dX12_isHolding_107 : decode cX12_isHolding 107 = .ok (.iconst 0, 1) := by decide +kernel
theorem dX12_isHolding_108 : decode cX12_isHolding 108 = .ok (.ireturn, 1) := by decide +kernel
def f12_isHolding_b92  (a0 : Int32) (a1 : Int32) (a2 : Int32) (s0 : Int32) (m : lu_M) : Option (Int32 × lu_M) :=
  lu_gd (decide (s0 = 0 ∨ s0 = 1)) (some (s0, m))
set_option maxRecDepth 20000 in
theorem w12_isHolding_b92  {G : lu_G} {ρ : Nat → Nat} {a0 : Int32} {a1 : Int32} {a2 : Int32}  (X : lu_X G RX12 cX12_isHolding 3 0 0) (hret : (lu_me G).sig.returnType = (some .boolean))   : ∀ (s0 : Int32) (m : lu_M), lu_Ab lu_TM G (lu_Q lu_TM G ρ lu_RVi lu_sn) (f12_isHolding_b92 a0 a1 a2 s0 m) 92 [] [.int s0] ρ 0 0 [] m := by
  intro s0 m
  unfold f12_isHolding_b92
  exact lu_zretG X hret dX12_isHolding_92
def f12_isHolding_b91  (a0 : Int32) (a1 : Int32) (a2 : Int32)  (m : lu_M) : Option (Int32 × lu_M) :=
  f12_isHolding_b92 a0 a1 a2 (0 : Int32) m
set_option maxRecDepth 20000 in
theorem w12_isHolding_b91  {G : lu_G} {ρ : Nat → Nat} {a0 : Int32} {a1 : Int32} {a2 : Int32}  (X : lu_X G RX12 cX12_isHolding 3 0 0) (hret : (lu_me G).sig.returnType = (some .boolean))   : ∀  (m : lu_M), lu_Ab lu_TM G (lu_Q lu_TM G ρ lu_RVi lu_sn) (f12_isHolding_b91 a0 a1 a2 m) 91 [] [] ρ 0 0 [] m := by
  intro  m
  unfold f12_isHolding_b91
  refine lu_iconst X dX12_isHolding_91 (pc2 := 92) rfl ic_0 ?_
  exact w12_isHolding_b92 X hret (0 : Int32) m
def f12_isHolding_b76  (a0 : Int32) (a1 : Int32) (a2 : Int32) (s0 : Int32) (m : lu_M) : Option (Int32 × lu_M) :=
  lu_gd (decide (s0 = 0 ∨ s0 = 1)) (some (s0, m))
set_option maxRecDepth 20000 in
theorem w12_isHolding_b76  {G : lu_G} {ρ : Nat → Nat} {a0 : Int32} {a1 : Int32} {a2 : Int32}  (X : lu_X G RX12 cX12_isHolding 3 0 0) (hret : (lu_me G).sig.returnType = (some .boolean))   : ∀ (s0 : Int32) (m : lu_M), lu_Ab lu_TM G (lu_Q lu_TM G ρ lu_RVi lu_sn) (f12_isHolding_b76 a0 a1 a2 s0 m) 76 [] [.int s0] ρ 0 0 [] m := by
  intro s0 m
  unfold f12_isHolding_b76
  exact lu_zretG X hret dX12_isHolding_76
def f12_isHolding_b65  (a0 : Int32) (a1 : Int32) (a2 : Int32) (s0 : Int32) (m : lu_M) : Option (Int32 × lu_M) :=
  lu_gd (decide (s0 = 0 ∨ s0 = 1)) (some (s0, m))
set_option maxRecDepth 20000 in
theorem w12_isHolding_b65  {G : lu_G} {ρ : Nat → Nat} {a0 : Int32} {a1 : Int32} {a2 : Int32}  (X : lu_X G RX12 cX12_isHolding 3 0 0) (hret : (lu_me G).sig.returnType = (some .boolean))   : ∀ (s0 : Int32) (m : lu_M), lu_Ab lu_TM G (lu_Q lu_TM G ρ lu_RVi lu_sn) (f12_isHolding_b65 a0 a1 a2 s0 m) 65 [] [.int s0] ρ 0 0 [] m := by
  intro s0 m
  unfold f12_isHolding_b65
  exact lu_zretG X hret dX12_isHolding_65
def f12_isHolding_b54  (a0 : Int32) (a1 : Int32) (a2 : Int32) (s0 : Int32) (m : lu_M) : Option (Int32 × lu_M) :=
  lu_gd (decide (s0 = 0 ∨ s0 = 1)) (some (s0, m))
set_option maxRecDepth 20000 in
theorem w12_isHolding_b54  {G : lu_G} {ρ : Nat → Nat} {a0 : Int32} {a1 : Int32} {a2 : Int32}  (X : lu_X G RX12 cX12_isHolding 3 0 0) (hret : (lu_me G).sig.returnType = (some .boolean))   : ∀ (s0 : Int32) (m : lu_M), lu_Ab lu_TM G (lu_Q lu_TM G ρ lu_RVi lu_sn) (f12_isHolding_b54 a0 a1 a2 s0 m) 54 [] [.int s0] ρ 0 0 [] m := by
  intro s0 m
  unfold f12_isHolding_b54
  exact lu_zretG X hret dX12_isHolding_54
def f12_isHolding_b108  (a0 : Int32) (a1 : Int32) (a2 : Int32) (s0 : Int32) (m : lu_M) : Option (Int32 × lu_M) :=
  lu_gd (decide (s0 = 0 ∨ s0 = 1)) (some (s0, m))
set_option maxRecDepth 20000 in
theorem w12_isHolding_b108  {G : lu_G} {ρ : Nat → Nat} {a0 : Int32} {a1 : Int32} {a2 : Int32}  (X : lu_X G RX12 cX12_isHolding 3 0 0) (hret : (lu_me G).sig.returnType = (some .boolean))   : ∀ (s0 : Int32) (m : lu_M), lu_Ab lu_TM G (lu_Q lu_TM G ρ lu_RVi lu_sn) (f12_isHolding_b108 a0 a1 a2 s0 m) 108 [] [.int s0] ρ 0 0 [] m := by
  intro s0 m
  unfold f12_isHolding_b108
  exact lu_zretG X hret dX12_isHolding_108
def f12_isHolding_b103  (a0 : Int32) (a1 : Int32) (a2 : Int32)  (m : lu_M) : Option (Int32 × lu_M) :=
  f12_isHolding_b108 a0 a1 a2 (1 : Int32) m
set_option maxRecDepth 20000 in
theorem w12_isHolding_b103  {G : lu_G} {ρ : Nat → Nat} {a0 : Int32} {a1 : Int32} {a2 : Int32}  (X : lu_X G RX12 cX12_isHolding 3 0 0) (hret : (lu_me G).sig.returnType = (some .boolean))   : ∀  (m : lu_M), lu_Ab lu_TM G (lu_Q lu_TM G ρ lu_RVi lu_sn) (f12_isHolding_b103 a0 a1 a2 m) 103 [] [] ρ 0 0 [] m := by
  intro  m
  unfold f12_isHolding_b103
  refine lu_iconst X dX12_isHolding_103 (pc2 := 104) rfl ic_1 ?_
  refine lu_goto (tgt := 108) X dX12_isHolding_104 (by decide) ?_
  exact w12_isHolding_b108 X hret (1 : Int32) m
def f12_isHolding (a0 : Int32) (a1 : Int32) (a2 : Int32) (m : lu_M) : Option (Int32 × lu_M) :=
  if a0 = (-21 : Int32) then (if a1 = (1 : Int32) then (if a2 = (1 : Int32) then (f12_isHolding_b92 a0 a1 a2 (1 : Int32) m)
  else (f12_isHolding_b91 a0 a1 a2 m))
  else (f12_isHolding_b91 a0 a1 a2 m))
  else (if a0 = (-13 : Int32) then (if a1 ≤ a2 then (f12_isHolding_b76 a0 a1 a2 (0 : Int32) m)
  else (f12_isHolding_b76 a0 a1 a2 (1 : Int32) m))
  else (if a0 = (-12 : Int32) then (if a1 = a2 then (f12_isHolding_b65 a0 a1 a2 (1 : Int32) m)
  else (f12_isHolding_b65 a0 a1 a2 (0 : Int32) m))
  else (if a0 = (-11 : Int32) then (if a2 ≤ a1 then (f12_isHolding_b54 a0 a1 a2 (0 : Int32) m)
  else (f12_isHolding_b54 a0 a1 a2 (1 : Int32) m))
  else (if a1 = (1 : Int32) then (f12_isHolding_b103 a0 a1 a2 m)
  else (if a2 = (1 : Int32) then (f12_isHolding_b103 a0 a1 a2 m)
  else (f12_isHolding_b108 a0 a1 a2 (0 : Int32) m))))))
set_option maxRecDepth 20000 in
theorem c12_isHolding (l : Launch)   (a0 : Int32) (a1 : Int32) (a2 : Int32) : lu_C lu_TM l yX12_isHolding cX12_isHolding 3 (some .boolean) 0 0 (fun ρ sa => [.int a0, .int a1, .int a2]) (f12_isHolding a0 a1 a2) lu_RVi lu_sn := by
  refine lu_met (cls := RX12) rfl (by decide +kernel) (fun _ _ => Nat.le_of_ble_eq_true rfl) ?_
  intro G ρ m hl X hret
  subst hl
  change lu_Ab lu_TM G (lu_Q lu_TM G ρ lu_RVi lu_sn) (f12_isHolding a0 a1 a2 m) 0 [(0, .int a0), (1, .int a1), (2, .int a2)] [] ρ 0 0 [] m
  unfold f12_isHolding
  refine lu_iload_n X dX12_isHolding_0 (pc2 := 1) rfl rfl 0 rfl ?_
  refine lu_ite (fun c0 => ?_) (fun c0 => ?_)
  · refine lu_lsw (tgt := 77) (off := 76) X dX12_isHolding_1 (by decide) (by rw [c0]; decide) (by decide) ?_
    refine lu_iload_n X dX12_isHolding_77 (pc2 := 78) rfl rfl 1 rfl ?_
    refine lu_iconst X dX12_isHolding_78 (pc2 := 79) rfl ic_1 ?_
    refine lu_icmp_ne (tgt := 91) X dX12_isHolding_79 (pc2 := 82) rfl (by decide) (fun _ => ?_) (fun _ => ?_)
    · exact lu_sub [] rfl (w12_isHolding_b91 X hret m)
    · refine lu_iload_n X dX12_isHolding_82 (pc2 := 83) rfl rfl 2 rfl ?_
      refine lu_iconst X dX12_isHolding_83 (pc2 := 84) rfl ic_1 ?_
      refine lu_icmp_ne (tgt := 91) X dX12_isHolding_84 (pc2 := 87) rfl (by decide) (fun _ => ?_) (fun _ => ?_)
      · exact lu_sub [] rfl (w12_isHolding_b91 X hret m)
      · refine lu_iconst X dX12_isHolding_87 (pc2 := 88) rfl ic_1 ?_
        refine lu_goto (tgt := 92) X dX12_isHolding_88 (by decide) ?_
        exact lu_sub [] rfl (w12_isHolding_b92 X hret (1 : Int32) m)
  · refine lu_ite (fun c1 => ?_) (fun c1 => ?_)
    · refine lu_lsw (tgt := 66) (off := 65) X dX12_isHolding_1 (by decide) (by rw [c1]; decide) (by decide) ?_
      refine lu_iload_n X dX12_isHolding_66 (pc2 := 67) rfl rfl 1 rfl ?_
      refine lu_iload_n X dX12_isHolding_67 (pc2 := 68) rfl rfl 2 rfl ?_
      refine lu_icmp_le (tgt := 75) X dX12_isHolding_68 (pc2 := 71) rfl (by decide) (fun _ => ?_) (fun _ => ?_)
      · refine lu_iconst X dX12_isHolding_75 (pc2 := 76) rfl ic_0 ?_
        exact lu_sub [] rfl (w12_isHolding_b76 X hret (0 : Int32) m)
      · refine lu_iconst X dX12_isHolding_71 (pc2 := 72) rfl ic_1 ?_
        refine lu_goto (tgt := 76) X dX12_isHolding_72 (by decide) ?_
        exact lu_sub [] rfl (w12_isHolding_b76 X hret (1 : Int32) m)
    · refine lu_ite (fun c2 => ?_) (fun c2 => ?_)
      · refine lu_lsw (tgt := 55) (off := 54) X dX12_isHolding_1 (by decide) (by rw [c2]; decide) (by decide) ?_
        refine lu_iload_n X dX12_isHolding_55 (pc2 := 56) rfl rfl 1 rfl ?_
        refine lu_iload_n X dX12_isHolding_56 (pc2 := 57) rfl rfl 2 rfl ?_
        refine lu_icmp_ne (tgt := 64) X dX12_isHolding_57 (pc2 := 60) rfl (by decide) (fun _ => ?_) (fun _ => ?_)
        · refine lu_iconst X dX12_isHolding_64 (pc2 := 65) rfl ic_0 ?_
          exact lu_sub [] rfl (w12_isHolding_b65 X hret (0 : Int32) m)
        · refine lu_iconst X dX12_isHolding_60 (pc2 := 61) rfl ic_1 ?_
          refine lu_goto (tgt := 65) X dX12_isHolding_61 (by decide) ?_
          exact lu_sub [] rfl (w12_isHolding_b65 X hret (1 : Int32) m)
      · refine lu_ite (fun c3 => ?_) (fun c3 => ?_)
        · refine lu_lsw (tgt := 44) (off := 43) X dX12_isHolding_1 (by decide) (by rw [c3]; decide) (by decide) ?_
          refine lu_iload_n X dX12_isHolding_44 (pc2 := 45) rfl rfl 1 rfl ?_
          refine lu_iload_n X dX12_isHolding_45 (pc2 := 46) rfl rfl 2 rfl ?_
          refine lu_icmp_ge (tgt := 53) X dX12_isHolding_46 (pc2 := 49) rfl (by decide) (fun _ => ?_) (fun _ => ?_)
          · refine lu_iconst X dX12_isHolding_53 (pc2 := 54) rfl ic_0 ?_
            exact lu_sub [] rfl (w12_isHolding_b54 X hret (0 : Int32) m)
          · refine lu_iconst X dX12_isHolding_49 (pc2 := 50) rfl ic_1 ?_
            refine lu_goto (tgt := 54) X dX12_isHolding_50 (by decide) ?_
            exact lu_sub [] rfl (w12_isHolding_b54 X hret (1 : Int32) m)
        · refine lu_lsw (tgt := 93) (off := 92) X dX12_isHolding_1 (by decide) (by show Op.lookupswitch.offset [((-21 : Int), (76 : Int)), ((-13 : Int), (65 : Int)), ((-12 : Int), (54 : Int)), ((-11 : Int), (43 : Int))] _ _ = _; rw [lv_osw c0 (by decide)]; rw [lv_osw c1 (by decide)]; rw [lv_osw c2 (by decide)]; rw [lv_osw c3 (by decide)]; rfl) (by decide) ?_
          refine lu_iload_n X dX12_isHolding_93 (pc2 := 94) rfl rfl 1 rfl ?_
          refine lu_iconst X dX12_isHolding_94 (pc2 := 95) rfl ic_1 ?_
          refine lu_icmp_eq (tgt := 103) X dX12_isHolding_95 (pc2 := 98) rfl (by decide) (fun _ => ?_) (fun _ => ?_)
          · exact lu_sub [] rfl (w12_isHolding_b103 X hret m)
          · refine lu_iload_n X dX12_isHolding_98 (pc2 := 99) rfl rfl 2 rfl ?_
            refine lu_iconst X dX12_isHolding_99 (pc2 := 100) rfl ic_1 ?_
            refine lu_icmp_ne (tgt := 107) X dX12_isHolding_100 (pc2 := 103) rfl (by decide) (fun _ => ?_) (fun _ => ?_)
            · refine lu_iconst X dX12_isHolding_107 (pc2 := 108) rfl ic_0 ?_
              exact lu_sub [] rfl (w12_isHolding_b108 X hret (0 : Int32) m)
            · exact lu_sub [] rfl (w12_isHolding_b103 X hret m)

theorem dX12_fact_0 : decode cX12_fact 0 = .ok (.iload_n 1, 1) := by decide +kernel
theorem dX12_fact_1 : decode cX12_fact 1 = .ok (.tableswitch 64 (-5) (-1) #[62, 55, 48, 42, 35], 35) := by decide +kernel
theorem dX12_fact_36 : decode cX12_fact 36 = .ok (.aload_n 0, 1) := by decide +kernel
theorem dX12_fact_37 : decode cX12_fact 37 = .ok (.getfield 7, 3) := by decide +kernel
theorem dX12_fact_40 : decode cX12_fact 40 = .ok (.iconst 3, 1) := by decide +kernel
theorem dX12_fact_41 : decode cX12_fact 41 = .ok (.iaload, 1) := by decide +kernel
theorem dX12_fact_42 : decode cX12_fact 42 = .ok (.ireturn, 1) := by decide +kernel
theorem dX12_fact_43 : decode cX12_fact 43 = .ok (.aload_n 0, 1) := by decide +kernel
theorem dX12_fact_44 : decode cX12_fact 44 = .ok (.iload_n 2, 1) := by decide +kernel
theorem dX12_fact_45 : decode cX12_fact 45 = .ok (.invokevirtual 99, 3) := by decide +kernel
theorem dX12_fact_48 : decode cX12_fact 48 = .ok (.ireturn, 1) := by decide +kernel
theorem dX12_fact_49 : decode cX12_fact 49 = .ok (.aload_n 0, 1) := by decide +kernel
theorem dX12_fact_50 : decode cX12_fact 50 = .ok (.iload_n 2, 1) := by decide +kernel
theorem dX12_fact_51 : decode cX12_fact 51 = .ok (.iconst 1, 1) := by decide +kernel
theorem dX12_fact_52 : decode cX12_fact 52 = .ok (.invokevirtual 83, 3) := by decide +kernel
theorem dX12_fact_55 : decode cX12_fact 55 = .ok (.ireturn, 1) := by decide +kernel
theorem dX12_fact_56 : decode cX12_fact 56 = .ok (.aload_n 0, 1) := by decide +kernel
theorem dX12_fact_57 : decode cX12_fact 57 = .ok (.iload_n 2, 1) := by decide +kernel
theorem dX12_fact_58 : decode cX12_fact 58 = .ok (.iconst 2, 1) := by decide +kernel
theorem dX12_fact_59 : decode cX12_fact 59 = .ok (.invokevirtual 83, 3) := by decide +kernel
theorem dX12_fact_62 : decode cX12_fact 62 = .ok (.ireturn, 1) := by decide +kernel
theorem dX12_fact_63 : decode cX12_fact 63 = .ok (.iload_n 2, 1) := by decide +kernel
theorem dX12_fact_64 : decode cX12_fact 64 = .ok (.ireturn, 1) := by decide +kernel
theorem dX12_fact_65 : decode cX12_fact 65 = .ok (.iload_n 1, 1) := by decide +kernel
theorem dX12_fact_66 : decode cX12_fact 66 = .ok (.ireturn, 1) := by decide +kernel
def f12_fact (a1 : Int32) (a2 : Int32) (m : lu_M) : Option (Int32 × lu_M) :=
  if a1 = (-5 : Int32) then (some (a2, m))
  else (if a1 = (-4 : Int32) then (lu_bi (f12_its a2 (2 : Int32) m) fun x1 m2 =>
  some (x1, m2))
  else (if a1 = (-3 : Int32) then (lu_bi (f12_its a2 (1 : Int32) m) fun x3 m4 =>
  some (x3, m4))
  else (if a1 = (-2 : Int32) then (lu_bi (f12_standWeight a2 m) fun x5 m6 =>
  some (x5, m6))
  else (if a1 = (-1 : Int32) then (some ((m 1 3), m))
  else (some (a1, m))))))
set_option maxRecDepth 20000 in
theorem c12_fact (l : Launch)   (a1 : Int32) (a2 : Int32) : lu_C lu_TM l yX12_fact cX12_fact 3 (some .int) 3 66 (fun ρ sa => [.ref (ρ 0), .int a1, .int a2]) (f12_fact a1 a2) lu_RVi lu_sn := by
  refine lu_met (cls := RX12) rfl (by decide +kernel) (fun _ _ => Nat.le_of_ble_eq_true rfl) ?_
  intro G ρ m hl X hret
  subst hl
  change lu_Ab lu_TM G (lu_Q lu_TM G ρ lu_RVi lu_sn) (f12_fact a1 a2 m) 0 [(0, .ref (ρ 0)), (1, .int a1), (2, .int a2)] [] ρ 0 0 [] m
  unfold f12_fact
  refine lu_iload_n X dX12_fact_0 (pc2 := 1) rfl rfl 1 rfl ?_
  refine lu_ite (fun c0 => ?_) (fun c0 => ?_)
  · refine lu_tsIn X c0 dX12_fact_1 (tgt := 63) (by decide) (by decide) rfl (by decide) ?_
    refine lu_iload_n X dX12_fact_63 (pc2 := 64) rfl rfl 2 rfl ?_
    exact lu_iret X hret dX12_fact_64
  · refine lu_ite (fun c1 => ?_) (fun c1 => ?_)
    · refine lu_tsIn X c1 dX12_fact_1 (tgt := 56) (by decide) (by decide) rfl (by decide) ?_
      refine lu_aload_n X dX12_fact_56 (pc2 := 57) rfl rfl 0 rfl ?_
      refine lu_iload_n X dX12_fact_57 (pc2 := 58) rfl rfl 2 rfl ?_
      refine lu_iconst X dX12_fact_58 (pc2 := 59) rfl ic_2 ?_
      refine lu_invVi X (c12_its _ a2 (2 : Int32)) rfl q1276 mvV_12_its kM_0 lM_0 (by decide) ⟨_, rfl, rfl⟩ rfl rfl (Nat.le_of_ble_eq_true rfl) (Nat.le_of_ble_eq_true rfl) (Nat.le_of_ble_eq_true rfl) ⟨Nat.zero_le _, Nat.zero_le _⟩ dX12_fact_59 (pc2 := 62) rfl rfl (fun x1 m2 => ?_)
      exact lu_iret X hret dX12_fact_62
    · refine lu_ite (fun c2 => ?_) (fun c2 => ?_)
      · refine lu_tsIn X c2 dX12_fact_1 (tgt := 49) (by decide) (by decide) rfl (by decide) ?_
        refine lu_aload_n X dX12_fact_49 (pc2 := 50) rfl rfl 0 rfl ?_
        refine lu_iload_n X dX12_fact_50 (pc2 := 51) rfl rfl 2 rfl ?_
        refine lu_iconst X dX12_fact_51 (pc2 := 52) rfl ic_1 ?_
        refine lu_invVi X (c12_its _ a2 (1 : Int32)) rfl q1276 mvV_12_its kM_0 lM_0 (by decide) ⟨_, rfl, rfl⟩ rfl rfl (Nat.le_of_ble_eq_true rfl) (Nat.le_of_ble_eq_true rfl) (Nat.le_of_ble_eq_true rfl) ⟨Nat.zero_le _, Nat.zero_le _⟩ dX12_fact_52 (pc2 := 55) rfl rfl (fun x3 m4 => ?_)
        exact lu_iret X hret dX12_fact_55
      · refine lu_ite (fun c3 => ?_) (fun c3 => ?_)
        · refine lu_tsIn X c3 dX12_fact_1 (tgt := 43) (by decide) (by decide) rfl (by decide) ?_
          refine lu_aload_n X dX12_fact_43 (pc2 := 44) rfl rfl 0 rfl ?_
          refine lu_iload_n X dX12_fact_44 (pc2 := 45) rfl rfl 2 rfl ?_
          refine lu_invVi X (c12_standWeight _ a2) rfl q1280 mvV_12_standWeight kM_0 lM_0 (by decide) ⟨_, rfl, rfl⟩ rfl rfl (Nat.le_of_ble_eq_true rfl) (Nat.le_of_ble_eq_true rfl) (Nat.le_of_ble_eq_true rfl) ⟨Nat.zero_le _, Nat.zero_le _⟩ dX12_fact_45 (pc2 := 48) rfl rfl (fun x5 m6 => ?_)
          exact lu_iret X hret dX12_fact_48
        · refine lu_ite (fun c4 => ?_) (fun c4 => ?_)
          · refine lu_tsIn X c4 dX12_fact_1 (tgt := 36) (by decide) (by decide) rfl (by decide) ?_
            refine lu_aload_n X dX12_fact_36 (pc2 := 37) rfl rfl 0 rfl ?_
            refine lu_getr (r2 := 1) X rfl fl12_7 rfl kM_0 lM_0 dX12_fact_37 (pc2 := 40) rfl ?_
            refine lu_iconst X dX12_fact_40 (pc2 := 41) rfl ic_3 ?_
            refine lu_ialdK (q := 3) X (by decide) kM_1 lM_1 dX12_fact_41 (pc2 := 42) rfl ?_
            exact lu_iret X hret dX12_fact_42
          · refine lu_tsOut (tgt := 65) X dX12_fact_1 (by have h0 := lv_neT c0 (a := -5) (by decide); have h1 := lv_neT c1 (a := -4) (by decide); have h2 := lv_neT c2 (a := -3) (by decide); have h3 := lv_neT c3 (a := -2) (by decide); have h4 := lv_neT c4 (a := -1) (by decide); omega) (by decide) ?_
            refine lu_iload_n X dX12_fact_65 (pc2 := 66) rfl rfl 1 rfl ?_
            exact lu_iret X hret dX12_fact_66

theorem dX12_isSo_0 : decode cX12_isSo 0 = .ok (.iconst 0, 1) := by decide +kernel
theorem dX12_isSo_1 : decode cX12_isSo 1 = .ok (.istore 4, 2) := by decide +kernel
theorem dX12_isSo_3 : decode cX12_isSo 3 = .ok (.iload_n 1, 1) := by decide +kernel
theorem dX12_isSo_4 : decode cX12_isSo 4 = .ok (.istore 5, 2) := by decide +kernel
theorem dX12_isSo_6 : decode cX12_isSo 6 = .ok (.iload 5, 2) := by decide +kernel
theorem dX12_isSo_8 : decode cX12_isSo 8 = .ok (.iload_n 2, 1) := by decide +kernel
theorem dX12_isSo_9 : decode cX12_isSo 9 = .ok (.if_icmp .ge 120, 3) := by decide +kernel
theorem dX12_isSo_12 : decode cX12_isSo 12 = .ok (.aload_n 0, 1) := by decide +kernel
theorem dX12_isSo_13 : decode cX12_isSo 13 = .ok (.getfield 7, 3) := by decide +kernel
theorem dX12_isSo_16 : decode cX12_isSo 16 = .ok (.sipush 168, 3) := by decide +kernel
theorem dX12_isSo_19 : decode cX12_isSo 19 = .ok (.iload 5, 2) := by decide +kernel
theorem dX12_isSo_21 : decode cX12_isSo 21 = .ok (.iadd, 1) := by decide +kernel
theorem dX12_isSo_22 : decode cX12_isSo 22 = .ok (.iaload, 1) := by decide +kernel
theorem dX12_isSo_23 : decode cX12_isSo 23 = .ok (.istore 6, 2) := by decide +kernel
theorem dX12_isSo_25 : decode cX12_isSo 25 = .ok (.iload 6, 2) := by decide +kernel
theorem dX12_isSo_27 : decode cX12_isSo 27 = .ok (.bipush (-10), 2) := by decide +kernel
theorem dX12_isSo_29 : decode cX12_isSo 29 = .ok (.if_icmp .le 23, 3) := by decide +kernel
theorem dX12_isSo_32 : decode cX12_isSo 32 = .ok (.aload_n 0, 1) := by decide +kernel
theorem dX12_isSo_33 : decode cX12_isSo 33 = .ok (.getfield 19, 3) := by decide +kernel
theorem dX12_isSo_36 : decode cX12_isSo 36 = .ok (.iload 4, 2) := by decide +kernel
theorem dX12_isSo_38 : decode cX12_isSo 38 = .ok (.aload_n 0, 1) := by decide +kernel
theorem dX12_isSo_39 : decode cX12_isSo 39 = .ok (.iload 6, 2) := by decide +kernel
theorem dX12_isSo_41 : decode cX12_isSo 41 = .ok (.iload_n 3, 1) := by decide +kernel
theorem dX12_isSo_42 : decode cX12_isSo 42 = .ok (.invokevirtual 128, 3) := by decide +kernel
theorem dX12_isSo_45 : decode cX12_isSo 45 = .ok (.iastore, 1) := by decide +kernel
theorem dX12_isSo_46 : decode cX12_isSo 46 = .ok (.iinc 4 1, 3) := by decide +kernel
theorem dX12_isSo_49 : decode cX12_isSo 49 = .ok (.goto 74, 3) := by decide +kernel
theorem dX12_isSo_52 : decode cX12_isSo 52 = .ok (.iload 6, 2) := by decide +kernel
theorem dX12_isSo_54 : decode cX12_isSo 54 = .ok (.bipush (-20), 2) := by decide +kernel
theorem dX12_isSo_56 : decode cX12_isSo 56 = .ok (.if_icmp .ne 26, 3) := by decide +kernel
theorem dX12_isSo_59 : decode cX12_isSo 59 = .ok (.aload_n 0, 1) := by decide +kernel
theorem dX12_isSo_60 : decode cX12_isSo 60 = .ok (.getfield 19, 3) := by decide +kernel
theorem dX12_isSo_63 : decode cX12_isSo 63 = .ok (.iload 4, 2) := by decide +kernel
theorem dX12_isSo_65 : decode cX12_isSo 65 = .ok (.iconst 1, 1) := by decide +kernel
theorem dX12_isSo_66 : decode cX12_isSo 66 = .ok (.isub, 1) := by decide +kernel
theorem dX12_isSo_67 : decode cX12_isSo 67 = .ok (.iconst 1, 1) := by decide +kernel
theorem dX12_isSo_68 : decode cX12_isSo 68 = .ok (.aload_n 0, 1) := by decide +kernel
theorem dX12_isSo_69 : decode cX12_isSo 69 = .ok (.getfield 19, 3) := by decide +kernel
theorem dX12_isSo_72 : decode cX12_isSo 72 = .ok (.iload 4, 2) := by decide +kernel
theorem dX12_isSo_74 : decode cX12_isSo 74 = .ok (.iconst 1, 1) := by decide +kernel
theorem dX12_isSo_75 : decode cX12_isSo 75 = .ok (.isub, 1) := by decide +kernel
theorem dX12_isSo_76 : decode cX12_isSo 76 = .ok (.iaload, 1) := by decide +kernel
theorem dX12_isSo_77 : decode cX12_isSo 77 = .ok (.isub, 1) := by decide +kernel
theorem dX12_isSo_78 : decode cX12_isSo 78 = .ok (.iastore, 1) := by decide +kernel
theorem dX12_isSo_79 : decode cX12_isSo 79 = .ok (.goto 44, 3) := by decide +kernel
theorem dX12_isSo_82 : decode cX12_isSo 82 = .ok (.iinc 4 (-1), 3) := by decide +kernel
theorem dX12_isSo_85 : decode cX12_isSo 85 = .ok (.aload_n 0, 1) := by decide +kernel
theorem dX12_isSo_86 : decode cX12_isSo 86 = .ok (.getfield 19, 3) := by decide +kernel
theorem dX12_isSo_89 : decode cX12_isSo 89 = .ok (.iload 4, 2) := by decide +kernel
theorem dX12_isSo_91 : decode cX12_isSo 91 = .ok (.iconst 1, 1) := by decide +kernel
theorem dX12_isSo_92 : decode cX12_isSo 92 = .ok (.isub, 1) := by decide +kernel
theorem dX12_isSo_93 : decode cX12_isSo 93 = .ok (.iload 6, 2) := by decide +kernel
theorem dX12_isSo_95 : decode cX12_isSo 95 = .ok (.aload_n 0, 1) := by decide +kernel
theorem dX12_isSo_96 : decode cX12_isSo 96 = .ok (.getfield 19, 3) := by decide +kernel
theorem dX12_isSo_99 : decode cX12_isSo 99 = .ok (.iload 4, 2) := by decide +kernel
theorem dX12_isSo_101 : decode cX12_isSo 101 = .ok (.iconst 1, 1) := by decide +kernel
theorem dX12_isSo_102 : decode cX12_isSo 102 = .ok (.isub, 1) := by decide +kernel
theorem dX12_isSo_103 : decode cX12_isSo 103 = .ok (.iaload, 1) := by decide +kernel
theorem dX12_isSo_104 : decode cX12_isSo 104 = .ok (.aload_n 0, 1) := by decide +kernel
theorem dX12_isSo_105 : decode cX12_isSo 105 = .ok (.getfield 19, 3) := by decide +kernel
theorem dX12_isSo_108 : decode cX12_isSo 108 = .ok (.iload 4, 2) := by decide +kernel
theorem dX12_isSo_110 : decode cX12_isSo 110 = .ok (.iaload, 1) := by decide +kernel
theorem dX12_isSo_111 : decode cX12_isSo 111 = .ok (.invokestatic 131, 3) := by decide +kernel
theorem dX12_isSo_114 : decode cX12_isSo 114 = .ok (.ifCond .eq 7, 3) := by decide +kernel
theorem dX12_isSo_117 : decode cX12_isSo 117 = .ok (.iconst 1, 1) := by decide +kernel
theorem dX12_isSo_118 : decode cX12_isSo 118 = .ok (.goto 4, 3) := by decide +kernel
theorem dX12_isSo_121 : decode cX12_isSo 121 = .ok (.iconst 0, 1) := by decide +kernel
theorem dX12_isSo_122 : decode cX12_isSo 122 = .ok (.iastore, 1) := by decide +kernel
theorem dX12_isSo_123 : decode cX12_isSo 123 = .ok (.iinc 5 1, 3) := by decide +kernel
theorem dX12_isSo_126 : decode cX12_isSo 126 = .ok (.goto (-120), 3) := by decide +kernel
theorem dX12_isSo_129 : decode cX12_isSo 129 = .ok (.iload 4, 2) := by decide +kernel
theorem dX12_isSo_131 : decode cX12_isSo 131 = .ok (.ifCond .eq 13, 3) := by decide +kernel
theorem dX12_isSo_134 : decode cX12_isSo 134 = .ok (.aload_n 0, 1) := by decide +kernel
theorem dX12_isSo_135 : decode cX12_isSo 135 = .ok (.getfield 19, 3) := by decide +kernel
theorem dX12_isSo_138 : decode cX12_isSo 138 = .ok (.iconst 0, 1) := by decide +kernel
theorem dX12_isSo_139 : decode cX12_isSo 139 = .ok (.iaload, 1) := by decide +kernel
theorem dX12_isSo_140 : decode cX12_isSo 140 = .ok (.iconst 1, 1) := by decide +kernel
theorem dX12_isSo_141 : decode cX12_isSo 141 = .ok (.if_icmp .ne 7, 3) := by decide +kernel
theorem dX12_isSo_144 : decode cX12_isSo 144 = .ok (.iconst 1, 1) := by decide +kernel
theorem dX12_isSo_145 : decode cX12_isSo 145 = .ok (.goto 4, 3) := by decide +kernel
theorem dX12_isSo_148 : decode cX12_isSo 148 = .ok (.iconst 0, 1) := by decide +kernel
theorem dX12_isSo_149 : decode cX12_isSo 149 = .ok (.ireturn, 1) := by decide +kernel
def f12_isSo_b123 (K6 : Int32 → Int32 → lu_M → Option (Int32 × lu_M)) (K129 : Int32 → lu_M → Option (Int32 × lu_M)) (a1 : Int32) (a2 : Int32) (a3 : Int32) (v4 : Int32) (v5 : Int32) (m : lu_M) : Option (Int32 × lu_M) :=
  K6 v4 (v5 + (1 : Int32)) m
set_option maxRecDepth 20000 in
theorem w12_isSo_b123  {G : lu_G} {ρ : Nat → Nat} {a1 : Int32} {a2 : Int32} {a3 : Int32} {K6 : Int32 → Int32 → lu_M → Option (Int32 × lu_M)} {K129 : Int32 → lu_M → Option (Int32 × lu_M)} (X : lu_X G RX12 cX12_isSo 7 4 88) (hret : (lu_me G).sig.returnType = (some .boolean))  (hK6 : ∀ (v4 : Int32) (v5 : Int32) (m : lu_M), lu_Ab lu_TM G (lu_Q lu_TM G ρ lu_RVi lu_sn) (K6 v4 v5 m) 6 [(0, .ref (ρ 0)), (2, .int a2), (3, .int a3), (4, .int v4), (5, .int v5)] [] ρ 0 0 [] m) (hK129 : ∀ (v4 : Int32) (m : lu_M), lu_Ab lu_TM G (lu_Q lu_TM G ρ lu_RVi lu_sn) (K129 v4 m) 129 [(0, .ref (ρ 0)), (4, .int v4)] [] ρ 0 0 [] m) : ∀ (v4 : Int32) (v5 : Int32) (m : lu_M), lu_Ab lu_TM G (lu_Q lu_TM G ρ lu_RVi lu_sn) (f12_isSo_b123 K6 K129 a1 a2 a3 v4 v5 m) 123 [(0, .ref (ρ 0)), (2, .int a2), (3, .int a3), (4, .int v4), (5, .int v5)] [] ρ 0 0 [] m := by
  intro v4 v5 m
  unfold f12_isSo_b123
  refine lu_iinc (lv2 := [(5, .int (v5 + (1 : Int32))), (0, .ref (ρ 0)), (2, .int a2), (3, .int a3), (4, .int v4)]) X dX12_isSo_123 (pc2 := 126) rfl 4 rfl (lu_ii _ ic_1) (by decide) rfl ?_
  refine lu_goto (tgt := 6) X dX12_isSo_126 (by decide) ?_
  exact lu_sub [1, 2, 3, 4, 0] rfl (hK6 v4 (v5 + (1 : Int32)) m)
def f12_isSo_b122 (K6 : Int32 → Int32 → lu_M → Option (Int32 × lu_M)) (K129 : Int32 → lu_M → Option (Int32 × lu_M)) (a1 : Int32) (a2 : Int32) (a3 : Int32) (v4 : Int32) (v5 : Int32) (s0 : Int32) (s1 : Int32) (m : lu_M) : Option (Int32 × lu_M) :=
  lu_gd (lu_ib s1 200) <|
  lu_nm (lu_st m 4 s1.toNatClampNeg s0) fun m4 =>
  f12_isSo_b123 K6 K129 a1 a2 a3 v4 v5 m4
set_option maxRecDepth 20000 in
theorem w12_isSo_b122  {G : lu_G} {ρ : Nat → Nat} {a1 : Int32} {a2 : Int32} {a3 : Int32} {K6 : Int32 → Int32 → lu_M → Option (Int32 × lu_M)} {K129 : Int32 → lu_M → Option (Int32 × lu_M)} (X : lu_X G RX12 cX12_isSo 7 4 88) (hret : (lu_me G).sig.returnType = (some .boolean))  (hK6 : ∀ (v4 : Int32) (v5 : Int32) (m : lu_M), lu_Ab lu_TM G (lu_Q lu_TM G ρ lu_RVi lu_sn) (K6 v4 v5 m) 6 [(0, .ref (ρ 0)), (2, .int a2), (3, .int a3), (4, .int v4), (5, .int v5)] [] ρ 0 0 [] m) (hK129 : ∀ (v4 : Int32) (m : lu_M), lu_Ab lu_TM G (lu_Q lu_TM G ρ lu_RVi lu_sn) (K129 v4 m) 129 [(0, .ref (ρ 0)), (4, .int v4)] [] ρ 0 0 [] m) : ∀ (v4 : Int32) (v5 : Int32) (s0 : Int32) (s1 : Int32) (m : lu_M), lu_Ab lu_TM G (lu_Q lu_TM G ρ lu_RVi lu_sn) (f12_isSo_b122 K6 K129 a1 a2 a3 v4 v5 s0 s1 m) 122 [(0, .ref (ρ 0)), (2, .int a2), (3, .int a3), (4, .int v4), (5, .int v5)] [.int s0, .int s1, .ref (ρ 4)] ρ 0 0 [] m := by
  intro v4 v5 s0 s1 m
  unfold f12_isSo_b122
  refine lu_iast X kM_4 lM_4 dX12_isSo_122 (pc2 := 123) rfl (fun m4 => ?_)
  exact w12_isSo_b123 X hret hK6 hK129 v4 v5 m4
def f12_isSo_b6B (K129 : Int32 → lu_M → Option (Int32 × lu_M)) (rec : Int32 → Int32 → lu_M → Option (Int32 × lu_M)) (a1 : Int32) (a2 : Int32) (a3 : Int32) (v4 : Int32) (v5 : Int32) (m : lu_M) : Option (Int32 × lu_M) :=
  if a2 ≤ v5 then (K129 v4 m)
  else (lu_gd (lu_ib ((168 : Int32) + v5) 368) <|
  lu_nm ((m 1 ((168 : Int32) + v5).toNatClampNeg)) fun x1 =>
  if x1 ≤ (-10 : Int32) then (if x1 = (-20 : Int32) then (lu_gd (lu_ib (v4 - (1 : Int32)) 200) <|
  lu_gd (lu_ib (v4 - (1 : Int32)) 200) <|
  lu_nm (lu_st m 4 (v4 - (1 : Int32)).toNatClampNeg ((1 : Int32) - (m 4 (v4 - (1 : Int32)).toNatClampNeg))) fun m5 =>
  f12_isSo_b123 rec K129 a1 a2 a3 v4 v5 m5)
  else (lu_gd (lu_ib ((v4 + (-1 : Int32)) - (1 : Int32)) 200) <|
  lu_gd (lu_ib (v4 + (-1 : Int32)) 200) <|
  lu_bi (f12_isHolding x1 (m 4 ((v4 + (-1 : Int32)) - (1 : Int32)).toNatClampNeg) (m 4 (v4 + (-1 : Int32)).toNatClampNeg) m) fun x2 m3 =>
  if x2 = 0 then (f12_isSo_b122 rec K129 a1 a2 a3 (v4 + (-1 : Int32)) v5 (0 : Int32) ((v4 + (-1 : Int32)) - (1 : Int32)) m3)
  else (f12_isSo_b122 rec K129 a1 a2 a3 (v4 + (-1 : Int32)) v5 (1 : Int32) ((v4 + (-1 : Int32)) - (1 : Int32)) m3)))
  else (lu_bi (f12_fact x1 a3 m) fun x6 m7 =>
  lu_gd (lu_ib v4 200) <|
  lu_nm (lu_st m7 4 v4.toNatClampNeg x6) fun m8 =>
  f12_isSo_b123 rec K129 a1 a2 a3 (v4 + (1 : Int32)) v5 m8))
def f12_isSo_b6 (K129 : Int32 → lu_M → Option (Int32 × lu_M)) (a1 : Int32) (a2 : Int32) (a3 : Int32) : Nat → Int32 → Int32 → lu_M → Option (Int32 × lu_M)
  | 0, _, _, _ => none
  | n + 1, v4, v5, m => f12_isSo_b6B K129 (f12_isSo_b6 K129 a1 a2 a3 n) a1 a2 a3 v4 v5 m
set_option maxRecDepth 20000 in
theorem w12_isSo_b6B  {G : lu_G} {ρ : Nat → Nat} {a1 : Int32} {a2 : Int32} {a3 : Int32} {K129 : Int32 → lu_M → Option (Int32 × lu_M)} {rec : Int32 → Int32 → lu_M → Option (Int32 × lu_M)} (X : lu_X G RX12 cX12_isSo 7 4 88) (hret : (lu_me G).sig.returnType = (some .boolean))  (hK129 : ∀ (v4 : Int32) (m : lu_M), lu_Ab lu_TM G (lu_Q lu_TM G ρ lu_RVi lu_sn) (K129 v4 m) 129 [(0, .ref (ρ 0)), (4, .int v4)] [] ρ 0 0 [] m) (hrec : ∀ (v4 : Int32) (v5 : Int32) (m : lu_M), lu_Ab lu_TM G (lu_Q lu_TM G ρ lu_RVi lu_sn) (rec v4 v5 m) 6 [(0, .ref (ρ 0)), (2, .int a2), (3, .int a3), (4, .int v4), (5, .int v5)] [] ρ 0 0 [] m) : ∀ (v4 : Int32) (v5 : Int32) (m : lu_M), lu_Ab lu_TM G (lu_Q lu_TM G ρ lu_RVi lu_sn) (f12_isSo_b6B K129 rec a1 a2 a3 v4 v5 m) 6 [(0, .ref (ρ 0)), (2, .int a2), (3, .int a3), (4, .int v4), (5, .int v5)] [] ρ 0 0 [] m := by
  intro v4 v5 m
  unfold f12_isSo_b6B
  refine lu_iload X dX12_isSo_6 (pc2 := 8) rfl 4 rfl ?_
  refine lu_iload_n X dX12_isSo_8 (pc2 := 9) rfl rfl 1 rfl ?_
  refine lu_icmp_ge (tgt := 129) X dX12_isSo_9 (pc2 := 12) rfl (by decide) (fun _ => ?_) (fun _ => ?_)
  · exact lu_sub [0, 3] rfl (hK129 v4 m)
  · refine lu_aload_n X dX12_isSo_12 (pc2 := 13) rfl rfl 0 rfl ?_
    refine lu_getr (r2 := 1) X rfl fl12_7 rfl kM_0 lM_0 dX12_isSo_13 (pc2 := 16) rfl ?_
    refine lu_sipush X dX12_isSo_16 (pc2 := 19) rfl sp_168 ?_
    refine lu_iload X dX12_isSo_19 (pc2 := 21) rfl 4 rfl ?_
    refine lu_iadd X dX12_isSo_21 (pc2 := 22) rfl ?_
    refine lu_iald X kM_1 lM_1 dX12_isSo_22 (pc2 := 23) rfl ?_
    refine lu_topi (fun x1 => ?_)
    refine lu_istore (lv2 := [(6, .int x1), (0, .ref (ρ 0)), (2, .int a2), (3, .int a3), (4, .int v4), (5, .int v5)]) X dX12_isSo_23 (pc2 := 25) rfl (by decide) rfl ?_
    refine lu_iload X dX12_isSo_25 (pc2 := 27) rfl 0 rfl ?_
    refine lu_bipush X dX12_isSo_27 (pc2 := 29) rfl bp_m10 ?_
    refine lu_icmp_le (tgt := 52) X dX12_isSo_29 (pc2 := 32) rfl (by decide) (fun _ => ?_) (fun _ => ?_)
    · refine lu_iload X dX12_isSo_52 (pc2 := 54) rfl 0 rfl ?_
      refine lu_bipush X dX12_isSo_54 (pc2 := 56) rfl bp_m20 ?_
      refine lu_icmp_ne (tgt := 82) X dX12_isSo_56 (pc2 := 59) rfl (by decide) (fun _ => ?_) (fun _ => ?_)
      · refine lu_iinc (lv2 := [(4, .int (v4 + (-1 : Int32))), (6, .int x1), (0, .ref (ρ 0)), (2, .int a2), (3, .int a3), (5, .int v5)]) X dX12_isSo_82 (pc2 := 85) rfl 4 rfl (lu_ii _ ic_m1) (by decide) rfl ?_
        refine lu_aload_n X dX12_isSo_85 (pc2 := 86) rfl rfl 2 rfl ?_
        refine lu_getr (r2 := 4) X rfl fl12_19 rfl kM_0 lM_0 dX12_isSo_86 (pc2 := 89) rfl ?_
        refine lu_iload X dX12_isSo_89 (pc2 := 91) rfl 0 rfl ?_
        refine lu_iconst X dX12_isSo_91 (pc2 := 92) rfl ic_1 ?_
        refine lu_isub X dX12_isSo_92 (pc2 := 93) rfl ?_
        refine lu_iload X dX12_isSo_93 (pc2 := 95) rfl 1 rfl ?_
        refine lu_aload_n X dX12_isSo_95 (pc2 := 96) rfl rfl 2 rfl ?_
        refine lu_getr (r2 := 4) X rfl fl12_19 rfl kM_0 lM_0 dX12_isSo_96 (pc2 := 99) rfl ?_
        refine lu_iload X dX12_isSo_99 (pc2 := 101) rfl 0 rfl ?_
        refine lu_iconst X dX12_isSo_101 (pc2 := 102) rfl ic_1 ?_
        refine lu_isub X dX12_isSo_102 (pc2 := 103) rfl ?_
        refine lu_iald X kM_4 lM_4 dX12_isSo_103 (pc2 := 104) rfl ?_
        refine lu_aload_n X dX12_isSo_104 (pc2 := 105) rfl rfl 2 rfl ?_
        refine lu_getr (r2 := 4) X rfl fl12_19 rfl kM_0 lM_0 dX12_isSo_105 (pc2 := 108) rfl ?_
        refine lu_iload X dX12_isSo_108 (pc2 := 110) rfl 0 rfl ?_
        refine lu_iald X kM_4 lM_4 dX12_isSo_110 (pc2 := 111) rfl ?_
        refine lu_invSi X (c12_isHolding _ x1 (m 4 ((v4 + (-1 : Int32)) - (1 : Int32)).toNatClampNeg) (m 4 (v4 + (-1 : Int32)).toNatClampNeg)) rfl q1313 mvS_12_isHolding rfl rfl (Nat.le_of_ble_eq_true rfl) (Nat.le_of_ble_eq_true rfl) (Nat.le_of_ble_eq_true rfl) ⟨Nat.zero_le _, Nat.zero_le _⟩ dX12_isSo_111 (pc2 := 114) rfl rfl (fun x2 m3 => ?_)
        refine lu_if_eq (tgt := 121) X dX12_isSo_114 (pc2 := 117) rfl (by decide) (fun _ => ?_) (fun _ => ?_)
        · refine lu_iconst X dX12_isSo_121 (pc2 := 122) rfl ic_0 ?_
          exact lu_sub [2, 3, 4, 0, 5] rfl (w12_isSo_b122 X hret hrec hK129 (v4 + (-1 : Int32)) v5 (0 : Int32) ((v4 + (-1 : Int32)) - (1 : Int32)) m3)
        · refine lu_iconst X dX12_isSo_117 (pc2 := 118) rfl ic_1 ?_
          refine lu_goto (tgt := 122) X dX12_isSo_118 (by decide) ?_
          exact lu_sub [2, 3, 4, 0, 5] rfl (w12_isSo_b122 X hret hrec hK129 (v4 + (-1 : Int32)) v5 (1 : Int32) ((v4 + (-1 : Int32)) - (1 : Int32)) m3)
      · refine lu_aload_n X dX12_isSo_59 (pc2 := 60) rfl rfl 1 rfl ?_
        refine lu_getr (r2 := 4) X rfl fl12_19 rfl kM_0 lM_0 dX12_isSo_60 (pc2 := 63) rfl ?_
        refine lu_iload X dX12_isSo_63 (pc2 := 65) rfl 4 rfl ?_
        refine lu_iconst X dX12_isSo_65 (pc2 := 66) rfl ic_1 ?_
        refine lu_isub X dX12_isSo_66 (pc2 := 67) rfl ?_
        refine lu_iconst X dX12_isSo_67 (pc2 := 68) rfl ic_1 ?_
        refine lu_aload_n X dX12_isSo_68 (pc2 := 69) rfl rfl 1 rfl ?_
        refine lu_getr (r2 := 4) X rfl fl12_19 rfl kM_0 lM_0 dX12_isSo_69 (pc2 := 72) rfl ?_
        refine lu_iload X dX12_isSo_72 (pc2 := 74) rfl 4 rfl ?_
        refine lu_iconst X dX12_isSo_74 (pc2 := 75) rfl ic_1 ?_
        refine lu_isub X dX12_isSo_75 (pc2 := 76) rfl ?_
        refine lu_iald X kM_4 lM_4 dX12_isSo_76 (pc2 := 77) rfl ?_
        refine lu_isub X dX12_isSo_77 (pc2 := 78) rfl ?_
        refine lu_iast X kM_4 lM_4 dX12_isSo_78 (pc2 := 79) rfl (fun m5 => ?_)
        refine lu_goto (tgt := 123) X dX12_isSo_79 (by decide) ?_
        exact lu_sub [1, 2, 3, 4, 5] rfl (w12_isSo_b123 X hret hrec hK129 v4 v5 m5)
    · refine lu_aload_n X dX12_isSo_32 (pc2 := 33) rfl rfl 1 rfl ?_
      refine lu_getr (r2 := 4) X rfl fl12_19 rfl kM_0 lM_0 dX12_isSo_33 (pc2 := 36) rfl ?_
      refine lu_iload X dX12_isSo_36 (pc2 := 38) rfl 4 rfl ?_
      refine lu_aload_n X dX12_isSo_38 (pc2 := 39) rfl rfl 1 rfl ?_
      refine lu_iload X dX12_isSo_39 (pc2 := 41) rfl 0 rfl ?_
      refine lu_iload_n X dX12_isSo_41 (pc2 := 42) rfl rfl 3 rfl ?_
      refine lu_invVi X (c12_fact _ x1 a3) rfl q1309 mvV_12_fact kM_0 lM_0 (by decide) ⟨_, rfl, rfl⟩ rfl rfl (Nat.le_of_ble_eq_true rfl) (Nat.le_of_ble_eq_true rfl) (Nat.le_of_ble_eq_true rfl) ⟨Nat.zero_le _, Nat.zero_le _⟩ dX12_isSo_42 (pc2 := 45) rfl rfl (fun x6 m7 => ?_)
      refine lu_iast X kM_4 lM_4 dX12_isSo_45 (pc2 := 46) rfl (fun m8 => ?_)
      refine lu_iinc (lv2 := [(4, .int (v4 + (1 : Int32))), (6, .int x1), (0, .ref (ρ 0)), (2, .int a2), (3, .int a3), (5, .int v5)]) X dX12_isSo_46 (pc2 := 49) rfl 4 rfl (lu_ii _ ic_1) (by decide) rfl ?_
      refine lu_goto (tgt := 123) X dX12_isSo_49 (by decide) ?_
      exact lu_sub [2, 3, 4, 0, 5] rfl (w12_isSo_b123 X hret hrec hK129 (v4 + (1 : Int32)) v5 m8)
theorem w12_isSo_b6  {G : lu_G} {ρ : Nat → Nat} {a1 : Int32} {a2 : Int32} {a3 : Int32} {K129 : Int32 → lu_M → Option (Int32 × lu_M)} (X : lu_X G RX12 cX12_isSo 7 4 88) (hret : (lu_me G).sig.returnType = (some .boolean))  (hK129 : ∀ (v4 : Int32) (m : lu_M), lu_Ab lu_TM G (lu_Q lu_TM G ρ lu_RVi lu_sn) (K129 v4 m) 129 [(0, .ref (ρ 0)), (4, .int v4)] [] ρ 0 0 [] m) : ∀ (n : Nat) (v4 : Int32) (v5 : Int32) (m : lu_M), lu_Ab lu_TM G (lu_Q lu_TM G ρ lu_RVi lu_sn) (f12_isSo_b6 K129 a1 a2 a3 n v4 v5 m) 6 [(0, .ref (ρ 0)), (2, .int a2), (3, .int a3), (4, .int v4), (5, .int v5)] [] ρ 0 0 [] m := by
  intro n
  induction n with
  | zero => intro v4 v5 m; exact lu_none
  | succ n ih => intro v4 v5 m; exact w12_isSo_b6B X hret hK129 ih v4 v5 m
def f12_isSo_b149  (a1 : Int32) (a2 : Int32) (a3 : Int32) (s0 : Int32) (m : lu_M) : Option (Int32 × lu_M) :=
  lu_gd (decide (s0 = 0 ∨ s0 = 1)) (some (s0, m))
set_option maxRecDepth 20000 in
theorem w12_isSo_b149  {G : lu_G} {ρ : Nat → Nat} {a1 : Int32} {a2 : Int32} {a3 : Int32}  (X : lu_X G RX12 cX12_isSo 7 4 88) (hret : (lu_me G).sig.returnType = (some .boolean))   : ∀ (s0 : Int32) (m : lu_M), lu_Ab lu_TM G (lu_Q lu_TM G ρ lu_RVi lu_sn) (f12_isSo_b149 a1 a2 a3 s0 m) 149 [] [.int s0] ρ 0 0 [] m := by
  intro s0 m
  unfold f12_isSo_b149
  exact lu_zretG X hret dX12_isSo_149
def f12_isSo_b144  (a1 : Int32) (a2 : Int32) (a3 : Int32)  (m : lu_M) : Option (Int32 × lu_M) :=
  f12_isSo_b149 a1 a2 a3 (1 : Int32) m
set_option maxRecDepth 20000 in
theorem w12_isSo_b144  {G : lu_G} {ρ : Nat → Nat} {a1 : Int32} {a2 : Int32} {a3 : Int32}  (X : lu_X G RX12 cX12_isSo 7 4 88) (hret : (lu_me G).sig.returnType = (some .boolean))   : ∀  (m : lu_M), lu_Ab lu_TM G (lu_Q lu_TM G ρ lu_RVi lu_sn) (f12_isSo_b144 a1 a2 a3 m) 144 [] [] ρ 0 0 [] m := by
  intro  m
  unfold f12_isSo_b144
  refine lu_iconst X dX12_isSo_144 (pc2 := 145) rfl ic_1 ?_
  refine lu_goto (tgt := 149) X dX12_isSo_145 (by decide) ?_
  exact w12_isSo_b149 X hret (1 : Int32) m
def f12_isSo_b129  (a1 : Int32) (a2 : Int32) (a3 : Int32) (v4 : Int32) (m : lu_M) : Option (Int32 × lu_M) :=
  if v4 = 0 then (f12_isSo_b144 a1 a2 a3 m)
  else (if (m 4 0) = (1 : Int32) then (f12_isSo_b144 a1 a2 a3 m)
  else (f12_isSo_b149 a1 a2 a3 (0 : Int32) m))
set_option maxRecDepth 20000 in
theorem w12_isSo_b129  {G : lu_G} {ρ : Nat → Nat} {a1 : Int32} {a2 : Int32} {a3 : Int32}  (X : lu_X G RX12 cX12_isSo 7 4 88) (hret : (lu_me G).sig.returnType = (some .boolean))   : ∀ (v4 : Int32) (m : lu_M), lu_Ab lu_TM G (lu_Q lu_TM G ρ lu_RVi lu_sn) (f12_isSo_b129 a1 a2 a3 v4 m) 129 [(0, .ref (ρ 0)), (4, .int v4)] [] ρ 0 0 [] m := by
  intro v4 m
  unfold f12_isSo_b129
  refine lu_iload X dX12_isSo_129 (pc2 := 131) rfl 1 rfl ?_
  refine lu_if_eq (tgt := 144) X dX12_isSo_131 (pc2 := 134) rfl (by decide) (fun _ => ?_) (fun _ => ?_)
  · exact lu_sub [] rfl (w12_isSo_b144 X hret m)
  · refine lu_aload_n X dX12_isSo_134 (pc2 := 135) rfl rfl 0 rfl ?_
    refine lu_getr (r2 := 4) X rfl fl12_19 rfl kM_0 lM_0 dX12_isSo_135 (pc2 := 138) rfl ?_
    refine lu_iconst X dX12_isSo_138 (pc2 := 139) rfl ic_0 ?_
    refine lu_ialdK (q := 0) X (by decide) kM_4 lM_4 dX12_isSo_139 (pc2 := 140) rfl ?_
    refine lu_iconst X dX12_isSo_140 (pc2 := 141) rfl ic_1 ?_
    refine lu_icmp_ne (tgt := 148) X dX12_isSo_141 (pc2 := 144) rfl (by decide) (fun _ => ?_) (fun _ => ?_)
    · refine lu_iconst X dX12_isSo_148 (pc2 := 149) rfl ic_0 ?_
      exact lu_sub [] rfl (w12_isSo_b149 X hret (0 : Int32) m)
    · exact lu_sub [] rfl (w12_isSo_b144 X hret m)
def f12_isSo (a1 : Int32) (a2 : Int32) (a3 : Int32) (m : lu_M) : Option (Int32 × lu_M) :=
  f12_isSo_b6 (f12_isSo_b129 a1 a2 a3) a1 a2 a3 lu_fu (0 : Int32) a1 m
set_option maxRecDepth 20000 in
theorem c12_isSo (l : Launch)   (a1 : Int32) (a2 : Int32) (a3 : Int32) : lu_C lu_TM l yX12_isSo cX12_isSo 7 (some .boolean) 4 88 (fun ρ sa => [.ref (ρ 0), .int a1, .int a2, .int a3]) (f12_isSo a1 a2 a3) lu_RVi lu_sn := by
  refine lu_met (cls := RX12) rfl (by decide +kernel) (fun _ _ => Nat.le_of_ble_eq_true rfl) ?_
  intro G ρ m hl X hret
  subst hl
  change lu_Ab lu_TM G (lu_Q lu_TM G ρ lu_RVi lu_sn) (f12_isSo a1 a2 a3 m) 0 [(0, .ref (ρ 0)), (1, .int a1), (2, .int a2), (3, .int a3)] [] ρ 0 0 [] m
  unfold f12_isSo
  refine lu_iconst X dX12_isSo_0 (pc2 := 1) rfl ic_0 ?_
  refine lu_istore (lv2 := [(4, .int (0 : Int32)), (0, .ref (ρ 0)), (1, .int a1), (2, .int a2), (3, .int a3)]) X dX12_isSo_1 (pc2 := 3) rfl (by decide) rfl ?_
  refine lu_iload_n X dX12_isSo_3 (pc2 := 4) rfl rfl 2 rfl ?_
  refine lu_istore (lv2 := [(5, .int a1), (4, .int (0 : Int32)), (0, .ref (ρ 0)), (1, .int a1), (2, .int a2), (3, .int a3)]) X dX12_isSo_4 (pc2 := 6) rfl (by decide) rfl ?_
  exact lu_sub [2, 4, 5, 1, 0] rfl (w12_isSo_b6 X hret (w12_isSo_b129 X hret) lu_fu (0 : Int32) a1 m)

theorem dX12_choice_0 : decode cX12_choice 0 = .ok (.aload_n 0, 1) := by decide +kernel
theorem dX12_choice_1 : decode cX12_choice 1 = .ok (.iload_n 1, 1) := by decide +kernel
theorem dX12_choice_2 : decode cX12_choice 2 = .ok (.iconst 0, 1) := by decide +kernel
theorem dX12_choice_3 : decode cX12_choice 3 = .ok (.invokevirtual 83, 3) := by decide +kernel
theorem dX12_choice_6 : decode cX12_choice 6 = .ok (.istore_n 2, 1) := by decide +kernel
theorem dX12_choice_7 : decode cX12_choice 7 = .ok (.iconst (-1), 1) := by decide +kernel
theorem dX12_choice_8 : decode cX12_choice 8 = .ok (.istore_n 3, 1) := by decide +kernel
theorem dX12_choice_9 : decode cX12_choice 9 = .ok (.iconst 0, 1) := by decide +kernel
theorem dX12_choice_10 : decode cX12_choice 10 = .ok (.istore 4, 2) := by decide +kernel
theorem dX12_choice_12 : decode cX12_choice 12 = .ok (.iconst 0, 1) := by decide +kernel
theorem dX12_choice_13 : decode cX12_choice 13 = .ok (.istore 5, 2) := by decide +kernel
theorem dX12_choice_15 : decode cX12_choice 15 = .ok (.iload 5, 2) := by decide +kernel
theorem dX12_choice_17 : decode cX12_choice 17 = .ok (.aload_n 0, 1) := by decide +kernel
theorem dX12_choice_18 : decode cX12_choice 18 = .ok (.getfield 7, 3) := by decide +kernel
theorem dX12_choice_21 : decode cX12_choice 21 = .ok (.iconst 1, 1) := by decide +kernel
theorem dX12_choice_22 : decode cX12_choice 22 = .ok (.iaload, 1) := by decide +kernel
theorem dX12_choice_23 : decode cX12_choice 23 = .ok (.if_icmp .ge 76, 3) := by decide +kernel
theorem dX12_choice_26 : decode cX12_choice 26 = .ok (.iload_n 3, 1) := by decide +kernel
theorem dX12_choice_27 : decode cX12_choice 27 = .ok (.ifCond .ge 72, 3) := by decide +kernel
theorem dX12_choice_30 : decode cX12_choice 30 = .ok (.sipush 136, 3) := by decide +kernel
theorem dX12_choice_33 : decode cX12_choice 33 = .ok (.iconst 4, 1) := by decide +kernel
theorem dX12_choice_34 : decode cX12_choice 34 = .ok (.iload 5, 2) := by decide +kernel
theorem dX12_choice_36 : decode cX12_choice 36 = .ok (.imul, 1) := by decide +kernel
theorem dX12_choice_37 : decode cX12_choice 37 = .ok (.iadd, 1) := by decide +kernel
theorem dX12_choice_38 : decode cX12_choice 38 = .ok (.istore 6, 2) := by decide +kernel
theorem dX12_choice_40 : decode cX12_choice 40 = .ok (.iload_n 2, 1) := by decide +kernel
theorem dX12_choice_41 : decode cX12_choice 41 = .ok (.aload_n 0, 1) := by decide +kernel
theorem dX12_choice_42 : decode cX12_choice 42 = .ok (.getfield 7, 3) := by decide +kernel
theorem dX12_choice_45 : decode cX12_choice 45 = .ok (.iload 6, 2) := by decide +kernel
theorem dX12_choice_47 : decode cX12_choice 47 = .ok (.iconst 0, 1) := by decide +kernel
theorem dX12_choice_48 : decode cX12_choice 48 = .ok (.iadd, 1) := by decide +kernel
theorem dX12_choice_49 : decode cX12_choice 49 = .ok (.iaload, 1) := by decide +kernel
theorem dX12_choice_50 : decode cX12_choice 50 = .ok (.invokestatic 135, 3) := by decide +kernel
theorem dX12_choice_53 : decode cX12_choice 53 = .ok (.ifCond .eq 27, 3) := by decide +kernel
theorem dX12_choice_56 : decode cX12_choice 56 = .ok (.aload_n 0, 1) := by decide +kernel
theorem dX12_choice_57 : decode cX12_choice 57 = .ok (.iload 4, 2) := by decide +kernel
theorem dX12_choice_59 : decode cX12_choice 59 = .ok (.aload_n 0, 1) := by decide +kernel
theorem dX12_choice_60 : decode cX12_choice 60 = .ok (.getfield 7, 3) := by decide +kernel
theorem dX12_choice_63 : decode cX12_choice 63 = .ok (.iload 6, 2) := by decide +kernel
theorem dX12_choice_65 : decode cX12_choice 65 = .ok (.iconst 3, 1) := by decide +kernel
theorem dX12_choice_66 : decode cX12_choice 66 = .ok (.iadd, 1) := by decide +kernel
theorem dX12_choice_67 : decode cX12_choice 67 = .ok (.iaload, 1) := by decide +kernel
theorem dX12_choice_68 : decode cX12_choice 68 = .ok (.iload_n 1, 1) := by decide +kernel
theorem dX12_choice_69 : decode cX12_choice 69 = .ok (.invokevirtual 139, 3) := by decide +kernel
theorem dX12_choice_72 : decode cX12_choice 72 = .ok (.ifCond .eq 8, 3) := by decide +kernel
theorem dX12_choice_75 : decode cX12_choice 75 = .ok (.iload 6, 2) := by decide +kernel
theorem dX12_choice_77 : decode cX12_choice 77 = .ok (.goto 4, 3) := by decide +kernel
theorem dX12_choice_80 : decode cX12_choice 80 = .ok (.iconst (-1), 1) := by decide +kernel
theorem dX12_choice_81 : decode cX12_choice 81 = .ok (.istore_n 3, 1) := by decide +kernel
theorem dX12_choice_82 : decode cX12_choice 82 = .ok (.aload_n 0, 1) := by decide +kernel
theorem dX12_choice_83 : decode cX12_choice 83 = .ok (.getfield 7, 3) := by decide +kernel
theorem dX12_choice_86 : decode cX12_choice 86 = .ok (.iload 6, 2) := by decide +kernel
theorem dX12_choice_88 : decode cX12_choice 88 = .ok (.iconst 3, 1) := by decide +kernel
theorem dX12_choice_89 : decode cX12_choice 89 = .ok (.iadd, 1) := by decide +kernel
theorem dX12_choice_90 : decode cX12_choice 90 = .ok (.iaload, 1) := by decide +kernel
theorem dX12_choice_91 : decode cX12_choice 91 = .ok (.istore 4, 2) := by decide +kernel
theorem dX12_choice_93 : decode cX12_choice 93 = .ok (.iinc 5 1, 3) := by decide +kernel
theorem dX12_choice_96 : decode cX12_choice 96 = .ok (.goto (-81), 3) := by decide +kernel
theorem dX12_choice_99 : decode cX12_choice 99 = .ok (.iload_n 3, 1) := by decide +kernel
theorem dX12_choice_100 : decode cX12_choice 100 = .ok (.ifCond .ge 7, 3) := by decide +kernel
theorem dX12_choice_103 : decode cX12_choice 103 = .ok (.iconst (-1), 1) := by decide +kernel
theorem dX12_choice_104 : decode cX12_choice 104 = .ok (.goto 11, 3) := by decide +kernel
theorem dX12_choice_107 : decode cX12_choice 107 = .ok (.aload_n 0, 1) := by decide +kernel
theorem dX12_choice_108 : decode cX12_choice 108 = .ok (.getfield 7, 3) := by decide +kernel
theorem dX12_choice_111 : decode cX12_choice 111 = .ok (.iload_n 3, 1) := by decide +kernel
theorem dX12_choice_112 : decode cX12_choice 112 = .ok (.iconst 1, 1) := by decide +kernel
theorem dX12_choice_113 : decode cX12_choice 113 = .ok (.iadd, 1) := by decide +kernel
theorem dX12_choice_114 : decode cX12_choice 114 = .ok (.iaload, 1) := by decide +kernel
theorem dX12_choice_115 : decode cX12_choice 115 = .ok (.istore 5, 2) := by decide +kernel
theorem dX12_choice_117 : decode cX12_choice 117 = .ok (.iload 5, 2) := by decide +kernel
theorem dX12_choice_119 : decode cX12_choice 119 = .ok (.ifCond .ne 14, 3) := by decide +kernel
theorem dX12_choice_122 : decode cX12_choice 122 = .ok (.aload_n 0, 1) := by decide +kernel
theorem dX12_choice_123 : decode cX12_choice 123 = .ok (.getfield 7, 3) := by decide +kernel
theorem dX12_choice_126 : decode cX12_choice 126 = .ok (.iload_n 3, 1) := by decide +kernel
theorem dX12_choice_127 : decode cX12_choice 127 = .ok (.iconst 2, 1) := by decide +kernel
theorem dX12_choice_128 : decode cX12_choice 128 = .ok (.iadd, 1) := by decide +kernel
theorem dX12_choice_129 : decode cX12_choice 129 = .ok (.iaload, 1) := by decide +kernel
theorem dX12_choice_130 : decode cX12_choice 130 = .ok (.goto 23, 3) := by decide +kernel
theorem dX12_choice_133 : decode cX12_choice 133 = .ok (.iload 5, 2) := by decide +kernel
theorem dX12_choice_135 : decode cX12_choice 135 = .ok (.iconst 1, 1) := by decide +kernel
theorem dX12_choice_136 : decode cX12_choice 136 = .ok (.if_icmp .ne 16, 3) := by decide +kernel
theorem dX12_choice_139 : decode cX12_choice 139 = .ok (.iconst 0, 1) := by decide +kernel
theorem dX12_choice_140 : decode cX12_choice 140 = .ok (.aload_n 0, 1) := by decide +kernel
theorem dX12_choice_141 : decode cX12_choice 141 = .ok (.getfield 7, 3) := by decide +kernel
theorem dX12_choice_144 : decode cX12_choice 144 = .ok (.iload_n 3, 1) := by decide +kernel
theorem dX12_choice_145 : decode cX12_choice 145 = .ok (.iconst 2, 1) := by decide +kernel
theorem dX12_choice_146 : decode cX12_choice 146 = .ok (.iadd, 1) := by decide +kernel
theorem dX12_choice_147 : decode cX12_choice 147 = .ok (.iaload, 1) := by decide +kernel
theorem dX12_choice_148 : decode cX12_choice 148 = .ok (.isub, 1) := by decide +kernel
theorem dX12_choice_149 : decode cX12_choice 149 = .ok (.goto 4, 3) := by decide +kernel
theorem dX12_choice_152 : decode cX12_choice 152 = .ok (.iconst 0, 1) := by decide +kernel
theorem dX12_choice_153 : decode cX12_choice 153 = .ok (.istore 6, 2) := by decide +kernel
theorem dX12_choice_155 : decode cX12_choice 155 = .ok (.aload_n 0, 1) := by decide +kernel
theorem dX12_choice_156 : decode cX12_choice 156 = .ok (.iload_n 1, 1) := by decide +kernel
theorem dX12_choice_157 : decode cX12_choice 157 = .ok (.invokevirtual 103, 3) := by decide +kernel
theorem dX12_choice_160 : decode cX12_choice 160 = .ok (.istore 7, 2) := by decide +kernel
theorem dX12_choice_162 : decode cX12_choice 162 = .ok (.bipush 10, 2) := by decide +kernel
theorem dX12_choice_164 : decode cX12_choice 164 = .ok (.istore 8, 2) := by decide +kernel
theorem dX12_choice_166 : decode cX12_choice 166 = .ok (.iconst 0, 1) := by decide +kernel
theorem dX12_choice_167 : decode cX12_choice 167 = .ok (.istore 9, 2) := by decide +kernel
theorem dX12_choice_169 : decode cX12_choice 169 = .ok (.iload 9, 2) := by decide +kernel
theorem dX12_choice_171 : decode cX12_choice 171 = .ok (.aload_n 0, 1) := by decide +kernel
theorem dX12_choice_172 : decode cX12_choice 172 = .ok (.getfield 7, 3) := by decide +kernel
theorem dX12_choice_175 : decode cX12_choice 175 = .ok (.iconst 5, 1) := by decide +kernel
theorem dX12_choice_176 : decode cX12_choice 176 = .ok (.iaload, 1) := by decide +kernel
theorem dX12_choice_177 : decode cX12_choice 177 = .ok (.if_icmp .ge 110, 3) := by decide +kernel
theorem dX12_choice_180 : decode cX12_choice 180 = .ok (.iload 5, 2) := by decide +kernel
theorem dX12_choice_182 : decode cX12_choice 182 = .ok (.iconst 2, 1) := by decide +kernel
theorem dX12_choice_183 : decode cX12_choice 183 = .ok (.if_icmp .eq 104, 3) := by decide +kernel
theorem dX12_choice_186 : decode cX12_choice 186 = .ok (.aload_n 0, 1) := by decide +kernel
theorem dX12_choice_187 : decode cX12_choice 187 = .ok (.iload 9, 2) := by decide +kernel
theorem dX12_choice_189 : decode cX12_choice 189 = .ok (.iconst 0, 1) := by decide +kernel
theorem dX12_choice_190 : decode cX12_choice 190 = .ok (.invokevirtual 90, 3) := by decide +kernel
theorem dX12_choice_193 : decode cX12_choice 193 = .ok (.iload_n 1, 1) := by decide +kernel
theorem dX12_choice_194 : decode cX12_choice 194 = .ok (.if_icmp .ne 48, 3) := by decide +kernel
theorem dX12_choice_197 : decode cX12_choice 197 = .ok (.aload_n 0, 1) := by decide +kernel
theorem dX12_choice_198 : decode cX12_choice 198 = .ok (.iload 9, 2) := by decide +kernel
theorem dX12_choice_200 : decode cX12_choice 200 = .ok (.iconst 4, 1) := by decide +kernel
theorem dX12_choice_201 : decode cX12_choice 201 = .ok (.invokevirtual 90, 3) := by decide +kernel
theorem dX12_choice_204 : decode cX12_choice 204 = .ok (.iconst 1, 1) := by decide +kernel
theorem dX12_choice_205 : decode cX12_choice 205 = .ok (.if_icmp .ne 37, 3) := by decide +kernel
theorem dX12_choice_208 : decode cX12_choice 208 = .ok (.aload_n 0, 1) := by decide +kernel
theorem dX12_choice_209 : decode cX12_choice 209 = .ok (.iload 9, 2) := by decide +kernel
theorem dX12_choice_211 : decode cX12_choice 211 = .ok (.iconst 2, 1) := by decide +kernel
theorem dX12_choice_212 : decode cX12_choice 212 = .ok (.invokevirtual 90, 3) := by decide +kernel
theorem dX12_choice_215 : decode cX12_choice 215 = .ok (.iload 7, 2) := by decide +kernel
theorem dX12_choice_217 : decode cX12_choice 217 = .ok (.if_icmp .gt 25, 3) := by decide +kernel
theorem dX12_choice_220 : decode cX12_choice 220 = .ok (.aload_n 0, 1) := by decide +kernel
theorem dX12_choice_221 : decode cX12_choice 221 = .ok (.iload 9, 2) := by decide +kernel
theorem dX12_choice_223 : decode cX12_choice 223 = .ok (.invokevirtual 119, 3) := by decide +kernel
theorem dX12_choice_226 : decode cX12_choice 226 = .ok (.aload_n 0, 1) := by decide +kernel
theorem dX12_choice_227 : decode cX12_choice 227 = .ok (.getfield 7, 3) := by decide +kernel
theorem dX12_choice_230 : decode cX12_choice 230 = .ok (.iconst 3, 1) := by decide +kernel
theorem dX12_choice_231 : decode cX12_choice 231 = .ok (.iaload, 1) := by decide +kernel
theorem dX12_choice_232 : decode cX12_choice 232 = .ok (.iload 6, 2) := by decide +kernel
theorem dX12_choice_234 : decode cX12_choice 234 = .ok (.iadd, 1) := by decide +kernel
theorem dX12_choice_235 : decode cX12_choice 235 = .ok (.if_icmp .gt 7, 3) := by decide +kernel
theorem dX12_choice_238 : decode cX12_choice 238 = .ok (.iconst 1, 1) := by decide +kernel
theorem dX12_choice_239 : decode cX12_choice 239 = .ok (.goto 4, 3) := by decide +kernel
theorem dX12_choice_242 : decode cX12_choice 242 = .ok (.iconst 0, 1) := by decide +kernel
theorem dX12_choice_243 : decode cX12_choice 243 = .ok (.istore 10, 2) := by decide +kernel
theorem dX12_choice_245 : decode cX12_choice 245 = .ok (.iload 10, 2) := by decide +kernel
theorem dX12_choice_247 : decode cX12_choice 247 = .ok (.ifCond .eq 30, 3) := by decide +kernel
theorem dX12_choice_250 : decode cX12_choice 250 = .ok (.iload 8, 2) := by decide +kernel
theorem dX12_choice_252 : decode cX12_choice 252 = .ok (.bipush 10, 2) := by decide +kernel
theorem dX12_choice_254 : decode cX12_choice 254 = .ok (.if_icmp .eq 18, 3) := by decide +kernel
theorem dX12_choice_257 : decode cX12_choice 257 = .ok (.aload_n 0, 1) := by decide +kernel
theorem dX12_choice_258 : decode cX12_choice 258 = .ok (.iload 9, 2) := by decide +kernel
theorem dX12_choice_260 : decode cX12_choice 260 = .ok (.invokevirtual 119, 3) := by decide +kernel
theorem dX12_choice_263 : decode cX12_choice 263 = .ok (.aload_n 0, 1) := by decide +kernel
theorem dX12_choice_264 : decode cX12_choice 264 = .ok (.iload 8, 2) := by decide +kernel
theorem dX12_choice_266 : decode cX12_choice 266 = .ok (.invokevirtual 119, 3) := by decide +kernel
theorem dX12_choice_269 : decode cX12_choice 269 = .ok (.if_icmp .ge 8, 3) := by decide +kernel
theorem dX12_choice_272 : decode cX12_choice 272 = .ok (.iload 9, 2) := by decide +kernel
theorem dX12_choice_274 : decode cX12_choice 274 = .ok (.goto 5, 3) := by decide +kernel
theorem dX12_choice_277 : decode cX12_choice 277 = .ok (.iload 8, 2) := by decide +kernel
theorem dX12_choice_279 : decode cX12_choice 279 = .ok (.istore 8, 2) := by decide +kernel
theorem dX12_choice_281 : decode cX12_choice 281 = .ok (.iinc 9 1, 3) := by decide +kernel
theorem dX12_choice_284 : decode cX12_choice 284 = .ok (.goto (-115), 3) := by decide +kernel
theorem dX12_choice_287 : decode cX12_choice 287 = .ok (.iload 8, 2) := by decide +kernel
theorem dX12_choice_289 : decode cX12_choice 289 = .ok (.ireturn, 1) := by decide +kernel
def f12_choice_b81 (K15 : Int32 → Int32 → Int32 → Int32 → lu_M → Option (Int32 × lu_M)) (K99 : Int32 → lu_M → Option (Int32 × lu_M)) (a1 : Int32) (v2 : Int32) (v5 : Int32) (v6 : Int32) (s0 : Int32) (m : lu_M) : Option (Int32 × lu_M) :=
  lu_gd (lu_ib (v6 + (3 : Int32)) 368) <|
  lu_nm ((m 1 (v6 + (3 : Int32)).toNatClampNeg)) fun x6 =>
  K15 v2 s0 x6 (v5 + (1 : Int32)) m
set_option maxRecDepth 20000 in
theorem w12_choice_b81  {G : lu_G} {ρ : Nat → Nat} {a1 : Int32} {K15 : Int32 → Int32 → Int32 → Int32 → lu_M → Option (Int32 × lu_M)} {K99 : Int32 → lu_M → Option (Int32 × lu_M)} (X : lu_X G RX12 cX12_choice 11 5 114) (hret : (lu_me G).sig.returnType = (some .int))  (hK15 : ∀ (v2 : Int32) (v3 : Int32) (v4 : Int32) (v5 : Int32) (m : lu_M), lu_Ab lu_TM G (lu_Q lu_TM G ρ lu_RVi lu_sn) (K15 v2 v3 v4 v5 m) 15 [(0, .ref (ρ 0)), (1, .int a1), (2, .int v2), (3, .int v3), (4, .int v4), (5, .int v5)] [] ρ 0 0 [] m) (hK99 : ∀ (v3 : Int32) (m : lu_M), lu_Ab lu_TM G (lu_Q lu_TM G ρ lu_RVi lu_sn) (K99 v3 m) 99 [(0, .ref (ρ 0)), (1, .int a1), (3, .int v3)] [] ρ 0 0 [] m) : ∀ (v2 : Int32) (v5 : Int32) (v6 : Int32) (s0 : Int32) (m : lu_M), lu_Ab lu_TM G (lu_Q lu_TM G ρ lu_RVi lu_sn) (f12_choice_b81 K15 K99 a1 v2 v5 v6 s0 m) 81 [(0, .ref (ρ 0)), (1, .int a1), (2, .int v2), (5, .int v5), (6, .int v6)] [.int s0] ρ 0 0 [] m := by
  intro v2 v5 v6 s0 m
  unfold f12_choice_b81
  refine lu_istore_n (lv2 := [(3, .int s0), (0, .ref (ρ 0)), (1, .int a1), (2, .int v2), (5, .int v5), (6, .int v6)]) X dX12_choice_81 (pc2 := 82) rfl rfl (by decide) rfl ?_
  refine lu_aload_n X dX12_choice_82 (pc2 := 83) rfl rfl 1 rfl ?_
  refine lu_getr (r2 := 1) X rfl fl12_7 rfl kM_0 lM_0 dX12_choice_83 (pc2 := 86) rfl ?_
  refine lu_iload X dX12_choice_86 (pc2 := 88) rfl 5 rfl ?_
  refine lu_iconst X dX12_choice_88 (pc2 := 89) rfl ic_3 ?_
  refine lu_iadd X dX12_choice_89 (pc2 := 90) rfl ?_
  refine lu_iald X kM_1 lM_1 dX12_choice_90 (pc2 := 91) rfl ?_
  refine lu_topi (fun x6 => ?_)
  refine lu_istore (lv2 := [(4, .int x6), (3, .int s0), (0, .ref (ρ 0)), (1, .int a1), (2, .int v2), (5, .int v5), (6, .int v6)]) X dX12_choice_91 (pc2 := 93) rfl (by decide) rfl ?_
  refine lu_iinc (lv2 := [(5, .int (v5 + (1 : Int32))), (4, .int x6), (3, .int s0), (0, .ref (ρ 0)), (1, .int a1), (2, .int v2), (6, .int v6)]) X dX12_choice_93 (pc2 := 96) rfl 5 rfl (lu_ii _ ic_1) (by decide) rfl ?_
  refine lu_goto (tgt := 15) X dX12_choice_96 (by decide) ?_
  exact lu_sub [3, 4, 5, 2, 1, 0] rfl (hK15 v2 s0 x6 (v5 + (1 : Int32)) m)
def f12_choice_b80 (K15 : Int32 → Int32 → Int32 → Int32 → lu_M → Option (Int32 × lu_M)) (K99 : Int32 → lu_M → Option (Int32 × lu_M)) (a1 : Int32) (v2 : Int32) (v5 : Int32) (v6 : Int32) (m : lu_M) : Option (Int32 × lu_M) :=
  f12_choice_b81 K15 K99 a1 v2 v5 v6 (-1 : Int32) m
set_option maxRecDepth 20000 in
theorem w12_choice_b80  {G : lu_G} {ρ : Nat → Nat} {a1 : Int32} {K15 : Int32 → Int32 → Int32 → Int32 → lu_M → Option (Int32 × lu_M)} {K99 : Int32 → lu_M → Option (Int32 × lu_M)} (X : lu_X G RX12 cX12_choice 11 5 114) (hret : (lu_me G).sig.returnType = (some .int))  (hK15 : ∀ (v2 : Int32) (v3 : Int32) (v4 : Int32) (v5 : Int32) (m : lu_M), lu_Ab lu_TM G (lu_Q lu_TM G ρ lu_RVi lu_sn) (K15 v2 v3 v4 v5 m) 15 [(0, .ref (ρ 0)), (1, .int a1), (2, .int v2), (3, .int v3), (4, .int v4), (5, .int v5)] [] ρ 0 0 [] m) (hK99 : ∀ (v3 : Int32) (m : lu_M), lu_Ab lu_TM G (lu_Q lu_TM G ρ lu_RVi lu_sn) (K99 v3 m) 99 [(0, .ref (ρ 0)), (1, .int a1), (3, .int v3)] [] ρ 0 0 [] m) : ∀ (v2 : Int32) (v5 : Int32) (v6 : Int32) (m : lu_M), lu_Ab lu_TM G (lu_Q lu_TM G ρ lu_RVi lu_sn) (f12_choice_b80 K15 K99 a1 v2 v5 v6 m) 80 [(0, .ref (ρ 0)), (1, .int a1), (2, .int v2), (5, .int v5), (6, .int v6)] [] ρ 0 0 [] m := by
  intro v2 v5 v6 m
  unfold f12_choice_b80
  refine lu_iconst X dX12_choice_80 (pc2 := 81) rfl ic_m1 ?_
  exact w12_choice_b81 X hret hK15 hK99 v2 v5 v6 (-1 : Int32) m
def f12_choice_b15B (K99 : Int32 → lu_M → Option (Int32 × lu_M)) (rec : Int32 → Int32 → Int32 → Int32 → lu_M → Option (Int32 × lu_M)) (a1 : Int32) (v2 : Int32) (v3 : Int32) (v4 : Int32) (v5 : Int32) (m : lu_M) : Option (Int32 × lu_M) :=
  if (m 1 1) ≤ v5 then (K99 v3 m)
  else (if 0 ≤ v3 then (K99 v3 m)
  else (lu_nm (((136 : Int32) + ((4 : Int32) * v5))) fun x3 =>
  lu_gd (lu_ib (x3 + (0 : Int32)) 368) <|
  lu_bi (f12_isUnder v2 (m 1 (x3 + (0 : Int32)).toNatClampNeg) m) fun x4 m5 =>
  if x4 = 0 then (f12_choice_b80 rec K99 a1 v2 v5 x3 m5)
  else (lu_gd (lu_ib (x3 + (3 : Int32)) 368) <|
  lu_bi (f12_isSo v4 (m5 1 (x3 + (3 : Int32)).toNatClampNeg) a1 m5) fun x7 m8 =>
  if x7 = 0 then (f12_choice_b80 rec K99 a1 v2 v5 x3 m8)
  else (f12_choice_b81 rec K99 a1 v2 v5 x3 x3 m8))))
def f12_choice_b15 (K99 : Int32 → lu_M → Option (Int32 × lu_M)) (a1 : Int32) : Nat → Int32 → Int32 → Int32 → Int32 → lu_M → Option (Int32 × lu_M)
  | 0, _, _, _, _, _ => none
  | n + 1, v2, v3, v4, v5, m => f12_choice_b15B K99 (f12_choice_b15 K99 a1 n) a1 v2 v3 v4 v5 m
set_option maxRecDepth 20000 in
theorem w12_choice_b15B  {G : lu_G} {ρ : Nat → Nat} {a1 : Int32} {K99 : Int32 → lu_M → Option (Int32 × lu_M)} {rec : Int32 → Int32 → Int32 → Int32 → lu_M → Option (Int32 × lu_M)} (X : lu_X G RX12 cX12_choice 11 5 114) (hret : (lu_me G).sig.returnType = (some .int))  (hK99 : ∀ (v3 : Int32) (m : lu_M), lu_Ab lu_TM G (lu_Q lu_TM G ρ lu_RVi lu_sn) (K99 v3 m) 99 [(0, .ref (ρ 0)), (1, .int a1), (3, .int v3)] [] ρ 0 0 [] m) (hrec : ∀ (v2 : Int32) (v3 : Int32) (v4 : Int32) (v5 : Int32) (m : lu_M), lu_Ab lu_TM G (lu_Q lu_TM G ρ lu_RVi lu_sn) (rec v2 v3 v4 v5 m) 15 [(0, .ref (ρ 0)), (1, .int a1), (2, .int v2), (3, .int v3), (4, .int v4), (5, .int v5)] [] ρ 0 0 [] m) : ∀ (v2 : Int32) (v3 : Int32) (v4 : Int32) (v5 : Int32) (m : lu_M), lu_Ab lu_TM G (lu_Q lu_TM G ρ lu_RVi lu_sn) (f12_choice_b15B K99 rec a1 v2 v3 v4 v5 m) 15 [(0, .ref (ρ 0)), (1, .int a1), (2, .int v2), (3, .int v3), (4, .int v4), (5, .int v5)] [] ρ 0 0 [] m := by
  intro v2 v3 v4 v5 m
  unfold f12_choice_b15B
  refine lu_iload X dX12_choice_15 (pc2 := 17) rfl 5 rfl ?_
  refine lu_aload_n X dX12_choice_17 (pc2 := 18) rfl rfl 0 rfl ?_
  refine lu_getr (r2 := 1) X rfl fl12_7 rfl kM_0 lM_0 dX12_choice_18 (pc2 := 21) rfl ?_
  refine lu_iconst X dX12_choice_21 (pc2 := 22) rfl ic_1 ?_
  refine lu_ialdK (q := 1) X (by decide) kM_1 lM_1 dX12_choice_22 (pc2 := 23) rfl ?_
  refine lu_icmp_ge (tgt := 99) X dX12_choice_23 (pc2 := 26) rfl (by decide) (fun _ => ?_) (fun _ => ?_)
  · exact lu_sub [0, 1, 3] rfl (hK99 v3 m)
  · refine lu_iload_n X dX12_choice_26 (pc2 := 27) rfl rfl 3 rfl ?_
    refine lu_if_ge (tgt := 99) X dX12_choice_27 (pc2 := 30) rfl (by decide) (fun _ => ?_) (fun _ => ?_)
    · exact lu_sub [0, 1, 3] rfl (hK99 v3 m)
    · refine lu_sipush X dX12_choice_30 (pc2 := 33) rfl sp_136 ?_
      refine lu_iconst X dX12_choice_33 (pc2 := 34) rfl ic_4 ?_
      refine lu_iload X dX12_choice_34 (pc2 := 36) rfl 5 rfl ?_
      refine lu_imul X dX12_choice_36 (pc2 := 37) rfl ?_
      refine lu_iadd X dX12_choice_37 (pc2 := 38) rfl ?_
      refine lu_topi (fun x3 => ?_)
      refine lu_istore (lv2 := [(6, .int x3), (0, .ref (ρ 0)), (1, .int a1), (2, .int v2), (3, .int v3), (4, .int v4), (5, .int v5)]) X dX12_choice_38 (pc2 := 40) rfl (by decide) rfl ?_
      refine lu_iload_n X dX12_choice_40 (pc2 := 41) rfl rfl 3 rfl ?_
      refine lu_aload_n X dX12_choice_41 (pc2 := 42) rfl rfl 1 rfl ?_
      refine lu_getr (r2 := 1) X rfl fl12_7 rfl kM_0 lM_0 dX12_choice_42 (pc2 := 45) rfl ?_
      refine lu_iload X dX12_choice_45 (pc2 := 47) rfl 0 rfl ?_
      refine lu_iconst X dX12_choice_47 (pc2 := 48) rfl ic_0 ?_
      refine lu_iadd X dX12_choice_48 (pc2 := 49) rfl ?_
      refine lu_iald X kM_1 lM_1 dX12_choice_49 (pc2 := 50) rfl ?_
      refine lu_invSi X (c12_isUnder _ v2 (m 1 (x3 + (0 : Int32)).toNatClampNeg)) rfl q1302 mvS_12_isUnder rfl rfl (Nat.le_of_ble_eq_true rfl) (Nat.le_of_ble_eq_true rfl) (Nat.le_of_ble_eq_true rfl) ⟨Nat.zero_le _, Nat.zero_le _⟩ dX12_choice_50 (pc2 := 53) rfl rfl (fun x4 m5 => ?_)
      refine lu_if_eq (tgt := 80) X dX12_choice_53 (pc2 := 56) rfl (by decide) (fun _ => ?_) (fun _ => ?_)
      · exact lu_sub [1, 2, 3, 6, 0] rfl (w12_choice_b80 X hret hrec hK99 v2 v5 x3 m5)
      · refine lu_aload_n X dX12_choice_56 (pc2 := 57) rfl rfl 1 rfl ?_
        refine lu_iload X dX12_choice_57 (pc2 := 59) rfl 5 rfl ?_
        refine lu_aload_n X dX12_choice_59 (pc2 := 60) rfl rfl 1 rfl ?_
        refine lu_getr (r2 := 1) X rfl fl12_7 rfl kM_0 lM_0 dX12_choice_60 (pc2 := 63) rfl ?_
        refine lu_iload X dX12_choice_63 (pc2 := 65) rfl 0 rfl ?_
        refine lu_iconst X dX12_choice_65 (pc2 := 66) rfl ic_3 ?_
        refine lu_iadd X dX12_choice_66 (pc2 := 67) rfl ?_
        refine lu_iald X kM_1 lM_1 dX12_choice_67 (pc2 := 68) rfl ?_
        refine lu_iload_n X dX12_choice_68 (pc2 := 69) rfl rfl 2 rfl ?_
        refine lu_invVi X (c12_isSo _ v4 (m5 1 (x3 + (3 : Int32)).toNatClampNeg) a1) rfl q1305 mvV_12_isSo kM_0 lM_0 (by decide) ⟨_, rfl, rfl⟩ rfl rfl (Nat.le_of_ble_eq_true rfl) (Nat.le_of_ble_eq_true rfl) (Nat.le_of_ble_eq_true rfl) ⟨Nat.zero_le _, Nat.zero_le _⟩ dX12_choice_69 (pc2 := 72) rfl rfl (fun x7 m8 => ?_)
        refine lu_if_eq (tgt := 80) X dX12_choice_72 (pc2 := 75) rfl (by decide) (fun _ => ?_) (fun _ => ?_)
        · exact lu_sub [1, 2, 3, 6, 0] rfl (w12_choice_b80 X hret hrec hK99 v2 v5 x3 m8)
        · refine lu_iload X dX12_choice_75 (pc2 := 77) rfl 0 rfl ?_
          refine lu_goto (tgt := 81) X dX12_choice_77 (by decide) ?_
          exact lu_sub [1, 2, 3, 6, 0] rfl (w12_choice_b81 X hret hrec hK99 v2 v5 x3 x3 m8)
theorem w12_choice_b15  {G : lu_G} {ρ : Nat → Nat} {a1 : Int32} {K99 : Int32 → lu_M → Option (Int32 × lu_M)} (X : lu_X G RX12 cX12_choice 11 5 114) (hret : (lu_me G).sig.returnType = (some .int))  (hK99 : ∀ (v3 : Int32) (m : lu_M), lu_Ab lu_TM G (lu_Q lu_TM G ρ lu_RVi lu_sn) (K99 v3 m) 99 [(0, .ref (ρ 0)), (1, .int a1), (3, .int v3)] [] ρ 0 0 [] m) : ∀ (n : Nat) (v2 : Int32) (v3 : Int32) (v4 : Int32) (v5 : Int32) (m : lu_M), lu_Ab lu_TM G (lu_Q lu_TM G ρ lu_RVi lu_sn) (f12_choice_b15 K99 a1 n v2 v3 v4 v5 m) 15 [(0, .ref (ρ 0)), (1, .int a1), (2, .int v2), (3, .int v3), (4, .int v4), (5, .int v5)] [] ρ 0 0 [] m := by
  intro n
  induction n with
  | zero => intro v2 v3 v4 v5 m; exact lu_none
  | succ n ih => intro v2 v3 v4 v5 m; exact w12_choice_b15B X hret hK99 ih v2 v3 v4 v5 m
def f12_choice_b279 (K169 : Int32 → Int32 → Int32 → Int32 → Int32 → lu_M → Option (Int32 × lu_M)) (K287 : Int32 → lu_M → Option (Int32 × lu_M)) (a1 : Int32) (v5 : Int32) (v6 : Int32) (v7 : Int32) (v9 : Int32) (s0 : Int32) (m : lu_M) : Option (Int32 × lu_M) :=
  K169 v5 v6 v7 s0 (v9 + (1 : Int32)) m
set_option maxRecDepth 20000 in
theorem w12_choice_b279  {G : lu_G} {ρ : Nat → Nat} {a1 : Int32} {K169 : Int32 → Int32 → Int32 → Int32 → Int32 → lu_M → Option (Int32 × lu_M)} {K287 : Int32 → lu_M → Option (Int32 × lu_M)} (X : lu_X G RX12 cX12_choice 11 5 114) (hret : (lu_me G).sig.returnType = (some .int))  (hK169 : ∀ (v5 : Int32) (v6 : Int32) (v7 : Int32) (v8 : Int32) (v9 : Int32) (m : lu_M), lu_Ab lu_TM G (lu_Q lu_TM G ρ lu_RVi lu_sn) (K169 v5 v6 v7 v8 v9 m) 169 [(0, .ref (ρ 0)), (1, .int a1), (5, .int v5), (6, .int v6), (7, .int v7), (8, .int v8), (9, .int v9)] [] ρ 0 0 [] m) (hK287 : ∀ (v8 : Int32) (m : lu_M), lu_Ab lu_TM G (lu_Q lu_TM G ρ lu_RVi lu_sn) (K287 v8 m) 287 [(8, .int v8)] [] ρ 0 0 [] m) : ∀ (v5 : Int32) (v6 : Int32) (v7 : Int32) (v9 : Int32) (s0 : Int32) (m : lu_M), lu_Ab lu_TM G (lu_Q lu_TM G ρ lu_RVi lu_sn) (f12_choice_b279 K169 K287 a1 v5 v6 v7 v9 s0 m) 279 [(0, .ref (ρ 0)), (1, .int a1), (5, .int v5), (6, .int v6), (7, .int v7), (9, .int v9)] [.int s0] ρ 0 0 [] m := by
  intro v5 v6 v7 v9 s0 m
  unfold f12_choice_b279
  refine lu_istore (lv2 := [(8, .int s0), (0, .ref (ρ 0)), (1, .int a1), (5, .int v5), (6, .int v6), (7, .int v7), (9, .int v9)]) X dX12_choice_279 (pc2 := 281) rfl (by decide) rfl ?_
  refine lu_iinc (lv2 := [(9, .int (v9 + (1 : Int32))), (8, .int s0), (0, .ref (ρ 0)), (1, .int a1), (5, .int v5), (6, .int v6), (7, .int v7)]) X dX12_choice_281 (pc2 := 284) rfl 6 rfl (lu_ii _ ic_1) (by decide) rfl ?_
  refine lu_goto (tgt := 169) X dX12_choice_284 (by decide) ?_
  exact lu_sub [2, 3, 4, 5, 6, 1, 0] rfl (hK169 v5 v6 v7 s0 (v9 + (1 : Int32)) m)
def f12_choice_b277 (K169 : Int32 → Int32 → Int32 → Int32 → Int32 → lu_M → Option (Int32 × lu_M)) (K287 : Int32 → lu_M → Option (Int32 × lu_M)) (a1 : Int32) (v5 : Int32) (v6 : Int32) (v7 : Int32) (v8 : Int32) (v9 : Int32) (m : lu_M) : Option (Int32 × lu_M) :=
  f12_choice_b279 K169 K287 a1 v5 v6 v7 v9 v8 m
set_option maxRecDepth 20000 in
theorem w12_choice_b277  {G : lu_G} {ρ : Nat → Nat} {a1 : Int32} {K169 : Int32 → Int32 → Int32 → Int32 → Int32 → lu_M → Option (Int32 × lu_M)} {K287 : Int32 → lu_M → Option (Int32 × lu_M)} (X : lu_X G RX12 cX12_choice 11 5 114) (hret : (lu_me G).sig.returnType = (some .int))  (hK169 : ∀ (v5 : Int32) (v6 : Int32) (v7 : Int32) (v8 : Int32) (v9 : Int32) (m : lu_M), lu_Ab lu_TM G (lu_Q lu_TM G ρ lu_RVi lu_sn) (K169 v5 v6 v7 v8 v9 m) 169 [(0, .ref (ρ 0)), (1, .int a1), (5, .int v5), (6, .int v6), (7, .int v7), (8, .int v8), (9, .int v9)] [] ρ 0 0 [] m) (hK287 : ∀ (v8 : Int32) (m : lu_M), lu_Ab lu_TM G (lu_Q lu_TM G ρ lu_RVi lu_sn) (K287 v8 m) 287 [(8, .int v8)] [] ρ 0 0 [] m) : ∀ (v5 : Int32) (v6 : Int32) (v7 : Int32) (v8 : Int32) (v9 : Int32) (m : lu_M), lu_Ab lu_TM G (lu_Q lu_TM G ρ lu_RVi lu_sn) (f12_choice_b277 K169 K287 a1 v5 v6 v7 v8 v9 m) 277 [(0, .ref (ρ 0)), (1, .int a1), (5, .int v5), (6, .int v6), (7, .int v7), (8, .int v8), (9, .int v9)] [] ρ 0 0 [] m := by
  intro v5 v6 v7 v8 v9 m
  unfold f12_choice_b277
  refine lu_iload X dX12_choice_277 (pc2 := 279) rfl 5 rfl ?_
  exact lu_sub [0, 1, 2, 3, 4, 6] rfl (w12_choice_b279 X hret hK169 hK287 v5 v6 v7 v9 v8 m)
def f12_choice_b272 (K169 : Int32 → Int32 → Int32 → Int32 → Int32 → lu_M → Option (Int32 × lu_M)) (K287 : Int32 → lu_M → Option (Int32 × lu_M)) (a1 : Int32) (v5 : Int32) (v6 : Int32) (v7 : Int32) (v9 : Int32) (m : lu_M) : Option (Int32 × lu_M) :=
  f12_choice_b279 K169 K287 a1 v5 v6 v7 v9 v9 m
set_option maxRecDepth 20000 in
theorem w12_choice_b272  {G : lu_G} {ρ : Nat → Nat} {a1 : Int32} {K169 : Int32 → Int32 → Int32 → Int32 → Int32 → lu_M → Option (Int32 × lu_M)} {K287 : Int32 → lu_M → Option (Int32 × lu_M)} (X : lu_X G RX12 cX12_choice 11 5 114) (hret : (lu_me G).sig.returnType = (some .int))  (hK169 : ∀ (v5 : Int32) (v6 : Int32) (v7 : Int32) (v8 : Int32) (v9 : Int32) (m : lu_M), lu_Ab lu_TM G (lu_Q lu_TM G ρ lu_RVi lu_sn) (K169 v5 v6 v7 v8 v9 m) 169 [(0, .ref (ρ 0)), (1, .int a1), (5, .int v5), (6, .int v6), (7, .int v7), (8, .int v8), (9, .int v9)] [] ρ 0 0 [] m) (hK287 : ∀ (v8 : Int32) (m : lu_M), lu_Ab lu_TM G (lu_Q lu_TM G ρ lu_RVi lu_sn) (K287 v8 m) 287 [(8, .int v8)] [] ρ 0 0 [] m) : ∀ (v5 : Int32) (v6 : Int32) (v7 : Int32) (v9 : Int32) (m : lu_M), lu_Ab lu_TM G (lu_Q lu_TM G ρ lu_RVi lu_sn) (f12_choice_b272 K169 K287 a1 v5 v6 v7 v9 m) 272 [(0, .ref (ρ 0)), (1, .int a1), (5, .int v5), (6, .int v6), (7, .int v7), (9, .int v9)] [] ρ 0 0 [] m := by
  intro v5 v6 v7 v9 m
  unfold f12_choice_b272
  refine lu_iload X dX12_choice_272 (pc2 := 274) rfl 5 rfl ?_
  refine lu_goto (tgt := 279) X dX12_choice_274 (by decide) ?_
  exact w12_choice_b279 X hret hK169 hK287 v5 v6 v7 v9 v9 m
def f12_choice_b243 (K169 : Int32 → Int32 → Int32 → Int32 → Int32 → lu_M → Option (Int32 × lu_M)) (K287 : Int32 → lu_M → Option (Int32 × lu_M)) (a1 : Int32) (v5 : Int32) (v6 : Int32) (v7 : Int32) (v8 : Int32) (v9 : Int32) (s0 : Int32) (m : lu_M) : Option (Int32 × lu_M) :=
  if s0 = 0 then (f12_choice_b277 K169 K287 a1 v5 v6 v7 v8 v9 m)
  else (if v8 = (10 : Int32) then (f12_choice_b272 K169 K287 a1 v5 v6 v7 v9 m)
  else (lu_bi (f12_due v9 m) fun x13 m14 =>
  lu_bi (f12_due v8 m14) fun x15 m16 =>
  if x15 ≤ x13 then (f12_choice_b277 K169 K287 a1 v5 v6 v7 v8 v9 m16)
  else (f12_choice_b272 K169 K287 a1 v5 v6 v7 v9 m16)))
set_option maxRecDepth 20000 in
theorem w12_choice_b243  {G : lu_G} {ρ : Nat → Nat} {a1 : Int32} {K169 : Int32 → Int32 → Int32 → Int32 → Int32 → lu_M → Option (Int32 × lu_M)} {K287 : Int32 → lu_M → Option (Int32 × lu_M)} (X : lu_X G RX12 cX12_choice 11 5 114) (hret : (lu_me G).sig.returnType = (some .int))  (hK169 : ∀ (v5 : Int32) (v6 : Int32) (v7 : Int32) (v8 : Int32) (v9 : Int32) (m : lu_M), lu_Ab lu_TM G (lu_Q lu_TM G ρ lu_RVi lu_sn) (K169 v5 v6 v7 v8 v9 m) 169 [(0, .ref (ρ 0)), (1, .int a1), (5, .int v5), (6, .int v6), (7, .int v7), (8, .int v8), (9, .int v9)] [] ρ 0 0 [] m) (hK287 : ∀ (v8 : Int32) (m : lu_M), lu_Ab lu_TM G (lu_Q lu_TM G ρ lu_RVi lu_sn) (K287 v8 m) 287 [(8, .int v8)] [] ρ 0 0 [] m) : ∀ (v5 : Int32) (v6 : Int32) (v7 : Int32) (v8 : Int32) (v9 : Int32) (s0 : Int32) (m : lu_M), lu_Ab lu_TM G (lu_Q lu_TM G ρ lu_RVi lu_sn) (f12_choice_b243 K169 K287 a1 v5 v6 v7 v8 v9 s0 m) 243 [(0, .ref (ρ 0)), (1, .int a1), (5, .int v5), (6, .int v6), (7, .int v7), (8, .int v8), (9, .int v9)] [.int s0] ρ 0 0 [] m := by
  intro v5 v6 v7 v8 v9 s0 m
  unfold f12_choice_b243
  refine lu_istore (lv2 := [(10, .int s0), (0, .ref (ρ 0)), (1, .int a1), (5, .int v5), (6, .int v6), (7, .int v7), (8, .int v8), (9, .int v9)]) X dX12_choice_243 (pc2 := 245) rfl (by decide) rfl ?_
  refine lu_iload X dX12_choice_245 (pc2 := 247) rfl 0 rfl ?_
  refine lu_if_eq (tgt := 277) X dX12_choice_247 (pc2 := 250) rfl (by decide) (fun _ => ?_) (fun _ => ?_)
  · exact lu_sub [1, 2, 3, 4, 5, 6, 7] rfl (w12_choice_b277 X hret hK169 hK287 v5 v6 v7 v8 v9 m)
  · refine lu_iload X dX12_choice_250 (pc2 := 252) rfl 6 rfl ?_
    refine lu_bipush X dX12_choice_252 (pc2 := 254) rfl bp_10 ?_
    refine lu_icmp_eq (tgt := 272) X dX12_choice_254 (pc2 := 257) rfl (by decide) (fun _ => ?_) (fun _ => ?_)
    · exact lu_sub [1, 2, 3, 4, 5, 7] rfl (w12_choice_b272 X hret hK169 hK287 v5 v6 v7 v9 m)
    · refine lu_aload_n X dX12_choice_257 (pc2 := 258) rfl rfl 1 rfl ?_
      refine lu_iload X dX12_choice_258 (pc2 := 260) rfl 7 rfl ?_
      refine lu_invVi X (c12_due _ v9) rfl q1316 mvV_12_due kM_0 lM_0 (by decide) ⟨_, rfl, rfl⟩ rfl rfl (Nat.le_of_ble_eq_true rfl) (Nat.le_of_ble_eq_true rfl) (Nat.le_of_ble_eq_true rfl) ⟨Nat.zero_le _, Nat.zero_le _⟩ dX12_choice_260 (pc2 := 263) rfl rfl (fun x13 m14 => ?_)
      refine lu_aload_n X dX12_choice_263 (pc2 := 264) rfl rfl 1 rfl ?_
      refine lu_iload X dX12_choice_264 (pc2 := 266) rfl 6 rfl ?_
      refine lu_invVi X (c12_due _ v8) rfl q1316 mvV_12_due kM_0 lM_0 (by decide) ⟨_, rfl, rfl⟩ rfl rfl (Nat.le_of_ble_eq_true rfl) (Nat.le_of_ble_eq_true rfl) (Nat.le_of_ble_eq_true rfl) ⟨Nat.zero_le _, Nat.zero_le _⟩ dX12_choice_266 (pc2 := 269) rfl rfl (fun x15 m16 => ?_)
      refine lu_icmp_ge (tgt := 277) X dX12_choice_269 (pc2 := 272) rfl (by decide) (fun _ => ?_) (fun _ => ?_)
      · exact lu_sub [1, 2, 3, 4, 5, 6, 7] rfl (w12_choice_b277 X hret hK169 hK287 v5 v6 v7 v8 v9 m16)
      · exact lu_sub [1, 2, 3, 4, 5, 7] rfl (w12_choice_b272 X hret hK169 hK287 v5 v6 v7 v9 m16)
def f12_choice_b242 (K169 : Int32 → Int32 → Int32 → Int32 → Int32 → lu_M → Option (Int32 × lu_M)) (K287 : Int32 → lu_M → Option (Int32 × lu_M)) (a1 : Int32) (v5 : Int32) (v6 : Int32) (v7 : Int32) (v8 : Int32) (v9 : Int32) (m : lu_M) : Option (Int32 × lu_M) :=
  f12_choice_b243 K169 K287 a1 v5 v6 v7 v8 v9 (0 : Int32) m
set_option maxRecDepth 20000 in
theorem w12_choice_b242  {G : lu_G} {ρ : Nat → Nat} {a1 : Int32} {K169 : Int32 → Int32 → Int32 → Int32 → Int32 → lu_M → Option (Int32 × lu_M)} {K287 : Int32 → lu_M → Option (Int32 × lu_M)} (X : lu_X G RX12 cX12_choice 11 5 114) (hret : (lu_me G).sig.returnType = (some .int))  (hK169 : ∀ (v5 : Int32) (v6 : Int32) (v7 : Int32) (v8 : Int32) (v9 : Int32) (m : lu_M), lu_Ab lu_TM G (lu_Q lu_TM G ρ lu_RVi lu_sn) (K169 v5 v6 v7 v8 v9 m) 169 [(0, .ref (ρ 0)), (1, .int a1), (5, .int v5), (6, .int v6), (7, .int v7), (8, .int v8), (9, .int v9)] [] ρ 0 0 [] m) (hK287 : ∀ (v8 : Int32) (m : lu_M), lu_Ab lu_TM G (lu_Q lu_TM G ρ lu_RVi lu_sn) (K287 v8 m) 287 [(8, .int v8)] [] ρ 0 0 [] m) : ∀ (v5 : Int32) (v6 : Int32) (v7 : Int32) (v8 : Int32) (v9 : Int32) (m : lu_M), lu_Ab lu_TM G (lu_Q lu_TM G ρ lu_RVi lu_sn) (f12_choice_b242 K169 K287 a1 v5 v6 v7 v8 v9 m) 242 [(0, .ref (ρ 0)), (1, .int a1), (5, .int v5), (6, .int v6), (7, .int v7), (8, .int v8), (9, .int v9)] [] ρ 0 0 [] m := by
  intro v5 v6 v7 v8 v9 m
  unfold f12_choice_b242
  refine lu_iconst X dX12_choice_242 (pc2 := 243) rfl ic_0 ?_
  exact w12_choice_b243 X hret hK169 hK287 v5 v6 v7 v8 v9 (0 : Int32) m
def f12_choice_b169B (K287 : Int32 → lu_M → Option (Int32 × lu_M)) (rec : Int32 → Int32 → Int32 → Int32 → Int32 → lu_M → Option (Int32 × lu_M)) (a1 : Int32) (v5 : Int32) (v6 : Int32) (v7 : Int32) (v8 : Int32) (v9 : Int32) (m : lu_M) : Option (Int32 × lu_M) :=
  if (m 1 5) ≤ v9 then (K287 v8 m)
  else (if v5 = (2 : Int32) then (K287 v8 m)
  else (lu_bi (f12_deedIs v9 (0 : Int32) m) fun x11 m12 =>
  if x11 = a1 then (lu_bi (f12_deedIs v9 (4 : Int32) m12) fun x17 m18 =>
  if x17 = (1 : Int32) then (lu_bi (f12_deedIs v9 (2 : Int32) m18) fun x19 m20 =>
  if v7 < x19 then (f12_choice_b242 rec K287 a1 v5 v6 v7 v8 v9 m20)
  else (lu_bi (f12_due v9 m20) fun x21 m22 =>
  if ((m22 1 3) + v6) < x21 then (f12_choice_b242 rec K287 a1 v5 v6 v7 v8 v9 m22)
  else (f12_choice_b243 rec K287 a1 v5 v6 v7 v8 v9 (1 : Int32) m22)))
  else (f12_choice_b242 rec K287 a1 v5 v6 v7 v8 v9 m18))
  else (f12_choice_b242 rec K287 a1 v5 v6 v7 v8 v9 m12)))
def f12_choice_b169 (K287 : Int32 → lu_M → Option (Int32 × lu_M)) (a1 : Int32) : Nat → Int32 → Int32 → Int32 → Int32 → Int32 → lu_M → Option (Int32 × lu_M)
  | 0, _, _, _, _, _, _ => none
  | n + 1, v5, v6, v7, v8, v9, m => f12_choice_b169B K287 (f12_choice_b169 K287 a1 n) a1 v5 v6 v7 v8 v9 m
set_option maxRecDepth 20000 in
theorem w12_choice_b169B  {G : lu_G} {ρ : Nat → Nat} {a1 : Int32} {K287 : Int32 → lu_M → Option (Int32 × lu_M)} {rec : Int32 → Int32 → Int32 → Int32 → Int32 → lu_M → Option (Int32 × lu_M)} (X : lu_X G RX12 cX12_choice 11 5 114) (hret : (lu_me G).sig.returnType = (some .int))  (hK287 : ∀ (v8 : Int32) (m : lu_M), lu_Ab lu_TM G (lu_Q lu_TM G ρ lu_RVi lu_sn) (K287 v8 m) 287 [(8, .int v8)] [] ρ 0 0 [] m) (hrec : ∀ (v5 : Int32) (v6 : Int32) (v7 : Int32) (v8 : Int32) (v9 : Int32) (m : lu_M), lu_Ab lu_TM G (lu_Q lu_TM G ρ lu_RVi lu_sn) (rec v5 v6 v7 v8 v9 m) 169 [(0, .ref (ρ 0)), (1, .int a1), (5, .int v5), (6, .int v6), (7, .int v7), (8, .int v8), (9, .int v9)] [] ρ 0 0 [] m) : ∀ (v5 : Int32) (v6 : Int32) (v7 : Int32) (v8 : Int32) (v9 : Int32) (m : lu_M), lu_Ab lu_TM G (lu_Q lu_TM G ρ lu_RVi lu_sn) (f12_choice_b169B K287 rec a1 v5 v6 v7 v8 v9 m) 169 [(0, .ref (ρ 0)), (1, .int a1), (5, .int v5), (6, .int v6), (7, .int v7), (8, .int v8), (9, .int v9)] [] ρ 0 0 [] m := by
  intro v5 v6 v7 v8 v9 m
  unfold f12_choice_b169B
  refine lu_iload X dX12_choice_169 (pc2 := 171) rfl 6 rfl ?_
  refine lu_aload_n X dX12_choice_171 (pc2 := 172) rfl rfl 0 rfl ?_
  refine lu_getr (r2 := 1) X rfl fl12_7 rfl kM_0 lM_0 dX12_choice_172 (pc2 := 175) rfl ?_
  refine lu_iconst X dX12_choice_175 (pc2 := 176) rfl ic_5 ?_
  refine lu_ialdK (q := 5) X (by decide) kM_1 lM_1 dX12_choice_176 (pc2 := 177) rfl ?_
  refine lu_icmp_ge (tgt := 287) X dX12_choice_177 (pc2 := 180) rfl (by decide) (fun _ => ?_) (fun _ => ?_)
  · exact lu_sub [5] rfl (hK287 v8 m)
  · refine lu_iload X dX12_choice_180 (pc2 := 182) rfl 2 rfl ?_
    refine lu_iconst X dX12_choice_182 (pc2 := 183) rfl ic_2 ?_
    refine lu_icmp_eq (tgt := 287) X dX12_choice_183 (pc2 := 186) rfl (by decide) (fun _ => ?_) (fun _ => ?_)
    · exact lu_sub [5] rfl (hK287 v8 m)
    · refine lu_aload_n X dX12_choice_186 (pc2 := 187) rfl rfl 0 rfl ?_
      refine lu_iload X dX12_choice_187 (pc2 := 189) rfl 6 rfl ?_
      refine lu_iconst X dX12_choice_189 (pc2 := 190) rfl ic_0 ?_
      refine lu_invVi X (c12_deedIs _ v9 (0 : Int32)) rfl q1284 mvV_12_deedIs kM_0 lM_0 (by decide) ⟨_, rfl, rfl⟩ rfl rfl (Nat.le_of_ble_eq_true rfl) (Nat.le_of_ble_eq_true rfl) (Nat.le_of_ble_eq_true rfl) ⟨Nat.zero_le _, Nat.zero_le _⟩ dX12_choice_190 (pc2 := 193) rfl rfl (fun x11 m12 => ?_)
      refine lu_iload_n X dX12_choice_193 (pc2 := 194) rfl rfl 1 rfl ?_
      refine lu_icmp_ne (tgt := 242) X dX12_choice_194 (pc2 := 197) rfl (by decide) (fun _ => ?_) (fun _ => ?_)
      · exact w12_choice_b242 X hret hrec hK287 v5 v6 v7 v8 v9 m12
      · refine lu_aload_n X dX12_choice_197 (pc2 := 198) rfl rfl 0 rfl ?_
        refine lu_iload X dX12_choice_198 (pc2 := 200) rfl 6 rfl ?_
        refine lu_iconst X dX12_choice_200 (pc2 := 201) rfl ic_4 ?_
        refine lu_invVi X (c12_deedIs _ v9 (4 : Int32)) rfl q1284 mvV_12_deedIs kM_0 lM_0 (by decide) ⟨_, rfl, rfl⟩ rfl rfl (Nat.le_of_ble_eq_true rfl) (Nat.le_of_ble_eq_true rfl) (Nat.le_of_ble_eq_true rfl) ⟨Nat.zero_le _, Nat.zero_le _⟩ dX12_choice_201 (pc2 := 204) rfl rfl (fun x17 m18 => ?_)
        refine lu_iconst X dX12_choice_204 (pc2 := 205) rfl ic_1 ?_
        refine lu_icmp_ne (tgt := 242) X dX12_choice_205 (pc2 := 208) rfl (by decide) (fun _ => ?_) (fun _ => ?_)
        · exact w12_choice_b242 X hret hrec hK287 v5 v6 v7 v8 v9 m18
        · refine lu_aload_n X dX12_choice_208 (pc2 := 209) rfl rfl 0 rfl ?_
          refine lu_iload X dX12_choice_209 (pc2 := 211) rfl 6 rfl ?_
          refine lu_iconst X dX12_choice_211 (pc2 := 212) rfl ic_2 ?_
          refine lu_invVi X (c12_deedIs _ v9 (2 : Int32)) rfl q1284 mvV_12_deedIs kM_0 lM_0 (by decide) ⟨_, rfl, rfl⟩ rfl rfl (Nat.le_of_ble_eq_true rfl) (Nat.le_of_ble_eq_true rfl) (Nat.le_of_ble_eq_true rfl) ⟨Nat.zero_le _, Nat.zero_le _⟩ dX12_choice_212 (pc2 := 215) rfl rfl (fun x19 m20 => ?_)
          refine lu_iload X dX12_choice_215 (pc2 := 217) rfl 4 rfl ?_
          refine lu_icmp_gt (tgt := 242) X dX12_choice_217 (pc2 := 220) rfl (by decide) (fun _ => ?_) (fun _ => ?_)
          · exact w12_choice_b242 X hret hrec hK287 v5 v6 v7 v8 v9 m20
          · refine lu_aload_n X dX12_choice_220 (pc2 := 221) rfl rfl 0 rfl ?_
            refine lu_iload X dX12_choice_221 (pc2 := 223) rfl 6 rfl ?_
            refine lu_invVi X (c12_due _ v9) rfl q1316 mvV_12_due kM_0 lM_0 (by decide) ⟨_, rfl, rfl⟩ rfl rfl (Nat.le_of_ble_eq_true rfl) (Nat.le_of_ble_eq_true rfl) (Nat.le_of_ble_eq_true rfl) ⟨Nat.zero_le _, Nat.zero_le _⟩ dX12_choice_223 (pc2 := 226) rfl rfl (fun x21 m22 => ?_)
            refine lu_aload_n X dX12_choice_226 (pc2 := 227) rfl rfl 0 rfl ?_
            refine lu_getr (r2 := 1) X rfl fl12_7 rfl kM_0 lM_0 dX12_choice_227 (pc2 := 230) rfl ?_
            refine lu_iconst X dX12_choice_230 (pc2 := 231) rfl ic_3 ?_
            refine lu_ialdK (q := 3) X (by decide) kM_1 lM_1 dX12_choice_231 (pc2 := 232) rfl ?_
            refine lu_iload X dX12_choice_232 (pc2 := 234) rfl 3 rfl ?_
            refine lu_iadd X dX12_choice_234 (pc2 := 235) rfl ?_
            refine lu_icmp_gt (tgt := 242) X dX12_choice_235 (pc2 := 238) rfl (by decide) (fun _ => ?_) (fun _ => ?_)
            · exact w12_choice_b242 X hret hrec hK287 v5 v6 v7 v8 v9 m22
            · refine lu_iconst X dX12_choice_238 (pc2 := 239) rfl ic_1 ?_
              refine lu_goto (tgt := 243) X dX12_choice_239 (by decide) ?_
              exact w12_choice_b243 X hret hrec hK287 v5 v6 v7 v8 v9 (1 : Int32) m22
theorem w12_choice_b169  {G : lu_G} {ρ : Nat → Nat} {a1 : Int32} {K287 : Int32 → lu_M → Option (Int32 × lu_M)} (X : lu_X G RX12 cX12_choice 11 5 114) (hret : (lu_me G).sig.returnType = (some .int))  (hK287 : ∀ (v8 : Int32) (m : lu_M), lu_Ab lu_TM G (lu_Q lu_TM G ρ lu_RVi lu_sn) (K287 v8 m) 287 [(8, .int v8)] [] ρ 0 0 [] m) : ∀ (n : Nat) (v5 : Int32) (v6 : Int32) (v7 : Int32) (v8 : Int32) (v9 : Int32) (m : lu_M), lu_Ab lu_TM G (lu_Q lu_TM G ρ lu_RVi lu_sn) (f12_choice_b169 K287 a1 n v5 v6 v7 v8 v9 m) 169 [(0, .ref (ρ 0)), (1, .int a1), (5, .int v5), (6, .int v6), (7, .int v7), (8, .int v8), (9, .int v9)] [] ρ 0 0 [] m := by
  intro n
  induction n with
  | zero => intro v5 v6 v7 v8 v9 m; exact lu_none
  | succ n ih => intro v5 v6 v7 v8 v9 m; exact w12_choice_b169B X hret hK287 ih v5 v6 v7 v8 v9 m
def f12_choice_b287  (a1 : Int32) (v8 : Int32) (m : lu_M) : Option (Int32 × lu_M) :=
  some (v8, m)
set_option maxRecDepth 20000 in
theorem w12_choice_b287  {G : lu_G} {ρ : Nat → Nat} {a1 : Int32}  (X : lu_X G RX12 cX12_choice 11 5 114) (hret : (lu_me G).sig.returnType = (some .int))   : ∀ (v8 : Int32) (m : lu_M), lu_Ab lu_TM G (lu_Q lu_TM G ρ lu_RVi lu_sn) (f12_choice_b287 a1 v8 m) 287 [(8, .int v8)] [] ρ 0 0 [] m := by
  intro v8 m
  unfold f12_choice_b287
  refine lu_iload X dX12_choice_287 (pc2 := 289) rfl 0 rfl ?_
  exact lu_iret X hret dX12_choice_289
def f12_choice_b153  (a1 : Int32) (v5 : Int32) (s0 : Int32) (m : lu_M) : Option (Int32 × lu_M) :=
  lu_bi (f12_pulls a1 m) fun x9 m10 =>
  f12_choice_b169 (f12_choice_b287 a1) a1 lu_fu v5 s0 x9 (10 : Int32) (0 : Int32) m10
set_option maxRecDepth 20000 in
theorem w12_choice_b153  {G : lu_G} {ρ : Nat → Nat} {a1 : Int32}  (X : lu_X G RX12 cX12_choice 11 5 114) (hret : (lu_me G).sig.returnType = (some .int))   : ∀ (v5 : Int32) (s0 : Int32) (m : lu_M), lu_Ab lu_TM G (lu_Q lu_TM G ρ lu_RVi lu_sn) (f12_choice_b153 a1 v5 s0 m) 153 [(0, .ref (ρ 0)), (1, .int a1), (5, .int v5)] [.int s0] ρ 0 0 [] m := by
  intro v5 s0 m
  unfold f12_choice_b153
  refine lu_istore (lv2 := [(6, .int s0), (0, .ref (ρ 0)), (1, .int a1), (5, .int v5)]) X dX12_choice_153 (pc2 := 155) rfl (by decide) rfl ?_
  refine lu_aload_n X dX12_choice_155 (pc2 := 156) rfl rfl 1 rfl ?_
  refine lu_iload_n X dX12_choice_156 (pc2 := 157) rfl rfl 2 rfl ?_
  refine lu_invVi X (c12_pulls _ a1) rfl q1291 mvV_12_pulls kM_0 lM_0 (by decide) ⟨_, rfl, rfl⟩ rfl rfl (Nat.le_of_ble_eq_true rfl) (Nat.le_of_ble_eq_true rfl) (Nat.le_of_ble_eq_true rfl) ⟨Nat.zero_le _, Nat.zero_le _⟩ dX12_choice_157 (pc2 := 160) rfl rfl (fun x9 m10 => ?_)
  refine lu_istore (lv2 := [(7, .int x9), (6, .int s0), (0, .ref (ρ 0)), (1, .int a1), (5, .int v5)]) X dX12_choice_160 (pc2 := 162) rfl (by decide) rfl ?_
  refine lu_bipush X dX12_choice_162 (pc2 := 164) rfl bp_10 ?_
  refine lu_istore (lv2 := [(8, .int (10 : Int32)), (7, .int x9), (6, .int s0), (0, .ref (ρ 0)), (1, .int a1), (5, .int v5)]) X dX12_choice_164 (pc2 := 166) rfl (by decide) rfl ?_
  refine lu_iconst X dX12_choice_166 (pc2 := 167) rfl ic_0 ?_
  refine lu_istore (lv2 := [(9, .int (0 : Int32)), (8, .int (10 : Int32)), (7, .int x9), (6, .int s0), (0, .ref (ρ 0)), (1, .int a1), (5, .int v5)]) X dX12_choice_167 (pc2 := 169) rfl (by decide) rfl ?_
  exact lu_sub [4, 5, 6, 3, 2, 1, 0] rfl (w12_choice_b169 X hret (w12_choice_b287 X hret) lu_fu v5 s0 x9 (10 : Int32) (0 : Int32) m10)
def f12_choice_b115  (a1 : Int32) (v3 : Int32) (s0 : Int32) (m : lu_M) : Option (Int32 × lu_M) :=
  if s0 = 0 then (lu_gd (lu_ib (v3 + (2 : Int32)) 368) <|
  f12_choice_b153 a1 s0 (m 1 (v3 + (2 : Int32)).toNatClampNeg) m)
  else (if s0 = (1 : Int32) then (lu_gd (lu_ib (v3 + (2 : Int32)) 368) <|
  f12_choice_b153 a1 s0 ((0 : Int32) - (m 1 (v3 + (2 : Int32)).toNatClampNeg)) m)
  else (f12_choice_b153 a1 s0 (0 : Int32) m))
set_option maxRecDepth 20000 in
theorem w12_choice_b115  {G : lu_G} {ρ : Nat → Nat} {a1 : Int32}  (X : lu_X G RX12 cX12_choice 11 5 114) (hret : (lu_me G).sig.returnType = (some .int))   : ∀ (v3 : Int32) (s0 : Int32) (m : lu_M), lu_Ab lu_TM G (lu_Q lu_TM G ρ lu_RVi lu_sn) (f12_choice_b115 a1 v3 s0 m) 115 [(0, .ref (ρ 0)), (1, .int a1), (3, .int v3)] [.int s0] ρ 0 0 [] m := by
  intro v3 s0 m
  unfold f12_choice_b115
  refine lu_istore (lv2 := [(5, .int s0), (0, .ref (ρ 0)), (1, .int a1), (3, .int v3)]) X dX12_choice_115 (pc2 := 117) rfl (by decide) rfl ?_
  refine lu_iload X dX12_choice_117 (pc2 := 119) rfl 0 rfl ?_
  refine lu_if_ne (tgt := 133) X dX12_choice_119 (pc2 := 122) rfl (by decide) (fun _ => ?_) (fun _ => ?_)
  · refine lu_iload X dX12_choice_133 (pc2 := 135) rfl 0 rfl ?_
    refine lu_iconst X dX12_choice_135 (pc2 := 136) rfl ic_1 ?_
    refine lu_icmp_ne (tgt := 152) X dX12_choice_136 (pc2 := 139) rfl (by decide) (fun _ => ?_) (fun _ => ?_)
    · refine lu_iconst X dX12_choice_152 (pc2 := 153) rfl ic_0 ?_
      exact lu_sub [1, 2, 0] rfl (w12_choice_b153 X hret s0 (0 : Int32) m)
    · refine lu_iconst X dX12_choice_139 (pc2 := 140) rfl ic_0 ?_
      refine lu_aload_n X dX12_choice_140 (pc2 := 141) rfl rfl 1 rfl ?_
      refine lu_getr (r2 := 1) X rfl fl12_7 rfl kM_0 lM_0 dX12_choice_141 (pc2 := 144) rfl ?_
      refine lu_iload_n X dX12_choice_144 (pc2 := 145) rfl rfl 3 rfl ?_
      refine lu_iconst X dX12_choice_145 (pc2 := 146) rfl ic_2 ?_
      refine lu_iadd X dX12_choice_146 (pc2 := 147) rfl ?_
      refine lu_iald X kM_1 lM_1 dX12_choice_147 (pc2 := 148) rfl ?_
      refine lu_isub X dX12_choice_148 (pc2 := 149) rfl ?_
      refine lu_goto (tgt := 153) X dX12_choice_149 (by decide) ?_
      exact lu_sub [1, 2, 0] rfl (w12_choice_b153 X hret s0 ((0 : Int32) - (m 1 (v3 + (2 : Int32)).toNatClampNeg)) m)
  · refine lu_aload_n X dX12_choice_122 (pc2 := 123) rfl rfl 1 rfl ?_
    refine lu_getr (r2 := 1) X rfl fl12_7 rfl kM_0 lM_0 dX12_choice_123 (pc2 := 126) rfl ?_
    refine lu_iload_n X dX12_choice_126 (pc2 := 127) rfl rfl 3 rfl ?_
    refine lu_iconst X dX12_choice_127 (pc2 := 128) rfl ic_2 ?_
    refine lu_iadd X dX12_choice_128 (pc2 := 129) rfl ?_
    refine lu_iald X kM_1 lM_1 dX12_choice_129 (pc2 := 130) rfl ?_
    refine lu_goto (tgt := 153) X dX12_choice_130 (by decide) ?_
    exact lu_sub [1, 2, 0] rfl (w12_choice_b153 X hret s0 (m 1 (v3 + (2 : Int32)).toNatClampNeg) m)
def f12_choice_b99  (a1 : Int32) (v3 : Int32) (m : lu_M) : Option (Int32 × lu_M) :=
  if 0 ≤ v3 then (lu_gd (lu_ib (v3 + (1 : Int32)) 368) <|
  f12_choice_b115 a1 v3 (m 1 (v3 + (1 : Int32)).toNatClampNeg) m)
  else (f12_choice_b115 a1 v3 (-1 : Int32) m)
set_option maxRecDepth 20000 in
theorem w12_choice_b99  {G : lu_G} {ρ : Nat → Nat} {a1 : Int32}  (X : lu_X G RX12 cX12_choice 11 5 114) (hret : (lu_me G).sig.returnType = (some .int))   : ∀ (v3 : Int32) (m : lu_M), lu_Ab lu_TM G (lu_Q lu_TM G ρ lu_RVi lu_sn) (f12_choice_b99 a1 v3 m) 99 [(0, .ref (ρ 0)), (1, .int a1), (3, .int v3)] [] ρ 0 0 [] m := by
  intro v3 m
  unfold f12_choice_b99
  refine lu_iload_n X dX12_choice_99 (pc2 := 100) rfl rfl 2 rfl ?_
  refine lu_if_ge (tgt := 107) X dX12_choice_100 (pc2 := 103) rfl (by decide) (fun _ => ?_) (fun _ => ?_)
  · refine lu_aload_n X dX12_choice_107 (pc2 := 108) rfl rfl 0 rfl ?_
    refine lu_getr (r2 := 1) X rfl fl12_7 rfl kM_0 lM_0 dX12_choice_108 (pc2 := 111) rfl ?_
    refine lu_iload_n X dX12_choice_111 (pc2 := 112) rfl rfl 2 rfl ?_
    refine lu_iconst X dX12_choice_112 (pc2 := 113) rfl ic_1 ?_
    refine lu_iadd X dX12_choice_113 (pc2 := 114) rfl ?_
    refine lu_iald X kM_1 lM_1 dX12_choice_114 (pc2 := 115) rfl ?_
    exact w12_choice_b115 X hret v3 (m 1 (v3 + (1 : Int32)).toNatClampNeg) m
  · refine lu_iconst X dX12_choice_103 (pc2 := 104) rfl ic_m1 ?_
    refine lu_goto (tgt := 115) X dX12_choice_104 (by decide) ?_
    exact w12_choice_b115 X hret v3 (-1 : Int32) m
def f12_choice (a1 : Int32) (m : lu_M) : Option (Int32 × lu_M) :=
  lu_bi (f12_its a1 (0 : Int32) m) fun x1 m2 =>
  f12_choice_b15 (f12_choice_b99 a1) a1 lu_fu x1 (-1 : Int32) (0 : Int32) (0 : Int32) m2
set_option maxRecDepth 20000 in
theorem c12_choice (l : Launch)   (a1 : Int32) : lu_C lu_TM l yX12_choice cX12_choice 11 (some .int) 5 114 (fun ρ sa => [.ref (ρ 0), .int a1]) (f12_choice a1) lu_RVi lu_sn := by
  refine lu_met (cls := RX12) rfl (by decide +kernel) (fun _ _ => Nat.le_of_ble_eq_true rfl) ?_
  intro G ρ m hl X hret
  subst hl
  change lu_Ab lu_TM G (lu_Q lu_TM G ρ lu_RVi lu_sn) (f12_choice a1 m) 0 [(0, .ref (ρ 0)), (1, .int a1)] [] ρ 0 0 [] m
  unfold f12_choice
  refine lu_aload_n X dX12_choice_0 (pc2 := 1) rfl rfl 0 rfl ?_
  refine lu_iload_n X dX12_choice_1 (pc2 := 2) rfl rfl 1 rfl ?_
  refine lu_iconst X dX12_choice_2 (pc2 := 3) rfl ic_0 ?_
  refine lu_invVi X (c12_its _ a1 (0 : Int32)) rfl q1276 mvV_12_its kM_0 lM_0 (by decide) ⟨_, rfl, rfl⟩ rfl rfl (Nat.le_of_ble_eq_true rfl) (Nat.le_of_ble_eq_true rfl) (Nat.le_of_ble_eq_true rfl) ⟨Nat.zero_le _, Nat.zero_le _⟩ dX12_choice_3 (pc2 := 6) rfl rfl (fun x1 m2 => ?_)
  refine lu_istore_n (lv2 := [(2, .int x1), (0, .ref (ρ 0)), (1, .int a1)]) X dX12_choice_6 (pc2 := 7) rfl rfl (by decide) rfl ?_
  refine lu_iconst X dX12_choice_7 (pc2 := 8) rfl ic_m1 ?_
  refine lu_istore_n (lv2 := [(3, .int (-1 : Int32)), (2, .int x1), (0, .ref (ρ 0)), (1, .int a1)]) X dX12_choice_8 (pc2 := 9) rfl rfl (by decide) rfl ?_
  refine lu_iconst X dX12_choice_9 (pc2 := 10) rfl ic_0 ?_
  refine lu_istore (lv2 := [(4, .int (0 : Int32)), (3, .int (-1 : Int32)), (2, .int x1), (0, .ref (ρ 0)), (1, .int a1)]) X dX12_choice_10 (pc2 := 12) rfl (by decide) rfl ?_
  refine lu_iconst X dX12_choice_12 (pc2 := 13) rfl ic_0 ?_
  refine lu_istore (lv2 := [(5, .int (0 : Int32)), (4, .int (0 : Int32)), (3, .int (-1 : Int32)), (2, .int x1), (0, .ref (ρ 0)), (1, .int a1)]) X dX12_choice_13 (pc2 := 15) rfl (by decide) rfl ?_
  exact lu_sub [4, 5, 3, 2, 1, 0] rfl (w12_choice_b15 X hret (w12_choice_b99 X hret) lu_fu x1 (-1 : Int32) (0 : Int32) (0 : Int32) m2)

theorem dX12_personOf_0 : decode cX12_personOf 0 = .ok (.aload_n 0, 1) := by decide +kernel
theorem dX12_personOf_1 : decode cX12_personOf 1 = .ok (.iload_n 1, 1) := by decide +kernel
theorem dX12_personOf_2 : decode cX12_personOf 2 = .ok (.invokevirtual 96, 3) := by decide +kernel
theorem dX12_personOf_5 : decode cX12_personOf 5 = .ok (.ifCond .eq 15, 3) := by decide +kernel
theorem dX12_personOf_8 : decode cX12_personOf 8 = .ok (.iload_n 2, 1) := by decide +kernel
theorem dX12_personOf_9 : decode cX12_personOf 9 = .ok (.i2l, 1) := by decide +kernel
theorem dX12_personOf_10 : decode cX12_personOf 10 = .ok (.lconst 0, 1) := by decide +kernel
theorem dX12_personOf_11 : decode cX12_personOf 11 = .ok (.ldc2_w 75, 3) := by decide +kernel
theorem dX12_personOf_14 : decode cX12_personOf 14 = .ok (.invokestatic 64, 3) := by decide +kernel
theorem dX12_personOf_17 : decode cX12_personOf 17 = .ok (.ifCond .ne 5, 3) := by decide +kernel
theorem dX12_personOf_20 : decode cX12_personOf 20 = .ok (.iconst (-1), 1) := by decide +kernel
theorem dX12_personOf_21 : decode cX12_personOf 21 = .ok (.ireturn, 1) := by decide +kernel
theorem dX12_personOf_22 : decode cX12_personOf 22 = .ok (.iload_n 2, 1) := by decide +kernel
theorem dX12_personOf_23 : decode cX12_personOf 23 = .ok (.iconst 3, 1) := by decide +kernel
theorem dX12_personOf_24 : decode cX12_personOf 24 = .ok (.if_icmp .ge 12, 3) := by decide +kernel
theorem dX12_personOf_27 : decode cX12_personOf 27 = .ok (.aload_n 0, 1) := by decide +kernel
theorem dX12_personOf_28 : decode cX12_personOf 28 = .ok (.iload_n 1, 1) := by decide +kernel
theorem dX12_personOf_29 : decode cX12_personOf 29 = .ok (.iload_n 2, 1) := by decide +kernel
theorem dX12_personOf_30 : decode cX12_personOf 30 = .ok (.invokevirtual 83, 3) := by decide +kernel
theorem dX12_personOf_33 : decode cX12_personOf 33 = .ok (.goto 34, 3) := by decide +kernel
theorem dX12_personOf_36 : decode cX12_personOf 36 = .ok (.iload_n 2, 1) := by decide +kernel
theorem dX12_personOf_37 : decode cX12_personOf 37 = .ok (.iconst 3, 1) := by decide +kernel
theorem dX12_personOf_38 : decode cX12_personOf 38 = .ok (.if_icmp .ne 11, 3) := by decide +kernel
theorem dX12_personOf_41 : decode cX12_personOf 41 = .ok (.aload_n 0, 1) := by decide +kernel
theorem dX12_personOf_42 : decode cX12_personOf 42 = .ok (.iload_n 1, 1) := by decide +kernel
theorem dX12_personOf_43 : decode cX12_personOf 43 = .ok (.invokevirtual 99, 3) := by decide +kernel
theorem dX12_personOf_46 : decode cX12_personOf 46 = .ok (.goto 21, 3) := by decide +kernel
theorem dX12_personOf_49 : decode cX12_personOf 49 = .ok (.iload_n 2, 1) := by decide +kernel
theorem dX12_personOf_50 : decode cX12_personOf 50 = .ok (.iconst 4, 1) := by decide +kernel
theorem dX12_personOf_51 : decode cX12_personOf 51 = .ok (.if_icmp .ne 11, 3) := by decide +kernel
theorem dX12_personOf_54 : decode cX12_personOf 54 = .ok (.aload_n 0, 1) := by decide +kernel
theorem dX12_personOf_55 : decode cX12_personOf 55 = .ok (.iload_n 1, 1) := by decide +kernel
theorem dX12_personOf_56 : decode cX12_personOf 56 = .ok (.invokevirtual 103, 3) := by decide +kernel
theorem dX12_personOf_59 : decode cX12_personOf 59 = .ok (.goto 8, 3) := by decide +kernel
theorem dX12_personOf_62 : decode cX12_personOf 62 = .ok (.aload_n 0, 1) := by decide +kernel
theorem dX12_personOf_63 : decode cX12_personOf 63 = .ok (.iload_n 1, 1) := by decide +kernel
theorem dX12_personOf_64 : decode cX12_personOf 64 = .ok (.invokevirtual 106, 3) := by decide +kernel
theorem dX12_personOf_67 : decode cX12_personOf 67 = .ok (.ireturn, 1) := by decide +kernel
def f12_personOf_b20  (a1 : Int32) (a2 : Int32)  (m : lu_M) : Option (Int32 × lu_M) :=
  some ((-1 : Int32), m)
set_option maxRecDepth 20000 in
theorem w12_personOf_b20  {G : lu_G} {ρ : Nat → Nat} {a1 : Int32} {a2 : Int32}  (X : lu_X G RX12 cX12_personOf 3 6 144) (hret : (lu_me G).sig.returnType = (some .int))   : ∀  (m : lu_M), lu_Ab lu_TM G (lu_Q lu_TM G ρ lu_RVi lu_sn) (f12_personOf_b20 a1 a2 m) 20 [] [] ρ 0 0 [] m := by
  intro  m
  unfold f12_personOf_b20
  refine lu_iconst X dX12_personOf_20 (pc2 := 21) rfl ic_m1 ?_
  exact lu_iret X hret dX12_personOf_21
def f12_personOf_b67  (a1 : Int32) (a2 : Int32) (s0 : Int32) (m : lu_M) : Option (Int32 × lu_M) :=
  some (s0, m)
set_option maxRecDepth 20000 in
theorem w12_personOf_b67  {G : lu_G} {ρ : Nat → Nat} {a1 : Int32} {a2 : Int32}  (X : lu_X G RX12 cX12_personOf 3 6 144) (hret : (lu_me G).sig.returnType = (some .int))   : ∀ (s0 : Int32) (m : lu_M), lu_Ab lu_TM G (lu_Q lu_TM G ρ lu_RVi lu_sn) (f12_personOf_b67 a1 a2 s0 m) 67 [] [.int s0] ρ 0 0 [] m := by
  intro s0 m
  unfold f12_personOf_b67
  exact lu_iret X hret dX12_personOf_67
def f12_personOf (a1 : Int32) (a2 : Int32) (m : lu_M) : Option (Int32 × lu_M) :=
  lu_bi (f12_isPerson a1 m) fun x1 m2 =>
  if x1 = 0 then (f12_personOf_b20 a1 a2 m2)
  else (lu_bi (f12_in a2.toInt64 (0 : Int64) (5 : Int64) m2) fun x3 m4 =>
  if x3 = 0 then (f12_personOf_b20 a1 a2 m4)
  else (if (3 : Int32) ≤ a2 then (if a2 = (3 : Int32) then (lu_bi (f12_standWeight a1 m4) fun x9 m10 =>
  f12_personOf_b67 a1 a2 x9 m10)
  else (if a2 = (4 : Int32) then (lu_bi (f12_pulls a1 m4) fun x7 m8 =>
  f12_personOf_b67 a1 a2 x7 m8)
  else (lu_bi (f12_choice a1 m4) fun x5 m6 =>
  f12_personOf_b67 a1 a2 x5 m6)))
  else (lu_bi (f12_its a1 a2 m4) fun x11 m12 =>
  f12_personOf_b67 a1 a2 x11 m12)))
set_option maxRecDepth 20000 in
theorem c12_personOf (l : Launch)   (a1 : Int32) (a2 : Int32) : lu_C lu_TM l yX12_personOf cX12_personOf 3 (some .int) 6 144 (fun ρ sa => [.ref (ρ 0), .int a1, .int a2]) (f12_personOf a1 a2) lu_RVi lu_sn := by
  refine lu_met (cls := RX12) rfl (by decide +kernel) (fun _ _ => Nat.le_of_ble_eq_true rfl) ?_
  intro G ρ m hl X hret
  subst hl
  change lu_Ab lu_TM G (lu_Q lu_TM G ρ lu_RVi lu_sn) (f12_personOf a1 a2 m) 0 [(0, .ref (ρ 0)), (1, .int a1), (2, .int a2)] [] ρ 0 0 [] m
  unfold f12_personOf
  refine lu_aload_n X dX12_personOf_0 (pc2 := 1) rfl rfl 0 rfl ?_
  refine lu_iload_n X dX12_personOf_1 (pc2 := 2) rfl rfl 1 rfl ?_
  refine lu_invVi X (c12_isPerson _ a1) rfl q1272 mvV_12_isPerson kM_0 lM_0 (by decide) ⟨_, rfl, rfl⟩ rfl rfl (Nat.le_of_ble_eq_true rfl) (Nat.le_of_ble_eq_true rfl) (Nat.le_of_ble_eq_true rfl) ⟨Nat.zero_le _, Nat.zero_le _⟩ dX12_personOf_2 (pc2 := 5) rfl rfl (fun x1 m2 => ?_)
  refine lu_if_eq (tgt := 20) X dX12_personOf_5 (pc2 := 8) rfl (by decide) (fun _ => ?_) (fun _ => ?_)
  · exact lu_sub [] rfl (w12_personOf_b20 X hret m2)
  · refine lu_iload_n X dX12_personOf_8 (pc2 := 9) rfl rfl 2 rfl ?_
    refine lu_i2l X dX12_personOf_9 (pc2 := 10) rfl ?_
    refine lu_lconst (v := (0 : Int64)) X dX12_personOf_10 (pc2 := 11) rfl (by decide) ?_
    refine lu_ldc2 X q1260 dX12_personOf_11 (pc2 := 14) rfl ?_
    refine lu_invSi X (c12_in _ a2.toInt64 (0 : Int64) (5 : Int64)) rfl q1261 mvS_12_in rfl rfl (Nat.le_of_ble_eq_true rfl) (Nat.le_of_ble_eq_true rfl) (Nat.le_of_ble_eq_true rfl) ⟨Nat.zero_le _, Nat.zero_le _⟩ dX12_personOf_14 (pc2 := 17) rfl rfl (fun x3 m4 => ?_)
    refine lu_if_ne (tgt := 22) X dX12_personOf_17 (pc2 := 20) rfl (by decide) (fun _ => ?_) (fun _ => ?_)
    · refine lu_iload_n X dX12_personOf_22 (pc2 := 23) rfl rfl 2 rfl ?_
      refine lu_iconst X dX12_personOf_23 (pc2 := 24) rfl ic_3 ?_
      refine lu_icmp_ge (tgt := 36) X dX12_personOf_24 (pc2 := 27) rfl (by decide) (fun _ => ?_) (fun _ => ?_)
      · refine lu_iload_n X dX12_personOf_36 (pc2 := 37) rfl rfl 2 rfl ?_
        refine lu_iconst X dX12_personOf_37 (pc2 := 38) rfl ic_3 ?_
        refine lu_icmp_ne (tgt := 49) X dX12_personOf_38 (pc2 := 41) rfl (by decide) (fun _ => ?_) (fun _ => ?_)
        · refine lu_iload_n X dX12_personOf_49 (pc2 := 50) rfl rfl 2 rfl ?_
          refine lu_iconst X dX12_personOf_50 (pc2 := 51) rfl ic_4 ?_
          refine lu_icmp_ne (tgt := 62) X dX12_personOf_51 (pc2 := 54) rfl (by decide) (fun _ => ?_) (fun _ => ?_)
          · refine lu_aload_n X dX12_personOf_62 (pc2 := 63) rfl rfl 0 rfl ?_
            refine lu_iload_n X dX12_personOf_63 (pc2 := 64) rfl rfl 1 rfl ?_
            refine lu_invVi X (c12_choice _ a1) rfl q1298 mvV_12_choice kM_0 lM_0 (by decide) ⟨_, rfl, rfl⟩ rfl rfl (Nat.le_of_ble_eq_true rfl) (Nat.le_of_ble_eq_true rfl) (Nat.le_of_ble_eq_true rfl) ⟨Nat.zero_le _, Nat.zero_le _⟩ dX12_personOf_64 (pc2 := 67) rfl rfl (fun x5 m6 => ?_)
            exact lu_sub [] rfl (w12_personOf_b67 X hret x5 m6)
          · refine lu_aload_n X dX12_personOf_54 (pc2 := 55) rfl rfl 0 rfl ?_
            refine lu_iload_n X dX12_personOf_55 (pc2 := 56) rfl rfl 1 rfl ?_
            refine lu_invVi X (c12_pulls _ a1) rfl q1291 mvV_12_pulls kM_0 lM_0 (by decide) ⟨_, rfl, rfl⟩ rfl rfl (Nat.le_of_ble_eq_true rfl) (Nat.le_of_ble_eq_true rfl) (Nat.le_of_ble_eq_true rfl) ⟨Nat.zero_le _, Nat.zero_le _⟩ dX12_personOf_56 (pc2 := 59) rfl rfl (fun x7 m8 => ?_)
            refine lu_goto (tgt := 67) X dX12_personOf_59 (by decide) ?_
            exact lu_sub [] rfl (w12_personOf_b67 X hret x7 m8)
        · refine lu_aload_n X dX12_personOf_41 (pc2 := 42) rfl rfl 0 rfl ?_
          refine lu_iload_n X dX12_personOf_42 (pc2 := 43) rfl rfl 1 rfl ?_
          refine lu_invVi X (c12_standWeight _ a1) rfl q1280 mvV_12_standWeight kM_0 lM_0 (by decide) ⟨_, rfl, rfl⟩ rfl rfl (Nat.le_of_ble_eq_true rfl) (Nat.le_of_ble_eq_true rfl) (Nat.le_of_ble_eq_true rfl) ⟨Nat.zero_le _, Nat.zero_le _⟩ dX12_personOf_43 (pc2 := 46) rfl rfl (fun x9 m10 => ?_)
          refine lu_goto (tgt := 67) X dX12_personOf_46 (by decide) ?_
          exact lu_sub [] rfl (w12_personOf_b67 X hret x9 m10)
      · refine lu_aload_n X dX12_personOf_27 (pc2 := 28) rfl rfl 0 rfl ?_
        refine lu_iload_n X dX12_personOf_28 (pc2 := 29) rfl rfl 1 rfl ?_
        refine lu_iload_n X dX12_personOf_29 (pc2 := 30) rfl rfl 2 rfl ?_
        refine lu_invVi X (c12_its _ a1 a2) rfl q1276 mvV_12_its kM_0 lM_0 (by decide) ⟨_, rfl, rfl⟩ rfl rfl (Nat.le_of_ble_eq_true rfl) (Nat.le_of_ble_eq_true rfl) (Nat.le_of_ble_eq_true rfl) ⟨Nat.zero_le _, Nat.zero_le _⟩ dX12_personOf_30 (pc2 := 33) rfl rfl (fun x11 m12 => ?_)
        refine lu_goto (tgt := 67) X dX12_personOf_33 (by decide) ?_
        exact lu_sub [] rfl (w12_personOf_b67 X hret x11 m12)
    · exact lu_sub [] rfl (w12_personOf_b20 X hret m4)

theorem dX12_change_0 : decode cX12_change 0 = .ok (.aload_n 0, 1) := by decide +kernel
theorem dX12_change_1 : decode cX12_change 1 = .ok (.iload_n 1, 1) := by decide +kernel
theorem dX12_change_2 : decode cX12_change 2 = .ok (.invokevirtual 96, 3) := by decide +kernel
theorem dX12_change_5 : decode cX12_change 5 = .ok (.ifCond .eq 40, 3) := by decide +kernel
theorem dX12_change_8 : decode cX12_change 8 = .ok (.iload_n 2, 1) := by decide +kernel
theorem dX12_change_9 : decode cX12_change 9 = .ok (.i2l, 1) := by decide +kernel
theorem dX12_change_10 : decode cX12_change 10 = .ok (.lconst 1, 1) := by decide +kernel
theorem dX12_change_11 : decode cX12_change 11 = .ok (.ldc2_w 109, 3) := by decide +kernel
theorem dX12_change_14 : decode cX12_change 14 = .ok (.invokestatic 64, 3) := by decide +kernel
theorem dX12_change_17 : decode cX12_change 17 = .ok (.ifCond .eq 28, 3) := by decide +kernel
theorem dX12_change_20 : decode cX12_change 20 = .ok (.iload_n 3, 1) := by decide +kernel
theorem dX12_change_21 : decode cX12_change 21 = .ok (.i2l, 1) := by decide +kernel
theorem dX12_change_22 : decode cX12_change 22 = .ok (.lconst 1, 1) := by decide +kernel
theorem dX12_change_23 : decode cX12_change 23 = .ok (.ldc2_w 81, 3) := by decide +kernel
theorem dX12_change_26 : decode cX12_change 26 = .ok (.invokestatic 64, 3) := by decide +kernel
theorem dX12_change_29 : decode cX12_change 29 = .ok (.ifCond .eq 16, 3) := by decide +kernel
theorem dX12_change_32 : decode cX12_change 32 = .ok (.aload_n 0, 1) := by decide +kernel
theorem dX12_change_33 : decode cX12_change 33 = .ok (.iload_n 1, 1) := by decide +kernel
theorem dX12_change_34 : decode cX12_change 34 = .ok (.iload_n 2, 1) := by decide +kernel
theorem dX12_change_35 : decode cX12_change 35 = .ok (.invokestatic 68, 3) := by decide +kernel
theorem dX12_change_38 : decode cX12_change 38 = .ok (.iload_n 3, 1) := by decide +kernel
theorem dX12_change_39 : decode cX12_change 39 = .ok (.invokevirtual 111, 3) := by decide +kernel
theorem dX12_change_42 : decode cX12_change 42 = .ok (.goto 4, 3) := by decide +kernel
theorem dX12_change_45 : decode cX12_change 45 = .ok (.iconst (-1), 1) := by decide +kernel
theorem dX12_change_46 : decode cX12_change 46 = .ok (.ireturn, 1) := by decide +kernel
def f12_change_b46  (a1 : Int32) (a2 : Int32) (a3 : Int32) (s0 : Int32) (m : lu_M) : Option (Int32 × lu_M) :=
  some (s0, m)
set_option maxRecDepth 20000 in
theorem w12_change_b46  {G : lu_G} {ρ : Nat → Nat} {a1 : Int32} {a2 : Int32} {a3 : Int32}  (X : lu_X G RX12 cX12_change 4 2 46) (hret : (lu_me G).sig.returnType = (some .int))   : ∀ (s0 : Int32) (m : lu_M), lu_Ab lu_TM G (lu_Q lu_TM G ρ lu_RVi lu_sn) (f12_change_b46 a1 a2 a3 s0 m) 46 [] [.int s0] ρ 0 0 [] m := by
  intro s0 m
  unfold f12_change_b46
  exact lu_iret X hret dX12_change_46
def f12_change_b45  (a1 : Int32) (a2 : Int32) (a3 : Int32)  (m : lu_M) : Option (Int32 × lu_M) :=
  f12_change_b46 a1 a2 a3 (-1 : Int32) m
set_option maxRecDepth 20000 in
theorem w12_change_b45  {G : lu_G} {ρ : Nat → Nat} {a1 : Int32} {a2 : Int32} {a3 : Int32}  (X : lu_X G RX12 cX12_change 4 2 46) (hret : (lu_me G).sig.returnType = (some .int))   : ∀  (m : lu_M), lu_Ab lu_TM G (lu_Q lu_TM G ρ lu_RVi lu_sn) (f12_change_b45 a1 a2 a3 m) 45 [] [] ρ 0 0 [] m := by
  intro  m
  unfold f12_change_b45
  refine lu_iconst X dX12_change_45 (pc2 := 46) rfl ic_m1 ?_
  exact w12_change_b46 X hret (-1 : Int32) m
def f12_change (a1 : Int32) (a2 : Int32) (a3 : Int32) (m : lu_M) : Option (Int32 × lu_M) :=
  lu_bi (f12_isPerson a1 m) fun x1 m2 =>
  if x1 = 0 then (f12_change_b45 a1 a2 a3 m2)
  else (lu_bi (f12_in a2.toInt64 (1 : Int64) (2 : Int64) m2) fun x3 m4 =>
  if x3 = 0 then (f12_change_b45 a1 a2 a3 m4)
  else (lu_bi (f12_in a3.toInt64 (1 : Int64) (9 : Int64) m4) fun x5 m6 =>
  if x5 = 0 then (f12_change_b45 a1 a2 a3 m6)
  else (lu_bi (f12_at a1 a2 m6) fun x7 m8 =>
  lu_bi (f12_becomes x7 a3 m8) fun x9 m10 =>
  f12_change_b46 a1 a2 a3 x9 m10)))
set_option maxRecDepth 20000 in
theorem c12_change (l : Launch)   (a1 : Int32) (a2 : Int32) (a3 : Int32) : lu_C lu_TM l yX12_change cX12_change 4 (some .int) 2 46 (fun ρ sa => [.ref (ρ 0), .int a1, .int a2, .int a3]) (f12_change a1 a2 a3) lu_RVi lu_sn := by
  refine lu_met (cls := RX12) rfl (by decide +kernel) (fun _ _ => Nat.le_of_ble_eq_true rfl) ?_
  intro G ρ m hl X hret
  subst hl
  change lu_Ab lu_TM G (lu_Q lu_TM G ρ lu_RVi lu_sn) (f12_change a1 a2 a3 m) 0 [(0, .ref (ρ 0)), (1, .int a1), (2, .int a2), (3, .int a3)] [] ρ 0 0 [] m
  unfold f12_change
  refine lu_aload_n X dX12_change_0 (pc2 := 1) rfl rfl 0 rfl ?_
  refine lu_iload_n X dX12_change_1 (pc2 := 2) rfl rfl 1 rfl ?_
  refine lu_invVi X (c12_isPerson _ a1) rfl q1272 mvV_12_isPerson kM_0 lM_0 (by decide) ⟨_, rfl, rfl⟩ rfl rfl (Nat.le_of_ble_eq_true rfl) (Nat.le_of_ble_eq_true rfl) (Nat.le_of_ble_eq_true rfl) ⟨Nat.zero_le _, Nat.zero_le _⟩ dX12_change_2 (pc2 := 5) rfl rfl (fun x1 m2 => ?_)
  refine lu_if_eq (tgt := 45) X dX12_change_5 (pc2 := 8) rfl (by decide) (fun _ => ?_) (fun _ => ?_)
  · exact lu_sub [] rfl (w12_change_b45 X hret m2)
  · refine lu_iload_n X dX12_change_8 (pc2 := 9) rfl rfl 2 rfl ?_
    refine lu_i2l X dX12_change_9 (pc2 := 10) rfl ?_
    refine lu_lconst (v := (1 : Int64)) X dX12_change_10 (pc2 := 11) rfl (by decide) ?_
    refine lu_ldc2 X q1327 dX12_change_11 (pc2 := 14) rfl ?_
    refine lu_invSi X (c12_in _ a2.toInt64 (1 : Int64) (2 : Int64)) rfl q1261 mvS_12_in rfl rfl (Nat.le_of_ble_eq_true rfl) (Nat.le_of_ble_eq_true rfl) (Nat.le_of_ble_eq_true rfl) ⟨Nat.zero_le _, Nat.zero_le _⟩ dX12_change_14 (pc2 := 17) rfl rfl (fun x3 m4 => ?_)
    refine lu_if_eq (tgt := 45) X dX12_change_17 (pc2 := 20) rfl (by decide) (fun _ => ?_) (fun _ => ?_)
    · exact lu_sub [] rfl (w12_change_b45 X hret m4)
    · refine lu_iload_n X dX12_change_20 (pc2 := 21) rfl rfl 3 rfl ?_
      refine lu_i2l X dX12_change_21 (pc2 := 22) rfl ?_
      refine lu_lconst (v := (1 : Int64)) X dX12_change_22 (pc2 := 23) rfl (by decide) ?_
      refine lu_ldc2 X q1264 dX12_change_23 (pc2 := 26) rfl ?_
      refine lu_invSi X (c12_in _ a3.toInt64 (1 : Int64) (9 : Int64)) rfl q1261 mvS_12_in rfl rfl (Nat.le_of_ble_eq_true rfl) (Nat.le_of_ble_eq_true rfl) (Nat.le_of_ble_eq_true rfl) ⟨Nat.zero_le _, Nat.zero_le _⟩ dX12_change_26 (pc2 := 29) rfl rfl (fun x5 m6 => ?_)
      refine lu_if_eq (tgt := 45) X dX12_change_29 (pc2 := 32) rfl (by decide) (fun _ => ?_) (fun _ => ?_)
      · exact lu_sub [] rfl (w12_change_b45 X hret m6)
      · refine lu_aload_n X dX12_change_32 (pc2 := 33) rfl rfl 0 rfl ?_
        refine lu_iload_n X dX12_change_33 (pc2 := 34) rfl rfl 1 rfl ?_
        refine lu_iload_n X dX12_change_34 (pc2 := 35) rfl rfl 2 rfl ?_
        refine lu_invSi X (c12_at _ a1 a2) rfl q1265 mvS_12_at rfl rfl (Nat.le_of_ble_eq_true rfl) (Nat.le_of_ble_eq_true rfl) (Nat.le_of_ble_eq_true rfl) ⟨Nat.zero_le _, Nat.zero_le _⟩ dX12_change_35 (pc2 := 38) rfl rfl (fun x7 m8 => ?_)
        refine lu_iload_n X dX12_change_38 (pc2 := 39) rfl rfl 3 rfl ?_
        refine lu_invVi X (c12_becomes _ x7 a3) rfl q1328 mvV_12_becomes kM_0 lM_0 (by decide) ⟨_, rfl, rfl⟩ rfl rfl (Nat.le_of_ble_eq_true rfl) (Nat.le_of_ble_eq_true rfl) (Nat.le_of_ble_eq_true rfl) ⟨Nat.zero_le _, Nat.zero_le _⟩ dX12_change_39 (pc2 := 42) rfl rfl (fun x9 m10 => ?_)
        refine lu_goto (tgt := 46) X dX12_change_42 (by decide) ?_
        exact lu_sub [] rfl (w12_change_b46 X hret x9 m10)

theorem dX12_remake_0 : decode cX12_remake 0 = .ok (.aload_n 0, 1) := by decide +kernel
theorem dX12_remake_1 : decode cX12_remake 1 = .ok (.iload_n 1, 1) := by decide +kernel
theorem dX12_remake_2 : decode cX12_remake 2 = .ok (.invokevirtual 96, 3) := by decide +kernel
theorem dX12_remake_5 : decode cX12_remake 5 = .ok (.ifCond .eq 23, 3) := by decide +kernel
theorem dX12_remake_8 : decode cX12_remake 8 = .ok (.iload_n 2, 1) := by decide +kernel
theorem dX12_remake_9 : decode cX12_remake 9 = .ok (.invokestatic 77, 3) := by decide +kernel
theorem dX12_remake_12 : decode cX12_remake 12 = .ok (.ifCond .eq 16, 3) := by decide +kernel
theorem dX12_remake_15 : decode cX12_remake 15 = .ok (.aload_n 0, 1) := by decide +kernel
theorem dX12_remake_16 : decode cX12_remake 16 = .ok (.iload_n 1, 1) := by decide +kernel
theorem dX12_remake_17 : decode cX12_remake 17 = .ok (.iconst 0, 1) := by decide +kernel
theorem dX12_remake_18 : decode cX12_remake 18 = .ok (.invokestatic 68, 3) := by decide +kernel
theorem dX12_remake_21 : decode cX12_remake 21 = .ok (.iload_n 2, 1) := by decide +kernel
theorem dX12_remake_22 : decode cX12_remake 22 = .ok (.invokevirtual 111, 3) := by decide +kernel
theorem dX12_remake_25 : decode cX12_remake 25 = .ok (.goto 4, 3) := by decide +kernel
theorem dX12_remake_28 : decode cX12_remake 28 = .ok (.iconst (-1), 1) := by decide +kernel
theorem dX12_remake_29 : decode cX12_remake 29 = .ok (.ireturn, 1) := by decide +kernel
def f12_remake_b29  (a1 : Int32) (a2 : Int32) (s0 : Int32) (m : lu_M) : Option (Int32 × lu_M) :=
  some (s0, m)
set_option maxRecDepth 20000 in
theorem w12_remake_b29  {G : lu_G} {ρ : Nat → Nat} {a1 : Int32} {a2 : Int32}  (X : lu_X G RX12 cX12_remake 3 2 46) (hret : (lu_me G).sig.returnType = (some .int))   : ∀ (s0 : Int32) (m : lu_M), lu_Ab lu_TM G (lu_Q lu_TM G ρ lu_RVi lu_sn) (f12_remake_b29 a1 a2 s0 m) 29 [] [.int s0] ρ 0 0 [] m := by
  intro s0 m
  unfold f12_remake_b29
  exact lu_iret X hret dX12_remake_29
def f12_remake_b28  (a1 : Int32) (a2 : Int32)  (m : lu_M) : Option (Int32 × lu_M) :=
  f12_remake_b29 a1 a2 (-1 : Int32) m
set_option maxRecDepth 20000 in
theorem w12_remake_b28  {G : lu_G} {ρ : Nat → Nat} {a1 : Int32} {a2 : Int32}  (X : lu_X G RX12 cX12_remake 3 2 46) (hret : (lu_me G).sig.returnType = (some .int))   : ∀  (m : lu_M), lu_Ab lu_TM G (lu_Q lu_TM G ρ lu_RVi lu_sn) (f12_remake_b28 a1 a2 m) 28 [] [] ρ 0 0 [] m := by
  intro  m
  unfold f12_remake_b28
  refine lu_iconst X dX12_remake_28 (pc2 := 29) rfl ic_m1 ?_
  exact w12_remake_b29 X hret (-1 : Int32) m
def f12_remake (a1 : Int32) (a2 : Int32) (m : lu_M) : Option (Int32 × lu_M) :=
  lu_bi (f12_isPerson a1 m) fun x1 m2 =>
  if x1 = 0 then (f12_remake_b28 a1 a2 m2)
  else (lu_bi (f12_isKind a2 m2) fun x3 m4 =>
  if x3 = 0 then (f12_remake_b28 a1 a2 m4)
  else (lu_bi (f12_at a1 (0 : Int32) m4) fun x5 m6 =>
  lu_bi (f12_becomes x5 a2 m6) fun x7 m8 =>
  f12_remake_b29 a1 a2 x7 m8))
set_option maxRecDepth 20000 in
theorem c12_remake (l : Launch)   (a1 : Int32) (a2 : Int32) : lu_C lu_TM l yX12_remake cX12_remake 3 (some .int) 2 46 (fun ρ sa => [.ref (ρ 0), .int a1, .int a2]) (f12_remake a1 a2) lu_RVi lu_sn := by
  refine lu_met (cls := RX12) rfl (by decide +kernel) (fun _ _ => Nat.le_of_ble_eq_true rfl) ?_
  intro G ρ m hl X hret
  subst hl
  change lu_Ab lu_TM G (lu_Q lu_TM G ρ lu_RVi lu_sn) (f12_remake a1 a2 m) 0 [(0, .ref (ρ 0)), (1, .int a1), (2, .int a2)] [] ρ 0 0 [] m
  unfold f12_remake
  refine lu_aload_n X dX12_remake_0 (pc2 := 1) rfl rfl 0 rfl ?_
  refine lu_iload_n X dX12_remake_1 (pc2 := 2) rfl rfl 1 rfl ?_
  refine lu_invVi X (c12_isPerson _ a1) rfl q1272 mvV_12_isPerson kM_0 lM_0 (by decide) ⟨_, rfl, rfl⟩ rfl rfl (Nat.le_of_ble_eq_true rfl) (Nat.le_of_ble_eq_true rfl) (Nat.le_of_ble_eq_true rfl) ⟨Nat.zero_le _, Nat.zero_le _⟩ dX12_remake_2 (pc2 := 5) rfl rfl (fun x1 m2 => ?_)
  refine lu_if_eq (tgt := 28) X dX12_remake_5 (pc2 := 8) rfl (by decide) (fun _ => ?_) (fun _ => ?_)
  · exact lu_sub [] rfl (w12_remake_b28 X hret m2)
  · refine lu_iload_n X dX12_remake_8 (pc2 := 9) rfl rfl 2 rfl ?_
    refine lu_invSi X (c12_isKind _ a2) rfl q1257 mvS_12_isKind rfl rfl (Nat.le_of_ble_eq_true rfl) (Nat.le_of_ble_eq_true rfl) (Nat.le_of_ble_eq_true rfl) ⟨Nat.zero_le _, Nat.zero_le _⟩ dX12_remake_9 (pc2 := 12) rfl rfl (fun x3 m4 => ?_)
    refine lu_if_eq (tgt := 28) X dX12_remake_12 (pc2 := 15) rfl (by decide) (fun _ => ?_) (fun _ => ?_)
    · exact lu_sub [] rfl (w12_remake_b28 X hret m4)
    · refine lu_aload_n X dX12_remake_15 (pc2 := 16) rfl rfl 0 rfl ?_
      refine lu_iload_n X dX12_remake_16 (pc2 := 17) rfl rfl 1 rfl ?_
      refine lu_iconst X dX12_remake_17 (pc2 := 18) rfl ic_0 ?_
      refine lu_invSi X (c12_at _ a1 (0 : Int32)) rfl q1265 mvS_12_at rfl rfl (Nat.le_of_ble_eq_true rfl) (Nat.le_of_ble_eq_true rfl) (Nat.le_of_ble_eq_true rfl) ⟨Nat.zero_le _, Nat.zero_le _⟩ dX12_remake_18 (pc2 := 21) rfl rfl (fun x5 m6 => ?_)
      refine lu_iload_n X dX12_remake_21 (pc2 := 22) rfl rfl 2 rfl ?_
      refine lu_invVi X (c12_becomes _ x5 a2) rfl q1328 mvV_12_becomes kM_0 lM_0 (by decide) ⟨_, rfl, rfl⟩ rfl rfl (Nat.le_of_ble_eq_true rfl) (Nat.le_of_ble_eq_true rfl) (Nat.le_of_ble_eq_true rfl) ⟨Nat.zero_le _, Nat.zero_le _⟩ dX12_remake_22 (pc2 := 25) rfl rfl (fun x7 m8 => ?_)
      refine lu_goto (tgt := 29) X dX12_remake_25 (by decide) ?_
      exact lu_sub [] rfl (w12_remake_b29 X hret x7 m8)

theorem dX12_deed_0 : decode cX12_deed 0 = .ok (.aload_n 0, 1) := by decide +kernel
theorem dX12_deed_1 : decode cX12_deed 1 = .ok (.iload_n 1, 1) := by decide +kernel
theorem dX12_deed_2 : decode cX12_deed 2 = .ok (.invokevirtual 96, 3) := by decide +kernel
theorem dX12_deed_5 : decode cX12_deed 5 = .ok (.ifCond .eq 42, 3) := by decide +kernel
theorem dX12_deed_8 : decode cX12_deed 8 = .ok (.iload_n 2, 1) := by decide +kernel
theorem dX12_deed_9 : decode cX12_deed 9 = .ok (.i2l, 1) := by decide +kernel
theorem dX12_deed_10 : decode cX12_deed 10 = .ok (.lconst 0, 1) := by decide +kernel
theorem dX12_deed_11 : decode cX12_deed 11 = .ok (.ldc2_w 114, 3) := by decide +kernel
theorem dX12_deed_14 : decode cX12_deed 14 = .ok (.invokestatic 64, 3) := by decide +kernel
theorem dX12_deed_17 : decode cX12_deed 17 = .ok (.ifCond .eq 30, 3) := by decide +kernel
theorem dX12_deed_20 : decode cX12_deed 20 = .ok (.iload_n 3, 1) := by decide +kernel
theorem dX12_deed_21 : decode cX12_deed 21 = .ok (.i2l, 1) := by decide +kernel
theorem dX12_deed_22 : decode cX12_deed 22 = .ok (.lconst 1, 1) := by decide +kernel
theorem dX12_deed_23 : decode cX12_deed 23 = .ok (.ldc2_w 81, 3) := by decide +kernel
theorem dX12_deed_26 : decode cX12_deed 26 = .ok (.invokestatic 64, 3) := by decide +kernel
theorem dX12_deed_29 : decode cX12_deed 29 = .ok (.ifCond .eq 18, 3) := by decide +kernel
theorem dX12_deed_32 : decode cX12_deed 32 = .ok (.iload 4, 2) := by decide +kernel
theorem dX12_deed_34 : decode cX12_deed 34 = .ok (.iconst (-1), 1) := by decide +kernel
theorem dX12_deed_35 : decode cX12_deed 35 = .ok (.if_icmp .eq 14, 3) := by decide +kernel
theorem dX12_deed_38 : decode cX12_deed 38 = .ok (.aload_n 0, 1) := by decide +kernel
theorem dX12_deed_39 : decode cX12_deed 39 = .ok (.iload 4, 2) := by decide +kernel
theorem dX12_deed_41 : decode cX12_deed 41 = .ok (.invokevirtual 116, 3) := by decide +kernel
theorem dX12_deed_44 : decode cX12_deed 44 = .ok (.ifCond .ne 5, 3) := by decide +kernel
theorem dX12_deed_47 : decode cX12_deed 47 = .ok (.iconst (-1), 1) := by decide +kernel
theorem dX12_deed_48 : decode cX12_deed 48 = .ok (.ireturn, 1) := by decide +kernel
theorem dX12_deed_49 : decode cX12_deed 49 = .ok (.aload_n 0, 1) := by decide +kernel
theorem dX12_deed_50 : decode cX12_deed 50 = .ok (.getfield 7, 3) := by decide +kernel
theorem dX12_deed_53 : decode cX12_deed 53 = .ok (.iconst 5, 1) := by decide +kernel
theorem dX12_deed_54 : decode cX12_deed 54 = .ok (.iaload, 1) := by decide +kernel
theorem dX12_deed_55 : decode cX12_deed 55 = .ok (.bipush 10, 2) := by decide +kernel
theorem dX12_deed_57 : decode cX12_deed 57 = .ok (.if_icmp .ne 6, 3) := by decide +kernel
theorem dX12_deed_60 : decode cX12_deed 60 = .ok (.bipush (-2), 2) := by decide +kernel
theorem dX12_deed_62 : decode cX12_deed 62 = .ok (.ireturn, 1) := by decide +kernel
theorem dX12_deed_63 : decode cX12_deed 63 = .ok (.iload_n 2, 1) := by decide +kernel
theorem dX12_deed_64 : decode cX12_deed 64 = .ok (.aload_n 0, 1) := by decide +kernel
theorem dX12_deed_65 : decode cX12_deed 65 = .ok (.getfield 7, 3) := by decide +kernel
theorem dX12_deed_68 : decode cX12_deed 68 = .ok (.iconst 3, 1) := by decide +kernel
theorem dX12_deed_69 : decode cX12_deed 69 = .ok (.iaload, 1) := by decide +kernel
theorem dX12_deed_70 : decode cX12_deed 70 = .ok (.if_icmp .ge 6, 3) := by decide +kernel
theorem dX12_deed_73 : decode cX12_deed 73 = .ok (.bipush (-4), 2) := by decide +kernel
theorem dX12_deed_75 : decode cX12_deed 75 = .ok (.ireturn, 1) := by decide +kernel
theorem dX12_deed_76 : decode cX12_deed 76 = .ok (.aload_n 0, 1) := by decide +kernel
theorem dX12_deed_77 : decode cX12_deed 77 = .ok (.getfield 7, 3) := by decide +kernel
theorem dX12_deed_80 : decode cX12_deed 80 = .ok (.iconst 5, 1) := by decide +kernel
theorem dX12_deed_81 : decode cX12_deed 81 = .ok (.iaload, 1) := by decide +kernel
theorem dX12_deed_82 : decode cX12_deed 82 = .ok (.istore 5, 2) := by decide +kernel
theorem dX12_deed_84 : decode cX12_deed 84 = .ok (.aload_n 0, 1) := by decide +kernel
theorem dX12_deed_85 : decode cX12_deed 85 = .ok (.getfield 7, 3) := by decide +kernel
theorem dX12_deed_88 : decode cX12_deed 88 = .ok (.iload 5, 2) := by decide +kernel
theorem dX12_deed_90 : decode cX12_deed 90 = .ok (.iconst 0, 1) := by decide +kernel
theorem dX12_deed_91 : decode cX12_deed 91 = .ok (.invokestatic 72, 3) := by decide +kernel
theorem dX12_deed_94 : decode cX12_deed 94 = .ok (.iload_n 1, 1) := by decide +kernel
theorem dX12_deed_95 : decode cX12_deed 95 = .ok (.iastore, 1) := by decide +kernel
theorem dX12_deed_96 : decode cX12_deed 96 = .ok (.aload_n 0, 1) := by decide +kernel
theorem dX12_deed_97 : decode cX12_deed 97 = .ok (.getfield 7, 3) := by decide +kernel
theorem dX12_deed_100 : decode cX12_deed 100 = .ok (.iload 5, 2) := by decide +kernel
theorem dX12_deed_102 : decode cX12_deed 102 = .ok (.iconst 1, 1) := by decide +kernel
theorem dX12_deed_103 : decode cX12_deed 103 = .ok (.invokestatic 72, 3) := by decide +kernel
theorem dX12_deed_106 : decode cX12_deed 106 = .ok (.iload_n 2, 1) := by decide +kernel
theorem dX12_deed_107 : decode cX12_deed 107 = .ok (.iastore, 1) := by decide +kernel
theorem dX12_deed_108 : decode cX12_deed 108 = .ok (.aload_n 0, 1) := by decide +kernel
theorem dX12_deed_109 : decode cX12_deed 109 = .ok (.getfield 7, 3) := by decide +kernel
theorem dX12_deed_112 : decode cX12_deed 112 = .ok (.iload 5, 2) := by decide +kernel
theorem dX12_deed_114 : decode cX12_deed 114 = .ok (.iconst 2, 1) := by decide +kernel
theorem dX12_deed_115 : decode cX12_deed 115 = .ok (.invokestatic 72, 3) := by decide +kernel
theorem dX12_deed_118 : decode cX12_deed 118 = .ok (.iload_n 3, 1) := by decide +kernel
theorem dX12_deed_119 : decode cX12_deed 119 = .ok (.iastore, 1) := by decide +kernel
theorem dX12_deed_120 : decode cX12_deed 120 = .ok (.aload_n 0, 1) := by decide +kernel
theorem dX12_deed_121 : decode cX12_deed 121 = .ok (.getfield 7, 3) := by decide +kernel
theorem dX12_deed_124 : decode cX12_deed 124 = .ok (.iload 5, 2) := by decide +kernel
theorem dX12_deed_126 : decode cX12_deed 126 = .ok (.iconst 3, 1) := by decide +kernel
theorem dX12_deed_127 : decode cX12_deed 127 = .ok (.invokestatic 72, 3) := by decide +kernel
theorem dX12_deed_130 : decode cX12_deed 130 = .ok (.iload 4, 2) := by decide +kernel
theorem dX12_deed_132 : decode cX12_deed 132 = .ok (.iastore, 1) := by decide +kernel
theorem dX12_deed_133 : decode cX12_deed 133 = .ok (.aload_n 0, 1) := by decide +kernel
theorem dX12_deed_134 : decode cX12_deed 134 = .ok (.getfield 7, 3) := by decide +kernel
theorem dX12_deed_137 : decode cX12_deed 137 = .ok (.iload 5, 2) := by decide +kernel
theorem dX12_deed_139 : decode cX12_deed 139 = .ok (.iconst 4, 1) := by decide +kernel
theorem dX12_deed_140 : decode cX12_deed 140 = .ok (.invokestatic 72, 3) := by decide +kernel
theorem dX12_deed_143 : decode cX12_deed 143 = .ok (.iconst 0, 1) := by decide +kernel
theorem dX12_deed_144 : decode cX12_deed 144 = .ok (.iastore, 1) := by decide +kernel
theorem dX12_deed_145 : decode cX12_deed 145 = .ok (.aload_n 0, 1) := by decide +kernel
theorem dX12_deed_146 : decode cX12_deed 146 = .ok (.getfield 7, 3) := by decide +kernel
theorem dX12_deed_149 : decode cX12_deed 149 = .ok (.iconst 5, 1) := by decide +kernel
theorem dX12_deed_150 : decode cX12_deed 150 = .ok (.dup2, 1) := by decide +kernel
theorem dX12_deed_151 : decode cX12_deed 151 = .ok (.iaload, 1) := by decide +kernel
theorem dX12_deed_152 : decode cX12_deed 152 = .ok (.iconst 1, 1) := by decide +kernel
theorem dX12_deed_153 : decode cX12_deed 153 = .ok (.iadd, 1) := by decide +kernel
theorem dX12_deed_154 : decode cX12_deed 154 = .ok (.iastore, 1) := by decide +kernel
theorem dX12_deed_155 : decode cX12_deed 155 = .ok (.iload 5, 2) := by decide +kernel
theorem dX12_deed_157 : decode cX12_deed 157 = .ok (.ireturn, 1) := by decide +kernel
def f12_deed_b47  (a1 : Int32) (a2 : Int32) (a3 : Int32) (a4 : Int32)  (m : lu_M) : Option (Int32 × lu_M) :=
  some ((-1 : Int32), m)
set_option maxRecDepth 20000 in
theorem w12_deed_b47  {G : lu_G} {ρ : Nat → Nat} {a1 : Int32} {a2 : Int32} {a3 : Int32} {a4 : Int32}  (X : lu_X G RX12 cX12_deed 6 2 46) (hret : (lu_me G).sig.returnType = (some .int))   : ∀  (m : lu_M), lu_Ab lu_TM G (lu_Q lu_TM G ρ lu_RVi lu_sn) (f12_deed_b47 a1 a2 a3 a4 m) 47 [] [] ρ 0 0 [] m := by
  intro  m
  unfold f12_deed_b47
  refine lu_iconst X dX12_deed_47 (pc2 := 48) rfl ic_m1 ?_
  exact lu_iret X hret dX12_deed_48
def f12_deed_b49  (a1 : Int32) (a2 : Int32) (a3 : Int32) (a4 : Int32)  (m : lu_M) : Option (Int32 × lu_M) :=
  if (m 1 5) = (10 : Int32) then (some ((-2 : Int32), m))
  else (if (m 1 3) ≤ a2 then (lu_nm ((m 1 5)) fun x7 =>
  lu_bi (f12_spot x7 (0 : Int32) m) fun x8 m9 =>
  lu_gd (lu_ib x8 368) <|
  lu_nm (lu_st m9 1 x8.toNatClampNeg a1) fun m10 =>
  lu_bi (f12_spot x7 (1 : Int32) m10) fun x11 m12 =>
  lu_gd (lu_ib x11 368) <|
  lu_nm (lu_st m12 1 x11.toNatClampNeg a2) fun m13 =>
  lu_bi (f12_spot x7 (2 : Int32) m13) fun x14 m15 =>
  lu_gd (lu_ib x14 368) <|
  lu_nm (lu_st m15 1 x14.toNatClampNeg a3) fun m16 =>
  lu_bi (f12_spot x7 (3 : Int32) m16) fun x17 m18 =>
  lu_gd (lu_ib x17 368) <|
  lu_nm (lu_st m18 1 x17.toNatClampNeg a4) fun m19 =>
  lu_bi (f12_spot x7 (4 : Int32) m19) fun x20 m21 =>
  lu_gd (lu_ib x20 368) <|
  lu_nm (lu_st m21 1 x20.toNatClampNeg (0 : Int32)) fun m22 =>
  lu_nm (lu_st m22 1 5 ((m22 1 5) + (1 : Int32))) fun m23 =>
  some (x7, m23))
  else (some ((-4 : Int32), m)))
set_option maxRecDepth 20000 in
theorem w12_deed_b49  {G : lu_G} {ρ : Nat → Nat} {a1 : Int32} {a2 : Int32} {a3 : Int32} {a4 : Int32}  (X : lu_X G RX12 cX12_deed 6 2 46) (hret : (lu_me G).sig.returnType = (some .int))   : ∀  (m : lu_M), lu_Ab lu_TM G (lu_Q lu_TM G ρ lu_RVi lu_sn) (f12_deed_b49 a1 a2 a3 a4 m) 49 [(0, .ref (ρ 0)), (1, .int a1), (2, .int a2), (3, .int a3), (4, .int a4)] [] ρ 0 0 [] m := by
  intro  m
  unfold f12_deed_b49
  refine lu_aload_n X dX12_deed_49 (pc2 := 50) rfl rfl 0 rfl ?_
  refine lu_getr (r2 := 1) X rfl fl12_7 rfl kM_0 lM_0 dX12_deed_50 (pc2 := 53) rfl ?_
  refine lu_iconst X dX12_deed_53 (pc2 := 54) rfl ic_5 ?_
  refine lu_ialdK (q := 5) X (by decide) kM_1 lM_1 dX12_deed_54 (pc2 := 55) rfl ?_
  refine lu_bipush X dX12_deed_55 (pc2 := 57) rfl bp_10 ?_
  refine lu_icmp_ne (tgt := 63) X dX12_deed_57 (pc2 := 60) rfl (by decide) (fun _ => ?_) (fun _ => ?_)
  · refine lu_iload_n X dX12_deed_63 (pc2 := 64) rfl rfl 2 rfl ?_
    refine lu_aload_n X dX12_deed_64 (pc2 := 65) rfl rfl 0 rfl ?_
    refine lu_getr (r2 := 1) X rfl fl12_7 rfl kM_0 lM_0 dX12_deed_65 (pc2 := 68) rfl ?_
    refine lu_iconst X dX12_deed_68 (pc2 := 69) rfl ic_3 ?_
    refine lu_ialdK (q := 3) X (by decide) kM_1 lM_1 dX12_deed_69 (pc2 := 70) rfl ?_
    refine lu_icmp_ge (tgt := 76) X dX12_deed_70 (pc2 := 73) rfl (by decide) (fun _ => ?_) (fun _ => ?_)
    · refine lu_aload_n X dX12_deed_76 (pc2 := 77) rfl rfl 0 rfl ?_
      refine lu_getr (r2 := 1) X rfl fl12_7 rfl kM_0 lM_0 dX12_deed_77 (pc2 := 80) rfl ?_
      refine lu_iconst X dX12_deed_80 (pc2 := 81) rfl ic_5 ?_
      refine lu_ialdK (q := 5) X (by decide) kM_1 lM_1 dX12_deed_81 (pc2 := 82) rfl ?_
      refine lu_topi (fun x7 => ?_)
      refine lu_istore (lv2 := [(5, .int x7), (0, .ref (ρ 0)), (1, .int a1), (2, .int a2), (3, .int a3), (4, .int a4)]) X dX12_deed_82 (pc2 := 84) rfl (by decide) rfl ?_
      refine lu_aload_n X dX12_deed_84 (pc2 := 85) rfl rfl 1 rfl ?_
      refine lu_getr (r2 := 1) X rfl fl12_7 rfl kM_0 lM_0 dX12_deed_85 (pc2 := 88) rfl ?_
      refine lu_iload X dX12_deed_88 (pc2 := 90) rfl 0 rfl ?_
      refine lu_iconst X dX12_deed_90 (pc2 := 91) rfl ic_0 ?_
      refine lu_invSi X (c12_spot _ x7 (0 : Int32)) rfl q1288 mvS_12_spot rfl rfl (Nat.le_of_ble_eq_true rfl) (Nat.le_of_ble_eq_true rfl) (Nat.le_of_ble_eq_true rfl) ⟨Nat.zero_le _, Nat.zero_le _⟩ dX12_deed_91 (pc2 := 94) rfl rfl (fun x8 m9 => ?_)
      refine lu_iload_n X dX12_deed_94 (pc2 := 95) rfl rfl 2 rfl ?_
      refine lu_iast X kM_1 lM_1 dX12_deed_95 (pc2 := 96) rfl (fun m10 => ?_)
      refine lu_aload_n X dX12_deed_96 (pc2 := 97) rfl rfl 1 rfl ?_
      refine lu_getr (r2 := 1) X rfl fl12_7 rfl kM_0 lM_0 dX12_deed_97 (pc2 := 100) rfl ?_
      refine lu_iload X dX12_deed_100 (pc2 := 102) rfl 0 rfl ?_
      refine lu_iconst X dX12_deed_102 (pc2 := 103) rfl ic_1 ?_
      refine lu_invSi X (c12_spot _ x7 (1 : Int32)) rfl q1288 mvS_12_spot rfl rfl (Nat.le_of_ble_eq_true rfl) (Nat.le_of_ble_eq_true rfl) (Nat.le_of_ble_eq_true rfl) ⟨Nat.zero_le _, Nat.zero_le _⟩ dX12_deed_103 (pc2 := 106) rfl rfl (fun x11 m12 => ?_)
      refine lu_iload_n X dX12_deed_106 (pc2 := 107) rfl rfl 3 rfl ?_
      refine lu_iast X kM_1 lM_1 dX12_deed_107 (pc2 := 108) rfl (fun m13 => ?_)
      refine lu_aload_n X dX12_deed_108 (pc2 := 109) rfl rfl 1 rfl ?_
      refine lu_getr (r2 := 1) X rfl fl12_7 rfl kM_0 lM_0 dX12_deed_109 (pc2 := 112) rfl ?_
      refine lu_iload X dX12_deed_112 (pc2 := 114) rfl 0 rfl ?_
      refine lu_iconst X dX12_deed_114 (pc2 := 115) rfl ic_2 ?_
      refine lu_invSi X (c12_spot _ x7 (2 : Int32)) rfl q1288 mvS_12_spot rfl rfl (Nat.le_of_ble_eq_true rfl) (Nat.le_of_ble_eq_true rfl) (Nat.le_of_ble_eq_true rfl) ⟨Nat.zero_le _, Nat.zero_le _⟩ dX12_deed_115 (pc2 := 118) rfl rfl (fun x14 m15 => ?_)
      refine lu_iload_n X dX12_deed_118 (pc2 := 119) rfl rfl 4 rfl ?_
      refine lu_iast X kM_1 lM_1 dX12_deed_119 (pc2 := 120) rfl (fun m16 => ?_)
      refine lu_aload_n X dX12_deed_120 (pc2 := 121) rfl rfl 1 rfl ?_
      refine lu_getr (r2 := 1) X rfl fl12_7 rfl kM_0 lM_0 dX12_deed_121 (pc2 := 124) rfl ?_
      refine lu_iload X dX12_deed_124 (pc2 := 126) rfl 0 rfl ?_
      refine lu_iconst X dX12_deed_126 (pc2 := 127) rfl ic_3 ?_
      refine lu_invSi X (c12_spot _ x7 (3 : Int32)) rfl q1288 mvS_12_spot rfl rfl (Nat.le_of_ble_eq_true rfl) (Nat.le_of_ble_eq_true rfl) (Nat.le_of_ble_eq_true rfl) ⟨Nat.zero_le _, Nat.zero_le _⟩ dX12_deed_127 (pc2 := 130) rfl rfl (fun x17 m18 => ?_)
      refine lu_iload X dX12_deed_130 (pc2 := 132) rfl 5 rfl ?_
      refine lu_iast X kM_1 lM_1 dX12_deed_132 (pc2 := 133) rfl (fun m19 => ?_)
      refine lu_aload_n X dX12_deed_133 (pc2 := 134) rfl rfl 1 rfl ?_
      refine lu_getr (r2 := 1) X rfl fl12_7 rfl kM_0 lM_0 dX12_deed_134 (pc2 := 137) rfl ?_
      refine lu_iload X dX12_deed_137 (pc2 := 139) rfl 0 rfl ?_
      refine lu_iconst X dX12_deed_139 (pc2 := 140) rfl ic_4 ?_
      refine lu_invSi X (c12_spot _ x7 (4 : Int32)) rfl q1288 mvS_12_spot rfl rfl (Nat.le_of_ble_eq_true rfl) (Nat.le_of_ble_eq_true rfl) (Nat.le_of_ble_eq_true rfl) ⟨Nat.zero_le _, Nat.zero_le _⟩ dX12_deed_140 (pc2 := 143) rfl rfl (fun x20 m21 => ?_)
      refine lu_iconst X dX12_deed_143 (pc2 := 144) rfl ic_0 ?_
      refine lu_iast X kM_1 lM_1 dX12_deed_144 (pc2 := 145) rfl (fun m22 => ?_)
      refine lu_aload_n X dX12_deed_145 (pc2 := 146) rfl rfl 1 rfl ?_
      refine lu_getr (r2 := 1) X rfl fl12_7 rfl kM_0 lM_0 dX12_deed_146 (pc2 := 149) rfl ?_
      refine lu_iconst X dX12_deed_149 (pc2 := 150) rfl ic_5 ?_
      refine lu_dup2 X dX12_deed_150 (pc2 := 151) rfl rfl rfl ?_
      refine lu_ialdK (q := 5) X (by decide) kM_1 lM_1 dX12_deed_151 (pc2 := 152) rfl ?_
      refine lu_iconst X dX12_deed_152 (pc2 := 153) rfl ic_1 ?_
      refine lu_iadd X dX12_deed_153 (pc2 := 154) rfl ?_
      refine lu_iastK (q := 5) X (by decide) kM_1 lM_1 dX12_deed_154 (pc2 := 155) rfl (fun m23 => ?_)
      refine lu_iload X dX12_deed_155 (pc2 := 157) rfl 0 rfl ?_
      exact lu_iret X hret dX12_deed_157
    · refine lu_bipush X dX12_deed_73 (pc2 := 75) rfl bp_m4 ?_
      exact lu_iret X hret dX12_deed_75
  · refine lu_bipush X dX12_deed_60 (pc2 := 62) rfl bp_m2 ?_
    exact lu_iret X hret dX12_deed_62
def f12_deed (a1 : Int32) (a2 : Int32) (a3 : Int32) (a4 : Int32) (m : lu_M) : Option (Int32 × lu_M) :=
  lu_bi (f12_isPerson a1 m) fun x1 m2 =>
  if x1 = 0 then (f12_deed_b47 a1 a2 a3 a4 m2)
  else (lu_bi (f12_in a2.toInt64 (0 : Int64) (15 : Int64) m2) fun x3 m4 =>
  if x3 = 0 then (f12_deed_b47 a1 a2 a3 a4 m4)
  else (lu_bi (f12_in a3.toInt64 (1 : Int64) (9 : Int64) m4) fun x5 m6 =>
  if x5 = 0 then (f12_deed_b47 a1 a2 a3 a4 m6)
  else (if a4 = (-1 : Int32) then (f12_deed_b49 a1 a2 a3 a4 m6)
  else (lu_bi (f12_isDeed a4 m6) fun x24 m25 =>
  if x24 = 0 then (f12_deed_b47 a1 a2 a3 a4 m25)
  else (f12_deed_b49 a1 a2 a3 a4 m25)))))
set_option maxRecDepth 20000 in
theorem c12_deed (l : Launch)   (a1 : Int32) (a2 : Int32) (a3 : Int32) (a4 : Int32) : lu_C lu_TM l yX12_deed cX12_deed 6 (some .int) 2 46 (fun ρ sa => [.ref (ρ 0), .int a1, .int a2, .int a3, .int a4]) (f12_deed a1 a2 a3 a4) lu_RVi lu_sn := by
  refine lu_met (cls := RX12) rfl (by decide +kernel) (fun _ _ => Nat.le_of_ble_eq_true rfl) ?_
  intro G ρ m hl X hret
  subst hl
  change lu_Ab lu_TM G (lu_Q lu_TM G ρ lu_RVi lu_sn) (f12_deed a1 a2 a3 a4 m) 0 [(0, .ref (ρ 0)), (1, .int a1), (2, .int a2), (3, .int a3), (4, .int a4)] [] ρ 0 0 [] m
  unfold f12_deed
  refine lu_aload_n X dX12_deed_0 (pc2 := 1) rfl rfl 0 rfl ?_
  refine lu_iload_n X dX12_deed_1 (pc2 := 2) rfl rfl 1 rfl ?_
  refine lu_invVi X (c12_isPerson _ a1) rfl q1272 mvV_12_isPerson kM_0 lM_0 (by decide) ⟨_, rfl, rfl⟩ rfl rfl (Nat.le_of_ble_eq_true rfl) (Nat.le_of_ble_eq_true rfl) (Nat.le_of_ble_eq_true rfl) ⟨Nat.zero_le _, Nat.zero_le _⟩ dX12_deed_2 (pc2 := 5) rfl rfl (fun x1 m2 => ?_)
  refine lu_if_eq (tgt := 47) X dX12_deed_5 (pc2 := 8) rfl (by decide) (fun _ => ?_) (fun _ => ?_)
  · exact lu_sub [] rfl (w12_deed_b47 X hret m2)
  · refine lu_iload_n X dX12_deed_8 (pc2 := 9) rfl rfl 2 rfl ?_
    refine lu_i2l X dX12_deed_9 (pc2 := 10) rfl ?_
    refine lu_lconst (v := (0 : Int64)) X dX12_deed_10 (pc2 := 11) rfl (by decide) ?_
    refine lu_ldc2 X q1340 dX12_deed_11 (pc2 := 14) rfl ?_
    refine lu_invSi X (c12_in _ a2.toInt64 (0 : Int64) (15 : Int64)) rfl q1261 mvS_12_in rfl rfl (Nat.le_of_ble_eq_true rfl) (Nat.le_of_ble_eq_true rfl) (Nat.le_of_ble_eq_true rfl) ⟨Nat.zero_le _, Nat.zero_le _⟩ dX12_deed_14 (pc2 := 17) rfl rfl (fun x3 m4 => ?_)
    refine lu_if_eq (tgt := 47) X dX12_deed_17 (pc2 := 20) rfl (by decide) (fun _ => ?_) (fun _ => ?_)
    · exact lu_sub [] rfl (w12_deed_b47 X hret m4)
    · refine lu_iload_n X dX12_deed_20 (pc2 := 21) rfl rfl 3 rfl ?_
      refine lu_i2l X dX12_deed_21 (pc2 := 22) rfl ?_
      refine lu_lconst (v := (1 : Int64)) X dX12_deed_22 (pc2 := 23) rfl (by decide) ?_
      refine lu_ldc2 X q1264 dX12_deed_23 (pc2 := 26) rfl ?_
      refine lu_invSi X (c12_in _ a3.toInt64 (1 : Int64) (9 : Int64)) rfl q1261 mvS_12_in rfl rfl (Nat.le_of_ble_eq_true rfl) (Nat.le_of_ble_eq_true rfl) (Nat.le_of_ble_eq_true rfl) ⟨Nat.zero_le _, Nat.zero_le _⟩ dX12_deed_26 (pc2 := 29) rfl rfl (fun x5 m6 => ?_)
      refine lu_if_eq (tgt := 47) X dX12_deed_29 (pc2 := 32) rfl (by decide) (fun _ => ?_) (fun _ => ?_)
      · exact lu_sub [] rfl (w12_deed_b47 X hret m6)
      · refine lu_iload X dX12_deed_32 (pc2 := 34) rfl 4 rfl ?_
        refine lu_iconst X dX12_deed_34 (pc2 := 35) rfl ic_m1 ?_
        refine lu_icmp_eq (tgt := 49) X dX12_deed_35 (pc2 := 38) rfl (by decide) (fun _ => ?_) (fun _ => ?_)
        · exact w12_deed_b49 X hret m6
        · refine lu_aload_n X dX12_deed_38 (pc2 := 39) rfl rfl 0 rfl ?_
          refine lu_iload X dX12_deed_39 (pc2 := 41) rfl 4 rfl ?_
          refine lu_invVi X (c12_isDeed _ a4) rfl q1341 mvV_12_isDeed kM_0 lM_0 (by decide) ⟨_, rfl, rfl⟩ rfl rfl (Nat.le_of_ble_eq_true rfl) (Nat.le_of_ble_eq_true rfl) (Nat.le_of_ble_eq_true rfl) ⟨Nat.zero_le _, Nat.zero_le _⟩ dX12_deed_41 (pc2 := 44) rfl rfl (fun x24 m25 => ?_)
          refine lu_if_ne (tgt := 49) X dX12_deed_44 (pc2 := 47) rfl (by decide) (fun _ => ?_) (fun _ => ?_)
          · exact w12_deed_b49 X hret m25
          · exact lu_sub [] rfl (w12_deed_b47 X hret m25)

/-! WALKS of methods (written by a program out of their instructions): functions of the memory, and contracts -/
theorem dX12_forget_0 : decode cX12_forget 0 = .ok (.aload_n 0, 1) := by decide +kernel
theorem dX12_forget_1 : decode cX12_forget 1 = .ok (.bipush 6, 2) := by decide +kernel
theorem dX12_forget_3 : decode cX12_forget 3 = .ok (.iconst 0, 1) := by decide +kernel
theorem dX12_forget_4 : decode cX12_forget 4 = .ok (.invokevirtual 111, 3) := by decide +kernel
theorem dX12_forget_7 : decode cX12_forget 7 = .ok (.ireturn, 1) := by decide +kernel
def f12_forget  (m : lu_M) : Option (Int32 × lu_M) :=
  lu_bi (f12_becomes (6 : Int32) (0 : Int32) m) fun x1 m2 =>
  some (x1, m2)
set_option maxRecDepth 20000 in
theorem c12_forget (l : Launch)    : lu_C lu_TM l yX12_forget cX12_forget 1 (some .int) 1 23 (fun ρ sa => [.ref (ρ 0)]) (f12_forget ) lu_RVi lu_sn := by
  refine lu_met (cls := RX12) rfl (by decide +kernel) (fun _ _ => Nat.le_of_ble_eq_true rfl) ?_
  intro G ρ m hl X hret
  subst hl
  change lu_Ab lu_TM G (lu_Q lu_TM G ρ lu_RVi lu_sn) (f12_forget  m) 0 [(0, .ref (ρ 0))] [] ρ 0 0 [] m
  unfold f12_forget
  refine lu_aload_n X dX12_forget_0 (pc2 := 1) rfl rfl 0 rfl ?_
  refine lu_bipush X dX12_forget_1 (pc2 := 3) rfl bp_6 ?_
  refine lu_iconst X dX12_forget_3 (pc2 := 4) rfl ic_0 ?_
  refine lu_invVi X (c12_becomes _ (6 : Int32) (0 : Int32)) rfl q1328 mvV_12_becomes kM_0 lM_0 (by decide) ⟨_, rfl, rfl⟩ rfl rfl (Nat.le_of_ble_eq_true rfl) (Nat.le_of_ble_eq_true rfl) (Nat.le_of_ble_eq_true rfl) ⟨Nat.zero_le _, Nat.zero_le _⟩ dX12_forget_4 (pc2 := 7) rfl rfl (fun x1 m2 => ?_)
  exact lu_iret X hret dX12_forget_7

theorem dX12_isSoBy_0 : decode cX12_isSoBy 0 = .ok (.bipush 112, 2) := by decide +kernel
theorem dX12_isSoBy_2 : decode cX12_isSoBy 2 = .ok (.iconst 4, 1) := by decide +kernel
theorem dX12_isSoBy_3 : decode cX12_isSoBy 3 = .ok (.iload_n 1, 1) := by decide +kernel
theorem dX12_isSoBy_4 : decode cX12_isSoBy 4 = .ok (.imul, 1) := by decide +kernel
theorem dX12_isSoBy_5 : decode cX12_isSoBy 5 = .ok (.iadd, 1) := by decide +kernel
theorem dX12_isSoBy_6 : decode cX12_isSoBy 6 = .ok (.istore 5, 2) := by decide +kernel
theorem dX12_isSoBy_8 : decode cX12_isSoBy 8 = .ok (.aload_n 0, 1) := by decide +kernel
theorem dX12_isSoBy_9 : decode cX12_isSoBy 9 = .ok (.getfield 7, 3) := by decide +kernel
theorem dX12_isSoBy_12 : decode cX12_isSoBy 12 = .ok (.iload 5, 2) := by decide +kernel
theorem dX12_isSoBy_14 : decode cX12_isSoBy 14 = .ok (.iconst 1, 1) := by decide +kernel
theorem dX12_isSoBy_15 : decode cX12_isSoBy 15 = .ok (.iadd, 1) := by decide +kernel
theorem dX12_isSoBy_16 : decode cX12_isSoBy 16 = .ok (.iaload, 1) := by decide +kernel
theorem dX12_isSoBy_17 : decode cX12_isSoBy 17 = .ok (.iload_n 2, 1) := by decide +kernel
theorem dX12_isSoBy_18 : decode cX12_isSoBy 18 = .ok (.iload_n 3, 1) := by decide +kernel
theorem dX12_isSoBy_19 : decode cX12_isSoBy 19 = .ok (.invokestatic 93, 3) := by decide +kernel
theorem dX12_isSoBy_22 : decode cX12_isSoBy 22 = .ok (.iadd, 1) := by decide +kernel
theorem dX12_isSoBy_23 : decode cX12_isSoBy 23 = .ok (.istore 6, 2) := by decide +kernel
theorem dX12_isSoBy_25 : decode cX12_isSoBy 25 = .ok (.iload 6, 2) := by decide +kernel
theorem dX12_isSoBy_27 : decode cX12_isSoBy 27 = .ok (.bipush 31, 2) := by decide +kernel
theorem dX12_isSoBy_29 : decode cX12_isSoBy 29 = .ok (.if_icmp .gt 27, 3) := by decide +kernel
theorem dX12_isSoBy_32 : decode cX12_isSoBy 32 = .ok (.iload_n 2, 1) := by decide +kernel
theorem dX12_isSoBy_33 : decode cX12_isSoBy 33 = .ok (.iload 4, 2) := by decide +kernel
theorem dX12_isSoBy_35 : decode cX12_isSoBy 35 = .ok (.iload 6, 2) := by decide +kernel
theorem dX12_isSoBy_37 : decode cX12_isSoBy 37 = .ok (.invokestatic 86, 3) := by decide +kernel
theorem dX12_isSoBy_40 : decode cX12_isSoBy 40 = .ok (.aload_n 0, 1) := by decide +kernel
theorem dX12_isSoBy_41 : decode cX12_isSoBy 41 = .ok (.getfield 7, 3) := by decide +kernel
theorem dX12_isSoBy_44 : decode cX12_isSoBy 44 = .ok (.iload 5, 2) := by decide +kernel
theorem dX12_isSoBy_46 : decode cX12_isSoBy 46 = .ok (.iaload, 1) := by decide +kernel
theorem dX12_isSoBy_47 : decode cX12_isSoBy 47 = .ok (.if_icmp .ge 9, 3) := by decide +kernel
theorem dX12_isSoBy_50 : decode cX12_isSoBy 50 = .ok (.iinc 6 1, 3) := by decide +kernel
theorem dX12_isSoBy_53 : decode cX12_isSoBy 53 = .ok (.goto (-28), 3) := by decide +kernel
theorem dX12_isSoBy_56 : decode cX12_isSoBy 56 = .ok (.iload 6, 2) := by decide +kernel
theorem dX12_isSoBy_58 : decode cX12_isSoBy 58 = .ok (.bipush 31, 2) := by decide +kernel
theorem dX12_isSoBy_60 : decode cX12_isSoBy 60 = .ok (.if_icmp .gt 21, 3) := by decide +kernel
theorem dX12_isSoBy_63 : decode cX12_isSoBy 63 = .ok (.iload 6, 2) := by decide +kernel
theorem dX12_isSoBy_65 : decode cX12_isSoBy 65 = .ok (.aload_n 0, 1) := by decide +kernel
theorem dX12_isSoBy_66 : decode cX12_isSoBy 66 = .ok (.getfield 7, 3) := by decide +kernel
theorem dX12_isSoBy_69 : decode cX12_isSoBy 69 = .ok (.iload 5, 2) := by decide +kernel
theorem dX12_isSoBy_71 : decode cX12_isSoBy 71 = .ok (.iconst 2, 1) := by decide +kernel
theorem dX12_isSoBy_72 : decode cX12_isSoBy 72 = .ok (.iadd, 1) := by decide +kernel
theorem dX12_isSoBy_73 : decode cX12_isSoBy 73 = .ok (.iaload, 1) := by decide +kernel
theorem dX12_isSoBy_74 : decode cX12_isSoBy 74 = .ok (.if_icmp .gt 7, 3) := by decide +kernel
theorem dX12_isSoBy_77 : decode cX12_isSoBy 77 = .ok (.iconst 1, 1) := by decide +kernel
theorem dX12_isSoBy_78 : decode cX12_isSoBy 78 = .ok (.goto 4, 3) := by decide +kernel
theorem dX12_isSoBy_81 : decode cX12_isSoBy 81 = .ok (.iconst 0, 1) := by decide +kernel
theorem dX12_isSoBy_82 : decode cX12_isSoBy 82 = .ok (.istore 7, 2) := by decide +kernel
theorem dX12_isSoBy_84 : decode cX12_isSoBy 84 = .ok (.iload 7, 2) := by decide +kernel
theorem dX12_isSoBy_86 : decode cX12_isSoBy 86 = .ok (.aload_n 0, 1) := by decide +kernel
theorem dX12_isSoBy_87 : decode cX12_isSoBy 87 = .ok (.getfield 7, 3) := by decide +kernel
theorem dX12_isSoBy_90 : decode cX12_isSoBy 90 = .ok (.iload 5, 2) := by decide +kernel
theorem dX12_isSoBy_92 : decode cX12_isSoBy 92 = .ok (.iconst 3, 1) := by decide +kernel
theorem dX12_isSoBy_93 : decode cX12_isSoBy 93 = .ok (.iadd, 1) := by decide +kernel
theorem dX12_isSoBy_94 : decode cX12_isSoBy 94 = .ok (.iaload, 1) := by decide +kernel
theorem dX12_isSoBy_95 : decode cX12_isSoBy 95 = .ok (.iconst 1, 1) := by decide +kernel
theorem dX12_isSoBy_96 : decode cX12_isSoBy 96 = .ok (.if_icmp .ne 7, 3) := by decide +kernel
theorem dX12_isSoBy_99 : decode cX12_isSoBy 99 = .ok (.iconst 1, 1) := by decide +kernel
theorem dX12_isSoBy_100 : decode cX12_isSoBy 100 = .ok (.goto 4, 3) := by decide +kernel
theorem dX12_isSoBy_103 : decode cX12_isSoBy 103 = .ok (.iconst 0, 1) := by decide +kernel
theorem dX12_isSoBy_104 : decode cX12_isSoBy 104 = .ok (.if_icmp .ne 7, 3) := by decide +kernel
theorem dX12_isSoBy_107 : decode cX12_isSoBy 107 = .ok (.iconst 1, 1) := by decide +kernel
theorem dX12_isSoBy_108 : decode cX12_isSoBy 108 = .ok (.goto 4, 3) := by decide +kernel
theorem dX12_isSoBy_111 : decode cX12_isSoBy 111 = .ok (.iconst 0, 1) := by decide +kernel
theorem dX12_isSoBy_112 : decode cX12_isSoBy 112 = .ok (.ireturn, 1) := by decide +kernel
def f12_isSoBy_b25B (K56 : Int32 → Int32 → lu_M → Option (Int32 × lu_M)) (rec : Int32 → Int32 → lu_M → Option (Int32 × lu_M)) (a1 : Int32) (a2 : Int32) (a3 : Int32) (a4 : Int32) (v5 : Int32) (v6 : Int32) (m : lu_M) : Option (Int32 × lu_M) :=
  if (31 : Int32) < v6 then (K56 v5 v6 m)
  else (lu_bi (f12_pullOf a2 a4 v6 m) fun x5 m6 =>
  lu_gd (lu_ib v5 368) <|
  if (m6 1 v5.toNatClampNeg) ≤ x5 then (K56 v5 v6 m6)
  else (rec v5 (v6 + (1 : Int32)) m6))
def f12_isSoBy_b25 (K56 : Int32 → Int32 → lu_M → Option (Int32 × lu_M)) (a1 : Int32) (a2 : Int32) (a3 : Int32) (a4 : Int32) : Nat → Int32 → Int32 → lu_M → Option (Int32 × lu_M)
  | 0, _, _, _ => none
  | n + 1, v5, v6, m => f12_isSoBy_b25B K56 (f12_isSoBy_b25 K56 a1 a2 a3 a4 n) a1 a2 a3 a4 v5 v6 m
set_option maxRecDepth 20000 in
theorem w12_isSoBy_b25B  {G : lu_G} {ρ : Nat → Nat} {a1 : Int32} {a2 : Int32} {a3 : Int32} {a4 : Int32} {K56 : Int32 → Int32 → lu_M → Option (Int32 × lu_M)} {rec : Int32 → Int32 → lu_M → Option (Int32 × lu_M)} (X : lu_X G RX12 cX12_isSoBy 8 1 22) (hret : (lu_me G).sig.returnType = (some .boolean))  (hK56 : ∀ (v5 : Int32) (v6 : Int32) (m : lu_M), lu_Ab lu_TM G (lu_Q lu_TM G ρ lu_RVi lu_sn) (K56 v5 v6 m) 56 [(0, .ref (ρ 0)), (5, .int v5), (6, .int v6)] [] ρ 0 0 [] m) (hrec : ∀ (v5 : Int32) (v6 : Int32) (m : lu_M), lu_Ab lu_TM G (lu_Q lu_TM G ρ lu_RVi lu_sn) (rec v5 v6 m) 25 [(0, .ref (ρ 0)), (2, .int a2), (4, .int a4), (5, .int v5), (6, .int v6)] [] ρ 0 0 [] m) : ∀ (v5 : Int32) (v6 : Int32) (m : lu_M), lu_Ab lu_TM G (lu_Q lu_TM G ρ lu_RVi lu_sn) (f12_isSoBy_b25B K56 rec a1 a2 a3 a4 v5 v6 m) 25 [(0, .ref (ρ 0)), (2, .int a2), (4, .int a4), (5, .int v5), (6, .int v6)] [] ρ 0 0 [] m := by
  intro v5 v6 m
  unfold f12_isSoBy_b25B
  refine lu_iload X dX12_isSoBy_25 (pc2 := 27) rfl 4 rfl ?_
  refine lu_bipush X dX12_isSoBy_27 (pc2 := 29) rfl bp_31 ?_
  refine lu_icmp_gt (tgt := 56) X dX12_isSoBy_29 (pc2 := 32) rfl (by decide) (fun _ => ?_) (fun _ => ?_)
  · exact lu_sub [0, 3, 4] rfl (hK56 v5 v6 m)
  · refine lu_iload_n X dX12_isSoBy_32 (pc2 := 33) rfl rfl 1 rfl ?_
    refine lu_iload X dX12_isSoBy_33 (pc2 := 35) rfl 2 rfl ?_
    refine lu_iload X dX12_isSoBy_35 (pc2 := 37) rfl 4 rfl ?_
    refine lu_invSi X (c12_pullOf _ a2 a4 v6) rfl q1295 mvS_12_pullOf rfl rfl (Nat.le_of_ble_eq_true rfl) (Nat.le_of_ble_eq_true rfl) (Nat.le_of_ble_eq_true rfl) ⟨Nat.zero_le _, Nat.zero_le _⟩ dX12_isSoBy_37 (pc2 := 40) rfl rfl (fun x5 m6 => ?_)
    refine lu_aload_n X dX12_isSoBy_40 (pc2 := 41) rfl rfl 0 rfl ?_
    refine lu_getr (r2 := 1) X rfl fl12_7 rfl kM_0 lM_0 dX12_isSoBy_41 (pc2 := 44) rfl ?_
    refine lu_iload X dX12_isSoBy_44 (pc2 := 46) rfl 3 rfl ?_
    refine lu_iald X kM_1 lM_1 dX12_isSoBy_46 (pc2 := 47) rfl ?_
    refine lu_icmp_ge (tgt := 56) X dX12_isSoBy_47 (pc2 := 50) rfl (by decide) (fun _ => ?_) (fun _ => ?_)
    · exact lu_sub [0, 3, 4] rfl (hK56 v5 v6 m6)
    · refine lu_iinc (lv2 := [(6, .int (v6 + (1 : Int32))), (0, .ref (ρ 0)), (2, .int a2), (4, .int a4), (5, .int v5)]) X dX12_isSoBy_50 (pc2 := 53) rfl 4 rfl (lu_ii _ ic_1) (by decide) rfl ?_
      refine lu_goto (tgt := 25) X dX12_isSoBy_53 (by decide) ?_
      exact lu_sub [1, 2, 3, 4, 0] rfl (hrec v5 (v6 + (1 : Int32)) m6)
theorem w12_isSoBy_b25  {G : lu_G} {ρ : Nat → Nat} {a1 : Int32} {a2 : Int32} {a3 : Int32} {a4 : Int32} {K56 : Int32 → Int32 → lu_M → Option (Int32 × lu_M)} (X : lu_X G RX12 cX12_isSoBy 8 1 22) (hret : (lu_me G).sig.returnType = (some .boolean))  (hK56 : ∀ (v5 : Int32) (v6 : Int32) (m : lu_M), lu_Ab lu_TM G (lu_Q lu_TM G ρ lu_RVi lu_sn) (K56 v5 v6 m) 56 [(0, .ref (ρ 0)), (5, .int v5), (6, .int v6)] [] ρ 0 0 [] m) : ∀ (n : Nat) (v5 : Int32) (v6 : Int32) (m : lu_M), lu_Ab lu_TM G (lu_Q lu_TM G ρ lu_RVi lu_sn) (f12_isSoBy_b25 K56 a1 a2 a3 a4 n v5 v6 m) 25 [(0, .ref (ρ 0)), (2, .int a2), (4, .int a4), (5, .int v5), (6, .int v6)] [] ρ 0 0 [] m := by
  intro n
  induction n with
  | zero => intro v5 v6 m; exact lu_none
  | succ n ih => intro v5 v6 m; exact w12_isSoBy_b25B X hret hK56 ih v5 v6 m
def f12_isSoBy_b112  (a1 : Int32) (a2 : Int32) (a3 : Int32) (a4 : Int32) (s0 : Int32) (m : lu_M) : Option (Int32 × lu_M) :=
  lu_gd (decide (s0 = 0 ∨ s0 = 1)) (some (s0, m))
set_option maxRecDepth 20000 in
theorem w12_isSoBy_b112  {G : lu_G} {ρ : Nat → Nat} {a1 : Int32} {a2 : Int32} {a3 : Int32} {a4 : Int32}  (X : lu_X G RX12 cX12_isSoBy 8 1 22) (hret : (lu_me G).sig.returnType = (some .boolean))   : ∀ (s0 : Int32) (m : lu_M), lu_Ab lu_TM G (lu_Q lu_TM G ρ lu_RVi lu_sn) (f12_isSoBy_b112 a1 a2 a3 a4 s0 m) 112 [] [.int s0] ρ 0 0 [] m := by
  intro s0 m
  unfold f12_isSoBy_b112
  exact lu_zretG X hret dX12_isSoBy_112
def f12_isSoBy_b104  (a1 : Int32) (a2 : Int32) (a3 : Int32) (a4 : Int32) (s0 : Int32) (s1 : Int32) (m : lu_M) : Option (Int32 × lu_M) :=
  if s1 = s0 then (f12_isSoBy_b112 a1 a2 a3 a4 (1 : Int32) m)
  else (f12_isSoBy_b112 a1 a2 a3 a4 (0 : Int32) m)
set_option maxRecDepth 20000 in
theorem w12_isSoBy_b104  {G : lu_G} {ρ : Nat → Nat} {a1 : Int32} {a2 : Int32} {a3 : Int32} {a4 : Int32}  (X : lu_X G RX12 cX12_isSoBy 8 1 22) (hret : (lu_me G).sig.returnType = (some .boolean))   : ∀ (s0 : Int32) (s1 : Int32) (m : lu_M), lu_Ab lu_TM G (lu_Q lu_TM G ρ lu_RVi lu_sn) (f12_isSoBy_b104 a1 a2 a3 a4 s0 s1 m) 104 [] [.int s0, .int s1] ρ 0 0 [] m := by
  intro s0 s1 m
  unfold f12_isSoBy_b104
  refine lu_icmp_ne (tgt := 111) X dX12_isSoBy_104 (pc2 := 107) rfl (by decide) (fun _ => ?_) (fun _ => ?_)
  · refine lu_iconst X dX12_isSoBy_111 (pc2 := 112) rfl ic_0 ?_
    exact w12_isSoBy_b112 X hret (0 : Int32) m
  · refine lu_iconst X dX12_isSoBy_107 (pc2 := 108) rfl ic_1 ?_
    refine lu_goto (tgt := 112) X dX12_isSoBy_108 (by decide) ?_
    exact w12_isSoBy_b112 X hret (1 : Int32) m
def f12_isSoBy_b82  (a1 : Int32) (a2 : Int32) (a3 : Int32) (a4 : Int32) (v5 : Int32) (s0 : Int32) (m : lu_M) : Option (Int32 × lu_M) :=
  lu_gd (lu_ib (v5 + (3 : Int32)) 368) <|
  if (m 1 (v5 + (3 : Int32)).toNatClampNeg) = (1 : Int32) then (f12_isSoBy_b104 a1 a2 a3 a4 (1 : Int32) s0 m)
  else (f12_isSoBy_b104 a1 a2 a3 a4 (0 : Int32) s0 m)
set_option maxRecDepth 20000 in
theorem w12_isSoBy_b82  {G : lu_G} {ρ : Nat → Nat} {a1 : Int32} {a2 : Int32} {a3 : Int32} {a4 : Int32}  (X : lu_X G RX12 cX12_isSoBy 8 1 22) (hret : (lu_me G).sig.returnType = (some .boolean))   : ∀ (v5 : Int32) (s0 : Int32) (m : lu_M), lu_Ab lu_TM G (lu_Q lu_TM G ρ lu_RVi lu_sn) (f12_isSoBy_b82 a1 a2 a3 a4 v5 s0 m) 82 [(0, .ref (ρ 0)), (5, .int v5)] [.int s0] ρ 0 0 [] m := by
  intro v5 s0 m
  unfold f12_isSoBy_b82
  refine lu_istore (lv2 := [(7, .int s0), (0, .ref (ρ 0)), (5, .int v5)]) X dX12_isSoBy_82 (pc2 := 84) rfl (by decide) rfl ?_
  refine lu_iload X dX12_isSoBy_84 (pc2 := 86) rfl 0 rfl ?_
  refine lu_aload_n X dX12_isSoBy_86 (pc2 := 87) rfl rfl 1 rfl ?_
  refine lu_getr (r2 := 1) X rfl fl12_7 rfl kM_0 lM_0 dX12_isSoBy_87 (pc2 := 90) rfl ?_
  refine lu_iload X dX12_isSoBy_90 (pc2 := 92) rfl 2 rfl ?_
  refine lu_iconst X dX12_isSoBy_92 (pc2 := 93) rfl ic_3 ?_
  refine lu_iadd X dX12_isSoBy_93 (pc2 := 94) rfl ?_
  refine lu_iald X kM_1 lM_1 dX12_isSoBy_94 (pc2 := 95) rfl ?_
  refine lu_iconst X dX12_isSoBy_95 (pc2 := 96) rfl ic_1 ?_
  refine lu_icmp_ne (tgt := 103) X dX12_isSoBy_96 (pc2 := 99) rfl (by decide) (fun _ => ?_) (fun _ => ?_)
  · refine lu_iconst X dX12_isSoBy_103 (pc2 := 104) rfl ic_0 ?_
    exact lu_sub [] rfl (w12_isSoBy_b104 X hret (0 : Int32) s0 m)
  · refine lu_iconst X dX12_isSoBy_99 (pc2 := 100) rfl ic_1 ?_
    refine lu_goto (tgt := 104) X dX12_isSoBy_100 (by decide) ?_
    exact lu_sub [] rfl (w12_isSoBy_b104 X hret (1 : Int32) s0 m)
def f12_isSoBy_b81  (a1 : Int32) (a2 : Int32) (a3 : Int32) (a4 : Int32) (v5 : Int32) (m : lu_M) : Option (Int32 × lu_M) :=
  f12_isSoBy_b82 a1 a2 a3 a4 v5 (0 : Int32) m
set_option maxRecDepth 20000 in
theorem w12_isSoBy_b81  {G : lu_G} {ρ : Nat → Nat} {a1 : Int32} {a2 : Int32} {a3 : Int32} {a4 : Int32}  (X : lu_X G RX12 cX12_isSoBy 8 1 22) (hret : (lu_me G).sig.returnType = (some .boolean))   : ∀ (v5 : Int32) (m : lu_M), lu_Ab lu_TM G (lu_Q lu_TM G ρ lu_RVi lu_sn) (f12_isSoBy_b81 a1 a2 a3 a4 v5 m) 81 [(0, .ref (ρ 0)), (5, .int v5)] [] ρ 0 0 [] m := by
  intro v5 m
  unfold f12_isSoBy_b81
  refine lu_iconst X dX12_isSoBy_81 (pc2 := 82) rfl ic_0 ?_
  exact w12_isSoBy_b82 X hret v5 (0 : Int32) m
def f12_isSoBy_b56  (a1 : Int32) (a2 : Int32) (a3 : Int32) (a4 : Int32) (v5 : Int32) (v6 : Int32) (m : lu_M) : Option (Int32 × lu_M) :=
  if (31 : Int32) < v6 then (f12_isSoBy_b81 a1 a2 a3 a4 v5 m)
  else (lu_gd (lu_ib (v5 + (2 : Int32)) 368) <|
  if (m 1 (v5 + (2 : Int32)).toNatClampNeg) < v6 then (f12_isSoBy_b81 a1 a2 a3 a4 v5 m)
  else (f12_isSoBy_b82 a1 a2 a3 a4 v5 (1 : Int32) m))
set_option maxRecDepth 20000 in
theorem w12_isSoBy_b56  {G : lu_G} {ρ : Nat → Nat} {a1 : Int32} {a2 : Int32} {a3 : Int32} {a4 : Int32}  (X : lu_X G RX12 cX12_isSoBy 8 1 22) (hret : (lu_me G).sig.returnType = (some .boolean))   : ∀ (v5 : Int32) (v6 : Int32) (m : lu_M), lu_Ab lu_TM G (lu_Q lu_TM G ρ lu_RVi lu_sn) (f12_isSoBy_b56 a1 a2 a3 a4 v5 v6 m) 56 [(0, .ref (ρ 0)), (5, .int v5), (6, .int v6)] [] ρ 0 0 [] m := by
  intro v5 v6 m
  unfold f12_isSoBy_b56
  refine lu_iload X dX12_isSoBy_56 (pc2 := 58) rfl 2 rfl ?_
  refine lu_bipush X dX12_isSoBy_58 (pc2 := 60) rfl bp_31 ?_
  refine lu_icmp_gt (tgt := 81) X dX12_isSoBy_60 (pc2 := 63) rfl (by decide) (fun _ => ?_) (fun _ => ?_)
  · exact lu_sub [0, 1] rfl (w12_isSoBy_b81 X hret v5 m)
  · refine lu_iload X dX12_isSoBy_63 (pc2 := 65) rfl 2 rfl ?_
    refine lu_aload_n X dX12_isSoBy_65 (pc2 := 66) rfl rfl 0 rfl ?_
    refine lu_getr (r2 := 1) X rfl fl12_7 rfl kM_0 lM_0 dX12_isSoBy_66 (pc2 := 69) rfl ?_
    refine lu_iload X dX12_isSoBy_69 (pc2 := 71) rfl 1 rfl ?_
    refine lu_iconst X dX12_isSoBy_71 (pc2 := 72) rfl ic_2 ?_
    refine lu_iadd X dX12_isSoBy_72 (pc2 := 73) rfl ?_
    refine lu_iald X kM_1 lM_1 dX12_isSoBy_73 (pc2 := 74) rfl ?_
    refine lu_icmp_gt (tgt := 81) X dX12_isSoBy_74 (pc2 := 77) rfl (by decide) (fun _ => ?_) (fun _ => ?_)
    · exact lu_sub [0, 1] rfl (w12_isSoBy_b81 X hret v5 m)
    · refine lu_iconst X dX12_isSoBy_77 (pc2 := 78) rfl ic_1 ?_
      refine lu_goto (tgt := 82) X dX12_isSoBy_78 (by decide) ?_
      exact lu_sub [0, 1] rfl (w12_isSoBy_b82 X hret v5 (1 : Int32) m)
def f12_isSoBy (a1 : Int32) (a2 : Int32) (a3 : Int32) (a4 : Int32) (m : lu_M) : Option (Int32 × lu_M) :=
  lu_nm (((112 : Int32) + ((4 : Int32) * a1))) fun x1 =>
  lu_gd (lu_ib (x1 + (1 : Int32)) 368) <|
  lu_bi (f12_termOf a2 a3 m) fun x2 m3 =>
  lu_nm (((m 1 (x1 + (1 : Int32)).toNatClampNeg) + x2)) fun x4 =>
  f12_isSoBy_b25 (f12_isSoBy_b56 a1 a2 a3 a4) a1 a2 a3 a4 lu_fu x1 x4 m3
set_option maxRecDepth 20000 in
theorem c12_isSoBy (l : Launch)   (a1 : Int32) (a2 : Int32) (a3 : Int32) (a4 : Int32) : lu_C lu_TM l yX12_isSoBy cX12_isSoBy 8 (some .boolean) 1 22 (fun ρ sa => [.ref (ρ 0), .int a1, .int a2, .int a3, .int a4]) (f12_isSoBy a1 a2 a3 a4) lu_RVi lu_sn := by
  refine lu_met (cls := RX12) rfl (by decide +kernel) (fun _ _ => Nat.le_of_ble_eq_true rfl) ?_
  intro G ρ m hl X hret
  subst hl
  change lu_Ab lu_TM G (lu_Q lu_TM G ρ lu_RVi lu_sn) (f12_isSoBy a1 a2 a3 a4 m) 0 [(0, .ref (ρ 0)), (1, .int a1), (2, .int a2), (3, .int a3), (4, .int a4)] [] ρ 0 0 [] m
  unfold f12_isSoBy
  refine lu_bipush X dX12_isSoBy_0 (pc2 := 2) rfl bp_112 ?_
  refine lu_iconst X dX12_isSoBy_2 (pc2 := 3) rfl ic_4 ?_
  refine lu_iload_n X dX12_isSoBy_3 (pc2 := 4) rfl rfl 1 rfl ?_
  refine lu_imul X dX12_isSoBy_4 (pc2 := 5) rfl ?_
  refine lu_iadd X dX12_isSoBy_5 (pc2 := 6) rfl ?_
  refine lu_topi (fun x1 => ?_)
  refine lu_istore (lv2 := [(5, .int x1), (0, .ref (ρ 0)), (1, .int a1), (2, .int a2), (3, .int a3), (4, .int a4)]) X dX12_isSoBy_6 (pc2 := 8) rfl (by decide) rfl ?_
  refine lu_aload_n X dX12_isSoBy_8 (pc2 := 9) rfl rfl 1 rfl ?_
  refine lu_getr (r2 := 1) X rfl fl12_7 rfl kM_0 lM_0 dX12_isSoBy_9 (pc2 := 12) rfl ?_
  refine lu_iload X dX12_isSoBy_12 (pc2 := 14) rfl 0 rfl ?_
  refine lu_iconst X dX12_isSoBy_14 (pc2 := 15) rfl ic_1 ?_
  refine lu_iadd X dX12_isSoBy_15 (pc2 := 16) rfl ?_
  refine lu_iald X kM_1 lM_1 dX12_isSoBy_16 (pc2 := 17) rfl ?_
  refine lu_iload_n X dX12_isSoBy_17 (pc2 := 18) rfl rfl 3 rfl ?_
  refine lu_iload_n X dX12_isSoBy_18 (pc2 := 19) rfl rfl 4 rfl ?_
  refine lu_invSi X (c12_termOf _ a2 a3) rfl q1320 mvS_12_termOf rfl rfl (Nat.le_of_ble_eq_true rfl) (Nat.le_of_ble_eq_true rfl) (Nat.le_of_ble_eq_true rfl) ⟨Nat.zero_le _, Nat.zero_le _⟩ dX12_isSoBy_19 (pc2 := 22) rfl rfl (fun x2 m3 => ?_)
  refine lu_iadd X dX12_isSoBy_22 (pc2 := 23) rfl ?_
  refine lu_topi (fun x4 => ?_)
  refine lu_istore (lv2 := [(6, .int x4), (5, .int x1), (0, .ref (ρ 0)), (1, .int a1), (2, .int a2), (3, .int a3), (4, .int a4)]) X dX12_isSoBy_23 (pc2 := 25) rfl (by decide) rfl ?_
  exact lu_sub [2, 4, 6, 1, 0] rfl (w12_isSoBy_b25 X hret (w12_isSoBy_b56 X hret) lu_fu x1 x4 m3)

theorem dX12_isFit_0 : decode cX12_isFit 0 = .ok (.iconst 1, 1) := by decide +kernel
theorem dX12_isFit_1 : decode cX12_isFit 1 = .ok (.istore 5, 2) := by decide +kernel
theorem dX12_isFit_3 : decode cX12_isFit 3 = .ok (.iconst 0, 1) := by decide +kernel
theorem dX12_isFit_4 : decode cX12_isFit 4 = .ok (.istore 6, 2) := by decide +kernel
theorem dX12_isFit_6 : decode cX12_isFit 6 = .ok (.iload 6, 2) := by decide +kernel
theorem dX12_isFit_8 : decode cX12_isFit 8 = .ok (.aload_n 0, 1) := by decide +kernel
theorem dX12_isFit_9 : decode cX12_isFit 9 = .ok (.getfield 7, 3) := by decide +kernel
theorem dX12_isFit_12 : decode cX12_isFit 12 = .ok (.bipush 6, 2) := by decide +kernel
theorem dX12_isFit_14 : decode cX12_isFit 14 = .ok (.iaload, 1) := by decide +kernel
theorem dX12_isFit_15 : decode cX12_isFit 15 = .ok (.if_icmp .ge 40, 3) := by decide +kernel
theorem dX12_isFit_18 : decode cX12_isFit 18 = .ok (.iload 5, 2) := by decide +kernel
theorem dX12_isFit_20 : decode cX12_isFit 20 = .ok (.ifCond .eq 35, 3) := by decide +kernel
theorem dX12_isFit_23 : decode cX12_isFit 23 = .ok (.iload 6, 2) := by decide +kernel
theorem dX12_isFit_25 : decode cX12_isFit 25 = .ok (.iload 4, 2) := by decide +kernel
theorem dX12_isFit_27 : decode cX12_isFit 27 = .ok (.if_icmp .eq 15, 3) := by decide +kernel
theorem dX12_isFit_30 : decode cX12_isFit 30 = .ok (.aload_n 0, 1) := by decide +kernel
theorem dX12_isFit_31 : decode cX12_isFit 31 = .ok (.iload 6, 2) := by decide +kernel
theorem dX12_isFit_33 : decode cX12_isFit 33 = .ok (.iload_n 1, 1) := by decide +kernel
theorem dX12_isFit_34 : decode cX12_isFit 34 = .ok (.iload_n 2, 1) := by decide +kernel
theorem dX12_isFit_35 : decode cX12_isFit 35 = .ok (.iload_n 3, 1) := by decide +kernel
theorem dX12_isFit_36 : decode cX12_isFit 36 = .ok (.invokevirtual 234, 3) := by decide +kernel
theorem dX12_isFit_39 : decode cX12_isFit 39 = .ok (.ifCond .eq 7, 3) := by decide +kernel
theorem dX12_isFit_42 : decode cX12_isFit 42 = .ok (.iconst 1, 1) := by decide +kernel
theorem dX12_isFit_43 : decode cX12_isFit 43 = .ok (.goto 4, 3) := by decide +kernel
theorem dX12_isFit_46 : decode cX12_isFit 46 = .ok (.iconst 0, 1) := by decide +kernel
theorem dX12_isFit_47 : decode cX12_isFit 47 = .ok (.istore 5, 2) := by decide +kernel
theorem dX12_isFit_49 : decode cX12_isFit 49 = .ok (.iinc 6 1, 3) := by decide +kernel
theorem dX12_isFit_52 : decode cX12_isFit 52 = .ok (.goto (-46), 3) := by decide +kernel
theorem dX12_isFit_55 : decode cX12_isFit 55 = .ok (.iload 5, 2) := by decide +kernel
theorem dX12_isFit_57 : decode cX12_isFit 57 = .ok (.ireturn, 1) := by decide +kernel
def f12_isFit_b47 (K6 : Int32 → Int32 → lu_M → Option (Int32 × lu_M)) (K55 : Int32 → lu_M → Option (Int32 × lu_M)) (a1 : Int32) (a2 : Int32) (a3 : Int32) (a4 : Int32) (v6 : Int32) (s0 : Int32) (m : lu_M) : Option (Int32 × lu_M) :=
  K6 s0 (v6 + (1 : Int32)) m
set_option maxRecDepth 20000 in
theorem w12_isFit_b47  {G : lu_G} {ρ : Nat → Nat} {a1 : Int32} {a2 : Int32} {a3 : Int32} {a4 : Int32} {K6 : Int32 → Int32 → lu_M → Option (Int32 × lu_M)} {K55 : Int32 → lu_M → Option (Int32 × lu_M)} (X : lu_X G RX12 cX12_isFit 7 2 49) (hret : (lu_me G).sig.returnType = (some .boolean))  (hK6 : ∀ (v5 : Int32) (v6 : Int32) (m : lu_M), lu_Ab lu_TM G (lu_Q lu_TM G ρ lu_RVi lu_sn) (K6 v5 v6 m) 6 [(0, .ref (ρ 0)), (1, .int a1), (2, .int a2), (3, .int a3), (4, .int a4), (5, .int v5), (6, .int v6)] [] ρ 0 0 [] m) (hK55 : ∀ (v5 : Int32) (m : lu_M), lu_Ab lu_TM G (lu_Q lu_TM G ρ lu_RVi lu_sn) (K55 v5 m) 55 [(5, .int v5)] [] ρ 0 0 [] m) : ∀ (v6 : Int32) (s0 : Int32) (m : lu_M), lu_Ab lu_TM G (lu_Q lu_TM G ρ lu_RVi lu_sn) (f12_isFit_b47 K6 K55 a1 a2 a3 a4 v6 s0 m) 47 [(0, .ref (ρ 0)), (1, .int a1), (2, .int a2), (3, .int a3), (4, .int a4), (6, .int v6)] [.int s0] ρ 0 0 [] m := by
  intro v6 s0 m
  unfold f12_isFit_b47
  refine lu_istore (lv2 := [(5, .int s0), (0, .ref (ρ 0)), (1, .int a1), (2, .int a2), (3, .int a3), (4, .int a4), (6, .int v6)]) X dX12_isFit_47 (pc2 := 49) rfl (by decide) rfl ?_
  refine lu_iinc (lv2 := [(6, .int (v6 + (1 : Int32))), (5, .int s0), (0, .ref (ρ 0)), (1, .int a1), (2, .int a2), (3, .int a3), (4, .int a4)]) X dX12_isFit_49 (pc2 := 52) rfl 6 rfl (lu_ii _ ic_1) (by decide) rfl ?_
  refine lu_goto (tgt := 6) X dX12_isFit_52 (by decide) ?_
  exact lu_sub [2, 3, 4, 5, 6, 1, 0] rfl (hK6 s0 (v6 + (1 : Int32)) m)
def f12_isFit_b42 (K6 : Int32 → Int32 → lu_M → Option (Int32 × lu_M)) (K55 : Int32 → lu_M → Option (Int32 × lu_M)) (a1 : Int32) (a2 : Int32) (a3 : Int32) (a4 : Int32) (v6 : Int32) (m : lu_M) : Option (Int32 × lu_M) :=
  f12_isFit_b47 K6 K55 a1 a2 a3 a4 v6 (1 : Int32) m
set_option maxRecDepth 20000 in
theorem w12_isFit_b42  {G : lu_G} {ρ : Nat → Nat} {a1 : Int32} {a2 : Int32} {a3 : Int32} {a4 : Int32} {K6 : Int32 → Int32 → lu_M → Option (Int32 × lu_M)} {K55 : Int32 → lu_M → Option (Int32 × lu_M)} (X : lu_X G RX12 cX12_isFit 7 2 49) (hret : (lu_me G).sig.returnType = (some .boolean))  (hK6 : ∀ (v5 : Int32) (v6 : Int32) (m : lu_M), lu_Ab lu_TM G (lu_Q lu_TM G ρ lu_RVi lu_sn) (K6 v5 v6 m) 6 [(0, .ref (ρ 0)), (1, .int a1), (2, .int a2), (3, .int a3), (4, .int a4), (5, .int v5), (6, .int v6)] [] ρ 0 0 [] m) (hK55 : ∀ (v5 : Int32) (m : lu_M), lu_Ab lu_TM G (lu_Q lu_TM G ρ lu_RVi lu_sn) (K55 v5 m) 55 [(5, .int v5)] [] ρ 0 0 [] m) : ∀ (v6 : Int32) (m : lu_M), lu_Ab lu_TM G (lu_Q lu_TM G ρ lu_RVi lu_sn) (f12_isFit_b42 K6 K55 a1 a2 a3 a4 v6 m) 42 [(0, .ref (ρ 0)), (1, .int a1), (2, .int a2), (3, .int a3), (4, .int a4), (6, .int v6)] [] ρ 0 0 [] m := by
  intro v6 m
  unfold f12_isFit_b42
  refine lu_iconst X dX12_isFit_42 (pc2 := 43) rfl ic_1 ?_
  refine lu_goto (tgt := 47) X dX12_isFit_43 (by decide) ?_
  exact w12_isFit_b47 X hret hK6 hK55 v6 (1 : Int32) m
def f12_isFit_b6B (K55 : Int32 → lu_M → Option (Int32 × lu_M)) (rec : Int32 → Int32 → lu_M → Option (Int32 × lu_M)) (a1 : Int32) (a2 : Int32) (a3 : Int32) (a4 : Int32) (v5 : Int32) (v6 : Int32) (m : lu_M) : Option (Int32 × lu_M) :=
  if (m 1 6) ≤ v6 then (K55 v5 m)
  else (if v5 = 0 then (K55 v5 m)
  else (if v6 = a4 then (f12_isFit_b42 rec K55 a1 a2 a3 a4 v6 m)
  else (lu_bi (f12_isSoBy v6 a1 a2 a3 m) fun x1 m2 =>
  if x1 = 0 then (f12_isFit_b47 rec K55 a1 a2 a3 a4 v6 (0 : Int32) m2)
  else (f12_isFit_b42 rec K55 a1 a2 a3 a4 v6 m2))))
def f12_isFit_b6 (K55 : Int32 → lu_M → Option (Int32 × lu_M)) (a1 : Int32) (a2 : Int32) (a3 : Int32) (a4 : Int32) : Nat → Int32 → Int32 → lu_M → Option (Int32 × lu_M)
  | 0, _, _, _ => none
  | n + 1, v5, v6, m => f12_isFit_b6B K55 (f12_isFit_b6 K55 a1 a2 a3 a4 n) a1 a2 a3 a4 v5 v6 m
set_option maxRecDepth 20000 in
theorem w12_isFit_b6B  {G : lu_G} {ρ : Nat → Nat} {a1 : Int32} {a2 : Int32} {a3 : Int32} {a4 : Int32} {K55 : Int32 → lu_M → Option (Int32 × lu_M)} {rec : Int32 → Int32 → lu_M → Option (Int32 × lu_M)} (X : lu_X G RX12 cX12_isFit 7 2 49) (hret : (lu_me G).sig.returnType = (some .boolean))  (hK55 : ∀ (v5 : Int32) (m : lu_M), lu_Ab lu_TM G (lu_Q lu_TM G ρ lu_RVi lu_sn) (K55 v5 m) 55 [(5, .int v5)] [] ρ 0 0 [] m) (hrec : ∀ (v5 : Int32) (v6 : Int32) (m : lu_M), lu_Ab lu_TM G (lu_Q lu_TM G ρ lu_RVi lu_sn) (rec v5 v6 m) 6 [(0, .ref (ρ 0)), (1, .int a1), (2, .int a2), (3, .int a3), (4, .int a4), (5, .int v5), (6, .int v6)] [] ρ 0 0 [] m) : ∀ (v5 : Int32) (v6 : Int32) (m : lu_M), lu_Ab lu_TM G (lu_Q lu_TM G ρ lu_RVi lu_sn) (f12_isFit_b6B K55 rec a1 a2 a3 a4 v5 v6 m) 6 [(0, .ref (ρ 0)), (1, .int a1), (2, .int a2), (3, .int a3), (4, .int a4), (5, .int v5), (6, .int v6)] [] ρ 0 0 [] m := by
  intro v5 v6 m
  unfold f12_isFit_b6B
  refine lu_iload X dX12_isFit_6 (pc2 := 8) rfl 6 rfl ?_
  refine lu_aload_n X dX12_isFit_8 (pc2 := 9) rfl rfl 0 rfl ?_
  refine lu_getr (r2 := 1) X rfl fl12_7 rfl kM_0 lM_0 dX12_isFit_9 (pc2 := 12) rfl ?_
  refine lu_bipush X dX12_isFit_12 (pc2 := 14) rfl bp_6 ?_
  refine lu_ialdK (q := 6) X (by decide) kM_1 lM_1 dX12_isFit_14 (pc2 := 15) rfl ?_
  refine lu_icmp_ge (tgt := 55) X dX12_isFit_15 (pc2 := 18) rfl (by decide) (fun _ => ?_) (fun _ => ?_)
  · exact lu_sub [5] rfl (hK55 v5 m)
  · refine lu_iload X dX12_isFit_18 (pc2 := 20) rfl 5 rfl ?_
    refine lu_if_eq (tgt := 55) X dX12_isFit_20 (pc2 := 23) rfl (by decide) (fun _ => ?_) (fun _ => ?_)
    · exact lu_sub [5] rfl (hK55 v5 m)
    · refine lu_iload X dX12_isFit_23 (pc2 := 25) rfl 6 rfl ?_
      refine lu_iload X dX12_isFit_25 (pc2 := 27) rfl 4 rfl ?_
      refine lu_icmp_eq (tgt := 42) X dX12_isFit_27 (pc2 := 30) rfl (by decide) (fun _ => ?_) (fun _ => ?_)
      · exact lu_sub [0, 1, 2, 3, 4, 6] rfl (w12_isFit_b42 X hret hrec hK55 v6 m)
      · refine lu_aload_n X dX12_isFit_30 (pc2 := 31) rfl rfl 0 rfl ?_
        refine lu_iload X dX12_isFit_31 (pc2 := 33) rfl 6 rfl ?_
        refine lu_iload_n X dX12_isFit_33 (pc2 := 34) rfl rfl 1 rfl ?_
        refine lu_iload_n X dX12_isFit_34 (pc2 := 35) rfl rfl 2 rfl ?_
        refine lu_iload_n X dX12_isFit_35 (pc2 := 36) rfl rfl 3 rfl ?_
        refine lu_invVi X (c12_isSoBy _ v6 a1 a2 a3) rfl q1553 mvV_12_isSoBy kM_0 lM_0 (by decide) ⟨_, rfl, rfl⟩ rfl rfl (Nat.le_of_ble_eq_true rfl) (Nat.le_of_ble_eq_true rfl) (Nat.le_of_ble_eq_true rfl) ⟨Nat.zero_le _, Nat.zero_le _⟩ dX12_isFit_36 (pc2 := 39) rfl rfl (fun x1 m2 => ?_)
        refine lu_if_eq (tgt := 46) X dX12_isFit_39 (pc2 := 42) rfl (by decide) (fun _ => ?_) (fun _ => ?_)
        · refine lu_iconst X dX12_isFit_46 (pc2 := 47) rfl ic_0 ?_
          exact lu_sub [0, 1, 2, 3, 4, 6] rfl (w12_isFit_b47 X hret hrec hK55 v6 (0 : Int32) m2)
        · exact lu_sub [0, 1, 2, 3, 4, 6] rfl (w12_isFit_b42 X hret hrec hK55 v6 m2)
theorem w12_isFit_b6  {G : lu_G} {ρ : Nat → Nat} {a1 : Int32} {a2 : Int32} {a3 : Int32} {a4 : Int32} {K55 : Int32 → lu_M → Option (Int32 × lu_M)} (X : lu_X G RX12 cX12_isFit 7 2 49) (hret : (lu_me G).sig.returnType = (some .boolean))  (hK55 : ∀ (v5 : Int32) (m : lu_M), lu_Ab lu_TM G (lu_Q lu_TM G ρ lu_RVi lu_sn) (K55 v5 m) 55 [(5, .int v5)] [] ρ 0 0 [] m) : ∀ (n : Nat) (v5 : Int32) (v6 : Int32) (m : lu_M), lu_Ab lu_TM G (lu_Q lu_TM G ρ lu_RVi lu_sn) (f12_isFit_b6 K55 a1 a2 a3 a4 n v5 v6 m) 6 [(0, .ref (ρ 0)), (1, .int a1), (2, .int a2), (3, .int a3), (4, .int a4), (5, .int v5), (6, .int v6)] [] ρ 0 0 [] m := by
  intro n
  induction n with
  | zero => intro v5 v6 m; exact lu_none
  | succ n ih => intro v5 v6 m; exact w12_isFit_b6B X hret hK55 ih v5 v6 m
def f12_isFit_b55  (a1 : Int32) (a2 : Int32) (a3 : Int32) (a4 : Int32) (v5 : Int32) (m : lu_M) : Option (Int32 × lu_M) :=
  lu_gd (decide (v5 = 0 ∨ v5 = 1)) (some (v5, m))
set_option maxRecDepth 20000 in
theorem w12_isFit_b55  {G : lu_G} {ρ : Nat → Nat} {a1 : Int32} {a2 : Int32} {a3 : Int32} {a4 : Int32}  (X : lu_X G RX12 cX12_isFit 7 2 49) (hret : (lu_me G).sig.returnType = (some .boolean))   : ∀ (v5 : Int32) (m : lu_M), lu_Ab lu_TM G (lu_Q lu_TM G ρ lu_RVi lu_sn) (f12_isFit_b55 a1 a2 a3 a4 v5 m) 55 [(5, .int v5)] [] ρ 0 0 [] m := by
  intro v5 m
  unfold f12_isFit_b55
  refine lu_iload X dX12_isFit_55 (pc2 := 57) rfl 0 rfl ?_
  exact lu_zretG X hret dX12_isFit_57
def f12_isFit (a1 : Int32) (a2 : Int32) (a3 : Int32) (a4 : Int32) (m : lu_M) : Option (Int32 × lu_M) :=
  f12_isFit_b6 (f12_isFit_b55 a1 a2 a3 a4) a1 a2 a3 a4 lu_fu (1 : Int32) (0 : Int32) m
set_option maxRecDepth 20000 in
theorem c12_isFit (l : Launch)   (a1 : Int32) (a2 : Int32) (a3 : Int32) (a4 : Int32) : lu_C lu_TM l yX12_isFit cX12_isFit 7 (some .boolean) 2 49 (fun ρ sa => [.ref (ρ 0), .int a1, .int a2, .int a3, .int a4]) (f12_isFit a1 a2 a3 a4) lu_RVi lu_sn := by
  refine lu_met (cls := RX12) rfl (by decide +kernel) (fun _ _ => Nat.le_of_ble_eq_true rfl) ?_
  intro G ρ m hl X hret
  subst hl
  change lu_Ab lu_TM G (lu_Q lu_TM G ρ lu_RVi lu_sn) (f12_isFit a1 a2 a3 a4 m) 0 [(0, .ref (ρ 0)), (1, .int a1), (2, .int a2), (3, .int a3), (4, .int a4)] [] ρ 0 0 [] m
  unfold f12_isFit
  refine lu_iconst X dX12_isFit_0 (pc2 := 1) rfl ic_1 ?_
  refine lu_istore (lv2 := [(5, .int (1 : Int32)), (0, .ref (ρ 0)), (1, .int a1), (2, .int a2), (3, .int a3), (4, .int a4)]) X dX12_isFit_1 (pc2 := 3) rfl (by decide) rfl ?_
  refine lu_iconst X dX12_isFit_3 (pc2 := 4) rfl ic_0 ?_
  refine lu_istore (lv2 := [(6, .int (0 : Int32)), (5, .int (1 : Int32)), (0, .ref (ρ 0)), (1, .int a1), (2, .int a2), (3, .int a3), (4, .int a4)]) X dX12_isFit_4 (pc2 := 6) rfl (by decide) rfl ?_
  exact lu_sub [2, 3, 4, 5, 6, 1, 0] rfl (w12_isFit_b6 X hret (w12_isFit_b55 X hret) lu_fu (1 : Int32) (0 : Int32) m)

theorem dX12_findFits_0 : decode cX12_findFits 0 = .ok (.aload_n 0, 1) := by decide +kernel
theorem dX12_findFits_1 : decode cX12_findFits 1 = .ok (.iconst 0, 1) := by decide +kernel
theorem dX12_findFits_2 : decode cX12_findFits 2 = .ok (.putfield 238, 3) := by decide +kernel
theorem dX12_findFits_5 : decode cX12_findFits 5 = .ok (.iconst 0, 1) := by decide +kernel
theorem dX12_findFits_6 : decode cX12_findFits 6 = .ok (.istore_n 2, 1) := by decide +kernel
theorem dX12_findFits_7 : decode cX12_findFits 7 = .ok (.iload_n 2, 1) := by decide +kernel
theorem dX12_findFits_8 : decode cX12_findFits 8 = .ok (.sipush 405, 3) := by decide +kernel
theorem dX12_findFits_11 : decode cX12_findFits 11 = .ok (.if_icmp .ge 117, 3) := by decide +kernel
theorem dX12_findFits_14 : decode cX12_findFits 14 = .ok (.iconst 1, 1) := by decide +kernel
theorem dX12_findFits_15 : decode cX12_findFits 15 = .ok (.iload_n 2, 1) := by decide +kernel
theorem dX12_findFits_16 : decode cX12_findFits 16 = .ok (.bipush 81, 2) := by decide +kernel
theorem dX12_findFits_18 : decode cX12_findFits 18 = .ok (.idiv, 1) := by decide +kernel
theorem dX12_findFits_19 : decode cX12_findFits 19 = .ok (.iadd, 1) := by decide +kernel
theorem dX12_findFits_20 : decode cX12_findFits 20 = .ok (.istore_n 3, 1) := by decide +kernel
theorem dX12_findFits_21 : decode cX12_findFits 21 = .ok (.iconst 1, 1) := by decide +kernel
theorem dX12_findFits_22 : decode cX12_findFits 22 = .ok (.iload_n 2, 1) := by decide +kernel
theorem dX12_findFits_23 : decode cX12_findFits 23 = .ok (.bipush 9, 2) := by decide +kernel
theorem dX12_findFits_25 : decode cX12_findFits 25 = .ok (.idiv, 1) := by decide +kernel
theorem dX12_findFits_26 : decode cX12_findFits 26 = .ok (.bipush 9, 2) := by decide +kernel
theorem dX12_findFits_28 : decode cX12_findFits 28 = .ok (.irem, 1) := by decide +kernel
theorem dX12_findFits_29 : decode cX12_findFits 29 = .ok (.iadd, 1) := by decide +kernel
theorem dX12_findFits_30 : decode cX12_findFits 30 = .ok (.istore 4, 2) := by decide +kernel
theorem dX12_findFits_32 : decode cX12_findFits 32 = .ok (.iconst 1, 1) := by decide +kernel
theorem dX12_findFits_33 : decode cX12_findFits 33 = .ok (.iload_n 2, 1) := by decide +kernel
theorem dX12_findFits_34 : decode cX12_findFits 34 = .ok (.bipush 9, 2) := by decide +kernel
theorem dX12_findFits_36 : decode cX12_findFits 36 = .ok (.irem, 1) := by decide +kernel
theorem dX12_findFits_37 : decode cX12_findFits 37 = .ok (.iadd, 1) := by decide +kernel
theorem dX12_findFits_38 : decode cX12_findFits 38 = .ok (.istore 5, 2) := by decide +kernel
theorem dX12_findFits_40 : decode cX12_findFits 40 = .ok (.aload_n 0, 1) := by decide +kernel
theorem dX12_findFits_41 : decode cX12_findFits 41 = .ok (.iload_n 3, 1) := by decide +kernel
theorem dX12_findFits_42 : decode cX12_findFits 42 = .ok (.iload 4, 2) := by decide +kernel
theorem dX12_findFits_44 : decode cX12_findFits 44 = .ok (.iload 5, 2) := by decide +kernel
theorem dX12_findFits_46 : decode cX12_findFits 46 = .ok (.iload_n 1, 1) := by decide +kernel
theorem dX12_findFits_47 : decode cX12_findFits 47 = .ok (.invokevirtual 241, 3) := by decide +kernel
theorem dX12_findFits_50 : decode cX12_findFits 50 = .ok (.ifCond .eq 72, 3) := by decide +kernel
theorem dX12_findFits_53 : decode cX12_findFits 53 = .ok (.aload_n 0, 1) := by decide +kernel
theorem dX12_findFits_54 : decode cX12_findFits 54 = .ok (.aload_n 0, 1) := by decide +kernel
theorem dX12_findFits_55 : decode cX12_findFits 55 = .ok (.getfield 238, 3) := by decide +kernel
theorem dX12_findFits_58 : decode cX12_findFits 58 = .ok (.ifCond .ne 7, 3) := by decide +kernel
theorem dX12_findFits_61 : decode cX12_findFits 61 = .ok (.iload_n 3, 1) := by decide +kernel
theorem dX12_findFits_62 : decode cX12_findFits 62 = .ok (.goto 7, 3) := by decide +kernel
theorem dX12_findFits_65 : decode cX12_findFits 65 = .ok (.aload_n 0, 1) := by decide +kernel
theorem dX12_findFits_66 : decode cX12_findFits 66 = .ok (.getfield 244, 3) := by decide +kernel
theorem dX12_findFits_69 : decode cX12_findFits 69 = .ok (.putfield 244, 3) := by decide +kernel
theorem dX12_findFits_72 : decode cX12_findFits 72 = .ok (.aload_n 0, 1) := by decide +kernel
theorem dX12_findFits_73 : decode cX12_findFits 73 = .ok (.aload_n 0, 1) := by decide +kernel
theorem dX12_findFits_74 : decode cX12_findFits 74 = .ok (.getfield 238, 3) := by decide +kernel
theorem dX12_findFits_77 : decode cX12_findFits 77 = .ok (.ifCond .ne 8, 3) := by decide +kernel
theorem dX12_findFits_80 : decode cX12_findFits 80 = .ok (.iload 4, 2) := by decide +kernel
theorem dX12_findFits_82 : decode cX12_findFits 82 = .ok (.goto 7, 3) := by decide +kernel
theorem dX12_findFits_85 : decode cX12_findFits 85 = .ok (.aload_n 0, 1) := by decide +kernel
theorem dX12_findFits_86 : decode cX12_findFits 86 = .ok (.getfield 247, 3) := by decide +kernel
theorem dX12_findFits_89 : decode cX12_findFits 89 = .ok (.putfield 247, 3) := by decide +kernel
theorem dX12_findFits_92 : decode cX12_findFits 92 = .ok (.aload_n 0, 1) := by decide +kernel
theorem dX12_findFits_93 : decode cX12_findFits 93 = .ok (.aload_n 0, 1) := by decide +kernel
theorem dX12_findFits_94 : decode cX12_findFits 94 = .ok (.getfield 238, 3) := by decide +kernel
theorem dX12_findFits_97 : decode cX12_findFits 97 = .ok (.ifCond .ne 8, 3) := by decide +kernel
theorem dX12_findFits_100 : decode cX12_findFits 100 = .ok (.iload 5, 2) := by decide +kernel
theorem dX12_findFits_102 : decode cX12_findFits 102 = .ok (.goto 7, 3) := by decide +kernel
theorem dX12_findFits_105 : decode cX12_findFits 105 = .ok (.aload_n 0, 1) := by decide +kernel
theorem dX12_findFits_106 : decode cX12_findFits 106 = .ok (.getfield 250, 3) := by decide +kernel
theorem dX12_findFits_109 : decode cX12_findFits 109 = .ok (.putfield 250, 3) := by decide +kernel
theorem dX12_findFits_112 : decode cX12_findFits 112 = .ok (.aload_n 0, 1) := by decide +kernel
theorem dX12_findFits_113 : decode cX12_findFits 113 = .ok (.dup, 1) := by decide +kernel
theorem dX12_findFits_114 : decode cX12_findFits 114 = .ok (.getfield 238, 3) := by decide +kernel
theorem dX12_findFits_117 : decode cX12_findFits 117 = .ok (.iconst 1, 1) := by decide +kernel
theorem dX12_findFits_118 : decode cX12_findFits 118 = .ok (.iadd, 1) := by decide +kernel
theorem dX12_findFits_119 : decode cX12_findFits 119 = .ok (.putfield 238, 3) := by decide +kernel
theorem dX12_findFits_122 : decode cX12_findFits 122 = .ok (.iinc 2 1, 3) := by decide +kernel
theorem dX12_findFits_125 : decode cX12_findFits 125 = .ok (.goto (-118), 3) := by decide +kernel
theorem dX12_findFits_128 : decode cX12_findFits 128 = .ok (.return_, 1) := by decide +kernel
def f12_findFits_b122 (K7 : Int32 → lu_M → Option (lu_M)) (K128 : lu_M → Option (lu_M)) (a1 : Int32) (v2 : Int32) (m : lu_M) : Option (lu_M) :=
  K7 (v2 + (1 : Int32)) m
set_option maxRecDepth 20000 in
theorem w12_findFits_b122  {G : lu_G} {ρ : Nat → Nat} {a1 : Int32} {K7 : Int32 → lu_M → Option (lu_M)} {K128 : lu_M → Option (lu_M)} (X : lu_X G RX12 cX12_findFits 6 3 75) (hret : (lu_me G).sig.returnType = none)  (hK7 : ∀ (v2 : Int32) (m : lu_M), lu_Ab lu_TM G (lu_Q lu_TM G ρ lu_RVv lu_id) (K7 v2 m) 7 [(0, .ref (ρ 0)), (1, .int a1), (2, .int v2)] [] ρ 0 0 [] m) (hK128 : ∀  (m : lu_M), lu_Ab lu_TM G (lu_Q lu_TM G ρ lu_RVv lu_id) (K128 m) 128 [] [] ρ 0 0 [] m) : ∀ (v2 : Int32) (m : lu_M), lu_Ab lu_TM G (lu_Q lu_TM G ρ lu_RVv lu_id) (f12_findFits_b122 K7 K128 a1 v2 m) 122 [(0, .ref (ρ 0)), (1, .int a1), (2, .int v2)] [] ρ 0 0 [] m := by
  intro v2 m
  unfold f12_findFits_b122
  refine lu_iinc (lv2 := [(2, .int (v2 + (1 : Int32))), (0, .ref (ρ 0)), (1, .int a1)]) X dX12_findFits_122 (pc2 := 125) rfl 2 rfl (lu_ii _ ic_1) (by decide) rfl ?_
  refine lu_goto (tgt := 7) X dX12_findFits_125 (by decide) ?_
  exact lu_sub [1, 2, 0] rfl (hK7 (v2 + (1 : Int32)) m)
def f12_findFits_b109 (K7 : Int32 → lu_M → Option (lu_M)) (K128 : lu_M → Option (lu_M)) (a1 : Int32) (v2 : Int32) (s0 : Int32) (m : lu_M) : Option (lu_M) :=
  lu_nm (lu_st m 0 19 s0) fun m9 =>
  lu_nm (lu_st m9 0 16 ((m9 0 16) + (1 : Int32))) fun m10 =>
  f12_findFits_b122 K7 K128 a1 v2 m10
set_option maxRecDepth 20000 in
theorem w12_findFits_b109  {G : lu_G} {ρ : Nat → Nat} {a1 : Int32} {K7 : Int32 → lu_M → Option (lu_M)} {K128 : lu_M → Option (lu_M)} (X : lu_X G RX12 cX12_findFits 6 3 75) (hret : (lu_me G).sig.returnType = none)  (hK7 : ∀ (v2 : Int32) (m : lu_M), lu_Ab lu_TM G (lu_Q lu_TM G ρ lu_RVv lu_id) (K7 v2 m) 7 [(0, .ref (ρ 0)), (1, .int a1), (2, .int v2)] [] ρ 0 0 [] m) (hK128 : ∀  (m : lu_M), lu_Ab lu_TM G (lu_Q lu_TM G ρ lu_RVv lu_id) (K128 m) 128 [] [] ρ 0 0 [] m) : ∀ (v2 : Int32) (s0 : Int32) (m : lu_M), lu_Ab lu_TM G (lu_Q lu_TM G ρ lu_RVv lu_id) (f12_findFits_b109 K7 K128 a1 v2 s0 m) 109 [(0, .ref (ρ 0)), (1, .int a1), (2, .int v2)] [.int s0, .ref (ρ 0)] ρ 0 0 [] m := by
  intro v2 s0 m
  unfold f12_findFits_b109
  refine lu_put X fl12_250 rfl (Or.inl (by decide)) rfl (by decide +kernel) kM_0 lM_0 dX12_findFits_109 (pc2 := 112) rfl (fun m9 => ?_)
  refine lu_aload_n X dX12_findFits_112 (pc2 := 113) rfl rfl 0 rfl ?_
  refine lu_dup X dX12_findFits_113 (pc2 := 114) rfl rfl ?_
  refine lu_get X fl12_238 rfl kM_0 lM_0 dX12_findFits_114 (pc2 := 117) rfl ?_
  refine lu_iconst X dX12_findFits_117 (pc2 := 118) rfl ic_1 ?_
  refine lu_iadd X dX12_findFits_118 (pc2 := 119) rfl ?_
  refine lu_put X fl12_238 rfl (Or.inl (by decide)) rfl (by decide +kernel) kM_0 lM_0 dX12_findFits_119 (pc2 := 122) rfl (fun m10 => ?_)
  exact w12_findFits_b122 X hret hK7 hK128 v2 m10
def f12_findFits_b89 (K7 : Int32 → lu_M → Option (lu_M)) (K128 : lu_M → Option (lu_M)) (a1 : Int32) (v2 : Int32) (v5 : Int32) (s0 : Int32) (m : lu_M) : Option (lu_M) :=
  lu_nm (lu_st m 0 18 s0) fun m8 =>
  if (m8 0 16) = 0 then (f12_findFits_b109 K7 K128 a1 v2 v5 m8)
  else (f12_findFits_b109 K7 K128 a1 v2 (m8 0 19) m8)
set_option maxRecDepth 20000 in
theorem w12_findFits_b89  {G : lu_G} {ρ : Nat → Nat} {a1 : Int32} {K7 : Int32 → lu_M → Option (lu_M)} {K128 : lu_M → Option (lu_M)} (X : lu_X G RX12 cX12_findFits 6 3 75) (hret : (lu_me G).sig.returnType = none)  (hK7 : ∀ (v2 : Int32) (m : lu_M), lu_Ab lu_TM G (lu_Q lu_TM G ρ lu_RVv lu_id) (K7 v2 m) 7 [(0, .ref (ρ 0)), (1, .int a1), (2, .int v2)] [] ρ 0 0 [] m) (hK128 : ∀  (m : lu_M), lu_Ab lu_TM G (lu_Q lu_TM G ρ lu_RVv lu_id) (K128 m) 128 [] [] ρ 0 0 [] m) : ∀ (v2 : Int32) (v5 : Int32) (s0 : Int32) (m : lu_M), lu_Ab lu_TM G (lu_Q lu_TM G ρ lu_RVv lu_id) (f12_findFits_b89 K7 K128 a1 v2 v5 s0 m) 89 [(0, .ref (ρ 0)), (1, .int a1), (2, .int v2), (5, .int v5)] [.int s0, .ref (ρ 0)] ρ 0 0 [] m := by
  intro v2 v5 s0 m
  unfold f12_findFits_b89
  refine lu_put X fl12_247 rfl (Or.inl (by decide)) rfl (by decide +kernel) kM_0 lM_0 dX12_findFits_89 (pc2 := 92) rfl (fun m8 => ?_)
  refine lu_aload_n X dX12_findFits_92 (pc2 := 93) rfl rfl 0 rfl ?_
  refine lu_aload_n X dX12_findFits_93 (pc2 := 94) rfl rfl 0 rfl ?_
  refine lu_get X fl12_238 rfl kM_0 lM_0 dX12_findFits_94 (pc2 := 97) rfl ?_
  refine lu_if_ne (tgt := 105) X dX12_findFits_97 (pc2 := 100) rfl (by decide) (fun _ => ?_) (fun _ => ?_)
  · refine lu_aload_n X dX12_findFits_105 (pc2 := 106) rfl rfl 0 rfl ?_
    refine lu_get X fl12_250 rfl kM_0 lM_0 dX12_findFits_106 (pc2 := 109) rfl ?_
    exact lu_sub [0, 1, 2] rfl (w12_findFits_b109 X hret hK7 hK128 v2 (m8 0 19) m8)
  · refine lu_iload X dX12_findFits_100 (pc2 := 102) rfl 3 rfl ?_
    refine lu_goto (tgt := 109) X dX12_findFits_102 (by decide) ?_
    exact lu_sub [0, 1, 2] rfl (w12_findFits_b109 X hret hK7 hK128 v2 v5 m8)
def f12_findFits_b69 (K7 : Int32 → lu_M → Option (lu_M)) (K128 : lu_M → Option (lu_M)) (a1 : Int32) (v2 : Int32) (v4 : Int32) (v5 : Int32) (s0 : Int32) (m : lu_M) : Option (lu_M) :=
  lu_nm (lu_st m 0 17 s0) fun m7 =>
  if (m7 0 16) = 0 then (f12_findFits_b89 K7 K128 a1 v2 v5 v4 m7)
  else (f12_findFits_b89 K7 K128 a1 v2 v5 (m7 0 18) m7)
set_option maxRecDepth 20000 in
theorem w12_findFits_b69  {G : lu_G} {ρ : Nat → Nat} {a1 : Int32} {K7 : Int32 → lu_M → Option (lu_M)} {K128 : lu_M → Option (lu_M)} (X : lu_X G RX12 cX12_findFits 6 3 75) (hret : (lu_me G).sig.returnType = none)  (hK7 : ∀ (v2 : Int32) (m : lu_M), lu_Ab lu_TM G (lu_Q lu_TM G ρ lu_RVv lu_id) (K7 v2 m) 7 [(0, .ref (ρ 0)), (1, .int a1), (2, .int v2)] [] ρ 0 0 [] m) (hK128 : ∀  (m : lu_M), lu_Ab lu_TM G (lu_Q lu_TM G ρ lu_RVv lu_id) (K128 m) 128 [] [] ρ 0 0 [] m) : ∀ (v2 : Int32) (v4 : Int32) (v5 : Int32) (s0 : Int32) (m : lu_M), lu_Ab lu_TM G (lu_Q lu_TM G ρ lu_RVv lu_id) (f12_findFits_b69 K7 K128 a1 v2 v4 v5 s0 m) 69 [(0, .ref (ρ 0)), (1, .int a1), (2, .int v2), (4, .int v4), (5, .int v5)] [.int s0, .ref (ρ 0)] ρ 0 0 [] m := by
  intro v2 v4 v5 s0 m
  unfold f12_findFits_b69
  refine lu_put X fl12_244 rfl (Or.inl (by decide)) rfl (by decide +kernel) kM_0 lM_0 dX12_findFits_69 (pc2 := 72) rfl (fun m7 => ?_)
  refine lu_aload_n X dX12_findFits_72 (pc2 := 73) rfl rfl 0 rfl ?_
  refine lu_aload_n X dX12_findFits_73 (pc2 := 74) rfl rfl 0 rfl ?_
  refine lu_get X fl12_238 rfl kM_0 lM_0 dX12_findFits_74 (pc2 := 77) rfl ?_
  refine lu_if_ne (tgt := 85) X dX12_findFits_77 (pc2 := 80) rfl (by decide) (fun _ => ?_) (fun _ => ?_)
  · refine lu_aload_n X dX12_findFits_85 (pc2 := 86) rfl rfl 0 rfl ?_
    refine lu_get X fl12_247 rfl kM_0 lM_0 dX12_findFits_86 (pc2 := 89) rfl ?_
    exact lu_sub [0, 1, 2, 4] rfl (w12_findFits_b89 X hret hK7 hK128 v2 v5 (m7 0 18) m7)
  · refine lu_iload X dX12_findFits_80 (pc2 := 82) rfl 3 rfl ?_
    refine lu_goto (tgt := 89) X dX12_findFits_82 (by decide) ?_
    exact lu_sub [0, 1, 2, 4] rfl (w12_findFits_b89 X hret hK7 hK128 v2 v5 v4 m7)
def f12_findFits_b7B (K128 : lu_M → Option (lu_M)) (rec : Int32 → lu_M → Option (lu_M)) (a1 : Int32) (v2 : Int32) (m : lu_M) : Option (lu_M) :=
  if (405 : Int32) ≤ v2 then (K128 m)
  else (lu_nm (((1 : Int32) + (v2 / (81 : Int32)))) fun x2 =>
  lu_nm (((1 : Int32) + ((v2 / (9 : Int32)) - (v2 / (9 : Int32)) / (9 : Int32) * (9 : Int32)))) fun x3 =>
  lu_nm (((1 : Int32) + (v2 - v2 / (9 : Int32) * (9 : Int32)))) fun x4 =>
  lu_bi (f12_isFit x2 x3 x4 a1 m) fun x5 m6 =>
  if x5 = 0 then (f12_findFits_b122 rec K128 a1 v2 m6)
  else (if (m6 0 16) = 0 then (f12_findFits_b69 rec K128 a1 v2 x3 x4 x2 m6)
  else (f12_findFits_b69 rec K128 a1 v2 x3 x4 (m6 0 17) m6)))
def f12_findFits_b7 (K128 : lu_M → Option (lu_M)) (a1 : Int32) : Nat → Int32 → lu_M → Option (lu_M)
  | 0, _, _ => none
  | n + 1, v2, m => f12_findFits_b7B K128 (f12_findFits_b7 K128 a1 n) a1 v2 m
set_option maxRecDepth 20000 in
theorem w12_findFits_b7B  {G : lu_G} {ρ : Nat → Nat} {a1 : Int32} {K128 : lu_M → Option (lu_M)} {rec : Int32 → lu_M → Option (lu_M)} (X : lu_X G RX12 cX12_findFits 6 3 75) (hret : (lu_me G).sig.returnType = none)  (hK128 : ∀  (m : lu_M), lu_Ab lu_TM G (lu_Q lu_TM G ρ lu_RVv lu_id) (K128 m) 128 [] [] ρ 0 0 [] m) (hrec : ∀ (v2 : Int32) (m : lu_M), lu_Ab lu_TM G (lu_Q lu_TM G ρ lu_RVv lu_id) (rec v2 m) 7 [(0, .ref (ρ 0)), (1, .int a1), (2, .int v2)] [] ρ 0 0 [] m) : ∀ (v2 : Int32) (m : lu_M), lu_Ab lu_TM G (lu_Q lu_TM G ρ lu_RVv lu_id) (f12_findFits_b7B K128 rec a1 v2 m) 7 [(0, .ref (ρ 0)), (1, .int a1), (2, .int v2)] [] ρ 0 0 [] m := by
  intro v2 m
  unfold f12_findFits_b7B
  refine lu_iload_n X dX12_findFits_7 (pc2 := 8) rfl rfl 2 rfl ?_
  refine lu_sipush X dX12_findFits_8 (pc2 := 11) rfl sp_405 ?_
  refine lu_icmp_ge (tgt := 128) X dX12_findFits_11 (pc2 := 14) rfl (by decide) (fun _ => ?_) (fun _ => ?_)
  · exact lu_sub [] rfl (hK128 m)
  · refine lu_iconst X dX12_findFits_14 (pc2 := 15) rfl ic_1 ?_
    refine lu_iload_n X dX12_findFits_15 (pc2 := 16) rfl rfl 2 rfl ?_
    refine lu_bipush X dX12_findFits_16 (pc2 := 18) rfl bp_81 ?_
    refine lu_idivK X dX12_findFits_18 (pc2 := 19) rfl (by decide) ?_
    refine lu_iadd X dX12_findFits_19 (pc2 := 20) rfl ?_
    refine lu_topi (fun x2 => ?_)
    refine lu_istore_n (lv2 := [(3, .int x2), (0, .ref (ρ 0)), (1, .int a1), (2, .int v2)]) X dX12_findFits_20 (pc2 := 21) rfl rfl (by decide) rfl ?_
    refine lu_iconst X dX12_findFits_21 (pc2 := 22) rfl ic_1 ?_
    refine lu_iload_n X dX12_findFits_22 (pc2 := 23) rfl rfl 3 rfl ?_
    refine lu_bipush X dX12_findFits_23 (pc2 := 25) rfl bp_9 ?_
    refine lu_idivK X dX12_findFits_25 (pc2 := 26) rfl (by decide) ?_
    refine lu_bipush X dX12_findFits_26 (pc2 := 28) rfl bp_9 ?_
    refine lu_iremK X dX12_findFits_28 (pc2 := 29) rfl (by decide) ?_
    refine lu_iadd X dX12_findFits_29 (pc2 := 30) rfl ?_
    refine lu_topi (fun x3 => ?_)
    refine lu_istore (lv2 := [(4, .int x3), (3, .int x2), (0, .ref (ρ 0)), (1, .int a1), (2, .int v2)]) X dX12_findFits_30 (pc2 := 32) rfl (by decide) rfl ?_
    refine lu_iconst X dX12_findFits_32 (pc2 := 33) rfl ic_1 ?_
    refine lu_iload_n X dX12_findFits_33 (pc2 := 34) rfl rfl 4 rfl ?_
    refine lu_bipush X dX12_findFits_34 (pc2 := 36) rfl bp_9 ?_
    refine lu_iremK X dX12_findFits_36 (pc2 := 37) rfl (by decide) ?_
    refine lu_iadd X dX12_findFits_37 (pc2 := 38) rfl ?_
    refine lu_topi (fun x4 => ?_)
    refine lu_istore (lv2 := [(5, .int x4), (4, .int x3), (3, .int x2), (0, .ref (ρ 0)), (1, .int a1), (2, .int v2)]) X dX12_findFits_38 (pc2 := 40) rfl (by decide) rfl ?_
    refine lu_aload_n X dX12_findFits_40 (pc2 := 41) rfl rfl 3 rfl ?_
    refine lu_iload_n X dX12_findFits_41 (pc2 := 42) rfl rfl 2 rfl ?_
    refine lu_iload X dX12_findFits_42 (pc2 := 44) rfl 1 rfl ?_
    refine lu_iload X dX12_findFits_44 (pc2 := 46) rfl 0 rfl ?_
    refine lu_iload_n X dX12_findFits_46 (pc2 := 47) rfl rfl 4 rfl ?_
    refine lu_invVi X (c12_isFit _ x2 x3 x4 a1) rfl q1549 mvV_12_isFit kM_0 lM_0 (by decide) ⟨_, rfl, rfl⟩ rfl rfl (Nat.le_of_ble_eq_true rfl) (Nat.le_of_ble_eq_true rfl) (Nat.le_of_ble_eq_true rfl) ⟨Nat.zero_le _, Nat.zero_le _⟩ dX12_findFits_47 (pc2 := 50) rfl rfl (fun x5 m6 => ?_)
    refine lu_if_eq (tgt := 122) X dX12_findFits_50 (pc2 := 53) rfl (by decide) (fun _ => ?_) (fun _ => ?_)
    · exact lu_sub [3, 4, 5] rfl (w12_findFits_b122 X hret hrec hK128 v2 m6)
    · refine lu_aload_n X dX12_findFits_53 (pc2 := 54) rfl rfl 3 rfl ?_
      refine lu_aload_n X dX12_findFits_54 (pc2 := 55) rfl rfl 3 rfl ?_
      refine lu_get X fl12_238 rfl kM_0 lM_0 dX12_findFits_55 (pc2 := 58) rfl ?_
      refine lu_if_ne (tgt := 65) X dX12_findFits_58 (pc2 := 61) rfl (by decide) (fun _ => ?_) (fun _ => ?_)
      · refine lu_aload_n X dX12_findFits_65 (pc2 := 66) rfl rfl 3 rfl ?_
        refine lu_get X fl12_244 rfl kM_0 lM_0 dX12_findFits_66 (pc2 := 69) rfl ?_
        exact lu_sub [3, 4, 5, 1, 0] rfl (w12_findFits_b69 X hret hrec hK128 v2 x3 x4 (m6 0 17) m6)
      · refine lu_iload_n X dX12_findFits_61 (pc2 := 62) rfl rfl 2 rfl ?_
        refine lu_goto (tgt := 69) X dX12_findFits_62 (by decide) ?_
        exact lu_sub [3, 4, 5, 1, 0] rfl (w12_findFits_b69 X hret hrec hK128 v2 x3 x4 x2 m6)
theorem w12_findFits_b7  {G : lu_G} {ρ : Nat → Nat} {a1 : Int32} {K128 : lu_M → Option (lu_M)} (X : lu_X G RX12 cX12_findFits 6 3 75) (hret : (lu_me G).sig.returnType = none)  (hK128 : ∀  (m : lu_M), lu_Ab lu_TM G (lu_Q lu_TM G ρ lu_RVv lu_id) (K128 m) 128 [] [] ρ 0 0 [] m) : ∀ (n : Nat) (v2 : Int32) (m : lu_M), lu_Ab lu_TM G (lu_Q lu_TM G ρ lu_RVv lu_id) (f12_findFits_b7 K128 a1 n v2 m) 7 [(0, .ref (ρ 0)), (1, .int a1), (2, .int v2)] [] ρ 0 0 [] m := by
  intro n
  induction n with
  | zero => intro v2 m; exact lu_none
  | succ n ih => intro v2 m; exact w12_findFits_b7B X hret hK128 ih v2 m
def f12_findFits_b128  (a1 : Int32)  (m : lu_M) : Option (lu_M) :=
  some m
set_option maxRecDepth 20000 in
theorem w12_findFits_b128  {G : lu_G} {ρ : Nat → Nat} {a1 : Int32}  (X : lu_X G RX12 cX12_findFits 6 3 75) (hret : (lu_me G).sig.returnType = none)   : ∀  (m : lu_M), lu_Ab lu_TM G (lu_Q lu_TM G ρ lu_RVv lu_id) (f12_findFits_b128 a1 m) 128 [] [] ρ 0 0 [] m := by
  intro  m
  unfold f12_findFits_b128
  exact lu_vret X hret dX12_findFits_128
def f12_findFits (a1 : Int32) (m : lu_M) : Option (lu_M) :=
  lu_nm (lu_st m 0 16 (0 : Int32)) fun m1 =>
  f12_findFits_b7 (f12_findFits_b128 a1) a1 lu_fu (0 : Int32) m1
set_option maxRecDepth 20000 in
theorem c12_findFits (l : Launch)   (a1 : Int32) : lu_C lu_TM l yX12_findFits cX12_findFits 6 none 3 75 (fun ρ sa => [.ref (ρ 0), .int a1]) (f12_findFits a1) lu_RVv lu_id := by
  refine lu_met (cls := RX12) rfl (by decide +kernel) (fun _ _ => Nat.le_of_ble_eq_true rfl) ?_
  intro G ρ m hl X hret
  subst hl
  change lu_Ab lu_TM G (lu_Q lu_TM G ρ lu_RVv lu_id) (f12_findFits a1 m) 0 [(0, .ref (ρ 0)), (1, .int a1)] [] ρ 0 0 [] m
  unfold f12_findFits
  refine lu_aload_n X dX12_findFits_0 (pc2 := 1) rfl rfl 0 rfl ?_
  refine lu_iconst X dX12_findFits_1 (pc2 := 2) rfl ic_0 ?_
  refine lu_put X fl12_238 rfl (Or.inl (by decide)) rfl (by decide +kernel) kM_0 lM_0 dX12_findFits_2 (pc2 := 5) rfl (fun m1 => ?_)
  refine lu_iconst X dX12_findFits_5 (pc2 := 6) rfl ic_0 ?_
  refine lu_istore_n (lv2 := [(2, .int (0 : Int32)), (0, .ref (ρ 0)), (1, .int a1)]) X dX12_findFits_6 (pc2 := 7) rfl rfl (by decide) rfl ?_
  exact lu_sub [1, 2, 0] rfl (w12_findFits_b7 X hret (w12_findFits_b128 X hret) lu_fu (0 : Int32) m1)

theorem dX12_span_0 : decode cX12_span 0 = .ok (.iload_n 1, 1) := by decide +kernel
theorem dX12_span_1 : decode cX12_span 1 = .ok (.i2l, 1) := by decide +kernel
theorem dX12_span_2 : decode cX12_span 2 = .ok (.lconst 0, 1) := by decide +kernel
theorem dX12_span_3 : decode cX12_span 3 = .ok (.ldc2_w 220, 3) := by decide +kernel
theorem dX12_span_6 : decode cX12_span 6 = .ok (.invokestatic 64, 3) := by decide +kernel
theorem dX12_span_9 : decode cX12_span 9 = .ok (.ifCond .ne 5, 3) := by decide +kernel
theorem dX12_span_12 : decode cX12_span 12 = .ok (.iconst (-1), 1) := by decide +kernel
theorem dX12_span_13 : decode cX12_span 13 = .ok (.ireturn, 1) := by decide +kernel
theorem dX12_span_14 : decode cX12_span 14 = .ok (.aload_n 0, 1) := by decide +kernel
theorem dX12_span_15 : decode cX12_span 15 = .ok (.iconst (-1), 1) := by decide +kernel
theorem dX12_span_16 : decode cX12_span 16 = .ok (.invokevirtual 253, 3) := by decide +kernel
theorem dX12_span_19 : decode cX12_span 19 = .ok (.iload_n 1, 1) := by decide +kernel
theorem dX12_span_20 : decode cX12_span 20 = .ok (.ifCond .eq 10, 3) := by decide +kernel
theorem dX12_span_23 : decode cX12_span 23 = .ok (.aload_n 0, 1) := by decide +kernel
theorem dX12_span_24 : decode cX12_span 24 = .ok (.getfield 238, 3) := by decide +kernel
theorem dX12_span_27 : decode cX12_span 27 = .ok (.ifCond .ne 17, 3) := by decide +kernel
theorem dX12_span_30 : decode cX12_span 30 = .ok (.iload_n 1, 1) := by decide +kernel
theorem dX12_span_31 : decode cX12_span 31 = .ok (.ifCond .ne 10, 3) := by decide +kernel
theorem dX12_span_34 : decode cX12_span 34 = .ok (.aload_n 0, 1) := by decide +kernel
theorem dX12_span_35 : decode cX12_span 35 = .ok (.getfield 238, 3) := by decide +kernel
theorem dX12_span_38 : decode cX12_span 38 = .ok (.goto 5, 3) := by decide +kernel
theorem dX12_span_41 : decode cX12_span 41 = .ok (.bipush (-3), 2) := by decide +kernel
theorem dX12_span_43 : decode cX12_span 43 = .ok (.ireturn, 1) := by decide +kernel
theorem dX12_span_44 : decode cX12_span 44 = .ok (.iload_n 1, 1) := by decide +kernel
theorem dX12_span_45 : decode cX12_span 45 = .ok (.iconst 1, 1) := by decide +kernel
theorem dX12_span_46 : decode cX12_span 46 = .ok (.if_icmp .ne 10, 3) := by decide +kernel
theorem dX12_span_49 : decode cX12_span 49 = .ok (.aload_n 0, 1) := by decide +kernel
theorem dX12_span_50 : decode cX12_span 50 = .ok (.getfield 244, 3) := by decide +kernel
theorem dX12_span_53 : decode cX12_span 53 = .ok (.goto 19, 3) := by decide +kernel
theorem dX12_span_56 : decode cX12_span 56 = .ok (.iload_n 1, 1) := by decide +kernel
theorem dX12_span_57 : decode cX12_span 57 = .ok (.iconst 2, 1) := by decide +kernel
theorem dX12_span_58 : decode cX12_span 58 = .ok (.if_icmp .ne 10, 3) := by decide +kernel
theorem dX12_span_61 : decode cX12_span 61 = .ok (.aload_n 0, 1) := by decide +kernel
theorem dX12_span_62 : decode cX12_span 62 = .ok (.getfield 247, 3) := by decide +kernel
theorem dX12_span_65 : decode cX12_span 65 = .ok (.goto 7, 3) := by decide +kernel
theorem dX12_span_68 : decode cX12_span 68 = .ok (.aload_n 0, 1) := by decide +kernel
theorem dX12_span_69 : decode cX12_span 69 = .ok (.getfield 250, 3) := by decide +kernel
theorem dX12_span_72 : decode cX12_span 72 = .ok (.ireturn, 1) := by decide +kernel
def f12_span_b43  (a1 : Int32) (s0 : Int32) (m : lu_M) : Option (Int32 × lu_M) :=
  some (s0, m)
set_option maxRecDepth 20000 in
theorem w12_span_b43  {G : lu_G} {ρ : Nat → Nat} {a1 : Int32}  (X : lu_X G RX12 cX12_span 2 4 100) (hret : (lu_me G).sig.returnType = (some .int))   : ∀ (s0 : Int32) (m : lu_M), lu_Ab lu_TM G (lu_Q lu_TM G ρ lu_RVi lu_sn) (f12_span_b43 a1 s0 m) 43 [] [.int s0] ρ 0 0 [] m := by
  intro s0 m
  unfold f12_span_b43
  exact lu_iret X hret dX12_span_43
def f12_span_b30  (a1 : Int32)  (m : lu_M) : Option (Int32 × lu_M) :=
  if a1 = 0 then (f12_span_b43 a1 (m 0 16) m)
  else (f12_span_b43 a1 (-3 : Int32) m)
set_option maxRecDepth 20000 in
theorem w12_span_b30  {G : lu_G} {ρ : Nat → Nat} {a1 : Int32}  (X : lu_X G RX12 cX12_span 2 4 100) (hret : (lu_me G).sig.returnType = (some .int))   : ∀  (m : lu_M), lu_Ab lu_TM G (lu_Q lu_TM G ρ lu_RVi lu_sn) (f12_span_b30 a1 m) 30 [(0, .ref (ρ 0)), (1, .int a1)] [] ρ 0 0 [] m := by
  intro  m
  unfold f12_span_b30
  refine lu_iload_n X dX12_span_30 (pc2 := 31) rfl rfl 1 rfl ?_
  refine lu_if_ne (tgt := 41) X dX12_span_31 (pc2 := 34) rfl (by decide) (fun _ => ?_) (fun _ => ?_)
  · refine lu_bipush X dX12_span_41 (pc2 := 43) rfl bp_m3 ?_
    exact lu_sub [] rfl (w12_span_b43 X hret (-3 : Int32) m)
  · refine lu_aload_n X dX12_span_34 (pc2 := 35) rfl rfl 0 rfl ?_
    refine lu_get X fl12_238 rfl kM_0 lM_0 dX12_span_35 (pc2 := 38) rfl ?_
    refine lu_goto (tgt := 43) X dX12_span_38 (by decide) ?_
    exact lu_sub [] rfl (w12_span_b43 X hret (m 0 16) m)
def f12_span_b72  (a1 : Int32) (s0 : Int32) (m : lu_M) : Option (Int32 × lu_M) :=
  some (s0, m)
set_option maxRecDepth 20000 in
theorem w12_span_b72  {G : lu_G} {ρ : Nat → Nat} {a1 : Int32}  (X : lu_X G RX12 cX12_span 2 4 100) (hret : (lu_me G).sig.returnType = (some .int))   : ∀ (s0 : Int32) (m : lu_M), lu_Ab lu_TM G (lu_Q lu_TM G ρ lu_RVi lu_sn) (f12_span_b72 a1 s0 m) 72 [] [.int s0] ρ 0 0 [] m := by
  intro s0 m
  unfold f12_span_b72
  exact lu_iret X hret dX12_span_72
def f12_span (a1 : Int32) (m : lu_M) : Option (Int32 × lu_M) :=
  lu_bi (f12_in a1.toInt64 (0 : Int64) (3 : Int64) m) fun x1 m2 =>
  if x1 = 0 then (some ((-1 : Int32), m2))
  else (lu_bv (f12_findFits (-1 : Int32) m2) fun m3 =>
  if a1 = 0 then (f12_span_b30 a1 m3)
  else (if (m3 0 16) = 0 then (f12_span_b30 a1 m3)
  else (if a1 = (1 : Int32) then (f12_span_b72 a1 (m3 0 17) m3)
  else (if a1 = (2 : Int32) then (f12_span_b72 a1 (m3 0 18) m3)
  else (f12_span_b72 a1 (m3 0 19) m3)))))
set_option maxRecDepth 20000 in
theorem c12_span (l : Launch)   (a1 : Int32) : lu_C lu_TM l yX12_span cX12_span 2 (some .int) 4 100 (fun ρ sa => [.ref (ρ 0), .int a1]) (f12_span a1) lu_RVi lu_sn := by
  refine lu_met (cls := RX12) rfl (by decide +kernel) (fun _ _ => Nat.le_of_ble_eq_true rfl) ?_
  intro G ρ m hl X hret
  subst hl
  change lu_Ab lu_TM G (lu_Q lu_TM G ρ lu_RVi lu_sn) (f12_span a1 m) 0 [(0, .ref (ρ 0)), (1, .int a1)] [] ρ 0 0 [] m
  unfold f12_span
  refine lu_iload_n X dX12_span_0 (pc2 := 1) rfl rfl 1 rfl ?_
  refine lu_i2l X dX12_span_1 (pc2 := 2) rfl ?_
  refine lu_lconst (v := (0 : Int64)) X dX12_span_2 (pc2 := 3) rfl (by decide) ?_
  refine lu_ldc2 X q1503 dX12_span_3 (pc2 := 6) rfl ?_
  refine lu_invSi X (c12_in _ a1.toInt64 (0 : Int64) (3 : Int64)) rfl q1261 mvS_12_in rfl rfl (Nat.le_of_ble_eq_true rfl) (Nat.le_of_ble_eq_true rfl) (Nat.le_of_ble_eq_true rfl) ⟨Nat.zero_le _, Nat.zero_le _⟩ dX12_span_6 (pc2 := 9) rfl rfl (fun x1 m2 => ?_)
  refine lu_if_ne (tgt := 14) X dX12_span_9 (pc2 := 12) rfl (by decide) (fun _ => ?_) (fun _ => ?_)
  · refine lu_aload_n X dX12_span_14 (pc2 := 15) rfl rfl 0 rfl ?_
    refine lu_iconst X dX12_span_15 (pc2 := 16) rfl ic_m1 ?_
    refine lu_invVv X (c12_findFits _ (-1 : Int32)) rfl q1545 mvV_12_findFits kM_0 lM_0 (by decide) ⟨_, rfl, rfl⟩ rfl rfl (Nat.le_of_ble_eq_true rfl) (Nat.le_of_ble_eq_true rfl) (Nat.le_of_ble_eq_true rfl) ⟨Nat.zero_le _, Nat.zero_le _⟩ dX12_span_16 (pc2 := 19) rfl rfl (fun m3 => ?_)
    refine lu_iload_n X dX12_span_19 (pc2 := 20) rfl rfl 1 rfl ?_
    refine lu_if_eq (tgt := 30) X dX12_span_20 (pc2 := 23) rfl (by decide) (fun _ => ?_) (fun _ => ?_)
    · exact w12_span_b30 X hret m3
    · refine lu_aload_n X dX12_span_23 (pc2 := 24) rfl rfl 0 rfl ?_
      refine lu_get X fl12_238 rfl kM_0 lM_0 dX12_span_24 (pc2 := 27) rfl ?_
      refine lu_if_ne (tgt := 44) X dX12_span_27 (pc2 := 30) rfl (by decide) (fun _ => ?_) (fun _ => ?_)
      · refine lu_iload_n X dX12_span_44 (pc2 := 45) rfl rfl 1 rfl ?_
        refine lu_iconst X dX12_span_45 (pc2 := 46) rfl ic_1 ?_
        refine lu_icmp_ne (tgt := 56) X dX12_span_46 (pc2 := 49) rfl (by decide) (fun _ => ?_) (fun _ => ?_)
        · refine lu_iload_n X dX12_span_56 (pc2 := 57) rfl rfl 1 rfl ?_
          refine lu_iconst X dX12_span_57 (pc2 := 58) rfl ic_2 ?_
          refine lu_icmp_ne (tgt := 68) X dX12_span_58 (pc2 := 61) rfl (by decide) (fun _ => ?_) (fun _ => ?_)
          · refine lu_aload_n X dX12_span_68 (pc2 := 69) rfl rfl 0 rfl ?_
            refine lu_get X fl12_250 rfl kM_0 lM_0 dX12_span_69 (pc2 := 72) rfl ?_
            exact lu_sub [] rfl (w12_span_b72 X hret (m3 0 19) m3)
          · refine lu_aload_n X dX12_span_61 (pc2 := 62) rfl rfl 0 rfl ?_
            refine lu_get X fl12_247 rfl kM_0 lM_0 dX12_span_62 (pc2 := 65) rfl ?_
            refine lu_goto (tgt := 72) X dX12_span_65 (by decide) ?_
            exact lu_sub [] rfl (w12_span_b72 X hret (m3 0 18) m3)
        · refine lu_aload_n X dX12_span_49 (pc2 := 50) rfl rfl 0 rfl ?_
          refine lu_get X fl12_244 rfl kM_0 lM_0 dX12_span_50 (pc2 := 53) rfl ?_
          refine lu_goto (tgt := 72) X dX12_span_53 (by decide) ?_
          exact lu_sub [] rfl (w12_span_b72 X hret (m3 0 17) m3)
      · exact w12_span_b30 X hret m3
  · refine lu_iconst X dX12_span_12 (pc2 := 13) rfl ic_m1 ?_
    exact lu_iret X hret dX12_span_13

theorem dX12_liar_0 : decode cX12_liar 0 = .ok (.aload_n 0, 1) := by decide +kernel
theorem dX12_liar_1 : decode cX12_liar 1 = .ok (.iconst (-1), 1) := by decide +kernel
theorem dX12_liar_2 : decode cX12_liar 2 = .ok (.invokevirtual 253, 3) := by decide +kernel
theorem dX12_liar_5 : decode cX12_liar 5 = .ok (.aload_n 0, 1) := by decide +kernel
theorem dX12_liar_6 : decode cX12_liar 6 = .ok (.getfield 238, 3) := by decide +kernel
theorem dX12_liar_9 : decode cX12_liar 9 = .ok (.ifCond .ne 7, 3) := by decide +kernel
theorem dX12_liar_12 : decode cX12_liar 12 = .ok (.iconst 1, 1) := by decide +kernel
theorem dX12_liar_13 : decode cX12_liar 13 = .ok (.goto 4, 3) := by decide +kernel
theorem dX12_liar_16 : decode cX12_liar 16 = .ok (.iconst 0, 1) := by decide +kernel
theorem dX12_liar_17 : decode cX12_liar 17 = .ok (.istore_n 1, 1) := by decide +kernel
theorem dX12_liar_18 : decode cX12_liar 18 = .ok (.iconst 0, 1) := by decide +kernel
theorem dX12_liar_19 : decode cX12_liar 19 = .ok (.istore_n 2, 1) := by decide +kernel
theorem dX12_liar_20 : decode cX12_liar 20 = .ok (.iload_n 2, 1) := by decide +kernel
theorem dX12_liar_21 : decode cX12_liar 21 = .ok (.aload_n 0, 1) := by decide +kernel
theorem dX12_liar_22 : decode cX12_liar 22 = .ok (.getfield 7, 3) := by decide +kernel
theorem dX12_liar_25 : decode cX12_liar 25 = .ok (.bipush 6, 2) := by decide +kernel
theorem dX12_liar_27 : decode cX12_liar 27 = .ok (.iaload, 1) := by decide +kernel
theorem dX12_liar_28 : decode cX12_liar 28 = .ok (.if_icmp .ge 27, 3) := by decide +kernel
theorem dX12_liar_31 : decode cX12_liar 31 = .ok (.iload_n 1, 1) := by decide +kernel
theorem dX12_liar_32 : decode cX12_liar 32 = .ok (.ifCond .eq 23, 3) := by decide +kernel
theorem dX12_liar_35 : decode cX12_liar 35 = .ok (.aload_n 0, 1) := by decide +kernel
theorem dX12_liar_36 : decode cX12_liar 36 = .ok (.iload_n 2, 1) := by decide +kernel
theorem dX12_liar_37 : decode cX12_liar 37 = .ok (.invokevirtual 253, 3) := by decide +kernel
theorem dX12_liar_40 : decode cX12_liar 40 = .ok (.aload_n 0, 1) := by decide +kernel
theorem dX12_liar_41 : decode cX12_liar 41 = .ok (.getfield 238, 3) := by decide +kernel
theorem dX12_liar_44 : decode cX12_liar 44 = .ok (.ifCond .le 5, 3) := by decide +kernel
theorem dX12_liar_47 : decode cX12_liar 47 = .ok (.iload_n 2, 1) := by decide +kernel
theorem dX12_liar_48 : decode cX12_liar 48 = .ok (.ireturn, 1) := by decide +kernel
theorem dX12_liar_49 : decode cX12_liar 49 = .ok (.iinc 2 1, 3) := by decide +kernel
theorem dX12_liar_52 : decode cX12_liar 52 = .ok (.goto (-32), 3) := by decide +kernel
theorem dX12_liar_55 : decode cX12_liar 55 = .ok (.bipush (-3), 2) := by decide +kernel
theorem dX12_liar_57 : decode cX12_liar 57 = .ok (.ireturn, 1) := by decide +kernel
def f12_liar_b20B (K47 : Int32 → lu_M → Option (Int32 × lu_M)) (K55 : lu_M → Option (Int32 × lu_M)) (rec : Int32 → Int32 → lu_M → Option (Int32 × lu_M))  (v1 : Int32) (v2 : Int32) (m : lu_M) : Option (Int32 × lu_M) :=
  if (m 1 6) ≤ v2 then (K55 m)
  else (if v1 = 0 then (K55 m)
  else (lu_bv (f12_findFits v2 m) fun m2 =>
  if (m2 0 16) ≤ 0 then (rec v1 (v2 + (1 : Int32)) m2)
  else (K47 v2 m2)))
def f12_liar_b20 (K47 : Int32 → lu_M → Option (Int32 × lu_M)) (K55 : lu_M → Option (Int32 × lu_M))  : Nat → Int32 → Int32 → lu_M → Option (Int32 × lu_M)
  | 0, _, _, _ => none
  | n + 1, v1, v2, m => f12_liar_b20B K47 K55 (f12_liar_b20 K47 K55 n) v1 v2 m
set_option maxRecDepth 20000 in
theorem w12_liar_b20B  {G : lu_G} {ρ : Nat → Nat}  {K47 : Int32 → lu_M → Option (Int32 × lu_M)} {K55 : lu_M → Option (Int32 × lu_M)} {rec : Int32 → Int32 → lu_M → Option (Int32 × lu_M)} (X : lu_X G RX12 cX12_liar 3 4 100) (hret : (lu_me G).sig.returnType = (some .int))  (hK47 : ∀ (v2 : Int32) (m : lu_M), lu_Ab lu_TM G (lu_Q lu_TM G ρ lu_RVi lu_sn) (K47 v2 m) 47 [(2, .int v2)] [] ρ 0 0 [] m) (hK55 : ∀  (m : lu_M), lu_Ab lu_TM G (lu_Q lu_TM G ρ lu_RVi lu_sn) (K55 m) 55 [] [] ρ 0 0 [] m) (hrec : ∀ (v1 : Int32) (v2 : Int32) (m : lu_M), lu_Ab lu_TM G (lu_Q lu_TM G ρ lu_RVi lu_sn) (rec v1 v2 m) 20 [(0, .ref (ρ 0)), (1, .int v1), (2, .int v2)] [] ρ 0 0 [] m) : ∀ (v1 : Int32) (v2 : Int32) (m : lu_M), lu_Ab lu_TM G (lu_Q lu_TM G ρ lu_RVi lu_sn) (f12_liar_b20B K47 K55 rec v1 v2 m) 20 [(0, .ref (ρ 0)), (1, .int v1), (2, .int v2)] [] ρ 0 0 [] m := by
  intro v1 v2 m
  unfold f12_liar_b20B
  refine lu_iload_n X dX12_liar_20 (pc2 := 21) rfl rfl 2 rfl ?_
  refine lu_aload_n X dX12_liar_21 (pc2 := 22) rfl rfl 0 rfl ?_
  refine lu_getr (r2 := 1) X rfl fl12_7 rfl kM_0 lM_0 dX12_liar_22 (pc2 := 25) rfl ?_
  refine lu_bipush X dX12_liar_25 (pc2 := 27) rfl bp_6 ?_
  refine lu_ialdK (q := 6) X (by decide) kM_1 lM_1 dX12_liar_27 (pc2 := 28) rfl ?_
  refine lu_icmp_ge (tgt := 55) X dX12_liar_28 (pc2 := 31) rfl (by decide) (fun _ => ?_) (fun _ => ?_)
  · exact lu_sub [] rfl (hK55 m)
  · refine lu_iload_n X dX12_liar_31 (pc2 := 32) rfl rfl 1 rfl ?_
    refine lu_if_eq (tgt := 55) X dX12_liar_32 (pc2 := 35) rfl (by decide) (fun _ => ?_) (fun _ => ?_)
    · exact lu_sub [] rfl (hK55 m)
    · refine lu_aload_n X dX12_liar_35 (pc2 := 36) rfl rfl 0 rfl ?_
      refine lu_iload_n X dX12_liar_36 (pc2 := 37) rfl rfl 2 rfl ?_
      refine lu_invVv X (c12_findFits _ v2) rfl q1545 mvV_12_findFits kM_0 lM_0 (by decide) ⟨_, rfl, rfl⟩ rfl rfl (Nat.le_of_ble_eq_true rfl) (Nat.le_of_ble_eq_true rfl) (Nat.le_of_ble_eq_true rfl) ⟨Nat.zero_le _, Nat.zero_le _⟩ dX12_liar_37 (pc2 := 40) rfl rfl (fun m2 => ?_)
      refine lu_aload_n X dX12_liar_40 (pc2 := 41) rfl rfl 0 rfl ?_
      refine lu_get X fl12_238 rfl kM_0 lM_0 dX12_liar_41 (pc2 := 44) rfl ?_
      refine lu_if_le (tgt := 49) X dX12_liar_44 (pc2 := 47) rfl (by decide) (fun _ => ?_) (fun _ => ?_)
      · refine lu_iinc (lv2 := [(2, .int (v2 + (1 : Int32))), (0, .ref (ρ 0)), (1, .int v1)]) X dX12_liar_49 (pc2 := 52) rfl 2 rfl (lu_ii _ ic_1) (by decide) rfl ?_
        refine lu_goto (tgt := 20) X dX12_liar_52 (by decide) ?_
        exact lu_sub [1, 2, 0] rfl (hrec v1 (v2 + (1 : Int32)) m2)
      · exact lu_sub [2] rfl (hK47 v2 m2)
theorem w12_liar_b20  {G : lu_G} {ρ : Nat → Nat}  {K47 : Int32 → lu_M → Option (Int32 × lu_M)} {K55 : lu_M → Option (Int32 × lu_M)} (X : lu_X G RX12 cX12_liar 3 4 100) (hret : (lu_me G).sig.returnType = (some .int))  (hK47 : ∀ (v2 : Int32) (m : lu_M), lu_Ab lu_TM G (lu_Q lu_TM G ρ lu_RVi lu_sn) (K47 v2 m) 47 [(2, .int v2)] [] ρ 0 0 [] m) (hK55 : ∀  (m : lu_M), lu_Ab lu_TM G (lu_Q lu_TM G ρ lu_RVi lu_sn) (K55 m) 55 [] [] ρ 0 0 [] m) : ∀ (n : Nat) (v1 : Int32) (v2 : Int32) (m : lu_M), lu_Ab lu_TM G (lu_Q lu_TM G ρ lu_RVi lu_sn) (f12_liar_b20 K47 K55 n v1 v2 m) 20 [(0, .ref (ρ 0)), (1, .int v1), (2, .int v2)] [] ρ 0 0 [] m := by
  intro n
  induction n with
  | zero => intro v1 v2 m; exact lu_none
  | succ n ih => intro v1 v2 m; exact w12_liar_b20B X hret hK47 hK55 ih v1 v2 m
def f12_liar_b47   (v2 : Int32) (m : lu_M) : Option (Int32 × lu_M) :=
  some (v2, m)
set_option maxRecDepth 20000 in
theorem w12_liar_b47  {G : lu_G} {ρ : Nat → Nat}   (X : lu_X G RX12 cX12_liar 3 4 100) (hret : (lu_me G).sig.returnType = (some .int))   : ∀ (v2 : Int32) (m : lu_M), lu_Ab lu_TM G (lu_Q lu_TM G ρ lu_RVi lu_sn) (f12_liar_b47  v2 m) 47 [(2, .int v2)] [] ρ 0 0 [] m := by
  intro v2 m
  unfold f12_liar_b47
  refine lu_iload_n X dX12_liar_47 (pc2 := 48) rfl rfl 0 rfl ?_
  exact lu_iret X hret dX12_liar_48
def f12_liar_b55    (m : lu_M) : Option (Int32 × lu_M) :=
  some ((-3 : Int32), m)
set_option maxRecDepth 20000 in
theorem w12_liar_b55  {G : lu_G} {ρ : Nat → Nat}   (X : lu_X G RX12 cX12_liar 3 4 100) (hret : (lu_me G).sig.returnType = (some .int))   : ∀  (m : lu_M), lu_Ab lu_TM G (lu_Q lu_TM G ρ lu_RVi lu_sn) (f12_liar_b55  m) 55 [] [] ρ 0 0 [] m := by
  intro  m
  unfold f12_liar_b55
  refine lu_bipush X dX12_liar_55 (pc2 := 57) rfl bp_m3 ?_
  exact lu_iret X hret dX12_liar_57
def f12_liar_b17   (s0 : Int32) (m : lu_M) : Option (Int32 × lu_M) :=
  f12_liar_b20 f12_liar_b47 f12_liar_b55 lu_fu s0 (0 : Int32) m
set_option maxRecDepth 20000 in
theorem w12_liar_b17  {G : lu_G} {ρ : Nat → Nat}   (X : lu_X G RX12 cX12_liar 3 4 100) (hret : (lu_me G).sig.returnType = (some .int))   : ∀ (s0 : Int32) (m : lu_M), lu_Ab lu_TM G (lu_Q lu_TM G ρ lu_RVi lu_sn) (f12_liar_b17  s0 m) 17 [(0, .ref (ρ 0))] [.int s0] ρ 0 0 [] m := by
  intro s0 m
  unfold f12_liar_b17
  refine lu_istore_n (lv2 := [(1, .int s0), (0, .ref (ρ 0))]) X dX12_liar_17 (pc2 := 18) rfl rfl (by decide) rfl ?_
  refine lu_iconst X dX12_liar_18 (pc2 := 19) rfl ic_0 ?_
  refine lu_istore_n (lv2 := [(2, .int (0 : Int32)), (1, .int s0), (0, .ref (ρ 0))]) X dX12_liar_19 (pc2 := 20) rfl rfl (by decide) rfl ?_
  exact lu_sub [2, 1, 0] rfl (w12_liar_b20 X hret (w12_liar_b47 X hret) (w12_liar_b55 X hret) lu_fu s0 (0 : Int32) m)
def f12_liar  (m : lu_M) : Option (Int32 × lu_M) :=
  lu_bv (f12_findFits (-1 : Int32) m) fun m1 =>
  if (m1 0 16) = 0 then (f12_liar_b17 (1 : Int32) m1)
  else (f12_liar_b17 (0 : Int32) m1)
set_option maxRecDepth 20000 in
theorem c12_liar (l : Launch)    : lu_C lu_TM l yX12_liar cX12_liar 3 (some .int) 4 100 (fun ρ sa => [.ref (ρ 0)]) (f12_liar ) lu_RVi lu_sn := by
  refine lu_met (cls := RX12) rfl (by decide +kernel) (fun _ _ => Nat.le_of_ble_eq_true rfl) ?_
  intro G ρ m hl X hret
  subst hl
  change lu_Ab lu_TM G (lu_Q lu_TM G ρ lu_RVi lu_sn) (f12_liar  m) 0 [(0, .ref (ρ 0))] [] ρ 0 0 [] m
  unfold f12_liar
  refine lu_aload_n X dX12_liar_0 (pc2 := 1) rfl rfl 0 rfl ?_
  refine lu_iconst X dX12_liar_1 (pc2 := 2) rfl ic_m1 ?_
  refine lu_invVv X (c12_findFits _ (-1 : Int32)) rfl q1545 mvV_12_findFits kM_0 lM_0 (by decide) ⟨_, rfl, rfl⟩ rfl rfl (Nat.le_of_ble_eq_true rfl) (Nat.le_of_ble_eq_true rfl) (Nat.le_of_ble_eq_true rfl) ⟨Nat.zero_le _, Nat.zero_le _⟩ dX12_liar_2 (pc2 := 5) rfl rfl (fun m1 => ?_)
  refine lu_aload_n X dX12_liar_5 (pc2 := 6) rfl rfl 0 rfl ?_
  refine lu_get X fl12_238 rfl kM_0 lM_0 dX12_liar_6 (pc2 := 9) rfl ?_
  refine lu_if_ne (tgt := 16) X dX12_liar_9 (pc2 := 12) rfl (by decide) (fun _ => ?_) (fun _ => ?_)
  · refine lu_iconst X dX12_liar_16 (pc2 := 17) rfl ic_0 ?_
    exact w12_liar_b17 X hret (0 : Int32) m1
  · refine lu_iconst X dX12_liar_12 (pc2 := 13) rfl ic_1 ?_
    refine lu_goto (tgt := 17) X dX12_liar_13 (by decide) ?_
    exact w12_liar_b17 X hret (1 : Int32) m1

theorem dX12_seed_0 : decode cX12_seed 0 = .ok (.aload_n 0, 1) := by decide +kernel
theorem dX12_seed_1 : decode cX12_seed 1 = .ok (.bipush 7, 2) := by decide +kernel
theorem dX12_seed_3 : decode cX12_seed 3 = .ok (.iload_n 1, 1) := by decide +kernel
theorem dX12_seed_4 : decode cX12_seed 4 = .ok (.invokevirtual 111, 3) := by decide +kernel
theorem dX12_seed_7 : decode cX12_seed 7 = .ok (.ireturn, 1) := by decide +kernel
def f12_seed (a1 : Int32) (m : lu_M) : Option (Int32 × lu_M) :=
  lu_bi (f12_becomes (7 : Int32) a1 m) fun x1 m2 =>
  some (x1, m2)
set_option maxRecDepth 20000 in
theorem c12_seed (l : Launch)   (a1 : Int32) : lu_C lu_TM l yX12_seed cX12_seed 2 (some .int) 1 23 (fun ρ sa => [.ref (ρ 0), .int a1]) (f12_seed a1) lu_RVi lu_sn := by
  refine lu_met (cls := RX12) rfl (by decide +kernel) (fun _ _ => Nat.le_of_ble_eq_true rfl) ?_
  intro G ρ m hl X hret
  subst hl
  change lu_Ab lu_TM G (lu_Q lu_TM G ρ lu_RVi lu_sn) (f12_seed a1 m) 0 [(0, .ref (ρ 0)), (1, .int a1)] [] ρ 0 0 [] m
  unfold f12_seed
  refine lu_aload_n X dX12_seed_0 (pc2 := 1) rfl rfl 0 rfl ?_
  refine lu_bipush X dX12_seed_1 (pc2 := 3) rfl bp_7 ?_
  refine lu_iload_n X dX12_seed_3 (pc2 := 4) rfl rfl 1 rfl ?_
  refine lu_invVi X (c12_becomes _ (7 : Int32) a1) rfl q1328 mvV_12_becomes kM_0 lM_0 (by decide) ⟨_, rfl, rfl⟩ rfl rfl (Nat.le_of_ble_eq_true rfl) (Nat.le_of_ble_eq_true rfl) (Nat.le_of_ble_eq_true rfl) ⟨Nat.zero_le _, Nat.zero_le _⟩ dX12_seed_4 (pc2 := 7) rfl rfl (fun x1 m2 => ?_)
  exact lu_iret X hret dX12_seed_7

theorem dX12_byLot_0 : decode cX12_byLot 0 = .ok (.aload_n 0, 1) := by decide +kernel
theorem dX12_byLot_1 : decode cX12_byLot 1 = .ok (.getfield 7, 3) := by decide +kernel
theorem dX12_byLot_4 : decode cX12_byLot 4 = .ok (.bipush 7, 2) := by decide +kernel
theorem dX12_byLot_6 : decode cX12_byLot 6 = .ok (.aload_n 0, 1) := by decide +kernel
theorem dX12_byLot_7 : decode cX12_byLot 7 = .ok (.getfield 7, 3) := by decide +kernel
theorem dX12_byLot_10 : decode cX12_byLot 10 = .ok (.bipush 7, 2) := by decide +kernel
theorem dX12_byLot_12 : decode cX12_byLot 12 = .ok (.iaload, 1) := by decide +kernel
theorem dX12_byLot_13 : decode cX12_byLot 13 = .ok (.ldc_w 256, 3) := by decide +kernel
theorem dX12_byLot_16 : decode cX12_byLot 16 = .ok (.imul, 1) := by decide +kernel
theorem dX12_byLot_17 : decode cX12_byLot 17 = .ok (.sipush 12345, 3) := by decide +kernel
theorem dX12_byLot_20 : decode cX12_byLot 20 = .ok (.iadd, 1) := by decide +kernel
theorem dX12_byLot_21 : decode cX12_byLot 21 = .ok (.iastore, 1) := by decide +kernel
theorem dX12_byLot_22 : decode cX12_byLot 22 = .ok (.aload_n 0, 1) := by decide +kernel
theorem dX12_byLot_23 : decode cX12_byLot 23 = .ok (.aload_n 0, 1) := by decide +kernel
theorem dX12_byLot_24 : decode cX12_byLot 24 = .ok (.getfield 7, 3) := by decide +kernel
theorem dX12_byLot_27 : decode cX12_byLot 27 = .ok (.bipush 7, 2) := by decide +kernel
theorem dX12_byLot_29 : decode cX12_byLot 29 = .ok (.iaload, 1) := by decide +kernel
theorem dX12_byLot_30 : decode cX12_byLot 30 = .ok (.bipush 16, 2) := by decide +kernel
theorem dX12_byLot_32 : decode cX12_byLot 32 = .ok (.iushr, 1) := by decide +kernel
theorem dX12_byLot_33 : decode cX12_byLot 33 = .ok (.aload_n 0, 1) := by decide +kernel
theorem dX12_byLot_34 : decode cX12_byLot 34 = .ok (.getfield 7, 3) := by decide +kernel
theorem dX12_byLot_37 : decode cX12_byLot 37 = .ok (.iconst 0, 1) := by decide +kernel
theorem dX12_byLot_38 : decode cX12_byLot 38 = .ok (.iaload, 1) := by decide +kernel
theorem dX12_byLot_39 : decode cX12_byLot 39 = .ok (.iconst 1, 1) := by decide +kernel
theorem dX12_byLot_40 : decode cX12_byLot 40 = .ok (.iadd, 1) := by decide +kernel
theorem dX12_byLot_41 : decode cX12_byLot 41 = .ok (.irem, 1) := by decide +kernel
theorem dX12_byLot_42 : decode cX12_byLot 42 = .ok (.invokevirtual 146, 3) := by decide +kernel
theorem dX12_byLot_45 : decode cX12_byLot 45 = .ok (.ireturn, 1) := by decide +kernel
def f12_byLot  (m : lu_M) : Option (Int32 × lu_M) :=
  lu_nm (lu_st m 1 7 (((m 1 7) * (1103515245 : Int32)) + (12345 : Int32))) fun m1 =>
  lu_gd (decide (¬ ((m1 1 0) + (1 : Int32)) = 0)) <|
  lu_bi (f12_goes ((((m1 1 7).toUInt32 >>> ((16 : Int32).toUInt32 &&& Int32.toUInt32 31)).toInt32) - (((m1 1 7).toUInt32 >>> ((16 : Int32).toUInt32 &&& Int32.toUInt32 31)).toInt32) / ((m1 1 0) + (1 : Int32)) * ((m1 1 0) + (1 : Int32))) m1) fun x2 m3 =>
  some (x2, m3)
set_option maxRecDepth 20000 in
theorem c12_byLot (l : Launch)    : lu_C lu_TM l yX12_byLot cX12_byLot 1 (some .int) 7 168 (fun ρ sa => [.ref (ρ 0)]) (f12_byLot ) lu_RVi lu_sn := by
  refine lu_met (cls := RX12) rfl (by decide +kernel) (fun _ _ => Nat.le_of_ble_eq_true rfl) ?_
  intro G ρ m hl X hret
  subst hl
  change lu_Ab lu_TM G (lu_Q lu_TM G ρ lu_RVi lu_sn) (f12_byLot  m) 0 [(0, .ref (ρ 0))] [] ρ 0 0 [] m
  unfold f12_byLot
  refine lu_aload_n X dX12_byLot_0 (pc2 := 1) rfl rfl 0 rfl ?_
  refine lu_getr (r2 := 1) X rfl fl12_7 rfl kM_0 lM_0 dX12_byLot_1 (pc2 := 4) rfl ?_
  refine lu_bipush X dX12_byLot_4 (pc2 := 6) rfl bp_7 ?_
  refine lu_aload_n X dX12_byLot_6 (pc2 := 7) rfl rfl 0 rfl ?_
  refine lu_getr (r2 := 1) X rfl fl12_7 rfl kM_0 lM_0 dX12_byLot_7 (pc2 := 10) rfl ?_
  refine lu_bipush X dX12_byLot_10 (pc2 := 12) rfl bp_7 ?_
  refine lu_ialdK (q := 7) X (by decide) kM_1 lM_1 dX12_byLot_12 (pc2 := 13) rfl ?_
  refine lu_ldc_w X q1573 dX12_byLot_13 (pc2 := 16) rfl ?_
  refine lu_imul X dX12_byLot_16 (pc2 := 17) rfl ?_
  refine lu_sipush X dX12_byLot_17 (pc2 := 20) rfl sp_12345 ?_
  refine lu_iadd X dX12_byLot_20 (pc2 := 21) rfl ?_
  refine lu_iastK (q := 7) X (by decide) kM_1 lM_1 dX12_byLot_21 (pc2 := 22) rfl (fun m1 => ?_)
  refine lu_aload_n X dX12_byLot_22 (pc2 := 23) rfl rfl 0 rfl ?_
  refine lu_aload_n X dX12_byLot_23 (pc2 := 24) rfl rfl 0 rfl ?_
  refine lu_getr (r2 := 1) X rfl fl12_7 rfl kM_0 lM_0 dX12_byLot_24 (pc2 := 27) rfl ?_
  refine lu_bipush X dX12_byLot_27 (pc2 := 29) rfl bp_7 ?_
  refine lu_ialdK (q := 7) X (by decide) kM_1 lM_1 dX12_byLot_29 (pc2 := 30) rfl ?_
  refine lu_bipush X dX12_byLot_30 (pc2 := 32) rfl bp_16 ?_
  refine lu_iushr X dX12_byLot_32 (pc2 := 33) rfl ?_
  refine lu_aload_n X dX12_byLot_33 (pc2 := 34) rfl rfl 0 rfl ?_
  refine lu_getr (r2 := 1) X rfl fl12_7 rfl kM_0 lM_0 dX12_byLot_34 (pc2 := 37) rfl ?_
  refine lu_iconst X dX12_byLot_37 (pc2 := 38) rfl ic_0 ?_
  refine lu_ialdK (q := 0) X (by decide) kM_1 lM_1 dX12_byLot_38 (pc2 := 39) rfl ?_
  refine lu_iconst X dX12_byLot_39 (pc2 := 40) rfl ic_1 ?_
  refine lu_iadd X dX12_byLot_40 (pc2 := 41) rfl ?_
  refine lu_irem X dX12_byLot_41 (pc2 := 42) rfl ?_
  refine lu_invVi X (c12_goes _ ((((m1 1 7).toUInt32 >>> ((16 : Int32).toUInt32 &&& Int32.toUInt32 31)).toInt32) - (((m1 1 7).toUInt32 >>> ((16 : Int32).toUInt32 &&& Int32.toUInt32 31)).toInt32) / ((m1 1 0) + (1 : Int32)) * ((m1 1 0) + (1 : Int32)))) rfl q1370 mvV_12_goes kM_0 lM_0 (by decide) ⟨_, rfl, rfl⟩ rfl rfl (Nat.le_of_ble_eq_true rfl) (Nat.le_of_ble_eq_true rfl) (Nat.le_of_ble_eq_true rfl) ⟨Nat.zero_le _, Nat.zero_le _⟩ dX12_byLot_42 (pc2 := 45) rfl rfl (fun x2 m3 => ?_)
  exact lu_iret X hret dX12_byLot_45

theorem dX12_lot_0 : decode cX12_lot 0 = .ok (.aload_n 0, 1) := by decide +kernel
theorem dX12_lot_1 : decode cX12_lot 1 = .ok (.invokevirtual 124, 3) := by decide +kernel
theorem dX12_lot_4 : decode cX12_lot 4 = .ok (.ifCond .eq 8, 3) := by decide +kernel
theorem dX12_lot_7 : decode cX12_lot 7 = .ok (.bipush (-4), 2) := by decide +kernel
theorem dX12_lot_9 : decode cX12_lot 9 = .ok (.goto 7, 3) := by decide +kernel
theorem dX12_lot_12 : decode cX12_lot 12 = .ok (.aload_n 0, 1) := by decide +kernel
theorem dX12_lot_13 : decode cX12_lot 13 = .ok (.invokevirtual 257, 3) := by decide +kernel
theorem dX12_lot_16 : decode cX12_lot 16 = .ok (.ireturn, 1) := by decide +kernel
def f12_lot_b16   (s0 : Int32) (m : lu_M) : Option (Int32 × lu_M) :=
  some (s0, m)
set_option maxRecDepth 20000 in
theorem w12_lot_b16  {G : lu_G} {ρ : Nat → Nat}   (X : lu_X G RX12 cX12_lot 1 8 188) (hret : (lu_me G).sig.returnType = (some .int))   : ∀ (s0 : Int32) (m : lu_M), lu_Ab lu_TM G (lu_Q lu_TM G ρ lu_RVi lu_sn) (f12_lot_b16  s0 m) 16 [] [.int s0] ρ 0 0 [] m := by
  intro s0 m
  unfold f12_lot_b16
  exact lu_iret X hret dX12_lot_16
def f12_lot  (m : lu_M) : Option (Int32 × lu_M) :=
  lu_bi (f12_isOver m) fun x1 m2 =>
  if x1 = 0 then (lu_bi (f12_byLot m2) fun x3 m4 =>
  f12_lot_b16 x3 m4)
  else (f12_lot_b16 (-4 : Int32) m2)
set_option maxRecDepth 20000 in
theorem c12_lot (l : Launch)    : lu_C lu_TM l yX12_lot cX12_lot 1 (some .int) 8 188 (fun ρ sa => [.ref (ρ 0)]) (f12_lot ) lu_RVi lu_sn := by
  refine lu_met (cls := RX12) rfl (by decide +kernel) (fun _ _ => Nat.le_of_ble_eq_true rfl) ?_
  intro G ρ m hl X hret
  subst hl
  change lu_Ab lu_TM G (lu_Q lu_TM G ρ lu_RVi lu_sn) (f12_lot  m) 0 [(0, .ref (ρ 0))] [] ρ 0 0 [] m
  unfold f12_lot
  refine lu_aload_n X dX12_lot_0 (pc2 := 1) rfl rfl 0 rfl ?_
  refine lu_invVi X (c12_isOver _) rfl q1362 mvV_12_isOver kM_0 lM_0 (by decide) ⟨_, rfl, rfl⟩ rfl rfl (Nat.le_of_ble_eq_true rfl) (Nat.le_of_ble_eq_true rfl) (Nat.le_of_ble_eq_true rfl) ⟨Nat.zero_le _, Nat.zero_le _⟩ dX12_lot_1 (pc2 := 4) rfl rfl (fun x1 m2 => ?_)
  refine lu_if_eq (tgt := 12) X dX12_lot_4 (pc2 := 7) rfl (by decide) (fun _ => ?_) (fun _ => ?_)
  · refine lu_aload_n X dX12_lot_12 (pc2 := 13) rfl rfl 0 rfl ?_
    refine lu_invVi X (c12_byLot _) rfl q1569 mvV_12_byLot kM_0 lM_0 (by decide) ⟨_, rfl, rfl⟩ rfl rfl (Nat.le_of_ble_eq_true rfl) (Nat.le_of_ble_eq_true rfl) (Nat.le_of_ble_eq_true rfl) ⟨Nat.zero_le _, Nat.zero_le _⟩ dX12_lot_13 (pc2 := 16) rfl rfl (fun x3 m4 => ?_)
    exact lu_sub [] rfl (w12_lot_b16 X hret x3 m4)
  · refine lu_bipush X dX12_lot_7 (pc2 := 9) rfl bp_m4 ?_
    refine lu_goto (tgt := 16) X dX12_lot_9 (by decide) ?_
    exact lu_sub [] rfl (w12_lot_b16 X hret (-4 : Int32) m2)

theorem dX12_often_0 : decode cX12_often 0 = .ok (.iload_n 1, 1) := by decide +kernel
theorem dX12_often_1 : decode cX12_often 1 = .ok (.i2l, 1) := by decide +kernel
theorem dX12_often_2 : decode cX12_often 2 = .ok (.lconst 1, 1) := by decide +kernel
theorem dX12_often_3 : decode cX12_often 3 = .ok (.ldc2_w 260, 3) := by decide +kernel
theorem dX12_often_6 : decode cX12_often 6 = .ok (.invokestatic 64, 3) := by decide +kernel
theorem dX12_often_9 : decode cX12_often 9 = .ok (.ifCond .eq 15, 3) := by decide +kernel
theorem dX12_often_12 : decode cX12_often 12 = .ok (.iload_n 2, 1) := by decide +kernel
theorem dX12_often_13 : decode cX12_often 13 = .ok (.i2l, 1) := by decide +kernel
theorem dX12_often_14 : decode cX12_often 14 = .ok (.lconst 0, 1) := by decide +kernel
theorem dX12_often_15 : decode cX12_often 15 = .ok (.ldc2_w 262, 3) := by decide +kernel
theorem dX12_often_18 : decode cX12_often 18 = .ok (.invokestatic 64, 3) := by decide +kernel
theorem dX12_often_21 : decode cX12_often 21 = .ok (.ifCond .ne 5, 3) := by decide +kernel
theorem dX12_often_24 : decode cX12_often 24 = .ok (.iconst (-1), 1) := by decide +kernel
theorem dX12_often_25 : decode cX12_often 25 = .ok (.ireturn, 1) := by decide +kernel
theorem dX12_often_26 : decode cX12_often 26 = .ok (.aload_n 0, 1) := by decide +kernel
theorem dX12_often_27 : decode cX12_often 27 = .ok (.invokevirtual 154, 3) := by decide +kernel
theorem dX12_often_30 : decode cX12_often 30 = .ok (.iconst 0, 1) := by decide +kernel
theorem dX12_often_31 : decode cX12_often 31 = .ok (.istore_n 3, 1) := by decide +kernel
theorem dX12_often_32 : decode cX12_often 32 = .ok (.iconst 0, 1) := by decide +kernel
theorem dX12_often_33 : decode cX12_often 33 = .ok (.istore 4, 2) := by decide +kernel
theorem dX12_often_35 : decode cX12_often 35 = .ok (.iload 4, 2) := by decide +kernel
theorem dX12_often_37 : decode cX12_often 37 = .ok (.iload_n 1, 1) := by decide +kernel
theorem dX12_often_38 : decode cX12_often 38 = .ok (.if_icmp .ge 67, 3) := by decide +kernel
theorem dX12_often_41 : decode cX12_often 41 = .ok (.iconst 0, 1) := by decide +kernel
theorem dX12_often_42 : decode cX12_often 42 = .ok (.istore 5, 2) := by decide +kernel
theorem dX12_often_44 : decode cX12_often 44 = .ok (.aload_n 0, 1) := by decide +kernel
theorem dX12_often_45 : decode cX12_often 45 = .ok (.invokevirtual 124, 3) := by decide +kernel
theorem dX12_often_48 : decode cX12_often 48 = .ok (.ifCond .ne 15, 3) := by decide +kernel
theorem dX12_often_51 : decode cX12_often 51 = .ok (.iload 5, 2) := by decide +kernel
theorem dX12_often_53 : decode cX12_often 53 = .ok (.aload_n 0, 1) := by decide +kernel
theorem dX12_often_54 : decode cX12_often 54 = .ok (.invokevirtual 257, 3) := by decide +kernel
theorem dX12_often_57 : decode cX12_often 57 = .ok (.iadd, 1) := by decide +kernel
theorem dX12_often_58 : decode cX12_often 58 = .ok (.istore 5, 2) := by decide +kernel
theorem dX12_often_60 : decode cX12_often 60 = .ok (.goto (-16), 3) := by decide +kernel
theorem dX12_often_63 : decode cX12_often 63 = .ok (.iload_n 3, 1) := by decide +kernel
theorem dX12_often_64 : decode cX12_often 64 = .ok (.iload 5, 2) := by decide +kernel
theorem dX12_often_66 : decode cX12_often 66 = .ok (.iload_n 2, 1) := by decide +kernel
theorem dX12_often_67 : decode cX12_often 67 = .ok (.if_icmp .lt 7, 3) := by decide +kernel
theorem dX12_often_70 : decode cX12_often 70 = .ok (.iconst 1, 1) := by decide +kernel
theorem dX12_often_71 : decode cX12_often 71 = .ok (.goto 4, 3) := by decide +kernel
theorem dX12_often_74 : decode cX12_often 74 = .ok (.iconst 0, 1) := by decide +kernel
theorem dX12_often_75 : decode cX12_often 75 = .ok (.iadd, 1) := by decide +kernel
theorem dX12_often_76 : decode cX12_often 76 = .ok (.istore_n 3, 1) := by decide +kernel
theorem dX12_often_77 : decode cX12_often 77 = .ok (.aload_n 0, 1) := by decide +kernel
theorem dX12_often_78 : decode cX12_often 78 = .ok (.getfield 7, 3) := by decide +kernel
theorem dX12_often_81 : decode cX12_often 81 = .ok (.bipush 7, 2) := by decide +kernel
theorem dX12_often_83 : decode cX12_often 83 = .ok (.iaload, 1) := by decide +kernel
theorem dX12_often_84 : decode cX12_often 84 = .ok (.istore 6, 2) := by decide +kernel
theorem dX12_often_86 : decode cX12_often 86 = .ok (.aload_n 0, 1) := by decide +kernel
theorem dX12_often_87 : decode cX12_often 87 = .ok (.invokevirtual 160, 3) := by decide +kernel
theorem dX12_often_90 : decode cX12_often 90 = .ok (.aload_n 0, 1) := by decide +kernel
theorem dX12_often_91 : decode cX12_often 91 = .ok (.getfield 7, 3) := by decide +kernel
theorem dX12_often_94 : decode cX12_often 94 = .ok (.bipush 7, 2) := by decide +kernel
theorem dX12_often_96 : decode cX12_often 96 = .ok (.iload 6, 2) := by decide +kernel
theorem dX12_often_98 : decode cX12_often 98 = .ok (.iastore, 1) := by decide +kernel
theorem dX12_often_99 : decode cX12_often 99 = .ok (.iinc 4 1, 3) := by decide +kernel
theorem dX12_often_102 : decode cX12_often 102 = .ok (.goto (-67), 3) := by decide +kernel
theorem dX12_often_105 : decode cX12_often 105 = .ok (.aload_n 0, 1) := by decide +kernel
theorem dX12_often_106 : decode cX12_often 106 = .ok (.invokevirtual 160, 3) := by decide +kernel
theorem dX12_often_109 : decode cX12_often 109 = .ok (.iload_n 3, 1) := by decide +kernel
theorem dX12_often_110 : decode cX12_often 110 = .ok (.ireturn, 1) := by decide +kernel
def f12_often_b24  (a1 : Int32) (a2 : Int32)  (m : lu_M) : Option (Int32 × lu_M) :=
  some ((-1 : Int32), m)
set_option maxRecDepth 20000 in
theorem w12_often_b24  {G : lu_G} {ρ : Nat → Nat} {a1 : Int32} {a2 : Int32}  (X : lu_X G RX12 cX12_often 7 8 188) (hret : (lu_me G).sig.returnType = (some .int))   : ∀  (m : lu_M), lu_Ab lu_TM G (lu_Q lu_TM G ρ lu_RVi lu_sn) (f12_often_b24 a1 a2 m) 24 [] [] ρ 0 0 [] m := by
  intro  m
  unfold f12_often_b24
  refine lu_iconst X dX12_often_24 (pc2 := 25) rfl ic_m1 ?_
  exact lu_iret X hret dX12_often_25
def f12_often_b44B (K63 : Int32 → Int32 → Int32 → lu_M → Option (Int32 × lu_M)) (rec : Int32 → Int32 → Int32 → lu_M → Option (Int32 × lu_M)) (a1 : Int32) (a2 : Int32) (v3 : Int32) (v4 : Int32) (v5 : Int32) (m : lu_M) : Option (Int32 × lu_M) :=
  lu_bi (f12_isOver m) fun x6 m7 =>
  if x6 = 0 then (lu_bi (f12_byLot m7) fun x8 m9 =>
  lu_nm ((v5 + x8)) fun x10 =>
  rec v3 v4 x10 m9)
  else (K63 v3 v4 v5 m7)
def f12_often_b44 (K63 : Int32 → Int32 → Int32 → lu_M → Option (Int32 × lu_M)) (a1 : Int32) (a2 : Int32) : Nat → Int32 → Int32 → Int32 → lu_M → Option (Int32 × lu_M)
  | 0, _, _, _, _ => none
  | n + 1, v3, v4, v5, m => f12_often_b44B K63 (f12_often_b44 K63 a1 a2 n) a1 a2 v3 v4 v5 m
set_option maxRecDepth 20000 in
theorem w12_often_b44B  {G : lu_G} {ρ : Nat → Nat} {a1 : Int32} {a2 : Int32} {K63 : Int32 → Int32 → Int32 → lu_M → Option (Int32 × lu_M)} {rec : Int32 → Int32 → Int32 → lu_M → Option (Int32 × lu_M)} (X : lu_X G RX12 cX12_often 7 8 188) (hret : (lu_me G).sig.returnType = (some .int))  (hK63 : ∀ (v3 : Int32) (v4 : Int32) (v5 : Int32) (m : lu_M), lu_Ab lu_TM G (lu_Q lu_TM G ρ lu_RVi lu_sn) (K63 v3 v4 v5 m) 63 [(0, .ref (ρ 0)), (1, .int a1), (2, .int a2), (3, .int v3), (4, .int v4), (5, .int v5)] [] ρ 0 0 [] m) (hrec : ∀ (v3 : Int32) (v4 : Int32) (v5 : Int32) (m : lu_M), lu_Ab lu_TM G (lu_Q lu_TM G ρ lu_RVi lu_sn) (rec v3 v4 v5 m) 44 [(0, .ref (ρ 0)), (1, .int a1), (2, .int a2), (3, .int v3), (4, .int v4), (5, .int v5)] [] ρ 0 0 [] m) : ∀ (v3 : Int32) (v4 : Int32) (v5 : Int32) (m : lu_M), lu_Ab lu_TM G (lu_Q lu_TM G ρ lu_RVi lu_sn) (f12_often_b44B K63 rec a1 a2 v3 v4 v5 m) 44 [(0, .ref (ρ 0)), (1, .int a1), (2, .int a2), (3, .int v3), (4, .int v4), (5, .int v5)] [] ρ 0 0 [] m := by
  intro v3 v4 v5 m
  unfold f12_often_b44B
  refine lu_aload_n X dX12_often_44 (pc2 := 45) rfl rfl 0 rfl ?_
  refine lu_invVi X (c12_isOver _) rfl q1362 mvV_12_isOver kM_0 lM_0 (by decide) ⟨_, rfl, rfl⟩ rfl rfl (Nat.le_of_ble_eq_true rfl) (Nat.le_of_ble_eq_true rfl) (Nat.le_of_ble_eq_true rfl) ⟨Nat.zero_le _, Nat.zero_le _⟩ dX12_often_45 (pc2 := 48) rfl rfl (fun x6 m7 => ?_)
  refine lu_if_ne (tgt := 63) X dX12_often_48 (pc2 := 51) rfl (by decide) (fun _ => ?_) (fun _ => ?_)
  · exact hK63 v3 v4 v5 m7
  · refine lu_iload X dX12_often_51 (pc2 := 53) rfl 5 rfl ?_
    refine lu_aload_n X dX12_often_53 (pc2 := 54) rfl rfl 0 rfl ?_
    refine lu_invVi X (c12_byLot _) rfl q1569 mvV_12_byLot kM_0 lM_0 (by decide) ⟨_, rfl, rfl⟩ rfl rfl (Nat.le_of_ble_eq_true rfl) (Nat.le_of_ble_eq_true rfl) (Nat.le_of_ble_eq_true rfl) ⟨Nat.zero_le _, Nat.zero_le _⟩ dX12_often_54 (pc2 := 57) rfl rfl (fun x8 m9 => ?_)
    refine lu_iadd X dX12_often_57 (pc2 := 58) rfl ?_
    refine lu_topi (fun x10 => ?_)
    refine lu_istore (lv2 := [(5, .int x10), (0, .ref (ρ 0)), (1, .int a1), (2, .int a2), (3, .int v3), (4, .int v4)]) X dX12_often_58 (pc2 := 60) rfl (by decide) rfl ?_
    refine lu_goto (tgt := 44) X dX12_often_60 (by decide) ?_
    exact lu_sub [1, 2, 3, 4, 5, 0] rfl (hrec v3 v4 x10 m9)
theorem w12_often_b44  {G : lu_G} {ρ : Nat → Nat} {a1 : Int32} {a2 : Int32} {K63 : Int32 → Int32 → Int32 → lu_M → Option (Int32 × lu_M)} (X : lu_X G RX12 cX12_often 7 8 188) (hret : (lu_me G).sig.returnType = (some .int))  (hK63 : ∀ (v3 : Int32) (v4 : Int32) (v5 : Int32) (m : lu_M), lu_Ab lu_TM G (lu_Q lu_TM G ρ lu_RVi lu_sn) (K63 v3 v4 v5 m) 63 [(0, .ref (ρ 0)), (1, .int a1), (2, .int a2), (3, .int v3), (4, .int v4), (5, .int v5)] [] ρ 0 0 [] m) : ∀ (n : Nat) (v3 : Int32) (v4 : Int32) (v5 : Int32) (m : lu_M), lu_Ab lu_TM G (lu_Q lu_TM G ρ lu_RVi lu_sn) (f12_often_b44 K63 a1 a2 n v3 v4 v5 m) 44 [(0, .ref (ρ 0)), (1, .int a1), (2, .int a2), (3, .int v3), (4, .int v4), (5, .int v5)] [] ρ 0 0 [] m := by
  intro n
  induction n with
  | zero => intro v3 v4 v5 m; exact lu_none
  | succ n ih => intro v3 v4 v5 m; exact w12_often_b44B X hret hK63 ih v3 v4 v5 m
def f12_often_b75 (K35 : Int32 → Int32 → lu_M → Option (Int32 × lu_M)) (K105 : Int32 → lu_M → Option (Int32 × lu_M)) (a1 : Int32) (a2 : Int32) (v4 : Int32) (s0 : Int32) (s1 : Int32) (m : lu_M) : Option (Int32 × lu_M) :=
  lu_nm ((s1 + s0)) fun x11 =>
  lu_nm ((m 1 7)) fun x12 =>
  lu_bv (f12_putsBack m) fun m13 =>
  lu_nm (lu_st m13 1 7 x12) fun m14 =>
  K35 x11 (v4 + (1 : Int32)) m14
set_option maxRecDepth 20000 in
theorem w12_often_b75  {G : lu_G} {ρ : Nat → Nat} {a1 : Int32} {a2 : Int32} {K35 : Int32 → Int32 → lu_M → Option (Int32 × lu_M)} {K105 : Int32 → lu_M → Option (Int32 × lu_M)} (X : lu_X G RX12 cX12_often 7 8 188) (hret : (lu_me G).sig.returnType = (some .int))  (hK35 : ∀ (v3 : Int32) (v4 : Int32) (m : lu_M), lu_Ab lu_TM G (lu_Q lu_TM G ρ lu_RVi lu_sn) (K35 v3 v4 m) 35 [(0, .ref (ρ 0)), (1, .int a1), (2, .int a2), (3, .int v3), (4, .int v4)] [] ρ 0 0 [] m) (hK105 : ∀ (v3 : Int32) (m : lu_M), lu_Ab lu_TM G (lu_Q lu_TM G ρ lu_RVi lu_sn) (K105 v3 m) 105 [(0, .ref (ρ 0)), (3, .int v3)] [] ρ 0 0 [] m) : ∀ (v4 : Int32) (s0 : Int32) (s1 : Int32) (m : lu_M), lu_Ab lu_TM G (lu_Q lu_TM G ρ lu_RVi lu_sn) (f12_often_b75 K35 K105 a1 a2 v4 s0 s1 m) 75 [(0, .ref (ρ 0)), (1, .int a1), (2, .int a2), (4, .int v4)] [.int s0, .int s1] ρ 0 0 [] m := by
  intro v4 s0 s1 m
  unfold f12_often_b75
  refine lu_iadd X dX12_often_75 (pc2 := 76) rfl ?_
  refine lu_topi (fun x11 => ?_)
  refine lu_istore_n (lv2 := [(3, .int x11), (0, .ref (ρ 0)), (1, .int a1), (2, .int a2), (4, .int v4)]) X dX12_often_76 (pc2 := 77) rfl rfl (by decide) rfl ?_
  refine lu_aload_n X dX12_often_77 (pc2 := 78) rfl rfl 1 rfl ?_
  refine lu_getr (r2 := 1) X rfl fl12_7 rfl kM_0 lM_0 dX12_often_78 (pc2 := 81) rfl ?_
  refine lu_bipush X dX12_often_81 (pc2 := 83) rfl bp_7 ?_
  refine lu_ialdK (q := 7) X (by decide) kM_1 lM_1 dX12_often_83 (pc2 := 84) rfl ?_
  refine lu_topi (fun x12 => ?_)
  refine lu_istore (lv2 := [(6, .int x12), (3, .int x11), (0, .ref (ρ 0)), (1, .int a1), (2, .int a2), (4, .int v4)]) X dX12_often_84 (pc2 := 86) rfl (by decide) rfl ?_
  refine lu_aload_n X dX12_often_86 (pc2 := 87) rfl rfl 2 rfl ?_
  refine lu_invVv X (c12_putsBack _) rfl q1399 mvV_12_putsBack kM_0 lM_0 (by decide) ⟨_, rfl, rfl⟩ rfl rfl (Nat.le_of_ble_eq_true rfl) (Nat.le_of_ble_eq_true rfl) (Nat.le_of_ble_eq_true rfl) ⟨Nat.zero_le _, Nat.zero_le _⟩ dX12_often_87 (pc2 := 90) rfl rfl (fun m13 => ?_)
  refine lu_aload_n X dX12_often_90 (pc2 := 91) rfl rfl 2 rfl ?_
  refine lu_getr (r2 := 1) X rfl fl12_7 rfl kM_0 lM_0 dX12_often_91 (pc2 := 94) rfl ?_
  refine lu_bipush X dX12_often_94 (pc2 := 96) rfl bp_7 ?_
  refine lu_iload X dX12_often_96 (pc2 := 98) rfl 0 rfl ?_
  refine lu_iastK (q := 7) X (by decide) kM_1 lM_1 dX12_often_98 (pc2 := 99) rfl (fun m14 => ?_)
  refine lu_iinc (lv2 := [(4, .int (v4 + (1 : Int32))), (6, .int x12), (3, .int x11), (0, .ref (ρ 0)), (1, .int a1), (2, .int a2)]) X dX12_often_99 (pc2 := 102) rfl 5 rfl (lu_ii _ ic_1) (by decide) rfl ?_
  refine lu_goto (tgt := 35) X dX12_often_102 (by decide) ?_
  exact lu_sub [3, 4, 5, 2, 0] rfl (hK35 x11 (v4 + (1 : Int32)) m14)
def f12_often_b63 (K35 : Int32 → Int32 → lu_M → Option (Int32 × lu_M)) (K105 : Int32 → lu_M → Option (Int32 × lu_M)) (a1 : Int32) (a2 : Int32) (v3 : Int32) (v4 : Int32) (v5 : Int32) (m : lu_M) : Option (Int32 × lu_M) :=
  if v5 < a2 then (f12_often_b75 K35 K105 a1 a2 v4 (0 : Int32) v3 m)
  else (f12_often_b75 K35 K105 a1 a2 v4 (1 : Int32) v3 m)
set_option maxRecDepth 20000 in
theorem w12_often_b63  {G : lu_G} {ρ : Nat → Nat} {a1 : Int32} {a2 : Int32} {K35 : Int32 → Int32 → lu_M → Option (Int32 × lu_M)} {K105 : Int32 → lu_M → Option (Int32 × lu_M)} (X : lu_X G RX12 cX12_often 7 8 188) (hret : (lu_me G).sig.returnType = (some .int))  (hK35 : ∀ (v3 : Int32) (v4 : Int32) (m : lu_M), lu_Ab lu_TM G (lu_Q lu_TM G ρ lu_RVi lu_sn) (K35 v3 v4 m) 35 [(0, .ref (ρ 0)), (1, .int a1), (2, .int a2), (3, .int v3), (4, .int v4)] [] ρ 0 0 [] m) (hK105 : ∀ (v3 : Int32) (m : lu_M), lu_Ab lu_TM G (lu_Q lu_TM G ρ lu_RVi lu_sn) (K105 v3 m) 105 [(0, .ref (ρ 0)), (3, .int v3)] [] ρ 0 0 [] m) : ∀ (v3 : Int32) (v4 : Int32) (v5 : Int32) (m : lu_M), lu_Ab lu_TM G (lu_Q lu_TM G ρ lu_RVi lu_sn) (f12_often_b63 K35 K105 a1 a2 v3 v4 v5 m) 63 [(0, .ref (ρ 0)), (1, .int a1), (2, .int a2), (3, .int v3), (4, .int v4), (5, .int v5)] [] ρ 0 0 [] m := by
  intro v3 v4 v5 m
  unfold f12_often_b63
  refine lu_iload_n X dX12_often_63 (pc2 := 64) rfl rfl 3 rfl ?_
  refine lu_iload X dX12_often_64 (pc2 := 66) rfl 5 rfl ?_
  refine lu_iload_n X dX12_often_66 (pc2 := 67) rfl rfl 2 rfl ?_
  refine lu_icmp_lt (tgt := 74) X dX12_often_67 (pc2 := 70) rfl (by decide) (fun _ => ?_) (fun _ => ?_)
  · refine lu_iconst X dX12_often_74 (pc2 := 75) rfl ic_0 ?_
    exact lu_sub [0, 1, 2, 4] rfl (w12_often_b75 X hret hK35 hK105 v4 (0 : Int32) v3 m)
  · refine lu_iconst X dX12_often_70 (pc2 := 71) rfl ic_1 ?_
    refine lu_goto (tgt := 75) X dX12_often_71 (by decide) ?_
    exact lu_sub [0, 1, 2, 4] rfl (w12_often_b75 X hret hK35 hK105 v4 (1 : Int32) v3 m)
def f12_often_b35B (K105 : Int32 → lu_M → Option (Int32 × lu_M)) (rec : Int32 → Int32 → lu_M → Option (Int32 × lu_M)) (a1 : Int32) (a2 : Int32) (v3 : Int32) (v4 : Int32) (m : lu_M) : Option (Int32 × lu_M) :=
  if a1 ≤ v4 then (K105 v3 m)
  else (f12_often_b44 (f12_often_b63 rec K105 a1 a2) a1 a2 lu_fu v3 v4 (0 : Int32) m)
def f12_often_b35 (K105 : Int32 → lu_M → Option (Int32 × lu_M)) (a1 : Int32) (a2 : Int32) : Nat → Int32 → Int32 → lu_M → Option (Int32 × lu_M)
  | 0, _, _, _ => none
  | n + 1, v3, v4, m => f12_often_b35B K105 (f12_often_b35 K105 a1 a2 n) a1 a2 v3 v4 m
set_option maxRecDepth 20000 in
theorem w12_often_b35B  {G : lu_G} {ρ : Nat → Nat} {a1 : Int32} {a2 : Int32} {K105 : Int32 → lu_M → Option (Int32 × lu_M)} {rec : Int32 → Int32 → lu_M → Option (Int32 × lu_M)} (X : lu_X G RX12 cX12_often 7 8 188) (hret : (lu_me G).sig.returnType = (some .int))  (hK105 : ∀ (v3 : Int32) (m : lu_M), lu_Ab lu_TM G (lu_Q lu_TM G ρ lu_RVi lu_sn) (K105 v3 m) 105 [(0, .ref (ρ 0)), (3, .int v3)] [] ρ 0 0 [] m) (hrec : ∀ (v3 : Int32) (v4 : Int32) (m : lu_M), lu_Ab lu_TM G (lu_Q lu_TM G ρ lu_RVi lu_sn) (rec v3 v4 m) 35 [(0, .ref (ρ 0)), (1, .int a1), (2, .int a2), (3, .int v3), (4, .int v4)] [] ρ 0 0 [] m) : ∀ (v3 : Int32) (v4 : Int32) (m : lu_M), lu_Ab lu_TM G (lu_Q lu_TM G ρ lu_RVi lu_sn) (f12_often_b35B K105 rec a1 a2 v3 v4 m) 35 [(0, .ref (ρ 0)), (1, .int a1), (2, .int a2), (3, .int v3), (4, .int v4)] [] ρ 0 0 [] m := by
  intro v3 v4 m
  unfold f12_often_b35B
  refine lu_iload X dX12_often_35 (pc2 := 37) rfl 4 rfl ?_
  refine lu_iload_n X dX12_often_37 (pc2 := 38) rfl rfl 1 rfl ?_
  refine lu_icmp_ge (tgt := 105) X dX12_often_38 (pc2 := 41) rfl (by decide) (fun _ => ?_) (fun _ => ?_)
  · exact lu_sub [0, 3] rfl (hK105 v3 m)
  · refine lu_iconst X dX12_often_41 (pc2 := 42) rfl ic_0 ?_
    refine lu_istore (lv2 := [(5, .int (0 : Int32)), (0, .ref (ρ 0)), (1, .int a1), (2, .int a2), (3, .int v3), (4, .int v4)]) X dX12_often_42 (pc2 := 44) rfl (by decide) rfl ?_
    exact lu_sub [1, 2, 3, 4, 5, 0] rfl (w12_often_b44 X hret (w12_often_b63 X hret hrec hK105) lu_fu v3 v4 (0 : Int32) m)
theorem w12_often_b35  {G : lu_G} {ρ : Nat → Nat} {a1 : Int32} {a2 : Int32} {K105 : Int32 → lu_M → Option (Int32 × lu_M)} (X : lu_X G RX12 cX12_often 7 8 188) (hret : (lu_me G).sig.returnType = (some .int))  (hK105 : ∀ (v3 : Int32) (m : lu_M), lu_Ab lu_TM G (lu_Q lu_TM G ρ lu_RVi lu_sn) (K105 v3 m) 105 [(0, .ref (ρ 0)), (3, .int v3)] [] ρ 0 0 [] m) : ∀ (n : Nat) (v3 : Int32) (v4 : Int32) (m : lu_M), lu_Ab lu_TM G (lu_Q lu_TM G ρ lu_RVi lu_sn) (f12_often_b35 K105 a1 a2 n v3 v4 m) 35 [(0, .ref (ρ 0)), (1, .int a1), (2, .int a2), (3, .int v3), (4, .int v4)] [] ρ 0 0 [] m := by
  intro n
  induction n with
  | zero => intro v3 v4 m; exact lu_none
  | succ n ih => intro v3 v4 m; exact w12_often_b35B X hret hK105 ih v3 v4 m
def f12_often_b105  (a1 : Int32) (a2 : Int32) (v3 : Int32) (m : lu_M) : Option (Int32 × lu_M) :=
  lu_bv (f12_putsBack m) fun m15 =>
  some (v3, m15)
set_option maxRecDepth 20000 in
theorem w12_often_b105  {G : lu_G} {ρ : Nat → Nat} {a1 : Int32} {a2 : Int32}  (X : lu_X G RX12 cX12_often 7 8 188) (hret : (lu_me G).sig.returnType = (some .int))   : ∀ (v3 : Int32) (m : lu_M), lu_Ab lu_TM G (lu_Q lu_TM G ρ lu_RVi lu_sn) (f12_often_b105 a1 a2 v3 m) 105 [(0, .ref (ρ 0)), (3, .int v3)] [] ρ 0 0 [] m := by
  intro v3 m
  unfold f12_often_b105
  refine lu_aload_n X dX12_often_105 (pc2 := 106) rfl rfl 0 rfl ?_
  refine lu_invVv X (c12_putsBack _) rfl q1399 mvV_12_putsBack kM_0 lM_0 (by decide) ⟨_, rfl, rfl⟩ rfl rfl (Nat.le_of_ble_eq_true rfl) (Nat.le_of_ble_eq_true rfl) (Nat.le_of_ble_eq_true rfl) ⟨Nat.zero_le _, Nat.zero_le _⟩ dX12_often_106 (pc2 := 109) rfl rfl (fun m15 => ?_)
  refine lu_iload_n X dX12_often_109 (pc2 := 110) rfl rfl 1 rfl ?_
  exact lu_iret X hret dX12_often_110
def f12_often (a1 : Int32) (a2 : Int32) (m : lu_M) : Option (Int32 × lu_M) :=
  lu_bi (f12_in a1.toInt64 (1 : Int64) (40 : Int64) m) fun x1 m2 =>
  if x1 = 0 then (f12_often_b24 a1 a2 m2)
  else (lu_bi (f12_in a2.toInt64 (0 : Int64) (999 : Int64) m2) fun x3 m4 =>
  if x3 = 0 then (f12_often_b24 a1 a2 m4)
  else (lu_bv (f12_puts m4) fun m5 =>
  f12_often_b35 (f12_often_b105 a1 a2) a1 a2 lu_fu (0 : Int32) (0 : Int32) m5))
set_option maxRecDepth 20000 in
theorem c12_often (l : Launch)   (a1 : Int32) (a2 : Int32) : lu_C lu_TM l yX12_often cX12_often 7 (some .int) 8 188 (fun ρ sa => [.ref (ρ 0), .int a1, .int a2]) (f12_often a1 a2) lu_RVi lu_sn := by
  refine lu_met (cls := RX12) rfl (by decide +kernel) (fun _ _ => Nat.le_of_ble_eq_true rfl) ?_
  intro G ρ m hl X hret
  subst hl
  change lu_Ab lu_TM G (lu_Q lu_TM G ρ lu_RVi lu_sn) (f12_often a1 a2 m) 0 [(0, .ref (ρ 0)), (1, .int a1), (2, .int a2)] [] ρ 0 0 [] m
  unfold f12_often
  refine lu_iload_n X dX12_often_0 (pc2 := 1) rfl rfl 1 rfl ?_
  refine lu_i2l X dX12_often_1 (pc2 := 2) rfl ?_
  refine lu_lconst (v := (1 : Int64)) X dX12_often_2 (pc2 := 3) rfl (by decide) ?_
  refine lu_ldc2 X q1578 dX12_often_3 (pc2 := 6) rfl ?_
  refine lu_invSi X (c12_in _ a1.toInt64 (1 : Int64) (40 : Int64)) rfl q1261 mvS_12_in rfl rfl (Nat.le_of_ble_eq_true rfl) (Nat.le_of_ble_eq_true rfl) (Nat.le_of_ble_eq_true rfl) ⟨Nat.zero_le _, Nat.zero_le _⟩ dX12_often_6 (pc2 := 9) rfl rfl (fun x1 m2 => ?_)
  refine lu_if_eq (tgt := 24) X dX12_often_9 (pc2 := 12) rfl (by decide) (fun _ => ?_) (fun _ => ?_)
  · exact lu_sub [] rfl (w12_often_b24 X hret m2)
  · refine lu_iload_n X dX12_often_12 (pc2 := 13) rfl rfl 2 rfl ?_
    refine lu_i2l X dX12_often_13 (pc2 := 14) rfl ?_
    refine lu_lconst (v := (0 : Int64)) X dX12_often_14 (pc2 := 15) rfl (by decide) ?_
    refine lu_ldc2 X q1579 dX12_often_15 (pc2 := 18) rfl ?_
    refine lu_invSi X (c12_in _ a2.toInt64 (0 : Int64) (999 : Int64)) rfl q1261 mvS_12_in rfl rfl (Nat.le_of_ble_eq_true rfl) (Nat.le_of_ble_eq_true rfl) (Nat.le_of_ble_eq_true rfl) ⟨Nat.zero_le _, Nat.zero_le _⟩ dX12_often_18 (pc2 := 21) rfl rfl (fun x3 m4 => ?_)
    refine lu_if_ne (tgt := 26) X dX12_often_21 (pc2 := 24) rfl (by decide) (fun _ => ?_) (fun _ => ?_)
    · refine lu_aload_n X dX12_often_26 (pc2 := 27) rfl rfl 0 rfl ?_
      refine lu_invVv X (c12_puts _) rfl q1391 mvV_12_puts kM_0 lM_0 (by decide) ⟨_, rfl, rfl⟩ rfl rfl (Nat.le_of_ble_eq_true rfl) (Nat.le_of_ble_eq_true rfl) (Nat.le_of_ble_eq_true rfl) ⟨Nat.zero_le _, Nat.zero_le _⟩ dX12_often_27 (pc2 := 30) rfl rfl (fun m5 => ?_)
      refine lu_iconst X dX12_often_30 (pc2 := 31) rfl ic_0 ?_
      refine lu_istore_n (lv2 := [(3, .int (0 : Int32)), (0, .ref (ρ 0)), (1, .int a1), (2, .int a2)]) X dX12_often_31 (pc2 := 32) rfl rfl (by decide) rfl ?_
      refine lu_iconst X dX12_often_32 (pc2 := 33) rfl ic_0 ?_
      refine lu_istore (lv2 := [(4, .int (0 : Int32)), (3, .int (0 : Int32)), (0, .ref (ρ 0)), (1, .int a1), (2, .int a2)]) X dX12_often_33 (pc2 := 35) rfl (by decide) rfl ?_
      exact lu_sub [2, 3, 4, 1, 0] rfl (w12_often_b35 X hret (w12_often_b105 X hret) lu_fu (0 : Int32) (0 : Int32) m5)
    · exact lu_sub [] rfl (w12_often_b24 X hret m4)

theorem dX12_prove_0 : decode cX12_prove 0 = .ok (.iload_n 1, 1) := by decide +kernel
theorem dX12_prove_1 : decode cX12_prove 1 = .ok (.invokestatic 214, 3) := by decide +kernel
theorem dX12_prove_4 : decode cX12_prove 4 = .ok (.ifCond .ne 5, 3) := by decide +kernel
theorem dX12_prove_7 : decode cX12_prove 7 = .ok (.iconst (-1), 1) := by decide +kernel
theorem dX12_prove_8 : decode cX12_prove 8 = .ok (.ireturn, 1) := by decide +kernel
theorem dX12_prove_9 : decode cX12_prove 9 = .ok (.aload_n 0, 1) := by decide +kernel
theorem dX12_prove_10 : decode cX12_prove 10 = .ok (.aload_n 0, 1) := by decide +kernel
theorem dX12_prove_11 : decode cX12_prove 11 = .ok (.iload_n 1, 1) := by decide +kernel
theorem dX12_prove_12 : decode cX12_prove 12 = .ok (.iconst 0, 1) := by decide +kernel
theorem dX12_prove_13 : decode cX12_prove 13 = .ok (.invokevirtual 217, 3) := by decide +kernel
theorem dX12_prove_16 : decode cX12_prove 16 = .ok (.putfield 264, 3) := by decide +kernel
theorem dX12_prove_19 : decode cX12_prove 19 = .ok (.aload_n 0, 1) := by decide +kernel
theorem dX12_prove_20 : decode cX12_prove 20 = .ok (.invokevirtual 154, 3) := by decide +kernel
theorem dX12_prove_23 : decode cX12_prove 23 = .ok (.iconst 0, 1) := by decide +kernel
theorem dX12_prove_24 : decode cX12_prove 24 = .ok (.istore_n 2, 1) := by decide +kernel
theorem dX12_prove_25 : decode cX12_prove 25 = .ok (.iload_n 2, 1) := by decide +kernel
theorem dX12_prove_26 : decode cX12_prove 26 = .ok (.aload_n 0, 1) := by decide +kernel
theorem dX12_prove_27 : decode cX12_prove 27 = .ok (.getfield 264, 3) := by decide +kernel
theorem dX12_prove_30 : decode cX12_prove 30 = .ok (.if_icmp .ge 58, 3) := by decide +kernel
theorem dX12_prove_33 : decode cX12_prove 33 = .ok (.aload_n 0, 1) := by decide +kernel
theorem dX12_prove_34 : decode cX12_prove 34 = .ok (.getfield 37, 3) := by decide +kernel
theorem dX12_prove_37 : decode cX12_prove 37 = .ok (.iconst 3, 1) := by decide +kernel
theorem dX12_prove_38 : decode cX12_prove 38 = .ok (.iload_n 2, 1) := by decide +kernel
theorem dX12_prove_39 : decode cX12_prove 39 = .ok (.imul, 1) := by decide +kernel
theorem dX12_prove_40 : decode cX12_prove 40 = .ok (.aload_n 0, 1) := by decide +kernel
theorem dX12_prove_41 : decode cX12_prove 41 = .ok (.getfield 34, 3) := by decide +kernel
theorem dX12_prove_44 : decode cX12_prove 44 = .ok (.iload_n 2, 1) := by decide +kernel
theorem dX12_prove_45 : decode cX12_prove 45 = .ok (.iaload, 1) := by decide +kernel
theorem dX12_prove_46 : decode cX12_prove 46 = .ok (.iastore, 1) := by decide +kernel
theorem dX12_prove_47 : decode cX12_prove 47 = .ok (.aload_n 0, 1) := by decide +kernel
theorem dX12_prove_48 : decode cX12_prove 48 = .ok (.getfield 37, 3) := by decide +kernel
theorem dX12_prove_51 : decode cX12_prove 51 = .ok (.iconst 3, 1) := by decide +kernel
theorem dX12_prove_52 : decode cX12_prove 52 = .ok (.iload_n 2, 1) := by decide +kernel
theorem dX12_prove_53 : decode cX12_prove 53 = .ok (.imul, 1) := by decide +kernel
theorem dX12_prove_54 : decode cX12_prove 54 = .ok (.iconst 1, 1) := by decide +kernel
theorem dX12_prove_55 : decode cX12_prove 55 = .ok (.iadd, 1) := by decide +kernel
theorem dX12_prove_56 : decode cX12_prove 56 = .ok (.aload_n 0, 1) := by decide +kernel
theorem dX12_prove_57 : decode cX12_prove 57 = .ok (.aload_n 0, 1) := by decide +kernel
theorem dX12_prove_58 : decode cX12_prove 58 = .ok (.getfield 34, 3) := by decide +kernel
theorem dX12_prove_61 : decode cX12_prove 61 = .ok (.iload_n 2, 1) := by decide +kernel
theorem dX12_prove_62 : decode cX12_prove 62 = .ok (.iaload, 1) := by decide +kernel
theorem dX12_prove_63 : decode cX12_prove 63 = .ok (.invokevirtual 146, 3) := by decide +kernel
theorem dX12_prove_66 : decode cX12_prove 66 = .ok (.iastore, 1) := by decide +kernel
theorem dX12_prove_67 : decode cX12_prove 67 = .ok (.aload_n 0, 1) := by decide +kernel
theorem dX12_prove_68 : decode cX12_prove 68 = .ok (.getfield 37, 3) := by decide +kernel
theorem dX12_prove_71 : decode cX12_prove 71 = .ok (.iconst 3, 1) := by decide +kernel
theorem dX12_prove_72 : decode cX12_prove 72 = .ok (.iload_n 2, 1) := by decide +kernel
theorem dX12_prove_73 : decode cX12_prove 73 = .ok (.imul, 1) := by decide +kernel
theorem dX12_prove_74 : decode cX12_prove 74 = .ok (.iconst 2, 1) := by decide +kernel
theorem dX12_prove_75 : decode cX12_prove 75 = .ok (.iadd, 1) := by decide +kernel
theorem dX12_prove_76 : decode cX12_prove 76 = .ok (.aload_n 0, 1) := by decide +kernel
theorem dX12_prove_77 : decode cX12_prove 77 = .ok (.iconst 1, 1) := by decide +kernel
theorem dX12_prove_78 : decode cX12_prove 78 = .ok (.invokevirtual 151, 3) := by decide +kernel
theorem dX12_prove_81 : decode cX12_prove 81 = .ok (.iastore, 1) := by decide +kernel
theorem dX12_prove_82 : decode cX12_prove 82 = .ok (.iinc 2 1, 3) := by decide +kernel
theorem dX12_prove_85 : decode cX12_prove 85 = .ok (.goto (-60), 3) := by decide +kernel
theorem dX12_prove_88 : decode cX12_prove 88 = .ok (.aload_n 0, 1) := by decide +kernel
theorem dX12_prove_89 : decode cX12_prove 89 = .ok (.invokevirtual 160, 3) := by decide +kernel
theorem dX12_prove_92 : decode cX12_prove 92 = .ok (.aload_n 0, 1) := by decide +kernel
theorem dX12_prove_93 : decode cX12_prove 93 = .ok (.getfield 264, 3) := by decide +kernel
theorem dX12_prove_96 : decode cX12_prove 96 = .ok (.ireturn, 1) := by decide +kernel
def f12_prove_b25B (K88 : lu_M → Option (Int32 × lu_M)) (rec : Int32 → lu_M → Option (Int32 × lu_M)) (a1 : Int32) (v2 : Int32) (m : lu_M) : Option (Int32 × lu_M) :=
  if (m 0 21) ≤ v2 then (K88 m)
  else (lu_gd (lu_ib v2 4) <|
  lu_gd (lu_ib ((3 : Int32) * v2) 12) <|
  lu_nm (lu_st m 10 ((3 : Int32) * v2).toNatClampNeg (m 9 v2.toNatClampNeg)) fun m7 =>
  lu_gd (lu_ib v2 4) <|
  lu_bi (f12_goes (m7 9 v2.toNatClampNeg) m7) fun x8 m9 =>
  lu_gd (lu_ib (((3 : Int32) * v2) + (1 : Int32)) 12) <|
  lu_nm (lu_st m9 10 (((3 : Int32) * v2) + (1 : Int32)).toNatClampNeg x8) fun m10 =>
  lu_bi (f12_those (1 : Int32) m10) fun x11 m12 =>
  lu_gd (lu_ib (((3 : Int32) * v2) + (2 : Int32)) 12) <|
  lu_nm (lu_st m12 10 (((3 : Int32) * v2) + (2 : Int32)).toNatClampNeg x11) fun m13 =>
  rec (v2 + (1 : Int32)) m13)
def f12_prove_b25 (K88 : lu_M → Option (Int32 × lu_M)) (a1 : Int32) : Nat → Int32 → lu_M → Option (Int32 × lu_M)
  | 0, _, _ => none
  | n + 1, v2, m => f12_prove_b25B K88 (f12_prove_b25 K88 a1 n) a1 v2 m
set_option maxRecDepth 20000 in
theorem w12_prove_b25B  {G : lu_G} {ρ : Nat → Nat} {a1 : Int32} {K88 : lu_M → Option (Int32 × lu_M)} {rec : Int32 → lu_M → Option (Int32 × lu_M)} (X : lu_X G RX12 cX12_prove 3 44 1055) (hret : (lu_me G).sig.returnType = (some .int))  (hK88 : ∀  (m : lu_M), lu_Ab lu_TM G (lu_Q lu_TM G ρ lu_RVi lu_sn) (K88 m) 88 [(0, .ref (ρ 0))] [] ρ 0 0 [] m) (hrec : ∀ (v2 : Int32) (m : lu_M), lu_Ab lu_TM G (lu_Q lu_TM G ρ lu_RVi lu_sn) (rec v2 m) 25 [(0, .ref (ρ 0)), (2, .int v2)] [] ρ 0 0 [] m) : ∀ (v2 : Int32) (m : lu_M), lu_Ab lu_TM G (lu_Q lu_TM G ρ lu_RVi lu_sn) (f12_prove_b25B K88 rec a1 v2 m) 25 [(0, .ref (ρ 0)), (2, .int v2)] [] ρ 0 0 [] m := by
  intro v2 m
  unfold f12_prove_b25B
  refine lu_iload_n X dX12_prove_25 (pc2 := 26) rfl rfl 1 rfl ?_
  refine lu_aload_n X dX12_prove_26 (pc2 := 27) rfl rfl 0 rfl ?_
  refine lu_get X fl12_264 rfl kM_0 lM_0 dX12_prove_27 (pc2 := 30) rfl ?_
  refine lu_icmp_ge (tgt := 88) X dX12_prove_30 (pc2 := 33) rfl (by decide) (fun _ => ?_) (fun _ => ?_)
  · exact lu_sub [0] rfl (hK88 m)
  · refine lu_aload_n X dX12_prove_33 (pc2 := 34) rfl rfl 0 rfl ?_
    refine lu_getr (r2 := 10) X rfl fl12_37 rfl kM_0 lM_0 dX12_prove_34 (pc2 := 37) rfl ?_
    refine lu_iconst X dX12_prove_37 (pc2 := 38) rfl ic_3 ?_
    refine lu_iload_n X dX12_prove_38 (pc2 := 39) rfl rfl 1 rfl ?_
    refine lu_imul X dX12_prove_39 (pc2 := 40) rfl ?_
    refine lu_aload_n X dX12_prove_40 (pc2 := 41) rfl rfl 0 rfl ?_
    refine lu_getr (r2 := 9) X rfl fl12_34 rfl kM_0 lM_0 dX12_prove_41 (pc2 := 44) rfl ?_
    refine lu_iload_n X dX12_prove_44 (pc2 := 45) rfl rfl 1 rfl ?_
    refine lu_iald X kM_9 lM_9 dX12_prove_45 (pc2 := 46) rfl ?_
    refine lu_iast X kM_10 lM_10 dX12_prove_46 (pc2 := 47) rfl (fun m7 => ?_)
    refine lu_aload_n X dX12_prove_47 (pc2 := 48) rfl rfl 0 rfl ?_
    refine lu_getr (r2 := 10) X rfl fl12_37 rfl kM_0 lM_0 dX12_prove_48 (pc2 := 51) rfl ?_
    refine lu_iconst X dX12_prove_51 (pc2 := 52) rfl ic_3 ?_
    refine lu_iload_n X dX12_prove_52 (pc2 := 53) rfl rfl 1 rfl ?_
    refine lu_imul X dX12_prove_53 (pc2 := 54) rfl ?_
    refine lu_iconst X dX12_prove_54 (pc2 := 55) rfl ic_1 ?_
    refine lu_iadd X dX12_prove_55 (pc2 := 56) rfl ?_
    refine lu_aload_n X dX12_prove_56 (pc2 := 57) rfl rfl 0 rfl ?_
    refine lu_aload_n X dX12_prove_57 (pc2 := 58) rfl rfl 0 rfl ?_
    refine lu_getr (r2 := 9) X rfl fl12_34 rfl kM_0 lM_0 dX12_prove_58 (pc2 := 61) rfl ?_
    refine lu_iload_n X dX12_prove_61 (pc2 := 62) rfl rfl 1 rfl ?_
    refine lu_iald X kM_9 lM_9 dX12_prove_62 (pc2 := 63) rfl ?_
    refine lu_invVi X (c12_goes _ (m7 9 v2.toNatClampNeg)) rfl q1370 mvV_12_goes kM_0 lM_0 (by decide) ⟨_, rfl, rfl⟩ rfl rfl (Nat.le_of_ble_eq_true rfl) (Nat.le_of_ble_eq_true rfl) (Nat.le_of_ble_eq_true rfl) ⟨Nat.zero_le _, Nat.zero_le _⟩ dX12_prove_63 (pc2 := 66) rfl rfl (fun x8 m9 => ?_)
    refine lu_iast X kM_10 lM_10 dX12_prove_66 (pc2 := 67) rfl (fun m10 => ?_)
    refine lu_aload_n X dX12_prove_67 (pc2 := 68) rfl rfl 0 rfl ?_
    refine lu_getr (r2 := 10) X rfl fl12_37 rfl kM_0 lM_0 dX12_prove_68 (pc2 := 71) rfl ?_
    refine lu_iconst X dX12_prove_71 (pc2 := 72) rfl ic_3 ?_
    refine lu_iload_n X dX12_prove_72 (pc2 := 73) rfl rfl 1 rfl ?_
    refine lu_imul X dX12_prove_73 (pc2 := 74) rfl ?_
    refine lu_iconst X dX12_prove_74 (pc2 := 75) rfl ic_2 ?_
    refine lu_iadd X dX12_prove_75 (pc2 := 76) rfl ?_
    refine lu_aload_n X dX12_prove_76 (pc2 := 77) rfl rfl 0 rfl ?_
    refine lu_iconst X dX12_prove_77 (pc2 := 78) rfl ic_1 ?_
    refine lu_invVi X (c12_those _ (1 : Int32)) rfl q1383 mvV_12_those kM_0 lM_0 (by decide) ⟨_, rfl, rfl⟩ rfl rfl (Nat.le_of_ble_eq_true rfl) (Nat.le_of_ble_eq_true rfl) (Nat.le_of_ble_eq_true rfl) ⟨Nat.zero_le _, Nat.zero_le _⟩ dX12_prove_78 (pc2 := 81) rfl rfl (fun x11 m12 => ?_)
    refine lu_iast X kM_10 lM_10 dX12_prove_81 (pc2 := 82) rfl (fun m13 => ?_)
    refine lu_iinc (lv2 := [(2, .int (v2 + (1 : Int32))), (0, .ref (ρ 0))]) X dX12_prove_82 (pc2 := 85) rfl 1 rfl (lu_ii _ ic_1) (by decide) rfl ?_
    refine lu_goto (tgt := 25) X dX12_prove_85 (by decide) ?_
    exact lu_sub [1, 0] rfl (hrec (v2 + (1 : Int32)) m13)
theorem w12_prove_b25  {G : lu_G} {ρ : Nat → Nat} {a1 : Int32} {K88 : lu_M → Option (Int32 × lu_M)} (X : lu_X G RX12 cX12_prove 3 44 1055) (hret : (lu_me G).sig.returnType = (some .int))  (hK88 : ∀  (m : lu_M), lu_Ab lu_TM G (lu_Q lu_TM G ρ lu_RVi lu_sn) (K88 m) 88 [(0, .ref (ρ 0))] [] ρ 0 0 [] m) : ∀ (n : Nat) (v2 : Int32) (m : lu_M), lu_Ab lu_TM G (lu_Q lu_TM G ρ lu_RVi lu_sn) (f12_prove_b25 K88 a1 n v2 m) 25 [(0, .ref (ρ 0)), (2, .int v2)] [] ρ 0 0 [] m := by
  intro n
  induction n with
  | zero => intro v2 m; exact lu_none
  | succ n ih => intro v2 m; exact w12_prove_b25B X hret hK88 ih v2 m
def f12_prove_b88  (a1 : Int32)  (m : lu_M) : Option (Int32 × lu_M) :=
  lu_bv (f12_putsBack m) fun m14 =>
  some ((m14 0 21), m14)
set_option maxRecDepth 20000 in
theorem w12_prove_b88  {G : lu_G} {ρ : Nat → Nat} {a1 : Int32}  (X : lu_X G RX12 cX12_prove 3 44 1055) (hret : (lu_me G).sig.returnType = (some .int))   : ∀  (m : lu_M), lu_Ab lu_TM G (lu_Q lu_TM G ρ lu_RVi lu_sn) (f12_prove_b88 a1 m) 88 [(0, .ref (ρ 0))] [] ρ 0 0 [] m := by
  intro  m
  unfold f12_prove_b88
  refine lu_aload_n X dX12_prove_88 (pc2 := 89) rfl rfl 0 rfl ?_
  refine lu_invVv X (c12_putsBack _) rfl q1399 mvV_12_putsBack kM_0 lM_0 (by decide) ⟨_, rfl, rfl⟩ rfl rfl (Nat.le_of_ble_eq_true rfl) (Nat.le_of_ble_eq_true rfl) (Nat.le_of_ble_eq_true rfl) ⟨Nat.zero_le _, Nat.zero_le _⟩ dX12_prove_89 (pc2 := 92) rfl rfl (fun m14 => ?_)
  refine lu_aload_n X dX12_prove_92 (pc2 := 93) rfl rfl 0 rfl ?_
  refine lu_get X fl12_264 rfl kM_0 lM_0 dX12_prove_93 (pc2 := 96) rfl ?_
  exact lu_iret X hret dX12_prove_96
def f12_prove (a1 : Int32) (m : lu_M) : Option (Int32 × lu_M) :=
  lu_bi (f12_isLong a1 m) fun x1 m2 =>
  if x1 = 0 then (some ((-1 : Int32), m2))
  else (lu_bi (f12_plansOf a1 (0 : Int32) m2) fun x3 m4 =>
  lu_nm (lu_st m4 0 21 x3) fun m5 =>
  lu_bv (f12_puts m5) fun m6 =>
  f12_prove_b25 (f12_prove_b88 a1) a1 lu_fu (0 : Int32) m6)
set_option maxRecDepth 20000 in
theorem c12_prove (l : Launch)   (a1 : Int32) : lu_C lu_TM l yX12_prove cX12_prove 3 (some .int) 44 1055 (fun ρ sa => [.ref (ρ 0), .int a1]) (f12_prove a1) lu_RVi lu_sn := by
  refine lu_met (cls := RX12) rfl (by decide +kernel) (fun _ _ => Nat.le_of_ble_eq_true rfl) ?_
  intro G ρ m hl X hret
  subst hl
  change lu_Ab lu_TM G (lu_Q lu_TM G ρ lu_RVi lu_sn) (f12_prove a1 m) 0 [(0, .ref (ρ 0)), (1, .int a1)] [] ρ 0 0 [] m
  unfold f12_prove
  refine lu_iload_n X dX12_prove_0 (pc2 := 1) rfl rfl 1 rfl ?_
  refine lu_invSi X (c12_isLong _ a1) rfl q1472 mvS_12_isLong rfl rfl (Nat.le_of_ble_eq_true rfl) (Nat.le_of_ble_eq_true rfl) (Nat.le_of_ble_eq_true rfl) ⟨Nat.zero_le _, Nat.zero_le _⟩ dX12_prove_1 (pc2 := 4) rfl rfl (fun x1 m2 => ?_)
  refine lu_if_ne (tgt := 9) X dX12_prove_4 (pc2 := 7) rfl (by decide) (fun _ => ?_) (fun _ => ?_)
  · refine lu_aload_n X dX12_prove_9 (pc2 := 10) rfl rfl 0 rfl ?_
    refine lu_aload_n X dX12_prove_10 (pc2 := 11) rfl rfl 0 rfl ?_
    refine lu_iload_n X dX12_prove_11 (pc2 := 12) rfl rfl 1 rfl ?_
    refine lu_iconst X dX12_prove_12 (pc2 := 13) rfl ic_0 ?_
    refine lu_invVi X (c12_plansOf _ a1 (0 : Int32)) rfl q1475 mvV_12_plansOf kM_0 lM_0 (by decide) ⟨_, rfl, rfl⟩ rfl rfl (Nat.le_of_ble_eq_true rfl) (Nat.le_of_ble_eq_true rfl) (Nat.le_of_ble_eq_true rfl) ⟨Nat.zero_le _, Nat.zero_le _⟩ dX12_prove_13 (pc2 := 16) rfl rfl (fun x3 m4 => ?_)
    refine lu_put X fl12_264 rfl (Or.inl (by decide)) rfl (by decide +kernel) kM_0 lM_0 dX12_prove_16 (pc2 := 19) rfl (fun m5 => ?_)
    refine lu_aload_n X dX12_prove_19 (pc2 := 20) rfl rfl 0 rfl ?_
    refine lu_invVv X (c12_puts _) rfl q1391 mvV_12_puts kM_0 lM_0 (by decide) ⟨_, rfl, rfl⟩ rfl rfl (Nat.le_of_ble_eq_true rfl) (Nat.le_of_ble_eq_true rfl) (Nat.le_of_ble_eq_true rfl) ⟨Nat.zero_le _, Nat.zero_le _⟩ dX12_prove_20 (pc2 := 23) rfl rfl (fun m6 => ?_)
    refine lu_iconst X dX12_prove_23 (pc2 := 24) rfl ic_0 ?_
    refine lu_istore_n (lv2 := [(2, .int (0 : Int32)), (0, .ref (ρ 0)), (1, .int a1)]) X dX12_prove_24 (pc2 := 25) rfl rfl (by decide) rfl ?_
    exact lu_sub [1, 0] rfl (w12_prove_b25 X hret (w12_prove_b88 X hret) lu_fu (0 : Int32) m6)
  · refine lu_iconst X dX12_prove_7 (pc2 := 8) rfl ic_m1 ?_
    exact lu_iret X hret dX12_prove_8

theorem dX12_isRow_0 : decode cX12_isRow 0 = .ok (.iload_n 1, 1) := by decide +kernel
theorem dX12_isRow_1 : decode cX12_isRow 1 = .ok (.i2l, 1) := by decide +kernel
theorem dX12_isRow_2 : decode cX12_isRow 2 = .ok (.lconst 0, 1) := by decide +kernel
theorem dX12_isRow_3 : decode cX12_isRow 3 = .ok (.aload_n 0, 1) := by decide +kernel
theorem dX12_isRow_4 : decode cX12_isRow 4 = .ok (.getfield 264, 3) := by decide +kernel
theorem dX12_isRow_7 : decode cX12_isRow 7 = .ok (.iconst 1, 1) := by decide +kernel
theorem dX12_isRow_8 : decode cX12_isRow 8 = .ok (.isub, 1) := by decide +kernel
theorem dX12_isRow_9 : decode cX12_isRow 9 = .ok (.i2l, 1) := by decide +kernel
theorem dX12_isRow_10 : decode cX12_isRow 10 = .ok (.invokestatic 64, 3) := by decide +kernel
theorem dX12_isRow_13 : decode cX12_isRow 13 = .ok (.ifCond .eq 19, 3) := by decide +kernel
theorem dX12_isRow_16 : decode cX12_isRow 16 = .ok (.iload_n 2, 1) := by decide +kernel
theorem dX12_isRow_17 : decode cX12_isRow 17 = .ok (.i2l, 1) := by decide +kernel
theorem dX12_isRow_18 : decode cX12_isRow 18 = .ok (.lconst 0, 1) := by decide +kernel
theorem dX12_isRow_19 : decode cX12_isRow 19 = .ok (.ldc2_w 109, 3) := by decide +kernel
theorem dX12_isRow_22 : decode cX12_isRow 22 = .ok (.invokestatic 64, 3) := by decide +kernel
theorem dX12_isRow_25 : decode cX12_isRow 25 = .ok (.ifCond .eq 7, 3) := by decide +kernel
theorem dX12_isRow_28 : decode cX12_isRow 28 = .ok (.iconst 1, 1) := by decide +kernel
theorem dX12_isRow_29 : decode cX12_isRow 29 = .ok (.goto 4, 3) := by decide +kernel
theorem dX12_isRow_32 : decode cX12_isRow 32 = .ok (.iconst 0, 1) := by decide +kernel
theorem dX12_isRow_33 : decode cX12_isRow 33 = .ok (.ireturn, 1) := by decide +kernel
def f12_isRow_b33  (a1 : Int32) (a2 : Int32) (s0 : Int32) (m : lu_M) : Option (Int32 × lu_M) :=
  lu_gd (decide (s0 = 0 ∨ s0 = 1)) (some (s0, m))
set_option maxRecDepth 20000 in
theorem w12_isRow_b33  {G : lu_G} {ρ : Nat → Nat} {a1 : Int32} {a2 : Int32}  (X : lu_X G RX12 cX12_isRow 3 1 25) (hret : (lu_me G).sig.returnType = (some .boolean))   : ∀ (s0 : Int32) (m : lu_M), lu_Ab lu_TM G (lu_Q lu_TM G ρ lu_RVi lu_sn) (f12_isRow_b33 a1 a2 s0 m) 33 [] [.int s0] ρ 0 0 [] m := by
  intro s0 m
  unfold f12_isRow_b33
  exact lu_zretG X hret dX12_isRow_33
def f12_isRow_b32  (a1 : Int32) (a2 : Int32)  (m : lu_M) : Option (Int32 × lu_M) :=
  f12_isRow_b33 a1 a2 (0 : Int32) m
set_option maxRecDepth 20000 in
theorem w12_isRow_b32  {G : lu_G} {ρ : Nat → Nat} {a1 : Int32} {a2 : Int32}  (X : lu_X G RX12 cX12_isRow 3 1 25) (hret : (lu_me G).sig.returnType = (some .boolean))   : ∀  (m : lu_M), lu_Ab lu_TM G (lu_Q lu_TM G ρ lu_RVi lu_sn) (f12_isRow_b32 a1 a2 m) 32 [] [] ρ 0 0 [] m := by
  intro  m
  unfold f12_isRow_b32
  refine lu_iconst X dX12_isRow_32 (pc2 := 33) rfl ic_0 ?_
  exact w12_isRow_b33 X hret (0 : Int32) m
def f12_isRow (a1 : Int32) (a2 : Int32) (m : lu_M) : Option (Int32 × lu_M) :=
  lu_bi (f12_in a1.toInt64 (0 : Int64) (((m 0 21) - (1 : Int32)).toInt64) m) fun x1 m2 =>
  if x1 = 0 then (f12_isRow_b32 a1 a2 m2)
  else (lu_bi (f12_in a2.toInt64 (0 : Int64) (2 : Int64) m2) fun x3 m4 =>
  if x3 = 0 then (f12_isRow_b32 a1 a2 m4)
  else (f12_isRow_b33 a1 a2 (1 : Int32) m4))
set_option maxRecDepth 20000 in
theorem c12_isRow (l : Launch)   (a1 : Int32) (a2 : Int32) : lu_C lu_TM l yX12_isRow cX12_isRow 3 (some .boolean) 1 25 (fun ρ sa => [.ref (ρ 0), .int a1, .int a2]) (f12_isRow a1 a2) lu_RVi lu_sn := by
  refine lu_met (cls := RX12) rfl (by decide +kernel) (fun _ _ => Nat.le_of_ble_eq_true rfl) ?_
  intro G ρ m hl X hret
  subst hl
  change lu_Ab lu_TM G (lu_Q lu_TM G ρ lu_RVi lu_sn) (f12_isRow a1 a2 m) 0 [(0, .ref (ρ 0)), (1, .int a1), (2, .int a2)] [] ρ 0 0 [] m
  unfold f12_isRow
  refine lu_iload_n X dX12_isRow_0 (pc2 := 1) rfl rfl 1 rfl ?_
  refine lu_i2l X dX12_isRow_1 (pc2 := 2) rfl ?_
  refine lu_lconst (v := (0 : Int64)) X dX12_isRow_2 (pc2 := 3) rfl (by decide) ?_
  refine lu_aload_n X dX12_isRow_3 (pc2 := 4) rfl rfl 0 rfl ?_
  refine lu_get X fl12_264 rfl kM_0 lM_0 dX12_isRow_4 (pc2 := 7) rfl ?_
  refine lu_iconst X dX12_isRow_7 (pc2 := 8) rfl ic_1 ?_
  refine lu_isub X dX12_isRow_8 (pc2 := 9) rfl ?_
  refine lu_i2l X dX12_isRow_9 (pc2 := 10) rfl ?_
  refine lu_invSi X (c12_in _ a1.toInt64 (0 : Int64) (((m 0 21) - (1 : Int32)).toInt64)) rfl q1261 mvS_12_in rfl rfl (Nat.le_of_ble_eq_true rfl) (Nat.le_of_ble_eq_true rfl) (Nat.le_of_ble_eq_true rfl) ⟨Nat.zero_le _, Nat.zero_le _⟩ dX12_isRow_10 (pc2 := 13) rfl rfl (fun x1 m2 => ?_)
  refine lu_if_eq (tgt := 32) X dX12_isRow_13 (pc2 := 16) rfl (by decide) (fun _ => ?_) (fun _ => ?_)
  · exact lu_sub [] rfl (w12_isRow_b32 X hret m2)
  · refine lu_iload_n X dX12_isRow_16 (pc2 := 17) rfl rfl 2 rfl ?_
    refine lu_i2l X dX12_isRow_17 (pc2 := 18) rfl ?_
    refine lu_lconst (v := (0 : Int64)) X dX12_isRow_18 (pc2 := 19) rfl (by decide) ?_
    refine lu_ldc2 X q1327 dX12_isRow_19 (pc2 := 22) rfl ?_
    refine lu_invSi X (c12_in _ a2.toInt64 (0 : Int64) (2 : Int64)) rfl q1261 mvS_12_in rfl rfl (Nat.le_of_ble_eq_true rfl) (Nat.le_of_ble_eq_true rfl) (Nat.le_of_ble_eq_true rfl) ⟨Nat.zero_le _, Nat.zero_le _⟩ dX12_isRow_22 (pc2 := 25) rfl rfl (fun x3 m4 => ?_)
    refine lu_if_eq (tgt := 32) X dX12_isRow_25 (pc2 := 28) rfl (by decide) (fun _ => ?_) (fun _ => ?_)
    · exact lu_sub [] rfl (w12_isRow_b32 X hret m4)
    · refine lu_iconst X dX12_isRow_28 (pc2 := 29) rfl ic_1 ?_
      refine lu_goto (tgt := 33) X dX12_isRow_29 (by decide) ?_
      exact lu_sub [] rfl (w12_isRow_b33 X hret (1 : Int32) m4)

theorem dX12_row_0 : decode cX12_row 0 = .ok (.aload_n 0, 1) := by decide +kernel
theorem dX12_row_1 : decode cX12_row 1 = .ok (.iload_n 1, 1) := by decide +kernel
theorem dX12_row_2 : decode cX12_row 2 = .ok (.iload_n 2, 1) := by decide +kernel
theorem dX12_row_3 : decode cX12_row 3 = .ok (.invokevirtual 267, 3) := by decide +kernel
theorem dX12_row_6 : decode cX12_row 6 = .ok (.ifCond .eq 16, 3) := by decide +kernel
theorem dX12_row_9 : decode cX12_row 9 = .ok (.aload_n 0, 1) := by decide +kernel
theorem dX12_row_10 : decode cX12_row 10 = .ok (.getfield 37, 3) := by decide +kernel
theorem dX12_row_13 : decode cX12_row 13 = .ok (.iconst 3, 1) := by decide +kernel
theorem dX12_row_14 : decode cX12_row 14 = .ok (.iload_n 1, 1) := by decide +kernel
theorem dX12_row_15 : decode cX12_row 15 = .ok (.imul, 1) := by decide +kernel
theorem dX12_row_16 : decode cX12_row 16 = .ok (.iload_n 2, 1) := by decide +kernel
theorem dX12_row_17 : decode cX12_row 17 = .ok (.iadd, 1) := by decide +kernel
theorem dX12_row_18 : decode cX12_row 18 = .ok (.iaload, 1) := by decide +kernel
theorem dX12_row_19 : decode cX12_row 19 = .ok (.goto 5, 3) := by decide +kernel
theorem dX12_row_22 : decode cX12_row 22 = .ok (.bipush (-9), 2) := by decide +kernel
theorem dX12_row_24 : decode cX12_row 24 = .ok (.ireturn, 1) := by decide +kernel
def f12_row_b24  (a1 : Int32) (a2 : Int32) (s0 : Int32) (m : lu_M) : Option (Int32 × lu_M) :=
  some (s0, m)
set_option maxRecDepth 20000 in
theorem w12_row_b24  {G : lu_G} {ρ : Nat → Nat} {a1 : Int32} {a2 : Int32}  (X : lu_X G RX12 cX12_row 3 2 47) (hret : (lu_me G).sig.returnType = (some .int))   : ∀ (s0 : Int32) (m : lu_M), lu_Ab lu_TM G (lu_Q lu_TM G ρ lu_RVi lu_sn) (f12_row_b24 a1 a2 s0 m) 24 [] [.int s0] ρ 0 0 [] m := by
  intro s0 m
  unfold f12_row_b24
  exact lu_iret X hret dX12_row_24
def f12_row (a1 : Int32) (a2 : Int32) (m : lu_M) : Option (Int32 × lu_M) :=
  lu_bi (f12_isRow a1 a2 m) fun x1 m2 =>
  if x1 = 0 then (f12_row_b24 a1 a2 (-9 : Int32) m2)
  else (lu_gd (lu_ib (((3 : Int32) * a1) + a2) 12) <|
  f12_row_b24 a1 a2 (m2 10 (((3 : Int32) * a1) + a2).toNatClampNeg) m2)
set_option maxRecDepth 20000 in
theorem c12_row (l : Launch)   (a1 : Int32) (a2 : Int32) : lu_C lu_TM l yX12_row cX12_row 3 (some .int) 2 47 (fun ρ sa => [.ref (ρ 0), .int a1, .int a2]) (f12_row a1 a2) lu_RVi lu_sn := by
  refine lu_met (cls := RX12) rfl (by decide +kernel) (fun _ _ => Nat.le_of_ble_eq_true rfl) ?_
  intro G ρ m hl X hret
  subst hl
  change lu_Ab lu_TM G (lu_Q lu_TM G ρ lu_RVi lu_sn) (f12_row a1 a2 m) 0 [(0, .ref (ρ 0)), (1, .int a1), (2, .int a2)] [] ρ 0 0 [] m
  unfold f12_row
  refine lu_aload_n X dX12_row_0 (pc2 := 1) rfl rfl 0 rfl ?_
  refine lu_iload_n X dX12_row_1 (pc2 := 2) rfl rfl 1 rfl ?_
  refine lu_iload_n X dX12_row_2 (pc2 := 3) rfl rfl 2 rfl ?_
  refine lu_invVi X (c12_isRow _ a1 a2) rfl q1588 mvV_12_isRow kM_0 lM_0 (by decide) ⟨_, rfl, rfl⟩ rfl rfl (Nat.le_of_ble_eq_true rfl) (Nat.le_of_ble_eq_true rfl) (Nat.le_of_ble_eq_true rfl) ⟨Nat.zero_le _, Nat.zero_le _⟩ dX12_row_3 (pc2 := 6) rfl rfl (fun x1 m2 => ?_)
  refine lu_if_eq (tgt := 22) X dX12_row_6 (pc2 := 9) rfl (by decide) (fun _ => ?_) (fun _ => ?_)
  · refine lu_bipush X dX12_row_22 (pc2 := 24) rfl bp_m9 ?_
    exact lu_sub [] rfl (w12_row_b24 X hret (-9 : Int32) m2)
  · refine lu_aload_n X dX12_row_9 (pc2 := 10) rfl rfl 0 rfl ?_
    refine lu_getr (r2 := 10) X rfl fl12_37 rfl kM_0 lM_0 dX12_row_10 (pc2 := 13) rfl ?_
    refine lu_iconst X dX12_row_13 (pc2 := 14) rfl ic_3 ?_
    refine lu_iload_n X dX12_row_14 (pc2 := 15) rfl rfl 1 rfl ?_
    refine lu_imul X dX12_row_15 (pc2 := 16) rfl ?_
    refine lu_iload_n X dX12_row_16 (pc2 := 17) rfl rfl 2 rfl ?_
    refine lu_iadd X dX12_row_17 (pc2 := 18) rfl ?_
    refine lu_iald X kM_10 lM_10 dX12_row_18 (pc2 := 19) rfl ?_
    refine lu_goto (tgt := 24) X dX12_row_19 (by decide) ?_
    exact lu_sub [] rfl (w12_row_b24 X hret (m2 10 (((3 : Int32) * a1) + a2).toNatClampNeg) m2)

theorem dX12_alterRow_0 : decode cX12_alterRow 0 = .ok (.aload_n 0, 1) := by decide +kernel
theorem dX12_alterRow_1 : decode cX12_alterRow 1 = .ok (.iload_n 1, 1) := by decide +kernel
theorem dX12_alterRow_2 : decode cX12_alterRow 2 = .ok (.iload_n 2, 1) := by decide +kernel
theorem dX12_alterRow_3 : decode cX12_alterRow 3 = .ok (.invokevirtual 267, 3) := by decide +kernel
theorem dX12_alterRow_6 : decode cX12_alterRow 6 = .ok (.ifCond .ne 6, 3) := by decide +kernel
theorem dX12_alterRow_9 : decode cX12_alterRow 9 = .ok (.bipush (-9), 2) := by decide +kernel
theorem dX12_alterRow_11 : decode cX12_alterRow 11 = .ok (.ireturn, 1) := by decide +kernel
theorem dX12_alterRow_12 : decode cX12_alterRow 12 = .ok (.aload_n 0, 1) := by decide +kernel
theorem dX12_alterRow_13 : decode cX12_alterRow 13 = .ok (.getfield 37, 3) := by decide +kernel
theorem dX12_alterRow_16 : decode cX12_alterRow 16 = .ok (.iconst 3, 1) := by decide +kernel
theorem dX12_alterRow_17 : decode cX12_alterRow 17 = .ok (.iload_n 1, 1) := by decide +kernel
theorem dX12_alterRow_18 : decode cX12_alterRow 18 = .ok (.imul, 1) := by decide +kernel
theorem dX12_alterRow_19 : decode cX12_alterRow 19 = .ok (.iload_n 2, 1) := by decide +kernel
theorem dX12_alterRow_20 : decode cX12_alterRow 20 = .ok (.iadd, 1) := by decide +kernel
theorem dX12_alterRow_21 : decode cX12_alterRow 21 = .ok (.iaload, 1) := by decide +kernel
theorem dX12_alterRow_22 : decode cX12_alterRow 22 = .ok (.istore 4, 2) := by decide +kernel
theorem dX12_alterRow_24 : decode cX12_alterRow 24 = .ok (.aload_n 0, 1) := by decide +kernel
theorem dX12_alterRow_25 : decode cX12_alterRow 25 = .ok (.getfield 37, 3) := by decide +kernel
theorem dX12_alterRow_28 : decode cX12_alterRow 28 = .ok (.iconst 3, 1) := by decide +kernel
theorem dX12_alterRow_29 : decode cX12_alterRow 29 = .ok (.iload_n 1, 1) := by decide +kernel
theorem dX12_alterRow_30 : decode cX12_alterRow 30 = .ok (.imul, 1) := by decide +kernel
theorem dX12_alterRow_31 : decode cX12_alterRow 31 = .ok (.iload_n 2, 1) := by decide +kernel
theorem dX12_alterRow_32 : decode cX12_alterRow 32 = .ok (.iadd, 1) := by decide +kernel
theorem dX12_alterRow_33 : decode cX12_alterRow 33 = .ok (.iload_n 3, 1) := by decide +kernel
theorem dX12_alterRow_34 : decode cX12_alterRow 34 = .ok (.iastore, 1) := by decide +kernel
theorem dX12_alterRow_35 : decode cX12_alterRow 35 = .ok (.iload 4, 2) := by decide +kernel
theorem dX12_alterRow_37 : decode cX12_alterRow 37 = .ok (.ireturn, 1) := by decide +kernel
def f12_alterRow (a1 : Int32) (a2 : Int32) (a3 : Int32) (m : lu_M) : Option (Int32 × lu_M) :=
  lu_bi (f12_isRow a1 a2 m) fun x1 m2 =>
  if x1 = 0 then (some ((-9 : Int32), m2))
  else (lu_gd (lu_ib (((3 : Int32) * a1) + a2) 12) <|
  lu_nm ((m2 10 (((3 : Int32) * a1) + a2).toNatClampNeg)) fun x3 =>
  lu_gd (lu_ib (((3 : Int32) * a1) + a2) 12) <|
  lu_nm (lu_st m2 10 (((3 : Int32) * a1) + a2).toNatClampNeg a3) fun m4 =>
  some (x3, m4))
set_option maxRecDepth 20000 in
theorem c12_alterRow (l : Launch)   (a1 : Int32) (a2 : Int32) (a3 : Int32) : lu_C lu_TM l yX12_alterRow cX12_alterRow 5 (some .int) 2 47 (fun ρ sa => [.ref (ρ 0), .int a1, .int a2, .int a3]) (f12_alterRow a1 a2 a3) lu_RVi lu_sn := by
  refine lu_met (cls := RX12) rfl (by decide +kernel) (fun _ _ => Nat.le_of_ble_eq_true rfl) ?_
  intro G ρ m hl X hret
  subst hl
  change lu_Ab lu_TM G (lu_Q lu_TM G ρ lu_RVi lu_sn) (f12_alterRow a1 a2 a3 m) 0 [(0, .ref (ρ 0)), (1, .int a1), (2, .int a2), (3, .int a3)] [] ρ 0 0 [] m
  unfold f12_alterRow
  refine lu_aload_n X dX12_alterRow_0 (pc2 := 1) rfl rfl 0 rfl ?_
  refine lu_iload_n X dX12_alterRow_1 (pc2 := 2) rfl rfl 1 rfl ?_
  refine lu_iload_n X dX12_alterRow_2 (pc2 := 3) rfl rfl 2 rfl ?_
  refine lu_invVi X (c12_isRow _ a1 a2) rfl q1588 mvV_12_isRow kM_0 lM_0 (by decide) ⟨_, rfl, rfl⟩ rfl rfl (Nat.le_of_ble_eq_true rfl) (Nat.le_of_ble_eq_true rfl) (Nat.le_of_ble_eq_true rfl) ⟨Nat.zero_le _, Nat.zero_le _⟩ dX12_alterRow_3 (pc2 := 6) rfl rfl (fun x1 m2 => ?_)
  refine lu_if_ne (tgt := 12) X dX12_alterRow_6 (pc2 := 9) rfl (by decide) (fun _ => ?_) (fun _ => ?_)
  · refine lu_aload_n X dX12_alterRow_12 (pc2 := 13) rfl rfl 0 rfl ?_
    refine lu_getr (r2 := 10) X rfl fl12_37 rfl kM_0 lM_0 dX12_alterRow_13 (pc2 := 16) rfl ?_
    refine lu_iconst X dX12_alterRow_16 (pc2 := 17) rfl ic_3 ?_
    refine lu_iload_n X dX12_alterRow_17 (pc2 := 18) rfl rfl 1 rfl ?_
    refine lu_imul X dX12_alterRow_18 (pc2 := 19) rfl ?_
    refine lu_iload_n X dX12_alterRow_19 (pc2 := 20) rfl rfl 2 rfl ?_
    refine lu_iadd X dX12_alterRow_20 (pc2 := 21) rfl ?_
    refine lu_iald X kM_10 lM_10 dX12_alterRow_21 (pc2 := 22) rfl ?_
    refine lu_topi (fun x3 => ?_)
    refine lu_istore (lv2 := [(4, .int x3), (0, .ref (ρ 0)), (1, .int a1), (2, .int a2), (3, .int a3)]) X dX12_alterRow_22 (pc2 := 24) rfl (by decide) rfl ?_
    refine lu_aload_n X dX12_alterRow_24 (pc2 := 25) rfl rfl 1 rfl ?_
    refine lu_getr (r2 := 10) X rfl fl12_37 rfl kM_0 lM_0 dX12_alterRow_25 (pc2 := 28) rfl ?_
    refine lu_iconst X dX12_alterRow_28 (pc2 := 29) rfl ic_3 ?_
    refine lu_iload_n X dX12_alterRow_29 (pc2 := 30) rfl rfl 2 rfl ?_
    refine lu_imul X dX12_alterRow_30 (pc2 := 31) rfl ?_
    refine lu_iload_n X dX12_alterRow_31 (pc2 := 32) rfl rfl 3 rfl ?_
    refine lu_iadd X dX12_alterRow_32 (pc2 := 33) rfl ?_
    refine lu_iload_n X dX12_alterRow_33 (pc2 := 34) rfl rfl 4 rfl ?_
    refine lu_iast X kM_10 lM_10 dX12_alterRow_34 (pc2 := 35) rfl (fun m4 => ?_)
    refine lu_iload X dX12_alterRow_35 (pc2 := 37) rfl 0 rfl ?_
    exact lu_iret X hret dX12_alterRow_37
  · refine lu_bipush X dX12_alterRow_9 (pc2 := 11) rfl bp_m9 ?_
    exact lu_iret X hret dX12_alterRow_11

theorem dX12_isAct_0 : decode cX12_isAct 0 = .ok (.iload_n 1, 1) := by decide +kernel
theorem dX12_isAct_1 : decode cX12_isAct 1 = .ok (.i2l, 1) := by decide +kernel
theorem dX12_isAct_2 : decode cX12_isAct 2 = .ok (.lconst 0, 1) := by decide +kernel
theorem dX12_isAct_3 : decode cX12_isAct 3 = .ok (.aload_n 0, 1) := by decide +kernel
theorem dX12_isAct_4 : decode cX12_isAct 4 = .ok (.getfield 7, 3) := by decide +kernel
theorem dX12_isAct_7 : decode cX12_isAct 7 = .ok (.iconst 0, 1) := by decide +kernel
theorem dX12_isAct_8 : decode cX12_isAct 8 = .ok (.iaload, 1) := by decide +kernel
theorem dX12_isAct_9 : decode cX12_isAct 9 = .ok (.i2l, 1) := by decide +kernel
theorem dX12_isAct_10 : decode cX12_isAct 10 = .ok (.invokestatic 64, 3) := by decide +kernel
theorem dX12_isAct_13 : decode cX12_isAct 13 = .ok (.ifCond .eq 14, 3) := by decide +kernel
theorem dX12_isAct_16 : decode cX12_isAct 16 = .ok (.aload_n 0, 1) := by decide +kernel
theorem dX12_isAct_17 : decode cX12_isAct 17 = .ok (.invokevirtual 124, 3) := by decide +kernel
theorem dX12_isAct_20 : decode cX12_isAct 20 = .ok (.ifCond .ne 7, 3) := by decide +kernel
theorem dX12_isAct_23 : decode cX12_isAct 23 = .ok (.iconst 1, 1) := by decide +kernel
theorem dX12_isAct_24 : decode cX12_isAct 24 = .ok (.goto 4, 3) := by decide +kernel
theorem dX12_isAct_27 : decode cX12_isAct 27 = .ok (.iconst 0, 1) := by decide +kernel
theorem dX12_isAct_28 : decode cX12_isAct 28 = .ok (.ireturn, 1) := by decide +kernel
def f12_isAct_b28  (a1 : Int32) (s0 : Int32) (m : lu_M) : Option (Int32 × lu_M) :=
  lu_gd (decide (s0 = 0 ∨ s0 = 1)) (some (s0, m))
set_option maxRecDepth 20000 in
theorem w12_isAct_b28  {G : lu_G} {ρ : Nat → Nat} {a1 : Int32}  (X : lu_X G RX12 cX12_isAct 2 1 25) (hret : (lu_me G).sig.returnType = (some .boolean))   : ∀ (s0 : Int32) (m : lu_M), lu_Ab lu_TM G (lu_Q lu_TM G ρ lu_RVi lu_sn) (f12_isAct_b28 a1 s0 m) 28 [] [.int s0] ρ 0 0 [] m := by
  intro s0 m
  unfold f12_isAct_b28
  exact lu_zretG X hret dX12_isAct_28
def f12_isAct_b27  (a1 : Int32)  (m : lu_M) : Option (Int32 × lu_M) :=
  f12_isAct_b28 a1 (0 : Int32) m
set_option maxRecDepth 20000 in
theorem w12_isAct_b27  {G : lu_G} {ρ : Nat → Nat} {a1 : Int32}  (X : lu_X G RX12 cX12_isAct 2 1 25) (hret : (lu_me G).sig.returnType = (some .boolean))   : ∀  (m : lu_M), lu_Ab lu_TM G (lu_Q lu_TM G ρ lu_RVi lu_sn) (f12_isAct_b27 a1 m) 27 [] [] ρ 0 0 [] m := by
  intro  m
  unfold f12_isAct_b27
  refine lu_iconst X dX12_isAct_27 (pc2 := 28) rfl ic_0 ?_
  exact w12_isAct_b28 X hret (0 : Int32) m
def f12_isAct (a1 : Int32) (m : lu_M) : Option (Int32 × lu_M) :=
  lu_bi (f12_in a1.toInt64 (0 : Int64) ((m 1 0).toInt64) m) fun x1 m2 =>
  if x1 = 0 then (f12_isAct_b27 a1 m2)
  else (lu_bi (f12_isOver m2) fun x3 m4 =>
  if x3 = 0 then (f12_isAct_b28 a1 (1 : Int32) m4)
  else (f12_isAct_b27 a1 m4))
set_option maxRecDepth 20000 in
theorem c12_isAct (l : Launch)   (a1 : Int32) : lu_C lu_TM l yX12_isAct cX12_isAct 2 (some .boolean) 1 25 (fun ρ sa => [.ref (ρ 0), .int a1]) (f12_isAct a1) lu_RVi lu_sn := by
  refine lu_met (cls := RX12) rfl (by decide +kernel) (fun _ _ => Nat.le_of_ble_eq_true rfl) ?_
  intro G ρ m hl X hret
  subst hl
  change lu_Ab lu_TM G (lu_Q lu_TM G ρ lu_RVi lu_sn) (f12_isAct a1 m) 0 [(0, .ref (ρ 0)), (1, .int a1)] [] ρ 0 0 [] m
  unfold f12_isAct
  refine lu_iload_n X dX12_isAct_0 (pc2 := 1) rfl rfl 1 rfl ?_
  refine lu_i2l X dX12_isAct_1 (pc2 := 2) rfl ?_
  refine lu_lconst (v := (0 : Int64)) X dX12_isAct_2 (pc2 := 3) rfl (by decide) ?_
  refine lu_aload_n X dX12_isAct_3 (pc2 := 4) rfl rfl 0 rfl ?_
  refine lu_getr (r2 := 1) X rfl fl12_7 rfl kM_0 lM_0 dX12_isAct_4 (pc2 := 7) rfl ?_
  refine lu_iconst X dX12_isAct_7 (pc2 := 8) rfl ic_0 ?_
  refine lu_ialdK (q := 0) X (by decide) kM_1 lM_1 dX12_isAct_8 (pc2 := 9) rfl ?_
  refine lu_i2l X dX12_isAct_9 (pc2 := 10) rfl ?_
  refine lu_invSi X (c12_in _ a1.toInt64 (0 : Int64) ((m 1 0).toInt64)) rfl q1261 mvS_12_in rfl rfl (Nat.le_of_ble_eq_true rfl) (Nat.le_of_ble_eq_true rfl) (Nat.le_of_ble_eq_true rfl) ⟨Nat.zero_le _, Nat.zero_le _⟩ dX12_isAct_10 (pc2 := 13) rfl rfl (fun x1 m2 => ?_)
  refine lu_if_eq (tgt := 27) X dX12_isAct_13 (pc2 := 16) rfl (by decide) (fun _ => ?_) (fun _ => ?_)
  · exact lu_sub [] rfl (w12_isAct_b27 X hret m2)
  · refine lu_aload_n X dX12_isAct_16 (pc2 := 17) rfl rfl 0 rfl ?_
    refine lu_invVi X (c12_isOver _) rfl q1362 mvV_12_isOver kM_0 lM_0 (by decide) ⟨_, rfl, rfl⟩ rfl rfl (Nat.le_of_ble_eq_true rfl) (Nat.le_of_ble_eq_true rfl) (Nat.le_of_ble_eq_true rfl) ⟨Nat.zero_le _, Nat.zero_le _⟩ dX12_isAct_17 (pc2 := 20) rfl rfl (fun x3 m4 => ?_)
    refine lu_if_ne (tgt := 27) X dX12_isAct_20 (pc2 := 23) rfl (by decide) (fun _ => ?_) (fun _ => ?_)
    · exact lu_sub [] rfl (w12_isAct_b27 X hret m4)
    · refine lu_iconst X dX12_isAct_23 (pc2 := 24) rfl ic_1 ?_
      refine lu_goto (tgt := 28) X dX12_isAct_24 (by decide) ?_
      exact lu_sub [] rfl (w12_isAct_b28 X hret (1 : Int32) m4)

theorem dX12_judge_0 : decode cX12_judge 0 = .ok (.aload_n 0, 1) := by decide +kernel
theorem dX12_judge_1 : decode cX12_judge 1 = .ok (.invokevirtual 154, 3) := by decide +kernel
theorem dX12_judge_4 : decode cX12_judge 4 = .ok (.iconst 0, 1) := by decide +kernel
theorem dX12_judge_5 : decode cX12_judge 5 = .ok (.istore_n 1, 1) := by decide +kernel
theorem dX12_judge_6 : decode cX12_judge 6 = .ok (.iconst 0, 1) := by decide +kernel
theorem dX12_judge_7 : decode cX12_judge 7 = .ok (.istore_n 2, 1) := by decide +kernel
theorem dX12_judge_8 : decode cX12_judge 8 = .ok (.iload_n 2, 1) := by decide +kernel
theorem dX12_judge_9 : decode cX12_judge 9 = .ok (.aload_n 0, 1) := by decide +kernel
theorem dX12_judge_10 : decode cX12_judge 10 = .ok (.getfield 264, 3) := by decide +kernel
theorem dX12_judge_13 : decode cX12_judge 13 = .ok (.if_icmp .ge 89, 3) := by decide +kernel
theorem dX12_judge_16 : decode cX12_judge 16 = .ok (.iload_n 1, 1) := by decide +kernel
theorem dX12_judge_17 : decode cX12_judge 17 = .ok (.ifCond .ne 85, 3) := by decide +kernel
theorem dX12_judge_20 : decode cX12_judge 20 = .ok (.aload_n 0, 1) := by decide +kernel
theorem dX12_judge_21 : decode cX12_judge 21 = .ok (.aload_n 0, 1) := by decide +kernel
theorem dX12_judge_22 : decode cX12_judge 22 = .ok (.getfield 37, 3) := by decide +kernel
theorem dX12_judge_25 : decode cX12_judge 25 = .ok (.iconst 3, 1) := by decide +kernel
theorem dX12_judge_26 : decode cX12_judge 26 = .ok (.iload_n 2, 1) := by decide +kernel
theorem dX12_judge_27 : decode cX12_judge 27 = .ok (.imul, 1) := by decide +kernel
theorem dX12_judge_28 : decode cX12_judge 28 = .ok (.iaload, 1) := by decide +kernel
theorem dX12_judge_29 : decode cX12_judge 29 = .ok (.invokevirtual 270, 3) := by decide +kernel
theorem dX12_judge_32 : decode cX12_judge 32 = .ok (.ifCond .eq 50, 3) := by decide +kernel
theorem dX12_judge_35 : decode cX12_judge 35 = .ok (.aload_n 0, 1) := by decide +kernel
theorem dX12_judge_36 : decode cX12_judge 36 = .ok (.aload_n 0, 1) := by decide +kernel
theorem dX12_judge_37 : decode cX12_judge 37 = .ok (.getfield 37, 3) := by decide +kernel
theorem dX12_judge_40 : decode cX12_judge 40 = .ok (.iconst 3, 1) := by decide +kernel
theorem dX12_judge_41 : decode cX12_judge 41 = .ok (.iload_n 2, 1) := by decide +kernel
theorem dX12_judge_42 : decode cX12_judge 42 = .ok (.imul, 1) := by decide +kernel
theorem dX12_judge_43 : decode cX12_judge 43 = .ok (.iaload, 1) := by decide +kernel
theorem dX12_judge_44 : decode cX12_judge 44 = .ok (.invokevirtual 146, 3) := by decide +kernel
theorem dX12_judge_47 : decode cX12_judge 47 = .ok (.aload_n 0, 1) := by decide +kernel
theorem dX12_judge_48 : decode cX12_judge 48 = .ok (.getfield 37, 3) := by decide +kernel
theorem dX12_judge_51 : decode cX12_judge 51 = .ok (.iconst 3, 1) := by decide +kernel
theorem dX12_judge_52 : decode cX12_judge 52 = .ok (.iload_n 2, 1) := by decide +kernel
theorem dX12_judge_53 : decode cX12_judge 53 = .ok (.imul, 1) := by decide +kernel
theorem dX12_judge_54 : decode cX12_judge 54 = .ok (.iconst 1, 1) := by decide +kernel
theorem dX12_judge_55 : decode cX12_judge 55 = .ok (.iadd, 1) := by decide +kernel
theorem dX12_judge_56 : decode cX12_judge 56 = .ok (.iaload, 1) := by decide +kernel
theorem dX12_judge_57 : decode cX12_judge 57 = .ok (.if_icmp .ne 25, 3) := by decide +kernel
theorem dX12_judge_60 : decode cX12_judge 60 = .ok (.aload_n 0, 1) := by decide +kernel
theorem dX12_judge_61 : decode cX12_judge 61 = .ok (.iconst 1, 1) := by decide +kernel
theorem dX12_judge_62 : decode cX12_judge 62 = .ok (.invokevirtual 151, 3) := by decide +kernel
theorem dX12_judge_65 : decode cX12_judge 65 = .ok (.aload_n 0, 1) := by decide +kernel
theorem dX12_judge_66 : decode cX12_judge 66 = .ok (.getfield 37, 3) := by decide +kernel
theorem dX12_judge_69 : decode cX12_judge 69 = .ok (.iconst 3, 1) := by decide +kernel
theorem dX12_judge_70 : decode cX12_judge 70 = .ok (.iload_n 2, 1) := by decide +kernel
theorem dX12_judge_71 : decode cX12_judge 71 = .ok (.imul, 1) := by decide +kernel
theorem dX12_judge_72 : decode cX12_judge 72 = .ok (.iconst 2, 1) := by decide +kernel
theorem dX12_judge_73 : decode cX12_judge 73 = .ok (.iadd, 1) := by decide +kernel
theorem dX12_judge_74 : decode cX12_judge 74 = .ok (.iaload, 1) := by decide +kernel
theorem dX12_judge_75 : decode cX12_judge 75 = .ok (.if_icmp .ne 7, 3) := by decide +kernel
theorem dX12_judge_78 : decode cX12_judge 78 = .ok (.iconst 1, 1) := by decide +kernel
theorem dX12_judge_79 : decode cX12_judge 79 = .ok (.goto 4, 3) := by decide +kernel
theorem dX12_judge_82 : decode cX12_judge 82 = .ok (.iconst 0, 1) := by decide +kernel
theorem dX12_judge_83 : decode cX12_judge 83 = .ok (.istore_n 3, 1) := by decide +kernel
theorem dX12_judge_84 : decode cX12_judge 84 = .ok (.iload_n 3, 1) := by decide +kernel
theorem dX12_judge_85 : decode cX12_judge 85 = .ok (.ifCond .eq 7, 3) := by decide +kernel
theorem dX12_judge_88 : decode cX12_judge 88 = .ok (.iconst 0, 1) := by decide +kernel
theorem dX12_judge_89 : decode cX12_judge 89 = .ok (.goto 6, 3) := by decide +kernel
theorem dX12_judge_92 : decode cX12_judge 92 = .ok (.iload_n 2, 1) := by decide +kernel
theorem dX12_judge_93 : decode cX12_judge 93 = .ok (.iconst 1, 1) := by decide +kernel
theorem dX12_judge_94 : decode cX12_judge 94 = .ok (.iadd, 1) := by decide +kernel
theorem dX12_judge_95 : decode cX12_judge 95 = .ok (.istore_n 1, 1) := by decide +kernel
theorem dX12_judge_96 : decode cX12_judge 96 = .ok (.iinc 2 1, 3) := by decide +kernel
theorem dX12_judge_99 : decode cX12_judge 99 = .ok (.goto (-91), 3) := by decide +kernel
theorem dX12_judge_102 : decode cX12_judge 102 = .ok (.aload_n 0, 1) := by decide +kernel
theorem dX12_judge_103 : decode cX12_judge 103 = .ok (.invokevirtual 160, 3) := by decide +kernel
theorem dX12_judge_106 : decode cX12_judge 106 = .ok (.iload_n 1, 1) := by decide +kernel
theorem dX12_judge_107 : decode cX12_judge 107 = .ok (.ireturn, 1) := by decide +kernel
def f12_judge_b95 (K8 : Int32 → Int32 → lu_M → Option (Int32 × lu_M)) (K102 : Int32 → lu_M → Option (Int32 × lu_M))  (v2 : Int32) (s0 : Int32) (m : lu_M) : Option (Int32 × lu_M) :=
  K8 s0 (v2 + (1 : Int32)) m
set_option maxRecDepth 20000 in
theorem w12_judge_b95  {G : lu_G} {ρ : Nat → Nat}  {K8 : Int32 → Int32 → lu_M → Option (Int32 × lu_M)} {K102 : Int32 → lu_M → Option (Int32 × lu_M)} (X : lu_X G RX12 cX12_judge 4 7 168) (hret : (lu_me G).sig.returnType = (some .int))  (hK8 : ∀ (v1 : Int32) (v2 : Int32) (m : lu_M), lu_Ab lu_TM G (lu_Q lu_TM G ρ lu_RVi lu_sn) (K8 v1 v2 m) 8 [(0, .ref (ρ 0)), (1, .int v1), (2, .int v2)] [] ρ 0 0 [] m) (hK102 : ∀ (v1 : Int32) (m : lu_M), lu_Ab lu_TM G (lu_Q lu_TM G ρ lu_RVi lu_sn) (K102 v1 m) 102 [(0, .ref (ρ 0)), (1, .int v1)] [] ρ 0 0 [] m) : ∀ (v2 : Int32) (s0 : Int32) (m : lu_M), lu_Ab lu_TM G (lu_Q lu_TM G ρ lu_RVi lu_sn) (f12_judge_b95 K8 K102 v2 s0 m) 95 [(0, .ref (ρ 0)), (2, .int v2)] [.int s0] ρ 0 0 [] m := by
  intro v2 s0 m
  unfold f12_judge_b95
  refine lu_istore_n (lv2 := [(1, .int s0), (0, .ref (ρ 0)), (2, .int v2)]) X dX12_judge_95 (pc2 := 96) rfl rfl (by decide) rfl ?_
  refine lu_iinc (lv2 := [(2, .int (v2 + (1 : Int32))), (1, .int s0), (0, .ref (ρ 0))]) X dX12_judge_96 (pc2 := 99) rfl 2 rfl (lu_ii _ ic_1) (by decide) rfl ?_
  refine lu_goto (tgt := 8) X dX12_judge_99 (by decide) ?_
  exact lu_sub [2, 1, 0] rfl (hK8 s0 (v2 + (1 : Int32)) m)
def f12_judge_b83 (K8 : Int32 → Int32 → lu_M → Option (Int32 × lu_M)) (K102 : Int32 → lu_M → Option (Int32 × lu_M))  (v2 : Int32) (s0 : Int32) (m : lu_M) : Option (Int32 × lu_M) :=
  if s0 = 0 then (f12_judge_b95 K8 K102 v2 (v2 + (1 : Int32)) m)
  else (f12_judge_b95 K8 K102 v2 (0 : Int32) m)
set_option maxRecDepth 20000 in
theorem w12_judge_b83  {G : lu_G} {ρ : Nat → Nat}  {K8 : Int32 → Int32 → lu_M → Option (Int32 × lu_M)} {K102 : Int32 → lu_M → Option (Int32 × lu_M)} (X : lu_X G RX12 cX12_judge 4 7 168) (hret : (lu_me G).sig.returnType = (some .int))  (hK8 : ∀ (v1 : Int32) (v2 : Int32) (m : lu_M), lu_Ab lu_TM G (lu_Q lu_TM G ρ lu_RVi lu_sn) (K8 v1 v2 m) 8 [(0, .ref (ρ 0)), (1, .int v1), (2, .int v2)] [] ρ 0 0 [] m) (hK102 : ∀ (v1 : Int32) (m : lu_M), lu_Ab lu_TM G (lu_Q lu_TM G ρ lu_RVi lu_sn) (K102 v1 m) 102 [(0, .ref (ρ 0)), (1, .int v1)] [] ρ 0 0 [] m) : ∀ (v2 : Int32) (s0 : Int32) (m : lu_M), lu_Ab lu_TM G (lu_Q lu_TM G ρ lu_RVi lu_sn) (f12_judge_b83 K8 K102 v2 s0 m) 83 [(0, .ref (ρ 0)), (2, .int v2)] [.int s0] ρ 0 0 [] m := by
  intro v2 s0 m
  unfold f12_judge_b83
  refine lu_istore_n (lv2 := [(3, .int s0), (0, .ref (ρ 0)), (2, .int v2)]) X dX12_judge_83 (pc2 := 84) rfl rfl (by decide) rfl ?_
  refine lu_iload_n X dX12_judge_84 (pc2 := 85) rfl rfl 0 rfl ?_
  refine lu_if_eq (tgt := 92) X dX12_judge_85 (pc2 := 88) rfl (by decide) (fun _ => ?_) (fun _ => ?_)
  · refine lu_iload_n X dX12_judge_92 (pc2 := 93) rfl rfl 2 rfl ?_
    refine lu_iconst X dX12_judge_93 (pc2 := 94) rfl ic_1 ?_
    refine lu_iadd X dX12_judge_94 (pc2 := 95) rfl ?_
    exact lu_sub [1, 2] rfl (w12_judge_b95 X hret hK8 hK102 v2 (v2 + (1 : Int32)) m)
  · refine lu_iconst X dX12_judge_88 (pc2 := 89) rfl ic_0 ?_
    refine lu_goto (tgt := 95) X dX12_judge_89 (by decide) ?_
    exact lu_sub [1, 2] rfl (w12_judge_b95 X hret hK8 hK102 v2 (0 : Int32) m)
def f12_judge_b82 (K8 : Int32 → Int32 → lu_M → Option (Int32 × lu_M)) (K102 : Int32 → lu_M → Option (Int32 × lu_M))  (v2 : Int32) (m : lu_M) : Option (Int32 × lu_M) :=
  f12_judge_b83 K8 K102 v2 (0 : Int32) m
set_option maxRecDepth 20000 in
theorem w12_judge_b82  {G : lu_G} {ρ : Nat → Nat}  {K8 : Int32 → Int32 → lu_M → Option (Int32 × lu_M)} {K102 : Int32 → lu_M → Option (Int32 × lu_M)} (X : lu_X G RX12 cX12_judge 4 7 168) (hret : (lu_me G).sig.returnType = (some .int))  (hK8 : ∀ (v1 : Int32) (v2 : Int32) (m : lu_M), lu_Ab lu_TM G (lu_Q lu_TM G ρ lu_RVi lu_sn) (K8 v1 v2 m) 8 [(0, .ref (ρ 0)), (1, .int v1), (2, .int v2)] [] ρ 0 0 [] m) (hK102 : ∀ (v1 : Int32) (m : lu_M), lu_Ab lu_TM G (lu_Q lu_TM G ρ lu_RVi lu_sn) (K102 v1 m) 102 [(0, .ref (ρ 0)), (1, .int v1)] [] ρ 0 0 [] m) : ∀ (v2 : Int32) (m : lu_M), lu_Ab lu_TM G (lu_Q lu_TM G ρ lu_RVi lu_sn) (f12_judge_b82 K8 K102 v2 m) 82 [(0, .ref (ρ 0)), (2, .int v2)] [] ρ 0 0 [] m := by
  intro v2 m
  unfold f12_judge_b82
  refine lu_iconst X dX12_judge_82 (pc2 := 83) rfl ic_0 ?_
  exact w12_judge_b83 X hret hK8 hK102 v2 (0 : Int32) m
def f12_judge_b8B (K102 : Int32 → lu_M → Option (Int32 × lu_M)) (rec : Int32 → Int32 → lu_M → Option (Int32 × lu_M))  (v1 : Int32) (v2 : Int32) (m : lu_M) : Option (Int32 × lu_M) :=
  if (m 0 21) ≤ v2 then (K102 v1 m)
  else (if v1 = 0 then (lu_gd (lu_ib ((3 : Int32) * v2) 12) <|
  lu_bi (f12_isAct (m 10 ((3 : Int32) * v2).toNatClampNeg) m) fun x2 m3 =>
  if x2 = 0 then (f12_judge_b82 rec K102 v2 m3)
  else (lu_gd (lu_ib ((3 : Int32) * v2) 12) <|
  lu_bi (f12_goes (m3 10 ((3 : Int32) * v2).toNatClampNeg) m3) fun x4 m5 =>
  lu_gd (lu_ib (((3 : Int32) * v2) + (1 : Int32)) 12) <|
  if x4 = (m5 10 (((3 : Int32) * v2) + (1 : Int32)).toNatClampNeg) then (lu_bi (f12_those (1 : Int32) m5) fun x6 m7 =>
  lu_gd (lu_ib (((3 : Int32) * v2) + (2 : Int32)) 12) <|
  if x6 = (m7 10 (((3 : Int32) * v2) + (2 : Int32)).toNatClampNeg) then (f12_judge_b83 rec K102 v2 (1 : Int32) m7)
  else (f12_judge_b82 rec K102 v2 m7))
  else (f12_judge_b82 rec K102 v2 m5)))
  else (K102 v1 m))
def f12_judge_b8 (K102 : Int32 → lu_M → Option (Int32 × lu_M))  : Nat → Int32 → Int32 → lu_M → Option (Int32 × lu_M)
  | 0, _, _, _ => none
  | n + 1, v1, v2, m => f12_judge_b8B K102 (f12_judge_b8 K102 n) v1 v2 m
set_option maxRecDepth 20000 in
theorem w12_judge_b8B  {G : lu_G} {ρ : Nat → Nat}  {K102 : Int32 → lu_M → Option (Int32 × lu_M)} {rec : Int32 → Int32 → lu_M → Option (Int32 × lu_M)} (X : lu_X G RX12 cX12_judge 4 7 168) (hret : (lu_me G).sig.returnType = (some .int))  (hK102 : ∀ (v1 : Int32) (m : lu_M), lu_Ab lu_TM G (lu_Q lu_TM G ρ lu_RVi lu_sn) (K102 v1 m) 102 [(0, .ref (ρ 0)), (1, .int v1)] [] ρ 0 0 [] m) (hrec : ∀ (v1 : Int32) (v2 : Int32) (m : lu_M), lu_Ab lu_TM G (lu_Q lu_TM G ρ lu_RVi lu_sn) (rec v1 v2 m) 8 [(0, .ref (ρ 0)), (1, .int v1), (2, .int v2)] [] ρ 0 0 [] m) : ∀ (v1 : Int32) (v2 : Int32) (m : lu_M), lu_Ab lu_TM G (lu_Q lu_TM G ρ lu_RVi lu_sn) (f12_judge_b8B K102 rec v1 v2 m) 8 [(0, .ref (ρ 0)), (1, .int v1), (2, .int v2)] [] ρ 0 0 [] m := by
  intro v1 v2 m
  unfold f12_judge_b8B
  refine lu_iload_n X dX12_judge_8 (pc2 := 9) rfl rfl 2 rfl ?_
  refine lu_aload_n X dX12_judge_9 (pc2 := 10) rfl rfl 0 rfl ?_
  refine lu_get X fl12_264 rfl kM_0 lM_0 dX12_judge_10 (pc2 := 13) rfl ?_
  refine lu_icmp_ge (tgt := 102) X dX12_judge_13 (pc2 := 16) rfl (by decide) (fun _ => ?_) (fun _ => ?_)
  · exact lu_sub [0, 1] rfl (hK102 v1 m)
  · refine lu_iload_n X dX12_judge_16 (pc2 := 17) rfl rfl 1 rfl ?_
    refine lu_if_ne (tgt := 102) X dX12_judge_17 (pc2 := 20) rfl (by decide) (fun _ => ?_) (fun _ => ?_)
    · exact lu_sub [0, 1] rfl (hK102 v1 m)
    · refine lu_aload_n X dX12_judge_20 (pc2 := 21) rfl rfl 0 rfl ?_
      refine lu_aload_n X dX12_judge_21 (pc2 := 22) rfl rfl 0 rfl ?_
      refine lu_getr (r2 := 10) X rfl fl12_37 rfl kM_0 lM_0 dX12_judge_22 (pc2 := 25) rfl ?_
      refine lu_iconst X dX12_judge_25 (pc2 := 26) rfl ic_3 ?_
      refine lu_iload_n X dX12_judge_26 (pc2 := 27) rfl rfl 2 rfl ?_
      refine lu_imul X dX12_judge_27 (pc2 := 28) rfl ?_
      refine lu_iald X kM_10 lM_10 dX12_judge_28 (pc2 := 29) rfl ?_
      refine lu_invVi X (c12_isAct _ (m 10 ((3 : Int32) * v2).toNatClampNeg)) rfl q1600 mvV_12_isAct kM_0 lM_0 (by decide) ⟨_, rfl, rfl⟩ rfl rfl (Nat.le_of_ble_eq_true rfl) (Nat.le_of_ble_eq_true rfl) (Nat.le_of_ble_eq_true rfl) ⟨Nat.zero_le _, Nat.zero_le _⟩ dX12_judge_29 (pc2 := 32) rfl rfl (fun x2 m3 => ?_)
      refine lu_if_eq (tgt := 82) X dX12_judge_32 (pc2 := 35) rfl (by decide) (fun _ => ?_) (fun _ => ?_)
      · exact lu_sub [0, 2] rfl (w12_judge_b82 X hret hrec hK102 v2 m3)
      · refine lu_aload_n X dX12_judge_35 (pc2 := 36) rfl rfl 0 rfl ?_
        refine lu_aload_n X dX12_judge_36 (pc2 := 37) rfl rfl 0 rfl ?_
        refine lu_getr (r2 := 10) X rfl fl12_37 rfl kM_0 lM_0 dX12_judge_37 (pc2 := 40) rfl ?_
        refine lu_iconst X dX12_judge_40 (pc2 := 41) rfl ic_3 ?_
        refine lu_iload_n X dX12_judge_41 (pc2 := 42) rfl rfl 2 rfl ?_
        refine lu_imul X dX12_judge_42 (pc2 := 43) rfl ?_
        refine lu_iald X kM_10 lM_10 dX12_judge_43 (pc2 := 44) rfl ?_
        refine lu_invVi X (c12_goes _ (m3 10 ((3 : Int32) * v2).toNatClampNeg)) rfl q1370 mvV_12_goes kM_0 lM_0 (by decide) ⟨_, rfl, rfl⟩ rfl rfl (Nat.le_of_ble_eq_true rfl) (Nat.le_of_ble_eq_true rfl) (Nat.le_of_ble_eq_true rfl) ⟨Nat.zero_le _, Nat.zero_le _⟩ dX12_judge_44 (pc2 := 47) rfl rfl (fun x4 m5 => ?_)
        refine lu_aload_n X dX12_judge_47 (pc2 := 48) rfl rfl 0 rfl ?_
        refine lu_getr (r2 := 10) X rfl fl12_37 rfl kM_0 lM_0 dX12_judge_48 (pc2 := 51) rfl ?_
        refine lu_iconst X dX12_judge_51 (pc2 := 52) rfl ic_3 ?_
        refine lu_iload_n X dX12_judge_52 (pc2 := 53) rfl rfl 2 rfl ?_
        refine lu_imul X dX12_judge_53 (pc2 := 54) rfl ?_
        refine lu_iconst X dX12_judge_54 (pc2 := 55) rfl ic_1 ?_
        refine lu_iadd X dX12_judge_55 (pc2 := 56) rfl ?_
        refine lu_iald X kM_10 lM_10 dX12_judge_56 (pc2 := 57) rfl ?_
        refine lu_icmp_ne (tgt := 82) X dX12_judge_57 (pc2 := 60) rfl (by decide) (fun _ => ?_) (fun _ => ?_)
        · exact lu_sub [0, 2] rfl (w12_judge_b82 X hret hrec hK102 v2 m5)
        · refine lu_aload_n X dX12_judge_60 (pc2 := 61) rfl rfl 0 rfl ?_
          refine lu_iconst X dX12_judge_61 (pc2 := 62) rfl ic_1 ?_
          refine lu_invVi X (c12_those _ (1 : Int32)) rfl q1383 mvV_12_those kM_0 lM_0 (by decide) ⟨_, rfl, rfl⟩ rfl rfl (Nat.le_of_ble_eq_true rfl) (Nat.le_of_ble_eq_true rfl) (Nat.le_of_ble_eq_true rfl) ⟨Nat.zero_le _, Nat.zero_le _⟩ dX12_judge_62 (pc2 := 65) rfl rfl (fun x6 m7 => ?_)
          refine lu_aload_n X dX12_judge_65 (pc2 := 66) rfl rfl 0 rfl ?_
          refine lu_getr (r2 := 10) X rfl fl12_37 rfl kM_0 lM_0 dX12_judge_66 (pc2 := 69) rfl ?_
          refine lu_iconst X dX12_judge_69 (pc2 := 70) rfl ic_3 ?_
          refine lu_iload_n X dX12_judge_70 (pc2 := 71) rfl rfl 2 rfl ?_
          refine lu_imul X dX12_judge_71 (pc2 := 72) rfl ?_
          refine lu_iconst X dX12_judge_72 (pc2 := 73) rfl ic_2 ?_
          refine lu_iadd X dX12_judge_73 (pc2 := 74) rfl ?_
          refine lu_iald X kM_10 lM_10 dX12_judge_74 (pc2 := 75) rfl ?_
          refine lu_icmp_ne (tgt := 82) X dX12_judge_75 (pc2 := 78) rfl (by decide) (fun _ => ?_) (fun _ => ?_)
          · exact lu_sub [0, 2] rfl (w12_judge_b82 X hret hrec hK102 v2 m7)
          · refine lu_iconst X dX12_judge_78 (pc2 := 79) rfl ic_1 ?_
            refine lu_goto (tgt := 83) X dX12_judge_79 (by decide) ?_
            exact lu_sub [0, 2] rfl (w12_judge_b83 X hret hrec hK102 v2 (1 : Int32) m7)
theorem w12_judge_b8  {G : lu_G} {ρ : Nat → Nat}  {K102 : Int32 → lu_M → Option (Int32 × lu_M)} (X : lu_X G RX12 cX12_judge 4 7 168) (hret : (lu_me G).sig.returnType = (some .int))  (hK102 : ∀ (v1 : Int32) (m : lu_M), lu_Ab lu_TM G (lu_Q lu_TM G ρ lu_RVi lu_sn) (K102 v1 m) 102 [(0, .ref (ρ 0)), (1, .int v1)] [] ρ 0 0 [] m) : ∀ (n : Nat) (v1 : Int32) (v2 : Int32) (m : lu_M), lu_Ab lu_TM G (lu_Q lu_TM G ρ lu_RVi lu_sn) (f12_judge_b8 K102 n v1 v2 m) 8 [(0, .ref (ρ 0)), (1, .int v1), (2, .int v2)] [] ρ 0 0 [] m := by
  intro n
  induction n with
  | zero => intro v1 v2 m; exact lu_none
  | succ n ih => intro v1 v2 m; exact w12_judge_b8B X hret hK102 ih v1 v2 m
def f12_judge_b102   (v1 : Int32) (m : lu_M) : Option (Int32 × lu_M) :=
  lu_bv (f12_putsBack m) fun m8 =>
  some (v1, m8)
set_option maxRecDepth 20000 in
theorem w12_judge_b102  {G : lu_G} {ρ : Nat → Nat}   (X : lu_X G RX12 cX12_judge 4 7 168) (hret : (lu_me G).sig.returnType = (some .int))   : ∀ (v1 : Int32) (m : lu_M), lu_Ab lu_TM G (lu_Q lu_TM G ρ lu_RVi lu_sn) (f12_judge_b102  v1 m) 102 [(0, .ref (ρ 0)), (1, .int v1)] [] ρ 0 0 [] m := by
  intro v1 m
  unfold f12_judge_b102
  refine lu_aload_n X dX12_judge_102 (pc2 := 103) rfl rfl 0 rfl ?_
  refine lu_invVv X (c12_putsBack _) rfl q1399 mvV_12_putsBack kM_0 lM_0 (by decide) ⟨_, rfl, rfl⟩ rfl rfl (Nat.le_of_ble_eq_true rfl) (Nat.le_of_ble_eq_true rfl) (Nat.le_of_ble_eq_true rfl) ⟨Nat.zero_le _, Nat.zero_le _⟩ dX12_judge_103 (pc2 := 106) rfl rfl (fun m8 => ?_)
  refine lu_iload_n X dX12_judge_106 (pc2 := 107) rfl rfl 1 rfl ?_
  exact lu_iret X hret dX12_judge_107
def f12_judge  (m : lu_M) : Option (Int32 × lu_M) :=
  lu_bv (f12_puts m) fun m1 =>
  f12_judge_b8 f12_judge_b102 lu_fu (0 : Int32) (0 : Int32) m1
set_option maxRecDepth 20000 in
theorem c12_judge (l : Launch)    : lu_C lu_TM l yX12_judge cX12_judge 4 (some .int) 7 168 (fun ρ sa => [.ref (ρ 0)]) (f12_judge ) lu_RVi lu_sn := by
  refine lu_met (cls := RX12) rfl (by decide +kernel) (fun _ _ => Nat.le_of_ble_eq_true rfl) ?_
  intro G ρ m hl X hret
  subst hl
  change lu_Ab lu_TM G (lu_Q lu_TM G ρ lu_RVi lu_sn) (f12_judge  m) 0 [(0, .ref (ρ 0))] [] ρ 0 0 [] m
  unfold f12_judge
  refine lu_aload_n X dX12_judge_0 (pc2 := 1) rfl rfl 0 rfl ?_
  refine lu_invVv X (c12_puts _) rfl q1391 mvV_12_puts kM_0 lM_0 (by decide) ⟨_, rfl, rfl⟩ rfl rfl (Nat.le_of_ble_eq_true rfl) (Nat.le_of_ble_eq_true rfl) (Nat.le_of_ble_eq_true rfl) ⟨Nat.zero_le _, Nat.zero_le _⟩ dX12_judge_1 (pc2 := 4) rfl rfl (fun m1 => ?_)
  refine lu_iconst X dX12_judge_4 (pc2 := 5) rfl ic_0 ?_
  refine lu_istore_n (lv2 := [(1, .int (0 : Int32)), (0, .ref (ρ 0))]) X dX12_judge_5 (pc2 := 6) rfl rfl (by decide) rfl ?_
  refine lu_iconst X dX12_judge_6 (pc2 := 7) rfl ic_0 ?_
  refine lu_istore_n (lv2 := [(2, .int (0 : Int32)), (1, .int (0 : Int32)), (0, .ref (ρ 0))]) X dX12_judge_7 (pc2 := 8) rfl rfl (by decide) rfl ?_
  exact lu_sub [2, 1, 0] rfl (w12_judge_b8 X hret (w12_judge_b102 X hret) lu_fu (0 : Int32) (0 : Int32) m1)

theorem dX12_feed_0 : decode cX12_feed 0 = .ok (.iload_n 3, 1) := by decide +kernel
theorem dX12_feed_1 : decode cX12_feed 1 = .ok (.i2l, 1) := by decide +kernel
theorem dX12_feed_2 : decode cX12_feed 2 = .ok (.lconst 1, 1) := by decide +kernel
theorem dX12_feed_3 : decode cX12_feed 3 = .ok (.ldc2_w 273, 3) := by decide +kernel
theorem dX12_feed_6 : decode cX12_feed 6 = .ok (.invokestatic 64, 3) := by decide +kernel
theorem dX12_feed_9 : decode cX12_feed 9 = .ok (.ifCond .ne 5, 3) := by decide +kernel
theorem dX12_feed_12 : decode cX12_feed 12 = .ok (.iconst (-1), 1) := by decide +kernel
theorem dX12_feed_13 : decode cX12_feed 13 = .ok (.ireturn, 1) := by decide +kernel
theorem dX12_feed_14 : decode cX12_feed 14 = .ok (.aload_n 0, 1) := by decide +kernel
theorem dX12_feed_15 : decode cX12_feed 15 = .ok (.getfield 275, 3) := by decide +kernel
theorem dX12_feed_18 : decode cX12_feed 18 = .ok (.iload_n 3, 1) := by decide +kernel
theorem dX12_feed_19 : decode cX12_feed 19 = .ok (.iadd, 1) := by decide +kernel
theorem dX12_feed_20 : decode cX12_feed 20 = .ok (.sipush 200, 3) := by decide +kernel
theorem dX12_feed_23 : decode cX12_feed 23 = .ok (.if_icmp .le 6, 3) := by decide +kernel
theorem dX12_feed_26 : decode cX12_feed 26 = .ok (.bipush (-2), 2) := by decide +kernel
theorem dX12_feed_28 : decode cX12_feed 28 = .ok (.ireturn, 1) := by decide +kernel
theorem dX12_feed_29 : decode cX12_feed 29 = .ok (.iconst 0, 1) := by decide +kernel
theorem dX12_feed_30 : decode cX12_feed 30 = .ok (.istore 4, 2) := by decide +kernel
theorem dX12_feed_32 : decode cX12_feed 32 = .ok (.iload 4, 2) := by decide +kernel
theorem dX12_feed_34 : decode cX12_feed 34 = .ok (.iload_n 3, 1) := by decide +kernel
theorem dX12_feed_35 : decode cX12_feed 35 = .ok (.if_icmp .ge 40, 3) := by decide +kernel
theorem dX12_feed_38 : decode cX12_feed 38 = .ok (.aload_n 0, 1) := by decide +kernel
theorem dX12_feed_39 : decode cX12_feed 39 = .ok (.getfield 40, 3) := by decide +kernel
theorem dX12_feed_42 : decode cX12_feed 42 = .ok (.aload_n 0, 1) := by decide +kernel
theorem dX12_feed_43 : decode cX12_feed 43 = .ok (.getfield 275, 3) := by decide +kernel
theorem dX12_feed_46 : decode cX12_feed 46 = .ok (.lload_n 1, 1) := by decide +kernel
theorem dX12_feed_47 : decode cX12_feed 47 = .ok (.bipush 8, 2) := by decide +kernel
theorem dX12_feed_49 : decode cX12_feed 49 = .ok (.iload 4, 2) := by decide +kernel
theorem dX12_feed_51 : decode cX12_feed 51 = .ok (.imul, 1) := by decide +kernel
theorem dX12_feed_52 : decode cX12_feed 52 = .ok (.lshr, 1) := by decide +kernel
theorem dX12_feed_53 : decode cX12_feed 53 = .ok (.ldc2_w 278, 3) := by decide +kernel
theorem dX12_feed_56 : decode cX12_feed 56 = .ok (.land, 1) := by decide +kernel
theorem dX12_feed_57 : decode cX12_feed 57 = .ok (.l2i, 1) := by decide +kernel
theorem dX12_feed_58 : decode cX12_feed 58 = .ok (.iastore, 1) := by decide +kernel
theorem dX12_feed_59 : decode cX12_feed 59 = .ok (.aload_n 0, 1) := by decide +kernel
theorem dX12_feed_60 : decode cX12_feed 60 = .ok (.dup, 1) := by decide +kernel
theorem dX12_feed_61 : decode cX12_feed 61 = .ok (.getfield 275, 3) := by decide +kernel
theorem dX12_feed_64 : decode cX12_feed 64 = .ok (.iconst 1, 1) := by decide +kernel
theorem dX12_feed_65 : decode cX12_feed 65 = .ok (.iadd, 1) := by decide +kernel
theorem dX12_feed_66 : decode cX12_feed 66 = .ok (.putfield 275, 3) := by decide +kernel
theorem dX12_feed_69 : decode cX12_feed 69 = .ok (.iinc 4 1, 3) := by decide +kernel
theorem dX12_feed_72 : decode cX12_feed 72 = .ok (.goto (-40), 3) := by decide +kernel
theorem dX12_feed_75 : decode cX12_feed 75 = .ok (.aload_n 0, 1) := by decide +kernel
theorem dX12_feed_76 : decode cX12_feed 76 = .ok (.getfield 275, 3) := by decide +kernel
theorem dX12_feed_79 : decode cX12_feed 79 = .ok (.ireturn, 1) := by decide +kernel
def f12_feed_b32B (K75 : lu_M → Option (Int32 × lu_M)) (rec : Int32 → lu_M → Option (Int32 × lu_M)) (a1 : Int64) (a3 : Int32) (v4 : Int32) (m : lu_M) : Option (Int32 × lu_M) :=
  if a3 ≤ v4 then (K75 m)
  else (lu_gd (lu_ib (m 0 23) 200) <|
  lu_nm (lu_st m 11 (m 0 23).toNatClampNeg (((a1 >>> (((8 : Int32) * v4).toInt64 &&& 63)) &&& (255 : Int64)).toInt32)) fun m3 =>
  lu_nm (lu_st m3 0 23 ((m3 0 23) + (1 : Int32))) fun m4 =>
  rec (v4 + (1 : Int32)) m4)
def f12_feed_b32 (K75 : lu_M → Option (Int32 × lu_M)) (a1 : Int64) (a3 : Int32) : Nat → Int32 → lu_M → Option (Int32 × lu_M)
  | 0, _, _ => none
  | n + 1, v4, m => f12_feed_b32B K75 (f12_feed_b32 K75 a1 a3 n) a1 a3 v4 m
set_option maxRecDepth 20000 in
theorem w12_feed_b32B  {G : lu_G} {ρ : Nat → Nat} {a1 : Int64} {a3 : Int32} {K75 : lu_M → Option (Int32 × lu_M)} {rec : Int32 → lu_M → Option (Int32 × lu_M)} (X : lu_X G RX12 cX12_feed 5 1 25) (hret : (lu_me G).sig.returnType = (some .int))  (hK75 : ∀  (m : lu_M), lu_Ab lu_TM G (lu_Q lu_TM G ρ lu_RVi lu_sn) (K75 m) 75 [(0, .ref (ρ 0))] [] ρ 0 0 [] m) (hrec : ∀ (v4 : Int32) (m : lu_M), lu_Ab lu_TM G (lu_Q lu_TM G ρ lu_RVi lu_sn) (rec v4 m) 32 [(0, .ref (ρ 0)), (1, .long a1), (3, .int a3), (4, .int v4)] [] ρ 0 0 [] m) : ∀ (v4 : Int32) (m : lu_M), lu_Ab lu_TM G (lu_Q lu_TM G ρ lu_RVi lu_sn) (f12_feed_b32B K75 rec a1 a3 v4 m) 32 [(0, .ref (ρ 0)), (1, .long a1), (3, .int a3), (4, .int v4)] [] ρ 0 0 [] m := by
  intro v4 m
  unfold f12_feed_b32B
  refine lu_iload X dX12_feed_32 (pc2 := 34) rfl 3 rfl ?_
  refine lu_iload_n X dX12_feed_34 (pc2 := 35) rfl rfl 2 rfl ?_
  refine lu_icmp_ge (tgt := 75) X dX12_feed_35 (pc2 := 38) rfl (by decide) (fun _ => ?_) (fun _ => ?_)
  · exact lu_sub [0] rfl (hK75 m)
  · refine lu_aload_n X dX12_feed_38 (pc2 := 39) rfl rfl 0 rfl ?_
    refine lu_getr (r2 := 11) X rfl fl12_40 rfl kM_0 lM_0 dX12_feed_39 (pc2 := 42) rfl ?_
    refine lu_aload_n X dX12_feed_42 (pc2 := 43) rfl rfl 0 rfl ?_
    refine lu_get X fl12_275 rfl kM_0 lM_0 dX12_feed_43 (pc2 := 46) rfl ?_
    refine lu_lload_n X dX12_feed_46 (pc2 := 47) rfl rfl 1 rfl ?_
    refine lu_bipush X dX12_feed_47 (pc2 := 49) rfl bp_8 ?_
    refine lu_iload X dX12_feed_49 (pc2 := 51) rfl 3 rfl ?_
    refine lu_imul X dX12_feed_51 (pc2 := 52) rfl ?_
    refine lu_lshr X dX12_feed_52 (pc2 := 53) rfl ?_
    refine lu_ldc2 X q1609 dX12_feed_53 (pc2 := 56) rfl ?_
    refine lu_land X dX12_feed_56 (pc2 := 57) rfl ?_
    refine lu_l2i X dX12_feed_57 (pc2 := 58) rfl ?_
    refine lu_iast X kM_11 lM_11 dX12_feed_58 (pc2 := 59) rfl (fun m3 => ?_)
    refine lu_aload_n X dX12_feed_59 (pc2 := 60) rfl rfl 0 rfl ?_
    refine lu_dup X dX12_feed_60 (pc2 := 61) rfl rfl ?_
    refine lu_get X fl12_275 rfl kM_0 lM_0 dX12_feed_61 (pc2 := 64) rfl ?_
    refine lu_iconst X dX12_feed_64 (pc2 := 65) rfl ic_1 ?_
    refine lu_iadd X dX12_feed_65 (pc2 := 66) rfl ?_
    refine lu_put X fl12_275 rfl (Or.inl (by decide)) rfl (by decide +kernel) kM_0 lM_0 dX12_feed_66 (pc2 := 69) rfl (fun m4 => ?_)
    refine lu_iinc (lv2 := [(4, .int (v4 + (1 : Int32))), (0, .ref (ρ 0)), (1, .long a1), (3, .int a3)]) X dX12_feed_69 (pc2 := 72) rfl 3 rfl (lu_ii _ ic_1) (by decide) rfl ?_
    refine lu_goto (tgt := 32) X dX12_feed_72 (by decide) ?_
    exact lu_sub [1, 2, 3, 0] rfl (hrec (v4 + (1 : Int32)) m4)
theorem w12_feed_b32  {G : lu_G} {ρ : Nat → Nat} {a1 : Int64} {a3 : Int32} {K75 : lu_M → Option (Int32 × lu_M)} (X : lu_X G RX12 cX12_feed 5 1 25) (hret : (lu_me G).sig.returnType = (some .int))  (hK75 : ∀  (m : lu_M), lu_Ab lu_TM G (lu_Q lu_TM G ρ lu_RVi lu_sn) (K75 m) 75 [(0, .ref (ρ 0))] [] ρ 0 0 [] m) : ∀ (n : Nat) (v4 : Int32) (m : lu_M), lu_Ab lu_TM G (lu_Q lu_TM G ρ lu_RVi lu_sn) (f12_feed_b32 K75 a1 a3 n v4 m) 32 [(0, .ref (ρ 0)), (1, .long a1), (3, .int a3), (4, .int v4)] [] ρ 0 0 [] m := by
  intro n
  induction n with
  | zero => intro v4 m; exact lu_none
  | succ n ih => intro v4 m; exact w12_feed_b32B X hret hK75 ih v4 m
def f12_feed_b75  (a1 : Int64) (a3 : Int32)  (m : lu_M) : Option (Int32 × lu_M) :=
  some ((m 0 23), m)
set_option maxRecDepth 20000 in
theorem w12_feed_b75  {G : lu_G} {ρ : Nat → Nat} {a1 : Int64} {a3 : Int32}  (X : lu_X G RX12 cX12_feed 5 1 25) (hret : (lu_me G).sig.returnType = (some .int))   : ∀  (m : lu_M), lu_Ab lu_TM G (lu_Q lu_TM G ρ lu_RVi lu_sn) (f12_feed_b75 a1 a3 m) 75 [(0, .ref (ρ 0))] [] ρ 0 0 [] m := by
  intro  m
  unfold f12_feed_b75
  refine lu_aload_n X dX12_feed_75 (pc2 := 76) rfl rfl 0 rfl ?_
  refine lu_get X fl12_275 rfl kM_0 lM_0 dX12_feed_76 (pc2 := 79) rfl ?_
  exact lu_iret X hret dX12_feed_79
def f12_feed (a1 : Int64) (a3 : Int32) (m : lu_M) : Option (Int32 × lu_M) :=
  lu_bi (f12_in a3.toInt64 (1 : Int64) (8 : Int64) m) fun x1 m2 =>
  if x1 = 0 then (some ((-1 : Int32), m2))
  else (if ((m2 0 23) + a3) ≤ (200 : Int32) then (f12_feed_b32 (f12_feed_b75 a1 a3) a1 a3 lu_fu (0 : Int32) m2)
  else (some ((-2 : Int32), m2)))
set_option maxRecDepth 20000 in
theorem c12_feed (l : Launch)   (a1 : Int64) (a3 : Int32) : lu_C lu_TM l yX12_feed cX12_feed 5 (some .int) 1 25 (fun ρ sa => [.ref (ρ 0), .long a1, .int a3]) (f12_feed a1 a3) lu_RVi lu_sn := by
  refine lu_met (cls := RX12) rfl (by decide +kernel) (fun _ _ => Nat.le_of_ble_eq_true rfl) ?_
  intro G ρ m hl X hret
  subst hl
  change lu_Ab lu_TM G (lu_Q lu_TM G ρ lu_RVi lu_sn) (f12_feed a1 a3 m) 0 [(0, .ref (ρ 0)), (1, .long a1), (3, .int a3)] [] ρ 0 0 [] m
  unfold f12_feed
  refine lu_iload_n X dX12_feed_0 (pc2 := 1) rfl rfl 2 rfl ?_
  refine lu_i2l X dX12_feed_1 (pc2 := 2) rfl ?_
  refine lu_lconst (v := (1 : Int64)) X dX12_feed_2 (pc2 := 3) rfl (by decide) ?_
  refine lu_ldc2 X q1608 dX12_feed_3 (pc2 := 6) rfl ?_
  refine lu_invSi X (c12_in _ a3.toInt64 (1 : Int64) (8 : Int64)) rfl q1261 mvS_12_in rfl rfl (Nat.le_of_ble_eq_true rfl) (Nat.le_of_ble_eq_true rfl) (Nat.le_of_ble_eq_true rfl) ⟨Nat.zero_le _, Nat.zero_le _⟩ dX12_feed_6 (pc2 := 9) rfl rfl (fun x1 m2 => ?_)
  refine lu_if_ne (tgt := 14) X dX12_feed_9 (pc2 := 12) rfl (by decide) (fun _ => ?_) (fun _ => ?_)
  · refine lu_aload_n X dX12_feed_14 (pc2 := 15) rfl rfl 0 rfl ?_
    refine lu_get X fl12_275 rfl kM_0 lM_0 dX12_feed_15 (pc2 := 18) rfl ?_
    refine lu_iload_n X dX12_feed_18 (pc2 := 19) rfl rfl 2 rfl ?_
    refine lu_iadd X dX12_feed_19 (pc2 := 20) rfl ?_
    refine lu_sipush X dX12_feed_20 (pc2 := 23) rfl sp_200 ?_
    refine lu_icmp_le (tgt := 29) X dX12_feed_23 (pc2 := 26) rfl (by decide) (fun _ => ?_) (fun _ => ?_)
    · refine lu_iconst X dX12_feed_29 (pc2 := 30) rfl ic_0 ?_
      refine lu_istore (lv2 := [(4, .int (0 : Int32)), (0, .ref (ρ 0)), (1, .long a1), (3, .int a3)]) X dX12_feed_30 (pc2 := 32) rfl (by decide) rfl ?_
      exact lu_sub [1, 2, 3, 0] rfl (w12_feed_b32 X hret (w12_feed_b75 X hret) lu_fu (0 : Int32) m2)
    · refine lu_bipush X dX12_feed_26 (pc2 := 28) rfl bp_m2 ?_
      exact lu_iret X hret dX12_feed_28
  · refine lu_iconst X dX12_feed_12 (pc2 := 13) rfl ic_m1 ?_
    exact lu_iret X hret dX12_feed_13

theorem dX12_byteAt_0 : decode cX12_byteAt 0 = .ok (.iload_n 1, 1) := by decide +kernel
theorem dX12_byteAt_1 : decode cX12_byteAt 1 = .ok (.aload_n 0, 1) := by decide +kernel
theorem dX12_byteAt_2 : decode cX12_byteAt 2 = .ok (.getfield 275, 3) := by decide +kernel
theorem dX12_byteAt_5 : decode cX12_byteAt 5 = .ok (.if_icmp .ge 12, 3) := by decide +kernel
theorem dX12_byteAt_8 : decode cX12_byteAt 8 = .ok (.aload_n 0, 1) := by decide +kernel
theorem dX12_byteAt_9 : decode cX12_byteAt 9 = .ok (.getfield 40, 3) := by decide +kernel
theorem dX12_byteAt_12 : decode cX12_byteAt 12 = .ok (.iload_n 1, 1) := by decide +kernel
theorem dX12_byteAt_13 : decode cX12_byteAt 13 = .ok (.iaload, 1) := by decide +kernel
theorem dX12_byteAt_14 : decode cX12_byteAt 14 = .ok (.goto 4, 3) := by decide +kernel
theorem dX12_byteAt_17 : decode cX12_byteAt 17 = .ok (.iconst (-1), 1) := by decide +kernel
theorem dX12_byteAt_18 : decode cX12_byteAt 18 = .ok (.ireturn, 1) := by decide +kernel
def f12_byteAt_b18  (a1 : Int32) (s0 : Int32) (m : lu_M) : Option (Int32 × lu_M) :=
  some (s0, m)
set_option maxRecDepth 20000 in
theorem w12_byteAt_b18  {G : lu_G} {ρ : Nat → Nat} {a1 : Int32}  (X : lu_X G RX12 cX12_byteAt 2 0 0) (hret : (lu_me G).sig.returnType = (some .int))   : ∀ (s0 : Int32) (m : lu_M), lu_Ab lu_TM G (lu_Q lu_TM G ρ lu_RVi lu_sn) (f12_byteAt_b18 a1 s0 m) 18 [] [.int s0] ρ 0 0 [] m := by
  intro s0 m
  unfold f12_byteAt_b18
  exact lu_iret X hret dX12_byteAt_18
def f12_byteAt (a1 : Int32) (m : lu_M) : Option (Int32 × lu_M) :=
  if (m 0 23) ≤ a1 then (f12_byteAt_b18 a1 (-1 : Int32) m)
  else (lu_gd (lu_ib a1 200) <|
  f12_byteAt_b18 a1 (m 11 a1.toNatClampNeg) m)
set_option maxRecDepth 20000 in
theorem c12_byteAt (l : Launch)   (a1 : Int32) : lu_C lu_TM l yX12_byteAt cX12_byteAt 2 (some .int) 0 0 (fun ρ sa => [.ref (ρ 0), .int a1]) (f12_byteAt a1) lu_RVi lu_sn := by
  refine lu_met (cls := RX12) rfl (by decide +kernel) (fun _ _ => Nat.le_of_ble_eq_true rfl) ?_
  intro G ρ m hl X hret
  subst hl
  change lu_Ab lu_TM G (lu_Q lu_TM G ρ lu_RVi lu_sn) (f12_byteAt a1 m) 0 [(0, .ref (ρ 0)), (1, .int a1)] [] ρ 0 0 [] m
  unfold f12_byteAt
  refine lu_iload_n X dX12_byteAt_0 (pc2 := 1) rfl rfl 1 rfl ?_
  refine lu_aload_n X dX12_byteAt_1 (pc2 := 2) rfl rfl 0 rfl ?_
  refine lu_get X fl12_275 rfl kM_0 lM_0 dX12_byteAt_2 (pc2 := 5) rfl ?_
  refine lu_icmp_ge (tgt := 17) X dX12_byteAt_5 (pc2 := 8) rfl (by decide) (fun _ => ?_) (fun _ => ?_)
  · refine lu_iconst X dX12_byteAt_17 (pc2 := 18) rfl ic_m1 ?_
    exact lu_sub [] rfl (w12_byteAt_b18 X hret (-1 : Int32) m)
  · refine lu_aload_n X dX12_byteAt_8 (pc2 := 9) rfl rfl 0 rfl ?_
    refine lu_getr (r2 := 11) X rfl fl12_40 rfl kM_0 lM_0 dX12_byteAt_9 (pc2 := 12) rfl ?_
    refine lu_iload_n X dX12_byteAt_12 (pc2 := 13) rfl rfl 1 rfl ?_
    refine lu_iald X kM_11 lM_11 dX12_byteAt_13 (pc2 := 14) rfl ?_
    refine lu_goto (tgt := 18) X dX12_byteAt_14 (by decide) ?_
    exact lu_sub [] rfl (w12_byteAt_b18 X hret (m 11 a1.toNatClampNeg) m)

theorem dX12_isLetter_0 : decode cX12_isLetter 0 = .ok (.iload_n 0, 1) := by decide +kernel
theorem dX12_isLetter_1 : decode cX12_isLetter 1 = .ok (.i2l, 1) := by decide +kernel
theorem dX12_isLetter_2 : decode cX12_isLetter 2 = .ok (.ldc2_w 280, 3) := by decide +kernel
theorem dX12_isLetter_5 : decode cX12_isLetter 5 = .ok (.ldc2_w 282, 3) := by decide +kernel
theorem dX12_isLetter_8 : decode cX12_isLetter 8 = .ok (.invokestatic 64, 3) := by decide +kernel
theorem dX12_isLetter_11 : decode cX12_isLetter 11 = .ok (.ireturn, 1) := by decide +kernel
def f12_isLetter (a0 : Int32) (m : lu_M) : Option (Int32 × lu_M) :=
  lu_bi (f12_in a0.toInt64 (97 : Int64) (122 : Int64) m) fun x1 m2 =>
  lu_gd (decide (x1 = 0 ∨ x1 = 1)) (some (x1, m2))
set_option maxRecDepth 20000 in
theorem c12_isLetter (l : Launch)   (a0 : Int32) : lu_C lu_TM l yX12_isLetter cX12_isLetter 1 (some .boolean) 1 25 (fun ρ sa => [.int a0]) (f12_isLetter a0) lu_RVi lu_sn := by
  refine lu_met (cls := RX12) rfl (by decide +kernel) (fun _ _ => Nat.le_of_ble_eq_true rfl) ?_
  intro G ρ m hl X hret
  subst hl
  change lu_Ab lu_TM G (lu_Q lu_TM G ρ lu_RVi lu_sn) (f12_isLetter a0 m) 0 [(0, .int a0)] [] ρ 0 0 [] m
  unfold f12_isLetter
  refine lu_iload_n X dX12_isLetter_0 (pc2 := 1) rfl rfl 0 rfl ?_
  refine lu_i2l X dX12_isLetter_1 (pc2 := 2) rfl ?_
  refine lu_ldc2 X q1625 dX12_isLetter_2 (pc2 := 5) rfl ?_
  refine lu_ldc2 X q1626 dX12_isLetter_5 (pc2 := 8) rfl ?_
  refine lu_invSi X (c12_in _ a0.toInt64 (97 : Int64) (122 : Int64)) rfl q1261 mvS_12_in rfl rfl (Nat.le_of_ble_eq_true rfl) (Nat.le_of_ble_eq_true rfl) (Nat.le_of_ble_eq_true rfl) ⟨Nat.zero_le _, Nat.zero_le _⟩ dX12_isLetter_8 (pc2 := 11) rfl rfl (fun x1 m2 => ?_)
  exact lu_zretG X hret dX12_isLetter_11

theorem dX12_isDigit_0 : decode cX12_isDigit 0 = .ok (.iload_n 0, 1) := by decide +kernel
theorem dX12_isDigit_1 : decode cX12_isDigit 1 = .ok (.i2l, 1) := by decide +kernel
theorem dX12_isDigit_2 : decode cX12_isDigit 2 = .ok (.ldc2_w 284, 3) := by decide +kernel
theorem dX12_isDigit_5 : decode cX12_isDigit 5 = .ok (.ldc2_w 286, 3) := by decide +kernel
theorem dX12_isDigit_8 : decode cX12_isDigit 8 = .ok (.invokestatic 64, 3) := by decide +kernel
theorem dX12_isDigit_11 : decode cX12_isDigit 11 = .ok (.ireturn, 1) := by decide +kernel
def f12_isDigit (a0 : Int32) (m : lu_M) : Option (Int32 × lu_M) :=
  lu_bi (f12_in a0.toInt64 (48 : Int64) (57 : Int64) m) fun x1 m2 =>
  lu_gd (decide (x1 = 0 ∨ x1 = 1)) (some (x1, m2))
set_option maxRecDepth 20000 in
theorem c12_isDigit (l : Launch)   (a0 : Int32) : lu_C lu_TM l yX12_isDigit cX12_isDigit 1 (some .boolean) 1 25 (fun ρ sa => [.int a0]) (f12_isDigit a0) lu_RVi lu_sn := by
  refine lu_met (cls := RX12) rfl (by decide +kernel) (fun _ _ => Nat.le_of_ble_eq_true rfl) ?_
  intro G ρ m hl X hret
  subst hl
  change lu_Ab lu_TM G (lu_Q lu_TM G ρ lu_RVi lu_sn) (f12_isDigit a0 m) 0 [(0, .int a0)] [] ρ 0 0 [] m
  unfold f12_isDigit
  refine lu_iload_n X dX12_isDigit_0 (pc2 := 1) rfl rfl 0 rfl ?_
  refine lu_i2l X dX12_isDigit_1 (pc2 := 2) rfl ?_
  refine lu_ldc2 X q1630 dX12_isDigit_2 (pc2 := 5) rfl ?_
  refine lu_ldc2 X q1631 dX12_isDigit_5 (pc2 := 8) rfl ?_
  refine lu_invSi X (c12_in _ a0.toInt64 (48 : Int64) (57 : Int64)) rfl q1261 mvS_12_in rfl rfl (Nat.le_of_ble_eq_true rfl) (Nat.le_of_ble_eq_true rfl) (Nat.le_of_ble_eq_true rfl) ⟨Nat.zero_le _, Nat.zero_le _⟩ dX12_isDigit_8 (pc2 := 11) rfl rfl (fun x1 m2 => ?_)
  exact lu_zretG X hret dX12_isDigit_11

theorem dX12_token_0 : decode cX12_token 0 = .ok (.aload_n 0, 1) := by decide +kernel
theorem dX12_token_1 : decode cX12_token 1 = .ok (.aload_n 0, 1) := by decide +kernel
theorem dX12_token_2 : decode cX12_token 2 = .ok (.getfield 288, 3) := by decide +kernel
theorem dX12_token_5 : decode cX12_token 5 = .ok (.putfield 291, 3) := by decide +kernel
theorem dX12_token_8 : decode cX12_token 8 = .ok (.aload_n 0, 1) := by decide +kernel
theorem dX12_token_9 : decode cX12_token 9 = .ok (.aload_n 0, 1) := by decide +kernel
theorem dX12_token_10 : decode cX12_token 10 = .ok (.getfield 291, 3) := by decide +kernel
theorem dX12_token_13 : decode cX12_token 13 = .ok (.invokevirtual 294, 3) := by decide +kernel
theorem dX12_token_16 : decode cX12_token 16 = .ok (.bipush 32, 2) := by decide +kernel
theorem dX12_token_18 : decode cX12_token 18 = .ok (.if_icmp .ne 16, 3) := by decide +kernel
theorem dX12_token_21 : decode cX12_token 21 = .ok (.aload_n 0, 1) := by decide +kernel
theorem dX12_token_22 : decode cX12_token 22 = .ok (.dup, 1) := by decide +kernel
theorem dX12_token_23 : decode cX12_token 23 = .ok (.getfield 291, 3) := by decide +kernel
theorem dX12_token_26 : decode cX12_token 26 = .ok (.iconst 1, 1) := by decide +kernel
theorem dX12_token_27 : decode cX12_token 27 = .ok (.iadd, 1) := by decide +kernel
theorem dX12_token_28 : decode cX12_token 28 = .ok (.putfield 291, 3) := by decide +kernel
theorem dX12_token_31 : decode cX12_token 31 = .ok (.goto (-23), 3) := by decide +kernel
theorem dX12_token_34 : decode cX12_token 34 = .ok (.aload_n 0, 1) := by decide +kernel
theorem dX12_token_35 : decode cX12_token 35 = .ok (.aload_n 0, 1) := by decide +kernel
theorem dX12_token_36 : decode cX12_token 36 = .ok (.getfield 291, 3) := by decide +kernel
theorem dX12_token_39 : decode cX12_token 39 = .ok (.invokevirtual 294, 3) := by decide +kernel
theorem dX12_token_42 : decode cX12_token 42 = .ok (.invokestatic 297, 3) := by decide +kernel
theorem dX12_token_45 : decode cX12_token 45 = .ok (.istore_n 1, 1) := by decide +kernel
theorem dX12_token_46 : decode cX12_token 46 = .ok (.aload_n 0, 1) := by decide +kernel
theorem dX12_token_47 : decode cX12_token 47 = .ok (.aload_n 0, 1) := by decide +kernel
theorem dX12_token_48 : decode cX12_token 48 = .ok (.getfield 291, 3) := by decide +kernel
theorem dX12_token_51 : decode cX12_token 51 = .ok (.invokevirtual 294, 3) := by decide +kernel
theorem dX12_token_54 : decode cX12_token 54 = .ok (.invokestatic 300, 3) := by decide +kernel
theorem dX12_token_57 : decode cX12_token 57 = .ok (.istore_n 2, 1) := by decide +kernel
theorem dX12_token_58 : decode cX12_token 58 = .ok (.aload_n 0, 1) := by decide +kernel
theorem dX12_token_59 : decode cX12_token 59 = .ok (.aload_n 0, 1) := by decide +kernel
theorem dX12_token_60 : decode cX12_token 60 = .ok (.getfield 291, 3) := by decide +kernel
theorem dX12_token_63 : decode cX12_token 63 = .ok (.aload_n 0, 1) := by decide +kernel
theorem dX12_token_64 : decode cX12_token 64 = .ok (.getfield 275, 3) := by decide +kernel
theorem dX12_token_67 : decode cX12_token 67 = .ok (.if_icmp .ge 12, 3) := by decide +kernel
theorem dX12_token_70 : decode cX12_token 70 = .ok (.aload_n 0, 1) := by decide +kernel
theorem dX12_token_71 : decode cX12_token 71 = .ok (.getfield 291, 3) := by decide +kernel
theorem dX12_token_74 : decode cX12_token 74 = .ok (.iconst 1, 1) := by decide +kernel
theorem dX12_token_75 : decode cX12_token 75 = .ok (.iadd, 1) := by decide +kernel
theorem dX12_token_76 : decode cX12_token 76 = .ok (.goto 7, 3) := by decide +kernel
theorem dX12_token_79 : decode cX12_token 79 = .ok (.aload_n 0, 1) := by decide +kernel
theorem dX12_token_80 : decode cX12_token 80 = .ok (.getfield 291, 3) := by decide +kernel
theorem dX12_token_83 : decode cX12_token 83 = .ok (.putfield 288, 3) := by decide +kernel
theorem dX12_token_86 : decode cX12_token 86 = .ok (.iload_n 1, 1) := by decide +kernel
theorem dX12_token_87 : decode cX12_token 87 = .ok (.ifCond .eq 17, 3) := by decide +kernel
theorem dX12_token_90 : decode cX12_token 90 = .ok (.aload_n 0, 1) := by decide +kernel
theorem dX12_token_91 : decode cX12_token 91 = .ok (.aload_n 0, 1) := by decide +kernel
theorem dX12_token_92 : decode cX12_token 92 = .ok (.getfield 288, 3) := by decide +kernel
theorem dX12_token_95 : decode cX12_token 95 = .ok (.invokevirtual 294, 3) := by decide +kernel
theorem dX12_token_98 : decode cX12_token 98 = .ok (.invokestatic 297, 3) := by decide +kernel
theorem dX12_token_101 : decode cX12_token 101 = .ok (.ifCond .ne 21, 3) := by decide +kernel
theorem dX12_token_104 : decode cX12_token 104 = .ok (.iload_n 2, 1) := by decide +kernel
theorem dX12_token_105 : decode cX12_token 105 = .ok (.ifCond .eq 30, 3) := by decide +kernel
theorem dX12_token_108 : decode cX12_token 108 = .ok (.aload_n 0, 1) := by decide +kernel
theorem dX12_token_109 : decode cX12_token 109 = .ok (.aload_n 0, 1) := by decide +kernel
theorem dX12_token_110 : decode cX12_token 110 = .ok (.getfield 288, 3) := by decide +kernel
theorem dX12_token_113 : decode cX12_token 113 = .ok (.invokevirtual 294, 3) := by decide +kernel
theorem dX12_token_116 : decode cX12_token 116 = .ok (.invokestatic 300, 3) := by decide +kernel
theorem dX12_token_119 : decode cX12_token 119 = .ok (.ifCond .eq 16, 3) := by decide +kernel
theorem dX12_token_122 : decode cX12_token 122 = .ok (.aload_n 0, 1) := by decide +kernel
theorem dX12_token_123 : decode cX12_token 123 = .ok (.dup, 1) := by decide +kernel
theorem dX12_token_124 : decode cX12_token 124 = .ok (.getfield 288, 3) := by decide +kernel
theorem dX12_token_127 : decode cX12_token 127 = .ok (.iconst 1, 1) := by decide +kernel
theorem dX12_token_128 : decode cX12_token 128 = .ok (.iadd, 1) := by decide +kernel
theorem dX12_token_129 : decode cX12_token 129 = .ok (.putfield 288, 3) := by decide +kernel
theorem dX12_token_132 : decode cX12_token 132 = .ok (.goto (-46), 3) := by decide +kernel
theorem dX12_token_135 : decode cX12_token 135 = .ok (.return_, 1) := by decide +kernel
def f12_token_b8B (K34 : lu_M → Option (lu_M)) (rec : lu_M → Option (lu_M))   (m : lu_M) : Option (lu_M) :=
  lu_bi (f12_byteAt (m 0 24) m) fun x2 m3 =>
  if x2 = (32 : Int32) then (lu_nm (lu_st m3 0 24 ((m3 0 24) + (1 : Int32))) fun m4 =>
  rec m4)
  else (K34 m3)
def f12_token_b8 (K34 : lu_M → Option (lu_M))  : Nat → lu_M → Option (lu_M)
  | 0, _ => none
  | n + 1, m => f12_token_b8B K34 (f12_token_b8 K34 n)  m
set_option maxRecDepth 20000 in
theorem w12_token_b8B  {G : lu_G} {ρ : Nat → Nat}  {K34 : lu_M → Option (lu_M)} {rec : lu_M → Option (lu_M)} (X : lu_X G RX12 cX12_token 3 2 45) (hret : (lu_me G).sig.returnType = none)  (hK34 : ∀  (m : lu_M), lu_Ab lu_TM G (lu_Q lu_TM G ρ lu_RVv lu_id) (K34 m) 34 [(0, .ref (ρ 0))] [] ρ 0 0 [] m) (hrec : ∀  (m : lu_M), lu_Ab lu_TM G (lu_Q lu_TM G ρ lu_RVv lu_id) (rec m) 8 [(0, .ref (ρ 0))] [] ρ 0 0 [] m) : ∀  (m : lu_M), lu_Ab lu_TM G (lu_Q lu_TM G ρ lu_RVv lu_id) (f12_token_b8B K34 rec m) 8 [(0, .ref (ρ 0))] [] ρ 0 0 [] m := by
  intro  m
  unfold f12_token_b8B
  refine lu_aload_n X dX12_token_8 (pc2 := 9) rfl rfl 0 rfl ?_
  refine lu_aload_n X dX12_token_9 (pc2 := 10) rfl rfl 0 rfl ?_
  refine lu_get X fl12_291 rfl kM_0 lM_0 dX12_token_10 (pc2 := 13) rfl ?_
  refine lu_invVi X (c12_byteAt _ (m 0 24)) rfl q1618 mvV_12_byteAt kM_0 lM_0 (by decide) ⟨_, rfl, rfl⟩ rfl rfl (Nat.le_of_ble_eq_true rfl) (Nat.le_of_ble_eq_true rfl) (Nat.le_of_ble_eq_true rfl) ⟨Nat.zero_le _, Nat.zero_le _⟩ dX12_token_13 (pc2 := 16) rfl rfl (fun x2 m3 => ?_)
  refine lu_bipush X dX12_token_16 (pc2 := 18) rfl bp_32 ?_
  refine lu_icmp_ne (tgt := 34) X dX12_token_18 (pc2 := 21) rfl (by decide) (fun _ => ?_) (fun _ => ?_)
  · exact hK34 m3
  · refine lu_aload_n X dX12_token_21 (pc2 := 22) rfl rfl 0 rfl ?_
    refine lu_dup X dX12_token_22 (pc2 := 23) rfl rfl ?_
    refine lu_get X fl12_291 rfl kM_0 lM_0 dX12_token_23 (pc2 := 26) rfl ?_
    refine lu_iconst X dX12_token_26 (pc2 := 27) rfl ic_1 ?_
    refine lu_iadd X dX12_token_27 (pc2 := 28) rfl ?_
    refine lu_put X fl12_291 rfl (Or.inl (by decide)) rfl (by decide +kernel) kM_0 lM_0 dX12_token_28 (pc2 := 31) rfl (fun m4 => ?_)
    refine lu_goto (tgt := 8) X dX12_token_31 (by decide) ?_
    exact hrec m4
theorem w12_token_b8  {G : lu_G} {ρ : Nat → Nat}  {K34 : lu_M → Option (lu_M)} (X : lu_X G RX12 cX12_token 3 2 45) (hret : (lu_me G).sig.returnType = none)  (hK34 : ∀  (m : lu_M), lu_Ab lu_TM G (lu_Q lu_TM G ρ lu_RVv lu_id) (K34 m) 34 [(0, .ref (ρ 0))] [] ρ 0 0 [] m) : ∀ (n : Nat)  (m : lu_M), lu_Ab lu_TM G (lu_Q lu_TM G ρ lu_RVv lu_id) (f12_token_b8 K34 n m) 8 [(0, .ref (ρ 0))] [] ρ 0 0 [] m := by
  intro n
  induction n with
  | zero => intro  m; exact lu_none
  | succ n ih => intro  m; exact w12_token_b8B X hret hK34 ih  m
def f12_token_b122 (K86 : Int32 → Int32 → lu_M → Option (lu_M)) (K135 : lu_M → Option (lu_M))  (v1 : Int32) (v2 : Int32) (m : lu_M) : Option (lu_M) :=
  lu_nm (lu_st m 0 25 ((m 0 25) + (1 : Int32))) fun m18 =>
  K86 v1 v2 m18
set_option maxRecDepth 20000 in
theorem w12_token_b122  {G : lu_G} {ρ : Nat → Nat}  {K86 : Int32 → Int32 → lu_M → Option (lu_M)} {K135 : lu_M → Option (lu_M)} (X : lu_X G RX12 cX12_token 3 2 45) (hret : (lu_me G).sig.returnType = none)  (hK86 : ∀ (v1 : Int32) (v2 : Int32) (m : lu_M), lu_Ab lu_TM G (lu_Q lu_TM G ρ lu_RVv lu_id) (K86 v1 v2 m) 86 [(0, .ref (ρ 0)), (1, .int v1), (2, .int v2)] [] ρ 0 0 [] m) (hK135 : ∀  (m : lu_M), lu_Ab lu_TM G (lu_Q lu_TM G ρ lu_RVv lu_id) (K135 m) 135 [] [] ρ 0 0 [] m) : ∀ (v1 : Int32) (v2 : Int32) (m : lu_M), lu_Ab lu_TM G (lu_Q lu_TM G ρ lu_RVv lu_id) (f12_token_b122 K86 K135 v1 v2 m) 122 [(0, .ref (ρ 0)), (1, .int v1), (2, .int v2)] [] ρ 0 0 [] m := by
  intro v1 v2 m
  unfold f12_token_b122
  refine lu_aload_n X dX12_token_122 (pc2 := 123) rfl rfl 0 rfl ?_
  refine lu_dup X dX12_token_123 (pc2 := 124) rfl rfl ?_
  refine lu_get X fl12_288 rfl kM_0 lM_0 dX12_token_124 (pc2 := 127) rfl ?_
  refine lu_iconst X dX12_token_127 (pc2 := 128) rfl ic_1 ?_
  refine lu_iadd X dX12_token_128 (pc2 := 129) rfl ?_
  refine lu_put X fl12_288 rfl (Or.inl (by decide)) rfl (by decide +kernel) kM_0 lM_0 dX12_token_129 (pc2 := 132) rfl (fun m18 => ?_)
  refine lu_goto (tgt := 86) X dX12_token_132 (by decide) ?_
  exact hK86 v1 v2 m18
def f12_token_b104 (K86 : Int32 → Int32 → lu_M → Option (lu_M)) (K135 : lu_M → Option (lu_M))  (v1 : Int32) (v2 : Int32) (m : lu_M) : Option (lu_M) :=
  if v2 = 0 then (K135 m)
  else (lu_bi (f12_byteAt (m 0 25) m) fun x14 m15 =>
  lu_bi (f12_isDigit x14 m15) fun x16 m17 =>
  if x16 = 0 then (K135 m17)
  else (f12_token_b122 K86 K135 v1 v2 m17))
set_option maxRecDepth 20000 in
theorem w12_token_b104  {G : lu_G} {ρ : Nat → Nat}  {K86 : Int32 → Int32 → lu_M → Option (lu_M)} {K135 : lu_M → Option (lu_M)} (X : lu_X G RX12 cX12_token 3 2 45) (hret : (lu_me G).sig.returnType = none)  (hK86 : ∀ (v1 : Int32) (v2 : Int32) (m : lu_M), lu_Ab lu_TM G (lu_Q lu_TM G ρ lu_RVv lu_id) (K86 v1 v2 m) 86 [(0, .ref (ρ 0)), (1, .int v1), (2, .int v2)] [] ρ 0 0 [] m) (hK135 : ∀  (m : lu_M), lu_Ab lu_TM G (lu_Q lu_TM G ρ lu_RVv lu_id) (K135 m) 135 [] [] ρ 0 0 [] m) : ∀ (v1 : Int32) (v2 : Int32) (m : lu_M), lu_Ab lu_TM G (lu_Q lu_TM G ρ lu_RVv lu_id) (f12_token_b104 K86 K135 v1 v2 m) 104 [(0, .ref (ρ 0)), (1, .int v1), (2, .int v2)] [] ρ 0 0 [] m := by
  intro v1 v2 m
  unfold f12_token_b104
  refine lu_iload_n X dX12_token_104 (pc2 := 105) rfl rfl 2 rfl ?_
  refine lu_if_eq (tgt := 135) X dX12_token_105 (pc2 := 108) rfl (by decide) (fun _ => ?_) (fun _ => ?_)
  · exact lu_sub [] rfl (hK135 m)
  · refine lu_aload_n X dX12_token_108 (pc2 := 109) rfl rfl 0 rfl ?_
    refine lu_aload_n X dX12_token_109 (pc2 := 110) rfl rfl 0 rfl ?_
    refine lu_get X fl12_288 rfl kM_0 lM_0 dX12_token_110 (pc2 := 113) rfl ?_
    refine lu_invVi X (c12_byteAt _ (m 0 25)) rfl q1618 mvV_12_byteAt kM_0 lM_0 (by decide) ⟨_, rfl, rfl⟩ rfl rfl (Nat.le_of_ble_eq_true rfl) (Nat.le_of_ble_eq_true rfl) (Nat.le_of_ble_eq_true rfl) ⟨Nat.zero_le _, Nat.zero_le _⟩ dX12_token_113 (pc2 := 116) rfl rfl (fun x14 m15 => ?_)
    refine lu_invSi X (c12_isDigit _ x14) rfl q1627 mvS_12_isDigit rfl rfl (Nat.le_of_ble_eq_true rfl) (Nat.le_of_ble_eq_true rfl) (Nat.le_of_ble_eq_true rfl) ⟨Nat.zero_le _, Nat.zero_le _⟩ dX12_token_116 (pc2 := 119) rfl rfl (fun x16 m17 => ?_)
    refine lu_if_eq (tgt := 135) X dX12_token_119 (pc2 := 122) rfl (by decide) (fun _ => ?_) (fun _ => ?_)
    · exact lu_sub [] rfl (hK135 m17)
    · exact w12_token_b122 X hret hK86 hK135 v1 v2 m17
def f12_token_b86B (K135 : lu_M → Option (lu_M)) (rec : Int32 → Int32 → lu_M → Option (lu_M))  (v1 : Int32) (v2 : Int32) (m : lu_M) : Option (lu_M) :=
  if v1 = 0 then (f12_token_b104 rec K135 v1 v2 m)
  else (lu_bi (f12_byteAt (m 0 25) m) fun x19 m20 =>
  lu_bi (f12_isLetter x19 m20) fun x21 m22 =>
  if x21 = 0 then (f12_token_b104 rec K135 v1 v2 m22)
  else (f12_token_b122 rec K135 v1 v2 m22))
def f12_token_b86 (K135 : lu_M → Option (lu_M))  : Nat → Int32 → Int32 → lu_M → Option (lu_M)
  | 0, _, _, _ => none
  | n + 1, v1, v2, m => f12_token_b86B K135 (f12_token_b86 K135 n) v1 v2 m
set_option maxRecDepth 20000 in
theorem w12_token_b86B  {G : lu_G} {ρ : Nat → Nat}  {K135 : lu_M → Option (lu_M)} {rec : Int32 → Int32 → lu_M → Option (lu_M)} (X : lu_X G RX12 cX12_token 3 2 45) (hret : (lu_me G).sig.returnType = none)  (hK135 : ∀  (m : lu_M), lu_Ab lu_TM G (lu_Q lu_TM G ρ lu_RVv lu_id) (K135 m) 135 [] [] ρ 0 0 [] m) (hrec : ∀ (v1 : Int32) (v2 : Int32) (m : lu_M), lu_Ab lu_TM G (lu_Q lu_TM G ρ lu_RVv lu_id) (rec v1 v2 m) 86 [(0, .ref (ρ 0)), (1, .int v1), (2, .int v2)] [] ρ 0 0 [] m) : ∀ (v1 : Int32) (v2 : Int32) (m : lu_M), lu_Ab lu_TM G (lu_Q lu_TM G ρ lu_RVv lu_id) (f12_token_b86B K135 rec v1 v2 m) 86 [(0, .ref (ρ 0)), (1, .int v1), (2, .int v2)] [] ρ 0 0 [] m := by
  intro v1 v2 m
  unfold f12_token_b86B
  refine lu_iload_n X dX12_token_86 (pc2 := 87) rfl rfl 1 rfl ?_
  refine lu_if_eq (tgt := 104) X dX12_token_87 (pc2 := 90) rfl (by decide) (fun _ => ?_) (fun _ => ?_)
  · exact w12_token_b104 X hret hrec hK135 v1 v2 m
  · refine lu_aload_n X dX12_token_90 (pc2 := 91) rfl rfl 0 rfl ?_
    refine lu_aload_n X dX12_token_91 (pc2 := 92) rfl rfl 0 rfl ?_
    refine lu_get X fl12_288 rfl kM_0 lM_0 dX12_token_92 (pc2 := 95) rfl ?_
    refine lu_invVi X (c12_byteAt _ (m 0 25)) rfl q1618 mvV_12_byteAt kM_0 lM_0 (by decide) ⟨_, rfl, rfl⟩ rfl rfl (Nat.le_of_ble_eq_true rfl) (Nat.le_of_ble_eq_true rfl) (Nat.le_of_ble_eq_true rfl) ⟨Nat.zero_le _, Nat.zero_le _⟩ dX12_token_95 (pc2 := 98) rfl rfl (fun x19 m20 => ?_)
    refine lu_invSi X (c12_isLetter _ x19) rfl q1622 mvS_12_isLetter rfl rfl (Nat.le_of_ble_eq_true rfl) (Nat.le_of_ble_eq_true rfl) (Nat.le_of_ble_eq_true rfl) ⟨Nat.zero_le _, Nat.zero_le _⟩ dX12_token_98 (pc2 := 101) rfl rfl (fun x21 m22 => ?_)
    refine lu_if_ne (tgt := 122) X dX12_token_101 (pc2 := 104) rfl (by decide) (fun _ => ?_) (fun _ => ?_)
    · exact w12_token_b122 X hret hrec hK135 v1 v2 m22
    · exact w12_token_b104 X hret hrec hK135 v1 v2 m22
theorem w12_token_b86  {G : lu_G} {ρ : Nat → Nat}  {K135 : lu_M → Option (lu_M)} (X : lu_X G RX12 cX12_token 3 2 45) (hret : (lu_me G).sig.returnType = none)  (hK135 : ∀  (m : lu_M), lu_Ab lu_TM G (lu_Q lu_TM G ρ lu_RVv lu_id) (K135 m) 135 [] [] ρ 0 0 [] m) : ∀ (n : Nat) (v1 : Int32) (v2 : Int32) (m : lu_M), lu_Ab lu_TM G (lu_Q lu_TM G ρ lu_RVv lu_id) (f12_token_b86 K135 n v1 v2 m) 86 [(0, .ref (ρ 0)), (1, .int v1), (2, .int v2)] [] ρ 0 0 [] m := by
  intro n
  induction n with
  | zero => intro v1 v2 m; exact lu_none
  | succ n ih => intro v1 v2 m; exact w12_token_b86B X hret hK135 ih v1 v2 m
def f12_token_b135    (m : lu_M) : Option (lu_M) :=
  some m
set_option maxRecDepth 20000 in
theorem w12_token_b135  {G : lu_G} {ρ : Nat → Nat}   (X : lu_X G RX12 cX12_token 3 2 45) (hret : (lu_me G).sig.returnType = none)   : ∀  (m : lu_M), lu_Ab lu_TM G (lu_Q lu_TM G ρ lu_RVv lu_id) (f12_token_b135  m) 135 [] [] ρ 0 0 [] m := by
  intro  m
  unfold f12_token_b135
  exact lu_vret X hret dX12_token_135
def f12_token_b83   (v1 : Int32) (v2 : Int32) (s0 : Int32) (m : lu_M) : Option (lu_M) :=
  lu_nm (lu_st m 0 25 s0) fun m13 =>
  f12_token_b86 f12_token_b135 lu_fu v1 v2 m13
set_option maxRecDepth 20000 in
theorem w12_token_b83  {G : lu_G} {ρ : Nat → Nat}   (X : lu_X G RX12 cX12_token 3 2 45) (hret : (lu_me G).sig.returnType = none)   : ∀ (v1 : Int32) (v2 : Int32) (s0 : Int32) (m : lu_M), lu_Ab lu_TM G (lu_Q lu_TM G ρ lu_RVv lu_id) (f12_token_b83  v1 v2 s0 m) 83 [(0, .ref (ρ 0)), (1, .int v1), (2, .int v2)] [.int s0, .ref (ρ 0)] ρ 0 0 [] m := by
  intro v1 v2 s0 m
  unfold f12_token_b83
  refine lu_put X fl12_288 rfl (Or.inl (by decide)) rfl (by decide +kernel) kM_0 lM_0 dX12_token_83 (pc2 := 86) rfl (fun m13 => ?_)
  exact w12_token_b86 X hret (w12_token_b135 X hret) lu_fu v1 v2 m13
def f12_token_b34    (m : lu_M) : Option (lu_M) :=
  lu_bi (f12_byteAt (m 0 24) m) fun x5 m6 =>
  lu_bi (f12_isLetter x5 m6) fun x7 m8 =>
  lu_bi (f12_byteAt (m8 0 24) m8) fun x9 m10 =>
  lu_bi (f12_isDigit x9 m10) fun x11 m12 =>
  if (m12 0 23) ≤ (m12 0 24) then (f12_token_b83 x7 x11 (m12 0 24) m12)
  else (f12_token_b83 x7 x11 ((m12 0 24) + (1 : Int32)) m12)
set_option maxRecDepth 20000 in
theorem w12_token_b34  {G : lu_G} {ρ : Nat → Nat}   (X : lu_X G RX12 cX12_token 3 2 45) (hret : (lu_me G).sig.returnType = none)   : ∀  (m : lu_M), lu_Ab lu_TM G (lu_Q lu_TM G ρ lu_RVv lu_id) (f12_token_b34  m) 34 [(0, .ref (ρ 0))] [] ρ 0 0 [] m := by
  intro  m
  unfold f12_token_b34
  refine lu_aload_n X dX12_token_34 (pc2 := 35) rfl rfl 0 rfl ?_
  refine lu_aload_n X dX12_token_35 (pc2 := 36) rfl rfl 0 rfl ?_
  refine lu_get X fl12_291 rfl kM_0 lM_0 dX12_token_36 (pc2 := 39) rfl ?_
  refine lu_invVi X (c12_byteAt _ (m 0 24)) rfl q1618 mvV_12_byteAt kM_0 lM_0 (by decide) ⟨_, rfl, rfl⟩ rfl rfl (Nat.le_of_ble_eq_true rfl) (Nat.le_of_ble_eq_true rfl) (Nat.le_of_ble_eq_true rfl) ⟨Nat.zero_le _, Nat.zero_le _⟩ dX12_token_39 (pc2 := 42) rfl rfl (fun x5 m6 => ?_)
  refine lu_invSi X (c12_isLetter _ x5) rfl q1622 mvS_12_isLetter rfl rfl (Nat.le_of_ble_eq_true rfl) (Nat.le_of_ble_eq_true rfl) (Nat.le_of_ble_eq_true rfl) ⟨Nat.zero_le _, Nat.zero_le _⟩ dX12_token_42 (pc2 := 45) rfl rfl (fun x7 m8 => ?_)
  refine lu_istore_n (lv2 := [(1, .int x7), (0, .ref (ρ 0))]) X dX12_token_45 (pc2 := 46) rfl rfl (by decide) rfl ?_
  refine lu_aload_n X dX12_token_46 (pc2 := 47) rfl rfl 1 rfl ?_
  refine lu_aload_n X dX12_token_47 (pc2 := 48) rfl rfl 1 rfl ?_
  refine lu_get X fl12_291 rfl kM_0 lM_0 dX12_token_48 (pc2 := 51) rfl ?_
  refine lu_invVi X (c12_byteAt _ (m8 0 24)) rfl q1618 mvV_12_byteAt kM_0 lM_0 (by decide) ⟨_, rfl, rfl⟩ rfl rfl (Nat.le_of_ble_eq_true rfl) (Nat.le_of_ble_eq_true rfl) (Nat.le_of_ble_eq_true rfl) ⟨Nat.zero_le _, Nat.zero_le _⟩ dX12_token_51 (pc2 := 54) rfl rfl (fun x9 m10 => ?_)
  refine lu_invSi X (c12_isDigit _ x9) rfl q1627 mvS_12_isDigit rfl rfl (Nat.le_of_ble_eq_true rfl) (Nat.le_of_ble_eq_true rfl) (Nat.le_of_ble_eq_true rfl) ⟨Nat.zero_le _, Nat.zero_le _⟩ dX12_token_54 (pc2 := 57) rfl rfl (fun x11 m12 => ?_)
  refine lu_istore_n (lv2 := [(2, .int x11), (1, .int x7), (0, .ref (ρ 0))]) X dX12_token_57 (pc2 := 58) rfl rfl (by decide) rfl ?_
  refine lu_aload_n X dX12_token_58 (pc2 := 59) rfl rfl 2 rfl ?_
  refine lu_aload_n X dX12_token_59 (pc2 := 60) rfl rfl 2 rfl ?_
  refine lu_get X fl12_291 rfl kM_0 lM_0 dX12_token_60 (pc2 := 63) rfl ?_
  refine lu_aload_n X dX12_token_63 (pc2 := 64) rfl rfl 2 rfl ?_
  refine lu_get X fl12_275 rfl kM_0 lM_0 dX12_token_64 (pc2 := 67) rfl ?_
  refine lu_icmp_ge (tgt := 79) X dX12_token_67 (pc2 := 70) rfl (by decide) (fun _ => ?_) (fun _ => ?_)
  · refine lu_aload_n X dX12_token_79 (pc2 := 80) rfl rfl 2 rfl ?_
    refine lu_get X fl12_291 rfl kM_0 lM_0 dX12_token_80 (pc2 := 83) rfl ?_
    exact lu_sub [2, 1, 0] rfl (w12_token_b83 X hret x7 x11 (m12 0 24) m12)
  · refine lu_aload_n X dX12_token_70 (pc2 := 71) rfl rfl 2 rfl ?_
    refine lu_get X fl12_291 rfl kM_0 lM_0 dX12_token_71 (pc2 := 74) rfl ?_
    refine lu_iconst X dX12_token_74 (pc2 := 75) rfl ic_1 ?_
    refine lu_iadd X dX12_token_75 (pc2 := 76) rfl ?_
    refine lu_goto (tgt := 83) X dX12_token_76 (by decide) ?_
    exact lu_sub [2, 1, 0] rfl (w12_token_b83 X hret x7 x11 ((m12 0 24) + (1 : Int32)) m12)
def f12_token  (m : lu_M) : Option (lu_M) :=
  lu_nm (lu_st m 0 24 (m 0 25)) fun m1 =>
  f12_token_b8 f12_token_b34 lu_fu m1
set_option maxRecDepth 20000 in
theorem c12_token (l : Launch)    : lu_C lu_TM l yX12_token cX12_token 3 none 2 45 (fun ρ sa => [.ref (ρ 0)]) (f12_token ) lu_RVv lu_id := by
  refine lu_met (cls := RX12) rfl (by decide +kernel) (fun _ _ => Nat.le_of_ble_eq_true rfl) ?_
  intro G ρ m hl X hret
  subst hl
  change lu_Ab lu_TM G (lu_Q lu_TM G ρ lu_RVv lu_id) (f12_token  m) 0 [(0, .ref (ρ 0))] [] ρ 0 0 [] m
  unfold f12_token
  refine lu_aload_n X dX12_token_0 (pc2 := 1) rfl rfl 0 rfl ?_
  refine lu_aload_n X dX12_token_1 (pc2 := 2) rfl rfl 0 rfl ?_
  refine lu_get X fl12_288 rfl kM_0 lM_0 dX12_token_2 (pc2 := 5) rfl ?_
  refine lu_put X fl12_291 rfl (Or.inl (by decide)) rfl (by decide +kernel) kM_0 lM_0 dX12_token_5 (pc2 := 8) rfl (fun m1 => ?_)
  exact w12_token_b8 X hret (w12_token_b34 X hret) lu_fu m1

theorem dX12_wants_0 : decode cX12_wants 0 = .ok (.aload_n 0, 1) := by decide +kernel
theorem dX12_wants_1 : decode cX12_wants 1 = .ok (.aload_n 0, 1) := by decide +kernel
theorem dX12_wants_2 : decode cX12_wants 2 = .ok (.getfield 303, 3) := by decide +kernel
theorem dX12_wants_5 : decode cX12_wants 5 = .ok (.ifCond .ne 7, 3) := by decide +kernel
theorem dX12_wants_8 : decode cX12_wants 8 = .ok (.iload_n 1, 1) := by decide +kernel
theorem dX12_wants_9 : decode cX12_wants 9 = .ok (.ifCond .ne 7, 3) := by decide +kernel
theorem dX12_wants_12 : decode cX12_wants 12 = .ok (.iconst 1, 1) := by decide +kernel
theorem dX12_wants_13 : decode cX12_wants 13 = .ok (.goto 4, 3) := by decide +kernel
theorem dX12_wants_16 : decode cX12_wants 16 = .ok (.iconst 0, 1) := by decide +kernel
theorem dX12_wants_17 : decode cX12_wants 17 = .ok (.putfield 303, 3) := by decide +kernel
theorem dX12_wants_20 : decode cX12_wants 20 = .ok (.aload_n 0, 1) := by decide +kernel
theorem dX12_wants_21 : decode cX12_wants 21 = .ok (.getfield 303, 3) := by decide +kernel
theorem dX12_wants_24 : decode cX12_wants 24 = .ok (.ifCond .ne 7, 3) := by decide +kernel
theorem dX12_wants_27 : decode cX12_wants 27 = .ok (.aload_n 0, 1) := by decide +kernel
theorem dX12_wants_28 : decode cX12_wants 28 = .ok (.invokevirtual 307, 3) := by decide +kernel
theorem dX12_wants_31 : decode cX12_wants 31 = .ok (.return_, 1) := by decide +kernel
def f12_wants_b31  (a1 : Int32)  (m : lu_M) : Option (lu_M) :=
  some m
set_option maxRecDepth 20000 in
theorem w12_wants_b31  {G : lu_G} {ρ : Nat → Nat} {a1 : Int32}  (X : lu_X G RX12 cX12_wants 2 3 67) (hret : (lu_me G).sig.returnType = none)   : ∀  (m : lu_M), lu_Ab lu_TM G (lu_Q lu_TM G ρ lu_RVv lu_id) (f12_wants_b31 a1 m) 31 [] [] ρ 0 0 [] m := by
  intro  m
  unfold f12_wants_b31
  exact lu_vret X hret dX12_wants_31
def f12_wants_b17  (a1 : Int32) (s0 : Int32) (m : lu_M) : Option (lu_M) :=
  lu_gd (decide (s0 = 0 ∨ s0 = 1)) <|
  lu_nm (lu_st m 0 29 s0) fun m1 =>
  if (m1 0 29) = 0 then (lu_bv (f12_token m1) fun m2 =>
  f12_wants_b31 a1 m2)
  else (f12_wants_b31 a1 m1)
set_option maxRecDepth 20000 in
theorem w12_wants_b17  {G : lu_G} {ρ : Nat → Nat} {a1 : Int32}  (X : lu_X G RX12 cX12_wants 2 3 67) (hret : (lu_me G).sig.returnType = none)   : ∀ (s0 : Int32) (m : lu_M), lu_Ab lu_TM G (lu_Q lu_TM G ρ lu_RVv lu_id) (f12_wants_b17 a1 s0 m) 17 [(0, .ref (ρ 0))] [.int s0, .ref (ρ 0)] ρ 0 0 [] m := by
  intro s0 m
  unfold f12_wants_b17
  refine lu_putz X fl12_303 rfl (Or.inl (by decide)) rfl (by decide +kernel) kM_0 lM_0 dX12_wants_17 (pc2 := 20) rfl (fun m1 => ?_)
  refine lu_aload_n X dX12_wants_20 (pc2 := 21) rfl rfl 0 rfl ?_
  refine lu_get X fl12_303 rfl kM_0 lM_0 dX12_wants_21 (pc2 := 24) rfl ?_
  refine lu_if_ne (tgt := 31) X dX12_wants_24 (pc2 := 27) rfl (by decide) (fun _ => ?_) (fun _ => ?_)
  · exact lu_sub [] rfl (w12_wants_b31 X hret m1)
  · refine lu_aload_n X dX12_wants_27 (pc2 := 28) rfl rfl 0 rfl ?_
    refine lu_invVv X (c12_token _) rfl q1614 mvV_12_token kM_0 lM_0 (by decide) ⟨_, rfl, rfl⟩ rfl rfl (Nat.le_of_ble_eq_true rfl) (Nat.le_of_ble_eq_true rfl) (Nat.le_of_ble_eq_true rfl) ⟨Nat.zero_le _, Nat.zero_le _⟩ dX12_wants_28 (pc2 := 31) rfl rfl (fun m2 => ?_)
    exact lu_sub [] rfl (w12_wants_b31 X hret m2)
def f12_wants_b12  (a1 : Int32)  (m : lu_M) : Option (lu_M) :=
  f12_wants_b17 a1 (1 : Int32) m
set_option maxRecDepth 20000 in
theorem w12_wants_b12  {G : lu_G} {ρ : Nat → Nat} {a1 : Int32}  (X : lu_X G RX12 cX12_wants 2 3 67) (hret : (lu_me G).sig.returnType = none)   : ∀  (m : lu_M), lu_Ab lu_TM G (lu_Q lu_TM G ρ lu_RVv lu_id) (f12_wants_b12 a1 m) 12 [(0, .ref (ρ 0))] [.ref (ρ 0)] ρ 0 0 [] m := by
  intro  m
  unfold f12_wants_b12
  refine lu_iconst X dX12_wants_12 (pc2 := 13) rfl ic_1 ?_
  refine lu_goto (tgt := 17) X dX12_wants_13 (by decide) ?_
  exact w12_wants_b17 X hret (1 : Int32) m
def f12_wants (a1 : Int32) (m : lu_M) : Option (lu_M) :=
  if (m 0 29) = 0 then (if a1 = 0 then (f12_wants_b12 a1 m)
  else (f12_wants_b17 a1 (0 : Int32) m))
  else (f12_wants_b12 a1 m)
set_option maxRecDepth 20000 in
theorem c12_wants (l : Launch)   (a1 : Int32) : lu_C lu_TM l yX12_wants cX12_wants 2 none 3 67 (fun ρ sa => [.ref (ρ 0), .int a1]) (f12_wants a1) lu_RVv lu_id := by
  refine lu_met (cls := RX12) rfl (by decide +kernel) (fun _ _ => Nat.le_of_ble_eq_true rfl) ?_
  intro G ρ m hl X hret
  subst hl
  change lu_Ab lu_TM G (lu_Q lu_TM G ρ lu_RVv lu_id) (f12_wants a1 m) 0 [(0, .ref (ρ 0)), (1, .int a1)] [] ρ 0 0 [] m
  unfold f12_wants
  refine lu_aload_n X dX12_wants_0 (pc2 := 1) rfl rfl 0 rfl ?_
  refine lu_aload_n X dX12_wants_1 (pc2 := 2) rfl rfl 0 rfl ?_
  refine lu_get X fl12_303 rfl kM_0 lM_0 dX12_wants_2 (pc2 := 5) rfl ?_
  refine lu_if_ne (tgt := 12) X dX12_wants_5 (pc2 := 8) rfl (by decide) (fun _ => ?_) (fun _ => ?_)
  · exact lu_sub [0] rfl (w12_wants_b12 X hret m)
  · refine lu_iload_n X dX12_wants_8 (pc2 := 9) rfl rfl 1 rfl ?_
    refine lu_if_ne (tgt := 16) X dX12_wants_9 (pc2 := 12) rfl (by decide) (fun _ => ?_) (fun _ => ?_)
    · refine lu_iconst X dX12_wants_16 (pc2 := 17) rfl ic_0 ?_
      exact lu_sub [0] rfl (w12_wants_b17 X hret (0 : Int32) m)
    · exact lu_sub [0] rfl (w12_wants_b12 X hret m)

theorem dX12_word_0 : decode cX12_word 0 = .ok (.lconst 0, 1) := by decide +kernel
theorem dX12_word_1 : decode cX12_word 1 = .ok (.lstore_n 1, 1) := by decide +kernel
theorem dX12_word_2 : decode cX12_word 2 = .ok (.aload_n 0, 1) := by decide +kernel
theorem dX12_word_3 : decode cX12_word 3 = .ok (.getfield 291, 3) := by decide +kernel
theorem dX12_word_6 : decode cX12_word 6 = .ok (.istore_n 3, 1) := by decide +kernel
theorem dX12_word_7 : decode cX12_word 7 = .ok (.iload_n 3, 1) := by decide +kernel
theorem dX12_word_8 : decode cX12_word 8 = .ok (.aload_n 0, 1) := by decide +kernel
theorem dX12_word_9 : decode cX12_word 9 = .ok (.getfield 288, 3) := by decide +kernel
theorem dX12_word_12 : decode cX12_word 12 = .ok (.if_icmp .ge 38, 3) := by decide +kernel
theorem dX12_word_15 : decode cX12_word 15 = .ok (.lload_n 1, 1) := by decide +kernel
theorem dX12_word_16 : decode cX12_word 16 = .ok (.ldc2_w 310, 3) := by decide +kernel
theorem dX12_word_19 : decode cX12_word 19 = .ok (.lcmp, 1) := by decide +kernel
theorem dX12_word_20 : decode cX12_word 20 = .ok (.ifCond .le 7, 3) := by decide +kernel
theorem dX12_word_23 : decode cX12_word 23 = .ok (.lload_n 1, 1) := by decide +kernel
theorem dX12_word_24 : decode cX12_word 24 = .ok (.goto 19, 3) := by decide +kernel
theorem dX12_word_27 : decode cX12_word 27 = .ok (.ldc2_w 312, 3) := by decide +kernel
theorem dX12_word_30 : decode cX12_word 30 = .ok (.lload_n 1, 1) := by decide +kernel
theorem dX12_word_31 : decode cX12_word 31 = .ok (.lmul, 1) := by decide +kernel
theorem dX12_word_32 : decode cX12_word 32 = .ok (.aload_n 0, 1) := by decide +kernel
theorem dX12_word_33 : decode cX12_word 33 = .ok (.getfield 40, 3) := by decide +kernel
theorem dX12_word_36 : decode cX12_word 36 = .ok (.iload_n 3, 1) := by decide +kernel
theorem dX12_word_37 : decode cX12_word 37 = .ok (.iaload, 1) := by decide +kernel
theorem dX12_word_38 : decode cX12_word 38 = .ok (.bipush 96, 2) := by decide +kernel
theorem dX12_word_40 : decode cX12_word 40 = .ok (.isub, 1) := by decide +kernel
theorem dX12_word_41 : decode cX12_word 41 = .ok (.i2l, 1) := by decide +kernel
theorem dX12_word_42 : decode cX12_word 42 = .ok (.ladd, 1) := by decide +kernel
theorem dX12_word_43 : decode cX12_word 43 = .ok (.lstore_n 1, 1) := by decide +kernel
theorem dX12_word_44 : decode cX12_word 44 = .ok (.iinc 3 1, 3) := by decide +kernel
theorem dX12_word_47 : decode cX12_word 47 = .ok (.goto (-40), 3) := by decide +kernel
theorem dX12_word_50 : decode cX12_word 50 = .ok (.aload_n 0, 1) := by decide +kernel
theorem dX12_word_51 : decode cX12_word 51 = .ok (.getfield 303, 3) := by decide +kernel
theorem dX12_word_54 : decode cX12_word 54 = .ok (.ifCond .ne 17, 3) := by decide +kernel
theorem dX12_word_57 : decode cX12_word 57 = .ok (.aload_n 0, 1) := by decide +kernel
theorem dX12_word_58 : decode cX12_word 58 = .ok (.aload_n 0, 1) := by decide +kernel
theorem dX12_word_59 : decode cX12_word 59 = .ok (.getfield 291, 3) := by decide +kernel
theorem dX12_word_62 : decode cX12_word 62 = .ok (.invokevirtual 294, 3) := by decide +kernel
theorem dX12_word_65 : decode cX12_word 65 = .ok (.invokestatic 297, 3) := by decide +kernel
theorem dX12_word_68 : decode cX12_word 68 = .ok (.ifCond .ne 7, 3) := by decide +kernel
theorem dX12_word_71 : decode cX12_word 71 = .ok (.lconst 0, 1) := by decide +kernel
theorem dX12_word_72 : decode cX12_word 72 = .ok (.goto 4, 3) := by decide +kernel
theorem dX12_word_75 : decode cX12_word 75 = .ok (.lload_n 1, 1) := by decide +kernel
theorem dX12_word_76 : decode cX12_word 76 = .ok (.lreturn, 1) := by decide +kernel
def f12_word_b43 (K7 : Int64 → Int32 → lu_M → Option (Int64 × lu_M)) (K50 : Int64 → lu_M → Option (Int64 × lu_M))  (v3 : Int32) (s0 : Int64) (m : lu_M) : Option (Int64 × lu_M) :=
  K7 s0 (v3 + (1 : Int32)) m
set_option maxRecDepth 20000 in
theorem w12_word_b43  {G : lu_G} {ρ : Nat → Nat}  {K7 : Int64 → Int32 → lu_M → Option (Int64 × lu_M)} {K50 : Int64 → lu_M → Option (Int64 × lu_M)} (X : lu_X G RX12 cX12_word 4 2 45) (hret : (lu_me G).sig.returnType = (some .long))  (hK7 : ∀ (v1 : Int64) (v3 : Int32) (m : lu_M), lu_Ab lu_TM G (lu_Q lu_TM G ρ lu_RVl lu_sn) (K7 v1 v3 m) 7 [(0, .ref (ρ 0)), (1, .long v1), (3, .int v3)] [] ρ 0 0 [] m) (hK50 : ∀ (v1 : Int64) (m : lu_M), lu_Ab lu_TM G (lu_Q lu_TM G ρ lu_RVl lu_sn) (K50 v1 m) 50 [(0, .ref (ρ 0)), (1, .long v1)] [] ρ 0 0 [] m) : ∀ (v3 : Int32) (s0 : Int64) (m : lu_M), lu_Ab lu_TM G (lu_Q lu_TM G ρ lu_RVl lu_sn) (f12_word_b43 K7 K50 v3 s0 m) 43 [(0, .ref (ρ 0)), (3, .int v3)] [.long s0] ρ 0 0 [] m := by
  intro v3 s0 m
  unfold f12_word_b43
  refine lu_lstore_n (lv2 := [(1, .long s0), (0, .ref (ρ 0)), (3, .int v3)]) X dX12_word_43 (pc2 := 44) rfl rfl (by decide) rfl ?_
  refine lu_iinc (lv2 := [(3, .int (v3 + (1 : Int32))), (1, .long s0), (0, .ref (ρ 0))]) X dX12_word_44 (pc2 := 47) rfl 2 rfl (lu_ii _ ic_1) (by decide) rfl ?_
  refine lu_goto (tgt := 7) X dX12_word_47 (by decide) ?_
  exact lu_sub [2, 1, 0] rfl (hK7 s0 (v3 + (1 : Int32)) m)
def f12_word_b7B (K50 : Int64 → lu_M → Option (Int64 × lu_M)) (rec : Int64 → Int32 → lu_M → Option (Int64 × lu_M))  (v1 : Int64) (v3 : Int32) (m : lu_M) : Option (Int64 × lu_M) :=
  if (m 0 25) ≤ v3 then (K50 v1 m)
  else (if (lg_cmp v1 (36028797018963967 : Int64)) ≤ 0 then (lu_gd (lu_ib v3 200) <|
  f12_word_b43 rec K50 v3 (((32 : Int64) * v1) + (((m 11 v3.toNatClampNeg) - (96 : Int32)).toInt64)) m)
  else (f12_word_b43 rec K50 v3 v1 m))
def f12_word_b7 (K50 : Int64 → lu_M → Option (Int64 × lu_M))  : Nat → Int64 → Int32 → lu_M → Option (Int64 × lu_M)
  | 0, _, _, _ => none
  | n + 1, v1, v3, m => f12_word_b7B K50 (f12_word_b7 K50 n) v1 v3 m
set_option maxRecDepth 20000 in
theorem w12_word_b7B  {G : lu_G} {ρ : Nat → Nat}  {K50 : Int64 → lu_M → Option (Int64 × lu_M)} {rec : Int64 → Int32 → lu_M → Option (Int64 × lu_M)} (X : lu_X G RX12 cX12_word 4 2 45) (hret : (lu_me G).sig.returnType = (some .long))  (hK50 : ∀ (v1 : Int64) (m : lu_M), lu_Ab lu_TM G (lu_Q lu_TM G ρ lu_RVl lu_sn) (K50 v1 m) 50 [(0, .ref (ρ 0)), (1, .long v1)] [] ρ 0 0 [] m) (hrec : ∀ (v1 : Int64) (v3 : Int32) (m : lu_M), lu_Ab lu_TM G (lu_Q lu_TM G ρ lu_RVl lu_sn) (rec v1 v3 m) 7 [(0, .ref (ρ 0)), (1, .long v1), (3, .int v3)] [] ρ 0 0 [] m) : ∀ (v1 : Int64) (v3 : Int32) (m : lu_M), lu_Ab lu_TM G (lu_Q lu_TM G ρ lu_RVl lu_sn) (f12_word_b7B K50 rec v1 v3 m) 7 [(0, .ref (ρ 0)), (1, .long v1), (3, .int v3)] [] ρ 0 0 [] m := by
  intro v1 v3 m
  unfold f12_word_b7B
  refine lu_iload_n X dX12_word_7 (pc2 := 8) rfl rfl 2 rfl ?_
  refine lu_aload_n X dX12_word_8 (pc2 := 9) rfl rfl 0 rfl ?_
  refine lu_get X fl12_288 rfl kM_0 lM_0 dX12_word_9 (pc2 := 12) rfl ?_
  refine lu_icmp_ge (tgt := 50) X dX12_word_12 (pc2 := 15) rfl (by decide) (fun _ => ?_) (fun _ => ?_)
  · exact lu_sub [0, 1] rfl (hK50 v1 m)
  · refine lu_lload_n X dX12_word_15 (pc2 := 16) rfl rfl 1 rfl ?_
    refine lu_ldc2 X q1644 dX12_word_16 (pc2 := 19) rfl ?_
    refine lu_lcmp X dX12_word_19 (pc2 := 20) rfl ?_
    refine lu_if_le (tgt := 27) X dX12_word_20 (pc2 := 23) rfl (by decide) (fun _ => ?_) (fun _ => ?_)
    · refine lu_ldc2 X q1645 dX12_word_27 (pc2 := 30) rfl ?_
      refine lu_lload_n X dX12_word_30 (pc2 := 31) rfl rfl 1 rfl ?_
      refine lu_lmul X dX12_word_31 (pc2 := 32) rfl ?_
      refine lu_aload_n X dX12_word_32 (pc2 := 33) rfl rfl 0 rfl ?_
      refine lu_getr (r2 := 11) X rfl fl12_40 rfl kM_0 lM_0 dX12_word_33 (pc2 := 36) rfl ?_
      refine lu_iload_n X dX12_word_36 (pc2 := 37) rfl rfl 2 rfl ?_
      refine lu_iald X kM_11 lM_11 dX12_word_37 (pc2 := 38) rfl ?_
      refine lu_bipush X dX12_word_38 (pc2 := 40) rfl bp_96 ?_
      refine lu_isub X dX12_word_40 (pc2 := 41) rfl ?_
      refine lu_i2l X dX12_word_41 (pc2 := 42) rfl ?_
      refine lu_ladd X dX12_word_42 (pc2 := 43) rfl ?_
      exact lu_sub [0, 2] rfl (w12_word_b43 X hret hrec hK50 v3 (((32 : Int64) * v1) + (((m 11 v3.toNatClampNeg) - (96 : Int32)).toInt64)) m)
    · refine lu_lload_n X dX12_word_23 (pc2 := 24) rfl rfl 1 rfl ?_
      refine lu_goto (tgt := 43) X dX12_word_24 (by decide) ?_
      exact lu_sub [0, 2] rfl (w12_word_b43 X hret hrec hK50 v3 v1 m)
theorem w12_word_b7  {G : lu_G} {ρ : Nat → Nat}  {K50 : Int64 → lu_M → Option (Int64 × lu_M)} (X : lu_X G RX12 cX12_word 4 2 45) (hret : (lu_me G).sig.returnType = (some .long))  (hK50 : ∀ (v1 : Int64) (m : lu_M), lu_Ab lu_TM G (lu_Q lu_TM G ρ lu_RVl lu_sn) (K50 v1 m) 50 [(0, .ref (ρ 0)), (1, .long v1)] [] ρ 0 0 [] m) : ∀ (n : Nat) (v1 : Int64) (v3 : Int32) (m : lu_M), lu_Ab lu_TM G (lu_Q lu_TM G ρ lu_RVl lu_sn) (f12_word_b7 K50 n v1 v3 m) 7 [(0, .ref (ρ 0)), (1, .long v1), (3, .int v3)] [] ρ 0 0 [] m := by
  intro n
  induction n with
  | zero => intro v1 v3 m; exact lu_none
  | succ n ih => intro v1 v3 m; exact w12_word_b7B X hret hK50 ih v1 v3 m
def f12_word_b76   (s0 : Int64) (m : lu_M) : Option (Int64 × lu_M) :=
  some (s0, m)
set_option maxRecDepth 20000 in
theorem w12_word_b76  {G : lu_G} {ρ : Nat → Nat}   (X : lu_X G RX12 cX12_word 4 2 45) (hret : (lu_me G).sig.returnType = (some .long))   : ∀ (s0 : Int64) (m : lu_M), lu_Ab lu_TM G (lu_Q lu_TM G ρ lu_RVl lu_sn) (f12_word_b76  s0 m) 76 [] [.long s0] ρ 0 0 [] m := by
  intro s0 m
  unfold f12_word_b76
  exact lu_lret X hret dX12_word_76
def f12_word_b71    (m : lu_M) : Option (Int64 × lu_M) :=
  f12_word_b76 (0 : Int64) m
set_option maxRecDepth 20000 in
theorem w12_word_b71  {G : lu_G} {ρ : Nat → Nat}   (X : lu_X G RX12 cX12_word 4 2 45) (hret : (lu_me G).sig.returnType = (some .long))   : ∀  (m : lu_M), lu_Ab lu_TM G (lu_Q lu_TM G ρ lu_RVl lu_sn) (f12_word_b71  m) 71 [] [] ρ 0 0 [] m := by
  intro  m
  unfold f12_word_b71
  refine lu_lconst (v := (0 : Int64)) X dX12_word_71 (pc2 := 72) rfl (by decide) ?_
  refine lu_goto (tgt := 76) X dX12_word_72 (by decide) ?_
  exact w12_word_b76 X hret (0 : Int64) m
def f12_word_b50   (v1 : Int64) (m : lu_M) : Option (Int64 × lu_M) :=
  if (m 0 29) = 0 then (lu_bi (f12_byteAt (m 0 24) m) fun x2 m3 =>
  lu_bi (f12_isLetter x2 m3) fun x4 m5 =>
  if x4 = 0 then (f12_word_b71 m5)
  else (f12_word_b76 v1 m5))
  else (f12_word_b71 m)
set_option maxRecDepth 20000 in
theorem w12_word_b50  {G : lu_G} {ρ : Nat → Nat}   (X : lu_X G RX12 cX12_word 4 2 45) (hret : (lu_me G).sig.returnType = (some .long))   : ∀ (v1 : Int64) (m : lu_M), lu_Ab lu_TM G (lu_Q lu_TM G ρ lu_RVl lu_sn) (f12_word_b50  v1 m) 50 [(0, .ref (ρ 0)), (1, .long v1)] [] ρ 0 0 [] m := by
  intro v1 m
  unfold f12_word_b50
  refine lu_aload_n X dX12_word_50 (pc2 := 51) rfl rfl 0 rfl ?_
  refine lu_get X fl12_303 rfl kM_0 lM_0 dX12_word_51 (pc2 := 54) rfl ?_
  refine lu_if_ne (tgt := 71) X dX12_word_54 (pc2 := 57) rfl (by decide) (fun _ => ?_) (fun _ => ?_)
  · exact lu_sub [] rfl (w12_word_b71 X hret m)
  · refine lu_aload_n X dX12_word_57 (pc2 := 58) rfl rfl 0 rfl ?_
    refine lu_aload_n X dX12_word_58 (pc2 := 59) rfl rfl 0 rfl ?_
    refine lu_get X fl12_291 rfl kM_0 lM_0 dX12_word_59 (pc2 := 62) rfl ?_
    refine lu_invVi X (c12_byteAt _ (m 0 24)) rfl q1618 mvV_12_byteAt kM_0 lM_0 (by decide) ⟨_, rfl, rfl⟩ rfl rfl (Nat.le_of_ble_eq_true rfl) (Nat.le_of_ble_eq_true rfl) (Nat.le_of_ble_eq_true rfl) ⟨Nat.zero_le _, Nat.zero_le _⟩ dX12_word_62 (pc2 := 65) rfl rfl (fun x2 m3 => ?_)
    refine lu_invSi X (c12_isLetter _ x2) rfl q1622 mvS_12_isLetter rfl rfl (Nat.le_of_ble_eq_true rfl) (Nat.le_of_ble_eq_true rfl) (Nat.le_of_ble_eq_true rfl) ⟨Nat.zero_le _, Nat.zero_le _⟩ dX12_word_65 (pc2 := 68) rfl rfl (fun x4 m5 => ?_)
    refine lu_if_ne (tgt := 75) X dX12_word_68 (pc2 := 71) rfl (by decide) (fun _ => ?_) (fun _ => ?_)
    · refine lu_lload_n X dX12_word_75 (pc2 := 76) rfl rfl 1 rfl ?_
      exact lu_sub [] rfl (w12_word_b76 X hret v1 m5)
    · exact lu_sub [] rfl (w12_word_b71 X hret m5)
def f12_word  (m : lu_M) : Option (Int64 × lu_M) :=
  lu_nm ((m 0 24)) fun x1 =>
  f12_word_b7 f12_word_b50 lu_fu (0 : Int64) x1 m
set_option maxRecDepth 20000 in
theorem c12_word (l : Launch)    : lu_C lu_TM l yX12_word cX12_word 4 (some .long) 2 45 (fun ρ sa => [.ref (ρ 0)]) (f12_word ) lu_RVl lu_sn := by
  refine lu_met (cls := RX12) rfl (by decide +kernel) (fun _ _ => Nat.le_of_ble_eq_true rfl) ?_
  intro G ρ m hl X hret
  subst hl
  change lu_Ab lu_TM G (lu_Q lu_TM G ρ lu_RVl lu_sn) (f12_word  m) 0 [(0, .ref (ρ 0))] [] ρ 0 0 [] m
  unfold f12_word
  refine lu_lconst (v := (0 : Int64)) X dX12_word_0 (pc2 := 1) rfl (by decide) ?_
  refine lu_lstore_n (lv2 := [(1, .long (0 : Int64)), (0, .ref (ρ 0))]) X dX12_word_1 (pc2 := 2) rfl rfl (by decide) rfl ?_
  refine lu_aload_n X dX12_word_2 (pc2 := 3) rfl rfl 1 rfl ?_
  refine lu_get X fl12_291 rfl kM_0 lM_0 dX12_word_3 (pc2 := 6) rfl ?_
  refine lu_topi (fun x1 => ?_)
  refine lu_istore_n (lv2 := [(3, .int x1), (1, .long (0 : Int64)), (0, .ref (ρ 0))]) X dX12_word_6 (pc2 := 7) rfl rfl (by decide) rfl ?_
  exact lu_sub [2, 1, 0] rfl (w12_word_b7 X hret (w12_word_b50 X hret) lu_fu (0 : Int64) x1 m)

theorem dX12_number_0 : decode cX12_number 0 = .ok (.aload_n 0, 1) := by decide +kernel
theorem dX12_number_1 : decode cX12_number 1 = .ok (.aload_n 0, 1) := by decide +kernel
theorem dX12_number_2 : decode cX12_number 2 = .ok (.getfield 291, 3) := by decide +kernel
theorem dX12_number_5 : decode cX12_number 5 = .ok (.invokevirtual 294, 3) := by decide +kernel
theorem dX12_number_8 : decode cX12_number 8 = .ok (.invokestatic 300, 3) := by decide +kernel
theorem dX12_number_11 : decode cX12_number 11 = .ok (.ifCond .eq 20, 3) := by decide +kernel
theorem dX12_number_14 : decode cX12_number 14 = .ok (.aload_n 0, 1) := by decide +kernel
theorem dX12_number_15 : decode cX12_number 15 = .ok (.getfield 288, 3) := by decide +kernel
theorem dX12_number_18 : decode cX12_number 18 = .ok (.aload_n 0, 1) := by decide +kernel
theorem dX12_number_19 : decode cX12_number 19 = .ok (.getfield 291, 3) := by decide +kernel
theorem dX12_number_22 : decode cX12_number 22 = .ok (.isub, 1) := by decide +kernel
theorem dX12_number_23 : decode cX12_number 23 = .ok (.iconst 5, 1) := by decide +kernel
theorem dX12_number_24 : decode cX12_number 24 = .ok (.if_icmp .ge 7, 3) := by decide +kernel
theorem dX12_number_27 : decode cX12_number 27 = .ok (.iconst 1, 1) := by decide +kernel
theorem dX12_number_28 : decode cX12_number 28 = .ok (.goto 4, 3) := by decide +kernel
theorem dX12_number_31 : decode cX12_number 31 = .ok (.iconst 0, 1) := by decide +kernel
theorem dX12_number_32 : decode cX12_number 32 = .ok (.istore_n 2, 1) := by decide +kernel
theorem dX12_number_33 : decode cX12_number 33 = .ok (.aload_n 0, 1) := by decide +kernel
theorem dX12_number_34 : decode cX12_number 34 = .ok (.iconst 0, 1) := by decide +kernel
theorem dX12_number_35 : decode cX12_number 35 = .ok (.putfield 314, 3) := by decide +kernel
theorem dX12_number_38 : decode cX12_number 38 = .ok (.aload_n 0, 1) := by decide +kernel
theorem dX12_number_39 : decode cX12_number 39 = .ok (.getfield 291, 3) := by decide +kernel
theorem dX12_number_42 : decode cX12_number 42 = .ok (.istore_n 3, 1) := by decide +kernel
theorem dX12_number_43 : decode cX12_number 43 = .ok (.iload_n 3, 1) := by decide +kernel
theorem dX12_number_44 : decode cX12_number 44 = .ok (.aload_n 0, 1) := by decide +kernel
theorem dX12_number_45 : decode cX12_number 45 = .ok (.getfield 288, 3) := by decide +kernel
theorem dX12_number_48 : decode cX12_number 48 = .ok (.if_icmp .ge 34, 3) := by decide +kernel
theorem dX12_number_51 : decode cX12_number 51 = .ok (.iload_n 2, 1) := by decide +kernel
theorem dX12_number_52 : decode cX12_number 52 = .ok (.ifCond .eq 30, 3) := by decide +kernel
theorem dX12_number_55 : decode cX12_number 55 = .ok (.aload_n 0, 1) := by decide +kernel
theorem dX12_number_56 : decode cX12_number 56 = .ok (.bipush 10, 2) := by decide +kernel
theorem dX12_number_58 : decode cX12_number 58 = .ok (.aload_n 0, 1) := by decide +kernel
theorem dX12_number_59 : decode cX12_number 59 = .ok (.getfield 314, 3) := by decide +kernel
theorem dX12_number_62 : decode cX12_number 62 = .ok (.imul, 1) := by decide +kernel
theorem dX12_number_63 : decode cX12_number 63 = .ok (.aload_n 0, 1) := by decide +kernel
theorem dX12_number_64 : decode cX12_number 64 = .ok (.getfield 40, 3) := by decide +kernel
theorem dX12_number_67 : decode cX12_number 67 = .ok (.iload_n 3, 1) := by decide +kernel
theorem dX12_number_68 : decode cX12_number 68 = .ok (.iaload, 1) := by decide +kernel
theorem dX12_number_69 : decode cX12_number 69 = .ok (.iadd, 1) := by decide +kernel
theorem dX12_number_70 : decode cX12_number 70 = .ok (.bipush 48, 2) := by decide +kernel
theorem dX12_number_72 : decode cX12_number 72 = .ok (.isub, 1) := by decide +kernel
theorem dX12_number_73 : decode cX12_number 73 = .ok (.putfield 314, 3) := by decide +kernel
theorem dX12_number_76 : decode cX12_number 76 = .ok (.iinc 3 1, 3) := by decide +kernel
theorem dX12_number_79 : decode cX12_number 79 = .ok (.goto (-36), 3) := by decide +kernel
theorem dX12_number_82 : decode cX12_number 82 = .ok (.aload_n 0, 1) := by decide +kernel
theorem dX12_number_83 : decode cX12_number 83 = .ok (.iload_n 2, 1) := by decide +kernel
theorem dX12_number_84 : decode cX12_number 84 = .ok (.ifCond .eq 15, 3) := by decide +kernel
theorem dX12_number_87 : decode cX12_number 87 = .ok (.aload_n 0, 1) := by decide +kernel
theorem dX12_number_88 : decode cX12_number 88 = .ok (.getfield 314, 3) := by decide +kernel
theorem dX12_number_91 : decode cX12_number 91 = .ok (.iload_n 1, 1) := by decide +kernel
theorem dX12_number_92 : decode cX12_number 92 = .ok (.if_icmp .gt 7, 3) := by decide +kernel
theorem dX12_number_95 : decode cX12_number 95 = .ok (.iconst 1, 1) := by decide +kernel
theorem dX12_number_96 : decode cX12_number 96 = .ok (.goto 4, 3) := by decide +kernel
theorem dX12_number_99 : decode cX12_number 99 = .ok (.iconst 0, 1) := by decide +kernel
theorem dX12_number_100 : decode cX12_number 100 = .ok (.invokevirtual 317, 3) := by decide +kernel
theorem dX12_number_103 : decode cX12_number 103 = .ok (.return_, 1) := by decide +kernel
def f12_number_b43B (K82 : Int32 → lu_M → Option (lu_M)) (rec : Int32 → Int32 → lu_M → Option (lu_M)) (a1 : Int32) (v2 : Int32) (v3 : Int32) (m : lu_M) : Option (lu_M) :=
  if (m 0 25) ≤ v3 then (K82 v2 m)
  else (if v2 = 0 then (K82 v2 m)
  else (lu_gd (lu_ib v3 200) <|
  lu_nm (lu_st m 0 26 ((((10 : Int32) * (m 0 26)) + (m 11 v3.toNatClampNeg)) - (48 : Int32))) fun m7 =>
  rec v2 (v3 + (1 : Int32)) m7))
def f12_number_b43 (K82 : Int32 → lu_M → Option (lu_M)) (a1 : Int32) : Nat → Int32 → Int32 → lu_M → Option (lu_M)
  | 0, _, _, _ => none
  | n + 1, v2, v3, m => f12_number_b43B K82 (f12_number_b43 K82 a1 n) a1 v2 v3 m
set_option maxRecDepth 20000 in
theorem w12_number_b43B  {G : lu_G} {ρ : Nat → Nat} {a1 : Int32} {K82 : Int32 → lu_M → Option (lu_M)} {rec : Int32 → Int32 → lu_M → Option (lu_M)} (X : lu_X G RX12 cX12_number 4 4 88) (hret : (lu_me G).sig.returnType = none)  (hK82 : ∀ (v2 : Int32) (m : lu_M), lu_Ab lu_TM G (lu_Q lu_TM G ρ lu_RVv lu_id) (K82 v2 m) 82 [(0, .ref (ρ 0)), (1, .int a1), (2, .int v2)] [] ρ 0 0 [] m) (hrec : ∀ (v2 : Int32) (v3 : Int32) (m : lu_M), lu_Ab lu_TM G (lu_Q lu_TM G ρ lu_RVv lu_id) (rec v2 v3 m) 43 [(0, .ref (ρ 0)), (1, .int a1), (2, .int v2), (3, .int v3)] [] ρ 0 0 [] m) : ∀ (v2 : Int32) (v3 : Int32) (m : lu_M), lu_Ab lu_TM G (lu_Q lu_TM G ρ lu_RVv lu_id) (f12_number_b43B K82 rec a1 v2 v3 m) 43 [(0, .ref (ρ 0)), (1, .int a1), (2, .int v2), (3, .int v3)] [] ρ 0 0 [] m := by
  intro v2 v3 m
  unfold f12_number_b43B
  refine lu_iload_n X dX12_number_43 (pc2 := 44) rfl rfl 3 rfl ?_
  refine lu_aload_n X dX12_number_44 (pc2 := 45) rfl rfl 0 rfl ?_
  refine lu_get X fl12_288 rfl kM_0 lM_0 dX12_number_45 (pc2 := 48) rfl ?_
  refine lu_icmp_ge (tgt := 82) X dX12_number_48 (pc2 := 51) rfl (by decide) (fun _ => ?_) (fun _ => ?_)
  · exact lu_sub [0, 1, 2] rfl (hK82 v2 m)
  · refine lu_iload_n X dX12_number_51 (pc2 := 52) rfl rfl 2 rfl ?_
    refine lu_if_eq (tgt := 82) X dX12_number_52 (pc2 := 55) rfl (by decide) (fun _ => ?_) (fun _ => ?_)
    · exact lu_sub [0, 1, 2] rfl (hK82 v2 m)
    · refine lu_aload_n X dX12_number_55 (pc2 := 56) rfl rfl 0 rfl ?_
      refine lu_bipush X dX12_number_56 (pc2 := 58) rfl bp_10 ?_
      refine lu_aload_n X dX12_number_58 (pc2 := 59) rfl rfl 0 rfl ?_
      refine lu_get X fl12_314 rfl kM_0 lM_0 dX12_number_59 (pc2 := 62) rfl ?_
      refine lu_imul X dX12_number_62 (pc2 := 63) rfl ?_
      refine lu_aload_n X dX12_number_63 (pc2 := 64) rfl rfl 0 rfl ?_
      refine lu_getr (r2 := 11) X rfl fl12_40 rfl kM_0 lM_0 dX12_number_64 (pc2 := 67) rfl ?_
      refine lu_iload_n X dX12_number_67 (pc2 := 68) rfl rfl 3 rfl ?_
      refine lu_iald X kM_11 lM_11 dX12_number_68 (pc2 := 69) rfl ?_
      refine lu_iadd X dX12_number_69 (pc2 := 70) rfl ?_
      refine lu_bipush X dX12_number_70 (pc2 := 72) rfl bp_48 ?_
      refine lu_isub X dX12_number_72 (pc2 := 73) rfl ?_
      refine lu_put X fl12_314 rfl (Or.inl (by decide)) rfl (by decide +kernel) kM_0 lM_0 dX12_number_73 (pc2 := 76) rfl (fun m7 => ?_)
      refine lu_iinc (lv2 := [(3, .int (v3 + (1 : Int32))), (0, .ref (ρ 0)), (1, .int a1), (2, .int v2)]) X dX12_number_76 (pc2 := 79) rfl 3 rfl (lu_ii _ ic_1) (by decide) rfl ?_
      refine lu_goto (tgt := 43) X dX12_number_79 (by decide) ?_
      exact lu_sub [1, 2, 3, 0] rfl (hrec v2 (v3 + (1 : Int32)) m7)
theorem w12_number_b43  {G : lu_G} {ρ : Nat → Nat} {a1 : Int32} {K82 : Int32 → lu_M → Option (lu_M)} (X : lu_X G RX12 cX12_number 4 4 88) (hret : (lu_me G).sig.returnType = none)  (hK82 : ∀ (v2 : Int32) (m : lu_M), lu_Ab lu_TM G (lu_Q lu_TM G ρ lu_RVv lu_id) (K82 v2 m) 82 [(0, .ref (ρ 0)), (1, .int a1), (2, .int v2)] [] ρ 0 0 [] m) : ∀ (n : Nat) (v2 : Int32) (v3 : Int32) (m : lu_M), lu_Ab lu_TM G (lu_Q lu_TM G ρ lu_RVv lu_id) (f12_number_b43 K82 a1 n v2 v3 m) 43 [(0, .ref (ρ 0)), (1, .int a1), (2, .int v2), (3, .int v3)] [] ρ 0 0 [] m := by
  intro n
  induction n with
  | zero => intro v2 v3 m; exact lu_none
  | succ n ih => intro v2 v3 m; exact w12_number_b43B X hret hK82 ih v2 v3 m
def f12_number_b100  (a1 : Int32) (s0 : Int32) (m : lu_M) : Option (lu_M) :=
  lu_bv (f12_wants s0 m) fun m8 =>
  some m8
set_option maxRecDepth 20000 in
theorem w12_number_b100  {G : lu_G} {ρ : Nat → Nat} {a1 : Int32}  (X : lu_X G RX12 cX12_number 4 4 88) (hret : (lu_me G).sig.returnType = none)   : ∀ (s0 : Int32) (m : lu_M), lu_Ab lu_TM G (lu_Q lu_TM G ρ lu_RVv lu_id) (f12_number_b100 a1 s0 m) 100 [] [.int s0, .ref (ρ 0)] ρ 0 0 [] m := by
  intro s0 m
  unfold f12_number_b100
  refine lu_invVv X (c12_wants _ s0) rfl q1652 mvV_12_wants kM_0 lM_0 (by decide) ⟨_, rfl, rfl⟩ rfl rfl (Nat.le_of_ble_eq_true rfl) (Nat.le_of_ble_eq_true rfl) (Nat.le_of_ble_eq_true rfl) ⟨Nat.zero_le _, Nat.zero_le _⟩ dX12_number_100 (pc2 := 103) rfl rfl (fun m8 => ?_)
  exact lu_vret X hret dX12_number_103
def f12_number_b99  (a1 : Int32)  (m : lu_M) : Option (lu_M) :=
  f12_number_b100 a1 (0 : Int32) m
set_option maxRecDepth 20000 in
theorem w12_number_b99  {G : lu_G} {ρ : Nat → Nat} {a1 : Int32}  (X : lu_X G RX12 cX12_number 4 4 88) (hret : (lu_me G).sig.returnType = none)   : ∀  (m : lu_M), lu_Ab lu_TM G (lu_Q lu_TM G ρ lu_RVv lu_id) (f12_number_b99 a1 m) 99 [] [.ref (ρ 0)] ρ 0 0 [] m := by
  intro  m
  unfold f12_number_b99
  refine lu_iconst X dX12_number_99 (pc2 := 100) rfl ic_0 ?_
  exact w12_number_b100 X hret (0 : Int32) m
def f12_number_b82  (a1 : Int32) (v2 : Int32) (m : lu_M) : Option (lu_M) :=
  if v2 = 0 then (f12_number_b99 a1 m)
  else (if a1 < (m 0 26) then (f12_number_b99 a1 m)
  else (f12_number_b100 a1 (1 : Int32) m))
set_option maxRecDepth 20000 in
theorem w12_number_b82  {G : lu_G} {ρ : Nat → Nat} {a1 : Int32}  (X : lu_X G RX12 cX12_number 4 4 88) (hret : (lu_me G).sig.returnType = none)   : ∀ (v2 : Int32) (m : lu_M), lu_Ab lu_TM G (lu_Q lu_TM G ρ lu_RVv lu_id) (f12_number_b82 a1 v2 m) 82 [(0, .ref (ρ 0)), (1, .int a1), (2, .int v2)] [] ρ 0 0 [] m := by
  intro v2 m
  unfold f12_number_b82
  refine lu_aload_n X dX12_number_82 (pc2 := 83) rfl rfl 0 rfl ?_
  refine lu_iload_n X dX12_number_83 (pc2 := 84) rfl rfl 2 rfl ?_
  refine lu_if_eq (tgt := 99) X dX12_number_84 (pc2 := 87) rfl (by decide) (fun _ => ?_) (fun _ => ?_)
  · exact lu_sub [] rfl (w12_number_b99 X hret m)
  · refine lu_aload_n X dX12_number_87 (pc2 := 88) rfl rfl 0 rfl ?_
    refine lu_get X fl12_314 rfl kM_0 lM_0 dX12_number_88 (pc2 := 91) rfl ?_
    refine lu_iload_n X dX12_number_91 (pc2 := 92) rfl rfl 1 rfl ?_
    refine lu_icmp_gt (tgt := 99) X dX12_number_92 (pc2 := 95) rfl (by decide) (fun _ => ?_) (fun _ => ?_)
    · exact lu_sub [] rfl (w12_number_b99 X hret m)
    · refine lu_iconst X dX12_number_95 (pc2 := 96) rfl ic_1 ?_
      refine lu_goto (tgt := 100) X dX12_number_96 (by decide) ?_
      exact lu_sub [] rfl (w12_number_b100 X hret (1 : Int32) m)
def f12_number_b32  (a1 : Int32) (s0 : Int32) (m : lu_M) : Option (lu_M) :=
  lu_nm (lu_st m 0 26 (0 : Int32)) fun m5 =>
  lu_nm ((m5 0 24)) fun x6 =>
  f12_number_b43 (f12_number_b82 a1) a1 lu_fu s0 x6 m5
set_option maxRecDepth 20000 in
theorem w12_number_b32  {G : lu_G} {ρ : Nat → Nat} {a1 : Int32}  (X : lu_X G RX12 cX12_number 4 4 88) (hret : (lu_me G).sig.returnType = none)   : ∀ (s0 : Int32) (m : lu_M), lu_Ab lu_TM G (lu_Q lu_TM G ρ lu_RVv lu_id) (f12_number_b32 a1 s0 m) 32 [(0, .ref (ρ 0)), (1, .int a1)] [.int s0] ρ 0 0 [] m := by
  intro s0 m
  unfold f12_number_b32
  refine lu_istore_n (lv2 := [(2, .int s0), (0, .ref (ρ 0)), (1, .int a1)]) X dX12_number_32 (pc2 := 33) rfl rfl (by decide) rfl ?_
  refine lu_aload_n X dX12_number_33 (pc2 := 34) rfl rfl 1 rfl ?_
  refine lu_iconst X dX12_number_34 (pc2 := 35) rfl ic_0 ?_
  refine lu_put X fl12_314 rfl (Or.inl (by decide)) rfl (by decide +kernel) kM_0 lM_0 dX12_number_35 (pc2 := 38) rfl (fun m5 => ?_)
  refine lu_aload_n X dX12_number_38 (pc2 := 39) rfl rfl 1 rfl ?_
  refine lu_get X fl12_291 rfl kM_0 lM_0 dX12_number_39 (pc2 := 42) rfl ?_
  refine lu_topi (fun x6 => ?_)
  refine lu_istore_n (lv2 := [(3, .int x6), (2, .int s0), (0, .ref (ρ 0)), (1, .int a1)]) X dX12_number_42 (pc2 := 43) rfl rfl (by decide) rfl ?_
  exact lu_sub [2, 3, 1, 0] rfl (w12_number_b43 X hret (w12_number_b82 X hret) lu_fu s0 x6 m5)
def f12_number_b31  (a1 : Int32)  (m : lu_M) : Option (lu_M) :=
  f12_number_b32 a1 (0 : Int32) m
set_option maxRecDepth 20000 in
theorem w12_number_b31  {G : lu_G} {ρ : Nat → Nat} {a1 : Int32}  (X : lu_X G RX12 cX12_number 4 4 88) (hret : (lu_me G).sig.returnType = none)   : ∀  (m : lu_M), lu_Ab lu_TM G (lu_Q lu_TM G ρ lu_RVv lu_id) (f12_number_b31 a1 m) 31 [(0, .ref (ρ 0)), (1, .int a1)] [] ρ 0 0 [] m := by
  intro  m
  unfold f12_number_b31
  refine lu_iconst X dX12_number_31 (pc2 := 32) rfl ic_0 ?_
  exact w12_number_b32 X hret (0 : Int32) m
def f12_number (a1 : Int32) (m : lu_M) : Option (lu_M) :=
  lu_bi (f12_byteAt (m 0 24) m) fun x1 m2 =>
  lu_bi (f12_isDigit x1 m2) fun x3 m4 =>
  if x3 = 0 then (f12_number_b31 a1 m4)
  else (if (5 : Int32) ≤ ((m4 0 25) - (m4 0 24)) then (f12_number_b31 a1 m4)
  else (f12_number_b32 a1 (1 : Int32) m4))
set_option maxRecDepth 20000 in
theorem c12_number (l : Launch)   (a1 : Int32) : lu_C lu_TM l yX12_number cX12_number 4 none 4 88 (fun ρ sa => [.ref (ρ 0), .int a1]) (f12_number a1) lu_RVv lu_id := by
  refine lu_met (cls := RX12) rfl (by decide +kernel) (fun _ _ => Nat.le_of_ble_eq_true rfl) ?_
  intro G ρ m hl X hret
  subst hl
  change lu_Ab lu_TM G (lu_Q lu_TM G ρ lu_RVv lu_id) (f12_number a1 m) 0 [(0, .ref (ρ 0)), (1, .int a1)] [] ρ 0 0 [] m
  unfold f12_number
  refine lu_aload_n X dX12_number_0 (pc2 := 1) rfl rfl 0 rfl ?_
  refine lu_aload_n X dX12_number_1 (pc2 := 2) rfl rfl 0 rfl ?_
  refine lu_get X fl12_291 rfl kM_0 lM_0 dX12_number_2 (pc2 := 5) rfl ?_
  refine lu_invVi X (c12_byteAt _ (m 0 24)) rfl q1618 mvV_12_byteAt kM_0 lM_0 (by decide) ⟨_, rfl, rfl⟩ rfl rfl (Nat.le_of_ble_eq_true rfl) (Nat.le_of_ble_eq_true rfl) (Nat.le_of_ble_eq_true rfl) ⟨Nat.zero_le _, Nat.zero_le _⟩ dX12_number_5 (pc2 := 8) rfl rfl (fun x1 m2 => ?_)
  refine lu_invSi X (c12_isDigit _ x1) rfl q1627 mvS_12_isDigit rfl rfl (Nat.le_of_ble_eq_true rfl) (Nat.le_of_ble_eq_true rfl) (Nat.le_of_ble_eq_true rfl) ⟨Nat.zero_le _, Nat.zero_le _⟩ dX12_number_8 (pc2 := 11) rfl rfl (fun x3 m4 => ?_)
  refine lu_if_eq (tgt := 31) X dX12_number_11 (pc2 := 14) rfl (by decide) (fun _ => ?_) (fun _ => ?_)
  · exact w12_number_b31 X hret m4
  · refine lu_aload_n X dX12_number_14 (pc2 := 15) rfl rfl 0 rfl ?_
    refine lu_get X fl12_288 rfl kM_0 lM_0 dX12_number_15 (pc2 := 18) rfl ?_
    refine lu_aload_n X dX12_number_18 (pc2 := 19) rfl rfl 0 rfl ?_
    refine lu_get X fl12_291 rfl kM_0 lM_0 dX12_number_19 (pc2 := 22) rfl ?_
    refine lu_isub X dX12_number_22 (pc2 := 23) rfl ?_
    refine lu_iconst X dX12_number_23 (pc2 := 24) rfl ic_5 ?_
    refine lu_icmp_ge (tgt := 31) X dX12_number_24 (pc2 := 27) rfl (by decide) (fun _ => ?_) (fun _ => ?_)
    · exact w12_number_b31 X hret m4
    · refine lu_iconst X dX12_number_27 (pc2 := 28) rfl ic_1 ?_
      refine lu_goto (tgt := 32) X dX12_number_28 (by decide) ?_
      exact w12_number_b32 X hret (1 : Int32) m4

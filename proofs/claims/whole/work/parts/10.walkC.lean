/-! WALKS of methods (written by a program out of their instructions): functions of the memory, and contracts -/
theorem dX3_pull_0 : decode cX3_pull 0 = .ok (.aload_n 0, 1) := by decide +kernel
theorem dX3_pull_1 : decode cX3_pull 1 = .ok (.getfield 21, 3) := by decide +kernel
theorem dX3_pull_4 : decode cX3_pull 4 = .ok (.ireturn, 1) := by decide +kernel
def f3_pull (r0 : Nat) (a1 : Int32) (m : lu_M) : Option (Int32 × lu_M) :=
  some ((m r0 3), m)
set_option maxRecDepth 20000 in
theorem c3_pull (l : Launch) {r0 : Nat} (hT_r0 : lu_TC.2 r0 = (10, 0, 0)) (hr_r0 : r0 < lu_TC.1) (a1 : Int32) : lu_C lu_TC l yX3_pull cX3_pull 2 (some .int) 0 0 (fun ρ sa => [.ref (ρ r0), .int a1]) (f3_pull r0 a1) lu_RVi lu_sn := by
  refine lu_met (cls := RX3) rfl (by decide +kernel) (fun _ _ => Nat.le_of_ble_eq_true rfl) ?_
  intro G ρ m hl X hret
  subst hl
  change lu_Ab lu_TC G (lu_Q lu_TC G ρ lu_RVi lu_sn) (f3_pull r0 a1 m) 0 [(0, .ref (ρ r0)), (1, .int a1)] [] ρ 0 0 [] m
  unfold f3_pull
  refine lu_aload_n X dX3_pull_0 (pc2 := 1) rfl rfl 0 rfl ?_
  refine lu_get X fl3_21 rfl hT_r0 hr_r0 dX3_pull_1 (pc2 := 4) rfl ?_
  exact lu_iret X hret dX3_pull_4

theorem dX0_pull_0 : decode cX0_pull 0 = .ok (.iload_n 1, 1) := by decide +kernel
theorem dX0_pull_1 : decode cX0_pull 1 = .ok (.iconst 3, 1) := by decide +kernel
theorem dX0_pull_2 : decode cX0_pull 2 = .ok (.irem, 1) := by decide +kernel
theorem dX0_pull_3 : decode cX0_pull 3 = .ok (.iconst 2, 1) := by decide +kernel
theorem dX0_pull_4 : decode cX0_pull 4 = .ok (.if_icmp .ne 7, 3) := by decide +kernel
theorem dX0_pull_7 : decode cX0_pull 7 = .ok (.iconst 0, 1) := by decide +kernel
theorem dX0_pull_8 : decode cX0_pull 8 = .ok (.goto 8, 3) := by decide +kernel
theorem dX0_pull_11 : decode cX0_pull 11 = .ok (.aload_n 0, 1) := by decide +kernel
theorem dX0_pull_12 : decode cX0_pull 12 = .ok (.iload_n 1, 1) := by decide +kernel
theorem dX0_pull_13 : decode cX0_pull 13 = .ok (.invokespecial 7, 3) := by decide +kernel
theorem dX0_pull_16 : decode cX0_pull 16 = .ok (.ireturn, 1) := by decide +kernel
def f0_pull_b16  (r0 : Nat) (a1 : Int32) (s0 : Int32) (m : lu_M) : Option (Int32 × lu_M) :=
  some (s0, m)
set_option maxRecDepth 20000 in
theorem w0_pull_b16  {G : lu_G} {ρ : Nat → Nat} {r0 : Nat} {a1 : Int32}  (X : lu_X G RX0 cX0_pull 2 1 21) (hret : (lu_me G).sig.returnType = (some .int)) (hT_r0 : lu_TC.2 r0 = (10, 0, 0)) (hr_r0 : r0 < lu_TC.1)  : ∀ (s0 : Int32) (m : lu_M), lu_Ab lu_TC G (lu_Q lu_TC G ρ lu_RVi lu_sn) (f0_pull_b16 r0 a1 s0 m) 16 [] [.int s0] ρ 0 0 [] m := by
  intro s0 m
  unfold f0_pull_b16
  exact lu_iret X hret dX0_pull_16
def f0_pull (r0 : Nat) (a1 : Int32) (m : lu_M) : Option (Int32 × lu_M) :=
  if (a1 - a1 / (3 : Int32) * (3 : Int32)) = (2 : Int32) then (f0_pull_b16 r0 a1 (0 : Int32) m)
  else (lu_bi (f3_pull r0 a1 m) fun x1 m2 =>
  f0_pull_b16 r0 a1 x1 m2)
set_option maxRecDepth 20000 in
theorem c0_pull (l : Launch) {r0 : Nat} (hT_r0 : lu_TC.2 r0 = (10, 0, 0)) (hr_r0 : r0 < lu_TC.1) (a1 : Int32) : lu_C lu_TC l yX0_pull cX0_pull 2 (some .int) 1 21 (fun ρ sa => [.ref (ρ r0), .int a1]) (f0_pull r0 a1) lu_RVi lu_sn := by
  refine lu_met (cls := RX0) rfl (by decide +kernel) (fun _ _ => Nat.le_of_ble_eq_true rfl) ?_
  intro G ρ m hl X hret
  subst hl
  change lu_Ab lu_TC G (lu_Q lu_TC G ρ lu_RVi lu_sn) (f0_pull r0 a1 m) 0 [(0, .ref (ρ r0)), (1, .int a1)] [] ρ 0 0 [] m
  unfold f0_pull
  refine lu_iload_n X dX0_pull_0 (pc2 := 1) rfl rfl 1 rfl ?_
  refine lu_iconst X dX0_pull_1 (pc2 := 2) rfl ic_3 ?_
  refine lu_iremK X dX0_pull_2 (pc2 := 3) rfl (by decide) ?_
  refine lu_iconst X dX0_pull_3 (pc2 := 4) rfl ic_2 ?_
  refine lu_icmp_ne (tgt := 11) X dX0_pull_4 (pc2 := 7) rfl (by decide) (fun _ => ?_) (fun _ => ?_)
  · refine lu_aload_n X dX0_pull_11 (pc2 := 12) rfl rfl 0 rfl ?_
    refine lu_iload_n X dX0_pull_12 (pc2 := 13) rfl rfl 1 rfl ?_
    refine lu_invUi X (c3_pull _ hT_r0 hr_r0 a1) rfl q456 mvU0_3_pull hT_r0 hr_r0 (by decide) (by decide) rfl rfl (Nat.le_of_ble_eq_true rfl) (Nat.le_of_ble_eq_true rfl) (Nat.le_of_ble_eq_true rfl) ⟨Nat.zero_le _, Nat.zero_le _⟩ dX0_pull_13 (pc2 := 16) rfl rfl (fun x1 m2 => ?_)
    exact lu_sub [] rfl (w0_pull_b16 X hret hT_r0 hr_r0 x1 m2)
  · refine lu_iconst X dX0_pull_7 (pc2 := 8) rfl ic_0 ?_
    refine lu_goto (tgt := 16) X dX0_pull_8 (by decide) ?_
    exact lu_sub [] rfl (w0_pull_b16 X hret hT_r0 hr_r0 (0 : Int32) m)

theorem dX3_began_0 : decode cX3_began 0 = .ok (.aload_n 0, 1) := by decide +kernel
theorem dX3_began_1 : decode cX3_began 1 = .ok (.getfield 24, 3) := by decide +kernel
theorem dX3_began_4 : decode cX3_began 4 = .ok (.iconst 0, 1) := by decide +kernel
theorem dX3_began_5 : decode cX3_began 5 = .ok (.iaload, 1) := by decide +kernel
theorem dX3_began_6 : decode cX3_began 6 = .ok (.bipush 30, 2) := by decide +kernel
theorem dX3_began_8 : decode cX3_began 8 = .ok (.if_icmp .lt 4, 3) := by decide +kernel
theorem dX3_began_11 : decode cX3_began 11 = .ok (.return_, 1) := by decide +kernel
theorem dX3_began_12 : decode cX3_began 12 = .ok (.aload_n 0, 1) := by decide +kernel
theorem dX3_began_13 : decode cX3_began 13 = .ok (.getfield 24, 3) := by decide +kernel
theorem dX3_began_16 : decode cX3_began 16 = .ok (.iconst 0, 1) := by decide +kernel
theorem dX3_began_17 : decode cX3_began 17 = .ok (.dup2, 1) := by decide +kernel
theorem dX3_began_18 : decode cX3_began 18 = .ok (.iaload, 1) := by decide +kernel
theorem dX3_began_19 : decode cX3_began 19 = .ok (.iconst 1, 1) := by decide +kernel
theorem dX3_began_20 : decode cX3_began 20 = .ok (.iadd, 1) := by decide +kernel
theorem dX3_began_21 : decode cX3_began 21 = .ok (.iastore, 1) := by decide +kernel
theorem dX3_began_22 : decode cX3_began 22 = .ok (.aload_n 0, 1) := by decide +kernel
theorem dX3_began_23 : decode cX3_began 23 = .ok (.getfield 24, 3) := by decide +kernel
theorem dX3_began_26 : decode cX3_began 26 = .ok (.aload_n 0, 1) := by decide +kernel
theorem dX3_began_27 : decode cX3_began 27 = .ok (.getfield 24, 3) := by decide +kernel
theorem dX3_began_30 : decode cX3_began 30 = .ok (.iconst 0, 1) := by decide +kernel
theorem dX3_began_31 : decode cX3_began 31 = .ok (.iaload, 1) := by decide +kernel
theorem dX3_began_32 : decode cX3_began 32 = .ok (.iload_n 1, 1) := by decide +kernel
theorem dX3_began_33 : decode cX3_began 33 = .ok (.iastore, 1) := by decide +kernel
theorem dX3_began_34 : decode cX3_began 34 = .ok (.return_, 1) := by decide +kernel
def f3_began (r0 : Nat) (a1 : Int32) (m : lu_M) : Option (lu_M) :=
  if (m 114 0) < (30 : Int32) then (lu_nm (lu_st m 114 0 ((m 114 0) + (1 : Int32))) fun m1 =>
  lu_gd (lu_ib (m1 114 0) 31) <|
  lu_nm (lu_st m1 114 (m1 114 0).toNatClampNeg a1) fun m2 =>
  some m2)
  else (some m)
set_option maxRecDepth 20000 in
theorem c3_began (l : Launch) {r0 : Nat} (hT_r0 : lu_TC.2 r0 = (10, 0, 0)) (hr_r0 : r0 < lu_TC.1) (a1 : Int32) : lu_C lu_TC l yX3_began cX3_began 2 none 0 0 (fun ρ sa => [.ref (ρ r0), .int a1]) (f3_began r0 a1) lu_RVv lu_id := by
  refine lu_met (cls := RX3) rfl (by decide +kernel) (fun _ _ => Nat.le_of_ble_eq_true rfl) ?_
  intro G ρ m hl X hret
  subst hl
  change lu_Ab lu_TC G (lu_Q lu_TC G ρ lu_RVv lu_id) (f3_began r0 a1 m) 0 [(0, .ref (ρ r0)), (1, .int a1)] [] ρ 0 0 [] m
  unfold f3_began
  refine lu_aload_n X dX3_began_0 (pc2 := 1) rfl rfl 0 rfl ?_
  refine lu_getr (r2 := 114) X rfl fl3_24 rfl hT_r0 hr_r0 dX3_began_1 (pc2 := 4) rfl ?_
  refine lu_iconst X dX3_began_4 (pc2 := 5) rfl ic_0 ?_
  refine lu_ialdK (q := 0) X (by decide) kC_114 lC_114 dX3_began_5 (pc2 := 6) rfl ?_
  refine lu_bipush X dX3_began_6 (pc2 := 8) rfl bp_30 ?_
  refine lu_icmp_lt (tgt := 12) X dX3_began_8 (pc2 := 11) rfl (by decide) (fun _ => ?_) (fun _ => ?_)
  · refine lu_aload_n X dX3_began_12 (pc2 := 13) rfl rfl 0 rfl ?_
    refine lu_getr (r2 := 114) X rfl fl3_24 rfl hT_r0 hr_r0 dX3_began_13 (pc2 := 16) rfl ?_
    refine lu_iconst X dX3_began_16 (pc2 := 17) rfl ic_0 ?_
    refine lu_dup2 X dX3_began_17 (pc2 := 18) rfl rfl rfl ?_
    refine lu_ialdK (q := 0) X (by decide) kC_114 lC_114 dX3_began_18 (pc2 := 19) rfl ?_
    refine lu_iconst X dX3_began_19 (pc2 := 20) rfl ic_1 ?_
    refine lu_iadd X dX3_began_20 (pc2 := 21) rfl ?_
    refine lu_iastK (q := 0) X (by decide) kC_114 lC_114 dX3_began_21 (pc2 := 22) rfl (fun m1 => ?_)
    refine lu_aload_n X dX3_began_22 (pc2 := 23) rfl rfl 0 rfl ?_
    refine lu_getr (r2 := 114) X rfl fl3_24 rfl hT_r0 hr_r0 dX3_began_23 (pc2 := 26) rfl ?_
    refine lu_aload_n X dX3_began_26 (pc2 := 27) rfl rfl 0 rfl ?_
    refine lu_getr (r2 := 114) X rfl fl3_24 rfl hT_r0 hr_r0 dX3_began_27 (pc2 := 30) rfl ?_
    refine lu_iconst X dX3_began_30 (pc2 := 31) rfl ic_0 ?_
    refine lu_ialdK (q := 0) X (by decide) kC_114 lC_114 dX3_began_31 (pc2 := 32) rfl ?_
    refine lu_iload_n X dX3_began_32 (pc2 := 33) rfl rfl 1 rfl ?_
    refine lu_iast X kC_114 lC_114 dX3_began_33 (pc2 := 34) rfl (fun m2 => ?_)
    exact lu_vret X hret dX3_began_34
  · exact lu_vret X hret dX3_began_11

def g0_began (r : Nat) (a1 : Int32) (m : lu_M) : Option (lu_M) := if m r 0 = 1 then f3_began r a1 m else none
theorem v0_began {β : Type} {G : lu_G} {Q : β → State → Prop} {pc pc2 : Nat} {lv : List (Nat × Value)} {st rest : List Value} {ρ : Nat → Nat} {k n : Nat} {ex : va_W} {m : lu_M} {own : String} {cc : ByteArray} {nL fr lo index r : Nat} {a1 : Int32} {ov : Option (lu_M)} {Ko : lu_M → Option β} (X : lu_X G own cc nL fr lo) (ml : Cond.methodLink own index ⟨RX0, "began", "(I)V"⟩ ∈ lu_ws) (hT : lu_TC.2 r = (10, 0, 0)) (hr : r < lu_TC.1) (hf : g0_began r a1 m = ov) (hroom : (rest.map fun v => v.category).sum ≤ 8) (hfr : 0 + 1 ≤ fr) (hlo : 8 + (0 + 11) + 2 ≤ lo) (hk : k ≤ (lu_R G).cells ∧ n ≤ (lu_R G).slots) (d : decode cc pc = .ok (.invokevirtual index, 3)) (hp : pc + 3 = pc2) (hst : st = [.int a1].reverse ++ .ref (ρ r) :: rest) (kk : ∀ (m9 : lu_M), lu_Ab lu_TC G Q (Ko m9) pc2 lv rest ρ k n ex m9) : lu_Ab lu_TC G Q (lu_bv ov Ko) pc lv st ρ k n ex m := by
  subst hf
  unfold g0_began
  by_cases h1 : m r 0 = 1
  · rw [if_pos h1]
    exact lu_invOv X (c3_began _ hT hr a1) rfl ml mvO_0_0_began_3_began hT hr (by decide) ⟨(RX0, TX0, 6), by rw [h1]; rfl, rfl⟩ rfl rfl hroom (Nat.le_trans (Nat.le_of_ble_eq_true rfl) hfr) (Nat.le_trans (Nat.le_of_ble_eq_true rfl) hlo) hk d hp hst kk
  rw [if_neg h1]
  exact lu_none

def g3_began (r : Nat) (a1 : Int32) (m : lu_M) : Option (lu_M) := if m r 0 = 1 then f3_began r a1 m else if m r 0 = 2 then f3_began r a1 m else if m r 0 = 3 then f3_began r a1 m else if m r 0 = 4 then f3_began r a1 m else if m r 0 = 5 then f3_began r a1 m else f3_began r a1 m
theorem v3_began {β : Type} {G : lu_G} {Q : β → State → Prop} {pc pc2 : Nat} {lv : List (Nat × Value)} {st rest : List Value} {ρ : Nat → Nat} {k n : Nat} {ex : va_W} {m : lu_M} {own : String} {cc : ByteArray} {nL fr lo index r : Nat} {a1 : Int32} {ov : Option (lu_M)} {Ko : lu_M → Option β} (X : lu_X G own cc nL fr lo) (ml : Cond.methodLink own index yX3_began ∈ lu_ws) (hT : lu_TC.2 r = (10, 0, 0)) (hr : r < lu_TC.1) (hf : g3_began r a1 m = ov) (hroom : (rest.map fun v => v.category).sum ≤ 8) (hfr : 0 + 1 ≤ fr) (hlo : 8 + (0 + 11) + 2 ≤ lo) (hk : k ≤ (lu_R G).cells ∧ n ≤ (lu_R G).slots) (d : decode cc pc = .ok (.invokevirtual index, 3)) (hp : pc + 3 = pc2) (hst : st = [.int a1].reverse ++ .ref (ρ r) :: rest) (kk : ∀ (m9 : lu_M), lu_Ab lu_TC G Q (Ko m9) pc2 lv rest ρ k n ex m9) : lu_Ab lu_TC G Q (lu_bv ov Ko) pc lv st ρ k n ex m := by
  subst hf
  unfold g3_began
  by_cases h1 : m r 0 = 1
  · rw [if_pos h1]
    exact lu_invOv X (c3_began _ hT hr a1) rfl ml mvO_0_3_began_3_began hT hr (by decide) ⟨(RX0, TX0, 6), by rw [h1]; rfl, rfl⟩ rfl rfl hroom (Nat.le_trans (Nat.le_of_ble_eq_true rfl) hfr) (Nat.le_trans (Nat.le_of_ble_eq_true rfl) hlo) hk d hp hst kk
  rw [if_neg h1]
  by_cases h2 : m r 0 = 2
  · rw [if_pos h2]
    exact lu_invOv X (c3_began _ hT hr a1) rfl ml mvO_2_3_began_3_began hT hr (by decide) ⟨(RX2, TX2, 6), by rw [h2]; rfl, rfl⟩ rfl rfl hroom (Nat.le_trans (Nat.le_of_ble_eq_true rfl) hfr) (Nat.le_trans (Nat.le_of_ble_eq_true rfl) hlo) hk d hp hst kk
  rw [if_neg h2]
  by_cases h3 : m r 0 = 3
  · rw [if_pos h3]
    exact lu_invOv X (c3_began _ hT hr a1) rfl ml mvO_9_3_began_3_began hT hr (by decide) ⟨(RX9, TX9, 6), by rw [h3]; rfl, rfl⟩ rfl rfl hroom (Nat.le_trans (Nat.le_of_ble_eq_true rfl) hfr) (Nat.le_trans (Nat.le_of_ble_eq_true rfl) hlo) hk d hp hst kk
  rw [if_neg h3]
  by_cases h4 : m r 0 = 4
  · rw [if_pos h4]
    exact lu_invOv X (c3_began _ hT hr a1) rfl ml mvO_7_3_began_3_began hT hr (by decide) ⟨(RX7, TX7, 6), by rw [h4]; rfl, rfl⟩ rfl rfl hroom (Nat.le_trans (Nat.le_of_ble_eq_true rfl) hfr) (Nat.le_trans (Nat.le_of_ble_eq_true rfl) hlo) hk d hp hst kk
  rw [if_neg h4]
  by_cases h5 : m r 0 = 5
  · rw [if_pos h5]
    exact lu_invOv X (c3_began _ hT hr a1) rfl ml mvO_4_3_began_3_began hT hr (by decide) ⟨(RX4, TX4, 6), by rw [h5]; rfl, rfl⟩ rfl rfl hroom (Nat.le_trans (Nat.le_of_ble_eq_true rfl) hfr) (Nat.le_trans (Nat.le_of_ble_eq_true rfl) hlo) hk d hp hst kk
  rw [if_neg h5]
  exact lu_invOv X (c3_began _ hT hr a1) rfl ml mvO_3_3_began_3_began hT hr (by decide) ⟨(RX3, TX3, 6), by show lu_cl[lu_hk (m r 0)]? = _; unfold lu_hk; rw [if_neg h1, if_neg h2, if_neg h3, if_neg h4, if_neg h5]; rfl, rfl⟩ rfl rfl hroom (Nat.le_trans (Nat.le_of_ble_eq_true rfl) hfr) (Nat.le_trans (Nat.le_of_ble_eq_true rfl) hlo) hk d hp hst kk

theorem dX3_gives_0 : decode cX3_gives 0 = .ok (.aload_n 0, 1) := by decide +kernel
theorem dX3_gives_1 : decode cX3_gives 1 = .ok (.bipush 10, 2) := by decide +kernel
theorem dX3_gives_3 : decode cX3_gives 3 = .ok (.invokevirtual 28, 3) := by decide +kernel
theorem dX3_gives_6 : decode cX3_gives 6 = .ok (.iload_n 1, 1) := by decide +kernel
theorem dX3_gives_7 : decode cX3_gives 7 = .ok (.aload_n 0, 1) := by decide +kernel
theorem dX3_gives_8 : decode cX3_gives 8 = .ok (.getfield 18, 3) := by decide +kernel
theorem dX3_gives_11 : decode cX3_gives 11 = .ok (.isub, 1) := by decide +kernel
theorem dX3_gives_12 : decode cX3_gives 12 = .ok (.ireturn, 1) := by decide +kernel
def f3_gives (r0 : Nat) (a1 : Int32) (m : lu_M) : Option (Int32 × lu_M) :=
  lu_bv (g3_began r0 (10 : Int32) m) fun m1 =>
  some ((a1 - (m1 r0 2)), m1)
set_option maxRecDepth 20000 in
theorem c3_gives (l : Launch) {r0 : Nat} (hT_r0 : lu_TC.2 r0 = (10, 0, 0)) (hr_r0 : r0 < lu_TC.1) (a1 : Int32) : lu_C lu_TC l yX3_gives cX3_gives 2 (some .int) 1 21 (fun ρ sa => [.ref (ρ r0), .int a1]) (f3_gives r0 a1) lu_RVi lu_sn := by
  refine lu_met (cls := RX3) rfl (by decide +kernel) (fun _ _ => Nat.le_of_ble_eq_true rfl) ?_
  intro G ρ m hl X hret
  subst hl
  change lu_Ab lu_TC G (lu_Q lu_TC G ρ lu_RVi lu_sn) (f3_gives r0 a1 m) 0 [(0, .ref (ρ r0)), (1, .int a1)] [] ρ 0 0 [] m
  unfold f3_gives
  refine lu_aload_n X dX3_gives_0 (pc2 := 1) rfl rfl 0 rfl ?_
  refine lu_bipush X dX3_gives_1 (pc2 := 3) rfl bp_10 ?_
  refine v3_began X q1024 hT_r0 hr_r0 rfl (Nat.le_of_ble_eq_true rfl) (Nat.le_of_ble_eq_true rfl) (Nat.le_of_ble_eq_true rfl) ⟨Nat.zero_le _, Nat.zero_le _⟩ dX3_gives_3 (pc2 := 6) rfl rfl (fun m1 => ?_)
  refine lu_iload_n X dX3_gives_6 (pc2 := 7) rfl rfl 1 rfl ?_
  refine lu_aload_n X dX3_gives_7 (pc2 := 8) rfl rfl 0 rfl ?_
  refine lu_get X fl3_18 rfl hT_r0 hr_r0 dX3_gives_8 (pc2 := 11) rfl ?_
  refine lu_isub X dX3_gives_11 (pc2 := 12) rfl ?_
  exact lu_iret X hret dX3_gives_12

theorem dX0_gives_0 : decode cX0_gives 0 = .ok (.aload_n 0, 1) := by decide +kernel
theorem dX0_gives_1 : decode cX0_gives 1 = .ok (.bipush 20, 2) := by decide +kernel
theorem dX0_gives_3 : decode cX0_gives 3 = .ok (.invokevirtual 11, 3) := by decide +kernel
theorem dX0_gives_6 : decode cX0_gives 6 = .ok (.aload_n 0, 1) := by decide +kernel
theorem dX0_gives_7 : decode cX0_gives 7 = .ok (.iload_n 1, 1) := by decide +kernel
theorem dX0_gives_8 : decode cX0_gives 8 = .ok (.invokespecial 17, 3) := by decide +kernel
theorem dX0_gives_11 : decode cX0_gives 11 = .ok (.aload_n 0, 1) := by decide +kernel
theorem dX0_gives_12 : decode cX0_gives 12 = .ok (.getfield 20, 3) := by decide +kernel
theorem dX0_gives_15 : decode cX0_gives 15 = .ok (.iadd, 1) := by decide +kernel
theorem dX0_gives_16 : decode cX0_gives 16 = .ok (.ireturn, 1) := by decide +kernel
def f0_gives (r0 : Nat) (a1 : Int32) (m : lu_M) : Option (Int32 × lu_M) :=
  lu_bv (g0_began r0 (20 : Int32) m) fun m1 =>
  lu_bi (f3_gives r0 a1 m1) fun x2 m3 =>
  some ((x2 + (m3 r0 1)), m3)
set_option maxRecDepth 20000 in
theorem c0_gives (l : Launch) {r0 : Nat} (hT_r0 : lu_TC.2 r0 = (10, 0, 0)) (hr_r0 : r0 < lu_TC.1) (a1 : Int32) : lu_C lu_TC l yX0_gives cX0_gives 2 (some .int) 2 42 (fun ρ sa => [.ref (ρ r0), .int a1]) (f0_gives r0 a1) lu_RVi lu_sn := by
  refine lu_met (cls := RX0) rfl (by decide +kernel) (fun _ _ => Nat.le_of_ble_eq_true rfl) ?_
  intro G ρ m hl X hret
  subst hl
  change lu_Ab lu_TC G (lu_Q lu_TC G ρ lu_RVi lu_sn) (f0_gives r0 a1 m) 0 [(0, .ref (ρ r0)), (1, .int a1)] [] ρ 0 0 [] m
  unfold f0_gives
  refine lu_aload_n X dX0_gives_0 (pc2 := 1) rfl rfl 0 rfl ?_
  refine lu_bipush X dX0_gives_1 (pc2 := 3) rfl bp_20 ?_
  refine v0_began X q1004 hT_r0 hr_r0 rfl (Nat.le_of_ble_eq_true rfl) (Nat.le_of_ble_eq_true rfl) (Nat.le_of_ble_eq_true rfl) ⟨Nat.zero_le _, Nat.zero_le _⟩ dX0_gives_3 (pc2 := 6) rfl rfl (fun m1 => ?_)
  refine lu_aload_n X dX0_gives_6 (pc2 := 7) rfl rfl 0 rfl ?_
  refine lu_iload_n X dX0_gives_7 (pc2 := 8) rfl rfl 1 rfl ?_
  refine lu_invUi X (c3_gives _ hT_r0 hr_r0 a1) rfl q1010 mvU0_3_gives hT_r0 hr_r0 (by decide) (by decide) rfl rfl (Nat.le_of_ble_eq_true rfl) (Nat.le_of_ble_eq_true rfl) (Nat.le_of_ble_eq_true rfl) ⟨Nat.zero_le _, Nat.zero_le _⟩ dX0_gives_8 (pc2 := 11) rfl rfl (fun x2 m3 => ?_)
  refine lu_aload_n X dX0_gives_11 (pc2 := 12) rfl rfl 0 rfl ?_
  refine lu_get X fl0_20 rfl hT_r0 hr_r0 dX0_gives_12 (pc2 := 15) rfl ?_
  refine lu_iadd X dX0_gives_15 (pc2 := 16) rfl ?_
  exact lu_iret X hret dX0_gives_16

theorem dX1_clear_0 : decode cX1_clear 0 = .ok (.aload_n 0, 1) := by decide +kernel
theorem dX1_clear_1 : decode cX1_clear 1 = .ok (.iconst 0, 1) := by decide +kernel
theorem dX1_clear_2 : decode cX1_clear 2 = .ok (.putfield 9, 3) := by decide +kernel
theorem dX1_clear_5 : decode cX1_clear 5 = .ok (.aload_n 0, 1) := by decide +kernel
theorem dX1_clear_6 : decode cX1_clear 6 = .ok (.iconst 0, 1) := by decide +kernel
theorem dX1_clear_7 : decode cX1_clear 7 = .ok (.putfield 15, 3) := by decide +kernel
theorem dX1_clear_10 : decode cX1_clear 10 = .ok (.aload_n 0, 1) := by decide +kernel
theorem dX1_clear_11 : decode cX1_clear 11 = .ok (.iconst 0, 1) := by decide +kernel
theorem dX1_clear_12 : decode cX1_clear 12 = .ok (.putfield 18, 3) := by decide +kernel
theorem dX1_clear_15 : decode cX1_clear 15 = .ok (.aload_n 0, 1) := by decide +kernel
theorem dX1_clear_16 : decode cX1_clear 16 = .ok (.iconst 0, 1) := by decide +kernel
theorem dX1_clear_17 : decode cX1_clear 17 = .ok (.putfield 21, 3) := by decide +kernel
theorem dX1_clear_20 : decode cX1_clear 20 = .ok (.aload_n 0, 1) := by decide +kernel
theorem dX1_clear_21 : decode cX1_clear 21 = .ok (.iconst 0, 1) := by decide +kernel
theorem dX1_clear_22 : decode cX1_clear 22 = .ok (.putfield 24, 3) := by decide +kernel
theorem dX1_clear_25 : decode cX1_clear 25 = .ok (.aload_n 0, 1) := by decide +kernel
theorem dX1_clear_26 : decode cX1_clear 26 = .ok (.iconst 0, 1) := by decide +kernel
theorem dX1_clear_27 : decode cX1_clear 27 = .ok (.putfield 27, 3) := by decide +kernel
theorem dX1_clear_30 : decode cX1_clear 30 = .ok (.return_, 1) := by decide +kernel
def f1_clear (r0 : Nat) (m : lu_M) : Option (lu_M) :=
  lu_nm (lu_st m r0 0 (0 : Int32)) fun m1 =>
  lu_nm (lu_st m1 r0 1 (0 : Int32)) fun m2 =>
  lu_nm (lu_st m2 r0 2 (0 : Int32)) fun m3 =>
  lu_nm (lu_st m3 r0 3 (0 : Int32)) fun m4 =>
  lu_nm (lu_st m4 r0 4 (0 : Int32)) fun m5 =>
  lu_nm (lu_st m5 r0 5 (0 : Int32)) fun m6 =>
  some m6
set_option maxRecDepth 20000 in
theorem c1_clear (l : Launch) {r0 : Nat} (hT_r0 : lu_TC.2 r0 = (6, 0, 0)) (hr_r0 : r0 < lu_TC.1)  : lu_C lu_TC l yX1_clear cX1_clear 1 none 0 0 (fun ρ sa => [.ref (ρ r0)]) (f1_clear r0) lu_RVv lu_id := by
  refine lu_met (cls := RX1) rfl (by decide +kernel) (fun _ _ => Nat.le_of_ble_eq_true rfl) ?_
  intro G ρ m hl X hret
  subst hl
  change lu_Ab lu_TC G (lu_Q lu_TC G ρ lu_RVv lu_id) (f1_clear r0 m) 0 [(0, .ref (ρ r0))] [] ρ 0 0 [] m
  unfold f1_clear
  refine lu_aload_n X dX1_clear_0 (pc2 := 1) rfl rfl 0 rfl ?_
  refine lu_iconst X dX1_clear_1 (pc2 := 2) rfl ic_0 ?_
  refine lu_put X fl1_9 rfl (Or.inl (by decide)) rfl (by decide +kernel) hT_r0 hr_r0 dX1_clear_2 (pc2 := 5) rfl (fun m1 => ?_)
  refine lu_aload_n X dX1_clear_5 (pc2 := 6) rfl rfl 0 rfl ?_
  refine lu_iconst X dX1_clear_6 (pc2 := 7) rfl ic_0 ?_
  refine lu_put X fl1_15 rfl (Or.inl (by decide)) rfl (by decide +kernel) hT_r0 hr_r0 dX1_clear_7 (pc2 := 10) rfl (fun m2 => ?_)
  refine lu_aload_n X dX1_clear_10 (pc2 := 11) rfl rfl 0 rfl ?_
  refine lu_iconst X dX1_clear_11 (pc2 := 12) rfl ic_0 ?_
  refine lu_put X fl1_18 rfl (Or.inl (by decide)) rfl (by decide +kernel) hT_r0 hr_r0 dX1_clear_12 (pc2 := 15) rfl (fun m3 => ?_)
  refine lu_aload_n X dX1_clear_15 (pc2 := 16) rfl rfl 0 rfl ?_
  refine lu_iconst X dX1_clear_16 (pc2 := 17) rfl ic_0 ?_
  refine lu_put X fl1_21 rfl (Or.inl (by decide)) rfl (by decide +kernel) hT_r0 hr_r0 dX1_clear_17 (pc2 := 20) rfl (fun m4 => ?_)
  refine lu_aload_n X dX1_clear_20 (pc2 := 21) rfl rfl 0 rfl ?_
  refine lu_iconst X dX1_clear_21 (pc2 := 22) rfl ic_0 ?_
  refine lu_put X fl1_24 rfl (Or.inl (by decide)) rfl (by decide +kernel) hT_r0 hr_r0 dX1_clear_22 (pc2 := 25) rfl (fun m5 => ?_)
  refine lu_aload_n X dX1_clear_25 (pc2 := 26) rfl rfl 0 rfl ?_
  refine lu_iconst X dX1_clear_26 (pc2 := 27) rfl ic_0 ?_
  refine lu_put X fl1_27 rfl (Or.inl (by decide)) rfl (by decide +kernel) hT_r0 hr_r0 dX1_clear_27 (pc2 := 30) rfl (fun m6 => ?_)
  exact lu_vret X hret dX1_clear_30

theorem dX1_copy_0 : decode cX1_copy 0 = .ok (.aload_n 0, 1) := by decide +kernel
theorem dX1_copy_1 : decode cX1_copy 1 = .ok (.aload_n 1, 1) := by decide +kernel
theorem dX1_copy_2 : decode cX1_copy 2 = .ok (.getfield 9, 3) := by decide +kernel
theorem dX1_copy_5 : decode cX1_copy 5 = .ok (.putfield 9, 3) := by decide +kernel
theorem dX1_copy_8 : decode cX1_copy 8 = .ok (.aload_n 0, 1) := by decide +kernel
theorem dX1_copy_9 : decode cX1_copy 9 = .ok (.aload_n 1, 1) := by decide +kernel
theorem dX1_copy_10 : decode cX1_copy 10 = .ok (.getfield 15, 3) := by decide +kernel
theorem dX1_copy_13 : decode cX1_copy 13 = .ok (.putfield 15, 3) := by decide +kernel
theorem dX1_copy_16 : decode cX1_copy 16 = .ok (.aload_n 0, 1) := by decide +kernel
theorem dX1_copy_17 : decode cX1_copy 17 = .ok (.aload_n 1, 1) := by decide +kernel
theorem dX1_copy_18 : decode cX1_copy 18 = .ok (.getfield 18, 3) := by decide +kernel
theorem dX1_copy_21 : decode cX1_copy 21 = .ok (.putfield 18, 3) := by decide +kernel
theorem dX1_copy_24 : decode cX1_copy 24 = .ok (.aload_n 0, 1) := by decide +kernel
theorem dX1_copy_25 : decode cX1_copy 25 = .ok (.aload_n 1, 1) := by decide +kernel
theorem dX1_copy_26 : decode cX1_copy 26 = .ok (.getfield 21, 3) := by decide +kernel
theorem dX1_copy_29 : decode cX1_copy 29 = .ok (.putfield 21, 3) := by decide +kernel
theorem dX1_copy_32 : decode cX1_copy 32 = .ok (.aload_n 0, 1) := by decide +kernel
theorem dX1_copy_33 : decode cX1_copy 33 = .ok (.aload_n 1, 1) := by decide +kernel
theorem dX1_copy_34 : decode cX1_copy 34 = .ok (.getfield 24, 3) := by decide +kernel
theorem dX1_copy_37 : decode cX1_copy 37 = .ok (.putfield 24, 3) := by decide +kernel
theorem dX1_copy_40 : decode cX1_copy 40 = .ok (.aload_n 0, 1) := by decide +kernel
theorem dX1_copy_41 : decode cX1_copy 41 = .ok (.aload_n 1, 1) := by decide +kernel
theorem dX1_copy_42 : decode cX1_copy 42 = .ok (.getfield 27, 3) := by decide +kernel
theorem dX1_copy_45 : decode cX1_copy 45 = .ok (.putfield 27, 3) := by decide +kernel
theorem dX1_copy_48 : decode cX1_copy 48 = .ok (.return_, 1) := by decide +kernel
def f1_copy (r0 : Nat) (r1 : Nat) (m : lu_M) : Option (lu_M) :=
  lu_nm (lu_st m r0 0 (m r1 0)) fun m1 =>
  lu_nm (lu_st m1 r0 1 (m1 r1 1)) fun m2 =>
  lu_nm (lu_st m2 r0 2 (m2 r1 2)) fun m3 =>
  lu_nm (lu_st m3 r0 3 (m3 r1 3)) fun m4 =>
  lu_nm (lu_st m4 r0 4 (m4 r1 4)) fun m5 =>
  lu_nm (lu_st m5 r0 5 (m5 r1 5)) fun m6 =>
  some m6
set_option maxRecDepth 20000 in
theorem c1_copy (l : Launch) {r0 : Nat} {r1 : Nat} (hT_r0 : lu_TC.2 r0 = (6, 0, 0)) (hr_r0 : r0 < lu_TC.1) (hT_r1 : lu_TC.2 r1 = (6, 0, 0)) (hr_r1 : r1 < lu_TC.1)  : lu_C lu_TC l yX1_copy cX1_copy 2 none 0 0 (fun ρ sa => [.ref (ρ r0), .ref (ρ r1)]) (f1_copy r0 r1) lu_RVv lu_id := by
  refine lu_met (cls := RX1) rfl (by decide +kernel) (fun _ _ => Nat.le_of_ble_eq_true rfl) ?_
  intro G ρ m hl X hret
  subst hl
  change lu_Ab lu_TC G (lu_Q lu_TC G ρ lu_RVv lu_id) (f1_copy r0 r1 m) 0 [(0, .ref (ρ r0)), (1, .ref (ρ r1))] [] ρ 0 0 [] m
  unfold f1_copy
  refine lu_aload_n X dX1_copy_0 (pc2 := 1) rfl rfl 0 rfl ?_
  refine lu_aload_n X dX1_copy_1 (pc2 := 2) rfl rfl 1 rfl ?_
  refine lu_get X fl1_9 rfl hT_r1 hr_r1 dX1_copy_2 (pc2 := 5) rfl ?_
  refine lu_put X fl1_9 rfl (Or.inl (by decide)) rfl (by decide +kernel) hT_r0 hr_r0 dX1_copy_5 (pc2 := 8) rfl (fun m1 => ?_)
  refine lu_aload_n X dX1_copy_8 (pc2 := 9) rfl rfl 0 rfl ?_
  refine lu_aload_n X dX1_copy_9 (pc2 := 10) rfl rfl 1 rfl ?_
  refine lu_get X fl1_15 rfl hT_r1 hr_r1 dX1_copy_10 (pc2 := 13) rfl ?_
  refine lu_put X fl1_15 rfl (Or.inl (by decide)) rfl (by decide +kernel) hT_r0 hr_r0 dX1_copy_13 (pc2 := 16) rfl (fun m2 => ?_)
  refine lu_aload_n X dX1_copy_16 (pc2 := 17) rfl rfl 0 rfl ?_
  refine lu_aload_n X dX1_copy_17 (pc2 := 18) rfl rfl 1 rfl ?_
  refine lu_get X fl1_18 rfl hT_r1 hr_r1 dX1_copy_18 (pc2 := 21) rfl ?_
  refine lu_put X fl1_18 rfl (Or.inl (by decide)) rfl (by decide +kernel) hT_r0 hr_r0 dX1_copy_21 (pc2 := 24) rfl (fun m3 => ?_)
  refine lu_aload_n X dX1_copy_24 (pc2 := 25) rfl rfl 0 rfl ?_
  refine lu_aload_n X dX1_copy_25 (pc2 := 26) rfl rfl 1 rfl ?_
  refine lu_get X fl1_21 rfl hT_r1 hr_r1 dX1_copy_26 (pc2 := 29) rfl ?_
  refine lu_put X fl1_21 rfl (Or.inl (by decide)) rfl (by decide +kernel) hT_r0 hr_r0 dX1_copy_29 (pc2 := 32) rfl (fun m4 => ?_)
  refine lu_aload_n X dX1_copy_32 (pc2 := 33) rfl rfl 0 rfl ?_
  refine lu_aload_n X dX1_copy_33 (pc2 := 34) rfl rfl 1 rfl ?_
  refine lu_get X fl1_24 rfl hT_r1 hr_r1 dX1_copy_34 (pc2 := 37) rfl ?_
  refine lu_put X fl1_24 rfl (Or.inl (by decide)) rfl (by decide +kernel) hT_r0 hr_r0 dX1_copy_37 (pc2 := 40) rfl (fun m5 => ?_)
  refine lu_aload_n X dX1_copy_40 (pc2 := 41) rfl rfl 0 rfl ?_
  refine lu_aload_n X dX1_copy_41 (pc2 := 42) rfl rfl 1 rfl ?_
  refine lu_get X fl1_27 rfl hT_r1 hr_r1 dX1_copy_42 (pc2 := 45) rfl ?_
  refine lu_put X fl1_27 rfl (Or.inl (by decide)) rfl (by decide +kernel) hT_r0 hr_r0 dX1_copy_45 (pc2 := 48) rfl (fun m6 => ?_)
  exact lu_vret X hret dX1_copy_48

theorem dX1_begin_0 : decode cX1_begin 0 = .ok (.aload_n 0, 1) := by decide +kernel
theorem dX1_begin_1 : decode cX1_begin 1 = .ok (.aload_n 1, 1) := by decide +kernel
theorem dX1_begin_2 : decode cX1_begin 2 = .ok (.invokevirtual 30, 3) := by decide +kernel
theorem dX1_begin_5 : decode cX1_begin 5 = .ok (.aload_n 0, 1) := by decide +kernel
theorem dX1_begin_6 : decode cX1_begin 6 = .ok (.iconst 0, 1) := by decide +kernel
theorem dX1_begin_7 : decode cX1_begin 7 = .ok (.putfield 27, 3) := by decide +kernel
theorem dX1_begin_10 : decode cX1_begin 10 = .ok (.return_, 1) := by decide +kernel
def f1_begin (r0 : Nat) (r1 : Nat) (m : lu_M) : Option (lu_M) :=
  lu_bv (f1_copy r0 r1 m) fun m1 =>
  lu_nm (lu_st m1 r0 5 (0 : Int32)) fun m2 =>
  some m2
set_option maxRecDepth 20000 in
theorem c1_begin (l : Launch) {r0 : Nat} {r1 : Nat} (hT_r0 : lu_TC.2 r0 = (6, 0, 0)) (hr_r0 : r0 < lu_TC.1) (hT_r1 : lu_TC.2 r1 = (6, 0, 0)) (hr_r1 : r1 < lu_TC.1)  : lu_C lu_TC l yX1_begin cX1_begin 2 none 1 21 (fun ρ sa => [.ref (ρ r0), .ref (ρ r1)]) (f1_begin r0 r1) lu_RVv lu_id := by
  refine lu_met (cls := RX1) rfl (by decide +kernel) (fun _ _ => Nat.le_of_ble_eq_true rfl) ?_
  intro G ρ m hl X hret
  subst hl
  change lu_Ab lu_TC G (lu_Q lu_TC G ρ lu_RVv lu_id) (f1_begin r0 r1 m) 0 [(0, .ref (ρ r0)), (1, .ref (ρ r1))] [] ρ 0 0 [] m
  unfold f1_begin
  refine lu_aload_n X dX1_begin_0 (pc2 := 1) rfl rfl 0 rfl ?_
  refine lu_aload_n X dX1_begin_1 (pc2 := 2) rfl rfl 1 rfl ?_
  refine lu_invVv X (c1_copy _ hT_r0 hr_r0 hT_r1 hr_r1) rfl q756 mvV_1_copy hT_r0 hr_r0 (by decide) ⟨_, rfl, rfl⟩ rfl rfl (Nat.le_of_ble_eq_true rfl) (Nat.le_of_ble_eq_true rfl) (Nat.le_of_ble_eq_true rfl) ⟨Nat.zero_le _, Nat.zero_le _⟩ dX1_begin_2 (pc2 := 5) rfl rfl (fun m1 => ?_)
  refine lu_aload_n X dX1_begin_5 (pc2 := 6) rfl rfl 0 rfl ?_
  refine lu_iconst X dX1_begin_6 (pc2 := 7) rfl ic_0 ?_
  refine lu_put X fl1_27 rfl (Or.inl (by decide)) rfl (by decide +kernel) hT_r0 hr_r0 dX1_begin_7 (pc2 := 10) rfl (fun m2 => ?_)
  exact lu_vret X hret dX1_begin_10

theorem dX1_isStanding_0 : decode cX1_isStanding 0 = .ok (.aload_n 0, 1) := by decide +kernel
theorem dX1_isStanding_1 : decode cX1_isStanding 1 = .ok (.getfield 15, 3) := by decide +kernel
theorem dX1_isStanding_4 : decode cX1_isStanding 4 = .ok (.iload_n 1, 1) := by decide +kernel
theorem dX1_isStanding_5 : decode cX1_isStanding 5 = .ok (.ishr, 1) := by decide +kernel
theorem dX1_isStanding_6 : decode cX1_isStanding 6 = .ok (.iconst 1, 1) := by decide +kernel
theorem dX1_isStanding_7 : decode cX1_isStanding 7 = .ok (.iand, 1) := by decide +kernel
theorem dX1_isStanding_8 : decode cX1_isStanding 8 = .ok (.iconst 1, 1) := by decide +kernel
theorem dX1_isStanding_9 : decode cX1_isStanding 9 = .ok (.if_icmp .ne 7, 3) := by decide +kernel
theorem dX1_isStanding_12 : decode cX1_isStanding 12 = .ok (.iconst 1, 1) := by decide +kernel
theorem dX1_isStanding_13 : decode cX1_isStanding 13 = .ok (.goto 4, 3) := by decide +kernel
theorem dX1_isStanding_16 : decode cX1_isStanding 16 = .ok (.iconst 0, 1) := by decide +kernel
theorem dX1_isStanding_17 : decode cX1_isStanding 17 = .ok (.ireturn, 1) := by decide +kernel
def f1_isStanding_b17  (r0 : Nat) (a1 : Int32) (s0 : Int32) (m : lu_M) : Option (Int32 × lu_M) :=
  lu_gd (decide (s0 = 0 ∨ s0 = 1)) (some (s0, m))
set_option maxRecDepth 20000 in
theorem w1_isStanding_b17  {G : lu_G} {ρ : Nat → Nat} {r0 : Nat} {a1 : Int32}  (X : lu_X G RX1 cX1_isStanding 2 0 0) (hret : (lu_me G).sig.returnType = (some .boolean)) (hT_r0 : lu_TC.2 r0 = (6, 0, 0)) (hr_r0 : r0 < lu_TC.1)  : ∀ (s0 : Int32) (m : lu_M), lu_Ab lu_TC G (lu_Q lu_TC G ρ lu_RVi lu_sn) (f1_isStanding_b17 r0 a1 s0 m) 17 [] [.int s0] ρ 0 0 [] m := by
  intro s0 m
  unfold f1_isStanding_b17
  exact lu_zretG X hret dX1_isStanding_17
def f1_isStanding (r0 : Nat) (a1 : Int32) (m : lu_M) : Option (Int32 × lu_M) :=
  if (((m r0 1) >>> (a1 &&& 31)) &&& (1 : Int32)) = (1 : Int32) then (f1_isStanding_b17 r0 a1 (1 : Int32) m)
  else (f1_isStanding_b17 r0 a1 (0 : Int32) m)
set_option maxRecDepth 20000 in
theorem c1_isStanding (l : Launch) {r0 : Nat} (hT_r0 : lu_TC.2 r0 = (6, 0, 0)) (hr_r0 : r0 < lu_TC.1) (a1 : Int32) : lu_C lu_TC l yX1_isStanding cX1_isStanding 2 (some .boolean) 0 0 (fun ρ sa => [.ref (ρ r0), .int a1]) (f1_isStanding r0 a1) lu_RVi lu_sn := by
  refine lu_met (cls := RX1) rfl (by decide +kernel) (fun _ _ => Nat.le_of_ble_eq_true rfl) ?_
  intro G ρ m hl X hret
  subst hl
  change lu_Ab lu_TC G (lu_Q lu_TC G ρ lu_RVi lu_sn) (f1_isStanding r0 a1 m) 0 [(0, .ref (ρ r0)), (1, .int a1)] [] ρ 0 0 [] m
  unfold f1_isStanding
  refine lu_aload_n X dX1_isStanding_0 (pc2 := 1) rfl rfl 0 rfl ?_
  refine lu_get X fl1_15 rfl hT_r0 hr_r0 dX1_isStanding_1 (pc2 := 4) rfl ?_
  refine lu_iload_n X dX1_isStanding_4 (pc2 := 5) rfl rfl 1 rfl ?_
  refine lu_ishr X dX1_isStanding_5 (pc2 := 6) rfl ?_
  refine lu_iconst X dX1_isStanding_6 (pc2 := 7) rfl ic_1 ?_
  refine lu_iand X dX1_isStanding_7 (pc2 := 8) rfl ?_
  refine lu_iconst X dX1_isStanding_8 (pc2 := 9) rfl ic_1 ?_
  refine lu_icmp_ne (tgt := 16) X dX1_isStanding_9 (pc2 := 12) rfl (by decide) (fun _ => ?_) (fun _ => ?_)
  · refine lu_iconst X dX1_isStanding_16 (pc2 := 17) rfl ic_0 ?_
    exact lu_sub [] rfl (w1_isStanding_b17 X hret hT_r0 hr_r0 (0 : Int32) m)
  · refine lu_iconst X dX1_isStanding_12 (pc2 := 13) rfl ic_1 ?_
    refine lu_goto (tgt := 17) X dX1_isStanding_13 (by decide) ?_
    exact lu_sub [] rfl (w1_isStanding_b17 X hret hT_r0 hr_r0 (1 : Int32) m)

theorem dX1_isGone_0 : decode cX1_isGone 0 = .ok (.aload_n 0, 1) := by decide +kernel
theorem dX1_isGone_1 : decode cX1_isGone 1 = .ok (.getfield 18, 3) := by decide +kernel
theorem dX1_isGone_4 : decode cX1_isGone 4 = .ok (.aload_n 0, 1) := by decide +kernel
theorem dX1_isGone_5 : decode cX1_isGone 5 = .ok (.getfield 21, 3) := by decide +kernel
theorem dX1_isGone_8 : decode cX1_isGone 8 = .ok (.ior, 1) := by decide +kernel
theorem dX1_isGone_9 : decode cX1_isGone 9 = .ok (.iload_n 1, 1) := by decide +kernel
theorem dX1_isGone_10 : decode cX1_isGone 10 = .ok (.ishr, 1) := by decide +kernel
theorem dX1_isGone_11 : decode cX1_isGone 11 = .ok (.iconst 1, 1) := by decide +kernel
theorem dX1_isGone_12 : decode cX1_isGone 12 = .ok (.iand, 1) := by decide +kernel
theorem dX1_isGone_13 : decode cX1_isGone 13 = .ok (.iconst 1, 1) := by decide +kernel
theorem dX1_isGone_14 : decode cX1_isGone 14 = .ok (.if_icmp .ne 7, 3) := by decide +kernel
theorem dX1_isGone_17 : decode cX1_isGone 17 = .ok (.iconst 1, 1) := by decide +kernel
theorem dX1_isGone_18 : decode cX1_isGone 18 = .ok (.goto 4, 3) := by decide +kernel
theorem dX1_isGone_21 : decode cX1_isGone 21 = .ok (.iconst 0, 1) := by decide +kernel
theorem dX1_isGone_22 : decode cX1_isGone 22 = .ok (.ireturn, 1) := by decide +kernel
def f1_isGone_b22  (r0 : Nat) (a1 : Int32) (s0 : Int32) (m : lu_M) : Option (Int32 × lu_M) :=
  lu_gd (decide (s0 = 0 ∨ s0 = 1)) (some (s0, m))
set_option maxRecDepth 20000 in
theorem w1_isGone_b22  {G : lu_G} {ρ : Nat → Nat} {r0 : Nat} {a1 : Int32}  (X : lu_X G RX1 cX1_isGone 2 0 0) (hret : (lu_me G).sig.returnType = (some .boolean)) (hT_r0 : lu_TC.2 r0 = (6, 0, 0)) (hr_r0 : r0 < lu_TC.1)  : ∀ (s0 : Int32) (m : lu_M), lu_Ab lu_TC G (lu_Q lu_TC G ρ lu_RVi lu_sn) (f1_isGone_b22 r0 a1 s0 m) 22 [] [.int s0] ρ 0 0 [] m := by
  intro s0 m
  unfold f1_isGone_b22
  exact lu_zretG X hret dX1_isGone_22
def f1_isGone (r0 : Nat) (a1 : Int32) (m : lu_M) : Option (Int32 × lu_M) :=
  if ((((m r0 2) ||| (m r0 3)) >>> (a1 &&& 31)) &&& (1 : Int32)) = (1 : Int32) then (f1_isGone_b22 r0 a1 (1 : Int32) m)
  else (f1_isGone_b22 r0 a1 (0 : Int32) m)
set_option maxRecDepth 20000 in
theorem c1_isGone (l : Launch) {r0 : Nat} (hT_r0 : lu_TC.2 r0 = (6, 0, 0)) (hr_r0 : r0 < lu_TC.1) (a1 : Int32) : lu_C lu_TC l yX1_isGone cX1_isGone 2 (some .boolean) 0 0 (fun ρ sa => [.ref (ρ r0), .int a1]) (f1_isGone r0 a1) lu_RVi lu_sn := by
  refine lu_met (cls := RX1) rfl (by decide +kernel) (fun _ _ => Nat.le_of_ble_eq_true rfl) ?_
  intro G ρ m hl X hret
  subst hl
  change lu_Ab lu_TC G (lu_Q lu_TC G ρ lu_RVi lu_sn) (f1_isGone r0 a1 m) 0 [(0, .ref (ρ r0)), (1, .int a1)] [] ρ 0 0 [] m
  unfold f1_isGone
  refine lu_aload_n X dX1_isGone_0 (pc2 := 1) rfl rfl 0 rfl ?_
  refine lu_get X fl1_18 rfl hT_r0 hr_r0 dX1_isGone_1 (pc2 := 4) rfl ?_
  refine lu_aload_n X dX1_isGone_4 (pc2 := 5) rfl rfl 0 rfl ?_
  refine lu_get X fl1_21 rfl hT_r0 hr_r0 dX1_isGone_5 (pc2 := 8) rfl ?_
  refine lu_ior X dX1_isGone_8 (pc2 := 9) rfl ?_
  refine lu_iload_n X dX1_isGone_9 (pc2 := 10) rfl rfl 1 rfl ?_
  refine lu_ishr X dX1_isGone_10 (pc2 := 11) rfl ?_
  refine lu_iconst X dX1_isGone_11 (pc2 := 12) rfl ic_1 ?_
  refine lu_iand X dX1_isGone_12 (pc2 := 13) rfl ?_
  refine lu_iconst X dX1_isGone_13 (pc2 := 14) rfl ic_1 ?_
  refine lu_icmp_ne (tgt := 21) X dX1_isGone_14 (pc2 := 17) rfl (by decide) (fun _ => ?_) (fun _ => ?_)
  · refine lu_iconst X dX1_isGone_21 (pc2 := 22) rfl ic_0 ?_
    exact lu_sub [] rfl (w1_isGone_b22 X hret hT_r0 hr_r0 (0 : Int32) m)
  · refine lu_iconst X dX1_isGone_17 (pc2 := 18) rfl ic_1 ?_
    refine lu_goto (tgt := 22) X dX1_isGone_18 (by decide) ?_
    exact lu_sub [] rfl (w1_isGone_b22 X hret hT_r0 hr_r0 (1 : Int32) m)

theorem dX1_how_0 : decode cX1_how 0 = .ok (.aload_n 0, 1) := by decide +kernel
theorem dX1_how_1 : decode cX1_how 1 = .ok (.iload_n 1, 1) := by decide +kernel
theorem dX1_how_2 : decode cX1_how 2 = .ok (.invokevirtual 34, 3) := by decide +kernel
theorem dX1_how_5 : decode cX1_how 5 = .ok (.ifCond .eq 5, 3) := by decide +kernel
theorem dX1_how_8 : decode cX1_how 8 = .ok (.iconst 1, 1) := by decide +kernel
theorem dX1_how_9 : decode cX1_how 9 = .ok (.ireturn, 1) := by decide +kernel
theorem dX1_how_10 : decode cX1_how 10 = .ok (.aload_n 0, 1) := by decide +kernel
theorem dX1_how_11 : decode cX1_how 11 = .ok (.getfield 18, 3) := by decide +kernel
theorem dX1_how_14 : decode cX1_how 14 = .ok (.iload_n 1, 1) := by decide +kernel
theorem dX1_how_15 : decode cX1_how 15 = .ok (.ishr, 1) := by decide +kernel
theorem dX1_how_16 : decode cX1_how 16 = .ok (.iconst 1, 1) := by decide +kernel
theorem dX1_how_17 : decode cX1_how 17 = .ok (.iand, 1) := by decide +kernel
theorem dX1_how_18 : decode cX1_how 18 = .ok (.iconst 1, 1) := by decide +kernel
theorem dX1_how_19 : decode cX1_how 19 = .ok (.if_icmp .ne 5, 3) := by decide +kernel
theorem dX1_how_22 : decode cX1_how 22 = .ok (.iconst 2, 1) := by decide +kernel
theorem dX1_how_23 : decode cX1_how 23 = .ok (.ireturn, 1) := by decide +kernel
theorem dX1_how_24 : decode cX1_how 24 = .ok (.aload_n 0, 1) := by decide +kernel
theorem dX1_how_25 : decode cX1_how 25 = .ok (.getfield 21, 3) := by decide +kernel
theorem dX1_how_28 : decode cX1_how 28 = .ok (.iload_n 1, 1) := by decide +kernel
theorem dX1_how_29 : decode cX1_how 29 = .ok (.ishr, 1) := by decide +kernel
theorem dX1_how_30 : decode cX1_how 30 = .ok (.iconst 1, 1) := by decide +kernel
theorem dX1_how_31 : decode cX1_how 31 = .ok (.iand, 1) := by decide +kernel
theorem dX1_how_32 : decode cX1_how 32 = .ok (.iconst 1, 1) := by decide +kernel
theorem dX1_how_33 : decode cX1_how 33 = .ok (.if_icmp .ne 5, 3) := by decide +kernel
theorem dX1_how_36 : decode cX1_how 36 = .ok (.iconst 3, 1) := by decide +kernel
theorem dX1_how_37 : decode cX1_how 37 = .ok (.ireturn, 1) := by decide +kernel
theorem dX1_how_38 : decode cX1_how 38 = .ok (.aload_n 0, 1) := by decide +kernel
theorem dX1_how_39 : decode cX1_how 39 = .ok (.getfield 24, 3) := by decide +kernel
theorem dX1_how_42 : decode cX1_how 42 = .ok (.iload_n 1, 1) := by decide +kernel
theorem dX1_how_43 : decode cX1_how 43 = .ok (.ishr, 1) := by decide +kernel
theorem dX1_how_44 : decode cX1_how 44 = .ok (.iconst 1, 1) := by decide +kernel
theorem dX1_how_45 : decode cX1_how 45 = .ok (.iand, 1) := by decide +kernel
theorem dX1_how_46 : decode cX1_how 46 = .ok (.iconst 1, 1) := by decide +kernel
theorem dX1_how_47 : decode cX1_how 47 = .ok (.if_icmp .ne 7, 3) := by decide +kernel
theorem dX1_how_50 : decode cX1_how 50 = .ok (.iconst 4, 1) := by decide +kernel
theorem dX1_how_51 : decode cX1_how 51 = .ok (.goto 4, 3) := by decide +kernel
theorem dX1_how_54 : decode cX1_how 54 = .ok (.iconst 0, 1) := by decide +kernel
theorem dX1_how_55 : decode cX1_how 55 = .ok (.ireturn, 1) := by decide +kernel
def f1_how_b55  (r0 : Nat) (a1 : Int32) (s0 : Int32) (m : lu_M) : Option (Int32 × lu_M) :=
  some (s0, m)
set_option maxRecDepth 20000 in
theorem w1_how_b55  {G : lu_G} {ρ : Nat → Nat} {r0 : Nat} {a1 : Int32}  (X : lu_X G RX1 cX1_how 2 1 21) (hret : (lu_me G).sig.returnType = (some .int)) (hT_r0 : lu_TC.2 r0 = (6, 0, 0)) (hr_r0 : r0 < lu_TC.1)  : ∀ (s0 : Int32) (m : lu_M), lu_Ab lu_TC G (lu_Q lu_TC G ρ lu_RVi lu_sn) (f1_how_b55 r0 a1 s0 m) 55 [] [.int s0] ρ 0 0 [] m := by
  intro s0 m
  unfold f1_how_b55
  exact lu_iret X hret dX1_how_55
def f1_how (r0 : Nat) (a1 : Int32) (m : lu_M) : Option (Int32 × lu_M) :=
  lu_bi (f1_isStanding r0 a1 m) fun x1 m2 =>
  if x1 = 0 then (if (((m2 r0 2) >>> (a1 &&& 31)) &&& (1 : Int32)) = (1 : Int32) then (some ((2 : Int32), m2))
  else (if (((m2 r0 3) >>> (a1 &&& 31)) &&& (1 : Int32)) = (1 : Int32) then (some ((3 : Int32), m2))
  else (if (((m2 r0 4) >>> (a1 &&& 31)) &&& (1 : Int32)) = (1 : Int32) then (f1_how_b55 r0 a1 (4 : Int32) m2)
  else (f1_how_b55 r0 a1 (0 : Int32) m2))))
  else (some ((1 : Int32), m2))
set_option maxRecDepth 20000 in
theorem c1_how (l : Launch) {r0 : Nat} (hT_r0 : lu_TC.2 r0 = (6, 0, 0)) (hr_r0 : r0 < lu_TC.1) (a1 : Int32) : lu_C lu_TC l yX1_how cX1_how 2 (some .int) 1 21 (fun ρ sa => [.ref (ρ r0), .int a1]) (f1_how r0 a1) lu_RVi lu_sn := by
  refine lu_met (cls := RX1) rfl (by decide +kernel) (fun _ _ => Nat.le_of_ble_eq_true rfl) ?_
  intro G ρ m hl X hret
  subst hl
  change lu_Ab lu_TC G (lu_Q lu_TC G ρ lu_RVi lu_sn) (f1_how r0 a1 m) 0 [(0, .ref (ρ r0)), (1, .int a1)] [] ρ 0 0 [] m
  unfold f1_how
  refine lu_aload_n X dX1_how_0 (pc2 := 1) rfl rfl 0 rfl ?_
  refine lu_iload_n X dX1_how_1 (pc2 := 2) rfl rfl 1 rfl ?_
  refine lu_invVi X (c1_isStanding _ hT_r0 hr_r0 a1) rfl q545 mvV_1_isStanding hT_r0 hr_r0 (by decide) ⟨_, rfl, rfl⟩ rfl rfl (Nat.le_of_ble_eq_true rfl) (Nat.le_of_ble_eq_true rfl) (Nat.le_of_ble_eq_true rfl) ⟨Nat.zero_le _, Nat.zero_le _⟩ dX1_how_2 (pc2 := 5) rfl rfl (fun x1 m2 => ?_)
  refine lu_if_eq (tgt := 10) X dX1_how_5 (pc2 := 8) rfl (by decide) (fun _ => ?_) (fun _ => ?_)
  · refine lu_aload_n X dX1_how_10 (pc2 := 11) rfl rfl 0 rfl ?_
    refine lu_get X fl1_18 rfl hT_r0 hr_r0 dX1_how_11 (pc2 := 14) rfl ?_
    refine lu_iload_n X dX1_how_14 (pc2 := 15) rfl rfl 1 rfl ?_
    refine lu_ishr X dX1_how_15 (pc2 := 16) rfl ?_
    refine lu_iconst X dX1_how_16 (pc2 := 17) rfl ic_1 ?_
    refine lu_iand X dX1_how_17 (pc2 := 18) rfl ?_
    refine lu_iconst X dX1_how_18 (pc2 := 19) rfl ic_1 ?_
    refine lu_icmp_ne (tgt := 24) X dX1_how_19 (pc2 := 22) rfl (by decide) (fun _ => ?_) (fun _ => ?_)
    · refine lu_aload_n X dX1_how_24 (pc2 := 25) rfl rfl 0 rfl ?_
      refine lu_get X fl1_21 rfl hT_r0 hr_r0 dX1_how_25 (pc2 := 28) rfl ?_
      refine lu_iload_n X dX1_how_28 (pc2 := 29) rfl rfl 1 rfl ?_
      refine lu_ishr X dX1_how_29 (pc2 := 30) rfl ?_
      refine lu_iconst X dX1_how_30 (pc2 := 31) rfl ic_1 ?_
      refine lu_iand X dX1_how_31 (pc2 := 32) rfl ?_
      refine lu_iconst X dX1_how_32 (pc2 := 33) rfl ic_1 ?_
      refine lu_icmp_ne (tgt := 38) X dX1_how_33 (pc2 := 36) rfl (by decide) (fun _ => ?_) (fun _ => ?_)
      · refine lu_aload_n X dX1_how_38 (pc2 := 39) rfl rfl 0 rfl ?_
        refine lu_get X fl1_24 rfl hT_r0 hr_r0 dX1_how_39 (pc2 := 42) rfl ?_
        refine lu_iload_n X dX1_how_42 (pc2 := 43) rfl rfl 1 rfl ?_
        refine lu_ishr X dX1_how_43 (pc2 := 44) rfl ?_
        refine lu_iconst X dX1_how_44 (pc2 := 45) rfl ic_1 ?_
        refine lu_iand X dX1_how_45 (pc2 := 46) rfl ?_
        refine lu_iconst X dX1_how_46 (pc2 := 47) rfl ic_1 ?_
        refine lu_icmp_ne (tgt := 54) X dX1_how_47 (pc2 := 50) rfl (by decide) (fun _ => ?_) (fun _ => ?_)
        · refine lu_iconst X dX1_how_54 (pc2 := 55) rfl ic_0 ?_
          exact lu_sub [] rfl (w1_how_b55 X hret hT_r0 hr_r0 (0 : Int32) m2)
        · refine lu_iconst X dX1_how_50 (pc2 := 51) rfl ic_4 ?_
          refine lu_goto (tgt := 55) X dX1_how_51 (by decide) ?_
          exact lu_sub [] rfl (w1_how_b55 X hret hT_r0 hr_r0 (4 : Int32) m2)
      · refine lu_iconst X dX1_how_36 (pc2 := 37) rfl ic_3 ?_
        exact lu_iret X hret dX1_how_37
    · refine lu_iconst X dX1_how_22 (pc2 := 23) rfl ic_2 ?_
      exact lu_iret X hret dX1_how_23
  · refine lu_iconst X dX1_how_8 (pc2 := 9) rfl ic_1 ?_
    exact lu_iret X hret dX1_how_9

theorem dX3_term_0 : decode cX3_term 0 = .ok (.aload_n 0, 1) := by decide +kernel
theorem dX3_term_1 : decode cX3_term 1 = .ok (.getfield 18, 3) := by decide +kernel
theorem dX3_term_4 : decode cX3_term 4 = .ok (.ireturn, 1) := by decide +kernel
def f3_term (r0 : Nat) (m : lu_M) : Option (Int32 × lu_M) :=
  some ((m r0 2), m)
set_option maxRecDepth 20000 in
theorem c3_term (l : Launch) {r0 : Nat} (hT_r0 : lu_TC.2 r0 = (10, 0, 0)) (hr_r0 : r0 < lu_TC.1)  : lu_C lu_TC l yX3_term cX3_term 1 (some .int) 0 0 (fun ρ sa => [.ref (ρ r0)]) (f3_term r0) lu_RVi lu_sn := by
  refine lu_met (cls := RX3) rfl (by decide +kernel) (fun _ _ => Nat.le_of_ble_eq_true rfl) ?_
  intro G ρ m hl X hret
  subst hl
  change lu_Ab lu_TC G (lu_Q lu_TC G ρ lu_RVi lu_sn) (f3_term r0 m) 0 [(0, .ref (ρ r0))] [] ρ 0 0 [] m
  unfold f3_term
  refine lu_aload_n X dX3_term_0 (pc2 := 1) rfl rfl 0 rfl ?_
  refine lu_get X fl3_18 rfl hT_r0 hr_r0 dX3_term_1 (pc2 := 4) rfl ?_
  exact lu_iret X hret dX3_term_4

theorem dX2_term_0 : decode cX2_term 0 = .ok (.aload_n 0, 1) := by decide +kernel
theorem dX2_term_1 : decode cX2_term 1 = .ok (.invokespecial 7, 3) := by decide +kernel
theorem dX2_term_4 : decode cX2_term 4 = .ok (.iconst 2, 1) := by decide +kernel
theorem dX2_term_5 : decode cX2_term 5 = .ok (.imul, 1) := by decide +kernel
theorem dX2_term_6 : decode cX2_term 6 = .ok (.ireturn, 1) := by decide +kernel
def f2_term (r0 : Nat) (m : lu_M) : Option (Int32 × lu_M) :=
  lu_bi (f3_term r0 m) fun x1 m2 =>
  some ((x1 * (2 : Int32)), m2)
set_option maxRecDepth 20000 in
theorem c2_term (l : Launch) {r0 : Nat} (hT_r0 : lu_TC.2 r0 = (10, 0, 0)) (hr_r0 : r0 < lu_TC.1)  : lu_C lu_TC l yX2_term cX2_term 1 (some .int) 1 20 (fun ρ sa => [.ref (ρ r0)]) (f2_term r0) lu_RVi lu_sn := by
  refine lu_met (cls := RX2) rfl (by decide +kernel) (fun _ _ => Nat.le_of_ble_eq_true rfl) ?_
  intro G ρ m hl X hret
  subst hl
  change lu_Ab lu_TC G (lu_Q lu_TC G ρ lu_RVi lu_sn) (f2_term r0 m) 0 [(0, .ref (ρ r0))] [] ρ 0 0 [] m
  unfold f2_term
  refine lu_aload_n X dX2_term_0 (pc2 := 1) rfl rfl 0 rfl ?_
  refine lu_invUi X (c3_term _ hT_r0 hr_r0) rfl q511 mvU2_3_term hT_r0 hr_r0 (by decide) (by decide) rfl rfl (Nat.le_of_ble_eq_true rfl) (Nat.le_of_ble_eq_true rfl) (Nat.le_of_ble_eq_true rfl) ⟨Nat.zero_le _, Nat.zero_le _⟩ dX2_term_1 (pc2 := 4) rfl rfl (fun x1 m2 => ?_)
  refine lu_iconst X dX2_term_4 (pc2 := 5) rfl ic_2 ?_
  refine lu_imul X dX2_term_5 (pc2 := 6) rfl ?_
  exact lu_iret X hret dX2_term_6

def g2_began (r : Nat) (a1 : Int32) (m : lu_M) : Option (lu_M) := if m r 0 = 2 then f3_began r a1 m else if m r 0 = 3 then f3_began r a1 m else none
theorem v2_began {β : Type} {G : lu_G} {Q : β → State → Prop} {pc pc2 : Nat} {lv : List (Nat × Value)} {st rest : List Value} {ρ : Nat → Nat} {k n : Nat} {ex : va_W} {m : lu_M} {own : String} {cc : ByteArray} {nL fr lo index r : Nat} {a1 : Int32} {ov : Option (lu_M)} {Ko : lu_M → Option β} (X : lu_X G own cc nL fr lo) (ml : Cond.methodLink own index ⟨RX2, "began", "(I)V"⟩ ∈ lu_ws) (hT : lu_TC.2 r = (10, 0, 0)) (hr : r < lu_TC.1) (hf : g2_began r a1 m = ov) (hroom : (rest.map fun v => v.category).sum ≤ 8) (hfr : 0 + 1 ≤ fr) (hlo : 8 + (0 + 11) + 2 ≤ lo) (hk : k ≤ (lu_R G).cells ∧ n ≤ (lu_R G).slots) (d : decode cc pc = .ok (.invokevirtual index, 3)) (hp : pc + 3 = pc2) (hst : st = [.int a1].reverse ++ .ref (ρ r) :: rest) (kk : ∀ (m9 : lu_M), lu_Ab lu_TC G Q (Ko m9) pc2 lv rest ρ k n ex m9) : lu_Ab lu_TC G Q (lu_bv ov Ko) pc lv st ρ k n ex m := by
  subst hf
  unfold g2_began
  by_cases h2 : m r 0 = 2
  · rw [if_pos h2]
    exact lu_invOv X (c3_began _ hT hr a1) rfl ml mvO_2_2_began_3_began hT hr (by decide) ⟨(RX2, TX2, 6), by rw [h2]; rfl, rfl⟩ rfl rfl hroom (Nat.le_trans (Nat.le_of_ble_eq_true rfl) hfr) (Nat.le_trans (Nat.le_of_ble_eq_true rfl) hlo) hk d hp hst kk
  rw [if_neg h2]
  by_cases h3 : m r 0 = 3
  · rw [if_pos h3]
    exact lu_invOv X (c3_began _ hT hr a1) rfl ml mvO_9_2_began_3_began hT hr (by decide) ⟨(RX9, TX9, 6), by rw [h3]; rfl, rfl⟩ rfl rfl hroom (Nat.le_trans (Nat.le_of_ble_eq_true rfl) hfr) (Nat.le_trans (Nat.le_of_ble_eq_true rfl) hlo) hk d hp hst kk
  rw [if_neg h3]
  exact lu_none

def g9_began (r : Nat) (a1 : Int32) (m : lu_M) : Option (lu_M) := if m r 0 = 3 then f3_began r a1 m else none
theorem v9_began {β : Type} {G : lu_G} {Q : β → State → Prop} {pc pc2 : Nat} {lv : List (Nat × Value)} {st rest : List Value} {ρ : Nat → Nat} {k n : Nat} {ex : va_W} {m : lu_M} {own : String} {cc : ByteArray} {nL fr lo index r : Nat} {a1 : Int32} {ov : Option (lu_M)} {Ko : lu_M → Option β} (X : lu_X G own cc nL fr lo) (ml : Cond.methodLink own index ⟨RX9, "began", "(I)V"⟩ ∈ lu_ws) (hT : lu_TC.2 r = (10, 0, 0)) (hr : r < lu_TC.1) (hf : g9_began r a1 m = ov) (hroom : (rest.map fun v => v.category).sum ≤ 8) (hfr : 0 + 1 ≤ fr) (hlo : 8 + (0 + 11) + 2 ≤ lo) (hk : k ≤ (lu_R G).cells ∧ n ≤ (lu_R G).slots) (d : decode cc pc = .ok (.invokevirtual index, 3)) (hp : pc + 3 = pc2) (hst : st = [.int a1].reverse ++ .ref (ρ r) :: rest) (kk : ∀ (m9 : lu_M), lu_Ab lu_TC G Q (Ko m9) pc2 lv rest ρ k n ex m9) : lu_Ab lu_TC G Q (lu_bv ov Ko) pc lv st ρ k n ex m := by
  subst hf
  unfold g9_began
  by_cases h3 : m r 0 = 3
  · rw [if_pos h3]
    exact lu_invOv X (c3_began _ hT hr a1) rfl ml mvO_9_9_began_3_began hT hr (by decide) ⟨(RX9, TX9, 6), by rw [h3]; rfl, rfl⟩ rfl rfl hroom (Nat.le_trans (Nat.le_of_ble_eq_true rfl) hfr) (Nat.le_trans (Nat.le_of_ble_eq_true rfl) hlo) hk d hp hst kk
  rw [if_neg h3]
  exact lu_none

theorem dX9_gives_0 : decode cX9_gives 0 = .ok (.aload_n 0, 1) := by decide +kernel
theorem dX9_gives_1 : decode cX9_gives 1 = .ok (.bipush 50, 2) := by decide +kernel
theorem dX9_gives_3 : decode cX9_gives 3 = .ok (.invokevirtual 15, 3) := by decide +kernel
theorem dX9_gives_6 : decode cX9_gives 6 = .ok (.aload_n 0, 1) := by decide +kernel
theorem dX9_gives_7 : decode cX9_gives 7 = .ok (.iload_n 1, 1) := by decide +kernel
theorem dX9_gives_8 : decode cX9_gives 8 = .ok (.invokespecial 21, 3) := by decide +kernel
theorem dX9_gives_11 : decode cX9_gives 11 = .ok (.iconst 3, 1) := by decide +kernel
theorem dX9_gives_12 : decode cX9_gives 12 = .ok (.imul, 1) := by decide +kernel
theorem dX9_gives_13 : decode cX9_gives 13 = .ok (.ireturn, 1) := by decide +kernel
def f9_gives (r0 : Nat) (a1 : Int32) (m : lu_M) : Option (Int32 × lu_M) :=
  lu_bv (g9_began r0 (50 : Int32) m) fun m1 =>
  lu_bi (f3_gives r0 a1 m1) fun x2 m3 =>
  some ((x2 * (3 : Int32)), m3)
set_option maxRecDepth 20000 in
theorem c9_gives (l : Launch) {r0 : Nat} (hT_r0 : lu_TC.2 r0 = (10, 0, 0)) (hr_r0 : r0 < lu_TC.1) (a1 : Int32) : lu_C lu_TC l yX9_gives cX9_gives 2 (some .int) 2 42 (fun ρ sa => [.ref (ρ r0), .int a1]) (f9_gives r0 a1) lu_RVi lu_sn := by
  refine lu_met (cls := RX9) rfl (by decide +kernel) (fun _ _ => Nat.le_of_ble_eq_true rfl) ?_
  intro G ρ m hl X hret
  subst hl
  change lu_Ab lu_TC G (lu_Q lu_TC G ρ lu_RVi lu_sn) (f9_gives r0 a1 m) 0 [(0, .ref (ρ r0)), (1, .int a1)] [] ρ 0 0 [] m
  unfold f9_gives
  refine lu_aload_n X dX9_gives_0 (pc2 := 1) rfl rfl 0 rfl ?_
  refine lu_bipush X dX9_gives_1 (pc2 := 3) rfl bp_50 ?_
  refine v9_began X q1017 hT_r0 hr_r0 rfl (Nat.le_of_ble_eq_true rfl) (Nat.le_of_ble_eq_true rfl) (Nat.le_of_ble_eq_true rfl) ⟨Nat.zero_le _, Nat.zero_le _⟩ dX9_gives_3 (pc2 := 6) rfl rfl (fun m1 => ?_)
  refine lu_aload_n X dX9_gives_6 (pc2 := 7) rfl rfl 0 rfl ?_
  refine lu_iload_n X dX9_gives_7 (pc2 := 8) rfl rfl 1 rfl ?_
  refine lu_invPi X (c3_gives _ hT_r0 hr_r0 a1) rfl q1020 mvP9_2_gives hT_r0 hr_r0 (by decide) (by decide) rfl rfl (Nat.le_of_ble_eq_true rfl) (Nat.le_of_ble_eq_true rfl) (Nat.le_of_ble_eq_true rfl) ⟨Nat.zero_le _, Nat.zero_le _⟩ dX9_gives_8 (pc2 := 11) rfl rfl (fun x2 m3 => ?_)
  refine lu_iconst X dX9_gives_11 (pc2 := 12) rfl ic_3 ?_
  refine lu_imul X dX9_gives_12 (pc2 := 13) rfl ?_
  exact lu_iret X hret dX9_gives_13

def g3_gives (r : Nat) (a1 : Int32) (m : lu_M) : Option (Int32 × lu_M) := if m r 0 = 1 then f0_gives r a1 m else if m r 0 = 2 then f3_gives r a1 m else if m r 0 = 3 then f9_gives r a1 m else if m r 0 = 4 then f3_gives r a1 m else if m r 0 = 5 then f3_gives r a1 m else f3_gives r a1 m
theorem v3_gives {β : Type} {G : lu_G} {Q : β → State → Prop} {pc pc2 : Nat} {lv : List (Nat × Value)} {st rest : List Value} {ρ : Nat → Nat} {k n : Nat} {ex : va_W} {m : lu_M} {own : String} {cc : ByteArray} {nL fr lo index r : Nat} {a1 : Int32} {ov : Option (Int32 × lu_M)} {Ko : Int32 → lu_M → Option β} (X : lu_X G own cc nL fr lo) (ml : Cond.methodLink own index yX3_gives ∈ lu_ws) (hT : lu_TC.2 r = (10, 0, 0)) (hr : r < lu_TC.1) (hf : g3_gives r a1 m = ov) (hroom : (rest.map fun v => v.category).sum ≤ 8) (hfr : 2 + 1 ≤ fr) (hlo : 8 + (0 + 11) + 44 ≤ lo) (hk : k ≤ (lu_R G).cells ∧ n ≤ (lu_R G).slots) (d : decode cc pc = .ok (.invokevirtual index, 3)) (hp : pc + 3 = pc2) (hst : st = [.int a1].reverse ++ .ref (ρ r) :: rest) (kk : ∀ (x : Int32) (m9 : lu_M), lu_Ab lu_TC G Q (Ko x m9) pc2 lv (.int x :: rest) ρ k n ex m9) : lu_Ab lu_TC G Q (lu_bi ov Ko) pc lv st ρ k n ex m := by
  subst hf
  unfold g3_gives
  by_cases h1 : m r 0 = 1
  · rw [if_pos h1]
    exact lu_invOi X (c0_gives _ hT hr a1) rfl ml mvO_0_3_gives_0_gives hT hr (by decide) ⟨(RX0, TX0, 6), by rw [h1]; rfl, rfl⟩ rfl rfl hroom (Nat.le_trans (Nat.le_of_ble_eq_true rfl) hfr) (Nat.le_trans (Nat.le_of_ble_eq_true rfl) hlo) hk d hp hst kk
  rw [if_neg h1]
  by_cases h2 : m r 0 = 2
  · rw [if_pos h2]
    exact lu_invOi X (c3_gives _ hT hr a1) rfl ml mvO_2_3_gives_3_gives hT hr (by decide) ⟨(RX2, TX2, 6), by rw [h2]; rfl, rfl⟩ rfl rfl hroom (Nat.le_trans (Nat.le_of_ble_eq_true rfl) hfr) (Nat.le_trans (Nat.le_of_ble_eq_true rfl) hlo) hk d hp hst kk
  rw [if_neg h2]
  by_cases h3 : m r 0 = 3
  · rw [if_pos h3]
    exact lu_invOi X (c9_gives _ hT hr a1) rfl ml mvO_9_3_gives_9_gives hT hr (by decide) ⟨(RX9, TX9, 6), by rw [h3]; rfl, rfl⟩ rfl rfl hroom (Nat.le_trans (Nat.le_of_ble_eq_true rfl) hfr) (Nat.le_trans (Nat.le_of_ble_eq_true rfl) hlo) hk d hp hst kk
  rw [if_neg h3]
  by_cases h4 : m r 0 = 4
  · rw [if_pos h4]
    exact lu_invOi X (c3_gives _ hT hr a1) rfl ml mvO_7_3_gives_3_gives hT hr (by decide) ⟨(RX7, TX7, 6), by rw [h4]; rfl, rfl⟩ rfl rfl hroom (Nat.le_trans (Nat.le_of_ble_eq_true rfl) hfr) (Nat.le_trans (Nat.le_of_ble_eq_true rfl) hlo) hk d hp hst kk
  rw [if_neg h4]
  by_cases h5 : m r 0 = 5
  · rw [if_pos h5]
    exact lu_invOi X (c3_gives _ hT hr a1) rfl ml mvO_4_3_gives_3_gives hT hr (by decide) ⟨(RX4, TX4, 6), by rw [h5]; rfl, rfl⟩ rfl rfl hroom (Nat.le_trans (Nat.le_of_ble_eq_true rfl) hfr) (Nat.le_trans (Nat.le_of_ble_eq_true rfl) hlo) hk d hp hst kk
  rw [if_neg h5]
  exact lu_invOi X (c3_gives _ hT hr a1) rfl ml mvO_3_3_gives_3_gives hT hr (by decide) ⟨(RX3, TX3, 6), by show lu_cl[lu_hk (m r 0)]? = _; unfold lu_hk; rw [if_neg h1, if_neg h2, if_neg h3, if_neg h4, if_neg h5]; rfl, rfl⟩ rfl rfl hroom (Nat.le_trans (Nat.le_of_ble_eq_true rfl) hfr) (Nat.le_trans (Nat.le_of_ble_eq_true rfl) hlo) hk d hp hst kk

theorem dX3_takes_0 : decode cX3_takes 0 = .ok (.aload_n 0, 1) := by decide +kernel
theorem dX3_takes_1 : decode cX3_takes 1 = .ok (.bipush 11, 2) := by decide +kernel
theorem dX3_takes_3 : decode cX3_takes 3 = .ok (.invokevirtual 28, 3) := by decide +kernel
theorem dX3_takes_6 : decode cX3_takes 6 = .ok (.aload_n 0, 1) := by decide +kernel
theorem dX3_takes_7 : decode cX3_takes 7 = .ok (.iload_n 1, 1) := by decide +kernel
theorem dX3_takes_8 : decode cX3_takes 8 = .ok (.invokevirtual 32, 3) := by decide +kernel
theorem dX3_takes_11 : decode cX3_takes 11 = .ok (.iconst 2, 1) := by decide +kernel
theorem dX3_takes_12 : decode cX3_takes 12 = .ok (.imul, 1) := by decide +kernel
theorem dX3_takes_13 : decode cX3_takes 13 = .ok (.ireturn, 1) := by decide +kernel
def f3_takes (r0 : Nat) (a1 : Int32) (m : lu_M) : Option (Int32 × lu_M) :=
  lu_bv (g3_began r0 (11 : Int32) m) fun m1 =>
  lu_bi (g3_gives r0 a1 m1) fun x2 m3 =>
  some ((x2 * (2 : Int32)), m3)
set_option maxRecDepth 20000 in
theorem c3_takes (l : Launch) {r0 : Nat} (hT_r0 : lu_TC.2 r0 = (10, 0, 0)) (hr_r0 : r0 < lu_TC.1) (a1 : Int32) : lu_C lu_TC l yX3_takes cX3_takes 2 (some .int) 3 63 (fun ρ sa => [.ref (ρ r0), .int a1]) (f3_takes r0 a1) lu_RVi lu_sn := by
  refine lu_met (cls := RX3) rfl (by decide +kernel) (fun _ _ => Nat.le_of_ble_eq_true rfl) ?_
  intro G ρ m hl X hret
  subst hl
  change lu_Ab lu_TC G (lu_Q lu_TC G ρ lu_RVi lu_sn) (f3_takes r0 a1 m) 0 [(0, .ref (ρ r0)), (1, .int a1)] [] ρ 0 0 [] m
  unfold f3_takes
  refine lu_aload_n X dX3_takes_0 (pc2 := 1) rfl rfl 0 rfl ?_
  refine lu_bipush X dX3_takes_1 (pc2 := 3) rfl bp_11 ?_
  refine v3_began X q1024 hT_r0 hr_r0 rfl (Nat.le_of_ble_eq_true rfl) (Nat.le_of_ble_eq_true rfl) (Nat.le_of_ble_eq_true rfl) ⟨Nat.zero_le _, Nat.zero_le _⟩ dX3_takes_3 (pc2 := 6) rfl rfl (fun m1 => ?_)
  refine lu_aload_n X dX3_takes_6 (pc2 := 7) rfl rfl 0 rfl ?_
  refine lu_iload_n X dX3_takes_7 (pc2 := 8) rfl rfl 1 rfl ?_
  refine v3_gives X q1050 hT_r0 hr_r0 rfl (Nat.le_of_ble_eq_true rfl) (Nat.le_of_ble_eq_true rfl) (Nat.le_of_ble_eq_true rfl) ⟨Nat.zero_le _, Nat.zero_le _⟩ dX3_takes_8 (pc2 := 11) rfl rfl (fun x2 m3 => ?_)
  refine lu_iconst X dX3_takes_11 (pc2 := 12) rfl ic_2 ?_
  refine lu_imul X dX3_takes_12 (pc2 := 13) rfl ?_
  exact lu_iret X hret dX3_takes_13

theorem dX2_takes_0 : decode cX2_takes 0 = .ok (.aload_n 0, 1) := by decide +kernel
theorem dX2_takes_1 : decode cX2_takes 1 = .ok (.bipush 30, 2) := by decide +kernel
theorem dX2_takes_3 : decode cX2_takes 3 = .ok (.invokevirtual 11, 3) := by decide +kernel
theorem dX2_takes_6 : decode cX2_takes 6 = .ok (.iconst 0, 1) := by decide +kernel
theorem dX2_takes_7 : decode cX2_takes 7 = .ok (.aload_n 0, 1) := by decide +kernel
theorem dX2_takes_8 : decode cX2_takes 8 = .ok (.iload_n 1, 1) := by decide +kernel
theorem dX2_takes_9 : decode cX2_takes 9 = .ok (.invokespecial 17, 3) := by decide +kernel
theorem dX2_takes_12 : decode cX2_takes 12 = .ok (.isub, 1) := by decide +kernel
theorem dX2_takes_13 : decode cX2_takes 13 = .ok (.ireturn, 1) := by decide +kernel
def f2_takes (r0 : Nat) (a1 : Int32) (m : lu_M) : Option (Int32 × lu_M) :=
  lu_bv (g2_began r0 (30 : Int32) m) fun m1 =>
  lu_bi (f3_takes r0 a1 m1) fun x2 m3 =>
  some (((0 : Int32) - x2), m3)
set_option maxRecDepth 20000 in
theorem c2_takes (l : Launch) {r0 : Nat} (hT_r0 : lu_TC.2 r0 = (10, 0, 0)) (hr_r0 : r0 < lu_TC.1) (a1 : Int32) : lu_C lu_TC l yX2_takes cX2_takes 2 (some .int) 4 84 (fun ρ sa => [.ref (ρ r0), .int a1]) (f2_takes r0 a1) lu_RVi lu_sn := by
  refine lu_met (cls := RX2) rfl (by decide +kernel) (fun _ _ => Nat.le_of_ble_eq_true rfl) ?_
  intro G ρ m hl X hret
  subst hl
  change lu_Ab lu_TC G (lu_Q lu_TC G ρ lu_RVi lu_sn) (f2_takes r0 a1 m) 0 [(0, .ref (ρ r0)), (1, .int a1)] [] ρ 0 0 [] m
  unfold f2_takes
  refine lu_aload_n X dX2_takes_0 (pc2 := 1) rfl rfl 0 rfl ?_
  refine lu_bipush X dX2_takes_1 (pc2 := 3) rfl bp_30 ?_
  refine v2_began X q1033 hT_r0 hr_r0 rfl (Nat.le_of_ble_eq_true rfl) (Nat.le_of_ble_eq_true rfl) (Nat.le_of_ble_eq_true rfl) ⟨Nat.zero_le _, Nat.zero_le _⟩ dX2_takes_3 (pc2 := 6) rfl rfl (fun m1 => ?_)
  refine lu_iconst X dX2_takes_6 (pc2 := 7) rfl ic_0 ?_
  refine lu_aload_n X dX2_takes_7 (pc2 := 8) rfl rfl 0 rfl ?_
  refine lu_iload_n X dX2_takes_8 (pc2 := 9) rfl rfl 1 rfl ?_
  refine lu_invUi X (c3_takes _ hT_r0 hr_r0 a1) rfl q1037 mvU2_3_takes hT_r0 hr_r0 (by decide) (by decide) rfl rfl (Nat.le_of_ble_eq_true rfl) (Nat.le_of_ble_eq_true rfl) (Nat.le_of_ble_eq_true rfl) ⟨Nat.zero_le _, Nat.zero_le _⟩ dX2_takes_9 (pc2 := 12) rfl rfl (fun x2 m3 => ?_)
  refine lu_isub X dX2_takes_12 (pc2 := 13) rfl ?_
  exact lu_iret X hret dX2_takes_13

theorem dX3_splits_0 : decode cX3_splits 0 = .ok (.aload_n 0, 1) := by decide +kernel
theorem dX3_splits_1 : decode cX3_splits 1 = .ok (.bipush 12, 2) := by decide +kernel
theorem dX3_splits_3 : decode cX3_splits 3 = .ok (.invokevirtual 28, 3) := by decide +kernel
theorem dX3_splits_6 : decode cX3_splits 6 = .ok (.aload_n 0, 1) := by decide +kernel
theorem dX3_splits_7 : decode cX3_splits 7 = .ok (.getfield 18, 3) := by decide +kernel
theorem dX3_splits_10 : decode cX3_splits 10 = .ok (.aload_n 0, 1) := by decide +kernel
theorem dX3_splits_11 : decode cX3_splits 11 = .ok (.getfield 15, 3) := by decide +kernel
theorem dX3_splits_14 : decode cX3_splits 14 = .ok (.isub, 1) := by decide +kernel
theorem dX3_splits_15 : decode cX3_splits 15 = .ok (.istore_n 2, 1) := by decide +kernel
theorem dX3_splits_16 : decode cX3_splits 16 = .ok (.iload_n 2, 1) := by decide +kernel
theorem dX3_splits_17 : decode cX3_splits 17 = .ok (.ifCond .ne 10, 3) := by decide +kernel
theorem dX3_splits_20 : decode cX3_splits 20 = .ok (.aload_n 0, 1) := by decide +kernel
theorem dX3_splits_21 : decode cX3_splits 21 = .ok (.iconst 1, 1) := by decide +kernel
theorem dX3_splits_22 : decode cX3_splits 22 = .ok (.putfield 36, 3) := by decide +kernel
theorem dX3_splits_25 : decode cX3_splits 25 = .ok (.iconst 0, 1) := by decide +kernel
theorem dX3_splits_26 : decode cX3_splits 26 = .ok (.ireturn, 1) := by decide +kernel
theorem dX3_splits_27 : decode cX3_splits 27 = .ok (.iload_n 1, 1) := by decide +kernel
theorem dX3_splits_28 : decode cX3_splits 28 = .ok (.iload_n 2, 1) := by decide +kernel
theorem dX3_splits_29 : decode cX3_splits 29 = .ok (.irem, 1) := by decide +kernel
theorem dX3_splits_30 : decode cX3_splits 30 = .ok (.ireturn, 1) := by decide +kernel
def f3_splits (r0 : Nat) (a1 : Int32) (m : lu_M) : Option (Int32 × lu_M) :=
  lu_bv (g3_began r0 (12 : Int32) m) fun m1 =>
  lu_nm (((m1 r0 2) - (m1 r0 1))) fun x2 =>
  if x2 = 0 then (lu_nm (lu_st m1 r0 4 (1 : Int32)) fun m3 =>
  some ((0 : Int32), m3))
  else (lu_gd (decide (¬ x2 = 0)) <|
  some ((a1 - a1 / x2 * x2), m1))
set_option maxRecDepth 20000 in
theorem c3_splits (l : Launch) {r0 : Nat} (hT_r0 : lu_TC.2 r0 = (10, 0, 0)) (hr_r0 : r0 < lu_TC.1) (a1 : Int32) : lu_C lu_TC l yX3_splits cX3_splits 3 (some .int) 1 21 (fun ρ sa => [.ref (ρ r0), .int a1]) (f3_splits r0 a1) lu_RVi lu_sn := by
  refine lu_met (cls := RX3) rfl (by decide +kernel) (fun _ _ => Nat.le_of_ble_eq_true rfl) ?_
  intro G ρ m hl X hret
  subst hl
  change lu_Ab lu_TC G (lu_Q lu_TC G ρ lu_RVi lu_sn) (f3_splits r0 a1 m) 0 [(0, .ref (ρ r0)), (1, .int a1)] [] ρ 0 0 [] m
  unfold f3_splits
  refine lu_aload_n X dX3_splits_0 (pc2 := 1) rfl rfl 0 rfl ?_
  refine lu_bipush X dX3_splits_1 (pc2 := 3) rfl bp_12 ?_
  refine v3_began X q1024 hT_r0 hr_r0 rfl (Nat.le_of_ble_eq_true rfl) (Nat.le_of_ble_eq_true rfl) (Nat.le_of_ble_eq_true rfl) ⟨Nat.zero_le _, Nat.zero_le _⟩ dX3_splits_3 (pc2 := 6) rfl rfl (fun m1 => ?_)
  refine lu_aload_n X dX3_splits_6 (pc2 := 7) rfl rfl 0 rfl ?_
  refine lu_get X fl3_18 rfl hT_r0 hr_r0 dX3_splits_7 (pc2 := 10) rfl ?_
  refine lu_aload_n X dX3_splits_10 (pc2 := 11) rfl rfl 0 rfl ?_
  refine lu_get X fl3_15 rfl hT_r0 hr_r0 dX3_splits_11 (pc2 := 14) rfl ?_
  refine lu_isub X dX3_splits_14 (pc2 := 15) rfl ?_
  refine lu_topi (fun x2 => ?_)
  refine lu_istore_n (lv2 := [(2, .int x2), (0, .ref (ρ r0)), (1, .int a1)]) X dX3_splits_15 (pc2 := 16) rfl rfl (by decide) rfl ?_
  refine lu_iload_n X dX3_splits_16 (pc2 := 17) rfl rfl 0 rfl ?_
  refine lu_if_ne (tgt := 27) X dX3_splits_17 (pc2 := 20) rfl (by decide) (fun _ => ?_) (fun _ => ?_)
  · refine lu_iload_n X dX3_splits_27 (pc2 := 28) rfl rfl 2 rfl ?_
    refine lu_iload_n X dX3_splits_28 (pc2 := 29) rfl rfl 0 rfl ?_
    refine lu_irem X dX3_splits_29 (pc2 := 30) rfl ?_
    exact lu_iret X hret dX3_splits_30
  · refine lu_aload_n X dX3_splits_20 (pc2 := 21) rfl rfl 1 rfl ?_
    refine lu_iconst X dX3_splits_21 (pc2 := 22) rfl ic_1 ?_
    refine lu_putzK X (by decide) fl3_36 rfl (Or.inr (by decide)) rfl (by decide +kernel) hT_r0 hr_r0 dX3_splits_22 (pc2 := 25) rfl (fun m3 => ?_)
    refine lu_iconst X dX3_splits_25 (pc2 := 26) rfl ic_0 ?_
    exact lu_iret X hret dX3_splits_26

def g4_began (r : Nat) (a1 : Int32) (m : lu_M) : Option (lu_M) := if m r 0 = 5 then f3_began r a1 m else none
theorem v4_began {β : Type} {G : lu_G} {Q : β → State → Prop} {pc pc2 : Nat} {lv : List (Nat × Value)} {st rest : List Value} {ρ : Nat → Nat} {k n : Nat} {ex : va_W} {m : lu_M} {own : String} {cc : ByteArray} {nL fr lo index r : Nat} {a1 : Int32} {ov : Option (lu_M)} {Ko : lu_M → Option β} (X : lu_X G own cc nL fr lo) (ml : Cond.methodLink own index ⟨RX4, "began", "(I)V"⟩ ∈ lu_ws) (hT : lu_TC.2 r = (10, 0, 0)) (hr : r < lu_TC.1) (hf : g4_began r a1 m = ov) (hroom : (rest.map fun v => v.category).sum ≤ 8) (hfr : 0 + 1 ≤ fr) (hlo : 8 + (0 + 11) + 2 ≤ lo) (hk : k ≤ (lu_R G).cells ∧ n ≤ (lu_R G).slots) (d : decode cc pc = .ok (.invokevirtual index, 3)) (hp : pc + 3 = pc2) (hst : st = [.int a1].reverse ++ .ref (ρ r) :: rest) (kk : ∀ (m9 : lu_M), lu_Ab lu_TC G Q (Ko m9) pc2 lv rest ρ k n ex m9) : lu_Ab lu_TC G Q (lu_bv ov Ko) pc lv st ρ k n ex m := by
  subst hf
  unfold g4_began
  by_cases h5 : m r 0 = 5
  · rw [if_pos h5]
    exact lu_invOv X (c3_began _ hT hr a1) rfl ml mvO_4_4_began_3_began hT hr (by decide) ⟨(RX4, TX4, 6), by rw [h5]; rfl, rfl⟩ rfl rfl hroom (Nat.le_trans (Nat.le_of_ble_eq_true rfl) hfr) (Nat.le_trans (Nat.le_of_ble_eq_true rfl) hlo) hk d hp hst kk
  rw [if_neg h5]
  exact lu_none

theorem dX4_takes_0 : decode cX4_takes 0 = .ok (.aload_n 0, 1) := by decide +kernel
theorem dX4_takes_1 : decode cX4_takes 1 = .ok (.bipush 60, 2) := by decide +kernel
theorem dX4_takes_3 : decode cX4_takes 3 = .ok (.invokevirtual 15, 3) := by decide +kernel
theorem dX4_takes_6 : decode cX4_takes 6 = .ok (.aload_n 0, 1) := by decide +kernel
theorem dX4_takes_7 : decode cX4_takes 7 = .ok (.iload_n 1, 1) := by decide +kernel
theorem dX4_takes_8 : decode cX4_takes 8 = .ok (.invokespecial 21, 3) := by decide +kernel
theorem dX4_takes_11 : decode cX4_takes 11 = .ok (.aload_n 0, 1) := by decide +kernel
theorem dX4_takes_12 : decode cX4_takes 12 = .ok (.getfield 24, 3) := by decide +kernel
theorem dX4_takes_15 : decode cX4_takes 15 = .ok (.ixor, 1) := by decide +kernel
theorem dX4_takes_16 : decode cX4_takes 16 = .ok (.ireturn, 1) := by decide +kernel
def f4_takes (r0 : Nat) (a1 : Int32) (m : lu_M) : Option (Int32 × lu_M) :=
  lu_bv (g4_began r0 (60 : Int32) m) fun m1 =>
  lu_bi (f3_takes r0 a1 m1) fun x2 m3 =>
  some ((x2 ^^^ (m3 r0 2)), m3)
set_option maxRecDepth 20000 in
theorem c4_takes (l : Launch) {r0 : Nat} (hT_r0 : lu_TC.2 r0 = (10, 0, 0)) (hr_r0 : r0 < lu_TC.1) (a1 : Int32) : lu_C lu_TC l yX4_takes cX4_takes 2 (some .int) 4 84 (fun ρ sa => [.ref (ρ r0), .int a1]) (f4_takes r0 a1) lu_RVi lu_sn := by
  refine lu_met (cls := RX4) rfl (by decide +kernel) (fun _ _ => Nat.le_of_ble_eq_true rfl) ?_
  intro G ρ m hl X hret
  subst hl
  change lu_Ab lu_TC G (lu_Q lu_TC G ρ lu_RVi lu_sn) (f4_takes r0 a1 m) 0 [(0, .ref (ρ r0)), (1, .int a1)] [] ρ 0 0 [] m
  unfold f4_takes
  refine lu_aload_n X dX4_takes_0 (pc2 := 1) rfl rfl 0 rfl ?_
  refine lu_bipush X dX4_takes_1 (pc2 := 3) rfl bp_60 ?_
  refine v4_began X q1041 hT_r0 hr_r0 rfl (Nat.le_of_ble_eq_true rfl) (Nat.le_of_ble_eq_true rfl) (Nat.le_of_ble_eq_true rfl) ⟨Nat.zero_le _, Nat.zero_le _⟩ dX4_takes_3 (pc2 := 6) rfl rfl (fun m1 => ?_)
  refine lu_aload_n X dX4_takes_6 (pc2 := 7) rfl rfl 0 rfl ?_
  refine lu_iload_n X dX4_takes_7 (pc2 := 8) rfl rfl 1 rfl ?_
  refine lu_invPi X (c3_takes _ hT_r0 hr_r0 a1) rfl q1044 mvP4_7_takes hT_r0 hr_r0 (by decide) (by decide) rfl rfl (Nat.le_of_ble_eq_true rfl) (Nat.le_of_ble_eq_true rfl) (Nat.le_of_ble_eq_true rfl) ⟨Nat.zero_le _, Nat.zero_le _⟩ dX4_takes_8 (pc2 := 11) rfl rfl (fun x2 m3 => ?_)
  refine lu_aload_n X dX4_takes_11 (pc2 := 12) rfl rfl 0 rfl ?_
  refine lu_get X fl4_24 rfl hT_r0 hr_r0 dX4_takes_12 (pc2 := 15) rfl ?_
  refine lu_ixor X dX4_takes_15 (pc2 := 16) rfl ?_
  exact lu_iret X hret dX4_takes_16

def g3_takes (r : Nat) (a1 : Int32) (m : lu_M) : Option (Int32 × lu_M) := if m r 0 = 1 then f3_takes r a1 m else if m r 0 = 2 then f2_takes r a1 m else if m r 0 = 3 then f2_takes r a1 m else if m r 0 = 4 then f3_takes r a1 m else if m r 0 = 5 then f4_takes r a1 m else f3_takes r a1 m
theorem v3_takes {β : Type} {G : lu_G} {Q : β → State → Prop} {pc pc2 : Nat} {lv : List (Nat × Value)} {st rest : List Value} {ρ : Nat → Nat} {k n : Nat} {ex : va_W} {m : lu_M} {own : String} {cc : ByteArray} {nL fr lo index r : Nat} {a1 : Int32} {ov : Option (Int32 × lu_M)} {Ko : Int32 → lu_M → Option β} (X : lu_X G own cc nL fr lo) (ml : Cond.methodLink own index yX3_takes ∈ lu_ws) (hT : lu_TC.2 r = (10, 0, 0)) (hr : r < lu_TC.1) (hf : g3_takes r a1 m = ov) (hroom : (rest.map fun v => v.category).sum ≤ 8) (hfr : 4 + 1 ≤ fr) (hlo : 8 + (0 + 11) + 86 ≤ lo) (hk : k ≤ (lu_R G).cells ∧ n ≤ (lu_R G).slots) (d : decode cc pc = .ok (.invokevirtual index, 3)) (hp : pc + 3 = pc2) (hst : st = [.int a1].reverse ++ .ref (ρ r) :: rest) (kk : ∀ (x : Int32) (m9 : lu_M), lu_Ab lu_TC G Q (Ko x m9) pc2 lv (.int x :: rest) ρ k n ex m9) : lu_Ab lu_TC G Q (lu_bi ov Ko) pc lv st ρ k n ex m := by
  subst hf
  unfold g3_takes
  by_cases h1 : m r 0 = 1
  · rw [if_pos h1]
    exact lu_invOi X (c3_takes _ hT hr a1) rfl ml mvO_0_3_takes_3_takes hT hr (by decide) ⟨(RX0, TX0, 6), by rw [h1]; rfl, rfl⟩ rfl rfl hroom (Nat.le_trans (Nat.le_of_ble_eq_true rfl) hfr) (Nat.le_trans (Nat.le_of_ble_eq_true rfl) hlo) hk d hp hst kk
  rw [if_neg h1]
  by_cases h2 : m r 0 = 2
  · rw [if_pos h2]
    exact lu_invOi X (c2_takes _ hT hr a1) rfl ml mvO_2_3_takes_2_takes hT hr (by decide) ⟨(RX2, TX2, 6), by rw [h2]; rfl, rfl⟩ rfl rfl hroom (Nat.le_trans (Nat.le_of_ble_eq_true rfl) hfr) (Nat.le_trans (Nat.le_of_ble_eq_true rfl) hlo) hk d hp hst kk
  rw [if_neg h2]
  by_cases h3 : m r 0 = 3
  · rw [if_pos h3]
    exact lu_invOi X (c2_takes _ hT hr a1) rfl ml mvO_9_3_takes_2_takes hT hr (by decide) ⟨(RX9, TX9, 6), by rw [h3]; rfl, rfl⟩ rfl rfl hroom (Nat.le_trans (Nat.le_of_ble_eq_true rfl) hfr) (Nat.le_trans (Nat.le_of_ble_eq_true rfl) hlo) hk d hp hst kk
  rw [if_neg h3]
  by_cases h4 : m r 0 = 4
  · rw [if_pos h4]
    exact lu_invOi X (c3_takes _ hT hr a1) rfl ml mvO_7_3_takes_3_takes hT hr (by decide) ⟨(RX7, TX7, 6), by rw [h4]; rfl, rfl⟩ rfl rfl hroom (Nat.le_trans (Nat.le_of_ble_eq_true rfl) hfr) (Nat.le_trans (Nat.le_of_ble_eq_true rfl) hlo) hk d hp hst kk
  rw [if_neg h4]
  by_cases h5 : m r 0 = 5
  · rw [if_pos h5]
    exact lu_invOi X (c4_takes _ hT hr a1) rfl ml mvO_4_3_takes_4_takes hT hr (by decide) ⟨(RX4, TX4, 6), by rw [h5]; rfl, rfl⟩ rfl rfl hroom (Nat.le_trans (Nat.le_of_ble_eq_true rfl) hfr) (Nat.le_trans (Nat.le_of_ble_eq_true rfl) hlo) hk d hp hst kk
  rw [if_neg h5]
  exact lu_invOi X (c3_takes _ hT hr a1) rfl ml mvO_3_3_takes_3_takes hT hr (by decide) ⟨(RX3, TX3, 6), by show lu_cl[lu_hk (m r 0)]? = _; unfold lu_hk; rw [if_neg h1, if_neg h2, if_neg h3, if_neg h4, if_neg h5]; rfl, rfl⟩ rfl rfl hroom (Nat.le_trans (Nat.le_of_ble_eq_true rfl) hfr) (Nat.le_trans (Nat.le_of_ble_eq_true rfl) hlo) hk d hp hst kk

theorem dX3_swears_0 : decode cX3_swears 0 = .ok (.aload_n 0, 1) := by decide +kernel
theorem dX3_swears_1 : decode cX3_swears 1 = .ok (.bipush 13, 2) := by decide +kernel
theorem dX3_swears_3 : decode cX3_swears 3 = .ok (.invokevirtual 28, 3) := by decide +kernel
theorem dX3_swears_6 : decode cX3_swears 6 = .ok (.aload_n 0, 1) := by decide +kernel
theorem dX3_swears_7 : decode cX3_swears 7 = .ok (.iload_n 1, 1) := by decide +kernel
theorem dX3_swears_8 : decode cX3_swears 8 = .ok (.invokevirtual 40, 3) := by decide +kernel
theorem dX3_swears_11 : decode cX3_swears 11 = .ok (.aload_n 0, 1) := by decide +kernel
theorem dX3_swears_12 : decode cX3_swears 12 = .ok (.getfield 15, 3) := by decide +kernel
theorem dX3_swears_15 : decode cX3_swears 15 = .ok (.ixor, 1) := by decide +kernel
theorem dX3_swears_16 : decode cX3_swears 16 = .ok (.ireturn, 1) := by decide +kernel
def f3_swears (r0 : Nat) (a1 : Int32) (m : lu_M) : Option (Int32 × lu_M) :=
  lu_bv (g3_began r0 (13 : Int32) m) fun m1 =>
  lu_bi (g3_takes r0 a1 m1) fun x2 m3 =>
  some ((x2 ^^^ (m3 r0 1)), m3)
set_option maxRecDepth 20000 in
theorem c3_swears (l : Launch) {r0 : Nat} (hT_r0 : lu_TC.2 r0 = (10, 0, 0)) (hr_r0 : r0 < lu_TC.1) (a1 : Int32) : lu_C lu_TC l yX3_swears cX3_swears 2 (some .int) 5 105 (fun ρ sa => [.ref (ρ r0), .int a1]) (f3_swears r0 a1) lu_RVi lu_sn := by
  refine lu_met (cls := RX3) rfl (by decide +kernel) (fun _ _ => Nat.le_of_ble_eq_true rfl) ?_
  intro G ρ m hl X hret
  subst hl
  change lu_Ab lu_TC G (lu_Q lu_TC G ρ lu_RVi lu_sn) (f3_swears r0 a1 m) 0 [(0, .ref (ρ r0)), (1, .int a1)] [] ρ 0 0 [] m
  unfold f3_swears
  refine lu_aload_n X dX3_swears_0 (pc2 := 1) rfl rfl 0 rfl ?_
  refine lu_bipush X dX3_swears_1 (pc2 := 3) rfl bp_13 ?_
  refine v3_began X q1024 hT_r0 hr_r0 rfl (Nat.le_of_ble_eq_true rfl) (Nat.le_of_ble_eq_true rfl) (Nat.le_of_ble_eq_true rfl) ⟨Nat.zero_le _, Nat.zero_le _⟩ dX3_swears_3 (pc2 := 6) rfl rfl (fun m1 => ?_)
  refine lu_aload_n X dX3_swears_6 (pc2 := 7) rfl rfl 0 rfl ?_
  refine lu_iload_n X dX3_swears_7 (pc2 := 8) rfl rfl 1 rfl ?_
  refine v3_takes X q1093 hT_r0 hr_r0 rfl (Nat.le_of_ble_eq_true rfl) (Nat.le_of_ble_eq_true rfl) (Nat.le_of_ble_eq_true rfl) ⟨Nat.zero_le _, Nat.zero_le _⟩ dX3_swears_8 (pc2 := 11) rfl rfl (fun x2 m3 => ?_)
  refine lu_aload_n X dX3_swears_11 (pc2 := 12) rfl rfl 0 rfl ?_
  refine lu_get X fl3_15 rfl hT_r0 hr_r0 dX3_swears_12 (pc2 := 15) rfl ?_
  refine lu_ixor X dX3_swears_15 (pc2 := 16) rfl ?_
  exact lu_iret X hret dX3_swears_16

theorem dX7_term_0 : decode cX7_term 0 = .ok (.aload_n 0, 1) := by decide +kernel
theorem dX7_term_1 : decode cX7_term 1 = .ok (.invokespecial 7, 3) := by decide +kernel
theorem dX7_term_4 : decode cX7_term 4 = .ok (.iconst 2, 1) := by decide +kernel
theorem dX7_term_5 : decode cX7_term 5 = .ok (.iadd, 1) := by decide +kernel
theorem dX7_term_6 : decode cX7_term 6 = .ok (.ireturn, 1) := by decide +kernel
def f7_term (r0 : Nat) (m : lu_M) : Option (Int32 × lu_M) :=
  lu_bi (f3_term r0 m) fun x1 m2 =>
  some ((x1 + (2 : Int32)), m2)
set_option maxRecDepth 20000 in
theorem c7_term (l : Launch) {r0 : Nat} (hT_r0 : lu_TC.2 r0 = (10, 0, 0)) (hr_r0 : r0 < lu_TC.1)  : lu_C lu_TC l yX7_term cX7_term 1 (some .int) 1 20 (fun ρ sa => [.ref (ρ r0)]) (f7_term r0) lu_RVi lu_sn := by
  refine lu_met (cls := RX7) rfl (by decide +kernel) (fun _ _ => Nat.le_of_ble_eq_true rfl) ?_
  intro G ρ m hl X hret
  subst hl
  change lu_Ab lu_TC G (lu_Q lu_TC G ρ lu_RVi lu_sn) (f7_term r0 m) 0 [(0, .ref (ρ r0))] [] ρ 0 0 [] m
  unfold f7_term
  refine lu_aload_n X dX7_term_0 (pc2 := 1) rfl rfl 0 rfl ?_
  refine lu_invUi X (c3_term _ hT_r0 hr_r0) rfl q518 mvU7_3_term hT_r0 hr_r0 (by decide) (by decide) rfl rfl (Nat.le_of_ble_eq_true rfl) (Nat.le_of_ble_eq_true rfl) (Nat.le_of_ble_eq_true rfl) ⟨Nat.zero_le _, Nat.zero_le _⟩ dX7_term_1 (pc2 := 4) rfl rfl (fun x1 m2 => ?_)
  refine lu_iconst X dX7_term_4 (pc2 := 5) rfl ic_2 ?_
  refine lu_iadd X dX7_term_5 (pc2 := 6) rfl ?_
  exact lu_iret X hret dX7_term_6

theorem dX4_term_0 : decode cX4_term 0 = .ok (.aload_n 0, 1) := by decide +kernel
theorem dX4_term_1 : decode cX4_term 1 = .ok (.invokespecial 7, 3) := by decide +kernel
theorem dX4_term_4 : decode cX4_term 4 = .ok (.bipush 9, 2) := by decide +kernel
theorem dX4_term_6 : decode cX4_term 6 = .ok (.iadd, 1) := by decide +kernel
theorem dX4_term_7 : decode cX4_term 7 = .ok (.ireturn, 1) := by decide +kernel
def f4_term (r0 : Nat) (m : lu_M) : Option (Int32 × lu_M) :=
  lu_bi (f7_term r0 m) fun x1 m2 =>
  some ((x1 + (9 : Int32)), m2)
set_option maxRecDepth 20000 in
theorem c4_term (l : Launch) {r0 : Nat} (hT_r0 : lu_TC.2 r0 = (10, 0, 0)) (hr_r0 : r0 < lu_TC.1)  : lu_C lu_TC l yX4_term cX4_term 1 (some .int) 2 40 (fun ρ sa => [.ref (ρ r0)]) (f4_term r0) lu_RVi lu_sn := by
  refine lu_met (cls := RX4) rfl (by decide +kernel) (fun _ _ => Nat.le_of_ble_eq_true rfl) ?_
  intro G ρ m hl X hret
  subst hl
  change lu_Ab lu_TC G (lu_Q lu_TC G ρ lu_RVi lu_sn) (f4_term r0 m) 0 [(0, .ref (ρ r0))] [] ρ 0 0 [] m
  unfold f4_term
  refine lu_aload_n X dX4_term_0 (pc2 := 1) rfl rfl 0 rfl ?_
  refine lu_invUi X (c7_term _ hT_r0 hr_r0) rfl q515 mvU4_7_term hT_r0 hr_r0 (by decide) (by decide) rfl rfl (Nat.le_of_ble_eq_true rfl) (Nat.le_of_ble_eq_true rfl) (Nat.le_of_ble_eq_true rfl) ⟨Nat.zero_le _, Nat.zero_le _⟩ dX4_term_1 (pc2 := 4) rfl rfl (fun x1 m2 => ?_)
  refine lu_bipush X dX4_term_4 (pc2 := 6) rfl bp_9 ?_
  refine lu_iadd X dX4_term_6 (pc2 := 7) rfl ?_
  exact lu_iret X hret dX4_term_7

theorem dX7_pull_0 : decode cX7_pull 0 = .ok (.aload_n 0, 1) := by decide +kernel
theorem dX7_pull_1 : decode cX7_pull 1 = .ok (.iload_n 1, 1) := by decide +kernel
theorem dX7_pull_2 : decode cX7_pull 2 = .ok (.invokespecial 11, 3) := by decide +kernel
theorem dX7_pull_5 : decode cX7_pull 5 = .ok (.iconst 2, 1) := by decide +kernel
theorem dX7_pull_6 : decode cX7_pull 6 = .ok (.idiv, 1) := by decide +kernel
theorem dX7_pull_7 : decode cX7_pull 7 = .ok (.ireturn, 1) := by decide +kernel
def f7_pull (r0 : Nat) (a1 : Int32) (m : lu_M) : Option (Int32 × lu_M) :=
  lu_bi (f3_pull r0 a1 m) fun x1 m2 =>
  some ((x1 / (2 : Int32)), m2)
set_option maxRecDepth 20000 in
theorem c7_pull (l : Launch) {r0 : Nat} (hT_r0 : lu_TC.2 r0 = (10, 0, 0)) (hr_r0 : r0 < lu_TC.1) (a1 : Int32) : lu_C lu_TC l yX7_pull cX7_pull 2 (some .int) 1 21 (fun ρ sa => [.ref (ρ r0), .int a1]) (f7_pull r0 a1) lu_RVi lu_sn := by
  refine lu_met (cls := RX7) rfl (by decide +kernel) (fun _ _ => Nat.le_of_ble_eq_true rfl) ?_
  intro G ρ m hl X hret
  subst hl
  change lu_Ab lu_TC G (lu_Q lu_TC G ρ lu_RVi lu_sn) (f7_pull r0 a1 m) 0 [(0, .ref (ρ r0)), (1, .int a1)] [] ρ 0 0 [] m
  unfold f7_pull
  refine lu_aload_n X dX7_pull_0 (pc2 := 1) rfl rfl 0 rfl ?_
  refine lu_iload_n X dX7_pull_1 (pc2 := 2) rfl rfl 1 rfl ?_
  refine lu_invUi X (c3_pull _ hT_r0 hr_r0 a1) rfl q464 mvU7_3_pull hT_r0 hr_r0 (by decide) (by decide) rfl rfl (Nat.le_of_ble_eq_true rfl) (Nat.le_of_ble_eq_true rfl) (Nat.le_of_ble_eq_true rfl) ⟨Nat.zero_le _, Nat.zero_le _⟩ dX7_pull_2 (pc2 := 5) rfl rfl (fun x1 m2 => ?_)
  refine lu_iconst X dX7_pull_5 (pc2 := 6) rfl ic_2 ?_
  refine lu_idivK X dX7_pull_6 (pc2 := 7) rfl (by decide) ?_
  exact lu_iret X hret dX7_pull_7

theorem dX4_pull_0 : decode cX4_pull 0 = .ok (.iload_n 1, 1) := by decide +kernel
theorem dX4_pull_1 : decode cX4_pull 1 = .ok (.bipush 9, 2) := by decide +kernel
theorem dX4_pull_3 : decode cX4_pull 3 = .ok (.if_icmp .lt 8, 3) := by decide +kernel
theorem dX4_pull_6 : decode cX4_pull 6 = .ok (.bipush 9, 2) := by decide +kernel
theorem dX4_pull_8 : decode cX4_pull 8 = .ok (.goto 8, 3) := by decide +kernel
theorem dX4_pull_11 : decode cX4_pull 11 = .ok (.aload_n 0, 1) := by decide +kernel
theorem dX4_pull_12 : decode cX4_pull 12 = .ok (.iload_n 1, 1) := by decide +kernel
theorem dX4_pull_13 : decode cX4_pull 13 = .ok (.invokespecial 11, 3) := by decide +kernel
theorem dX4_pull_16 : decode cX4_pull 16 = .ok (.ireturn, 1) := by decide +kernel
def f4_pull_b16  (r0 : Nat) (a1 : Int32) (s0 : Int32) (m : lu_M) : Option (Int32 × lu_M) :=
  some (s0, m)
set_option maxRecDepth 20000 in
theorem w4_pull_b16  {G : lu_G} {ρ : Nat → Nat} {r0 : Nat} {a1 : Int32}  (X : lu_X G RX4 cX4_pull 2 2 42) (hret : (lu_me G).sig.returnType = (some .int)) (hT_r0 : lu_TC.2 r0 = (10, 0, 0)) (hr_r0 : r0 < lu_TC.1)  : ∀ (s0 : Int32) (m : lu_M), lu_Ab lu_TC G (lu_Q lu_TC G ρ lu_RVi lu_sn) (f4_pull_b16 r0 a1 s0 m) 16 [] [.int s0] ρ 0 0 [] m := by
  intro s0 m
  unfold f4_pull_b16
  exact lu_iret X hret dX4_pull_16
def f4_pull (r0 : Nat) (a1 : Int32) (m : lu_M) : Option (Int32 × lu_M) :=
  if a1 < (9 : Int32) then (lu_bi (f7_pull r0 a1 m) fun x1 m2 =>
  f4_pull_b16 r0 a1 x1 m2)
  else (f4_pull_b16 r0 a1 (9 : Int32) m)
set_option maxRecDepth 20000 in
theorem c4_pull (l : Launch) {r0 : Nat} (hT_r0 : lu_TC.2 r0 = (10, 0, 0)) (hr_r0 : r0 < lu_TC.1) (a1 : Int32) : lu_C lu_TC l yX4_pull cX4_pull 2 (some .int) 2 42 (fun ρ sa => [.ref (ρ r0), .int a1]) (f4_pull r0 a1) lu_RVi lu_sn := by
  refine lu_met (cls := RX4) rfl (by decide +kernel) (fun _ _ => Nat.le_of_ble_eq_true rfl) ?_
  intro G ρ m hl X hret
  subst hl
  change lu_Ab lu_TC G (lu_Q lu_TC G ρ lu_RVi lu_sn) (f4_pull r0 a1 m) 0 [(0, .ref (ρ r0)), (1, .int a1)] [] ρ 0 0 [] m
  unfold f4_pull
  refine lu_iload_n X dX4_pull_0 (pc2 := 1) rfl rfl 1 rfl ?_
  refine lu_bipush X dX4_pull_1 (pc2 := 3) rfl bp_9 ?_
  refine lu_icmp_lt (tgt := 11) X dX4_pull_3 (pc2 := 6) rfl (by decide) (fun _ => ?_) (fun _ => ?_)
  · refine lu_aload_n X dX4_pull_11 (pc2 := 12) rfl rfl 0 rfl ?_
    refine lu_iload_n X dX4_pull_12 (pc2 := 13) rfl rfl 1 rfl ?_
    refine lu_invUi X (c7_pull _ hT_r0 hr_r0 a1) rfl q461 mvU4_7_pull hT_r0 hr_r0 (by decide) (by decide) rfl rfl (Nat.le_of_ble_eq_true rfl) (Nat.le_of_ble_eq_true rfl) (Nat.le_of_ble_eq_true rfl) ⟨Nat.zero_le _, Nat.zero_le _⟩ dX4_pull_13 (pc2 := 16) rfl rfl (fun x1 m2 => ?_)
    exact lu_sub [] rfl (w4_pull_b16 X hret hT_r0 hr_r0 x1 m2)
  · refine lu_bipush X dX4_pull_6 (pc2 := 8) rfl bp_9 ?_
    refine lu_goto (tgt := 16) X dX4_pull_8 (by decide) ?_
    exact lu_sub [] rfl (w4_pull_b16 X hret hT_r0 hr_r0 (9 : Int32) m)

def g7_began (r : Nat) (a1 : Int32) (m : lu_M) : Option (lu_M) := if m r 0 = 4 then f3_began r a1 m else if m r 0 = 5 then f3_began r a1 m else none
theorem v7_began {β : Type} {G : lu_G} {Q : β → State → Prop} {pc pc2 : Nat} {lv : List (Nat × Value)} {st rest : List Value} {ρ : Nat → Nat} {k n : Nat} {ex : va_W} {m : lu_M} {own : String} {cc : ByteArray} {nL fr lo index r : Nat} {a1 : Int32} {ov : Option (lu_M)} {Ko : lu_M → Option β} (X : lu_X G own cc nL fr lo) (ml : Cond.methodLink own index ⟨RX7, "began", "(I)V"⟩ ∈ lu_ws) (hT : lu_TC.2 r = (10, 0, 0)) (hr : r < lu_TC.1) (hf : g7_began r a1 m = ov) (hroom : (rest.map fun v => v.category).sum ≤ 8) (hfr : 0 + 1 ≤ fr) (hlo : 8 + (0 + 11) + 2 ≤ lo) (hk : k ≤ (lu_R G).cells ∧ n ≤ (lu_R G).slots) (d : decode cc pc = .ok (.invokevirtual index, 3)) (hp : pc + 3 = pc2) (hst : st = [.int a1].reverse ++ .ref (ρ r) :: rest) (kk : ∀ (m9 : lu_M), lu_Ab lu_TC G Q (Ko m9) pc2 lv rest ρ k n ex m9) : lu_Ab lu_TC G Q (lu_bv ov Ko) pc lv st ρ k n ex m := by
  subst hf
  unfold g7_began
  by_cases h4 : m r 0 = 4
  · rw [if_pos h4]
    exact lu_invOv X (c3_began _ hT hr a1) rfl ml mvO_7_7_began_3_began hT hr (by decide) ⟨(RX7, TX7, 6), by rw [h4]; rfl, rfl⟩ rfl rfl hroom (Nat.le_trans (Nat.le_of_ble_eq_true rfl) hfr) (Nat.le_trans (Nat.le_of_ble_eq_true rfl) hlo) hk d hp hst kk
  rw [if_neg h4]
  by_cases h5 : m r 0 = 5
  · rw [if_pos h5]
    exact lu_invOv X (c3_began _ hT hr a1) rfl ml mvO_4_7_began_3_began hT hr (by decide) ⟨(RX4, TX4, 6), by rw [h5]; rfl, rfl⟩ rfl rfl hroom (Nat.le_trans (Nat.le_of_ble_eq_true rfl) hfr) (Nat.le_trans (Nat.le_of_ble_eq_true rfl) hlo) hk d hp hst kk
  rw [if_neg h5]
  exact lu_none

theorem dX7_splits_0 : decode cX7_splits 0 = .ok (.aload_n 0, 1) := by decide +kernel
theorem dX7_splits_1 : decode cX7_splits 1 = .ok (.bipush 40, 2) := by decide +kernel
theorem dX7_splits_3 : decode cX7_splits 3 = .ok (.invokevirtual 15, 3) := by decide +kernel
theorem dX7_splits_6 : decode cX7_splits 6 = .ok (.aload_n 0, 1) := by decide +kernel
theorem dX7_splits_7 : decode cX7_splits 7 = .ok (.iload_n 1, 1) := by decide +kernel
theorem dX7_splits_8 : decode cX7_splits 8 = .ok (.iconst 5, 1) := by decide +kernel
theorem dX7_splits_9 : decode cX7_splits 9 = .ok (.iadd, 1) := by decide +kernel
theorem dX7_splits_10 : decode cX7_splits 10 = .ok (.invokespecial 21, 3) := by decide +kernel
theorem dX7_splits_13 : decode cX7_splits 13 = .ok (.ireturn, 1) := by decide +kernel
def f7_splits (r0 : Nat) (a1 : Int32) (m : lu_M) : Option (Int32 × lu_M) :=
  lu_bv (g7_began r0 (40 : Int32) m) fun m1 =>
  lu_bi (f3_splits r0 (a1 + (5 : Int32)) m1) fun x2 m3 =>
  some (x2, m3)
set_option maxRecDepth 20000 in
theorem c7_splits (l : Launch) {r0 : Nat} (hT_r0 : lu_TC.2 r0 = (10, 0, 0)) (hr_r0 : r0 < lu_TC.1) (a1 : Int32) : lu_C lu_TC l yX7_splits cX7_splits 2 (some .int) 2 43 (fun ρ sa => [.ref (ρ r0), .int a1]) (f7_splits r0 a1) lu_RVi lu_sn := by
  refine lu_met (cls := RX7) rfl (by decide +kernel) (fun _ _ => Nat.le_of_ble_eq_true rfl) ?_
  intro G ρ m hl X hret
  subst hl
  change lu_Ab lu_TC G (lu_Q lu_TC G ρ lu_RVi lu_sn) (f7_splits r0 a1 m) 0 [(0, .ref (ρ r0)), (1, .int a1)] [] ρ 0 0 [] m
  unfold f7_splits
  refine lu_aload_n X dX7_splits_0 (pc2 := 1) rfl rfl 0 rfl ?_
  refine lu_bipush X dX7_splits_1 (pc2 := 3) rfl bp_40 ?_
  refine v7_began X q1063 hT_r0 hr_r0 rfl (Nat.le_of_ble_eq_true rfl) (Nat.le_of_ble_eq_true rfl) (Nat.le_of_ble_eq_true rfl) ⟨Nat.zero_le _, Nat.zero_le _⟩ dX7_splits_3 (pc2 := 6) rfl rfl (fun m1 => ?_)
  refine lu_aload_n X dX7_splits_6 (pc2 := 7) rfl rfl 0 rfl ?_
  refine lu_iload_n X dX7_splits_7 (pc2 := 8) rfl rfl 1 rfl ?_
  refine lu_iconst X dX7_splits_8 (pc2 := 9) rfl ic_5 ?_
  refine lu_iadd X dX7_splits_9 (pc2 := 10) rfl ?_
  refine lu_invUi X (c3_splits _ hT_r0 hr_r0 (a1 + (5 : Int32))) rfl q1067 mvU7_3_splits hT_r0 hr_r0 (by decide) (by decide) rfl rfl (Nat.le_of_ble_eq_true rfl) (Nat.le_of_ble_eq_true rfl) (Nat.le_of_ble_eq_true rfl) ⟨Nat.zero_le _, Nat.zero_le _⟩ dX7_splits_10 (pc2 := 13) rfl rfl (fun x2 m3 => ?_)
  exact lu_iret X hret dX7_splits_13

def g4_gives (r : Nat) (a1 : Int32) (m : lu_M) : Option (Int32 × lu_M) := if m r 0 = 5 then f3_gives r a1 m else none
theorem v4_gives {β : Type} {G : lu_G} {Q : β → State → Prop} {pc pc2 : Nat} {lv : List (Nat × Value)} {st rest : List Value} {ρ : Nat → Nat} {k n : Nat} {ex : va_W} {m : lu_M} {own : String} {cc : ByteArray} {nL fr lo index r : Nat} {a1 : Int32} {ov : Option (Int32 × lu_M)} {Ko : Int32 → lu_M → Option β} (X : lu_X G own cc nL fr lo) (ml : Cond.methodLink own index ⟨RX4, "gives", "(I)I"⟩ ∈ lu_ws) (hT : lu_TC.2 r = (10, 0, 0)) (hr : r < lu_TC.1) (hf : g4_gives r a1 m = ov) (hroom : (rest.map fun v => v.category).sum ≤ 8) (hfr : 1 + 1 ≤ fr) (hlo : 8 + (0 + 11) + 23 ≤ lo) (hk : k ≤ (lu_R G).cells ∧ n ≤ (lu_R G).slots) (d : decode cc pc = .ok (.invokevirtual index, 3)) (hp : pc + 3 = pc2) (hst : st = [.int a1].reverse ++ .ref (ρ r) :: rest) (kk : ∀ (x : Int32) (m9 : lu_M), lu_Ab lu_TC G Q (Ko x m9) pc2 lv (.int x :: rest) ρ k n ex m9) : lu_Ab lu_TC G Q (lu_bi ov Ko) pc lv st ρ k n ex m := by
  subst hf
  unfold g4_gives
  by_cases h5 : m r 0 = 5
  · rw [if_pos h5]
    exact lu_invOi X (c3_gives _ hT hr a1) rfl ml mvO_4_4_gives_3_gives hT hr (by decide) ⟨(RX4, TX4, 6), by rw [h5]; rfl, rfl⟩ rfl rfl hroom (Nat.le_trans (Nat.le_of_ble_eq_true rfl) hfr) (Nat.le_trans (Nat.le_of_ble_eq_true rfl) hlo) hk d hp hst kk
  rw [if_neg h5]
  exact lu_none

theorem dX4_splits_0 : decode cX4_splits 0 = .ok (.aload_n 0, 1) := by decide +kernel
theorem dX4_splits_1 : decode cX4_splits 1 = .ok (.bipush 61, 2) := by decide +kernel
theorem dX4_splits_3 : decode cX4_splits 3 = .ok (.invokevirtual 15, 3) := by decide +kernel
theorem dX4_splits_6 : decode cX4_splits 6 = .ok (.aload_n 0, 1) := by decide +kernel
theorem dX4_splits_7 : decode cX4_splits 7 = .ok (.iload_n 1, 1) := by decide +kernel
theorem dX4_splits_8 : decode cX4_splits 8 = .ok (.invokespecial 28, 3) := by decide +kernel
theorem dX4_splits_11 : decode cX4_splits 11 = .ok (.istore_n 2, 1) := by decide +kernel
theorem dX4_splits_12 : decode cX4_splits 12 = .ok (.aload_n 0, 1) := by decide +kernel
theorem dX4_splits_13 : decode cX4_splits 13 = .ok (.getfield 31, 3) := by decide +kernel
theorem dX4_splits_16 : decode cX4_splits 16 = .ok (.ifCond .eq 7, 3) := by decide +kernel
theorem dX4_splits_19 : decode cX4_splits 19 = .ok (.iconst 0, 1) := by decide +kernel
theorem dX4_splits_20 : decode cX4_splits 20 = .ok (.goto 13, 3) := by decide +kernel
theorem dX4_splits_23 : decode cX4_splits 23 = .ok (.iload_n 2, 1) := by decide +kernel
theorem dX4_splits_24 : decode cX4_splits 24 = .ok (.aload_n 0, 1) := by decide +kernel
theorem dX4_splits_25 : decode cX4_splits 25 = .ok (.aload_n 0, 1) := by decide +kernel
theorem dX4_splits_26 : decode cX4_splits 26 = .ok (.getfield 35, 3) := by decide +kernel
theorem dX4_splits_29 : decode cX4_splits 29 = .ok (.invokevirtual 38, 3) := by decide +kernel
theorem dX4_splits_32 : decode cX4_splits 32 = .ok (.iadd, 1) := by decide +kernel
theorem dX4_splits_33 : decode cX4_splits 33 = .ok (.ireturn, 1) := by decide +kernel
def f4_splits_b33  (r0 : Nat) (a1 : Int32) (s0 : Int32) (m : lu_M) : Option (Int32 × lu_M) :=
  some (s0, m)
set_option maxRecDepth 20000 in
theorem w4_splits_b33  {G : lu_G} {ρ : Nat → Nat} {r0 : Nat} {a1 : Int32}  (X : lu_X G RX4 cX4_splits 3 3 64) (hret : (lu_me G).sig.returnType = (some .int)) (hT_r0 : lu_TC.2 r0 = (10, 0, 0)) (hr_r0 : r0 < lu_TC.1)  : ∀ (s0 : Int32) (m : lu_M), lu_Ab lu_TC G (lu_Q lu_TC G ρ lu_RVi lu_sn) (f4_splits_b33 r0 a1 s0 m) 33 [] [.int s0] ρ 0 0 [] m := by
  intro s0 m
  unfold f4_splits_b33
  exact lu_iret X hret dX4_splits_33
def f4_splits (r0 : Nat) (a1 : Int32) (m : lu_M) : Option (Int32 × lu_M) :=
  lu_bv (g4_began r0 (61 : Int32) m) fun m1 =>
  lu_bi (f7_splits r0 a1 m1) fun x2 m3 =>
  if (m3 r0 4) = 0 then (lu_bi (g4_gives r0 (m3 r0 1) m3) fun x4 m5 =>
  f4_splits_b33 r0 a1 (x2 + x4) m5)
  else (f4_splits_b33 r0 a1 (0 : Int32) m3)
set_option maxRecDepth 20000 in
theorem c4_splits (l : Launch) {r0 : Nat} (hT_r0 : lu_TC.2 r0 = (10, 0, 0)) (hr_r0 : r0 < lu_TC.1) (a1 : Int32) : lu_C lu_TC l yX4_splits cX4_splits 3 (some .int) 3 64 (fun ρ sa => [.ref (ρ r0), .int a1]) (f4_splits r0 a1) lu_RVi lu_sn := by
  refine lu_met (cls := RX4) rfl (by decide +kernel) (fun _ _ => Nat.le_of_ble_eq_true rfl) ?_
  intro G ρ m hl X hret
  subst hl
  change lu_Ab lu_TC G (lu_Q lu_TC G ρ lu_RVi lu_sn) (f4_splits r0 a1 m) 0 [(0, .ref (ρ r0)), (1, .int a1)] [] ρ 0 0 [] m
  unfold f4_splits
  refine lu_aload_n X dX4_splits_0 (pc2 := 1) rfl rfl 0 rfl ?_
  refine lu_bipush X dX4_splits_1 (pc2 := 3) rfl bp_61 ?_
  refine v4_began X q1041 hT_r0 hr_r0 rfl (Nat.le_of_ble_eq_true rfl) (Nat.le_of_ble_eq_true rfl) (Nat.le_of_ble_eq_true rfl) ⟨Nat.zero_le _, Nat.zero_le _⟩ dX4_splits_3 (pc2 := 6) rfl rfl (fun m1 => ?_)
  refine lu_aload_n X dX4_splits_6 (pc2 := 7) rfl rfl 0 rfl ?_
  refine lu_iload_n X dX4_splits_7 (pc2 := 8) rfl rfl 1 rfl ?_
  refine lu_invUi X (c7_splits _ hT_r0 hr_r0 a1) rfl q1060 mvU4_7_splits hT_r0 hr_r0 (by decide) (by decide) rfl rfl (Nat.le_of_ble_eq_true rfl) (Nat.le_of_ble_eq_true rfl) (Nat.le_of_ble_eq_true rfl) ⟨Nat.zero_le _, Nat.zero_le _⟩ dX4_splits_8 (pc2 := 11) rfl rfl (fun x2 m3 => ?_)
  refine lu_istore_n (lv2 := [(2, .int x2), (0, .ref (ρ r0)), (1, .int a1)]) X dX4_splits_11 (pc2 := 12) rfl rfl (by decide) rfl ?_
  refine lu_aload_n X dX4_splits_12 (pc2 := 13) rfl rfl 1 rfl ?_
  refine lu_get X fl4_31 rfl hT_r0 hr_r0 dX4_splits_13 (pc2 := 16) rfl ?_
  refine lu_if_eq (tgt := 23) X dX4_splits_16 (pc2 := 19) rfl (by decide) (fun _ => ?_) (fun _ => ?_)
  · refine lu_iload_n X dX4_splits_23 (pc2 := 24) rfl rfl 0 rfl ?_
    refine lu_aload_n X dX4_splits_24 (pc2 := 25) rfl rfl 1 rfl ?_
    refine lu_aload_n X dX4_splits_25 (pc2 := 26) rfl rfl 1 rfl ?_
    refine lu_get X fl4_35 rfl hT_r0 hr_r0 dX4_splits_26 (pc2 := 29) rfl ?_
    refine v4_gives X q1068 hT_r0 hr_r0 rfl (Nat.le_of_ble_eq_true rfl) (Nat.le_of_ble_eq_true rfl) (Nat.le_of_ble_eq_true rfl) ⟨Nat.zero_le _, Nat.zero_le _⟩ dX4_splits_29 (pc2 := 32) rfl rfl (fun x4 m5 => ?_)
    refine lu_iadd X dX4_splits_32 (pc2 := 33) rfl ?_
    exact lu_sub [] rfl (w4_splits_b33 X hret hT_r0 hr_r0 (x2 + x4) m5)
  · refine lu_iconst X dX4_splits_19 (pc2 := 20) rfl ic_0 ?_
    refine lu_goto (tgt := 33) X dX4_splits_20 (by decide) ?_
    exact lu_sub [] rfl (w4_splits_b33 X hret hT_r0 hr_r0 (0 : Int32) m3)

theorem dX5_start_0 : decode cX5_start 0 = .ok (.iconst 0, 1) := by decide +kernel
theorem dX5_start_1 : decode cX5_start 1 = .ok (.aload_n 0, 1) := by decide +kernel
theorem dX5_start_2 : decode cX5_start 2 = .ok (.getfield 9, 3) := by decide +kernel
theorem dX5_start_5 : decode cX5_start 5 = .ok (.getfield 29, 3) := by decide +kernel
theorem dX5_start_8 : decode cX5_start 8 = .ok (.aload_n 0, 1) := by decide +kernel
theorem dX5_start_9 : decode cX5_start 9 = .ok (.getfield 9, 3) := by decide +kernel
theorem dX5_start_12 : decode cX5_start 12 = .ok (.getfield 35, 3) := by decide +kernel
theorem dX5_start_15 : decode cX5_start 15 = .ok (.getfield 39, 3) := by decide +kernel
theorem dX5_start_18 : decode cX5_start 18 = .ok (.isub, 1) := by decide +kernel
theorem dX5_start_19 : decode cX5_start 19 = .ok (.invokestatic 42, 3) := by decide +kernel
theorem dX5_start_22 : decode cX5_start 22 = .ok (.istore_n 2, 1) := by decide +kernel
theorem dX5_start_23 : decode cX5_start 23 = .ok (.aload_n 0, 1) := by decide +kernel
theorem dX5_start_24 : decode cX5_start 24 = .ok (.iload_n 1, 1) := by decide +kernel
theorem dX5_start_25 : decode cX5_start 25 = .ok (.iconst 4, 1) := by decide +kernel
theorem dX5_start_26 : decode cX5_start 26 = .ok (.invokestatic 48, 3) := by decide +kernel
theorem dX5_start_29 : decode cX5_start 29 = .ok (.iload_n 2, 1) := by decide +kernel
theorem dX5_start_30 : decode cX5_start 30 = .ok (.invokestatic 48, 3) := by decide +kernel
theorem dX5_start_33 : decode cX5_start 33 = .ok (.putfield 51, 3) := by decide +kernel
theorem dX5_start_36 : decode cX5_start 36 = .ok (.aload_n 0, 1) := by decide +kernel
theorem dX5_start_37 : decode cX5_start 37 = .ok (.getfield 17, 3) := by decide +kernel
theorem dX5_start_40 : decode cX5_start 40 = .ok (.iconst 0, 1) := by decide +kernel
theorem dX5_start_41 : decode cX5_start 41 = .ok (.aaload, 1) := by decide +kernel
theorem dX5_start_42 : decode cX5_start 42 = .ok (.aload_n 0, 1) := by decide +kernel
theorem dX5_start_43 : decode cX5_start 43 = .ok (.getfield 9, 3) := by decide +kernel
theorem dX5_start_46 : decode cX5_start 46 = .ok (.getfield 35, 3) := by decide +kernel
theorem dX5_start_49 : decode cX5_start 49 = .ok (.invokevirtual 54, 3) := by decide +kernel
theorem dX5_start_52 : decode cX5_start 52 = .ok (.return_, 1) := by decide +kernel
def f5_start (a1 : Int32) (m : lu_M) : Option (lu_M) :=
  lu_nm ((if (0 : Int32) < ((m 1 9) - (m 29 0)) then ((m 1 9) - (m 29 0)) else (0 : Int32))) fun x1 =>
  lu_nm (lu_st m 74 4 (if x1 < (if (4 : Int32) < a1 then (4 : Int32) else a1) then x1 else (if (4 : Int32) < a1 then (4 : Int32) else a1))) fun m2 =>
  lu_gd (lu_ib (0 : Int32) 5) <|
  lu_bv (f1_begin (75 + 1 + (0 : Int32).toNatClampNeg) 29 m2) fun m4 =>
  some m4
set_option maxRecDepth 20000 in
theorem c5_start (l : Launch)   (a1 : Int32) : lu_C lu_TC l yX5_start cX5_start 3 none 2 42 (fun ρ sa => [.ref (ρ 74), .int a1]) (f5_start a1) lu_RVv lu_id := by
  refine lu_met (cls := RX5) rfl (by decide +kernel) (fun _ _ => Nat.le_of_ble_eq_true rfl) ?_
  intro G ρ m hl X hret
  subst hl
  change lu_Ab lu_TC G (lu_Q lu_TC G ρ lu_RVv lu_id) (f5_start a1 m) 0 [(0, .ref (ρ 74)), (1, .int a1)] [] ρ 0 0 [] m
  unfold f5_start
  refine lu_iconst X dX5_start_0 (pc2 := 1) rfl ic_0 ?_
  refine lu_aload_n X dX5_start_1 (pc2 := 2) rfl rfl 0 rfl ?_
  refine lu_getr (r2 := 1) X rfl fl5_9 rfl kC_74 lC_74 dX5_start_2 (pc2 := 5) rfl ?_
  refine lu_get X fl5_29 rfl kC_1 lC_1 dX5_start_5 (pc2 := 8) rfl ?_
  refine lu_aload_n X dX5_start_8 (pc2 := 9) rfl rfl 0 rfl ?_
  refine lu_getr (r2 := 1) X rfl fl5_9 rfl kC_74 lC_74 dX5_start_9 (pc2 := 12) rfl ?_
  refine lu_getr (r2 := 29) X rfl fl5_35 rfl kC_1 lC_1 dX5_start_12 (pc2 := 15) rfl ?_
  refine lu_get X fl5_39 rfl kC_29 lC_29 dX5_start_15 (pc2 := 18) rfl ?_
  refine lu_isub X dX5_start_18 (pc2 := 19) rfl ?_
  refine lu_mmax X ml_838 st_max in_Math co_max (Nat.le_of_ble_eq_true rfl) (Nat.le_of_ble_eq_true rfl) (Nat.le_of_ble_eq_true rfl) ⟨Nat.zero_le _, Nat.zero_le _⟩ dX5_start_19 (pc2 := 22) rfl ?_
  refine lu_topi (fun x1 => ?_)
  refine lu_istore_n (lv2 := [(2, .int x1), (0, .ref (ρ 74)), (1, .int a1)]) X dX5_start_22 (pc2 := 23) rfl rfl (by decide) rfl ?_
  refine lu_aload_n X dX5_start_23 (pc2 := 24) rfl rfl 1 rfl ?_
  refine lu_iload_n X dX5_start_24 (pc2 := 25) rfl rfl 2 rfl ?_
  refine lu_iconst X dX5_start_25 (pc2 := 26) rfl ic_4 ?_
  refine lu_mmin X ml_839 st_min in_Math co_min (Nat.le_of_ble_eq_true rfl) (Nat.le_of_ble_eq_true rfl) (Nat.le_of_ble_eq_true rfl) ⟨Nat.zero_le _, Nat.zero_le _⟩ dX5_start_26 (pc2 := 29) rfl ?_
  refine lu_iload_n X dX5_start_29 (pc2 := 30) rfl rfl 0 rfl ?_
  refine lu_mmin X ml_839 st_min in_Math co_min (Nat.le_of_ble_eq_true rfl) (Nat.le_of_ble_eq_true rfl) (Nat.le_of_ble_eq_true rfl) ⟨Nat.zero_le _, Nat.zero_le _⟩ dX5_start_30 (pc2 := 33) rfl ?_
  refine lu_put X fl5_51 rfl (Or.inl (by decide)) rfl (by decide +kernel) kC_74 lC_74 dX5_start_33 (pc2 := 36) rfl (fun m2 => ?_)
  refine lu_aload_n X dX5_start_36 (pc2 := 37) rfl rfl 1 rfl ?_
  refine lu_getr (r2 := 75) X rfl fl5_17 rfl kC_74 lC_74 dX5_start_37 (pc2 := 40) rfl ?_
  refine lu_iconst X dX5_start_40 (pc2 := 41) rfl ic_0 ?_
  refine lu_aald X rfl rfl (by decide) (by decide) kC_75 lC_75 dX5_start_41 (pc2 := 42) rfl (fun g3 => ?_)
  refine lu_aload_n X dX5_start_42 (pc2 := 43) rfl rfl 1 rfl ?_
  refine lu_getr (r2 := 1) X rfl fl5_9 rfl kC_74 lC_74 dX5_start_43 (pc2 := 46) rfl ?_
  refine lu_getr (r2 := 29) X rfl fl5_35 rfl kC_1 lC_1 dX5_start_46 (pc2 := 49) rfl ?_
  refine lu_invVv X (c1_begin _ ((kaC_2_5_0 kC_75 lC_75 g3).1) ((kaC_2_5_0 kC_75 lC_75 g3).2) kC_29 lC_29) rfl q842 mvV_1_begin ((kaC_2_5_0 kC_75 lC_75 g3).1) ((kaC_2_5_0 kC_75 lC_75 g3).2) (by decide) ⟨_, rfl, rfl⟩ rfl rfl (Nat.le_of_ble_eq_true rfl) (Nat.le_of_ble_eq_true rfl) (Nat.le_of_ble_eq_true rfl) ⟨Nat.zero_le _, Nat.zero_le _⟩ dX5_start_49 (pc2 := 52) rfl rfl (fun m4 => ?_)
  exact lu_vret X hret dX5_start_52

theorem dX10_doDeeds_0 : decode cX10_doDeeds 0 = .ok (.iconst 0, 1) := by decide +kernel
theorem dX10_doDeeds_1 : decode cX10_doDeeds 1 = .ok (.istore_n 2, 1) := by decide +kernel
theorem dX10_doDeeds_2 : decode cX10_doDeeds 2 = .ok (.iload_n 2, 1) := by decide +kernel
theorem dX10_doDeeds_3 : decode cX10_doDeeds 3 = .ok (.aload_n 0, 1) := by decide +kernel
theorem dX10_doDeeds_4 : decode cX10_doDeeds 4 = .ok (.getfield 84, 3) := by decide +kernel
theorem dX10_doDeeds_7 : decode cX10_doDeeds 7 = .ok (.if_icmp .ge 83, 3) := by decide +kernel
theorem dX10_doDeeds_10 : decode cX10_doDeeds 10 = .ok (.aload_n 0, 1) := by decide +kernel
theorem dX10_doDeeds_11 : decode cX10_doDeeds 11 = .ok (.getfield 25, 3) := by decide +kernel
theorem dX10_doDeeds_14 : decode cX10_doDeeds 14 = .ok (.iload_n 2, 1) := by decide +kernel
theorem dX10_doDeeds_15 : decode cX10_doDeeds 15 = .ok (.iaload, 1) := by decide +kernel
theorem dX10_doDeeds_16 : decode cX10_doDeeds 16 = .ok (.aload_n 1, 1) := by decide +kernel
theorem dX10_doDeeds_17 : decode cX10_doDeeds 17 = .ok (.getfield 101, 3) := by decide +kernel
theorem dX10_doDeeds_20 : decode cX10_doDeeds 20 = .ok (.if_icmp .ne 64, 3) := by decide +kernel
theorem dX10_doDeeds_23 : decode cX10_doDeeds 23 = .ok (.aload_n 1, 1) := by decide +kernel
theorem dX10_doDeeds_24 : decode cX10_doDeeds 24 = .ok (.iload_n 2, 1) := by decide +kernel
theorem dX10_doDeeds_25 : decode cX10_doDeeds 25 = .ok (.invokevirtual 156, 3) := by decide +kernel
theorem dX10_doDeeds_28 : decode cX10_doDeeds 28 = .ok (.ifCond .eq 6, 3) := by decide +kernel
theorem dX10_doDeeds_31 : decode cX10_doDeeds 31 = .ok (.goto 53, 3) := by decide +kernel
theorem dX10_doDeeds_34 : decode cX10_doDeeds 34 = .ok (.aload_n 0, 1) := by decide +kernel
theorem dX10_doDeeds_35 : decode cX10_doDeeds 35 = .ok (.getfield 31, 3) := by decide +kernel
theorem dX10_doDeeds_38 : decode cX10_doDeeds 38 = .ok (.iload_n 2, 1) := by decide +kernel
theorem dX10_doDeeds_39 : decode cX10_doDeeds 39 = .ok (.iaload, 1) := by decide +kernel
theorem dX10_doDeeds_40 : decode cX10_doDeeds 40 = .ok (.iconst (-1), 1) := by decide +kernel
theorem dX10_doDeeds_41 : decode cX10_doDeeds 41 = .ok (.if_icmp .eq 16, 3) := by decide +kernel
theorem dX10_doDeeds_44 : decode cX10_doDeeds 44 = .ok (.aload_n 1, 1) := by decide +kernel
theorem dX10_doDeeds_45 : decode cX10_doDeeds 45 = .ok (.aload_n 0, 1) := by decide +kernel
theorem dX10_doDeeds_46 : decode cX10_doDeeds 46 = .ok (.getfield 31, 3) := by decide +kernel
theorem dX10_doDeeds_49 : decode cX10_doDeeds 49 = .ok (.iload_n 2, 1) := by decide +kernel
theorem dX10_doDeeds_50 : decode cX10_doDeeds 50 = .ok (.iaload, 1) := by decide +kernel
theorem dX10_doDeeds_51 : decode cX10_doDeeds 51 = .ok (.invokevirtual 149, 3) := by decide +kernel
theorem dX10_doDeeds_54 : decode cX10_doDeeds 54 = .ok (.ifCond .eq 18, 3) := by decide +kernel
theorem dX10_doDeeds_57 : decode cX10_doDeeds 57 = .ok (.aload_n 1, 1) := by decide +kernel
theorem dX10_doDeeds_58 : decode cX10_doDeeds 58 = .ok (.dup, 1) := by decide +kernel
theorem dX10_doDeeds_59 : decode cX10_doDeeds 59 = .ok (.getfield 108, 3) := by decide +kernel
theorem dX10_doDeeds_62 : decode cX10_doDeeds 62 = .ok (.iconst 1, 1) := by decide +kernel
theorem dX10_doDeeds_63 : decode cX10_doDeeds 63 = .ok (.iload_n 2, 1) := by decide +kernel
theorem dX10_doDeeds_64 : decode cX10_doDeeds 64 = .ok (.ishl, 1) := by decide +kernel
theorem dX10_doDeeds_65 : decode cX10_doDeeds 65 = .ok (.ior, 1) := by decide +kernel
theorem dX10_doDeeds_66 : decode cX10_doDeeds 66 = .ok (.putfield 108, 3) := by decide +kernel
theorem dX10_doDeeds_69 : decode cX10_doDeeds 69 = .ok (.goto 15, 3) := by decide +kernel
theorem dX10_doDeeds_72 : decode cX10_doDeeds 72 = .ok (.aload_n 1, 1) := by decide +kernel
theorem dX10_doDeeds_73 : decode cX10_doDeeds 73 = .ok (.dup, 1) := by decide +kernel
theorem dX10_doDeeds_74 : decode cX10_doDeeds 74 = .ok (.getfield 159, 3) := by decide +kernel
theorem dX10_doDeeds_77 : decode cX10_doDeeds 77 = .ok (.iconst 1, 1) := by decide +kernel
theorem dX10_doDeeds_78 : decode cX10_doDeeds 78 = .ok (.iload_n 2, 1) := by decide +kernel
theorem dX10_doDeeds_79 : decode cX10_doDeeds 79 = .ok (.ishl, 1) := by decide +kernel
theorem dX10_doDeeds_80 : decode cX10_doDeeds 80 = .ok (.ior, 1) := by decide +kernel
theorem dX10_doDeeds_81 : decode cX10_doDeeds 81 = .ok (.putfield 159, 3) := by decide +kernel
theorem dX10_doDeeds_84 : decode cX10_doDeeds 84 = .ok (.iinc 2 1, 3) := by decide +kernel
theorem dX10_doDeeds_87 : decode cX10_doDeeds 87 = .ok (.goto (-85), 3) := by decide +kernel
theorem dX10_doDeeds_90 : decode cX10_doDeeds 90 = .ok (.return_, 1) := by decide +kernel
def f10_doDeeds_b84 (K2 : Int32 → lu_M → Option (lu_M)) (K90 : lu_M → Option (lu_M)) (r0 : Nat) (r1 : Nat) (v2 : Int32) (m : lu_M) : Option (lu_M) :=
  K2 (v2 + (1 : Int32)) m
set_option maxRecDepth 20000 in
theorem w10_doDeeds_b84  {G : lu_G} {ρ : Nat → Nat} {r0 : Nat} {r1 : Nat} {K2 : Int32 → lu_M → Option (lu_M)} {K90 : lu_M → Option (lu_M)} (X : lu_X G RX10 cX10_doDeeds 3 2 42) (hret : (lu_me G).sig.returnType = none) (hT_r0 : lu_TC.2 r0 = (5, 0, 0)) (hr_r0 : r0 < lu_TC.1) (hT_r1 : lu_TC.2 r1 = (6, 0, 0)) (hr_r1 : r1 < lu_TC.1) (hK2 : ∀ (v2 : Int32) (m : lu_M), lu_Ab lu_TC G (lu_Q lu_TC G ρ lu_RVv lu_id) (K2 v2 m) 2 [(0, .ref (ρ r0)), (1, .ref (ρ r1)), (2, .int v2)] [] ρ 0 0 [] m) (hK90 : ∀  (m : lu_M), lu_Ab lu_TC G (lu_Q lu_TC G ρ lu_RVv lu_id) (K90 m) 90 [] [] ρ 0 0 [] m) : ∀ (v2 : Int32) (m : lu_M), lu_Ab lu_TC G (lu_Q lu_TC G ρ lu_RVv lu_id) (f10_doDeeds_b84 K2 K90 r0 r1 v2 m) 84 [(0, .ref (ρ r0)), (1, .ref (ρ r1)), (2, .int v2)] [] ρ 0 0 [] m := by
  intro v2 m
  unfold f10_doDeeds_b84
  refine lu_iinc (lv2 := [(2, .int (v2 + (1 : Int32))), (0, .ref (ρ r0)), (1, .ref (ρ r1))]) X dX10_doDeeds_84 (pc2 := 87) rfl 2 rfl (lu_ii _ ic_1) (by decide) rfl ?_
  refine lu_goto (tgt := 2) X dX10_doDeeds_87 (by decide) ?_
  exact lu_sub [1, 2, 0] rfl (hK2 (v2 + (1 : Int32)) m)
def f10_doDeeds_b57 (K2 : Int32 → lu_M → Option (lu_M)) (K90 : lu_M → Option (lu_M)) (r0 : Nat) (r1 : Nat) (v2 : Int32) (m : lu_M) : Option (lu_M) :=
  lu_nm (lu_st m r1 1 ((m r1 1) ||| ((1 : Int32) <<< (v2 &&& 31)))) fun m3 =>
  f10_doDeeds_b84 K2 K90 r0 r1 v2 m3
set_option maxRecDepth 20000 in
theorem w10_doDeeds_b57  {G : lu_G} {ρ : Nat → Nat} {r0 : Nat} {r1 : Nat} {K2 : Int32 → lu_M → Option (lu_M)} {K90 : lu_M → Option (lu_M)} (X : lu_X G RX10 cX10_doDeeds 3 2 42) (hret : (lu_me G).sig.returnType = none) (hT_r0 : lu_TC.2 r0 = (5, 0, 0)) (hr_r0 : r0 < lu_TC.1) (hT_r1 : lu_TC.2 r1 = (6, 0, 0)) (hr_r1 : r1 < lu_TC.1) (hK2 : ∀ (v2 : Int32) (m : lu_M), lu_Ab lu_TC G (lu_Q lu_TC G ρ lu_RVv lu_id) (K2 v2 m) 2 [(0, .ref (ρ r0)), (1, .ref (ρ r1)), (2, .int v2)] [] ρ 0 0 [] m) (hK90 : ∀  (m : lu_M), lu_Ab lu_TC G (lu_Q lu_TC G ρ lu_RVv lu_id) (K90 m) 90 [] [] ρ 0 0 [] m) : ∀ (v2 : Int32) (m : lu_M), lu_Ab lu_TC G (lu_Q lu_TC G ρ lu_RVv lu_id) (f10_doDeeds_b57 K2 K90 r0 r1 v2 m) 57 [(0, .ref (ρ r0)), (1, .ref (ρ r1)), (2, .int v2)] [] ρ 0 0 [] m := by
  intro v2 m
  unfold f10_doDeeds_b57
  refine lu_aload_n X dX10_doDeeds_57 (pc2 := 58) rfl rfl 1 rfl ?_
  refine lu_dup X dX10_doDeeds_58 (pc2 := 59) rfl rfl ?_
  refine lu_get X fl10_108 rfl hT_r1 hr_r1 dX10_doDeeds_59 (pc2 := 62) rfl ?_
  refine lu_iconst X dX10_doDeeds_62 (pc2 := 63) rfl ic_1 ?_
  refine lu_iload_n X dX10_doDeeds_63 (pc2 := 64) rfl rfl 2 rfl ?_
  refine lu_ishl X dX10_doDeeds_64 (pc2 := 65) rfl ?_
  refine lu_ior X dX10_doDeeds_65 (pc2 := 66) rfl ?_
  refine lu_put X fl10_108 rfl (Or.inl (by decide)) rfl (by decide +kernel) hT_r1 hr_r1 dX10_doDeeds_66 (pc2 := 69) rfl (fun m3 => ?_)
  refine lu_goto (tgt := 84) X dX10_doDeeds_69 (by decide) ?_
  exact w10_doDeeds_b84 X hret hT_r0 hr_r0 hT_r1 hr_r1 hK2 hK90 v2 m3
def f10_doDeeds_b2B (K90 : lu_M → Option (lu_M)) (rec : Int32 → lu_M → Option (lu_M)) (r0 : Nat) (r1 : Nat) (v2 : Int32) (m : lu_M) : Option (lu_M) :=
  if (m r0 2) ≤ v2 then (K90 m)
  else (lu_gd (lu_ib v2 10) <|
  if (m (r0 + 9) v2.toNatClampNeg) = (m r1 0) then (lu_bi (f1_how r1 v2 m) fun x1 m2 =>
  if x1 = 0 then (lu_gd (lu_ib v2 10) <|
  if (m2 (r0 + 11) v2.toNatClampNeg) = (-1 : Int32) then (f10_doDeeds_b57 rec K90 r0 r1 v2 m2)
  else (lu_gd (lu_ib v2 10) <|
  lu_bi (f1_isStanding r1 (m2 (r0 + 11) v2.toNatClampNeg) m2) fun x4 m5 =>
  if x4 = 0 then (lu_nm (lu_st m5 r1 4 ((m5 r1 4) ||| ((1 : Int32) <<< (v2 &&& 31)))) fun m6 =>
  f10_doDeeds_b84 rec K90 r0 r1 v2 m6)
  else (f10_doDeeds_b57 rec K90 r0 r1 v2 m5)))
  else (f10_doDeeds_b84 rec K90 r0 r1 v2 m2))
  else (f10_doDeeds_b84 rec K90 r0 r1 v2 m))
def f10_doDeeds_b2 (K90 : lu_M → Option (lu_M)) (r0 : Nat) (r1 : Nat) : Nat → Int32 → lu_M → Option (lu_M)
  | 0, _, _ => none
  | n + 1, v2, m => f10_doDeeds_b2B K90 (f10_doDeeds_b2 K90 r0 r1 n) r0 r1 v2 m
set_option maxRecDepth 20000 in
theorem w10_doDeeds_b2B  {G : lu_G} {ρ : Nat → Nat} {r0 : Nat} {r1 : Nat} {K90 : lu_M → Option (lu_M)} {rec : Int32 → lu_M → Option (lu_M)} (X : lu_X G RX10 cX10_doDeeds 3 2 42) (hret : (lu_me G).sig.returnType = none) (hT_r0 : lu_TC.2 r0 = (5, 0, 0)) (hr_r0 : r0 < lu_TC.1) (hT_r1 : lu_TC.2 r1 = (6, 0, 0)) (hr_r1 : r1 < lu_TC.1) (hK90 : ∀  (m : lu_M), lu_Ab lu_TC G (lu_Q lu_TC G ρ lu_RVv lu_id) (K90 m) 90 [] [] ρ 0 0 [] m) (hrec : ∀ (v2 : Int32) (m : lu_M), lu_Ab lu_TC G (lu_Q lu_TC G ρ lu_RVv lu_id) (rec v2 m) 2 [(0, .ref (ρ r0)), (1, .ref (ρ r1)), (2, .int v2)] [] ρ 0 0 [] m) : ∀ (v2 : Int32) (m : lu_M), lu_Ab lu_TC G (lu_Q lu_TC G ρ lu_RVv lu_id) (f10_doDeeds_b2B K90 rec r0 r1 v2 m) 2 [(0, .ref (ρ r0)), (1, .ref (ρ r1)), (2, .int v2)] [] ρ 0 0 [] m := by
  intro v2 m
  unfold f10_doDeeds_b2B
  refine lu_iload_n X dX10_doDeeds_2 (pc2 := 3) rfl rfl 2 rfl ?_
  refine lu_aload_n X dX10_doDeeds_3 (pc2 := 4) rfl rfl 0 rfl ?_
  refine lu_get X fl10_84 rfl hT_r0 hr_r0 dX10_doDeeds_4 (pc2 := 7) rfl ?_
  refine lu_icmp_ge (tgt := 90) X dX10_doDeeds_7 (pc2 := 10) rfl (by decide) (fun _ => ?_) (fun _ => ?_)
  · exact lu_sub [] rfl (hK90 m)
  · refine lu_aload_n X dX10_doDeeds_10 (pc2 := 11) rfl rfl 0 rfl ?_
    refine lu_getr (r2 := (r0 + 9)) X rfl fl10_25 rfl hT_r0 hr_r0 dX10_doDeeds_11 (pc2 := 14) rfl ?_
    refine lu_iload_n X dX10_doDeeds_14 (pc2 := 15) rfl rfl 2 rfl ?_
    refine lu_iald X ((koC_5_9 hT_r0 hr_r0).1) ((koC_5_9 hT_r0 hr_r0).2) dX10_doDeeds_15 (pc2 := 16) rfl ?_
    refine lu_aload_n X dX10_doDeeds_16 (pc2 := 17) rfl rfl 1 rfl ?_
    refine lu_get X fl10_101 rfl hT_r1 hr_r1 dX10_doDeeds_17 (pc2 := 20) rfl ?_
    refine lu_icmp_ne (tgt := 84) X dX10_doDeeds_20 (pc2 := 23) rfl (by decide) (fun _ => ?_) (fun _ => ?_)
    · exact w10_doDeeds_b84 X hret hT_r0 hr_r0 hT_r1 hr_r1 hrec hK90 v2 m
    · refine lu_aload_n X dX10_doDeeds_23 (pc2 := 24) rfl rfl 1 rfl ?_
      refine lu_iload_n X dX10_doDeeds_24 (pc2 := 25) rfl rfl 2 rfl ?_
      refine lu_invVi X (c1_how _ hT_r1 hr_r1 v2) rfl q729 mvV_1_how hT_r1 hr_r1 (by decide) ⟨_, rfl, rfl⟩ rfl rfl (Nat.le_of_ble_eq_true rfl) (Nat.le_of_ble_eq_true rfl) (Nat.le_of_ble_eq_true rfl) ⟨Nat.zero_le _, Nat.zero_le _⟩ dX10_doDeeds_25 (pc2 := 28) rfl rfl (fun x1 m2 => ?_)
      refine lu_if_eq (tgt := 34) X dX10_doDeeds_28 (pc2 := 31) rfl (by decide) (fun _ => ?_) (fun _ => ?_)
      · refine lu_aload_n X dX10_doDeeds_34 (pc2 := 35) rfl rfl 0 rfl ?_
        refine lu_getr (r2 := (r0 + 11)) X rfl fl10_31 rfl hT_r0 hr_r0 dX10_doDeeds_35 (pc2 := 38) rfl ?_
        refine lu_iload_n X dX10_doDeeds_38 (pc2 := 39) rfl rfl 2 rfl ?_
        refine lu_iald X ((koC_5_11 hT_r0 hr_r0).1) ((koC_5_11 hT_r0 hr_r0).2) dX10_doDeeds_39 (pc2 := 40) rfl ?_
        refine lu_iconst X dX10_doDeeds_40 (pc2 := 41) rfl ic_m1 ?_
        refine lu_icmp_eq (tgt := 57) X dX10_doDeeds_41 (pc2 := 44) rfl (by decide) (fun _ => ?_) (fun _ => ?_)
        · exact w10_doDeeds_b57 X hret hT_r0 hr_r0 hT_r1 hr_r1 hrec hK90 v2 m2
        · refine lu_aload_n X dX10_doDeeds_44 (pc2 := 45) rfl rfl 1 rfl ?_
          refine lu_aload_n X dX10_doDeeds_45 (pc2 := 46) rfl rfl 0 rfl ?_
          refine lu_getr (r2 := (r0 + 11)) X rfl fl10_31 rfl hT_r0 hr_r0 dX10_doDeeds_46 (pc2 := 49) rfl ?_
          refine lu_iload_n X dX10_doDeeds_49 (pc2 := 50) rfl rfl 2 rfl ?_
          refine lu_iald X ((koC_5_11 hT_r0 hr_r0).1) ((koC_5_11 hT_r0 hr_r0).2) dX10_doDeeds_50 (pc2 := 51) rfl ?_
          refine lu_invVi X (c1_isStanding _ hT_r1 hr_r1 (m2 (r0 + 11) v2.toNatClampNeg)) rfl q730 mvV_1_isStanding hT_r1 hr_r1 (by decide) ⟨_, rfl, rfl⟩ rfl rfl (Nat.le_of_ble_eq_true rfl) (Nat.le_of_ble_eq_true rfl) (Nat.le_of_ble_eq_true rfl) ⟨Nat.zero_le _, Nat.zero_le _⟩ dX10_doDeeds_51 (pc2 := 54) rfl rfl (fun x4 m5 => ?_)
          refine lu_if_eq (tgt := 72) X dX10_doDeeds_54 (pc2 := 57) rfl (by decide) (fun _ => ?_) (fun _ => ?_)
          · refine lu_aload_n X dX10_doDeeds_72 (pc2 := 73) rfl rfl 1 rfl ?_
            refine lu_dup X dX10_doDeeds_73 (pc2 := 74) rfl rfl ?_
            refine lu_get X fl10_159 rfl hT_r1 hr_r1 dX10_doDeeds_74 (pc2 := 77) rfl ?_
            refine lu_iconst X dX10_doDeeds_77 (pc2 := 78) rfl ic_1 ?_
            refine lu_iload_n X dX10_doDeeds_78 (pc2 := 79) rfl rfl 2 rfl ?_
            refine lu_ishl X dX10_doDeeds_79 (pc2 := 80) rfl ?_
            refine lu_ior X dX10_doDeeds_80 (pc2 := 81) rfl ?_
            refine lu_put X fl10_159 rfl (Or.inl (by decide)) rfl (by decide +kernel) hT_r1 hr_r1 dX10_doDeeds_81 (pc2 := 84) rfl (fun m6 => ?_)
            exact w10_doDeeds_b84 X hret hT_r0 hr_r0 hT_r1 hr_r1 hrec hK90 v2 m6
          · exact w10_doDeeds_b57 X hret hT_r0 hr_r0 hT_r1 hr_r1 hrec hK90 v2 m5
      · refine lu_goto (tgt := 84) X dX10_doDeeds_31 (by decide) ?_
        exact w10_doDeeds_b84 X hret hT_r0 hr_r0 hT_r1 hr_r1 hrec hK90 v2 m2
theorem w10_doDeeds_b2  {G : lu_G} {ρ : Nat → Nat} {r0 : Nat} {r1 : Nat} {K90 : lu_M → Option (lu_M)} (X : lu_X G RX10 cX10_doDeeds 3 2 42) (hret : (lu_me G).sig.returnType = none) (hT_r0 : lu_TC.2 r0 = (5, 0, 0)) (hr_r0 : r0 < lu_TC.1) (hT_r1 : lu_TC.2 r1 = (6, 0, 0)) (hr_r1 : r1 < lu_TC.1) (hK90 : ∀  (m : lu_M), lu_Ab lu_TC G (lu_Q lu_TC G ρ lu_RVv lu_id) (K90 m) 90 [] [] ρ 0 0 [] m) : ∀ (n : Nat) (v2 : Int32) (m : lu_M), lu_Ab lu_TC G (lu_Q lu_TC G ρ lu_RVv lu_id) (f10_doDeeds_b2 K90 r0 r1 n v2 m) 2 [(0, .ref (ρ r0)), (1, .ref (ρ r1)), (2, .int v2)] [] ρ 0 0 [] m := by
  intro n
  induction n with
  | zero => intro v2 m; exact lu_none
  | succ n ih => intro v2 m; exact w10_doDeeds_b2B X hret hT_r0 hr_r0 hT_r1 hr_r1 hK90 ih v2 m
def f10_doDeeds_b90  (r0 : Nat) (r1 : Nat)  (m : lu_M) : Option (lu_M) :=
  some m
set_option maxRecDepth 20000 in
theorem w10_doDeeds_b90  {G : lu_G} {ρ : Nat → Nat} {r0 : Nat} {r1 : Nat}  (X : lu_X G RX10 cX10_doDeeds 3 2 42) (hret : (lu_me G).sig.returnType = none) (hT_r0 : lu_TC.2 r0 = (5, 0, 0)) (hr_r0 : r0 < lu_TC.1) (hT_r1 : lu_TC.2 r1 = (6, 0, 0)) (hr_r1 : r1 < lu_TC.1)  : ∀  (m : lu_M), lu_Ab lu_TC G (lu_Q lu_TC G ρ lu_RVv lu_id) (f10_doDeeds_b90 r0 r1 m) 90 [] [] ρ 0 0 [] m := by
  intro  m
  unfold f10_doDeeds_b90
  exact lu_vret X hret dX10_doDeeds_90
def f10_doDeeds (r0 : Nat) (r1 : Nat) (m : lu_M) : Option (lu_M) :=
  f10_doDeeds_b2 (f10_doDeeds_b90 r0 r1) r0 r1 lu_fu (0 : Int32) m
set_option maxRecDepth 20000 in
theorem c10_doDeeds (l : Launch) {r0 : Nat} {r1 : Nat} (hT_r0 : lu_TC.2 r0 = (5, 0, 0)) (hr_r0 : r0 < lu_TC.1) (hT_r1 : lu_TC.2 r1 = (6, 0, 0)) (hr_r1 : r1 < lu_TC.1)  : lu_C lu_TC l yX10_doDeeds cX10_doDeeds 3 none 2 42 (fun ρ sa => [.ref (ρ r0), .ref (ρ r1)]) (f10_doDeeds r0 r1) lu_RVv lu_id := by
  refine lu_met (cls := RX10) rfl (by decide +kernel) (fun _ _ => Nat.le_of_ble_eq_true rfl) ?_
  intro G ρ m hl X hret
  subst hl
  change lu_Ab lu_TC G (lu_Q lu_TC G ρ lu_RVv lu_id) (f10_doDeeds r0 r1 m) 0 [(0, .ref (ρ r0)), (1, .ref (ρ r1))] [] ρ 0 0 [] m
  unfold f10_doDeeds
  refine lu_iconst X dX10_doDeeds_0 (pc2 := 1) rfl ic_0 ?_
  refine lu_istore_n (lv2 := [(2, .int (0 : Int32)), (0, .ref (ρ r0)), (1, .ref (ρ r1))]) X dX10_doDeeds_1 (pc2 := 2) rfl rfl (by decide) rfl ?_
  exact lu_sub [1, 2, 0] rfl (w10_doDeeds_b2 X hret hT_r0 hr_r0 hT_r1 hr_r1 (w10_doDeeds_b90 X hret hT_r0 hr_r0 hT_r1 hr_r1) lu_fu (0 : Int32) m)

theorem dX9_pull_0 : decode cX9_pull 0 = .ok (.aload_n 0, 1) := by decide +kernel
theorem dX9_pull_1 : decode cX9_pull 1 = .ok (.iload_n 1, 1) := by decide +kernel
theorem dX9_pull_2 : decode cX9_pull 2 = .ok (.invokespecial 11, 3) := by decide +kernel
theorem dX9_pull_5 : decode cX9_pull 5 = .ok (.iconst 1, 1) := by decide +kernel
theorem dX9_pull_6 : decode cX9_pull 6 = .ok (.iadd, 1) := by decide +kernel
theorem dX9_pull_7 : decode cX9_pull 7 = .ok (.ireturn, 1) := by decide +kernel
def f9_pull (r0 : Nat) (a1 : Int32) (m : lu_M) : Option (Int32 × lu_M) :=
  lu_bi (f3_pull r0 a1 m) fun x1 m2 =>
  some ((x1 + (1 : Int32)), m2)
set_option maxRecDepth 20000 in
theorem c9_pull (l : Launch) {r0 : Nat} (hT_r0 : lu_TC.2 r0 = (10, 0, 0)) (hr_r0 : r0 < lu_TC.1) (a1 : Int32) : lu_C lu_TC l yX9_pull cX9_pull 2 (some .int) 1 21 (fun ρ sa => [.ref (ρ r0), .int a1]) (f9_pull r0 a1) lu_RVi lu_sn := by
  refine lu_met (cls := RX9) rfl (by decide +kernel) (fun _ _ => Nat.le_of_ble_eq_true rfl) ?_
  intro G ρ m hl X hret
  subst hl
  change lu_Ab lu_TC G (lu_Q lu_TC G ρ lu_RVi lu_sn) (f9_pull r0 a1 m) 0 [(0, .ref (ρ r0)), (1, .int a1)] [] ρ 0 0 [] m
  unfold f9_pull
  refine lu_aload_n X dX9_pull_0 (pc2 := 1) rfl rfl 0 rfl ?_
  refine lu_iload_n X dX9_pull_1 (pc2 := 2) rfl rfl 1 rfl ?_
  refine lu_invPi X (c3_pull _ hT_r0 hr_r0 a1) rfl q469 mvP9_2_pull hT_r0 hr_r0 (by decide) (by decide) rfl rfl (Nat.le_of_ble_eq_true rfl) (Nat.le_of_ble_eq_true rfl) (Nat.le_of_ble_eq_true rfl) ⟨Nat.zero_le _, Nat.zero_le _⟩ dX9_pull_2 (pc2 := 5) rfl rfl (fun x1 m2 => ?_)
  refine lu_iconst X dX9_pull_5 (pc2 := 6) rfl ic_1 ?_
  refine lu_iadd X dX9_pull_6 (pc2 := 7) rfl ?_
  exact lu_iret X hret dX9_pull_7

def g3_pull (r : Nat) (a1 : Int32) (m : lu_M) : Option (Int32 × lu_M) := if m r 0 = 1 then f0_pull r a1 m else if m r 0 = 2 then f3_pull r a1 m else if m r 0 = 3 then f9_pull r a1 m else if m r 0 = 4 then f7_pull r a1 m else if m r 0 = 5 then f4_pull r a1 m else f3_pull r a1 m
theorem v3_pull {β : Type} {G : lu_G} {Q : β → State → Prop} {pc pc2 : Nat} {lv : List (Nat × Value)} {st rest : List Value} {ρ : Nat → Nat} {k n : Nat} {ex : va_W} {m : lu_M} {own : String} {cc : ByteArray} {nL fr lo index r : Nat} {a1 : Int32} {ov : Option (Int32 × lu_M)} {Ko : Int32 → lu_M → Option β} (X : lu_X G own cc nL fr lo) (ml : Cond.methodLink own index yX3_pull ∈ lu_ws) (hT : lu_TC.2 r = (10, 0, 0)) (hr : r < lu_TC.1) (hf : g3_pull r a1 m = ov) (hroom : (rest.map fun v => v.category).sum ≤ 8) (hfr : 2 + 1 ≤ fr) (hlo : 8 + (0 + 11) + 44 ≤ lo) (hk : k ≤ (lu_R G).cells ∧ n ≤ (lu_R G).slots) (d : decode cc pc = .ok (.invokevirtual index, 3)) (hp : pc + 3 = pc2) (hst : st = [.int a1].reverse ++ .ref (ρ r) :: rest) (kk : ∀ (x : Int32) (m9 : lu_M), lu_Ab lu_TC G Q (Ko x m9) pc2 lv (.int x :: rest) ρ k n ex m9) : lu_Ab lu_TC G Q (lu_bi ov Ko) pc lv st ρ k n ex m := by
  subst hf
  unfold g3_pull
  by_cases h1 : m r 0 = 1
  · rw [if_pos h1]
    exact lu_invOi X (c0_pull _ hT hr a1) rfl ml mvO_0_3_pull_0_pull hT hr (by decide) ⟨(RX0, TX0, 6), by rw [h1]; rfl, rfl⟩ rfl rfl hroom (Nat.le_trans (Nat.le_of_ble_eq_true rfl) hfr) (Nat.le_trans (Nat.le_of_ble_eq_true rfl) hlo) hk d hp hst kk
  rw [if_neg h1]
  by_cases h2 : m r 0 = 2
  · rw [if_pos h2]
    exact lu_invOi X (c3_pull _ hT hr a1) rfl ml mvO_2_3_pull_3_pull hT hr (by decide) ⟨(RX2, TX2, 6), by rw [h2]; rfl, rfl⟩ rfl rfl hroom (Nat.le_trans (Nat.le_of_ble_eq_true rfl) hfr) (Nat.le_trans (Nat.le_of_ble_eq_true rfl) hlo) hk d hp hst kk
  rw [if_neg h2]
  by_cases h3 : m r 0 = 3
  · rw [if_pos h3]
    exact lu_invOi X (c9_pull _ hT hr a1) rfl ml mvO_9_3_pull_9_pull hT hr (by decide) ⟨(RX9, TX9, 6), by rw [h3]; rfl, rfl⟩ rfl rfl hroom (Nat.le_trans (Nat.le_of_ble_eq_true rfl) hfr) (Nat.le_trans (Nat.le_of_ble_eq_true rfl) hlo) hk d hp hst kk
  rw [if_neg h3]
  by_cases h4 : m r 0 = 4
  · rw [if_pos h4]
    exact lu_invOi X (c7_pull _ hT hr a1) rfl ml mvO_7_3_pull_7_pull hT hr (by decide) ⟨(RX7, TX7, 6), by rw [h4]; rfl, rfl⟩ rfl rfl hroom (Nat.le_trans (Nat.le_of_ble_eq_true rfl) hfr) (Nat.le_trans (Nat.le_of_ble_eq_true rfl) hlo) hk d hp hst kk
  rw [if_neg h4]
  by_cases h5 : m r 0 = 5
  · rw [if_pos h5]
    exact lu_invOi X (c4_pull _ hT hr a1) rfl ml mvO_4_3_pull_4_pull hT hr (by decide) ⟨(RX4, TX4, 6), by rw [h5]; rfl, rfl⟩ rfl rfl hroom (Nat.le_trans (Nat.le_of_ble_eq_true rfl) hfr) (Nat.le_trans (Nat.le_of_ble_eq_true rfl) hlo) hk d hp hst kk
  rw [if_neg h5]
  exact lu_invOi X (c3_pull _ hT hr a1) rfl ml mvO_3_3_pull_3_pull hT hr (by decide) ⟨(RX3, TX3, 6), by show lu_cl[lu_hk (m r 0)]? = _; unfold lu_hk; rw [if_neg h1, if_neg h2, if_neg h3, if_neg h4, if_neg h5]; rfl, rfl⟩ rfl rfl hroom (Nat.le_trans (Nat.le_of_ble_eq_true rfl) hfr) (Nat.le_trans (Nat.le_of_ble_eq_true rfl) hlo) hk d hp hst kk

theorem dX10_borne_0 : decode cX10_borne 0 = .ok (.aload_n 0, 1) := by decide +kernel
theorem dX10_borne_1 : decode cX10_borne 1 = .ok (.getfield 37, 3) := by decide +kernel
theorem dX10_borne_4 : decode cX10_borne 4 = .ok (.iload_n 1, 1) := by decide +kernel
theorem dX10_borne_5 : decode cX10_borne 5 = .ok (.iaload, 1) := by decide +kernel
theorem dX10_borne_6 : decode cX10_borne 6 = .ok (.aload_n 2, 1) := by decide +kernel
theorem dX10_borne_7 : decode cX10_borne 7 = .ok (.getfield 108, 3) := by decide +kernel
theorem dX10_borne_10 : decode cX10_borne 10 = .ok (.iand, 1) := by decide +kernel
theorem dX10_borne_11 : decode cX10_borne 11 = .ok (.istore_n 3, 1) := by decide +kernel
theorem dX10_borne_12 : decode cX10_borne 12 = .ok (.iconst 0, 1) := by decide +kernel
theorem dX10_borne_13 : decode cX10_borne 13 = .ok (.istore 4, 2) := by decide +kernel
theorem dX10_borne_15 : decode cX10_borne 15 = .ok (.iconst 0, 1) := by decide +kernel
theorem dX10_borne_16 : decode cX10_borne 16 = .ok (.istore 5, 2) := by decide +kernel
theorem dX10_borne_18 : decode cX10_borne 18 = .ok (.iload 5, 2) := by decide +kernel
theorem dX10_borne_20 : decode cX10_borne 20 = .ok (.aload_n 0, 1) := by decide +kernel
theorem dX10_borne_21 : decode cX10_borne 21 = .ok (.getfield 84, 3) := by decide +kernel
theorem dX10_borne_24 : decode cX10_borne 24 = .ok (.if_icmp .ge 31, 3) := by decide +kernel
theorem dX10_borne_27 : decode cX10_borne 27 = .ok (.iload_n 3, 1) := by decide +kernel
theorem dX10_borne_28 : decode cX10_borne 28 = .ok (.iload 5, 2) := by decide +kernel
theorem dX10_borne_30 : decode cX10_borne 30 = .ok (.ishr, 1) := by decide +kernel
theorem dX10_borne_31 : decode cX10_borne 31 = .ok (.iconst 1, 1) := by decide +kernel
theorem dX10_borne_32 : decode cX10_borne 32 = .ok (.iand, 1) := by decide +kernel
theorem dX10_borne_33 : decode cX10_borne 33 = .ok (.iconst 1, 1) := by decide +kernel
theorem dX10_borne_34 : decode cX10_borne 34 = .ok (.if_icmp .ne 15, 3) := by decide +kernel
theorem dX10_borne_37 : decode cX10_borne 37 = .ok (.iload 4, 2) := by decide +kernel
theorem dX10_borne_39 : decode cX10_borne 39 = .ok (.aload_n 0, 1) := by decide +kernel
theorem dX10_borne_40 : decode cX10_borne 40 = .ok (.getfield 28, 3) := by decide +kernel
theorem dX10_borne_43 : decode cX10_borne 43 = .ok (.iload 5, 2) := by decide +kernel
theorem dX10_borne_45 : decode cX10_borne 45 = .ok (.iaload, 1) := by decide +kernel
theorem dX10_borne_46 : decode cX10_borne 46 = .ok (.iadd, 1) := by decide +kernel
theorem dX10_borne_47 : decode cX10_borne 47 = .ok (.istore 4, 2) := by decide +kernel
theorem dX10_borne_49 : decode cX10_borne 49 = .ok (.iinc 5 1, 3) := by decide +kernel
theorem dX10_borne_52 : decode cX10_borne 52 = .ok (.goto (-34), 3) := by decide +kernel
theorem dX10_borne_55 : decode cX10_borne 55 = .ok (.iload 4, 2) := by decide +kernel
theorem dX10_borne_57 : decode cX10_borne 57 = .ok (.ireturn, 1) := by decide +kernel
def f10_borne_b49 (K18 : Int32 → Int32 → Int32 → lu_M → Option (Int32 × lu_M)) (K55 : Int32 → lu_M → Option (Int32 × lu_M)) (r0 : Nat) (a1 : Int32) (r2 : Nat) (v3 : Int32) (v4 : Int32) (v5 : Int32) (m : lu_M) : Option (Int32 × lu_M) :=
  K18 v3 v4 (v5 + (1 : Int32)) m
set_option maxRecDepth 20000 in
theorem w10_borne_b49  {G : lu_G} {ρ : Nat → Nat} {r0 : Nat} {a1 : Int32} {r2 : Nat} {K18 : Int32 → Int32 → Int32 → lu_M → Option (Int32 × lu_M)} {K55 : Int32 → lu_M → Option (Int32 × lu_M)} (X : lu_X G RX10 cX10_borne 6 0 0) (hret : (lu_me G).sig.returnType = (some .int)) (hT_r0 : lu_TC.2 r0 = (5, 0, 0)) (hr_r0 : r0 < lu_TC.1) (hT_r2 : lu_TC.2 r2 = (6, 0, 0)) (hr_r2 : r2 < lu_TC.1) (hK18 : ∀ (v3 : Int32) (v4 : Int32) (v5 : Int32) (m : lu_M), lu_Ab lu_TC G (lu_Q lu_TC G ρ lu_RVi lu_sn) (K18 v3 v4 v5 m) 18 [(0, .ref (ρ r0)), (3, .int v3), (4, .int v4), (5, .int v5)] [] ρ 0 0 [] m) (hK55 : ∀ (v4 : Int32) (m : lu_M), lu_Ab lu_TC G (lu_Q lu_TC G ρ lu_RVi lu_sn) (K55 v4 m) 55 [(4, .int v4)] [] ρ 0 0 [] m) : ∀ (v3 : Int32) (v4 : Int32) (v5 : Int32) (m : lu_M), lu_Ab lu_TC G (lu_Q lu_TC G ρ lu_RVi lu_sn) (f10_borne_b49 K18 K55 r0 a1 r2 v3 v4 v5 m) 49 [(0, .ref (ρ r0)), (3, .int v3), (4, .int v4), (5, .int v5)] [] ρ 0 0 [] m := by
  intro v3 v4 v5 m
  unfold f10_borne_b49
  refine lu_iinc (lv2 := [(5, .int (v5 + (1 : Int32))), (0, .ref (ρ r0)), (3, .int v3), (4, .int v4)]) X dX10_borne_49 (pc2 := 52) rfl 3 rfl (lu_ii _ ic_1) (by decide) rfl ?_
  refine lu_goto (tgt := 18) X dX10_borne_52 (by decide) ?_
  exact lu_sub [1, 2, 3, 0] rfl (hK18 v3 v4 (v5 + (1 : Int32)) m)
def f10_borne_b18B (K55 : Int32 → lu_M → Option (Int32 × lu_M)) (rec : Int32 → Int32 → Int32 → lu_M → Option (Int32 × lu_M)) (r0 : Nat) (a1 : Int32) (r2 : Nat) (v3 : Int32) (v4 : Int32) (v5 : Int32) (m : lu_M) : Option (Int32 × lu_M) :=
  if (m r0 2) ≤ v5 then (K55 v4 m)
  else (if ((v3 >>> (v5 &&& 31)) &&& (1 : Int32)) = (1 : Int32) then (lu_gd (lu_ib v5 10) <|
  lu_nm ((v4 + (m (r0 + 10) v5.toNatClampNeg))) fun x2 =>
  f10_borne_b49 rec K55 r0 a1 r2 v3 x2 v5 m)
  else (f10_borne_b49 rec K55 r0 a1 r2 v3 v4 v5 m))
def f10_borne_b18 (K55 : Int32 → lu_M → Option (Int32 × lu_M)) (r0 : Nat) (a1 : Int32) (r2 : Nat) : Nat → Int32 → Int32 → Int32 → lu_M → Option (Int32 × lu_M)
  | 0, _, _, _, _ => none
  | n + 1, v3, v4, v5, m => f10_borne_b18B K55 (f10_borne_b18 K55 r0 a1 r2 n) r0 a1 r2 v3 v4 v5 m
set_option maxRecDepth 20000 in
theorem w10_borne_b18B  {G : lu_G} {ρ : Nat → Nat} {r0 : Nat} {a1 : Int32} {r2 : Nat} {K55 : Int32 → lu_M → Option (Int32 × lu_M)} {rec : Int32 → Int32 → Int32 → lu_M → Option (Int32 × lu_M)} (X : lu_X G RX10 cX10_borne 6 0 0) (hret : (lu_me G).sig.returnType = (some .int)) (hT_r0 : lu_TC.2 r0 = (5, 0, 0)) (hr_r0 : r0 < lu_TC.1) (hT_r2 : lu_TC.2 r2 = (6, 0, 0)) (hr_r2 : r2 < lu_TC.1) (hK55 : ∀ (v4 : Int32) (m : lu_M), lu_Ab lu_TC G (lu_Q lu_TC G ρ lu_RVi lu_sn) (K55 v4 m) 55 [(4, .int v4)] [] ρ 0 0 [] m) (hrec : ∀ (v3 : Int32) (v4 : Int32) (v5 : Int32) (m : lu_M), lu_Ab lu_TC G (lu_Q lu_TC G ρ lu_RVi lu_sn) (rec v3 v4 v5 m) 18 [(0, .ref (ρ r0)), (3, .int v3), (4, .int v4), (5, .int v5)] [] ρ 0 0 [] m) : ∀ (v3 : Int32) (v4 : Int32) (v5 : Int32) (m : lu_M), lu_Ab lu_TC G (lu_Q lu_TC G ρ lu_RVi lu_sn) (f10_borne_b18B K55 rec r0 a1 r2 v3 v4 v5 m) 18 [(0, .ref (ρ r0)), (3, .int v3), (4, .int v4), (5, .int v5)] [] ρ 0 0 [] m := by
  intro v3 v4 v5 m
  unfold f10_borne_b18B
  refine lu_iload X dX10_borne_18 (pc2 := 20) rfl 3 rfl ?_
  refine lu_aload_n X dX10_borne_20 (pc2 := 21) rfl rfl 0 rfl ?_
  refine lu_get X fl10_84 rfl hT_r0 hr_r0 dX10_borne_21 (pc2 := 24) rfl ?_
  refine lu_icmp_ge (tgt := 55) X dX10_borne_24 (pc2 := 27) rfl (by decide) (fun _ => ?_) (fun _ => ?_)
  · exact lu_sub [2] rfl (hK55 v4 m)
  · refine lu_iload_n X dX10_borne_27 (pc2 := 28) rfl rfl 1 rfl ?_
    refine lu_iload X dX10_borne_28 (pc2 := 30) rfl 3 rfl ?_
    refine lu_ishr X dX10_borne_30 (pc2 := 31) rfl ?_
    refine lu_iconst X dX10_borne_31 (pc2 := 32) rfl ic_1 ?_
    refine lu_iand X dX10_borne_32 (pc2 := 33) rfl ?_
    refine lu_iconst X dX10_borne_33 (pc2 := 34) rfl ic_1 ?_
    refine lu_icmp_ne (tgt := 49) X dX10_borne_34 (pc2 := 37) rfl (by decide) (fun _ => ?_) (fun _ => ?_)
    · exact w10_borne_b49 X hret hT_r0 hr_r0 hT_r2 hr_r2 hrec hK55 v3 v4 v5 m
    · refine lu_iload X dX10_borne_37 (pc2 := 39) rfl 2 rfl ?_
      refine lu_aload_n X dX10_borne_39 (pc2 := 40) rfl rfl 0 rfl ?_
      refine lu_getr (r2 := (r0 + 10)) X rfl fl10_28 rfl hT_r0 hr_r0 dX10_borne_40 (pc2 := 43) rfl ?_
      refine lu_iload X dX10_borne_43 (pc2 := 45) rfl 3 rfl ?_
      refine lu_iald X ((koC_5_10 hT_r0 hr_r0).1) ((koC_5_10 hT_r0 hr_r0).2) dX10_borne_45 (pc2 := 46) rfl ?_
      refine lu_iadd X dX10_borne_46 (pc2 := 47) rfl ?_
      refine lu_topi (fun x2 => ?_)
      refine lu_istore (lv2 := [(4, .int x2), (0, .ref (ρ r0)), (3, .int v3), (5, .int v5)]) X dX10_borne_47 (pc2 := 49) rfl (by decide) rfl ?_
      exact lu_sub [1, 2, 0, 3] rfl (w10_borne_b49 X hret hT_r0 hr_r0 hT_r2 hr_r2 hrec hK55 v3 x2 v5 m)
theorem w10_borne_b18  {G : lu_G} {ρ : Nat → Nat} {r0 : Nat} {a1 : Int32} {r2 : Nat} {K55 : Int32 → lu_M → Option (Int32 × lu_M)} (X : lu_X G RX10 cX10_borne 6 0 0) (hret : (lu_me G).sig.returnType = (some .int)) (hT_r0 : lu_TC.2 r0 = (5, 0, 0)) (hr_r0 : r0 < lu_TC.1) (hT_r2 : lu_TC.2 r2 = (6, 0, 0)) (hr_r2 : r2 < lu_TC.1) (hK55 : ∀ (v4 : Int32) (m : lu_M), lu_Ab lu_TC G (lu_Q lu_TC G ρ lu_RVi lu_sn) (K55 v4 m) 55 [(4, .int v4)] [] ρ 0 0 [] m) : ∀ (n : Nat) (v3 : Int32) (v4 : Int32) (v5 : Int32) (m : lu_M), lu_Ab lu_TC G (lu_Q lu_TC G ρ lu_RVi lu_sn) (f10_borne_b18 K55 r0 a1 r2 n v3 v4 v5 m) 18 [(0, .ref (ρ r0)), (3, .int v3), (4, .int v4), (5, .int v5)] [] ρ 0 0 [] m := by
  intro n
  induction n with
  | zero => intro v3 v4 v5 m; exact lu_none
  | succ n ih => intro v3 v4 v5 m; exact w10_borne_b18B X hret hT_r0 hr_r0 hT_r2 hr_r2 hK55 ih v3 v4 v5 m
def f10_borne_b55  (r0 : Nat) (a1 : Int32) (r2 : Nat) (v4 : Int32) (m : lu_M) : Option (Int32 × lu_M) :=
  some (v4, m)
set_option maxRecDepth 20000 in
theorem w10_borne_b55  {G : lu_G} {ρ : Nat → Nat} {r0 : Nat} {a1 : Int32} {r2 : Nat}  (X : lu_X G RX10 cX10_borne 6 0 0) (hret : (lu_me G).sig.returnType = (some .int)) (hT_r0 : lu_TC.2 r0 = (5, 0, 0)) (hr_r0 : r0 < lu_TC.1) (hT_r2 : lu_TC.2 r2 = (6, 0, 0)) (hr_r2 : r2 < lu_TC.1)  : ∀ (v4 : Int32) (m : lu_M), lu_Ab lu_TC G (lu_Q lu_TC G ρ lu_RVi lu_sn) (f10_borne_b55 r0 a1 r2 v4 m) 55 [(4, .int v4)] [] ρ 0 0 [] m := by
  intro v4 m
  unfold f10_borne_b55
  refine lu_iload X dX10_borne_55 (pc2 := 57) rfl 0 rfl ?_
  exact lu_iret X hret dX10_borne_57
def f10_borne (r0 : Nat) (a1 : Int32) (r2 : Nat) (m : lu_M) : Option (Int32 × lu_M) :=
  lu_gd (lu_ib a1 6) <|
  lu_nm (((m (r0 + 13) a1.toNatClampNeg) &&& (m r2 1))) fun x1 =>
  f10_borne_b18 (f10_borne_b55 r0 a1 r2) r0 a1 r2 lu_fu x1 (0 : Int32) (0 : Int32) m
set_option maxRecDepth 20000 in
theorem c10_borne (l : Launch) {r0 : Nat} {r2 : Nat} (hT_r0 : lu_TC.2 r0 = (5, 0, 0)) (hr_r0 : r0 < lu_TC.1) (hT_r2 : lu_TC.2 r2 = (6, 0, 0)) (hr_r2 : r2 < lu_TC.1) (a1 : Int32) : lu_C lu_TC l yX10_borne cX10_borne 6 (some .int) 0 0 (fun ρ sa => [.ref (ρ r0), .int a1, .ref (ρ r2)]) (f10_borne r0 a1 r2) lu_RVi lu_sn := by
  refine lu_met (cls := RX10) rfl (by decide +kernel) (fun _ _ => Nat.le_of_ble_eq_true rfl) ?_
  intro G ρ m hl X hret
  subst hl
  change lu_Ab lu_TC G (lu_Q lu_TC G ρ lu_RVi lu_sn) (f10_borne r0 a1 r2 m) 0 [(0, .ref (ρ r0)), (1, .int a1), (2, .ref (ρ r2))] [] ρ 0 0 [] m
  unfold f10_borne
  refine lu_aload_n X dX10_borne_0 (pc2 := 1) rfl rfl 0 rfl ?_
  refine lu_getr (r2 := (r0 + 13)) X rfl fl10_37 rfl hT_r0 hr_r0 dX10_borne_1 (pc2 := 4) rfl ?_
  refine lu_iload_n X dX10_borne_4 (pc2 := 5) rfl rfl 1 rfl ?_
  refine lu_iald X ((koC_5_13 hT_r0 hr_r0).1) ((koC_5_13 hT_r0 hr_r0).2) dX10_borne_5 (pc2 := 6) rfl ?_
  refine lu_aload_n X dX10_borne_6 (pc2 := 7) rfl rfl 2 rfl ?_
  refine lu_get X fl10_108 rfl hT_r2 hr_r2 dX10_borne_7 (pc2 := 10) rfl ?_
  refine lu_iand X dX10_borne_10 (pc2 := 11) rfl ?_
  refine lu_topi (fun x1 => ?_)
  refine lu_istore_n (lv2 := [(3, .int x1), (0, .ref (ρ r0)), (1, .int a1), (2, .ref (ρ r2))]) X dX10_borne_11 (pc2 := 12) rfl rfl (by decide) rfl ?_
  refine lu_iconst X dX10_borne_12 (pc2 := 13) rfl ic_0 ?_
  refine lu_istore (lv2 := [(4, .int (0 : Int32)), (3, .int x1), (0, .ref (ρ r0)), (1, .int a1), (2, .ref (ρ r2))]) X dX10_borne_13 (pc2 := 15) rfl (by decide) rfl ?_
  refine lu_iconst X dX10_borne_15 (pc2 := 16) rfl ic_0 ?_
  refine lu_istore (lv2 := [(5, .int (0 : Int32)), (4, .int (0 : Int32)), (3, .int x1), (0, .ref (ρ r0)), (1, .int a1), (2, .ref (ρ r2))]) X dX10_borne_16 (pc2 := 18) rfl (by decide) rfl ?_
  exact lu_sub [3, 2, 1, 0] rfl (w10_borne_b18 X hret hT_r0 hr_r0 hT_r2 hr_r2 (w10_borne_b55 X hret hT_r0 hr_r0 hT_r2 hr_r2) lu_fu x1 (0 : Int32) (0 : Int32) m)

theorem dX11_isWithin_0 : decode cX11_isWithin 0 = .ok (.iload_n 0, 1) := by decide +kernel
theorem dX11_isWithin_1 : decode cX11_isWithin 1 = .ok (.iload_n 1, 1) := by decide +kernel
theorem dX11_isWithin_2 : decode cX11_isWithin 2 = .ok (.if_icmp .lt 12, 3) := by decide +kernel
theorem dX11_isWithin_5 : decode cX11_isWithin 5 = .ok (.iload_n 0, 1) := by decide +kernel
theorem dX11_isWithin_6 : decode cX11_isWithin 6 = .ok (.iload_n 2, 1) := by decide +kernel
theorem dX11_isWithin_7 : decode cX11_isWithin 7 = .ok (.if_icmp .gt 7, 3) := by decide +kernel
theorem dX11_isWithin_10 : decode cX11_isWithin 10 = .ok (.iconst 1, 1) := by decide +kernel
theorem dX11_isWithin_11 : decode cX11_isWithin 11 = .ok (.goto 4, 3) := by decide +kernel
theorem dX11_isWithin_14 : decode cX11_isWithin 14 = .ok (.iconst 0, 1) := by decide +kernel
theorem dX11_isWithin_15 : decode cX11_isWithin 15 = .ok (.ireturn, 1) := by decide +kernel
def f11_isWithin_b15  (a0 : Int32) (a1 : Int32) (a2 : Int32) (s0 : Int32) (m : lu_M) : Option (Int32 × lu_M) :=
  lu_gd (decide (s0 = 0 ∨ s0 = 1)) (some (s0, m))
set_option maxRecDepth 20000 in
theorem w11_isWithin_b15  {G : lu_G} {ρ : Nat → Nat} {a0 : Int32} {a1 : Int32} {a2 : Int32}  (X : lu_X G RX11 cX11_isWithin 3 0 0) (hret : (lu_me G).sig.returnType = (some .boolean))   : ∀ (s0 : Int32) (m : lu_M), lu_Ab lu_TC G (lu_Q lu_TC G ρ lu_RVi lu_sn) (f11_isWithin_b15 a0 a1 a2 s0 m) 15 [] [.int s0] ρ 0 0 [] m := by
  intro s0 m
  unfold f11_isWithin_b15
  exact lu_zretG X hret dX11_isWithin_15
def f11_isWithin_b14  (a0 : Int32) (a1 : Int32) (a2 : Int32)  (m : lu_M) : Option (Int32 × lu_M) :=
  f11_isWithin_b15 a0 a1 a2 (0 : Int32) m
set_option maxRecDepth 20000 in
theorem w11_isWithin_b14  {G : lu_G} {ρ : Nat → Nat} {a0 : Int32} {a1 : Int32} {a2 : Int32}  (X : lu_X G RX11 cX11_isWithin 3 0 0) (hret : (lu_me G).sig.returnType = (some .boolean))   : ∀  (m : lu_M), lu_Ab lu_TC G (lu_Q lu_TC G ρ lu_RVi lu_sn) (f11_isWithin_b14 a0 a1 a2 m) 14 [] [] ρ 0 0 [] m := by
  intro  m
  unfold f11_isWithin_b14
  refine lu_iconst X dX11_isWithin_14 (pc2 := 15) rfl ic_0 ?_
  exact w11_isWithin_b15 X hret (0 : Int32) m
def f11_isWithin (a0 : Int32) (a1 : Int32) (a2 : Int32) (m : lu_M) : Option (Int32 × lu_M) :=
  if a0 < a1 then (f11_isWithin_b14 a0 a1 a2 m)
  else (if a2 < a0 then (f11_isWithin_b14 a0 a1 a2 m)
  else (f11_isWithin_b15 a0 a1 a2 (1 : Int32) m))
set_option maxRecDepth 20000 in
theorem c11_isWithin (l : Launch)   (a0 : Int32) (a1 : Int32) (a2 : Int32) : lu_C lu_TC l yX11_isWithin cX11_isWithin 3 (some .boolean) 0 0 (fun ρ sa => [.int a0, .int a1, .int a2]) (f11_isWithin a0 a1 a2) lu_RVi lu_sn := by
  refine lu_met (cls := RX11) rfl (by decide +kernel) (fun _ _ => Nat.le_of_ble_eq_true rfl) ?_
  intro G ρ m hl X hret
  subst hl
  change lu_Ab lu_TC G (lu_Q lu_TC G ρ lu_RVi lu_sn) (f11_isWithin a0 a1 a2 m) 0 [(0, .int a0), (1, .int a1), (2, .int a2)] [] ρ 0 0 [] m
  unfold f11_isWithin
  refine lu_iload_n X dX11_isWithin_0 (pc2 := 1) rfl rfl 0 rfl ?_
  refine lu_iload_n X dX11_isWithin_1 (pc2 := 2) rfl rfl 1 rfl ?_
  refine lu_icmp_lt (tgt := 14) X dX11_isWithin_2 (pc2 := 5) rfl (by decide) (fun _ => ?_) (fun _ => ?_)
  · exact lu_sub [] rfl (w11_isWithin_b14 X hret m)
  · refine lu_iload_n X dX11_isWithin_5 (pc2 := 6) rfl rfl 0 rfl ?_
    refine lu_iload_n X dX11_isWithin_6 (pc2 := 7) rfl rfl 2 rfl ?_
    refine lu_icmp_gt (tgt := 14) X dX11_isWithin_7 (pc2 := 10) rfl (by decide) (fun _ => ?_) (fun _ => ?_)
    · exact lu_sub [] rfl (w11_isWithin_b14 X hret m)
    · refine lu_iconst X dX11_isWithin_10 (pc2 := 11) rfl ic_1 ?_
      refine lu_goto (tgt := 15) X dX11_isWithin_11 (by decide) ?_
      exact lu_sub [] rfl (w11_isWithin_b15 X hret (1 : Int32) m)

theorem dX11_isUnder_0 : decode cX11_isUnder 0 = .ok (.iload_n 0, 1) := by decide +kernel
theorem dX11_isUnder_1 : decode cX11_isUnder 1 = .ok (.iload_n 1, 1) := by decide +kernel
theorem dX11_isUnder_2 : decode cX11_isUnder 2 = .ok (.if_icmp .eq 25, 3) := by decide +kernel
theorem dX11_isUnder_5 : decode cX11_isUnder 5 = .ok (.iload_n 1, 1) := by decide +kernel
theorem dX11_isUnder_6 : decode cX11_isUnder 6 = .ok (.ifCond .eq 21, 3) := by decide +kernel
theorem dX11_isUnder_9 : decode cX11_isUnder 9 = .ok (.iload_n 0, 1) := by decide +kernel
theorem dX11_isUnder_10 : decode cX11_isUnder 10 = .ok (.iconst 0, 1) := by decide +kernel
theorem dX11_isUnder_11 : decode cX11_isUnder 11 = .ok (.iconst 5, 1) := by decide +kernel
theorem dX11_isUnder_12 : decode cX11_isUnder 12 = .ok (.invokestatic 92, 3) := by decide +kernel
theorem dX11_isUnder_15 : decode cX11_isUnder 15 = .ok (.ifCond .eq 16, 3) := by decide +kernel
theorem dX11_isUnder_18 : decode cX11_isUnder 18 = .ok (.getstatic 328, 3) := by decide +kernel
theorem dX11_isUnder_21 : decode cX11_isUnder 21 = .ok (.iload_n 0, 1) := by decide +kernel
theorem dX11_isUnder_22 : decode cX11_isUnder 22 = .ok (.iaload, 1) := by decide +kernel
theorem dX11_isUnder_23 : decode cX11_isUnder 23 = .ok (.iload_n 1, 1) := by decide +kernel
theorem dX11_isUnder_24 : decode cX11_isUnder 24 = .ok (.if_icmp .ne 7, 3) := by decide +kernel
theorem dX11_isUnder_27 : decode cX11_isUnder 27 = .ok (.iconst 1, 1) := by decide +kernel
theorem dX11_isUnder_28 : decode cX11_isUnder 28 = .ok (.goto 4, 3) := by decide +kernel
theorem dX11_isUnder_31 : decode cX11_isUnder 31 = .ok (.iconst 0, 1) := by decide +kernel
theorem dX11_isUnder_32 : decode cX11_isUnder 32 = .ok (.ireturn, 1) := by decide +kernel
def f11_isUnder_b32  (a0 : Int32) (a1 : Int32) (s0 : Int32) (m : lu_M) : Option (Int32 × lu_M) :=
  lu_gd (decide (s0 = 0 ∨ s0 = 1)) (some (s0, m))
set_option maxRecDepth 20000 in
theorem w11_isUnder_b32  {G : lu_G} {ρ : Nat → Nat} {a0 : Int32} {a1 : Int32}  (X : lu_X G RX11 cX11_isUnder 2 1 22) (hret : (lu_me G).sig.returnType = (some .boolean))   : ∀ (s0 : Int32) (m : lu_M), lu_Ab lu_TC G (lu_Q lu_TC G ρ lu_RVi lu_sn) (f11_isUnder_b32 a0 a1 s0 m) 32 [] [.int s0] ρ 0 0 [] m := by
  intro s0 m
  unfold f11_isUnder_b32
  exact lu_zretG X hret dX11_isUnder_32
def f11_isUnder_b27  (a0 : Int32) (a1 : Int32)  (m : lu_M) : Option (Int32 × lu_M) :=
  f11_isUnder_b32 a0 a1 (1 : Int32) m
set_option maxRecDepth 20000 in
theorem w11_isUnder_b27  {G : lu_G} {ρ : Nat → Nat} {a0 : Int32} {a1 : Int32}  (X : lu_X G RX11 cX11_isUnder 2 1 22) (hret : (lu_me G).sig.returnType = (some .boolean))   : ∀  (m : lu_M), lu_Ab lu_TC G (lu_Q lu_TC G ρ lu_RVi lu_sn) (f11_isUnder_b27 a0 a1 m) 27 [] [] ρ 0 0 [] m := by
  intro  m
  unfold f11_isUnder_b27
  refine lu_iconst X dX11_isUnder_27 (pc2 := 28) rfl ic_1 ?_
  refine lu_goto (tgt := 32) X dX11_isUnder_28 (by decide) ?_
  exact w11_isUnder_b32 X hret (1 : Int32) m
def f11_isUnder_b31  (a0 : Int32) (a1 : Int32)  (m : lu_M) : Option (Int32 × lu_M) :=
  f11_isUnder_b32 a0 a1 (0 : Int32) m
set_option maxRecDepth 20000 in
theorem w11_isUnder_b31  {G : lu_G} {ρ : Nat → Nat} {a0 : Int32} {a1 : Int32}  (X : lu_X G RX11 cX11_isUnder 2 1 22) (hret : (lu_me G).sig.returnType = (some .boolean))   : ∀  (m : lu_M), lu_Ab lu_TC G (lu_Q lu_TC G ρ lu_RVi lu_sn) (f11_isUnder_b31 a0 a1 m) 31 [] [] ρ 0 0 [] m := by
  intro  m
  unfold f11_isUnder_b31
  refine lu_iconst X dX11_isUnder_31 (pc2 := 32) rfl ic_0 ?_
  exact w11_isUnder_b32 X hret (0 : Int32) m
def f11_isUnder (a0 : Int32) (a1 : Int32) (m : lu_M) : Option (Int32 × lu_M) :=
  if a0 = a1 then (f11_isUnder_b27 a0 a1 m)
  else (if a1 = 0 then (f11_isUnder_b27 a0 a1 m)
  else (lu_bi (f11_isWithin a0 (0 : Int32) (5 : Int32) m) fun x1 m2 =>
  if x1 = 0 then (f11_isUnder_b31 a0 a1 m2)
  else (lu_gd (lu_ib a0 6) <|
  if (lu_ab a0.toNatClampNeg) = a1 then (f11_isUnder_b27 a0 a1 m2)
  else (f11_isUnder_b31 a0 a1 m2))))
set_option maxRecDepth 20000 in
theorem c11_isUnder (l : Launch)   (a0 : Int32) (a1 : Int32) : lu_C lu_TC l yX11_isUnder cX11_isUnder 2 (some .boolean) 1 22 (fun ρ sa => [.int a0, .int a1]) (f11_isUnder a0 a1) lu_RVi lu_sn := by
  refine lu_met (cls := RX11) rfl (by decide +kernel) (fun _ _ => Nat.le_of_ble_eq_true rfl) ?_
  intro G ρ m hl X hret
  subst hl
  change lu_Ab lu_TC G (lu_Q lu_TC G ρ lu_RVi lu_sn) (f11_isUnder a0 a1 m) 0 [(0, .int a0), (1, .int a1)] [] ρ 0 0 [] m
  unfold f11_isUnder
  refine lu_iload_n X dX11_isUnder_0 (pc2 := 1) rfl rfl 0 rfl ?_
  refine lu_iload_n X dX11_isUnder_1 (pc2 := 2) rfl rfl 1 rfl ?_
  refine lu_icmp_eq (tgt := 27) X dX11_isUnder_2 (pc2 := 5) rfl (by decide) (fun _ => ?_) (fun _ => ?_)
  · exact lu_sub [] rfl (w11_isUnder_b27 X hret m)
  · refine lu_iload_n X dX11_isUnder_5 (pc2 := 6) rfl rfl 1 rfl ?_
    refine lu_if_eq (tgt := 27) X dX11_isUnder_6 (pc2 := 9) rfl (by decide) (fun _ => ?_) (fun _ => ?_)
    · exact lu_sub [] rfl (w11_isUnder_b27 X hret m)
    · refine lu_iload_n X dX11_isUnder_9 (pc2 := 10) rfl rfl 0 rfl ?_
      refine lu_iconst X dX11_isUnder_10 (pc2 := 11) rfl ic_0 ?_
      refine lu_iconst X dX11_isUnder_11 (pc2 := 12) rfl ic_5 ?_
      refine lu_invSi X (c11_isWithin _ a0 (0 : Int32) (5 : Int32)) rfl q433 mvS_11_isWithin rfl rfl (Nat.le_of_ble_eq_true rfl) (Nat.le_of_ble_eq_true rfl) (Nat.le_of_ble_eq_true rfl) ⟨Nat.zero_le _, Nat.zero_le _⟩ dX11_isUnder_12 (pc2 := 15) rfl rfl (fun x1 m2 => ?_)
      refine lu_if_eq (tgt := 31) X dX11_isUnder_15 (pc2 := 18) rfl (by decide) (fun _ => ?_) (fun _ => ?_)
      · exact lu_sub [] rfl (w11_isUnder_b31 X hret m2)
      · refine lu_gets X q486 dX11_isUnder_18 (pc2 := 21) rfl ?_
        refine lu_iload_n X dX11_isUnder_21 (pc2 := 22) rfl rfl 0 rfl ?_
        refine lu_tald X dX11_isUnder_22 (pc2 := 23) rfl ?_
        refine lu_iload_n X dX11_isUnder_23 (pc2 := 24) rfl rfl 1 rfl ?_
        refine lu_icmp_ne (tgt := 31) X dX11_isUnder_24 (pc2 := 27) rfl (by decide) (fun _ => ?_) (fun _ => ?_)
        · exact lu_sub [] rfl (w11_isUnder_b31 X hret m2)
        · exact lu_sub [] rfl (w11_isUnder_b27 X hret m2)

theorem dX6_isSo_0 : decode cX6_isSo 0 = .ok (.iload_n 0, 1) := by decide +kernel
theorem dX6_isSo_1 : decode cX6_isSo 1 = .ok (.bipush 14, 2) := by decide +kernel
theorem dX6_isSo_3 : decode cX6_isSo 3 = .ok (.ishr, 1) := by decide +kernel
theorem dX6_isSo_4 : decode cX6_isSo 4 = .ok (.sipush 16383, 3) := by decide +kernel
theorem dX6_isSo_7 : decode cX6_isSo 7 = .ok (.iand, 1) := by decide +kernel
theorem dX6_isSo_8 : decode cX6_isSo 8 = .ok (.istore_n 2, 1) := by decide +kernel
theorem dX6_isSo_9 : decode cX6_isSo 9 = .ok (.iload_n 0, 1) := by decide +kernel
theorem dX6_isSo_10 : decode cX6_isSo 10 = .ok (.sipush 16383, 3) := by decide +kernel
theorem dX6_isSo_13 : decode cX6_isSo 13 = .ok (.iand, 1) := by decide +kernel
theorem dX6_isSo_14 : decode cX6_isSo 14 = .ok (.istore_n 3, 1) := by decide +kernel
theorem dX6_isSo_15 : decode cX6_isSo 15 = .ok (.iload_n 2, 1) := by decide +kernel
theorem dX6_isSo_16 : decode cX6_isSo 16 = .ok (.sipush 10000, 3) := by decide +kernel
theorem dX6_isSo_19 : decode cX6_isSo 19 = .ok (.if_icmp .lt 21, 3) := by decide +kernel
theorem dX6_isSo_22 : decode cX6_isSo 22 = .ok (.iload_n 2, 1) := by decide +kernel
theorem dX6_isSo_23 : decode cX6_isSo 23 = .ok (.sipush 10000, 3) := by decide +kernel
theorem dX6_isSo_26 : decode cX6_isSo 26 = .ok (.isub, 1) := by decide +kernel
theorem dX6_isSo_27 : decode cX6_isSo 27 = .ok (.aload_n 1, 1) := by decide +kernel
theorem dX6_isSo_28 : decode cX6_isSo 28 = .ok (.arraylength, 1) := by decide +kernel
theorem dX6_isSo_29 : decode cX6_isSo 29 = .ok (.if_icmp .ge 11, 3) := by decide +kernel
theorem dX6_isSo_32 : decode cX6_isSo 32 = .ok (.aload_n 1, 1) := by decide +kernel
theorem dX6_isSo_33 : decode cX6_isSo 33 = .ok (.iload_n 2, 1) := by decide +kernel
theorem dX6_isSo_34 : decode cX6_isSo 34 = .ok (.sipush 10000, 3) := by decide +kernel
theorem dX6_isSo_37 : decode cX6_isSo 37 = .ok (.isub, 1) := by decide +kernel
theorem dX6_isSo_38 : decode cX6_isSo 38 = .ok (.iaload, 1) := by decide +kernel
theorem dX6_isSo_39 : decode cX6_isSo 39 = .ok (.istore_n 2, 1) := by decide +kernel
theorem dX6_isSo_40 : decode cX6_isSo 40 = .ok (.iload_n 3, 1) := by decide +kernel
theorem dX6_isSo_41 : decode cX6_isSo 41 = .ok (.sipush 10000, 3) := by decide +kernel
theorem dX6_isSo_44 : decode cX6_isSo 44 = .ok (.if_icmp .lt 21, 3) := by decide +kernel
theorem dX6_isSo_47 : decode cX6_isSo 47 = .ok (.iload_n 3, 1) := by decide +kernel
theorem dX6_isSo_48 : decode cX6_isSo 48 = .ok (.sipush 10000, 3) := by decide +kernel
theorem dX6_isSo_51 : decode cX6_isSo 51 = .ok (.isub, 1) := by decide +kernel
theorem dX6_isSo_52 : decode cX6_isSo 52 = .ok (.aload_n 1, 1) := by decide +kernel
theorem dX6_isSo_53 : decode cX6_isSo 53 = .ok (.arraylength, 1) := by decide +kernel
theorem dX6_isSo_54 : decode cX6_isSo 54 = .ok (.if_icmp .ge 11, 3) := by decide +kernel
theorem dX6_isSo_57 : decode cX6_isSo 57 = .ok (.aload_n 1, 1) := by decide +kernel
theorem dX6_isSo_58 : decode cX6_isSo 58 = .ok (.iload_n 3, 1) := by decide +kernel
theorem dX6_isSo_59 : decode cX6_isSo 59 = .ok (.sipush 10000, 3) := by decide +kernel
theorem dX6_isSo_62 : decode cX6_isSo 62 = .ok (.isub, 1) := by decide +kernel
theorem dX6_isSo_63 : decode cX6_isSo 63 = .ok (.iaload, 1) := by decide +kernel
theorem dX6_isSo_64 : decode cX6_isSo 64 = .ok (.istore_n 3, 1) := by decide +kernel
theorem dX6_isSo_65 : decode cX6_isSo 65 = .ok (.iload_n 0, 1) := by decide +kernel
theorem dX6_isSo_66 : decode cX6_isSo 66 = .ok (.bipush 28, 2) := by decide +kernel
theorem dX6_isSo_68 : decode cX6_isSo 68 = .ok (.ishr, 1) := by decide +kernel
theorem dX6_isSo_69 : decode cX6_isSo 69 = .ok (.lookupswitch 49 #[(1, 27), (2, 38)], 27) := by decide +kernel
theorem dX6_isSo_96 : decode cX6_isSo 96 = .ok (.iload_n 2, 1) := by decide +kernel
theorem dX6_isSo_97 : decode cX6_isSo 97 = .ok (.iload_n 3, 1) := by decide +kernel
theorem dX6_isSo_98 : decode cX6_isSo 98 = .ok (.if_icmp .ge 7, 3) := by decide +kernel
theorem dX6_isSo_101 : decode cX6_isSo 101 = .ok (.iconst 1, 1) := by decide +kernel
theorem dX6_isSo_102 : decode cX6_isSo 102 = .ok (.goto 4, 3) := by decide +kernel
theorem dX6_isSo_105 : decode cX6_isSo 105 = .ok (.iconst 0, 1) := by decide +kernel
theorem dX6_isSo_106 : decode cX6_isSo 106 = .ok (.ireturn, 1) := by decide +kernel
theorem dX6_isSo_107 : decode cX6_isSo 107 = .ok (.iload_n 2, 1) := by decide +kernel
theorem dX6_isSo_108 : decode cX6_isSo 108 = .ok (.iload_n 3, 1) := by decide +kernel
theorem dX6_isSo_109 : decode cX6_isSo 109 = .ok (.if_icmp .ne 7, 3) := by decide +kernel
theorem dX6_isSo_112 : decode cX6_isSo 112 = .ok (.iconst 1, 1) := by decide +kernel
theorem dX6_isSo_113 : decode cX6_isSo 113 = .ok (.goto 4, 3) := by decide +kernel
theorem dX6_isSo_116 : decode cX6_isSo 116 = .ok (.iconst 0, 1) := by decide +kernel
theorem dX6_isSo_117 : decode cX6_isSo 117 = .ok (.ireturn, 1) := by decide +kernel
theorem dX6_isSo_118 : decode cX6_isSo 118 = .ok (.iload_n 2, 1) := by decide +kernel
theorem dX6_isSo_119 : decode cX6_isSo 119 = .ok (.iload_n 3, 1) := by decide +kernel
theorem dX6_isSo_120 : decode cX6_isSo 120 = .ok (.if_icmp .le 7, 3) := by decide +kernel
theorem dX6_isSo_123 : decode cX6_isSo 123 = .ok (.iconst 1, 1) := by decide +kernel
theorem dX6_isSo_124 : decode cX6_isSo 124 = .ok (.goto 4, 3) := by decide +kernel
theorem dX6_isSo_127 : decode cX6_isSo 127 = .ok (.iconst 0, 1) := by decide +kernel
theorem dX6_isSo_128 : decode cX6_isSo 128 = .ok (.ireturn, 1) := by decide +kernel
def f6_isSo_b106  (a0 : Int32) (r1 : Nat) (s0 : Int32) (m : lu_M) : Option (Int32 × lu_M) :=
  lu_gd (decide (s0 = 0 ∨ s0 = 1)) (some (s0, m))
set_option maxRecDepth 20000 in
theorem w6_isSo_b106  {G : lu_G} {ρ : Nat → Nat} {a0 : Int32} {r1 : Nat}  (X : lu_X G RX6 cX6_isSo 4 0 0) (hret : (lu_me G).sig.returnType = (some .boolean)) (hT_r1 : lu_TC.2 r1 = (0, 5, 0)) (hr_r1 : r1 < lu_TC.1)  : ∀ (s0 : Int32) (m : lu_M), lu_Ab lu_TC G (lu_Q lu_TC G ρ lu_RVi lu_sn) (f6_isSo_b106 a0 r1 s0 m) 106 [] [.int s0] ρ 0 0 [] m := by
  intro s0 m
  unfold f6_isSo_b106
  exact lu_zretG X hret dX6_isSo_106
def f6_isSo_b117  (a0 : Int32) (r1 : Nat) (s0 : Int32) (m : lu_M) : Option (Int32 × lu_M) :=
  lu_gd (decide (s0 = 0 ∨ s0 = 1)) (some (s0, m))
set_option maxRecDepth 20000 in
theorem w6_isSo_b117  {G : lu_G} {ρ : Nat → Nat} {a0 : Int32} {r1 : Nat}  (X : lu_X G RX6 cX6_isSo 4 0 0) (hret : (lu_me G).sig.returnType = (some .boolean)) (hT_r1 : lu_TC.2 r1 = (0, 5, 0)) (hr_r1 : r1 < lu_TC.1)  : ∀ (s0 : Int32) (m : lu_M), lu_Ab lu_TC G (lu_Q lu_TC G ρ lu_RVi lu_sn) (f6_isSo_b117 a0 r1 s0 m) 117 [] [.int s0] ρ 0 0 [] m := by
  intro s0 m
  unfold f6_isSo_b117
  exact lu_zretG X hret dX6_isSo_117
def f6_isSo_b128  (a0 : Int32) (r1 : Nat) (s0 : Int32) (m : lu_M) : Option (Int32 × lu_M) :=
  lu_gd (decide (s0 = 0 ∨ s0 = 1)) (some (s0, m))
set_option maxRecDepth 20000 in
theorem w6_isSo_b128  {G : lu_G} {ρ : Nat → Nat} {a0 : Int32} {r1 : Nat}  (X : lu_X G RX6 cX6_isSo 4 0 0) (hret : (lu_me G).sig.returnType = (some .boolean)) (hT_r1 : lu_TC.2 r1 = (0, 5, 0)) (hr_r1 : r1 < lu_TC.1)  : ∀ (s0 : Int32) (m : lu_M), lu_Ab lu_TC G (lu_Q lu_TC G ρ lu_RVi lu_sn) (f6_isSo_b128 a0 r1 s0 m) 128 [] [.int s0] ρ 0 0 [] m := by
  intro s0 m
  unfold f6_isSo_b128
  exact lu_zretG X hret dX6_isSo_128
def f6_isSo_b65  (a0 : Int32) (r1 : Nat) (v2 : Int32) (v3 : Int32) (m : lu_M) : Option (Int32 × lu_M) :=
  if (a0 >>> ((28 : Int32) &&& 31)) = (1 : Int32) then (if v3 ≤ v2 then (f6_isSo_b106 a0 r1 (0 : Int32) m)
  else (f6_isSo_b106 a0 r1 (1 : Int32) m))
  else (if (a0 >>> ((28 : Int32) &&& 31)) = (2 : Int32) then (if v2 = v3 then (f6_isSo_b117 a0 r1 (1 : Int32) m)
  else (f6_isSo_b117 a0 r1 (0 : Int32) m))
  else (if v2 ≤ v3 then (f6_isSo_b128 a0 r1 (0 : Int32) m)
  else (f6_isSo_b128 a0 r1 (1 : Int32) m)))
set_option maxRecDepth 20000 in
theorem w6_isSo_b65  {G : lu_G} {ρ : Nat → Nat} {a0 : Int32} {r1 : Nat}  (X : lu_X G RX6 cX6_isSo 4 0 0) (hret : (lu_me G).sig.returnType = (some .boolean)) (hT_r1 : lu_TC.2 r1 = (0, 5, 0)) (hr_r1 : r1 < lu_TC.1)  : ∀ (v2 : Int32) (v3 : Int32) (m : lu_M), lu_Ab lu_TC G (lu_Q lu_TC G ρ lu_RVi lu_sn) (f6_isSo_b65 a0 r1 v2 v3 m) 65 [(0, .int a0), (2, .int v2), (3, .int v3)] [] ρ 0 0 [] m := by
  intro v2 v3 m
  unfold f6_isSo_b65
  refine lu_iload_n X dX6_isSo_65 (pc2 := 66) rfl rfl 0 rfl ?_
  refine lu_bipush X dX6_isSo_66 (pc2 := 68) rfl bp_28 ?_
  refine lu_ishr X dX6_isSo_68 (pc2 := 69) rfl ?_
  refine lu_ite (fun c0 => ?_) (fun c0 => ?_)
  · refine lu_lsw (tgt := 96) (off := 27) X dX6_isSo_69 (by decide) (by rw [c0]; decide) (by decide) ?_
    refine lu_iload_n X dX6_isSo_96 (pc2 := 97) rfl rfl 1 rfl ?_
    refine lu_iload_n X dX6_isSo_97 (pc2 := 98) rfl rfl 2 rfl ?_
    refine lu_icmp_ge (tgt := 105) X dX6_isSo_98 (pc2 := 101) rfl (by decide) (fun _ => ?_) (fun _ => ?_)
    · refine lu_iconst X dX6_isSo_105 (pc2 := 106) rfl ic_0 ?_
      exact lu_sub [] rfl (w6_isSo_b106 X hret hT_r1 hr_r1 (0 : Int32) m)
    · refine lu_iconst X dX6_isSo_101 (pc2 := 102) rfl ic_1 ?_
      refine lu_goto (tgt := 106) X dX6_isSo_102 (by decide) ?_
      exact lu_sub [] rfl (w6_isSo_b106 X hret hT_r1 hr_r1 (1 : Int32) m)
  · refine lu_ite (fun c1 => ?_) (fun c1 => ?_)
    · refine lu_lsw (tgt := 107) (off := 38) X dX6_isSo_69 (by decide) (by rw [c1]; decide) (by decide) ?_
      refine lu_iload_n X dX6_isSo_107 (pc2 := 108) rfl rfl 1 rfl ?_
      refine lu_iload_n X dX6_isSo_108 (pc2 := 109) rfl rfl 2 rfl ?_
      refine lu_icmp_ne (tgt := 116) X dX6_isSo_109 (pc2 := 112) rfl (by decide) (fun _ => ?_) (fun _ => ?_)
      · refine lu_iconst X dX6_isSo_116 (pc2 := 117) rfl ic_0 ?_
        exact lu_sub [] rfl (w6_isSo_b117 X hret hT_r1 hr_r1 (0 : Int32) m)
      · refine lu_iconst X dX6_isSo_112 (pc2 := 113) rfl ic_1 ?_
        refine lu_goto (tgt := 117) X dX6_isSo_113 (by decide) ?_
        exact lu_sub [] rfl (w6_isSo_b117 X hret hT_r1 hr_r1 (1 : Int32) m)
    · refine lu_lsw (tgt := 118) (off := 49) X dX6_isSo_69 (by decide) (by show Op.lookupswitch.offset [((1 : Int), (27 : Int)), ((2 : Int), (38 : Int))] _ _ = _; rw [lv_osw c0 (by decide)]; rw [lv_osw c1 (by decide)]; rfl) (by decide) ?_
      refine lu_iload_n X dX6_isSo_118 (pc2 := 119) rfl rfl 1 rfl ?_
      refine lu_iload_n X dX6_isSo_119 (pc2 := 120) rfl rfl 2 rfl ?_
      refine lu_icmp_le (tgt := 127) X dX6_isSo_120 (pc2 := 123) rfl (by decide) (fun _ => ?_) (fun _ => ?_)
      · refine lu_iconst X dX6_isSo_127 (pc2 := 128) rfl ic_0 ?_
        exact lu_sub [] rfl (w6_isSo_b128 X hret hT_r1 hr_r1 (0 : Int32) m)
      · refine lu_iconst X dX6_isSo_123 (pc2 := 124) rfl ic_1 ?_
        refine lu_goto (tgt := 128) X dX6_isSo_124 (by decide) ?_
        exact lu_sub [] rfl (w6_isSo_b128 X hret hT_r1 hr_r1 (1 : Int32) m)
def f6_isSo_b40  (a0 : Int32) (r1 : Nat) (v2 : Int32) (v3 : Int32) (m : lu_M) : Option (Int32 × lu_M) :=
  if v3 < (10000 : Int32) then (f6_isSo_b65 a0 r1 v2 v3 m)
  else (if (5 : Int32) ≤ (v3 - (10000 : Int32)) then (f6_isSo_b65 a0 r1 v2 v3 m)
  else (lu_gd (lu_ib (v3 - (10000 : Int32)) 5) <|
  lu_nm ((m r1 (v3 - (10000 : Int32)).toNatClampNeg)) fun x3 =>
  f6_isSo_b65 a0 r1 v2 x3 m))
set_option maxRecDepth 20000 in
theorem w6_isSo_b40  {G : lu_G} {ρ : Nat → Nat} {a0 : Int32} {r1 : Nat}  (X : lu_X G RX6 cX6_isSo 4 0 0) (hret : (lu_me G).sig.returnType = (some .boolean)) (hT_r1 : lu_TC.2 r1 = (0, 5, 0)) (hr_r1 : r1 < lu_TC.1)  : ∀ (v2 : Int32) (v3 : Int32) (m : lu_M), lu_Ab lu_TC G (lu_Q lu_TC G ρ lu_RVi lu_sn) (f6_isSo_b40 a0 r1 v2 v3 m) 40 [(0, .int a0), (1, .ref (ρ r1)), (2, .int v2), (3, .int v3)] [] ρ 0 0 [] m := by
  intro v2 v3 m
  unfold f6_isSo_b40
  refine lu_iload_n X dX6_isSo_40 (pc2 := 41) rfl rfl 3 rfl ?_
  refine lu_sipush X dX6_isSo_41 (pc2 := 44) rfl sp_10000 ?_
  refine lu_icmp_lt (tgt := 65) X dX6_isSo_44 (pc2 := 47) rfl (by decide) (fun _ => ?_) (fun _ => ?_)
  · exact lu_sub [0, 2, 3] rfl (w6_isSo_b65 X hret hT_r1 hr_r1 v2 v3 m)
  · refine lu_iload_n X dX6_isSo_47 (pc2 := 48) rfl rfl 3 rfl ?_
    refine lu_sipush X dX6_isSo_48 (pc2 := 51) rfl sp_10000 ?_
    refine lu_isub X dX6_isSo_51 (pc2 := 52) rfl ?_
    refine lu_aload_n X dX6_isSo_52 (pc2 := 53) rfl rfl 1 rfl ?_
    refine lu_alen (v := (5 : Int32)) X (by decide) hT_r1 hr_r1 dX6_isSo_53 (pc2 := 54) rfl ?_
    refine lu_icmp_ge (tgt := 65) X dX6_isSo_54 (pc2 := 57) rfl (by decide) (fun _ => ?_) (fun _ => ?_)
    · exact lu_sub [0, 2, 3] rfl (w6_isSo_b65 X hret hT_r1 hr_r1 v2 v3 m)
    · refine lu_aload_n X dX6_isSo_57 (pc2 := 58) rfl rfl 1 rfl ?_
      refine lu_iload_n X dX6_isSo_58 (pc2 := 59) rfl rfl 3 rfl ?_
      refine lu_sipush X dX6_isSo_59 (pc2 := 62) rfl sp_10000 ?_
      refine lu_isub X dX6_isSo_62 (pc2 := 63) rfl ?_
      refine lu_iald X hT_r1 hr_r1 dX6_isSo_63 (pc2 := 64) rfl ?_
      refine lu_topi (fun x3 => ?_)
      refine lu_istore_n (lv2 := [(3, .int x3), (0, .int a0), (1, .ref (ρ r1)), (2, .int v2)]) X dX6_isSo_64 (pc2 := 65) rfl rfl (by decide) rfl ?_
      exact lu_sub [1, 3, 0] rfl (w6_isSo_b65 X hret hT_r1 hr_r1 v2 x3 m)
def f6_isSo (a0 : Int32) (r1 : Nat) (m : lu_M) : Option (Int32 × lu_M) :=
  lu_nm (((a0 >>> ((14 : Int32) &&& 31)) &&& (16383 : Int32))) fun x1 =>
  lu_nm ((a0 &&& (16383 : Int32))) fun x2 =>
  if x1 < (10000 : Int32) then (f6_isSo_b40 a0 r1 x1 x2 m)
  else (if (5 : Int32) ≤ (x1 - (10000 : Int32)) then (f6_isSo_b40 a0 r1 x1 x2 m)
  else (lu_gd (lu_ib (x1 - (10000 : Int32)) 5) <|
  lu_nm ((m r1 (x1 - (10000 : Int32)).toNatClampNeg)) fun x4 =>
  f6_isSo_b40 a0 r1 x4 x2 m))
set_option maxRecDepth 20000 in
theorem c6_isSo (l : Launch) {r1 : Nat} (hT_r1 : lu_TC.2 r1 = (0, 5, 0)) (hr_r1 : r1 < lu_TC.1) (a0 : Int32) : lu_C lu_TC l yX6_isSo cX6_isSo 4 (some .boolean) 0 0 (fun ρ sa => [.int a0, .ref (ρ r1)]) (f6_isSo a0 r1) lu_RVi lu_sn := by
  refine lu_met (cls := RX6) rfl (by decide +kernel) (fun _ _ => Nat.le_of_ble_eq_true rfl) ?_
  intro G ρ m hl X hret
  subst hl
  change lu_Ab lu_TC G (lu_Q lu_TC G ρ lu_RVi lu_sn) (f6_isSo a0 r1 m) 0 [(0, .int a0), (1, .ref (ρ r1))] [] ρ 0 0 [] m
  unfold f6_isSo
  refine lu_iload_n X dX6_isSo_0 (pc2 := 1) rfl rfl 0 rfl ?_
  refine lu_bipush X dX6_isSo_1 (pc2 := 3) rfl bp_14 ?_
  refine lu_ishr X dX6_isSo_3 (pc2 := 4) rfl ?_
  refine lu_sipush X dX6_isSo_4 (pc2 := 7) rfl sp_16383 ?_
  refine lu_iand X dX6_isSo_7 (pc2 := 8) rfl ?_
  refine lu_topi (fun x1 => ?_)
  refine lu_istore_n (lv2 := [(2, .int x1), (0, .int a0), (1, .ref (ρ r1))]) X dX6_isSo_8 (pc2 := 9) rfl rfl (by decide) rfl ?_
  refine lu_iload_n X dX6_isSo_9 (pc2 := 10) rfl rfl 1 rfl ?_
  refine lu_sipush X dX6_isSo_10 (pc2 := 13) rfl sp_16383 ?_
  refine lu_iand X dX6_isSo_13 (pc2 := 14) rfl ?_
  refine lu_topi (fun x2 => ?_)
  refine lu_istore_n (lv2 := [(3, .int x2), (2, .int x1), (0, .int a0), (1, .ref (ρ r1))]) X dX6_isSo_14 (pc2 := 15) rfl rfl (by decide) rfl ?_
  refine lu_iload_n X dX6_isSo_15 (pc2 := 16) rfl rfl 1 rfl ?_
  refine lu_sipush X dX6_isSo_16 (pc2 := 19) rfl sp_10000 ?_
  refine lu_icmp_lt (tgt := 40) X dX6_isSo_19 (pc2 := 22) rfl (by decide) (fun _ => ?_) (fun _ => ?_)
  · exact lu_sub [2, 3, 1, 0] rfl (w6_isSo_b40 X hret hT_r1 hr_r1 x1 x2 m)
  · refine lu_iload_n X dX6_isSo_22 (pc2 := 23) rfl rfl 1 rfl ?_
    refine lu_sipush X dX6_isSo_23 (pc2 := 26) rfl sp_10000 ?_
    refine lu_isub X dX6_isSo_26 (pc2 := 27) rfl ?_
    refine lu_aload_n X dX6_isSo_27 (pc2 := 28) rfl rfl 3 rfl ?_
    refine lu_alen (v := (5 : Int32)) X (by decide) hT_r1 hr_r1 dX6_isSo_28 (pc2 := 29) rfl ?_
    refine lu_icmp_ge (tgt := 40) X dX6_isSo_29 (pc2 := 32) rfl (by decide) (fun _ => ?_) (fun _ => ?_)
    · exact lu_sub [2, 3, 1, 0] rfl (w6_isSo_b40 X hret hT_r1 hr_r1 x1 x2 m)
    · refine lu_aload_n X dX6_isSo_32 (pc2 := 33) rfl rfl 3 rfl ?_
      refine lu_iload_n X dX6_isSo_33 (pc2 := 34) rfl rfl 1 rfl ?_
      refine lu_sipush X dX6_isSo_34 (pc2 := 37) rfl sp_10000 ?_
      refine lu_isub X dX6_isSo_37 (pc2 := 38) rfl ?_
      refine lu_iald X hT_r1 hr_r1 dX6_isSo_38 (pc2 := 39) rfl ?_
      refine lu_topi (fun x4 => ?_)
      refine lu_istore_n (lv2 := [(2, .int x4), (3, .int x2), (0, .int a0), (1, .ref (ρ r1))]) X dX6_isSo_39 (pc2 := 40) rfl rfl (by decide) rfl ?_
      exact lu_sub [2, 3, 0, 1] rfl (w6_isSo_b40 X hret hT_r1 hr_r1 x4 x2 m)

theorem dX6_holds_0 : decode cX6_holds 0 = .ok (.iconst 1, 1) := by decide +kernel
theorem dX6_holds_1 : decode cX6_holds 1 = .ok (.istore_n 3, 1) := by decide +kernel
theorem dX6_holds_2 : decode cX6_holds 2 = .ok (.iload_n 1, 1) := by decide +kernel
theorem dX6_holds_3 : decode cX6_holds 3 = .ok (.ifCond .ne 7, 3) := by decide +kernel
theorem dX6_holds_6 : decode cX6_holds 6 = .ok (.iconst 0, 1) := by decide +kernel
theorem dX6_holds_7 : decode cX6_holds 7 = .ok (.goto 11, 3) := by decide +kernel
theorem dX6_holds_10 : decode cX6_holds 10 = .ok (.aload_n 0, 1) := by decide +kernel
theorem dX6_holds_11 : decode cX6_holds 11 = .ok (.getfield 21, 3) := by decide +kernel
theorem dX6_holds_14 : decode cX6_holds 14 = .ok (.iload_n 1, 1) := by decide +kernel
theorem dX6_holds_15 : decode cX6_holds 15 = .ok (.iconst 1, 1) := by decide +kernel
theorem dX6_holds_16 : decode cX6_holds 16 = .ok (.isub, 1) := by decide +kernel
theorem dX6_holds_17 : decode cX6_holds 17 = .ok (.iaload, 1) := by decide +kernel
theorem dX6_holds_18 : decode cX6_holds 18 = .ok (.istore 4, 2) := by decide +kernel
theorem dX6_holds_20 : decode cX6_holds 20 = .ok (.iload 4, 2) := by decide +kernel
theorem dX6_holds_22 : decode cX6_holds 22 = .ok (.aload_n 0, 1) := by decide +kernel
theorem dX6_holds_23 : decode cX6_holds 23 = .ok (.getfield 21, 3) := by decide +kernel
theorem dX6_holds_26 : decode cX6_holds 26 = .ok (.iload_n 1, 1) := by decide +kernel
theorem dX6_holds_27 : decode cX6_holds 27 = .ok (.iaload, 1) := by decide +kernel
theorem dX6_holds_28 : decode cX6_holds 28 = .ok (.if_icmp .ge 106, 3) := by decide +kernel
theorem dX6_holds_31 : decode cX6_holds 31 = .ok (.aload_n 0, 1) := by decide +kernel
theorem dX6_holds_32 : decode cX6_holds 32 = .ok (.getfield 24, 3) := by decide +kernel
theorem dX6_holds_35 : decode cX6_holds 35 = .ok (.iload 4, 2) := by decide +kernel
theorem dX6_holds_37 : decode cX6_holds 37 = .ok (.iaload, 1) := by decide +kernel
theorem dX6_holds_38 : decode cX6_holds 38 = .ok (.istore 5, 2) := by decide +kernel
theorem dX6_holds_40 : decode cX6_holds 40 = .ok (.iload 5, 2) := by decide +kernel
theorem dX6_holds_42 : decode cX6_holds 42 = .ok (.tableswitch 67 0 2 #[26, 33, 56], 26) := by decide +kernel
theorem dX6_holds_68 : decode cX6_holds 68 = .ok (.iload_n 3, 1) := by decide +kernel
theorem dX6_holds_69 : decode cX6_holds 69 = .ok (.iconst 1, 1) := by decide +kernel
theorem dX6_holds_70 : decode cX6_holds 70 = .ok (.ixor, 1) := by decide +kernel
theorem dX6_holds_71 : decode cX6_holds 71 = .ok (.istore_n 3, 1) := by decide +kernel
theorem dX6_holds_72 : decode cX6_holds 72 = .ok (.goto 56, 3) := by decide +kernel
theorem dX6_holds_75 : decode cX6_holds 75 = .ok (.iload_n 3, 1) := by decide +kernel
theorem dX6_holds_76 : decode cX6_holds 76 = .ok (.iconst 1, 1) := by decide +kernel
theorem dX6_holds_77 : decode cX6_holds 77 = .ok (.iand, 1) := by decide +kernel
theorem dX6_holds_78 : decode cX6_holds 78 = .ok (.iconst 1, 1) := by decide +kernel
theorem dX6_holds_79 : decode cX6_holds 79 = .ok (.if_icmp .ne 9, 3) := by decide +kernel
theorem dX6_holds_82 : decode cX6_holds 82 = .ok (.iload_n 3, 1) := by decide +kernel
theorem dX6_holds_83 : decode cX6_holds 83 = .ok (.iconst 1, 1) := by decide +kernel
theorem dX6_holds_84 : decode cX6_holds 84 = .ok (.ishr, 1) := by decide +kernel
theorem dX6_holds_85 : decode cX6_holds 85 = .ok (.goto 9, 3) := by decide +kernel
theorem dX6_holds_88 : decode cX6_holds 88 = .ok (.iload_n 3, 1) := by decide +kernel
theorem dX6_holds_89 : decode cX6_holds 89 = .ok (.iconst 1, 1) := by decide +kernel
theorem dX6_holds_90 : decode cX6_holds 90 = .ok (.ishr, 1) := by decide +kernel
theorem dX6_holds_91 : decode cX6_holds 91 = .ok (.bipush (-2), 2) := by decide +kernel
theorem dX6_holds_93 : decode cX6_holds 93 = .ok (.iand, 1) := by decide +kernel
theorem dX6_holds_94 : decode cX6_holds 94 = .ok (.istore_n 3, 1) := by decide +kernel
theorem dX6_holds_95 : decode cX6_holds 95 = .ok (.goto 33, 3) := by decide +kernel
theorem dX6_holds_98 : decode cX6_holds 98 = .ok (.iload_n 3, 1) := by decide +kernel
theorem dX6_holds_99 : decode cX6_holds 99 = .ok (.iconst 1, 1) := by decide +kernel
theorem dX6_holds_100 : decode cX6_holds 100 = .ok (.ishr, 1) := by decide +kernel
theorem dX6_holds_101 : decode cX6_holds 101 = .ok (.iload_n 3, 1) := by decide +kernel
theorem dX6_holds_102 : decode cX6_holds 102 = .ok (.iconst 1, 1) := by decide +kernel
theorem dX6_holds_103 : decode cX6_holds 103 = .ok (.iand, 1) := by decide +kernel
theorem dX6_holds_104 : decode cX6_holds 104 = .ok (.ior, 1) := by decide +kernel
theorem dX6_holds_105 : decode cX6_holds 105 = .ok (.istore_n 3, 1) := by decide +kernel
theorem dX6_holds_106 : decode cX6_holds 106 = .ok (.goto 22, 3) := by decide +kernel
theorem dX6_holds_109 : decode cX6_holds 109 = .ok (.iload_n 3, 1) := by decide +kernel
theorem dX6_holds_110 : decode cX6_holds 110 = .ok (.iconst 1, 1) := by decide +kernel
theorem dX6_holds_111 : decode cX6_holds 111 = .ok (.ishl, 1) := by decide +kernel
theorem dX6_holds_112 : decode cX6_holds 112 = .ok (.iload 5, 2) := by decide +kernel
theorem dX6_holds_114 : decode cX6_holds 114 = .ok (.aload_n 2, 1) := by decide +kernel
theorem dX6_holds_115 : decode cX6_holds 115 = .ok (.invokestatic 34, 3) := by decide +kernel
theorem dX6_holds_118 : decode cX6_holds 118 = .ok (.ifCond .eq 7, 3) := by decide +kernel
theorem dX6_holds_121 : decode cX6_holds 121 = .ok (.iconst 1, 1) := by decide +kernel
theorem dX6_holds_122 : decode cX6_holds 122 = .ok (.goto 4, 3) := by decide +kernel
theorem dX6_holds_125 : decode cX6_holds 125 = .ok (.iconst 0, 1) := by decide +kernel
theorem dX6_holds_126 : decode cX6_holds 126 = .ok (.ior, 1) := by decide +kernel
theorem dX6_holds_127 : decode cX6_holds 127 = .ok (.istore_n 3, 1) := by decide +kernel
theorem dX6_holds_128 : decode cX6_holds 128 = .ok (.iinc 4 1, 3) := by decide +kernel
theorem dX6_holds_131 : decode cX6_holds 131 = .ok (.goto (-111), 3) := by decide +kernel
theorem dX6_holds_134 : decode cX6_holds 134 = .ok (.iload_n 3, 1) := by decide +kernel
theorem dX6_holds_135 : decode cX6_holds 135 = .ok (.iconst 1, 1) := by decide +kernel
theorem dX6_holds_136 : decode cX6_holds 136 = .ok (.iand, 1) := by decide +kernel
theorem dX6_holds_137 : decode cX6_holds 137 = .ok (.iconst 1, 1) := by decide +kernel
theorem dX6_holds_138 : decode cX6_holds 138 = .ok (.if_icmp .ne 7, 3) := by decide +kernel
theorem dX6_holds_141 : decode cX6_holds 141 = .ok (.iconst 1, 1) := by decide +kernel
theorem dX6_holds_142 : decode cX6_holds 142 = .ok (.goto 4, 3) := by decide +kernel
theorem dX6_holds_145 : decode cX6_holds 145 = .ok (.iconst 0, 1) := by decide +kernel
theorem dX6_holds_146 : decode cX6_holds 146 = .ok (.ireturn, 1) := by decide +kernel
def f6_holds_b128 (K20 : Int32 → Int32 → lu_M → Option (Int32 × lu_M)) (K134 : Int32 → lu_M → Option (Int32 × lu_M)) (r0 : Nat) (a1 : Int32) (r2 : Nat) (v3 : Int32) (v4 : Int32) (m : lu_M) : Option (Int32 × lu_M) :=
  K20 v3 (v4 + (1 : Int32)) m
set_option maxRecDepth 20000 in
theorem w6_holds_b128  {G : lu_G} {ρ : Nat → Nat} {r0 : Nat} {a1 : Int32} {r2 : Nat} {K20 : Int32 → Int32 → lu_M → Option (Int32 × lu_M)} {K134 : Int32 → lu_M → Option (Int32 × lu_M)} (X : lu_X G RX6 cX6_holds 6 1 23) (hret : (lu_me G).sig.returnType = (some .boolean)) (hT_r0 : lu_TC.2 r0 = (7, 0, 0)) (hr_r0 : r0 < lu_TC.1) (hT_r2 : lu_TC.2 r2 = (0, 5, 0)) (hr_r2 : r2 < lu_TC.1) (hK20 : ∀ (v3 : Int32) (v4 : Int32) (m : lu_M), lu_Ab lu_TC G (lu_Q lu_TC G ρ lu_RVi lu_sn) (K20 v3 v4 m) 20 [(0, .ref (ρ r0)), (1, .int a1), (2, .ref (ρ r2)), (3, .int v3), (4, .int v4)] [] ρ 0 0 [] m) (hK134 : ∀ (v3 : Int32) (m : lu_M), lu_Ab lu_TC G (lu_Q lu_TC G ρ lu_RVi lu_sn) (K134 v3 m) 134 [(3, .int v3)] [] ρ 0 0 [] m) : ∀ (v3 : Int32) (v4 : Int32) (m : lu_M), lu_Ab lu_TC G (lu_Q lu_TC G ρ lu_RVi lu_sn) (f6_holds_b128 K20 K134 r0 a1 r2 v3 v4 m) 128 [(0, .ref (ρ r0)), (1, .int a1), (2, .ref (ρ r2)), (3, .int v3), (4, .int v4)] [] ρ 0 0 [] m := by
  intro v3 v4 m
  unfold f6_holds_b128
  refine lu_iinc (lv2 := [(4, .int (v4 + (1 : Int32))), (0, .ref (ρ r0)), (1, .int a1), (2, .ref (ρ r2)), (3, .int v3)]) X dX6_holds_128 (pc2 := 131) rfl 4 rfl (lu_ii _ ic_1) (by decide) rfl ?_
  refine lu_goto (tgt := 20) X dX6_holds_131 (by decide) ?_
  exact lu_sub [1, 2, 3, 4, 0] rfl (hK20 v3 (v4 + (1 : Int32)) m)
def f6_holds_b94 (K20 : Int32 → Int32 → lu_M → Option (Int32 × lu_M)) (K134 : Int32 → lu_M → Option (Int32 × lu_M)) (r0 : Nat) (a1 : Int32) (r2 : Nat) (v4 : Int32) (s0 : Int32) (m : lu_M) : Option (Int32 × lu_M) :=
  f6_holds_b128 K20 K134 r0 a1 r2 s0 v4 m
set_option maxRecDepth 20000 in
theorem w6_holds_b94  {G : lu_G} {ρ : Nat → Nat} {r0 : Nat} {a1 : Int32} {r2 : Nat} {K20 : Int32 → Int32 → lu_M → Option (Int32 × lu_M)} {K134 : Int32 → lu_M → Option (Int32 × lu_M)} (X : lu_X G RX6 cX6_holds 6 1 23) (hret : (lu_me G).sig.returnType = (some .boolean)) (hT_r0 : lu_TC.2 r0 = (7, 0, 0)) (hr_r0 : r0 < lu_TC.1) (hT_r2 : lu_TC.2 r2 = (0, 5, 0)) (hr_r2 : r2 < lu_TC.1) (hK20 : ∀ (v3 : Int32) (v4 : Int32) (m : lu_M), lu_Ab lu_TC G (lu_Q lu_TC G ρ lu_RVi lu_sn) (K20 v3 v4 m) 20 [(0, .ref (ρ r0)), (1, .int a1), (2, .ref (ρ r2)), (3, .int v3), (4, .int v4)] [] ρ 0 0 [] m) (hK134 : ∀ (v3 : Int32) (m : lu_M), lu_Ab lu_TC G (lu_Q lu_TC G ρ lu_RVi lu_sn) (K134 v3 m) 134 [(3, .int v3)] [] ρ 0 0 [] m) : ∀ (v4 : Int32) (s0 : Int32) (m : lu_M), lu_Ab lu_TC G (lu_Q lu_TC G ρ lu_RVi lu_sn) (f6_holds_b94 K20 K134 r0 a1 r2 v4 s0 m) 94 [(0, .ref (ρ r0)), (1, .int a1), (2, .ref (ρ r2)), (4, .int v4)] [.int s0] ρ 0 0 [] m := by
  intro v4 s0 m
  unfold f6_holds_b94
  refine lu_istore_n (lv2 := [(3, .int s0), (0, .ref (ρ r0)), (1, .int a1), (2, .ref (ρ r2)), (4, .int v4)]) X dX6_holds_94 (pc2 := 95) rfl rfl (by decide) rfl ?_
  refine lu_goto (tgt := 128) X dX6_holds_95 (by decide) ?_
  exact lu_sub [1, 2, 3, 0, 4] rfl (w6_holds_b128 X hret hT_r0 hr_r0 hT_r2 hr_r2 hK20 hK134 s0 v4 m)
def f6_holds_b126 (K20 : Int32 → Int32 → lu_M → Option (Int32 × lu_M)) (K134 : Int32 → lu_M → Option (Int32 × lu_M)) (r0 : Nat) (a1 : Int32) (r2 : Nat) (v4 : Int32) (s0 : Int32) (s1 : Int32) (m : lu_M) : Option (Int32 × lu_M) :=
  lu_nm ((s1 ||| s0)) fun x6 =>
  f6_holds_b128 K20 K134 r0 a1 r2 x6 v4 m
set_option maxRecDepth 20000 in
theorem w6_holds_b126  {G : lu_G} {ρ : Nat → Nat} {r0 : Nat} {a1 : Int32} {r2 : Nat} {K20 : Int32 → Int32 → lu_M → Option (Int32 × lu_M)} {K134 : Int32 → lu_M → Option (Int32 × lu_M)} (X : lu_X G RX6 cX6_holds 6 1 23) (hret : (lu_me G).sig.returnType = (some .boolean)) (hT_r0 : lu_TC.2 r0 = (7, 0, 0)) (hr_r0 : r0 < lu_TC.1) (hT_r2 : lu_TC.2 r2 = (0, 5, 0)) (hr_r2 : r2 < lu_TC.1) (hK20 : ∀ (v3 : Int32) (v4 : Int32) (m : lu_M), lu_Ab lu_TC G (lu_Q lu_TC G ρ lu_RVi lu_sn) (K20 v3 v4 m) 20 [(0, .ref (ρ r0)), (1, .int a1), (2, .ref (ρ r2)), (3, .int v3), (4, .int v4)] [] ρ 0 0 [] m) (hK134 : ∀ (v3 : Int32) (m : lu_M), lu_Ab lu_TC G (lu_Q lu_TC G ρ lu_RVi lu_sn) (K134 v3 m) 134 [(3, .int v3)] [] ρ 0 0 [] m) : ∀ (v4 : Int32) (s0 : Int32) (s1 : Int32) (m : lu_M), lu_Ab lu_TC G (lu_Q lu_TC G ρ lu_RVi lu_sn) (f6_holds_b126 K20 K134 r0 a1 r2 v4 s0 s1 m) 126 [(0, .ref (ρ r0)), (1, .int a1), (2, .ref (ρ r2)), (4, .int v4)] [.int s0, .int s1] ρ 0 0 [] m := by
  intro v4 s0 s1 m
  unfold f6_holds_b126
  refine lu_ior X dX6_holds_126 (pc2 := 127) rfl ?_
  refine lu_topi (fun x6 => ?_)
  refine lu_istore_n (lv2 := [(3, .int x6), (0, .ref (ρ r0)), (1, .int a1), (2, .ref (ρ r2)), (4, .int v4)]) X dX6_holds_127 (pc2 := 128) rfl rfl (by decide) rfl ?_
  exact lu_sub [1, 2, 3, 0, 4] rfl (w6_holds_b128 X hret hT_r0 hr_r0 hT_r2 hr_r2 hK20 hK134 x6 v4 m)
def f6_holds_b20B (K134 : Int32 → lu_M → Option (Int32 × lu_M)) (rec : Int32 → Int32 → lu_M → Option (Int32 × lu_M)) (r0 : Nat) (a1 : Int32) (r2 : Nat) (v3 : Int32) (v4 : Int32) (m : lu_M) : Option (Int32 × lu_M) :=
  lu_gd (lu_ib a1 8) <|
  if (m (r0 + 4) a1.toNatClampNeg) ≤ v4 then (K134 v3 m)
  else (lu_gd (lu_ib v4 200) <|
  lu_nm ((m (r0 + 5) v4.toNatClampNeg)) fun x1 =>
  if x1 = (0 : Int32) then (lu_nm ((v3 ^^^ (1 : Int32))) fun x2 =>
  f6_holds_b128 rec K134 r0 a1 r2 x2 v4 m)
  else (if x1 = (1 : Int32) then (if (v3 &&& (1 : Int32)) = (1 : Int32) then (f6_holds_b94 rec K134 r0 a1 r2 v4 (v3 >>> ((1 : Int32) &&& 31)) m)
  else (f6_holds_b94 rec K134 r0 a1 r2 v4 ((v3 >>> ((1 : Int32) &&& 31)) &&& (-2 : Int32)) m))
  else (if x1 = (2 : Int32) then (lu_nm (((v3 >>> ((1 : Int32) &&& 31)) ||| (v3 &&& (1 : Int32)))) fun x3 =>
  f6_holds_b128 rec K134 r0 a1 r2 x3 v4 m)
  else (lu_bi (f6_isSo x1 r2 m) fun x4 m5 =>
  if x4 = 0 then (f6_holds_b126 rec K134 r0 a1 r2 v4 (0 : Int32) (v3 <<< ((1 : Int32) &&& 31)) m5)
  else (f6_holds_b126 rec K134 r0 a1 r2 v4 (1 : Int32) (v3 <<< ((1 : Int32) &&& 31)) m5)))))
def f6_holds_b20 (K134 : Int32 → lu_M → Option (Int32 × lu_M)) (r0 : Nat) (a1 : Int32) (r2 : Nat) : Nat → Int32 → Int32 → lu_M → Option (Int32 × lu_M)
  | 0, _, _, _ => none
  | n + 1, v3, v4, m => f6_holds_b20B K134 (f6_holds_b20 K134 r0 a1 r2 n) r0 a1 r2 v3 v4 m
set_option maxRecDepth 20000 in
theorem w6_holds_b20B  {G : lu_G} {ρ : Nat → Nat} {r0 : Nat} {a1 : Int32} {r2 : Nat} {K134 : Int32 → lu_M → Option (Int32 × lu_M)} {rec : Int32 → Int32 → lu_M → Option (Int32 × lu_M)} (X : lu_X G RX6 cX6_holds 6 1 23) (hret : (lu_me G).sig.returnType = (some .boolean)) (hT_r0 : lu_TC.2 r0 = (7, 0, 0)) (hr_r0 : r0 < lu_TC.1) (hT_r2 : lu_TC.2 r2 = (0, 5, 0)) (hr_r2 : r2 < lu_TC.1) (hK134 : ∀ (v3 : Int32) (m : lu_M), lu_Ab lu_TC G (lu_Q lu_TC G ρ lu_RVi lu_sn) (K134 v3 m) 134 [(3, .int v3)] [] ρ 0 0 [] m) (hrec : ∀ (v3 : Int32) (v4 : Int32) (m : lu_M), lu_Ab lu_TC G (lu_Q lu_TC G ρ lu_RVi lu_sn) (rec v3 v4 m) 20 [(0, .ref (ρ r0)), (1, .int a1), (2, .ref (ρ r2)), (3, .int v3), (4, .int v4)] [] ρ 0 0 [] m) : ∀ (v3 : Int32) (v4 : Int32) (m : lu_M), lu_Ab lu_TC G (lu_Q lu_TC G ρ lu_RVi lu_sn) (f6_holds_b20B K134 rec r0 a1 r2 v3 v4 m) 20 [(0, .ref (ρ r0)), (1, .int a1), (2, .ref (ρ r2)), (3, .int v3), (4, .int v4)] [] ρ 0 0 [] m := by
  intro v3 v4 m
  unfold f6_holds_b20B
  refine lu_iload X dX6_holds_20 (pc2 := 22) rfl 4 rfl ?_
  refine lu_aload_n X dX6_holds_22 (pc2 := 23) rfl rfl 0 rfl ?_
  refine lu_getr (r2 := (r0 + 4)) X rfl fl6_21 rfl hT_r0 hr_r0 dX6_holds_23 (pc2 := 26) rfl ?_
  refine lu_iload_n X dX6_holds_26 (pc2 := 27) rfl rfl 1 rfl ?_
  refine lu_iald X ((koC_7_4 hT_r0 hr_r0).1) ((koC_7_4 hT_r0 hr_r0).2) dX6_holds_27 (pc2 := 28) rfl ?_
  refine lu_icmp_ge (tgt := 134) X dX6_holds_28 (pc2 := 31) rfl (by decide) (fun _ => ?_) (fun _ => ?_)
  · exact lu_sub [3] rfl (hK134 v3 m)
  · refine lu_aload_n X dX6_holds_31 (pc2 := 32) rfl rfl 0 rfl ?_
    refine lu_getr (r2 := (r0 + 5)) X rfl fl6_24 rfl hT_r0 hr_r0 dX6_holds_32 (pc2 := 35) rfl ?_
    refine lu_iload X dX6_holds_35 (pc2 := 37) rfl 4 rfl ?_
    refine lu_iald X ((koC_7_5 hT_r0 hr_r0).1) ((koC_7_5 hT_r0 hr_r0).2) dX6_holds_37 (pc2 := 38) rfl ?_
    refine lu_topi (fun x1 => ?_)
    refine lu_istore (lv2 := [(5, .int x1), (0, .ref (ρ r0)), (1, .int a1), (2, .ref (ρ r2)), (3, .int v3), (4, .int v4)]) X dX6_holds_38 (pc2 := 40) rfl (by decide) rfl ?_
    refine lu_iload X dX6_holds_40 (pc2 := 42) rfl 0 rfl ?_
    refine lu_ite (fun c0 => ?_) (fun c0 => ?_)
    · refine lu_tsIn X c0 dX6_holds_42 (tgt := 68) (by decide) (by decide) rfl (by decide) ?_
      refine lu_iload_n X dX6_holds_68 (pc2 := 69) rfl rfl 4 rfl ?_
      refine lu_iconst X dX6_holds_69 (pc2 := 70) rfl ic_1 ?_
      refine lu_ixor X dX6_holds_70 (pc2 := 71) rfl ?_
      refine lu_topi (fun x2 => ?_)
      refine lu_istore_n (lv2 := [(3, .int x2), (5, .int x1), (0, .ref (ρ r0)), (1, .int a1), (2, .ref (ρ r2)), (4, .int v4)]) X dX6_holds_71 (pc2 := 72) rfl rfl (by decide) rfl ?_
      refine lu_goto (tgt := 128) X dX6_holds_72 (by decide) ?_
      exact lu_sub [2, 3, 4, 0, 5] rfl (w6_holds_b128 X hret hT_r0 hr_r0 hT_r2 hr_r2 hrec hK134 x2 v4 m)
    · refine lu_ite (fun c1 => ?_) (fun c1 => ?_)
      · refine lu_tsIn X c1 dX6_holds_42 (tgt := 75) (by decide) (by decide) rfl (by decide) ?_
        refine lu_iload_n X dX6_holds_75 (pc2 := 76) rfl rfl 4 rfl ?_
        refine lu_iconst X dX6_holds_76 (pc2 := 77) rfl ic_1 ?_
        refine lu_iand X dX6_holds_77 (pc2 := 78) rfl ?_
        refine lu_iconst X dX6_holds_78 (pc2 := 79) rfl ic_1 ?_
        refine lu_icmp_ne (tgt := 88) X dX6_holds_79 (pc2 := 82) rfl (by decide) (fun _ => ?_) (fun _ => ?_)
        · refine lu_iload_n X dX6_holds_88 (pc2 := 89) rfl rfl 4 rfl ?_
          refine lu_iconst X dX6_holds_89 (pc2 := 90) rfl ic_1 ?_
          refine lu_ishr X dX6_holds_90 (pc2 := 91) rfl ?_
          refine lu_bipush X dX6_holds_91 (pc2 := 93) rfl bp_m2 ?_
          refine lu_iand X dX6_holds_93 (pc2 := 94) rfl ?_
          exact lu_sub [1, 2, 3, 5] rfl (w6_holds_b94 X hret hT_r0 hr_r0 hT_r2 hr_r2 hrec hK134 v4 ((v3 >>> ((1 : Int32) &&& 31)) &&& (-2 : Int32)) m)
        · refine lu_iload_n X dX6_holds_82 (pc2 := 83) rfl rfl 4 rfl ?_
          refine lu_iconst X dX6_holds_83 (pc2 := 84) rfl ic_1 ?_
          refine lu_ishr X dX6_holds_84 (pc2 := 85) rfl ?_
          refine lu_goto (tgt := 94) X dX6_holds_85 (by decide) ?_
          exact lu_sub [1, 2, 3, 5] rfl (w6_holds_b94 X hret hT_r0 hr_r0 hT_r2 hr_r2 hrec hK134 v4 (v3 >>> ((1 : Int32) &&& 31)) m)
      · refine lu_ite (fun c2 => ?_) (fun c2 => ?_)
        · refine lu_tsIn X c2 dX6_holds_42 (tgt := 98) (by decide) (by decide) rfl (by decide) ?_
          refine lu_iload_n X dX6_holds_98 (pc2 := 99) rfl rfl 4 rfl ?_
          refine lu_iconst X dX6_holds_99 (pc2 := 100) rfl ic_1 ?_
          refine lu_ishr X dX6_holds_100 (pc2 := 101) rfl ?_
          refine lu_iload_n X dX6_holds_101 (pc2 := 102) rfl rfl 4 rfl ?_
          refine lu_iconst X dX6_holds_102 (pc2 := 103) rfl ic_1 ?_
          refine lu_iand X dX6_holds_103 (pc2 := 104) rfl ?_
          refine lu_ior X dX6_holds_104 (pc2 := 105) rfl ?_
          refine lu_topi (fun x3 => ?_)
          refine lu_istore_n (lv2 := [(3, .int x3), (5, .int x1), (0, .ref (ρ r0)), (1, .int a1), (2, .ref (ρ r2)), (4, .int v4)]) X dX6_holds_105 (pc2 := 106) rfl rfl (by decide) rfl ?_
          refine lu_goto (tgt := 128) X dX6_holds_106 (by decide) ?_
          exact lu_sub [2, 3, 4, 0, 5] rfl (w6_holds_b128 X hret hT_r0 hr_r0 hT_r2 hr_r2 hrec hK134 x3 v4 m)
        · refine lu_tsOut (tgt := 109) X dX6_holds_42 (by have h0 := lv_neT c0 (a := 0) (by decide); have h1 := lv_neT c1 (a := 1) (by decide); have h2 := lv_neT c2 (a := 2) (by decide); omega) (by decide) ?_
          refine lu_iload_n X dX6_holds_109 (pc2 := 110) rfl rfl 4 rfl ?_
          refine lu_iconst X dX6_holds_110 (pc2 := 111) rfl ic_1 ?_
          refine lu_ishl X dX6_holds_111 (pc2 := 112) rfl ?_
          refine lu_iload X dX6_holds_112 (pc2 := 114) rfl 0 rfl ?_
          refine lu_aload_n X dX6_holds_114 (pc2 := 115) rfl rfl 3 rfl ?_
          refine lu_invSi X (c6_isSo _ hT_r2 hr_r2 x1) rfl q492 mvS_6_isSo rfl rfl (Nat.le_of_ble_eq_true rfl) (Nat.le_of_ble_eq_true rfl) (Nat.le_of_ble_eq_true rfl) ⟨Nat.zero_le _, Nat.zero_le _⟩ dX6_holds_115 (pc2 := 118) rfl rfl (fun x4 m5 => ?_)
          refine lu_if_eq (tgt := 125) X dX6_holds_118 (pc2 := 121) rfl (by decide) (fun _ => ?_) (fun _ => ?_)
          · refine lu_iconst X dX6_holds_125 (pc2 := 126) rfl ic_0 ?_
            exact lu_sub [1, 2, 3, 5] rfl (w6_holds_b126 X hret hT_r0 hr_r0 hT_r2 hr_r2 hrec hK134 v4 (0 : Int32) (v3 <<< ((1 : Int32) &&& 31)) m5)
          · refine lu_iconst X dX6_holds_121 (pc2 := 122) rfl ic_1 ?_
            refine lu_goto (tgt := 126) X dX6_holds_122 (by decide) ?_
            exact lu_sub [1, 2, 3, 5] rfl (w6_holds_b126 X hret hT_r0 hr_r0 hT_r2 hr_r2 hrec hK134 v4 (1 : Int32) (v3 <<< ((1 : Int32) &&& 31)) m5)
theorem w6_holds_b20  {G : lu_G} {ρ : Nat → Nat} {r0 : Nat} {a1 : Int32} {r2 : Nat} {K134 : Int32 → lu_M → Option (Int32 × lu_M)} (X : lu_X G RX6 cX6_holds 6 1 23) (hret : (lu_me G).sig.returnType = (some .boolean)) (hT_r0 : lu_TC.2 r0 = (7, 0, 0)) (hr_r0 : r0 < lu_TC.1) (hT_r2 : lu_TC.2 r2 = (0, 5, 0)) (hr_r2 : r2 < lu_TC.1) (hK134 : ∀ (v3 : Int32) (m : lu_M), lu_Ab lu_TC G (lu_Q lu_TC G ρ lu_RVi lu_sn) (K134 v3 m) 134 [(3, .int v3)] [] ρ 0 0 [] m) : ∀ (n : Nat) (v3 : Int32) (v4 : Int32) (m : lu_M), lu_Ab lu_TC G (lu_Q lu_TC G ρ lu_RVi lu_sn) (f6_holds_b20 K134 r0 a1 r2 n v3 v4 m) 20 [(0, .ref (ρ r0)), (1, .int a1), (2, .ref (ρ r2)), (3, .int v3), (4, .int v4)] [] ρ 0 0 [] m := by
  intro n
  induction n with
  | zero => intro v3 v4 m; exact lu_none
  | succ n ih => intro v3 v4 m; exact w6_holds_b20B X hret hT_r0 hr_r0 hT_r2 hr_r2 hK134 ih v3 v4 m
def f6_holds_b146  (r0 : Nat) (a1 : Int32) (r2 : Nat) (s0 : Int32) (m : lu_M) : Option (Int32 × lu_M) :=
  lu_gd (decide (s0 = 0 ∨ s0 = 1)) (some (s0, m))
set_option maxRecDepth 20000 in
theorem w6_holds_b146  {G : lu_G} {ρ : Nat → Nat} {r0 : Nat} {a1 : Int32} {r2 : Nat}  (X : lu_X G RX6 cX6_holds 6 1 23) (hret : (lu_me G).sig.returnType = (some .boolean)) (hT_r0 : lu_TC.2 r0 = (7, 0, 0)) (hr_r0 : r0 < lu_TC.1) (hT_r2 : lu_TC.2 r2 = (0, 5, 0)) (hr_r2 : r2 < lu_TC.1)  : ∀ (s0 : Int32) (m : lu_M), lu_Ab lu_TC G (lu_Q lu_TC G ρ lu_RVi lu_sn) (f6_holds_b146 r0 a1 r2 s0 m) 146 [] [.int s0] ρ 0 0 [] m := by
  intro s0 m
  unfold f6_holds_b146
  exact lu_zretG X hret dX6_holds_146
def f6_holds_b134  (r0 : Nat) (a1 : Int32) (r2 : Nat) (v3 : Int32) (m : lu_M) : Option (Int32 × lu_M) :=
  if (v3 &&& (1 : Int32)) = (1 : Int32) then (f6_holds_b146 r0 a1 r2 (1 : Int32) m)
  else (f6_holds_b146 r0 a1 r2 (0 : Int32) m)
set_option maxRecDepth 20000 in
theorem w6_holds_b134  {G : lu_G} {ρ : Nat → Nat} {r0 : Nat} {a1 : Int32} {r2 : Nat}  (X : lu_X G RX6 cX6_holds 6 1 23) (hret : (lu_me G).sig.returnType = (some .boolean)) (hT_r0 : lu_TC.2 r0 = (7, 0, 0)) (hr_r0 : r0 < lu_TC.1) (hT_r2 : lu_TC.2 r2 = (0, 5, 0)) (hr_r2 : r2 < lu_TC.1)  : ∀ (v3 : Int32) (m : lu_M), lu_Ab lu_TC G (lu_Q lu_TC G ρ lu_RVi lu_sn) (f6_holds_b134 r0 a1 r2 v3 m) 134 [(3, .int v3)] [] ρ 0 0 [] m := by
  intro v3 m
  unfold f6_holds_b134
  refine lu_iload_n X dX6_holds_134 (pc2 := 135) rfl rfl 0 rfl ?_
  refine lu_iconst X dX6_holds_135 (pc2 := 136) rfl ic_1 ?_
  refine lu_iand X dX6_holds_136 (pc2 := 137) rfl ?_
  refine lu_iconst X dX6_holds_137 (pc2 := 138) rfl ic_1 ?_
  refine lu_icmp_ne (tgt := 145) X dX6_holds_138 (pc2 := 141) rfl (by decide) (fun _ => ?_) (fun _ => ?_)
  · refine lu_iconst X dX6_holds_145 (pc2 := 146) rfl ic_0 ?_
    exact lu_sub [] rfl (w6_holds_b146 X hret hT_r0 hr_r0 hT_r2 hr_r2 (0 : Int32) m)
  · refine lu_iconst X dX6_holds_141 (pc2 := 142) rfl ic_1 ?_
    refine lu_goto (tgt := 146) X dX6_holds_142 (by decide) ?_
    exact lu_sub [] rfl (w6_holds_b146 X hret hT_r0 hr_r0 hT_r2 hr_r2 (1 : Int32) m)
def f6_holds_b18  (r0 : Nat) (a1 : Int32) (r2 : Nat) (v3 : Int32) (s0 : Int32) (m : lu_M) : Option (Int32 × lu_M) :=
  f6_holds_b20 (f6_holds_b134 r0 a1 r2) r0 a1 r2 lu_fu v3 s0 m
set_option maxRecDepth 20000 in
theorem w6_holds_b18  {G : lu_G} {ρ : Nat → Nat} {r0 : Nat} {a1 : Int32} {r2 : Nat}  (X : lu_X G RX6 cX6_holds 6 1 23) (hret : (lu_me G).sig.returnType = (some .boolean)) (hT_r0 : lu_TC.2 r0 = (7, 0, 0)) (hr_r0 : r0 < lu_TC.1) (hT_r2 : lu_TC.2 r2 = (0, 5, 0)) (hr_r2 : r2 < lu_TC.1)  : ∀ (v3 : Int32) (s0 : Int32) (m : lu_M), lu_Ab lu_TC G (lu_Q lu_TC G ρ lu_RVi lu_sn) (f6_holds_b18 r0 a1 r2 v3 s0 m) 18 [(0, .ref (ρ r0)), (1, .int a1), (2, .ref (ρ r2)), (3, .int v3)] [.int s0] ρ 0 0 [] m := by
  intro v3 s0 m
  unfold f6_holds_b18
  refine lu_istore (lv2 := [(4, .int s0), (0, .ref (ρ r0)), (1, .int a1), (2, .ref (ρ r2)), (3, .int v3)]) X dX6_holds_18 (pc2 := 20) rfl (by decide) rfl ?_
  exact lu_sub [1, 2, 3, 4, 0] rfl (w6_holds_b20 X hret hT_r0 hr_r0 hT_r2 hr_r2 (w6_holds_b134 X hret hT_r0 hr_r0 hT_r2 hr_r2) lu_fu v3 s0 m)
def f6_holds (r0 : Nat) (a1 : Int32) (r2 : Nat) (m : lu_M) : Option (Int32 × lu_M) :=
  if a1 = 0 then (f6_holds_b18 r0 a1 r2 (1 : Int32) (0 : Int32) m)
  else (lu_gd (lu_ib (a1 - (1 : Int32)) 8) <|
  f6_holds_b18 r0 a1 r2 (1 : Int32) (m (r0 + 4) (a1 - (1 : Int32)).toNatClampNeg) m)
set_option maxRecDepth 20000 in
theorem c6_holds (l : Launch) {r0 : Nat} {r2 : Nat} (hT_r0 : lu_TC.2 r0 = (7, 0, 0)) (hr_r0 : r0 < lu_TC.1) (hT_r2 : lu_TC.2 r2 = (0, 5, 0)) (hr_r2 : r2 < lu_TC.1) (a1 : Int32) : lu_C lu_TC l yX6_holds cX6_holds 6 (some .boolean) 1 23 (fun ρ sa => [.ref (ρ r0), .int a1, .ref (ρ r2)]) (f6_holds r0 a1 r2) lu_RVi lu_sn := by
  refine lu_met (cls := RX6) rfl (by decide +kernel) (fun _ _ => Nat.le_of_ble_eq_true rfl) ?_
  intro G ρ m hl X hret
  subst hl
  change lu_Ab lu_TC G (lu_Q lu_TC G ρ lu_RVi lu_sn) (f6_holds r0 a1 r2 m) 0 [(0, .ref (ρ r0)), (1, .int a1), (2, .ref (ρ r2))] [] ρ 0 0 [] m
  unfold f6_holds
  refine lu_iconst X dX6_holds_0 (pc2 := 1) rfl ic_1 ?_
  refine lu_istore_n (lv2 := [(3, .int (1 : Int32)), (0, .ref (ρ r0)), (1, .int a1), (2, .ref (ρ r2))]) X dX6_holds_1 (pc2 := 2) rfl rfl (by decide) rfl ?_
  refine lu_iload_n X dX6_holds_2 (pc2 := 3) rfl rfl 2 rfl ?_
  refine lu_if_ne (tgt := 10) X dX6_holds_3 (pc2 := 6) rfl (by decide) (fun _ => ?_) (fun _ => ?_)
  · refine lu_aload_n X dX6_holds_10 (pc2 := 11) rfl rfl 1 rfl ?_
    refine lu_getr (r2 := (r0 + 4)) X rfl fl6_21 rfl hT_r0 hr_r0 dX6_holds_11 (pc2 := 14) rfl ?_
    refine lu_iload_n X dX6_holds_14 (pc2 := 15) rfl rfl 2 rfl ?_
    refine lu_iconst X dX6_holds_15 (pc2 := 16) rfl ic_1 ?_
    refine lu_isub X dX6_holds_16 (pc2 := 17) rfl ?_
    refine lu_iald X ((koC_7_4 hT_r0 hr_r0).1) ((koC_7_4 hT_r0 hr_r0).2) dX6_holds_17 (pc2 := 18) rfl ?_
    exact lu_sub [1, 2, 3, 0] rfl (w6_holds_b18 X hret hT_r0 hr_r0 hT_r2 hr_r2 (1 : Int32) (m (r0 + 4) (a1 - (1 : Int32)).toNatClampNeg) m)
  · refine lu_iconst X dX6_holds_6 (pc2 := 7) rfl ic_0 ?_
    refine lu_goto (tgt := 18) X dX6_holds_7 (by decide) ?_
    exact lu_sub [1, 2, 3, 0] rfl (w6_holds_b18 X hret hT_r0 hr_r0 hT_r2 hr_r2 (1 : Int32) (0 : Int32) m)

theorem dX10_latestDue_0 : decode cX10_latestDue 0 = .ok (.aload_n 0, 1) := by decide +kernel
theorem dX10_latestDue_1 : decode cX10_latestDue 1 = .ok (.getfield 65, 3) := by decide +kernel
theorem dX10_latestDue_4 : decode cX10_latestDue 4 = .ok (.getfield 119, 3) := by decide +kernel
theorem dX10_latestDue_7 : decode cX10_latestDue 7 = .ok (.ifCond .ne 8, 3) := by decide +kernel
theorem dX10_latestDue_10 : decode cX10_latestDue 10 = .ok (.aload_n 2, 1) := by decide +kernel
theorem dX10_latestDue_11 : decode cX10_latestDue 11 = .ok (.getfield 101, 3) := by decide +kernel
theorem dX10_latestDue_14 : decode cX10_latestDue 14 = .ok (.ireturn, 1) := by decide +kernel
theorem dX10_latestDue_15 : decode cX10_latestDue 15 = .ok (.aload_n 0, 1) := by decide +kernel
theorem dX10_latestDue_16 : decode cX10_latestDue 16 = .ok (.getfield 69, 3) := by decide +kernel
theorem dX10_latestDue_19 : decode cX10_latestDue 19 = .ok (.iconst 0, 1) := by decide +kernel
theorem dX10_latestDue_20 : decode cX10_latestDue 20 = .ok (.aload_n 2, 1) := by decide +kernel
theorem dX10_latestDue_21 : decode cX10_latestDue 21 = .ok (.getfield 101, 3) := by decide +kernel
theorem dX10_latestDue_24 : decode cX10_latestDue 24 = .ok (.iastore, 1) := by decide +kernel
theorem dX10_latestDue_25 : decode cX10_latestDue 25 = .ok (.aload_n 0, 1) := by decide +kernel
theorem dX10_latestDue_26 : decode cX10_latestDue 26 = .ok (.getfield 69, 3) := by decide +kernel
theorem dX10_latestDue_29 : decode cX10_latestDue 29 = .ok (.iconst 1, 1) := by decide +kernel
theorem dX10_latestDue_30 : decode cX10_latestDue 30 = .ok (.aload_n 0, 1) := by decide +kernel
theorem dX10_latestDue_31 : decode cX10_latestDue 31 = .ok (.iload_n 1, 1) := by decide +kernel
theorem dX10_latestDue_32 : decode cX10_latestDue 32 = .ok (.aload_n 2, 1) := by decide +kernel
theorem dX10_latestDue_33 : decode cX10_latestDue 33 = .ok (.invokevirtual 120, 3) := by decide +kernel
theorem dX10_latestDue_36 : decode cX10_latestDue 36 = .ok (.iastore, 1) := by decide +kernel
theorem dX10_latestDue_37 : decode cX10_latestDue 37 = .ok (.aload_n 0, 1) := by decide +kernel
theorem dX10_latestDue_38 : decode cX10_latestDue 38 = .ok (.getfield 69, 3) := by decide +kernel
theorem dX10_latestDue_41 : decode cX10_latestDue 41 = .ok (.iconst 2, 1) := by decide +kernel
theorem dX10_latestDue_42 : decode cX10_latestDue 42 = .ok (.aload_n 0, 1) := by decide +kernel
theorem dX10_latestDue_43 : decode cX10_latestDue 43 = .ok (.getfield 11, 3) := by decide +kernel
theorem dX10_latestDue_46 : decode cX10_latestDue 46 = .ok (.iload_n 1, 1) := by decide +kernel
theorem dX10_latestDue_47 : decode cX10_latestDue 47 = .ok (.aaload, 1) := by decide +kernel
theorem dX10_latestDue_48 : decode cX10_latestDue 48 = .ok (.getfield 78, 3) := by decide +kernel
theorem dX10_latestDue_51 : decode cX10_latestDue 51 = .ok (.iastore, 1) := by decide +kernel
theorem dX10_latestDue_52 : decode cX10_latestDue 52 = .ok (.aload_n 0, 1) := by decide +kernel
theorem dX10_latestDue_53 : decode cX10_latestDue 53 = .ok (.getfield 69, 3) := by decide +kernel
theorem dX10_latestDue_56 : decode cX10_latestDue 56 = .ok (.iconst 3, 1) := by decide +kernel
theorem dX10_latestDue_57 : decode cX10_latestDue 57 = .ok (.aload_n 0, 1) := by decide +kernel
theorem dX10_latestDue_58 : decode cX10_latestDue 58 = .ok (.getfield 11, 3) := by decide +kernel
theorem dX10_latestDue_61 : decode cX10_latestDue 61 = .ok (.iload_n 1, 1) := by decide +kernel
theorem dX10_latestDue_62 : decode cX10_latestDue 62 = .ok (.aaload, 1) := by decide +kernel
theorem dX10_latestDue_63 : decode cX10_latestDue 63 = .ok (.getfield 81, 3) := by decide +kernel
theorem dX10_latestDue_66 : decode cX10_latestDue 66 = .ok (.iastore, 1) := by decide +kernel
theorem dX10_latestDue_67 : decode cX10_latestDue 67 = .ok (.aload_n 0, 1) := by decide +kernel
theorem dX10_latestDue_68 : decode cX10_latestDue 68 = .ok (.getfield 69, 3) := by decide +kernel
theorem dX10_latestDue_71 : decode cX10_latestDue 71 = .ok (.iconst 4, 1) := by decide +kernel
theorem dX10_latestDue_72 : decode cX10_latestDue 72 = .ok (.iload_n 1, 1) := by decide +kernel
theorem dX10_latestDue_73 : decode cX10_latestDue 73 = .ok (.iastore, 1) := by decide +kernel
theorem dX10_latestDue_74 : decode cX10_latestDue 74 = .ok (.iconst 0, 1) := by decide +kernel
theorem dX10_latestDue_75 : decode cX10_latestDue 75 = .ok (.istore_n 3, 1) := by decide +kernel
theorem dX10_latestDue_76 : decode cX10_latestDue 76 = .ok (.iload_n 3, 1) := by decide +kernel
theorem dX10_latestDue_77 : decode cX10_latestDue 77 = .ok (.aload_n 0, 1) := by decide +kernel
theorem dX10_latestDue_78 : decode cX10_latestDue 78 = .ok (.getfield 65, 3) := by decide +kernel
theorem dX10_latestDue_81 : decode cX10_latestDue 81 = .ok (.getfield 119, 3) := by decide +kernel
theorem dX10_latestDue_84 : decode cX10_latestDue 84 = .ok (.if_icmp .ge 118, 3) := by decide +kernel
theorem dX10_latestDue_87 : decode cX10_latestDue 87 = .ok (.aload_n 0, 1) := by decide +kernel
theorem dX10_latestDue_88 : decode cX10_latestDue 88 = .ok (.getfield 11, 3) := by decide +kernel
theorem dX10_latestDue_91 : decode cX10_latestDue 91 = .ok (.iload_n 1, 1) := by decide +kernel
theorem dX10_latestDue_92 : decode cX10_latestDue 92 = .ok (.aaload, 1) := by decide +kernel
theorem dX10_latestDue_93 : decode cX10_latestDue 93 = .ok (.getfield 75, 3) := by decide +kernel
theorem dX10_latestDue_96 : decode cX10_latestDue 96 = .ok (.aload_n 0, 1) := by decide +kernel
theorem dX10_latestDue_97 : decode cX10_latestDue 97 = .ok (.getfield 65, 3) := by decide +kernel
theorem dX10_latestDue_100 : decode cX10_latestDue 100 = .ok (.getfield 123, 3) := by decide +kernel
theorem dX10_latestDue_103 : decode cX10_latestDue 103 = .ok (.iload_n 3, 1) := by decide +kernel
theorem dX10_latestDue_104 : decode cX10_latestDue 104 = .ok (.iaload, 1) := by decide +kernel
theorem dX10_latestDue_105 : decode cX10_latestDue 105 = .ok (.invokestatic 125, 3) := by decide +kernel
theorem dX10_latestDue_108 : decode cX10_latestDue 108 = .ok (.ifCond .eq 88, 3) := by decide +kernel
theorem dX10_latestDue_111 : decode cX10_latestDue 111 = .ok (.aload_n 0, 1) := by decide +kernel
theorem dX10_latestDue_112 : decode cX10_latestDue 112 = .ok (.getfield 65, 3) := by decide +kernel
theorem dX10_latestDue_115 : decode cX10_latestDue 115 = .ok (.iload_n 3, 1) := by decide +kernel
theorem dX10_latestDue_116 : decode cX10_latestDue 116 = .ok (.aload_n 0, 1) := by decide +kernel
theorem dX10_latestDue_117 : decode cX10_latestDue 117 = .ok (.getfield 69, 3) := by decide +kernel
theorem dX10_latestDue_120 : decode cX10_latestDue 120 = .ok (.invokevirtual 129, 3) := by decide +kernel
theorem dX10_latestDue_123 : decode cX10_latestDue 123 = .ok (.ifCond .ne 6, 3) := by decide +kernel
theorem dX10_latestDue_126 : decode cX10_latestDue 126 = .ok (.goto 70, 3) := by decide +kernel
theorem dX10_latestDue_129 : decode cX10_latestDue 129 = .ok (.aload_n 0, 1) := by decide +kernel
theorem dX10_latestDue_130 : decode cX10_latestDue 130 = .ok (.getfield 65, 3) := by decide +kernel
theorem dX10_latestDue_133 : decode cX10_latestDue 133 = .ok (.getfield 133, 3) := by decide +kernel
theorem dX10_latestDue_136 : decode cX10_latestDue 136 = .ok (.iload_n 3, 1) := by decide +kernel
theorem dX10_latestDue_137 : decode cX10_latestDue 137 = .ok (.iaload, 1) := by decide +kernel
theorem dX10_latestDue_138 : decode cX10_latestDue 138 = .ok (.lookupswitch 56 #[(1, 26), (2, 41)], 26) := by decide +kernel
theorem dX10_latestDue_164 : decode cX10_latestDue 164 = .ok (.aload_n 2, 1) := by decide +kernel
theorem dX10_latestDue_165 : decode cX10_latestDue 165 = .ok (.getfield 101, 3) := by decide +kernel
theorem dX10_latestDue_168 : decode cX10_latestDue 168 = .ok (.aload_n 0, 1) := by decide +kernel
theorem dX10_latestDue_169 : decode cX10_latestDue 169 = .ok (.getfield 65, 3) := by decide +kernel
theorem dX10_latestDue_172 : decode cX10_latestDue 172 = .ok (.getfield 136, 3) := by decide +kernel
theorem dX10_latestDue_175 : decode cX10_latestDue 175 = .ok (.iload_n 3, 1) := by decide +kernel
theorem dX10_latestDue_176 : decode cX10_latestDue 176 = .ok (.iaload, 1) := by decide +kernel
theorem dX10_latestDue_177 : decode cX10_latestDue 177 = .ok (.iadd, 1) := by decide +kernel
theorem dX10_latestDue_178 : decode cX10_latestDue 178 = .ok (.ireturn, 1) := by decide +kernel
theorem dX10_latestDue_179 : decode cX10_latestDue 179 = .ok (.aload_n 2, 1) := by decide +kernel
theorem dX10_latestDue_180 : decode cX10_latestDue 180 = .ok (.getfield 101, 3) := by decide +kernel
theorem dX10_latestDue_183 : decode cX10_latestDue 183 = .ok (.aload_n 0, 1) := by decide +kernel
theorem dX10_latestDue_184 : decode cX10_latestDue 184 = .ok (.getfield 65, 3) := by decide +kernel
theorem dX10_latestDue_187 : decode cX10_latestDue 187 = .ok (.getfield 136, 3) := by decide +kernel
theorem dX10_latestDue_190 : decode cX10_latestDue 190 = .ok (.iload_n 3, 1) := by decide +kernel
theorem dX10_latestDue_191 : decode cX10_latestDue 191 = .ok (.iaload, 1) := by decide +kernel
theorem dX10_latestDue_192 : decode cX10_latestDue 192 = .ok (.isub, 1) := by decide +kernel
theorem dX10_latestDue_193 : decode cX10_latestDue 193 = .ok (.ireturn, 1) := by decide +kernel
theorem dX10_latestDue_194 : decode cX10_latestDue 194 = .ok (.iconst (-1), 1) := by decide +kernel
theorem dX10_latestDue_195 : decode cX10_latestDue 195 = .ok (.ireturn, 1) := by decide +kernel
theorem dX10_latestDue_196 : decode cX10_latestDue 196 = .ok (.iinc 3 1, 3) := by decide +kernel
theorem dX10_latestDue_199 : decode cX10_latestDue 199 = .ok (.goto (-123), 3) := by decide +kernel
theorem dX10_latestDue_202 : decode cX10_latestDue 202 = .ok (.aload_n 2, 1) := by decide +kernel
theorem dX10_latestDue_203 : decode cX10_latestDue 203 = .ok (.getfield 101, 3) := by decide +kernel
theorem dX10_latestDue_206 : decode cX10_latestDue 206 = .ok (.ireturn, 1) := by decide +kernel
def f10_latestDue_b196 (K76 : Int32 → lu_M → Option (Int32 × lu_M)) (K202 : lu_M → Option (Int32 × lu_M)) (r0 : Nat) (a1 : Int32) (r2 : Nat) (v3 : Int32) (m : lu_M) : Option (Int32 × lu_M) :=
  K76 (v3 + (1 : Int32)) m
set_option maxRecDepth 20000 in
theorem w10_latestDue_b196  {G : lu_G} {ρ : Nat → Nat} {r0 : Nat} {a1 : Int32} {r2 : Nat} {K76 : Int32 → lu_M → Option (Int32 × lu_M)} {K202 : lu_M → Option (Int32 × lu_M)} (X : lu_X G RX10 cX10_latestDue 4 2 48) (hret : (lu_me G).sig.returnType = (some .int)) (hT_r0 : lu_TC.2 r0 = (5, 0, 0)) (hr_r0 : r0 < lu_TC.1) (hT_r2 : lu_TC.2 r2 = (6, 0, 0)) (hr_r2 : r2 < lu_TC.1) (hK76 : ∀ (v3 : Int32) (m : lu_M), lu_Ab lu_TC G (lu_Q lu_TC G ρ lu_RVi lu_sn) (K76 v3 m) 76 [(0, .ref (ρ r0)), (1, .int a1), (2, .ref (ρ r2)), (3, .int v3)] [] ρ 0 0 [] m) (hK202 : ∀  (m : lu_M), lu_Ab lu_TC G (lu_Q lu_TC G ρ lu_RVi lu_sn) (K202 m) 202 [(2, .ref (ρ r2))] [] ρ 0 0 [] m) : ∀ (v3 : Int32) (m : lu_M), lu_Ab lu_TC G (lu_Q lu_TC G ρ lu_RVi lu_sn) (f10_latestDue_b196 K76 K202 r0 a1 r2 v3 m) 196 [(0, .ref (ρ r0)), (1, .int a1), (2, .ref (ρ r2)), (3, .int v3)] [] ρ 0 0 [] m := by
  intro v3 m
  unfold f10_latestDue_b196
  refine lu_iinc (lv2 := [(3, .int (v3 + (1 : Int32))), (0, .ref (ρ r0)), (1, .int a1), (2, .ref (ρ r2))]) X dX10_latestDue_196 (pc2 := 199) rfl 3 rfl (lu_ii _ ic_1) (by decide) rfl ?_
  refine lu_goto (tgt := 76) X dX10_latestDue_199 (by decide) ?_
  exact lu_sub [1, 2, 3, 0] rfl (hK76 (v3 + (1 : Int32)) m)
def f10_latestDue_b76B (K129 : Int32 → lu_M → Option (Int32 × lu_M)) (K202 : lu_M → Option (Int32 × lu_M)) (rec : Int32 → lu_M → Option (Int32 × lu_M)) (r0 : Nat) (a1 : Int32) (r2 : Nat) (v3 : Int32) (m : lu_M) : Option (Int32 × lu_M) :=
  if (m (r0 + 29) 0) ≤ v3 then (K202 m)
  else (lu_gd (lu_ib a1 6) <|
  lu_gd (lu_ib v3 8) <|
  lu_bi (f11_isUnder (m ((r0 + 1) + 1 + a1.toNatClampNeg) 0) (m ((r0 + 29) + 1) v3.toNatClampNeg) m) fun x11 m12 =>
  if x11 = 0 then (f10_latestDue_b196 rec K202 r0 a1 r2 v3 m12)
  else (lu_bi (f6_holds (r0 + 29) v3 (r0 + 35) m12) fun x13 m14 =>
  if x13 = 0 then (f10_latestDue_b196 rec K202 r0 a1 r2 v3 m14)
  else (K129 v3 m14)))
def f10_latestDue_b76 (K129 : Int32 → lu_M → Option (Int32 × lu_M)) (K202 : lu_M → Option (Int32 × lu_M)) (r0 : Nat) (a1 : Int32) (r2 : Nat) : Nat → Int32 → lu_M → Option (Int32 × lu_M)
  | 0, _, _ => none
  | n + 1, v3, m => f10_latestDue_b76B K129 K202 (f10_latestDue_b76 K129 K202 r0 a1 r2 n) r0 a1 r2 v3 m
set_option maxRecDepth 20000 in
theorem w10_latestDue_b76B  {G : lu_G} {ρ : Nat → Nat} {r0 : Nat} {a1 : Int32} {r2 : Nat} {K129 : Int32 → lu_M → Option (Int32 × lu_M)} {K202 : lu_M → Option (Int32 × lu_M)} {rec : Int32 → lu_M → Option (Int32 × lu_M)} (X : lu_X G RX10 cX10_latestDue 4 2 48) (hret : (lu_me G).sig.returnType = (some .int)) (hT_r0 : lu_TC.2 r0 = (5, 0, 0)) (hr_r0 : r0 < lu_TC.1) (hT_r2 : lu_TC.2 r2 = (6, 0, 0)) (hr_r2 : r2 < lu_TC.1) (hK129 : ∀ (v3 : Int32) (m : lu_M), lu_Ab lu_TC G (lu_Q lu_TC G ρ lu_RVi lu_sn) (K129 v3 m) 129 [(0, .ref (ρ r0)), (2, .ref (ρ r2)), (3, .int v3)] [] ρ 0 0 [] m) (hK202 : ∀  (m : lu_M), lu_Ab lu_TC G (lu_Q lu_TC G ρ lu_RVi lu_sn) (K202 m) 202 [(2, .ref (ρ r2))] [] ρ 0 0 [] m) (hrec : ∀ (v3 : Int32) (m : lu_M), lu_Ab lu_TC G (lu_Q lu_TC G ρ lu_RVi lu_sn) (rec v3 m) 76 [(0, .ref (ρ r0)), (1, .int a1), (2, .ref (ρ r2)), (3, .int v3)] [] ρ 0 0 [] m) : ∀ (v3 : Int32) (m : lu_M), lu_Ab lu_TC G (lu_Q lu_TC G ρ lu_RVi lu_sn) (f10_latestDue_b76B K129 K202 rec r0 a1 r2 v3 m) 76 [(0, .ref (ρ r0)), (1, .int a1), (2, .ref (ρ r2)), (3, .int v3)] [] ρ 0 0 [] m := by
  intro v3 m
  unfold f10_latestDue_b76B
  refine lu_iload_n X dX10_latestDue_76 (pc2 := 77) rfl rfl 3 rfl ?_
  refine lu_aload_n X dX10_latestDue_77 (pc2 := 78) rfl rfl 0 rfl ?_
  refine lu_getr (r2 := (r0 + 29)) X rfl fl10_65 rfl hT_r0 hr_r0 dX10_latestDue_78 (pc2 := 81) rfl ?_
  refine lu_get X fl10_119 rfl ((koC_5_29 hT_r0 hr_r0).1) ((koC_5_29 hT_r0 hr_r0).2) dX10_latestDue_81 (pc2 := 84) rfl ?_
  refine lu_icmp_ge (tgt := 202) X dX10_latestDue_84 (pc2 := 87) rfl (by decide) (fun _ => ?_) (fun _ => ?_)
  · exact lu_sub [2] rfl (hK202 m)
  · refine lu_aload_n X dX10_latestDue_87 (pc2 := 88) rfl rfl 0 rfl ?_
    refine lu_getr (r2 := (r0 + 1)) X rfl fl10_11 rfl hT_r0 hr_r0 dX10_latestDue_88 (pc2 := 91) rfl ?_
    refine lu_iload_n X dX10_latestDue_91 (pc2 := 92) rfl rfl 1 rfl ?_
    refine lu_aald X rfl rfl (by decide) (by decide) ((koC_5_1 hT_r0 hr_r0).1) ((koC_5_1 hT_r0 hr_r0).2) dX10_latestDue_92 (pc2 := 93) rfl (fun g10 => ?_)
    refine lu_get X fl10_75 rfl ((kaC_1_6_0 ((koC_5_1 hT_r0 hr_r0).1) ((koC_5_1 hT_r0 hr_r0).2) g10).1) ((kaC_1_6_0 ((koC_5_1 hT_r0 hr_r0).1) ((koC_5_1 hT_r0 hr_r0).2) g10).2) dX10_latestDue_93 (pc2 := 96) rfl ?_
    refine lu_aload_n X dX10_latestDue_96 (pc2 := 97) rfl rfl 0 rfl ?_
    refine lu_getr (r2 := (r0 + 29)) X rfl fl10_65 rfl hT_r0 hr_r0 dX10_latestDue_97 (pc2 := 100) rfl ?_
    refine lu_getr (r2 := ((r0 + 29) + 1)) X rfl fl10_123 rfl ((koC_5_29 hT_r0 hr_r0).1) ((koC_5_29 hT_r0 hr_r0).2) dX10_latestDue_100 (pc2 := 103) rfl ?_
    refine lu_iload_n X dX10_latestDue_103 (pc2 := 104) rfl rfl 3 rfl ?_
    refine lu_iald X ((koC_7_1 ((koC_5_29 hT_r0 hr_r0).1) ((koC_5_29 hT_r0 hr_r0).2)).1) ((koC_7_1 ((koC_5_29 hT_r0 hr_r0).1) ((koC_5_29 hT_r0 hr_r0).2)).2) dX10_latestDue_104 (pc2 := 105) rfl ?_
    refine lu_invNi X (c11_isUnder _ (m ((r0 + 1) + 1 + a1.toNatClampNeg) 0) (m ((r0 + 29) + 1) v3.toNatClampNeg)) rfl (by decide +kernel) mvS_11_isUnder rfl rfl (Nat.le_of_ble_eq_true rfl) (Nat.le_of_ble_eq_true rfl) (Nat.le_of_ble_eq_true rfl) ⟨Nat.zero_le _, Nat.zero_le _⟩ dX10_latestDue_105 (pc2 := 108) rfl rfl (fun x11 m12 => ?_)
    refine lu_if_eq (tgt := 196) X dX10_latestDue_108 (pc2 := 111) rfl (by decide) (fun _ => ?_) (fun _ => ?_)
    · exact w10_latestDue_b196 X hret hT_r0 hr_r0 hT_r2 hr_r2 hrec hK202 v3 m12
    · refine lu_aload_n X dX10_latestDue_111 (pc2 := 112) rfl rfl 0 rfl ?_
      refine lu_getr (r2 := (r0 + 29)) X rfl fl10_65 rfl hT_r0 hr_r0 dX10_latestDue_112 (pc2 := 115) rfl ?_
      refine lu_iload_n X dX10_latestDue_115 (pc2 := 116) rfl rfl 3 rfl ?_
      refine lu_aload_n X dX10_latestDue_116 (pc2 := 117) rfl rfl 0 rfl ?_
      refine lu_getr (r2 := (r0 + 35)) X rfl fl10_69 rfl hT_r0 hr_r0 dX10_latestDue_117 (pc2 := 120) rfl ?_
      refine lu_invVi X (c6_holds _ ((koC_5_29 hT_r0 hr_r0).1) ((koC_5_29 hT_r0 hr_r0).2) ((koC_5_35 hT_r0 hr_r0).1) ((koC_5_35 hT_r0 hr_r0).2) v3) rfl q488 mvV_6_holds ((koC_5_29 hT_r0 hr_r0).1) ((koC_5_29 hT_r0 hr_r0).2) (by decide) ⟨_, rfl, rfl⟩ rfl rfl (Nat.le_of_ble_eq_true rfl) (Nat.le_of_ble_eq_true rfl) (Nat.le_of_ble_eq_true rfl) ⟨Nat.zero_le _, Nat.zero_le _⟩ dX10_latestDue_120 (pc2 := 123) rfl rfl (fun x13 m14 => ?_)
      refine lu_if_ne (tgt := 129) X dX10_latestDue_123 (pc2 := 126) rfl (by decide) (fun _ => ?_) (fun _ => ?_)
      · exact lu_sub [0, 2, 3] rfl (hK129 v3 m14)
      · refine lu_goto (tgt := 196) X dX10_latestDue_126 (by decide) ?_
        exact w10_latestDue_b196 X hret hT_r0 hr_r0 hT_r2 hr_r2 hrec hK202 v3 m14
theorem w10_latestDue_b76  {G : lu_G} {ρ : Nat → Nat} {r0 : Nat} {a1 : Int32} {r2 : Nat} {K129 : Int32 → lu_M → Option (Int32 × lu_M)} {K202 : lu_M → Option (Int32 × lu_M)} (X : lu_X G RX10 cX10_latestDue 4 2 48) (hret : (lu_me G).sig.returnType = (some .int)) (hT_r0 : lu_TC.2 r0 = (5, 0, 0)) (hr_r0 : r0 < lu_TC.1) (hT_r2 : lu_TC.2 r2 = (6, 0, 0)) (hr_r2 : r2 < lu_TC.1) (hK129 : ∀ (v3 : Int32) (m : lu_M), lu_Ab lu_TC G (lu_Q lu_TC G ρ lu_RVi lu_sn) (K129 v3 m) 129 [(0, .ref (ρ r0)), (2, .ref (ρ r2)), (3, .int v3)] [] ρ 0 0 [] m) (hK202 : ∀  (m : lu_M), lu_Ab lu_TC G (lu_Q lu_TC G ρ lu_RVi lu_sn) (K202 m) 202 [(2, .ref (ρ r2))] [] ρ 0 0 [] m) : ∀ (n : Nat) (v3 : Int32) (m : lu_M), lu_Ab lu_TC G (lu_Q lu_TC G ρ lu_RVi lu_sn) (f10_latestDue_b76 K129 K202 r0 a1 r2 n v3 m) 76 [(0, .ref (ρ r0)), (1, .int a1), (2, .ref (ρ r2)), (3, .int v3)] [] ρ 0 0 [] m := by
  intro n
  induction n with
  | zero => intro v3 m; exact lu_none
  | succ n ih => intro v3 m; exact w10_latestDue_b76B X hret hT_r0 hr_r0 hT_r2 hr_r2 hK129 hK202 ih v3 m
def f10_latestDue_b129  (r0 : Nat) (a1 : Int32) (r2 : Nat) (v3 : Int32) (m : lu_M) : Option (Int32 × lu_M) :=
  lu_gd (lu_ib v3 8) <|
  if (m ((r0 + 29) + 2) v3.toNatClampNeg) = (1 : Int32) then (lu_gd (lu_ib v3 8) <|
  some (((m r2 0) + (m ((r0 + 29) + 3) v3.toNatClampNeg)), m))
  else (if (m ((r0 + 29) + 2) v3.toNatClampNeg) = (2 : Int32) then (lu_gd (lu_ib v3 8) <|
  some (((m r2 0) - (m ((r0 + 29) + 3) v3.toNatClampNeg)), m))
  else (some ((-1 : Int32), m)))
set_option maxRecDepth 20000 in
theorem w10_latestDue_b129  {G : lu_G} {ρ : Nat → Nat} {r0 : Nat} {a1 : Int32} {r2 : Nat}  (X : lu_X G RX10 cX10_latestDue 4 2 48) (hret : (lu_me G).sig.returnType = (some .int)) (hT_r0 : lu_TC.2 r0 = (5, 0, 0)) (hr_r0 : r0 < lu_TC.1) (hT_r2 : lu_TC.2 r2 = (6, 0, 0)) (hr_r2 : r2 < lu_TC.1)  : ∀ (v3 : Int32) (m : lu_M), lu_Ab lu_TC G (lu_Q lu_TC G ρ lu_RVi lu_sn) (f10_latestDue_b129 r0 a1 r2 v3 m) 129 [(0, .ref (ρ r0)), (2, .ref (ρ r2)), (3, .int v3)] [] ρ 0 0 [] m := by
  intro v3 m
  unfold f10_latestDue_b129
  refine lu_aload_n X dX10_latestDue_129 (pc2 := 130) rfl rfl 0 rfl ?_
  refine lu_getr (r2 := (r0 + 29)) X rfl fl10_65 rfl hT_r0 hr_r0 dX10_latestDue_130 (pc2 := 133) rfl ?_
  refine lu_getr (r2 := ((r0 + 29) + 2)) X rfl fl10_133 rfl ((koC_5_29 hT_r0 hr_r0).1) ((koC_5_29 hT_r0 hr_r0).2) dX10_latestDue_133 (pc2 := 136) rfl ?_
  refine lu_iload_n X dX10_latestDue_136 (pc2 := 137) rfl rfl 2 rfl ?_
  refine lu_iald X ((koC_7_2 ((koC_5_29 hT_r0 hr_r0).1) ((koC_5_29 hT_r0 hr_r0).2)).1) ((koC_7_2 ((koC_5_29 hT_r0 hr_r0).1) ((koC_5_29 hT_r0 hr_r0).2)).2) dX10_latestDue_137 (pc2 := 138) rfl ?_
  refine lu_ite (fun c0 => ?_) (fun c0 => ?_)
  · refine lu_lsw (tgt := 164) (off := 26) X dX10_latestDue_138 (by decide) (by rw [c0]; decide) (by decide) ?_
    refine lu_aload_n X dX10_latestDue_164 (pc2 := 165) rfl rfl 1 rfl ?_
    refine lu_get X fl10_101 rfl hT_r2 hr_r2 dX10_latestDue_165 (pc2 := 168) rfl ?_
    refine lu_aload_n X dX10_latestDue_168 (pc2 := 169) rfl rfl 0 rfl ?_
    refine lu_getr (r2 := (r0 + 29)) X rfl fl10_65 rfl hT_r0 hr_r0 dX10_latestDue_169 (pc2 := 172) rfl ?_
    refine lu_getr (r2 := ((r0 + 29) + 3)) X rfl fl10_136 rfl ((koC_5_29 hT_r0 hr_r0).1) ((koC_5_29 hT_r0 hr_r0).2) dX10_latestDue_172 (pc2 := 175) rfl ?_
    refine lu_iload_n X dX10_latestDue_175 (pc2 := 176) rfl rfl 2 rfl ?_
    refine lu_iald X ((koC_7_3 ((koC_5_29 hT_r0 hr_r0).1) ((koC_5_29 hT_r0 hr_r0).2)).1) ((koC_7_3 ((koC_5_29 hT_r0 hr_r0).1) ((koC_5_29 hT_r0 hr_r0).2)).2) dX10_latestDue_176 (pc2 := 177) rfl ?_
    refine lu_iadd X dX10_latestDue_177 (pc2 := 178) rfl ?_
    exact lu_iret X hret dX10_latestDue_178
  · refine lu_ite (fun c1 => ?_) (fun c1 => ?_)
    · refine lu_lsw (tgt := 179) (off := 41) X dX10_latestDue_138 (by decide) (by rw [c1]; decide) (by decide) ?_
      refine lu_aload_n X dX10_latestDue_179 (pc2 := 180) rfl rfl 1 rfl ?_
      refine lu_get X fl10_101 rfl hT_r2 hr_r2 dX10_latestDue_180 (pc2 := 183) rfl ?_
      refine lu_aload_n X dX10_latestDue_183 (pc2 := 184) rfl rfl 0 rfl ?_
      refine lu_getr (r2 := (r0 + 29)) X rfl fl10_65 rfl hT_r0 hr_r0 dX10_latestDue_184 (pc2 := 187) rfl ?_
      refine lu_getr (r2 := ((r0 + 29) + 3)) X rfl fl10_136 rfl ((koC_5_29 hT_r0 hr_r0).1) ((koC_5_29 hT_r0 hr_r0).2) dX10_latestDue_187 (pc2 := 190) rfl ?_
      refine lu_iload_n X dX10_latestDue_190 (pc2 := 191) rfl rfl 2 rfl ?_
      refine lu_iald X ((koC_7_3 ((koC_5_29 hT_r0 hr_r0).1) ((koC_5_29 hT_r0 hr_r0).2)).1) ((koC_7_3 ((koC_5_29 hT_r0 hr_r0).1) ((koC_5_29 hT_r0 hr_r0).2)).2) dX10_latestDue_191 (pc2 := 192) rfl ?_
      refine lu_isub X dX10_latestDue_192 (pc2 := 193) rfl ?_
      exact lu_iret X hret dX10_latestDue_193
    · refine lu_lsw (tgt := 194) (off := 56) X dX10_latestDue_138 (by decide) (by show Op.lookupswitch.offset [((1 : Int), (26 : Int)), ((2 : Int), (41 : Int))] _ _ = _; rw [lv_osw c0 (by decide)]; rw [lv_osw c1 (by decide)]; rfl) (by decide) ?_
      refine lu_iconst X dX10_latestDue_194 (pc2 := 195) rfl ic_m1 ?_
      exact lu_iret X hret dX10_latestDue_195
def f10_latestDue_b202  (r0 : Nat) (a1 : Int32) (r2 : Nat)  (m : lu_M) : Option (Int32 × lu_M) :=
  some ((m r2 0), m)
set_option maxRecDepth 20000 in
theorem w10_latestDue_b202  {G : lu_G} {ρ : Nat → Nat} {r0 : Nat} {a1 : Int32} {r2 : Nat}  (X : lu_X G RX10 cX10_latestDue 4 2 48) (hret : (lu_me G).sig.returnType = (some .int)) (hT_r0 : lu_TC.2 r0 = (5, 0, 0)) (hr_r0 : r0 < lu_TC.1) (hT_r2 : lu_TC.2 r2 = (6, 0, 0)) (hr_r2 : r2 < lu_TC.1)  : ∀  (m : lu_M), lu_Ab lu_TC G (lu_Q lu_TC G ρ lu_RVi lu_sn) (f10_latestDue_b202 r0 a1 r2 m) 202 [(2, .ref (ρ r2))] [] ρ 0 0 [] m := by
  intro  m
  unfold f10_latestDue_b202
  refine lu_aload_n X dX10_latestDue_202 (pc2 := 203) rfl rfl 0 rfl ?_
  refine lu_get X fl10_101 rfl hT_r2 hr_r2 dX10_latestDue_203 (pc2 := 206) rfl ?_
  exact lu_iret X hret dX10_latestDue_206
def f10_latestDue (r0 : Nat) (a1 : Int32) (r2 : Nat) (m : lu_M) : Option (Int32 × lu_M) :=
  if (m (r0 + 29) 0) = 0 then (some ((m r2 0), m))
  else (lu_nm (lu_st m (r0 + 35) 0 (m r2 0)) fun m1 =>
  lu_bi (f10_borne r0 a1 r2 m1) fun x2 m3 =>
  lu_nm (lu_st m3 (r0 + 35) 1 x2) fun m4 =>
  lu_gd (lu_ib a1 6) <|
  lu_nm (lu_st m4 (r0 + 35) 2 (m4 ((r0 + 1) + 1 + a1.toNatClampNeg) 2)) fun m6 =>
  lu_gd (lu_ib a1 6) <|
  lu_nm (lu_st m6 (r0 + 35) 3 (m6 ((r0 + 1) + 1 + a1.toNatClampNeg) 3)) fun m8 =>
  lu_nm (lu_st m8 (r0 + 35) 4 a1) fun m9 =>
  f10_latestDue_b76 (f10_latestDue_b129 r0 a1 r2) (f10_latestDue_b202 r0 a1 r2) r0 a1 r2 lu_fu (0 : Int32) m9)
set_option maxRecDepth 20000 in
theorem c10_latestDue (l : Launch) {r0 : Nat} {r2 : Nat} (hT_r0 : lu_TC.2 r0 = (5, 0, 0)) (hr_r0 : r0 < lu_TC.1) (hT_r2 : lu_TC.2 r2 = (6, 0, 0)) (hr_r2 : r2 < lu_TC.1) (a1 : Int32) : lu_C lu_TC l yX10_latestDue cX10_latestDue 4 (some .int) 2 48 (fun ρ sa => [.ref (ρ r0), .int a1, .ref (ρ r2)]) (f10_latestDue r0 a1 r2) lu_RVi lu_sn := by
  refine lu_met (cls := RX10) rfl (by decide +kernel) (fun _ _ => Nat.le_of_ble_eq_true rfl) ?_
  intro G ρ m hl X hret
  subst hl
  change lu_Ab lu_TC G (lu_Q lu_TC G ρ lu_RVi lu_sn) (f10_latestDue r0 a1 r2 m) 0 [(0, .ref (ρ r0)), (1, .int a1), (2, .ref (ρ r2))] [] ρ 0 0 [] m
  unfold f10_latestDue
  refine lu_aload_n X dX10_latestDue_0 (pc2 := 1) rfl rfl 0 rfl ?_
  refine lu_getr (r2 := (r0 + 29)) X rfl fl10_65 rfl hT_r0 hr_r0 dX10_latestDue_1 (pc2 := 4) rfl ?_
  refine lu_get X fl10_119 rfl ((koC_5_29 hT_r0 hr_r0).1) ((koC_5_29 hT_r0 hr_r0).2) dX10_latestDue_4 (pc2 := 7) rfl ?_
  refine lu_if_ne (tgt := 15) X dX10_latestDue_7 (pc2 := 10) rfl (by decide) (fun _ => ?_) (fun _ => ?_)
  · refine lu_aload_n X dX10_latestDue_15 (pc2 := 16) rfl rfl 0 rfl ?_
    refine lu_getr (r2 := (r0 + 35)) X rfl fl10_69 rfl hT_r0 hr_r0 dX10_latestDue_16 (pc2 := 19) rfl ?_
    refine lu_iconst X dX10_latestDue_19 (pc2 := 20) rfl ic_0 ?_
    refine lu_aload_n X dX10_latestDue_20 (pc2 := 21) rfl rfl 2 rfl ?_
    refine lu_get X fl10_101 rfl hT_r2 hr_r2 dX10_latestDue_21 (pc2 := 24) rfl ?_
    refine lu_iastK (q := 0) X (by decide) ((koC_5_35 hT_r0 hr_r0).1) ((koC_5_35 hT_r0 hr_r0).2) dX10_latestDue_24 (pc2 := 25) rfl (fun m1 => ?_)
    refine lu_aload_n X dX10_latestDue_25 (pc2 := 26) rfl rfl 0 rfl ?_
    refine lu_getr (r2 := (r0 + 35)) X rfl fl10_69 rfl hT_r0 hr_r0 dX10_latestDue_26 (pc2 := 29) rfl ?_
    refine lu_iconst X dX10_latestDue_29 (pc2 := 30) rfl ic_1 ?_
    refine lu_aload_n X dX10_latestDue_30 (pc2 := 31) rfl rfl 0 rfl ?_
    refine lu_iload_n X dX10_latestDue_31 (pc2 := 32) rfl rfl 1 rfl ?_
    refine lu_aload_n X dX10_latestDue_32 (pc2 := 33) rfl rfl 2 rfl ?_
    refine lu_invVi X (c10_borne _ hT_r0 hr_r0 hT_r2 hr_r2 a1) rfl q482 mvV_10_borne hT_r0 hr_r0 (by decide) ⟨_, rfl, rfl⟩ rfl rfl (Nat.le_of_ble_eq_true rfl) (Nat.le_of_ble_eq_true rfl) (Nat.le_of_ble_eq_true rfl) ⟨Nat.zero_le _, Nat.zero_le _⟩ dX10_latestDue_33 (pc2 := 36) rfl rfl (fun x2 m3 => ?_)
    refine lu_iastK (q := 1) X (by decide) ((koC_5_35 hT_r0 hr_r0).1) ((koC_5_35 hT_r0 hr_r0).2) dX10_latestDue_36 (pc2 := 37) rfl (fun m4 => ?_)
    refine lu_aload_n X dX10_latestDue_37 (pc2 := 38) rfl rfl 0 rfl ?_
    refine lu_getr (r2 := (r0 + 35)) X rfl fl10_69 rfl hT_r0 hr_r0 dX10_latestDue_38 (pc2 := 41) rfl ?_
    refine lu_iconst X dX10_latestDue_41 (pc2 := 42) rfl ic_2 ?_
    refine lu_aload_n X dX10_latestDue_42 (pc2 := 43) rfl rfl 0 rfl ?_
    refine lu_getr (r2 := (r0 + 1)) X rfl fl10_11 rfl hT_r0 hr_r0 dX10_latestDue_43 (pc2 := 46) rfl ?_
    refine lu_iload_n X dX10_latestDue_46 (pc2 := 47) rfl rfl 1 rfl ?_
    refine lu_aald X rfl rfl (by decide) (by decide) ((koC_5_1 hT_r0 hr_r0).1) ((koC_5_1 hT_r0 hr_r0).2) dX10_latestDue_47 (pc2 := 48) rfl (fun g5 => ?_)
    refine lu_get X fl10_78 rfl ((kaC_1_6_0 ((koC_5_1 hT_r0 hr_r0).1) ((koC_5_1 hT_r0 hr_r0).2) g5).1) ((kaC_1_6_0 ((koC_5_1 hT_r0 hr_r0).1) ((koC_5_1 hT_r0 hr_r0).2) g5).2) dX10_latestDue_48 (pc2 := 51) rfl ?_
    refine lu_iastK (q := 2) X (by decide) ((koC_5_35 hT_r0 hr_r0).1) ((koC_5_35 hT_r0 hr_r0).2) dX10_latestDue_51 (pc2 := 52) rfl (fun m6 => ?_)
    refine lu_aload_n X dX10_latestDue_52 (pc2 := 53) rfl rfl 0 rfl ?_
    refine lu_getr (r2 := (r0 + 35)) X rfl fl10_69 rfl hT_r0 hr_r0 dX10_latestDue_53 (pc2 := 56) rfl ?_
    refine lu_iconst X dX10_latestDue_56 (pc2 := 57) rfl ic_3 ?_
    refine lu_aload_n X dX10_latestDue_57 (pc2 := 58) rfl rfl 0 rfl ?_
    refine lu_getr (r2 := (r0 + 1)) X rfl fl10_11 rfl hT_r0 hr_r0 dX10_latestDue_58 (pc2 := 61) rfl ?_
    refine lu_iload_n X dX10_latestDue_61 (pc2 := 62) rfl rfl 1 rfl ?_
    refine lu_aald X rfl rfl (by decide) (by decide) ((koC_5_1 hT_r0 hr_r0).1) ((koC_5_1 hT_r0 hr_r0).2) dX10_latestDue_62 (pc2 := 63) rfl (fun g7 => ?_)
    refine lu_get X fl10_81 rfl ((kaC_1_6_0 ((koC_5_1 hT_r0 hr_r0).1) ((koC_5_1 hT_r0 hr_r0).2) g7).1) ((kaC_1_6_0 ((koC_5_1 hT_r0 hr_r0).1) ((koC_5_1 hT_r0 hr_r0).2) g7).2) dX10_latestDue_63 (pc2 := 66) rfl ?_
    refine lu_iastK (q := 3) X (by decide) ((koC_5_35 hT_r0 hr_r0).1) ((koC_5_35 hT_r0 hr_r0).2) dX10_latestDue_66 (pc2 := 67) rfl (fun m8 => ?_)
    refine lu_aload_n X dX10_latestDue_67 (pc2 := 68) rfl rfl 0 rfl ?_
    refine lu_getr (r2 := (r0 + 35)) X rfl fl10_69 rfl hT_r0 hr_r0 dX10_latestDue_68 (pc2 := 71) rfl ?_
    refine lu_iconst X dX10_latestDue_71 (pc2 := 72) rfl ic_4 ?_
    refine lu_iload_n X dX10_latestDue_72 (pc2 := 73) rfl rfl 1 rfl ?_
    refine lu_iastK (q := 4) X (by decide) ((koC_5_35 hT_r0 hr_r0).1) ((koC_5_35 hT_r0 hr_r0).2) dX10_latestDue_73 (pc2 := 74) rfl (fun m9 => ?_)
    refine lu_iconst X dX10_latestDue_74 (pc2 := 75) rfl ic_0 ?_
    refine lu_istore_n (lv2 := [(3, .int (0 : Int32)), (0, .ref (ρ r0)), (1, .int a1), (2, .ref (ρ r2))]) X dX10_latestDue_75 (pc2 := 76) rfl rfl (by decide) rfl ?_
    exact lu_sub [1, 2, 3, 0] rfl (w10_latestDue_b76 X hret hT_r0 hr_r0 hT_r2 hr_r2 (w10_latestDue_b129 X hret hT_r0 hr_r0 hT_r2 hr_r2) (w10_latestDue_b202 X hret hT_r0 hr_r0 hT_r2 hr_r2) lu_fu (0 : Int32) m9)
  · refine lu_aload_n X dX10_latestDue_10 (pc2 := 11) rfl rfl 2 rfl ?_
    refine lu_get X fl10_101 rfl hT_r2 hr_r2 dX10_latestDue_11 (pc2 := 14) rfl ?_
    exact lu_iret X hret dX10_latestDue_14

theorem dX10_choice_0 : decode cX10_choice 0 = .ok (.aload_n 0, 1) := by decide +kernel
theorem dX10_choice_1 : decode cX10_choice 1 = .ok (.getfield 37, 3) := by decide +kernel
theorem dX10_choice_4 : decode cX10_choice 4 = .ok (.iload_n 1, 1) := by decide +kernel
theorem dX10_choice_5 : decode cX10_choice 5 = .ok (.iaload, 1) := by decide +kernel
theorem dX10_choice_6 : decode cX10_choice 6 = .ok (.aload_n 2, 1) := by decide +kernel
theorem dX10_choice_7 : decode cX10_choice 7 = .ok (.getfield 108, 3) := by decide +kernel
theorem dX10_choice_10 : decode cX10_choice 10 = .ok (.iand, 1) := by decide +kernel
theorem dX10_choice_11 : decode cX10_choice 11 = .ok (.istore_n 3, 1) := by decide +kernel
theorem dX10_choice_12 : decode cX10_choice 12 = .ok (.iload_n 3, 1) := by decide +kernel
theorem dX10_choice_13 : decode cX10_choice 13 = .ok (.ifCond .ne 6, 3) := by decide +kernel
theorem dX10_choice_16 : decode cX10_choice 16 = .ok (.bipush 10, 2) := by decide +kernel
theorem dX10_choice_18 : decode cX10_choice 18 = .ok (.ireturn, 1) := by decide +kernel
theorem dX10_choice_19 : decode cX10_choice 19 = .ok (.aload_n 0, 1) := by decide +kernel
theorem dX10_choice_20 : decode cX10_choice 20 = .ok (.getfield 11, 3) := by decide +kernel
theorem dX10_choice_23 : decode cX10_choice 23 = .ok (.iload_n 1, 1) := by decide +kernel
theorem dX10_choice_24 : decode cX10_choice 24 = .ok (.aaload, 1) := by decide +kernel
theorem dX10_choice_25 : decode cX10_choice 25 = .ok (.aload_n 2, 1) := by decide +kernel
theorem dX10_choice_26 : decode cX10_choice 26 = .ok (.getfield 101, 3) := by decide +kernel
theorem dX10_choice_29 : decode cX10_choice 29 = .ok (.invokevirtual 111, 3) := by decide +kernel
theorem dX10_choice_32 : decode cX10_choice 32 = .ok (.istore 4, 2) := by decide +kernel
theorem dX10_choice_34 : decode cX10_choice 34 = .ok (.aload_n 0, 1) := by decide +kernel
theorem dX10_choice_35 : decode cX10_choice 35 = .ok (.iload_n 1, 1) := by decide +kernel
theorem dX10_choice_36 : decode cX10_choice 36 = .ok (.aload_n 2, 1) := by decide +kernel
theorem dX10_choice_37 : decode cX10_choice 37 = .ok (.invokevirtual 115, 3) := by decide +kernel
theorem dX10_choice_40 : decode cX10_choice 40 = .ok (.istore 5, 2) := by decide +kernel
theorem dX10_choice_42 : decode cX10_choice 42 = .ok (.bipush 10, 2) := by decide +kernel
theorem dX10_choice_44 : decode cX10_choice 44 = .ok (.istore 6, 2) := by decide +kernel
theorem dX10_choice_46 : decode cX10_choice 46 = .ok (.iconst 0, 1) := by decide +kernel
theorem dX10_choice_47 : decode cX10_choice 47 = .ok (.istore 7, 2) := by decide +kernel
theorem dX10_choice_49 : decode cX10_choice 49 = .ok (.iload 7, 2) := by decide +kernel
theorem dX10_choice_51 : decode cX10_choice 51 = .ok (.aload_n 0, 1) := by decide +kernel
theorem dX10_choice_52 : decode cX10_choice 52 = .ok (.getfield 84, 3) := by decide +kernel
theorem dX10_choice_55 : decode cX10_choice 55 = .ok (.if_icmp .ge 73, 3) := by decide +kernel
theorem dX10_choice_58 : decode cX10_choice 58 = .ok (.iload_n 3, 1) := by decide +kernel
theorem dX10_choice_59 : decode cX10_choice 59 = .ok (.iload 7, 2) := by decide +kernel
theorem dX10_choice_61 : decode cX10_choice 61 = .ok (.ishr, 1) := by decide +kernel
theorem dX10_choice_62 : decode cX10_choice 62 = .ok (.iconst 1, 1) := by decide +kernel
theorem dX10_choice_63 : decode cX10_choice 63 = .ok (.iand, 1) := by decide +kernel
theorem dX10_choice_64 : decode cX10_choice 64 = .ok (.ifCond .eq 58, 3) := by decide +kernel
theorem dX10_choice_67 : decode cX10_choice 67 = .ok (.aload_n 0, 1) := by decide +kernel
theorem dX10_choice_68 : decode cX10_choice 68 = .ok (.getfield 28, 3) := by decide +kernel
theorem dX10_choice_71 : decode cX10_choice 71 = .ok (.iload 7, 2) := by decide +kernel
theorem dX10_choice_73 : decode cX10_choice 73 = .ok (.iaload, 1) := by decide +kernel
theorem dX10_choice_74 : decode cX10_choice 74 = .ok (.iload 4, 2) := by decide +kernel
theorem dX10_choice_76 : decode cX10_choice 76 = .ok (.if_icmp .gt 46, 3) := by decide +kernel
theorem dX10_choice_79 : decode cX10_choice 79 = .ok (.aload_n 0, 1) := by decide +kernel
theorem dX10_choice_80 : decode cX10_choice 80 = .ok (.getfield 34, 3) := by decide +kernel
theorem dX10_choice_83 : decode cX10_choice 83 = .ok (.iload 7, 2) := by decide +kernel
theorem dX10_choice_85 : decode cX10_choice 85 = .ok (.iaload, 1) := by decide +kernel
theorem dX10_choice_86 : decode cX10_choice 86 = .ok (.iload 5, 2) := by decide +kernel
theorem dX10_choice_88 : decode cX10_choice 88 = .ok (.if_icmp .le 6, 3) := by decide +kernel
theorem dX10_choice_91 : decode cX10_choice 91 = .ok (.goto 31, 3) := by decide +kernel
theorem dX10_choice_94 : decode cX10_choice 94 = .ok (.iload 6, 2) := by decide +kernel
theorem dX10_choice_96 : decode cX10_choice 96 = .ok (.bipush 10, 2) := by decide +kernel
theorem dX10_choice_98 : decode cX10_choice 98 = .ok (.if_icmp .eq 20, 3) := by decide +kernel
theorem dX10_choice_101 : decode cX10_choice 101 = .ok (.aload_n 0, 1) := by decide +kernel
theorem dX10_choice_102 : decode cX10_choice 102 = .ok (.getfield 34, 3) := by decide +kernel
theorem dX10_choice_105 : decode cX10_choice 105 = .ok (.iload 7, 2) := by decide +kernel
theorem dX10_choice_107 : decode cX10_choice 107 = .ok (.iaload, 1) := by decide +kernel
theorem dX10_choice_108 : decode cX10_choice 108 = .ok (.aload_n 0, 1) := by decide +kernel
theorem dX10_choice_109 : decode cX10_choice 109 = .ok (.getfield 34, 3) := by decide +kernel
theorem dX10_choice_112 : decode cX10_choice 112 = .ok (.iload 6, 2) := by decide +kernel
theorem dX10_choice_114 : decode cX10_choice 114 = .ok (.iaload, 1) := by decide +kernel
theorem dX10_choice_115 : decode cX10_choice 115 = .ok (.if_icmp .ge 7, 3) := by decide +kernel
theorem dX10_choice_118 : decode cX10_choice 118 = .ok (.iload 7, 2) := by decide +kernel
theorem dX10_choice_120 : decode cX10_choice 120 = .ok (.istore 6, 2) := by decide +kernel
theorem dX10_choice_122 : decode cX10_choice 122 = .ok (.iinc 7 1, 3) := by decide +kernel
theorem dX10_choice_125 : decode cX10_choice 125 = .ok (.goto (-76), 3) := by decide +kernel
theorem dX10_choice_128 : decode cX10_choice 128 = .ok (.iload 6, 2) := by decide +kernel
theorem dX10_choice_130 : decode cX10_choice 130 = .ok (.ireturn, 1) := by decide +kernel
def f10_choice_b122 (K49 : Int32 → Int32 → Int32 → Int32 → Int32 → lu_M → Option (Int32 × lu_M)) (K128 : Int32 → lu_M → Option (Int32 × lu_M)) (r0 : Nat) (a1 : Int32) (r2 : Nat) (v3 : Int32) (v4 : Int32) (v5 : Int32) (v6 : Int32) (v7 : Int32) (m : lu_M) : Option (Int32 × lu_M) :=
  K49 v3 v4 v5 v6 (v7 + (1 : Int32)) m
set_option maxRecDepth 20000 in
theorem w10_choice_b122  {G : lu_G} {ρ : Nat → Nat} {r0 : Nat} {a1 : Int32} {r2 : Nat} {K49 : Int32 → Int32 → Int32 → Int32 → Int32 → lu_M → Option (Int32 × lu_M)} {K128 : Int32 → lu_M → Option (Int32 × lu_M)} (X : lu_X G RX10 cX10_choice 8 3 71) (hret : (lu_me G).sig.returnType = (some .int)) (hT_r0 : lu_TC.2 r0 = (5, 0, 0)) (hr_r0 : r0 < lu_TC.1) (hT_r2 : lu_TC.2 r2 = (6, 0, 0)) (hr_r2 : r2 < lu_TC.1) (hK49 : ∀ (v3 : Int32) (v4 : Int32) (v5 : Int32) (v6 : Int32) (v7 : Int32) (m : lu_M), lu_Ab lu_TC G (lu_Q lu_TC G ρ lu_RVi lu_sn) (K49 v3 v4 v5 v6 v7 m) 49 [(0, .ref (ρ r0)), (3, .int v3), (4, .int v4), (5, .int v5), (6, .int v6), (7, .int v7)] [] ρ 0 0 [] m) (hK128 : ∀ (v6 : Int32) (m : lu_M), lu_Ab lu_TC G (lu_Q lu_TC G ρ lu_RVi lu_sn) (K128 v6 m) 128 [(6, .int v6)] [] ρ 0 0 [] m) : ∀ (v3 : Int32) (v4 : Int32) (v5 : Int32) (v6 : Int32) (v7 : Int32) (m : lu_M), lu_Ab lu_TC G (lu_Q lu_TC G ρ lu_RVi lu_sn) (f10_choice_b122 K49 K128 r0 a1 r2 v3 v4 v5 v6 v7 m) 122 [(0, .ref (ρ r0)), (3, .int v3), (4, .int v4), (5, .int v5), (6, .int v6), (7, .int v7)] [] ρ 0 0 [] m := by
  intro v3 v4 v5 v6 v7 m
  unfold f10_choice_b122
  refine lu_iinc (lv2 := [(7, .int (v7 + (1 : Int32))), (0, .ref (ρ r0)), (3, .int v3), (4, .int v4), (5, .int v5), (6, .int v6)]) X dX10_choice_122 (pc2 := 125) rfl 5 rfl (lu_ii _ ic_1) (by decide) rfl ?_
  refine lu_goto (tgt := 49) X dX10_choice_125 (by decide) ?_
  exact lu_sub [1, 2, 3, 4, 5, 0] rfl (hK49 v3 v4 v5 v6 (v7 + (1 : Int32)) m)
def f10_choice_b118 (K49 : Int32 → Int32 → Int32 → Int32 → Int32 → lu_M → Option (Int32 × lu_M)) (K128 : Int32 → lu_M → Option (Int32 × lu_M)) (r0 : Nat) (a1 : Int32) (r2 : Nat) (v3 : Int32) (v4 : Int32) (v5 : Int32) (v7 : Int32) (m : lu_M) : Option (Int32 × lu_M) :=
  f10_choice_b122 K49 K128 r0 a1 r2 v3 v4 v5 v7 v7 m
set_option maxRecDepth 20000 in
theorem w10_choice_b118  {G : lu_G} {ρ : Nat → Nat} {r0 : Nat} {a1 : Int32} {r2 : Nat} {K49 : Int32 → Int32 → Int32 → Int32 → Int32 → lu_M → Option (Int32 × lu_M)} {K128 : Int32 → lu_M → Option (Int32 × lu_M)} (X : lu_X G RX10 cX10_choice 8 3 71) (hret : (lu_me G).sig.returnType = (some .int)) (hT_r0 : lu_TC.2 r0 = (5, 0, 0)) (hr_r0 : r0 < lu_TC.1) (hT_r2 : lu_TC.2 r2 = (6, 0, 0)) (hr_r2 : r2 < lu_TC.1) (hK49 : ∀ (v3 : Int32) (v4 : Int32) (v5 : Int32) (v6 : Int32) (v7 : Int32) (m : lu_M), lu_Ab lu_TC G (lu_Q lu_TC G ρ lu_RVi lu_sn) (K49 v3 v4 v5 v6 v7 m) 49 [(0, .ref (ρ r0)), (3, .int v3), (4, .int v4), (5, .int v5), (6, .int v6), (7, .int v7)] [] ρ 0 0 [] m) (hK128 : ∀ (v6 : Int32) (m : lu_M), lu_Ab lu_TC G (lu_Q lu_TC G ρ lu_RVi lu_sn) (K128 v6 m) 128 [(6, .int v6)] [] ρ 0 0 [] m) : ∀ (v3 : Int32) (v4 : Int32) (v5 : Int32) (v7 : Int32) (m : lu_M), lu_Ab lu_TC G (lu_Q lu_TC G ρ lu_RVi lu_sn) (f10_choice_b118 K49 K128 r0 a1 r2 v3 v4 v5 v7 m) 118 [(0, .ref (ρ r0)), (3, .int v3), (4, .int v4), (5, .int v5), (7, .int v7)] [] ρ 0 0 [] m := by
  intro v3 v4 v5 v7 m
  unfold f10_choice_b118
  refine lu_iload X dX10_choice_118 (pc2 := 120) rfl 4 rfl ?_
  refine lu_istore (lv2 := [(6, .int v7), (0, .ref (ρ r0)), (3, .int v3), (4, .int v4), (5, .int v5), (7, .int v7)]) X dX10_choice_120 (pc2 := 122) rfl (by decide) rfl ?_
  exact lu_sub [1, 2, 3, 4, 0, 5] rfl (w10_choice_b122 X hret hT_r0 hr_r0 hT_r2 hr_r2 hK49 hK128 v3 v4 v5 v7 v7 m)
def f10_choice_b49B (K128 : Int32 → lu_M → Option (Int32 × lu_M)) (rec : Int32 → Int32 → Int32 → Int32 → Int32 → lu_M → Option (Int32 × lu_M)) (r0 : Nat) (a1 : Int32) (r2 : Nat) (v3 : Int32) (v4 : Int32) (v5 : Int32) (v6 : Int32) (v7 : Int32) (m : lu_M) : Option (Int32 × lu_M) :=
  if (m r0 2) ≤ v7 then (K128 v6 m)
  else (if ((v3 >>> (v7 &&& 31)) &&& (1 : Int32)) = 0 then (f10_choice_b122 rec K128 r0 a1 r2 v3 v4 v5 v6 v7 m)
  else (lu_gd (lu_ib v7 10) <|
  if v4 < (m (r0 + 10) v7.toNatClampNeg) then (f10_choice_b122 rec K128 r0 a1 r2 v3 v4 v5 v6 v7 m)
  else (lu_gd (lu_ib v7 10) <|
  if (m (r0 + 12) v7.toNatClampNeg) ≤ v5 then (if v6 = (10 : Int32) then (f10_choice_b118 rec K128 r0 a1 r2 v3 v4 v5 v7 m)
  else (lu_gd (lu_ib v7 10) <|
  lu_gd (lu_ib v6 10) <|
  if (m (r0 + 12) v6.toNatClampNeg) ≤ (m (r0 + 12) v7.toNatClampNeg) then (f10_choice_b122 rec K128 r0 a1 r2 v3 v4 v5 v6 v7 m)
  else (f10_choice_b118 rec K128 r0 a1 r2 v3 v4 v5 v7 m)))
  else (f10_choice_b122 rec K128 r0 a1 r2 v3 v4 v5 v6 v7 m))))
def f10_choice_b49 (K128 : Int32 → lu_M → Option (Int32 × lu_M)) (r0 : Nat) (a1 : Int32) (r2 : Nat) : Nat → Int32 → Int32 → Int32 → Int32 → Int32 → lu_M → Option (Int32 × lu_M)
  | 0, _, _, _, _, _, _ => none
  | n + 1, v3, v4, v5, v6, v7, m => f10_choice_b49B K128 (f10_choice_b49 K128 r0 a1 r2 n) r0 a1 r2 v3 v4 v5 v6 v7 m
set_option maxRecDepth 20000 in
theorem w10_choice_b49B  {G : lu_G} {ρ : Nat → Nat} {r0 : Nat} {a1 : Int32} {r2 : Nat} {K128 : Int32 → lu_M → Option (Int32 × lu_M)} {rec : Int32 → Int32 → Int32 → Int32 → Int32 → lu_M → Option (Int32 × lu_M)} (X : lu_X G RX10 cX10_choice 8 3 71) (hret : (lu_me G).sig.returnType = (some .int)) (hT_r0 : lu_TC.2 r0 = (5, 0, 0)) (hr_r0 : r0 < lu_TC.1) (hT_r2 : lu_TC.2 r2 = (6, 0, 0)) (hr_r2 : r2 < lu_TC.1) (hK128 : ∀ (v6 : Int32) (m : lu_M), lu_Ab lu_TC G (lu_Q lu_TC G ρ lu_RVi lu_sn) (K128 v6 m) 128 [(6, .int v6)] [] ρ 0 0 [] m) (hrec : ∀ (v3 : Int32) (v4 : Int32) (v5 : Int32) (v6 : Int32) (v7 : Int32) (m : lu_M), lu_Ab lu_TC G (lu_Q lu_TC G ρ lu_RVi lu_sn) (rec v3 v4 v5 v6 v7 m) 49 [(0, .ref (ρ r0)), (3, .int v3), (4, .int v4), (5, .int v5), (6, .int v6), (7, .int v7)] [] ρ 0 0 [] m) : ∀ (v3 : Int32) (v4 : Int32) (v5 : Int32) (v6 : Int32) (v7 : Int32) (m : lu_M), lu_Ab lu_TC G (lu_Q lu_TC G ρ lu_RVi lu_sn) (f10_choice_b49B K128 rec r0 a1 r2 v3 v4 v5 v6 v7 m) 49 [(0, .ref (ρ r0)), (3, .int v3), (4, .int v4), (5, .int v5), (6, .int v6), (7, .int v7)] [] ρ 0 0 [] m := by
  intro v3 v4 v5 v6 v7 m
  unfold f10_choice_b49B
  refine lu_iload X dX10_choice_49 (pc2 := 51) rfl 5 rfl ?_
  refine lu_aload_n X dX10_choice_51 (pc2 := 52) rfl rfl 0 rfl ?_
  refine lu_get X fl10_84 rfl hT_r0 hr_r0 dX10_choice_52 (pc2 := 55) rfl ?_
  refine lu_icmp_ge (tgt := 128) X dX10_choice_55 (pc2 := 58) rfl (by decide) (fun _ => ?_) (fun _ => ?_)
  · exact lu_sub [4] rfl (hK128 v6 m)
  · refine lu_iload_n X dX10_choice_58 (pc2 := 59) rfl rfl 1 rfl ?_
    refine lu_iload X dX10_choice_59 (pc2 := 61) rfl 5 rfl ?_
    refine lu_ishr X dX10_choice_61 (pc2 := 62) rfl ?_
    refine lu_iconst X dX10_choice_62 (pc2 := 63) rfl ic_1 ?_
    refine lu_iand X dX10_choice_63 (pc2 := 64) rfl ?_
    refine lu_if_eq (tgt := 122) X dX10_choice_64 (pc2 := 67) rfl (by decide) (fun _ => ?_) (fun _ => ?_)
    · exact w10_choice_b122 X hret hT_r0 hr_r0 hT_r2 hr_r2 hrec hK128 v3 v4 v5 v6 v7 m
    · refine lu_aload_n X dX10_choice_67 (pc2 := 68) rfl rfl 0 rfl ?_
      refine lu_getr (r2 := (r0 + 10)) X rfl fl10_28 rfl hT_r0 hr_r0 dX10_choice_68 (pc2 := 71) rfl ?_
      refine lu_iload X dX10_choice_71 (pc2 := 73) rfl 5 rfl ?_
      refine lu_iald X ((koC_5_10 hT_r0 hr_r0).1) ((koC_5_10 hT_r0 hr_r0).2) dX10_choice_73 (pc2 := 74) rfl ?_
      refine lu_iload X dX10_choice_74 (pc2 := 76) rfl 2 rfl ?_
      refine lu_icmp_gt (tgt := 122) X dX10_choice_76 (pc2 := 79) rfl (by decide) (fun _ => ?_) (fun _ => ?_)
      · exact w10_choice_b122 X hret hT_r0 hr_r0 hT_r2 hr_r2 hrec hK128 v3 v4 v5 v6 v7 m
      · refine lu_aload_n X dX10_choice_79 (pc2 := 80) rfl rfl 0 rfl ?_
        refine lu_getr (r2 := (r0 + 12)) X rfl fl10_34 rfl hT_r0 hr_r0 dX10_choice_80 (pc2 := 83) rfl ?_
        refine lu_iload X dX10_choice_83 (pc2 := 85) rfl 5 rfl ?_
        refine lu_iald X ((koC_5_12 hT_r0 hr_r0).1) ((koC_5_12 hT_r0 hr_r0).2) dX10_choice_85 (pc2 := 86) rfl ?_
        refine lu_iload X dX10_choice_86 (pc2 := 88) rfl 3 rfl ?_
        refine lu_icmp_le (tgt := 94) X dX10_choice_88 (pc2 := 91) rfl (by decide) (fun _ => ?_) (fun _ => ?_)
        · refine lu_iload X dX10_choice_94 (pc2 := 96) rfl 4 rfl ?_
          refine lu_bipush X dX10_choice_96 (pc2 := 98) rfl bp_10 ?_
          refine lu_icmp_eq (tgt := 118) X dX10_choice_98 (pc2 := 101) rfl (by decide) (fun _ => ?_) (fun _ => ?_)
          · exact lu_sub [0, 1, 2, 3, 5] rfl (w10_choice_b118 X hret hT_r0 hr_r0 hT_r2 hr_r2 hrec hK128 v3 v4 v5 v7 m)
          · refine lu_aload_n X dX10_choice_101 (pc2 := 102) rfl rfl 0 rfl ?_
            refine lu_getr (r2 := (r0 + 12)) X rfl fl10_34 rfl hT_r0 hr_r0 dX10_choice_102 (pc2 := 105) rfl ?_
            refine lu_iload X dX10_choice_105 (pc2 := 107) rfl 5 rfl ?_
            refine lu_iald X ((koC_5_12 hT_r0 hr_r0).1) ((koC_5_12 hT_r0 hr_r0).2) dX10_choice_107 (pc2 := 108) rfl ?_
            refine lu_aload_n X dX10_choice_108 (pc2 := 109) rfl rfl 0 rfl ?_
            refine lu_getr (r2 := (r0 + 12)) X rfl fl10_34 rfl hT_r0 hr_r0 dX10_choice_109 (pc2 := 112) rfl ?_
            refine lu_iload X dX10_choice_112 (pc2 := 114) rfl 4 rfl ?_
            refine lu_iald X ((koC_5_12 hT_r0 hr_r0).1) ((koC_5_12 hT_r0 hr_r0).2) dX10_choice_114 (pc2 := 115) rfl ?_
            refine lu_icmp_ge (tgt := 122) X dX10_choice_115 (pc2 := 118) rfl (by decide) (fun _ => ?_) (fun _ => ?_)
            · exact w10_choice_b122 X hret hT_r0 hr_r0 hT_r2 hr_r2 hrec hK128 v3 v4 v5 v6 v7 m
            · exact lu_sub [0, 1, 2, 3, 5] rfl (w10_choice_b118 X hret hT_r0 hr_r0 hT_r2 hr_r2 hrec hK128 v3 v4 v5 v7 m)
        · refine lu_goto (tgt := 122) X dX10_choice_91 (by decide) ?_
          exact w10_choice_b122 X hret hT_r0 hr_r0 hT_r2 hr_r2 hrec hK128 v3 v4 v5 v6 v7 m
theorem w10_choice_b49  {G : lu_G} {ρ : Nat → Nat} {r0 : Nat} {a1 : Int32} {r2 : Nat} {K128 : Int32 → lu_M → Option (Int32 × lu_M)} (X : lu_X G RX10 cX10_choice 8 3 71) (hret : (lu_me G).sig.returnType = (some .int)) (hT_r0 : lu_TC.2 r0 = (5, 0, 0)) (hr_r0 : r0 < lu_TC.1) (hT_r2 : lu_TC.2 r2 = (6, 0, 0)) (hr_r2 : r2 < lu_TC.1) (hK128 : ∀ (v6 : Int32) (m : lu_M), lu_Ab lu_TC G (lu_Q lu_TC G ρ lu_RVi lu_sn) (K128 v6 m) 128 [(6, .int v6)] [] ρ 0 0 [] m) : ∀ (n : Nat) (v3 : Int32) (v4 : Int32) (v5 : Int32) (v6 : Int32) (v7 : Int32) (m : lu_M), lu_Ab lu_TC G (lu_Q lu_TC G ρ lu_RVi lu_sn) (f10_choice_b49 K128 r0 a1 r2 n v3 v4 v5 v6 v7 m) 49 [(0, .ref (ρ r0)), (3, .int v3), (4, .int v4), (5, .int v5), (6, .int v6), (7, .int v7)] [] ρ 0 0 [] m := by
  intro n
  induction n with
  | zero => intro v3 v4 v5 v6 v7 m; exact lu_none
  | succ n ih => intro v3 v4 v5 v6 v7 m; exact w10_choice_b49B X hret hT_r0 hr_r0 hT_r2 hr_r2 hK128 ih v3 v4 v5 v6 v7 m
def f10_choice_b128  (r0 : Nat) (a1 : Int32) (r2 : Nat) (v6 : Int32) (m : lu_M) : Option (Int32 × lu_M) :=
  some (v6, m)
set_option maxRecDepth 20000 in
theorem w10_choice_b128  {G : lu_G} {ρ : Nat → Nat} {r0 : Nat} {a1 : Int32} {r2 : Nat}  (X : lu_X G RX10 cX10_choice 8 3 71) (hret : (lu_me G).sig.returnType = (some .int)) (hT_r0 : lu_TC.2 r0 = (5, 0, 0)) (hr_r0 : r0 < lu_TC.1) (hT_r2 : lu_TC.2 r2 = (6, 0, 0)) (hr_r2 : r2 < lu_TC.1)  : ∀ (v6 : Int32) (m : lu_M), lu_Ab lu_TC G (lu_Q lu_TC G ρ lu_RVi lu_sn) (f10_choice_b128 r0 a1 r2 v6 m) 128 [(6, .int v6)] [] ρ 0 0 [] m := by
  intro v6 m
  unfold f10_choice_b128
  refine lu_iload X dX10_choice_128 (pc2 := 130) rfl 0 rfl ?_
  exact lu_iret X hret dX10_choice_130
def f10_choice (r0 : Nat) (a1 : Int32) (r2 : Nat) (m : lu_M) : Option (Int32 × lu_M) :=
  lu_gd (lu_ib a1 6) <|
  lu_nm (((m (r0 + 13) a1.toNatClampNeg) &&& (m r2 1))) fun x1 =>
  if x1 = 0 then (some ((10 : Int32), m))
  else (lu_gd (lu_ib a1 6) <|
  lu_bi (g3_pull ((r0 + 1) + 1 + a1.toNatClampNeg) (m r2 0) m) fun x3 m4 =>
  lu_bi (f10_latestDue r0 a1 r2 m4) fun x5 m6 =>
  f10_choice_b49 (f10_choice_b128 r0 a1 r2) r0 a1 r2 lu_fu x1 x3 x5 (10 : Int32) (0 : Int32) m6)
set_option maxRecDepth 20000 in
theorem c10_choice (l : Launch) {r0 : Nat} {r2 : Nat} (hT_r0 : lu_TC.2 r0 = (5, 0, 0)) (hr_r0 : r0 < lu_TC.1) (hT_r2 : lu_TC.2 r2 = (6, 0, 0)) (hr_r2 : r2 < lu_TC.1) (a1 : Int32) : lu_C lu_TC l yX10_choice cX10_choice 8 (some .int) 3 71 (fun ρ sa => [.ref (ρ r0), .int a1, .ref (ρ r2)]) (f10_choice r0 a1 r2) lu_RVi lu_sn := by
  refine lu_met (cls := RX10) rfl (by decide +kernel) (fun _ _ => Nat.le_of_ble_eq_true rfl) ?_
  intro G ρ m hl X hret
  subst hl
  change lu_Ab lu_TC G (lu_Q lu_TC G ρ lu_RVi lu_sn) (f10_choice r0 a1 r2 m) 0 [(0, .ref (ρ r0)), (1, .int a1), (2, .ref (ρ r2))] [] ρ 0 0 [] m
  unfold f10_choice
  refine lu_aload_n X dX10_choice_0 (pc2 := 1) rfl rfl 0 rfl ?_
  refine lu_getr (r2 := (r0 + 13)) X rfl fl10_37 rfl hT_r0 hr_r0 dX10_choice_1 (pc2 := 4) rfl ?_
  refine lu_iload_n X dX10_choice_4 (pc2 := 5) rfl rfl 1 rfl ?_
  refine lu_iald X ((koC_5_13 hT_r0 hr_r0).1) ((koC_5_13 hT_r0 hr_r0).2) dX10_choice_5 (pc2 := 6) rfl ?_
  refine lu_aload_n X dX10_choice_6 (pc2 := 7) rfl rfl 2 rfl ?_
  refine lu_get X fl10_108 rfl hT_r2 hr_r2 dX10_choice_7 (pc2 := 10) rfl ?_
  refine lu_iand X dX10_choice_10 (pc2 := 11) rfl ?_
  refine lu_topi (fun x1 => ?_)
  refine lu_istore_n (lv2 := [(3, .int x1), (0, .ref (ρ r0)), (1, .int a1), (2, .ref (ρ r2))]) X dX10_choice_11 (pc2 := 12) rfl rfl (by decide) rfl ?_
  refine lu_iload_n X dX10_choice_12 (pc2 := 13) rfl rfl 0 rfl ?_
  refine lu_if_ne (tgt := 19) X dX10_choice_13 (pc2 := 16) rfl (by decide) (fun _ => ?_) (fun _ => ?_)
  · refine lu_aload_n X dX10_choice_19 (pc2 := 20) rfl rfl 1 rfl ?_
    refine lu_getr (r2 := (r0 + 1)) X rfl fl10_11 rfl hT_r0 hr_r0 dX10_choice_20 (pc2 := 23) rfl ?_
    refine lu_iload_n X dX10_choice_23 (pc2 := 24) rfl rfl 2 rfl ?_
    refine lu_aald X rfl rfl (by decide) (by decide) ((koC_5_1 hT_r0 hr_r0).1) ((koC_5_1 hT_r0 hr_r0).2) dX10_choice_24 (pc2 := 25) rfl (fun g2 => ?_)
    refine lu_aload_n X dX10_choice_25 (pc2 := 26) rfl rfl 3 rfl ?_
    refine lu_get X fl10_101 rfl hT_r2 hr_r2 dX10_choice_26 (pc2 := 29) rfl ?_
    refine v3_pull X q477 ((kaC_1_6_0 ((koC_5_1 hT_r0 hr_r0).1) ((koC_5_1 hT_r0 hr_r0).2) g2).1) ((kaC_1_6_0 ((koC_5_1 hT_r0 hr_r0).1) ((koC_5_1 hT_r0 hr_r0).2) g2).2) rfl (Nat.le_of_ble_eq_true rfl) (Nat.le_of_ble_eq_true rfl) (Nat.le_of_ble_eq_true rfl) ⟨Nat.zero_le _, Nat.zero_le _⟩ dX10_choice_29 (pc2 := 32) rfl rfl (fun x3 m4 => ?_)
    refine lu_istore (lv2 := [(4, .int x3), (3, .int x1), (0, .ref (ρ r0)), (1, .int a1), (2, .ref (ρ r2))]) X dX10_choice_32 (pc2 := 34) rfl (by decide) rfl ?_
    refine lu_aload_n X dX10_choice_34 (pc2 := 35) rfl rfl 2 rfl ?_
    refine lu_iload_n X dX10_choice_35 (pc2 := 36) rfl rfl 3 rfl ?_
    refine lu_aload_n X dX10_choice_36 (pc2 := 37) rfl rfl 4 rfl ?_
    refine lu_invVi X (c10_latestDue _ hT_r0 hr_r0 hT_r2 hr_r2 a1) rfl q478 mvV_10_latestDue hT_r0 hr_r0 (by decide) ⟨_, rfl, rfl⟩ rfl rfl (Nat.le_of_ble_eq_true rfl) (Nat.le_of_ble_eq_true rfl) (Nat.le_of_ble_eq_true rfl) ⟨Nat.zero_le _, Nat.zero_le _⟩ dX10_choice_37 (pc2 := 40) rfl rfl (fun x5 m6 => ?_)
    refine lu_istore (lv2 := [(5, .int x5), (4, .int x3), (3, .int x1), (0, .ref (ρ r0)), (1, .int a1), (2, .ref (ρ r2))]) X dX10_choice_40 (pc2 := 42) rfl (by decide) rfl ?_
    refine lu_bipush X dX10_choice_42 (pc2 := 44) rfl bp_10 ?_
    refine lu_istore (lv2 := [(6, .int (10 : Int32)), (5, .int x5), (4, .int x3), (3, .int x1), (0, .ref (ρ r0)), (1, .int a1), (2, .ref (ρ r2))]) X dX10_choice_44 (pc2 := 46) rfl (by decide) rfl ?_
    refine lu_iconst X dX10_choice_46 (pc2 := 47) rfl ic_0 ?_
    refine lu_istore (lv2 := [(7, .int (0 : Int32)), (6, .int (10 : Int32)), (5, .int x5), (4, .int x3), (3, .int x1), (0, .ref (ρ r0)), (1, .int a1), (2, .ref (ρ r2))]) X dX10_choice_47 (pc2 := 49) rfl (by decide) rfl ?_
    exact lu_sub [5, 4, 3, 2, 1, 0] rfl (w10_choice_b49 X hret hT_r0 hr_r0 hT_r2 hr_r2 (w10_choice_b128 X hret hT_r0 hr_r0 hT_r2 hr_r2) lu_fu x1 x3 x5 (10 : Int32) (0 : Int32) m6)
  · refine lu_bipush X dX10_choice_16 (pc2 := 18) rfl bp_10 ?_
    exact lu_iret X hret dX10_choice_18

/-! WALKS of person, remake (they make a hand) -/
theorem dX11_person_0 : decode cX11_person 0 = .ok (.iload_n 1, 1) := by decide +kernel
theorem dX11_person_1 : decode cX11_person 1 = .ok (.iconst 1, 1) := by decide +kernel
theorem dX11_person_2 : decode cX11_person 2 = .ok (.iconst 5, 1) := by decide +kernel
theorem dX11_person_3 : decode cX11_person 3 = .ok (.invokestatic 92, 3) := by decide +kernel
theorem dX11_person_6 : decode cX11_person 6 = .ok (.ifCond .eq 23, 3) := by decide +kernel
theorem dX11_person_9 : decode cX11_person 9 = .ok (.iload_n 2, 1) := by decide +kernel
theorem dX11_person_10 : decode cX11_person 10 = .ok (.iconst 1, 1) := by decide +kernel
theorem dX11_person_11 : decode cX11_person 11 = .ok (.bipush 9, 2) := by decide +kernel
theorem dX11_person_13 : decode cX11_person 13 = .ok (.invokestatic 92, 3) := by decide +kernel
theorem dX11_person_16 : decode cX11_person 16 = .ok (.ifCond .eq 13, 3) := by decide +kernel
theorem dX11_person_19 : decode cX11_person 19 = .ok (.iload_n 3, 1) := by decide +kernel
theorem dX11_person_20 : decode cX11_person 20 = .ok (.iconst 1, 1) := by decide +kernel
theorem dX11_person_21 : decode cX11_person 21 = .ok (.bipush 9, 2) := by decide +kernel
theorem dX11_person_23 : decode cX11_person 23 = .ok (.invokestatic 92, 3) := by decide +kernel
theorem dX11_person_26 : decode cX11_person 26 = .ok (.ifCond .ne 5, 3) := by decide +kernel
theorem dX11_person_29 : decode cX11_person 29 = .ok (.iconst (-1), 1) := by decide +kernel
theorem dX11_person_30 : decode cX11_person 30 = .ok (.ireturn, 1) := by decide +kernel
theorem dX11_person_31 : decode cX11_person 31 = .ok (.aload_n 0, 1) := by decide +kernel
theorem dX11_person_32 : decode cX11_person 32 = .ok (.getfield 18, 3) := by decide +kernel
theorem dX11_person_35 : decode cX11_person 35 = .ok (.getfield 96, 3) := by decide +kernel
theorem dX11_person_38 : decode cX11_person 38 = .ok (.bipush 6, 2) := by decide +kernel
theorem dX11_person_40 : decode cX11_person 40 = .ok (.if_icmp .lt 6, 3) := by decide +kernel
theorem dX11_person_43 : decode cX11_person 43 = .ok (.bipush (-2), 2) := by decide +kernel
theorem dX11_person_45 : decode cX11_person 45 = .ok (.ireturn, 1) := by decide +kernel
theorem dX11_person_46 : decode cX11_person 46 = .ok (.aload_n 0, 1) := by decide +kernel
theorem dX11_person_47 : decode cX11_person 47 = .ok (.getfield 18, 3) := by decide +kernel
theorem dX11_person_50 : decode cX11_person 50 = .ok (.getfield 96, 3) := by decide +kernel
theorem dX11_person_53 : decode cX11_person 53 = .ok (.istore 4, 2) := by decide +kernel
theorem dX11_person_55 : decode cX11_person 55 = .ok (.aload_n 0, 1) := by decide +kernel
theorem dX11_person_56 : decode cX11_person 56 = .ok (.getfield 18, 3) := by decide +kernel
theorem dX11_person_59 : decode cX11_person 59 = .ok (.getfield 99, 3) := by decide +kernel
theorem dX11_person_62 : decode cX11_person 62 = .ok (.iload 4, 2) := by decide +kernel
theorem dX11_person_64 : decode cX11_person 64 = .ok (.iload_n 1, 1) := by decide +kernel
theorem dX11_person_65 : decode cX11_person 65 = .ok (.iload 4, 2) := by decide +kernel
theorem dX11_person_67 : decode cX11_person 67 = .ok (.iload_n 2, 1) := by decide +kernel
theorem dX11_person_68 : decode cX11_person 68 = .ok (.iload_n 3, 1) := by decide +kernel
theorem dX11_person_69 : decode cX11_person 69 = .ok (.aload_n 0, 1) := by decide +kernel
theorem dX11_person_70 : decode cX11_person 70 = .ok (.getfield 9, 3) := by decide +kernel
theorem dX11_person_73 : decode cX11_person 73 = .ok (.invokestatic 58, 3) := by decide +kernel
theorem dX11_person_76 : decode cX11_person 76 = .ok (.aastore, 1) := by decide +kernel
theorem dX11_person_77 : decode cX11_person 77 = .ok (.aload_n 0, 1) := by decide +kernel
theorem dX11_person_78 : decode cX11_person 78 = .ok (.getfield 18, 3) := by decide +kernel
theorem dX11_person_81 : decode cX11_person 81 = .ok (.iload 4, 2) := by decide +kernel
theorem dX11_person_83 : decode cX11_person 83 = .ok (.iconst 1, 1) := by decide +kernel
theorem dX11_person_84 : decode cX11_person 84 = .ok (.iadd, 1) := by decide +kernel
theorem dX11_person_85 : decode cX11_person 85 = .ok (.putfield 96, 3) := by decide +kernel
theorem dX11_person_88 : decode cX11_person 88 = .ok (.iload 4, 2) := by decide +kernel
theorem dX11_person_90 : decode cX11_person 90 = .ok (.ireturn, 1) := by decide +kernel
theorem dX11_remake_0 : decode cX11_remake 0 = .ok (.aload_n 0, 1) := by decide +kernel
theorem dX11_remake_1 : decode cX11_remake 1 = .ok (.getfield 18, 3) := by decide +kernel
theorem dX11_remake_4 : decode cX11_remake 4 = .ok (.iload_n 1, 1) := by decide +kernel
theorem dX11_remake_5 : decode cX11_remake 5 = .ok (.invokevirtual 102, 3) := by decide +kernel
theorem dX11_remake_8 : decode cX11_remake 8 = .ok (.ifCond .eq 12, 3) := by decide +kernel
theorem dX11_remake_11 : decode cX11_remake 11 = .ok (.iload_n 2, 1) := by decide +kernel
theorem dX11_remake_12 : decode cX11_remake 12 = .ok (.iconst 1, 1) := by decide +kernel
theorem dX11_remake_13 : decode cX11_remake 13 = .ok (.iconst 5, 1) := by decide +kernel
theorem dX11_remake_14 : decode cX11_remake 14 = .ok (.invokestatic 92, 3) := by decide +kernel
theorem dX11_remake_17 : decode cX11_remake 17 = .ok (.ifCond .ne 5, 3) := by decide +kernel
theorem dX11_remake_20 : decode cX11_remake 20 = .ok (.iconst (-1), 1) := by decide +kernel
theorem dX11_remake_21 : decode cX11_remake 21 = .ok (.ireturn, 1) := by decide +kernel
theorem dX11_remake_22 : decode cX11_remake 22 = .ok (.aload_n 0, 1) := by decide +kernel
theorem dX11_remake_23 : decode cX11_remake 23 = .ok (.getfield 18, 3) := by decide +kernel
theorem dX11_remake_26 : decode cX11_remake 26 = .ok (.getfield 99, 3) := by decide +kernel
theorem dX11_remake_29 : decode cX11_remake 29 = .ok (.iload_n 1, 1) := by decide +kernel
theorem dX11_remake_30 : decode cX11_remake 30 = .ok (.aaload, 1) := by decide +kernel
theorem dX11_remake_31 : decode cX11_remake 31 = .ok (.astore_n 3, 1) := by decide +kernel
theorem dX11_remake_32 : decode cX11_remake 32 = .ok (.aload_n 0, 1) := by decide +kernel
theorem dX11_remake_33 : decode cX11_remake 33 = .ok (.getfield 18, 3) := by decide +kernel
theorem dX11_remake_36 : decode cX11_remake 36 = .ok (.getfield 99, 3) := by decide +kernel
theorem dX11_remake_39 : decode cX11_remake 39 = .ok (.iload_n 1, 1) := by decide +kernel
theorem dX11_remake_40 : decode cX11_remake 40 = .ok (.iload_n 2, 1) := by decide +kernel
theorem dX11_remake_41 : decode cX11_remake 41 = .ok (.iload_n 1, 1) := by decide +kernel
theorem dX11_remake_42 : decode cX11_remake 42 = .ok (.aload_n 3, 1) := by decide +kernel
theorem dX11_remake_43 : decode cX11_remake 43 = .ok (.getfield 109, 3) := by decide +kernel
theorem dX11_remake_46 : decode cX11_remake 46 = .ok (.aload_n 3, 1) := by decide +kernel
theorem dX11_remake_47 : decode cX11_remake 47 = .ok (.getfield 112, 3) := by decide +kernel
theorem dX11_remake_50 : decode cX11_remake 50 = .ok (.aload_n 0, 1) := by decide +kernel
theorem dX11_remake_51 : decode cX11_remake 51 = .ok (.getfield 9, 3) := by decide +kernel
theorem dX11_remake_54 : decode cX11_remake 54 = .ok (.invokestatic 58, 3) := by decide +kernel
theorem dX11_remake_57 : decode cX11_remake 57 = .ok (.aastore, 1) := by decide +kernel
theorem dX11_remake_58 : decode cX11_remake 58 = .ok (.aload_n 0, 1) := by decide +kernel
theorem dX11_remake_59 : decode cX11_remake 59 = .ok (.getfield 18, 3) := by decide +kernel
theorem dX11_remake_62 : decode cX11_remake 62 = .ok (.invokevirtual 132, 3) := by decide +kernel
theorem dX11_remake_65 : decode cX11_remake 65 = .ok (.aload_n 3, 1) := by decide +kernel
theorem dX11_remake_66 : decode cX11_remake 66 = .ok (.getfield 106, 3) := by decide +kernel
theorem dX11_remake_69 : decode cX11_remake 69 = .ok (.ireturn, 1) := by decide +kernel

theorem lu_hit_now : ∀ p, p < 6 → ∀ k, k < lu_TC.1 → k ≠ 2 → lu_hits lu_TC k (2 + 1 + p) = false := by decide +kernel
theorem lu_hit_kept : ∀ p, p < 6 → ∀ k, k < lu_TC.1 → k ≠ 38 → lu_hits lu_TC k (38 + 1 + p) = false := by decide +kernel
theorem lu_ten_now : ∀ p, p < 6 → ∃ x, lu_TC.2 (2 + 1 + p) = (10, x) := by
  intro p hp
  rcases (show p = 0 ∨ p = 1 ∨ p = 2 ∨ p = 3 ∨ p = 4 ∨ p = 5 by omega) with rfl | rfl | rfl | rfl | rfl | rfl <;> exact ⟨_, rfl⟩
theorem lu_ten_kept : ∀ p, p < 6 → ∃ x, lu_TC.2 (38 + 1 + p) = (10, x) := by
  intro p hp
  rcases (show p = 0 ∨ p = 1 ∨ p = 2 ∨ p = 3 ∨ p = 4 ∨ p = 5 by omega) with rfl | rfl | rfl | rfl | rfl | rfl <;> exact ⟨_, rfl⟩
theorem lu_kept_now {ρ ρ' : Nat → Nat} {i : Nat} (hi : i < 6) (h : ∀ q, q ≠ 2 + 1 + i → ρ' q = ρ q) : lu_kept ρ ρ' := fun q hq => h q (fun e => by
  subst e
  rcases (show i = 0 ∨ i = 1 ∨ i = 2 ∨ i = 3 ∨ i = 4 ∨ i = 5 by omega) with rfl | rfl | rfl | rfl | rfl | rfl <;> exact absurd hq (by decide))
theorem lu_kept_kept {ρ ρ' : Nat → Nat} {i : Nat} (hi : i < 6) (h : ∀ q, q ≠ 38 + 1 + i → ρ' q = ρ q) : lu_kept ρ ρ' := fun q hq => h q (fun e => by
  subst e
  rcases (show i = 0 ∨ i = 1 ∨ i = 2 ∨ i = 3 ∨ i = 4 ∨ i = 5 by omega) with rfl | rfl | rfl | rfl | rfl | rfl <;> exact absurd hq (by decide))
theorem lu_memo {β : Type} {T : lu_T} {G : lu_G} {Q : β → State → Prop} {K : lu_M → Option β} {pc : Nat} {lv : List (Nat × Value)} {st : List Value} {ρ : Nat → Nat} {k n : Nat} {ex : va_W} {m : lu_M} (kk : ∀ m', lu_Ab T G Q (K m') pc lv st ρ k n ex m') : lu_Ab T G Q (lu_nm m K) pc lv st ρ k n ex m := kk m
theorem lu_getx {β : Type} {T : lu_T} {G : lu_G} {Q : β → State → Prop} {o : Option β} {pc pc2 : Nat} {lv : List (Nat × Value)} {st : List Value} {ρ ρ1 : Nat → Nat} {k n : Nat} {ex : va_W} {m m1 : lu_M} {own : String} {cc : ByteArray} {nL fr lo : Nat} (X : lu_X G own cc nL fr lo) {index t f j qx a : Nat} {x : Nat × Nat} (fl : lu_FL own index t f) (hF : (lu_F t)[f]? = some none) (hT : T.2 j = (t, x)) (hex : ex[qx]? = some (a, lu_cell T (lu_cs G) ρ1 m1 j)) (d : decode cc pc = .ok (.getfield index, 3)) (hp : pc + 3 = pc2) (kk : lu_Ab T G Q o pc2 lv (.int (m1 j f) :: st) ρ k n ex m) : lu_Ab T G Q o pc lv (.ref a :: st) ρ k n ex m := by
  subst hp
  intro b hb H locs ls hl hP hD hS
  obtain ⟨h3, h12, hf, ref, hlink, hsame⟩ := fl
  obtain ⟨⟨C, T0, N⟩, hc, e1, e2, hin, -, -⟩ := lu_cls (m1 j 0) h3 h12
  simp only at e1 e2 hin
  subst e1; subst e2
  have he : (lu_W T (lu_cs G) ρ m ++ ex)[T.1 + qx]? = some (a, lu_cell T (lu_cs G) ρ1 m1 j) := by
    rw [List.getElem?_append_right (by rw [lu_W_len]; omega), lu_W_len, Nat.add_sub_cancel_left]
    exact hex
  rw [lu_cell_obj hT h3] at he
  have hv := lu_fs_int ρ1 m1 j (lu_F t) 0 f hF
  rw [Nat.zero_add] at hv
  exact va_get (D := lu_D G) X.hx X.hb X.hts hin X.hown X.hK hP _ he hc f hf (X.hts _ hlink) (lu_FLs X.hts hsame) hv d (kk b hb H locs ls hl hP hD hS)
def f11_person (a1 a2 a3 : Int32) (m : lu_M) : Option (Int32 × lu_M) :=
  lu_bi (f11_isWithin a1 (1 : Int32) (5 : Int32) m) fun x1 m2 =>
  if x1 = 0 then (some ((-1 : Int32), m2))
  else (lu_bi (f11_isWithin a2 (1 : Int32) (9 : Int32) m2) fun x3 m4 =>
  if x3 = 0 then (some ((-1 : Int32), m4))
  else (lu_bi (f11_isWithin a3 (1 : Int32) (9 : Int32) m4) fun x5 m6 =>
  if x5 = 0 then (some ((-1 : Int32), m6))
  else (if (m6 1 0) < (6 : Int32) then (lu_nm ((m6 1 0)) fun x7 =>
  lu_gd (lu_ib x7 6) <|
  lu_nm (lu_hm m6 (2 + 1 + x7.toNatClampNeg) (lu_kd a1) x7 a2 a3) fun m8 =>
  lu_nm (lu_st m8 1 0 (x7 + (1 : Int32))) fun m9 =>
  some (x7, m9))
  else (some ((-2 : Int32), m6)))))
set_option maxRecDepth 20000 in
theorem c11_person (l : Launch) (a1 : Int32) (a2 : Int32) (a3 : Int32) : lu_C2 lu_TC l yX11_person cX11_person 5 (some .int) 5 119 1 6 (fun ρ sa => [.ref (ρ 0), .int a1, .int a2, .int a3]) (f11_person a1 a2 a3) lu_RVi lu_sn := by
  refine lu_met2 (cls := RX11) rfl (by decide +kernel) (fun _ _ => Nat.le_of_ble_eq_true rfl) ?_
  intro G ρ m hl X hret hRc hRs
  subst hl
  have hk1 : 0 + 1 ≤ (lu_R G).cells ∧ 0 + 6 ≤ (lu_R G).slots := by rw [hRc, hRs]; exact ⟨Nat.le_refl _, Nat.le_refl _⟩
  change lu_Ab lu_TC G (lu_Q2 lu_TC G ρ 1 6 lu_RVi lu_sn) (f11_person a1 a2 a3 m) 0 [(0, .ref (ρ 0)), (1, .int a1), (2, .int a2), (3, .int a3)] [] ρ 0 0 [] m
  unfold f11_person
  have hz : ∀ m : lu_M, lu_Ab lu_TC G (lu_Q2 lu_TC G ρ 1 6 lu_RVi lu_sn) (some ((-1 : Int32), m)) 29 [(0, .ref (ρ 0)), (1, .int a1), (2, .int a2), (3, .int a3)] [] ρ 0 0 [] m := fun m => by
    refine lu_iconst X dX11_person_29 (pc2 := 30) rfl ic_m1 ?_
    exact lu_iret2 X hret (lu_kept.refl ρ) (Nat.zero_le _) (Nat.zero_le _) dX11_person_30
  refine lu_iload_n X dX11_person_0 (pc2 := 1) rfl rfl 1 rfl ?_
  refine lu_iconst X dX11_person_1 (pc2 := 2) rfl ic_1 ?_
  refine lu_iconst X dX11_person_2 (pc2 := 3) rfl ic_5 ?_
  refine lu_invSi X (c11_isWithin _ a1 (1 : Int32) (5 : Int32)) rfl q433 mvS_11_isWithin rfl rfl (Nat.le_of_ble_eq_true rfl) (Nat.le_of_ble_eq_true rfl) (Nat.le_of_ble_eq_true rfl) ⟨Nat.zero_le _, Nat.zero_le _⟩ dX11_person_3 (pc2 := 6) rfl rfl (fun x1 m2 => ?_)
  refine lu_if_eq (tgt := 29) X dX11_person_6 (pc2 := 9) rfl (by decide) (fun _ => hz m2) (fun _ => ?_)
  refine lu_iload_n X dX11_person_9 (pc2 := 10) rfl rfl 2 rfl ?_
  refine lu_iconst X dX11_person_10 (pc2 := 11) rfl ic_1 ?_
  refine lu_bipush X dX11_person_11 (pc2 := 13) rfl bp_9 ?_
  refine lu_invSi X (c11_isWithin _ a2 (1 : Int32) (9 : Int32)) rfl q433 mvS_11_isWithin rfl rfl (Nat.le_of_ble_eq_true rfl) (Nat.le_of_ble_eq_true rfl) (Nat.le_of_ble_eq_true rfl) ⟨Nat.zero_le _, Nat.zero_le _⟩ dX11_person_13 (pc2 := 16) rfl rfl (fun x3 m4 => ?_)
  refine lu_if_eq (tgt := 29) X dX11_person_16 (pc2 := 19) rfl (by decide) (fun _ => hz m4) (fun _ => ?_)
  refine lu_iload_n X dX11_person_19 (pc2 := 20) rfl rfl 3 rfl ?_
  refine lu_iconst X dX11_person_20 (pc2 := 21) rfl ic_1 ?_
  refine lu_bipush X dX11_person_21 (pc2 := 23) rfl bp_9 ?_
  refine lu_invSi X (c11_isWithin _ a3 (1 : Int32) (9 : Int32)) rfl q433 mvS_11_isWithin rfl rfl (Nat.le_of_ble_eq_true rfl) (Nat.le_of_ble_eq_true rfl) (Nat.le_of_ble_eq_true rfl) ⟨Nat.zero_le _, Nat.zero_le _⟩ dX11_person_23 (pc2 := 26) rfl rfl (fun x5 m6 => ?_)
  refine lu_if_ne (tgt := 31) X dX11_person_26 (pc2 := 29) rfl (by decide) (fun _ => ?_) (fun _ => hz m6)
  refine lu_aload_n X dX11_person_31 (pc2 := 32) rfl rfl 0 rfl ?_
  refine lu_getr (r2 := 1) X rfl fl11_18 rfl kC_0 lC_0 dX11_person_32 (pc2 := 35) rfl ?_
  refine lu_get X fl11_96 rfl kC_1 lC_1 dX11_person_35 (pc2 := 38) rfl ?_
  refine lu_bipush X dX11_person_38 (pc2 := 40) rfl bp_6 ?_
  refine lu_icmp_lt (tgt := 46) X dX11_person_40 (pc2 := 43) rfl (by decide) (fun _ => ?_) (fun _ => ?_)
  · refine lu_aload_n X dX11_person_46 (pc2 := 47) rfl rfl 0 rfl ?_
    refine lu_getr (r2 := 1) X rfl fl11_18 rfl kC_0 lC_0 dX11_person_47 (pc2 := 50) rfl ?_
    refine lu_get X fl11_96 rfl kC_1 lC_1 dX11_person_50 (pc2 := 53) rfl ?_
    refine lu_topi (fun x7 => ?_)
    refine lu_istore (lv2 := [(4, .int x7), (0, .ref (ρ 0)), (1, .int a1), (2, .int a2), (3, .int a3)]) X dX11_person_53 (pc2 := 55) rfl (by decide) rfl ?_
    refine lu_aload_n X dX11_person_55 (pc2 := 56) rfl rfl 1 rfl ?_
    refine lu_getr (r2 := 1) X rfl fl11_18 rfl kC_0 lC_0 dX11_person_56 (pc2 := 59) rfl ?_
    refine lu_getr (r2 := 2) X rfl fl11_99 rfl kC_1 lC_1 dX11_person_59 (pc2 := 62) rfl ?_
    refine lu_iload X dX11_person_62 (pc2 := 64) rfl 0 rfl ?_
    refine lu_iload_n X dX11_person_64 (pc2 := 65) rfl rfl 2 rfl ?_
    refine lu_iload X dX11_person_65 (pc2 := 67) rfl 0 rfl ?_
    refine lu_iload_n X dX11_person_67 (pc2 := 68) rfl rfl 3 rfl ?_
    refine lu_iload_n X dX11_person_68 (pc2 := 69) rfl rfl 4 rfl ?_
    refine lu_aload_n X dX11_person_69 (pc2 := 70) rfl rfl 1 rfl ?_
    refine lu_getr (r2 := 114) X rfl fl11_9 rfl kC_0 lC_0 dX11_person_70 (pc2 := 73) rfl ?_
    refine lu_made X (Or.inl hw_58) (Nat.le_of_ble_eq_true rfl) (Nat.le_of_ble_eq_true rfl) (Nat.le_of_ble_eq_true rfl) hk1 dX11_person_73 (pc2 := 76) rfl rfl (fun a => ?_)
    refine lu_aast (r := 2) (ex0 := []) X kC_2 lC_2 (by decide) lu_ten_now lu_hit_now (by decide) dX11_person_76 (pc2 := 77) rfl rfl (fun ρ' hρ hi => ?_)
    have hkp := lu_kept_now (lu_ib_lt hi) hρ
    rw [← hkp 0 rfl]
    refine lu_memo (fun m8 => ?_)
    refine lu_aload_n X dX11_person_77 (pc2 := 78) rfl rfl 1 rfl ?_
    refine lu_getr (r2 := 1) X rfl fl11_18 rfl kC_0 lC_0 dX11_person_78 (pc2 := 81) rfl ?_
    refine lu_iload X dX11_person_81 (pc2 := 83) rfl 0 rfl ?_
    refine lu_iconst X dX11_person_83 (pc2 := 84) rfl ic_1 ?_
    refine lu_iadd X dX11_person_84 (pc2 := 85) rfl ?_
    refine lu_put X fl11_96 rfl (Or.inl (by decide)) rfl (by decide +kernel) kC_1 lC_1 dX11_person_85 (pc2 := 88) rfl (fun m9 => ?_)
    refine lu_iload X dX11_person_88 (pc2 := 90) rfl 0 rfl ?_
    exact lu_iret2 X hret hkp (Nat.le_refl _) (Nat.le_refl _) dX11_person_90
  · refine lu_bipush X dX11_person_43 (pc2 := 45) rfl bp_m2 ?_
    exact lu_iret2 X hret (lu_kept.refl ρ) (Nat.zero_le _) (Nat.zero_le _) dX11_person_45
def f11_remake (a1 a2 : Int32) (m : lu_M) : Option (Int32 × lu_M) :=
  lu_bi (f10_isPerson 1 a1 m) fun x1 m2 =>
  if x1 = 0 then (some ((-1 : Int32), m2))
  else (lu_bi (f11_isWithin a2 (1 : Int32) (5 : Int32) m2) fun x3 m4 =>
  if x3 = 0 then (some ((-1 : Int32), m4))
  else (lu_gd (lu_ib a1 6) <|
  lu_gd (lu_ib a1 6) <|
  lu_nm (lu_hm m4 (2 + 1 + a1.toNatClampNeg) (lu_kd a2) a1 (m4 (2 + 1 + a1.toNatClampNeg) 2) (m4 (2 + 1 + a1.toNatClampNeg) 3)) fun m6 =>
  lu_bv (f10_settle 1 m6) fun m7 =>
  some ((m4 (2 + 1 + a1.toNatClampNeg) 0), m7)))
set_option maxRecDepth 20000 in
theorem c11_remake (l : Launch) (a1 : Int32) (a2 : Int32) : lu_C2 lu_TC l yX11_remake cX11_remake 4 (some .int) 5 119 1 6 (fun ρ sa => [.ref (ρ 0), .int a1, .int a2]) (f11_remake a1 a2) lu_RVi lu_sn := by
  refine lu_met2 (cls := RX11) rfl (by decide +kernel) (fun _ _ => Nat.le_of_ble_eq_true rfl) ?_
  intro G ρ m hl X hret hRc hRs
  subst hl
  have hk1 : 0 + 1 ≤ (lu_R G).cells ∧ 0 + 6 ≤ (lu_R G).slots := by rw [hRc, hRs]; exact ⟨Nat.le_refl _, Nat.le_refl _⟩
  change lu_Ab lu_TC G (lu_Q2 lu_TC G ρ 1 6 lu_RVi lu_sn) (f11_remake a1 a2 m) 0 [(0, .ref (ρ 0)), (1, .int a1), (2, .int a2)] [] ρ 0 0 [] m
  unfold f11_remake
  have hz : ∀ m : lu_M, lu_Ab lu_TC G (lu_Q2 lu_TC G ρ 1 6 lu_RVi lu_sn) (some ((-1 : Int32), m)) 20 [(0, .ref (ρ 0)), (1, .int a1), (2, .int a2)] [] ρ 0 0 [] m := fun m => by
    refine lu_iconst X dX11_remake_20 (pc2 := 21) rfl ic_m1 ?_
    exact lu_iret2 X hret (lu_kept.refl ρ) (Nat.zero_le _) (Nat.zero_le _) dX11_remake_21
  refine lu_aload_n X dX11_remake_0 (pc2 := 1) rfl rfl 0 rfl ?_
  refine lu_getr (r2 := 1) X rfl fl11_18 rfl kC_0 lC_0 dX11_remake_1 (pc2 := 4) rfl ?_
  refine lu_iload_n X dX11_remake_4 (pc2 := 5) rfl rfl 1 rfl ?_
  refine lu_invVi X (c10_isPerson _ kC_1 lC_1 a1) rfl q440 mvV_10_isPerson kC_1 lC_1 (by decide) ⟨_, rfl, rfl⟩ rfl rfl (Nat.le_of_ble_eq_true rfl) (Nat.le_of_ble_eq_true rfl) (Nat.le_of_ble_eq_true rfl) ⟨Nat.zero_le _, Nat.zero_le _⟩ dX11_remake_5 (pc2 := 8) rfl rfl (fun x1 m2 => ?_)
  refine lu_if_eq (tgt := 20) X dX11_remake_8 (pc2 := 11) rfl (by decide) (fun _ => hz m2) (fun _ => ?_)
  refine lu_iload_n X dX11_remake_11 (pc2 := 12) rfl rfl 2 rfl ?_
  refine lu_iconst X dX11_remake_12 (pc2 := 13) rfl ic_1 ?_
  refine lu_iconst X dX11_remake_13 (pc2 := 14) rfl ic_5 ?_
  refine lu_invSi X (c11_isWithin _ a2 (1 : Int32) (5 : Int32)) rfl q433 mvS_11_isWithin rfl rfl (Nat.le_of_ble_eq_true rfl) (Nat.le_of_ble_eq_true rfl) (Nat.le_of_ble_eq_true rfl) ⟨Nat.zero_le _, Nat.zero_le _⟩ dX11_remake_14 (pc2 := 17) rfl rfl (fun x3 m4 => ?_)
  refine lu_if_ne (tgt := 22) X dX11_remake_17 (pc2 := 20) rfl (by decide) (fun _ => ?_) (fun _ => hz m4)
  refine lu_aload_n X dX11_remake_22 (pc2 := 23) rfl rfl 0 rfl ?_
  refine lu_getr (r2 := 1) X rfl fl11_18 rfl kC_0 lC_0 dX11_remake_23 (pc2 := 26) rfl ?_
  refine lu_getr (r2 := 2) X rfl fl11_99 rfl kC_1 lC_1 dX11_remake_26 (pc2 := 29) rfl ?_
  refine lu_iload_n X dX11_remake_29 (pc2 := 30) rfl rfl 1 rfl ?_
  refine lu_aald X (t := 1) rfl rfl (by decide) (by decide) kC_2 lC_2 dX11_remake_30 (pc2 := 31) rfl (fun hi => ?_)
  refine lu_astore_n (lv2 := [(3, .ref (ρ (2 + 1 + a1.toNatClampNeg))), (0, .ref (ρ 0)), (1, .int a1), (2, .int a2)]) X dX11_remake_31 (pc2 := 32) rfl rfl (by decide) rfl ?_
  obtain ⟨xh, hTh⟩ := lu_ten_now _ (lu_ib_lt hi)
  have hrh : 2 + 1 + a1.toNatClampNeg < lu_TC.1 := by
    have := lu_ib_lt hi
    show _ < 115
    omega
  refine lu_aload_n X dX11_remake_32 (pc2 := 33) rfl rfl 1 rfl ?_
  refine lu_getr (r2 := 1) X rfl fl11_18 rfl kC_0 lC_0 dX11_remake_33 (pc2 := 36) rfl ?_
  refine lu_getr (r2 := 2) X rfl fl11_99 rfl kC_1 lC_1 dX11_remake_36 (pc2 := 39) rfl ?_
  refine lu_iload_n X dX11_remake_39 (pc2 := 40) rfl rfl 2 rfl ?_
  refine lu_iload_n X dX11_remake_40 (pc2 := 41) rfl rfl 3 rfl ?_
  refine lu_iload_n X dX11_remake_41 (pc2 := 42) rfl rfl 2 rfl ?_
  refine lu_aload_n X dX11_remake_42 (pc2 := 43) rfl rfl 0 rfl ?_
  refine lu_get X fl11_109 rfl hTh hrh dX11_remake_43 (pc2 := 46) rfl ?_
  refine lu_aload_n X dX11_remake_46 (pc2 := 47) rfl rfl 0 rfl ?_
  refine lu_get X fl11_112 rfl hTh hrh dX11_remake_47 (pc2 := 50) rfl ?_
  refine lu_aload_n X dX11_remake_50 (pc2 := 51) rfl rfl 1 rfl ?_
  refine lu_getr (r2 := 114) X rfl fl11_9 rfl kC_0 lC_0 dX11_remake_51 (pc2 := 54) rfl ?_
  refine lu_made X (Or.inl hw_58) (Nat.le_of_ble_eq_true rfl) (Nat.le_of_ble_eq_true rfl) (Nat.le_of_ble_eq_true rfl) hk1 dX11_remake_54 (pc2 := 57) rfl rfl (fun a => ?_)
  refine lu_aast (r := 2) (ex0 := []) X kC_2 lC_2 (by decide) lu_ten_now lu_hit_now (by decide) dX11_remake_57 (pc2 := 58) rfl rfl (fun ρ' hρ _ => ?_)
  have hkp := lu_kept_now (lu_ib_lt hi) hρ
  rw [← hkp 0 rfl]
  refine lu_memo (fun m6 => ?_)
  refine lu_aload_n X dX11_remake_58 (pc2 := 59) rfl rfl 1 rfl ?_
  refine lu_getr (r2 := 1) X rfl fl11_18 rfl kC_0 lC_0 dX11_remake_59 (pc2 := 62) rfl ?_
  refine lu_invVv X (c10_settle _ kC_1 lC_1) rfl q499 mvV_10_settle kC_1 lC_1 (by decide) ⟨_, rfl, rfl⟩ rfl rfl (Nat.le_of_ble_eq_true rfl) (Nat.le_of_ble_eq_true rfl) (Nat.le_of_ble_eq_true rfl) hk1 dX11_remake_62 (pc2 := 65) rfl rfl (fun m7 => ?_)
  refine lu_aload_n X dX11_remake_65 (pc2 := 66) rfl rfl 0 rfl ?_
  refine lu_getx (qx := 0) X fl11_106 rfl hTh rfl dX11_remake_66 (pc2 := 69) rfl ?_
  exact lu_iret2 X hret hkp (Nat.le_refl _) (Nat.le_refl _) dX11_remake_69


/-! THE START: what the tables and the Statement give -/
theorem z_good {s : State} {b : Nat} (hts : ∀ w ∈ lw_tbl, w.before #[Value.ref b] s = true) : ∀ w ∈ lu_ws, w.before #[Value.ref b] s = true := fun w hw => hts w (List.mem_filter.mp hw).1
theorem z_cs {s : State} {b : Nat} (hts : ∀ w ∈ lw_tbl, w.before #[Value.ref b] s = true) : ∃ cs : Nat → ClassId, ∀ (k : Nat) (q : ClassId × FieldType), (lu_tys cs)[k]? = some q → ArrOfT s q.1 q.2 ∧ va_RA s q.1 q.2 := by
  obtain ⟨c0, k0, p0, a1, a2, a3⟩ := Cond.arrayClass_spec (hts (.arrayClass .int) (List.mem_of_getElem? (i := 166) (by decide +kernel)))
  obtain ⟨p1, c1, k1, b1, b2, b3, b4, b5⟩ := Cond.arrayOver_spec (hts (.arrayOver (.object RX3)) (List.mem_of_getElem? (i := 117) (by decide +kernel)))
  obtain ⟨p2, c2, k2, d1, d2, d3, d4, d5⟩ := Cond.arrayOver_spec (hts (.arrayOver (.object RX1)) (List.mem_of_getElem? (i := 382) (by decide +kernel)))
  obtain ⟨p3, c3, k3, e1, e4, e2, e3⟩ := lu_aoI (hts (.arrayOver (.array .int)) (List.mem_of_getElem? (i := 230) (by decide +kernel)))
  refine ⟨fun k => if k = 0 then c0 else if k = 1 then c1 else if k = 2 then c2 else c3, fun k q hk => ?_⟩
  match k, hk with
  | 0, hk => cases hk; exact ⟨fun N z => ⟨(fun k h => by cases h), k0, a2, p0, a3⟩, a1⟩
  | 1, hk => cases hk; exact ⟨fun N z => ⟨(fun k h => by cases h), k1, b3, p1, b4⟩, k1, p1, b3, b4, b1, b5⟩
  | 2, hk => cases hk; exact ⟨fun N z => ⟨(fun k h => by cases h), k2, d3, p2, d4⟩, k2, p2, d3, d4, d1, d5⟩
  | 3, hk => cases hk; exact ⟨fun N z => ⟨(fun k h => by cases h), k3, e2, p3, e3⟩, e4⟩
  | k + 4, hk => simp [lu_tys] at hk
theorem z_Dg {s : State} {b : Nat} (hts : ∀ w ∈ lw_tbl, w.before #[Value.ref b] s = true) : ∃ D : va_G, ∀ (c : Nat) (q : vw_C), lu_cl[c]? = some q → u_Kn s q.1 q.2.1 q.2.2 (D.1 c) (D.2 c) := by
  obtain ⟨c0, i0, h0⟩ := u_known (C := RX0) (T := TX0) (N := 6) (n := 6) hts (fun w hw => (lu_lay0 w hw).1) (hts (.instantiable RX0 6) (List.mem_of_getElem? (i := 122) (by decide +kernel)))
  obtain ⟨c1, i1, h1⟩ := u_known (C := RX1) (T := TX1) (N := 6) (n := 6) hts (fun w hw => (lu_lay1 w hw).1) (hts (.instantiable RX1 6) (List.mem_of_getElem? (i := 232) (by decide +kernel)))
  obtain ⟨c2, i2, h2⟩ := u_known (C := RX2) (T := TX2) (N := 6) (n := 6) hts (fun w hw => (lu_lay2 w hw).1) (hts (.instantiable RX2 6) (List.mem_of_getElem? (i := 168) (by decide +kernel)))
  obtain ⟨c3, i3, h3⟩ := u_known (C := RX3) (T := TX3) (N := 6) (n := 6) hts (fun w hw => (lu_lay3 w hw).1) (hts (.instantiable RX3 6) (List.mem_of_getElem? (i := 220) (by decide +kernel)))
  obtain ⟨c4, i4, h4⟩ := u_known (C := RX4) (T := TX4) (N := 6) (n := 6) hts (fun w hw => (lu_lay4 w hw).1) (hts (.instantiable RX4 6) (List.mem_of_getElem? (i := 207) (by decide +kernel)))
  obtain ⟨c5, i5, h5⟩ := u_known (C := RX5) (T := TX5) (N := 11) (n := 11) hts (fun w hw => (lu_lay5 w hw).1) (hts (.instantiable RX5 11) (List.mem_of_getElem? (i := 376) (by decide +kernel)))
  obtain ⟨c6, i6, h6⟩ := u_known (C := RX6) (T := TX6) (N := 7) (n := 7) hts (fun w hw => (lu_lay6 w hw).1) (hts (.instantiable RX6 7) (List.mem_of_getElem? (i := 270) (by decide +kernel)))
  obtain ⟨c7, i7, h7⟩ := u_known (C := RX7) (T := TX7) (N := 6) (n := 6) hts (fun w hw => (lu_lay7 w hw).1) (hts (.instantiable RX7 6) (List.mem_of_getElem? (i := 194) (by decide +kernel)))
  obtain ⟨c8, i8, h8⟩ := u_known (C := RX8) (T := TX8) (N := 7) (n := 7) hts (fun w hw => (lu_lay8 w hw).1) (hts (.instantiable RX8 7) (List.mem_of_getElem? (i := 426) (by decide +kernel)))
  obtain ⟨c9, i9, h9⟩ := u_known (C := RX9) (T := TX9) (N := 6) (n := 6) hts (fun w hw => (lu_lay9 w hw).1) (hts (.instantiable RX9 6) (List.mem_of_getElem? (i := 181) (by decide +kernel)))
  obtain ⟨c10, i10, h10⟩ := u_known (C := RX10) (T := TX10) (N := 17) (n := 17) hts (fun w hw => (lu_lay10 w hw).1) (hts (.instantiable RX10 17) (List.mem_of_getElem? (i := 111) (by decide +kernel)))
  obtain ⟨c11, i11, h11⟩ := u_known (C := RX11) (T := TX11) (N := 17) (n := 17) hts (fun w hw => (lu_lay11 w hw).1) (hts (.instantiable RX11 17) (List.mem_of_getElem? (i := 103) (by decide +kernel)))
  obtain ⟨c12, i12, h12⟩ := u_known (C := RX12) (T := TX12) (N := 42) (n := 42) hts (fun w hw => (lu_lay12 w hw).1) (hts (.instantiable RX12 42) (List.mem_of_getElem? (i := 1204) (by decide +kernel)))
  refine ⟨(fun k => ([c0, c1, c2, c3, c4, c5, c6, c7, c8, c9, c10, c11, c12] : List ClassId).getD k 0, fun k => ([i0, i1, i2, i3, i4, i5, i6, i7, i8, i9, i10, i11, i12] : List (Nat → Nat)).getD k (fun _ => 0)), fun k q hk => ?_⟩
  match k, hk with
  | 0, hk => cases hk; exact h0
  | 1, hk => cases hk; exact h1
  | 2, hk => cases hk; exact h2
  | 3, hk => cases hk; exact h3
  | 4, hk => cases hk; exact h4
  | 5, hk => cases hk; exact h5
  | 6, hk => cases hk; exact h6
  | 7, hk => cases hk; exact h7
  | 8, hk => cases hk; exact h8
  | 9, hk => cases hk; exact h9
  | 10, hk => cases hk; exact h10
  | 11, hk => cases hk; exact h11
  | 12, hk => cases hk; exact h12
  | k + 13, hk => simp [lu_cl] at hk
theorem z_nest {s : State} {b : Nat} (hts : ∀ w ∈ lw_tbl, w.before #[Value.ref b] s = true) : ∀ q ∈ lu_nest, va_Nw (.methodLinkNest q.1 q.2.1 q.2.2 RX11) s := List.forall_mem_cons.mpr ⟨va_Nw.of (rfl : (Cond.methodLinkNest _ _ _ _).onTables = true) (hts _ (List.mem_of_getElem? (i := 118) (by decide +kernel))), List.forall_mem_cons.mpr ⟨va_Nw.of (rfl : (Cond.methodLinkNest _ _ _ _).onTables = true) (hts _ (List.mem_of_getElem? (i := 233) (by decide +kernel))), List.forall_mem_cons.mpr ⟨va_Nw.of (rfl : (Cond.methodLinkNest _ _ _ _).onTables = true) (hts _ (List.mem_of_getElem? (i := 374) (by decide +kernel))), List.forall_mem_cons.mpr ⟨va_Nw.of (rfl : (Cond.methodLinkNest _ _ _ _).onTables = true) (hts _ (List.mem_of_getElem? (i := 383) (by decide +kernel))), List.forall_mem_cons.mpr ⟨va_Nw.of (rfl : (Cond.methodLinkNest _ _ _ _).onTables = true) (hts _ (List.mem_of_getElem? (i := 527) (by decide +kernel))), List.forall_mem_cons.mpr ⟨va_Nw.of (rfl : (Cond.methodLinkNest _ _ _ _).onTables = true) (hts _ (List.mem_of_getElem? (i := 566) (by decide +kernel))), List.forall_mem_cons.mpr ⟨va_Nw.of (rfl : (Cond.methodLinkNest _ _ _ _).onTables = true) (hts _ (List.mem_of_getElem? (i := 790) (by decide +kernel))), fun _ h => absurd h List.not_mem_nil⟩⟩⟩⟩⟩⟩⟩
theorem z_cast {s : State} {b : Nat} (hts : ∀ w ∈ lw_tbl, w.before #[Value.ref b] s = true) : ∀ q ∈ lu_cast, va_Nw (.castable q.1 q.2) s := List.forall_mem_cons.mpr ⟨va_Nw.of (rfl : (Cond.castable _ _).onTables = true) (hts _ (List.mem_of_getElem? (i := 1901) (by decide +kernel))), List.forall_mem_cons.mpr ⟨va_Nw.of (rfl : (Cond.castable _ _).onTables = true) (hts _ (List.mem_of_getElem? (i := 1902) (by decide +kernel))), List.forall_mem_cons.mpr ⟨va_Nw.of (rfl : (Cond.castable _ _).onTables = true) (hts _ (List.mem_of_getElem? (i := 1903) (by decide +kernel))), List.forall_mem_cons.mpr ⟨va_Nw.of (rfl : (Cond.castable _ _).onTables = true) (hts _ (List.mem_of_getElem? (i := 1904) (by decide +kernel))), List.forall_mem_cons.mpr ⟨va_Nw.of (rfl : (Cond.castable _ _).onTables = true) (hts _ (List.mem_of_getElem? (i := 1905) (by decide +kernel))), fun _ h => absurd h List.not_mem_nil⟩⟩⟩⟩⟩
abbrev z_tm (i : Nat) : Term := .string RX8 (lu_sx.getD i (0, "")).1
theorem z_str {s : State} {b : Nat} {ad : Nat → Nat} (hts : ∀ w ∈ lw_tbl, w.before #[Value.ref b] s = true) (h : ∀ i : Nat, i < 18 → (z_tm i).eval #[Value.ref b] s none [] s = some (.ref (ad i))) : ∀ (j : Nat) (q : Nat × String), lu_sx[j]? = some q → vk_R RX8 q.1 q.2 (ad j) s := fun j q hj => match j, hj with
  | 0, hj => by cases hj; exact vk_R.of (hts _ (List.mem_of_getElem? (i := 688) (by decide +kernel))) (h 0 (by decide))
  | 1, hj => by cases hj; exact vk_R.of (hts _ (List.mem_of_getElem? (i := 741) (by decide +kernel))) (h 1 (by decide))
  | 2, hj => by cases hj; exact vk_R.of (hts _ (List.mem_of_getElem? (i := 742) (by decide +kernel))) (h 2 (by decide))
  | 3, hj => by cases hj; exact vk_R.of (hts _ (List.mem_of_getElem? (i := 743) (by decide +kernel))) (h 3 (by decide))
  | 4, hj => by cases hj; exact vk_R.of (hts _ (List.mem_of_getElem? (i := 744) (by decide +kernel))) (h 4 (by decide))
  | 5, hj => by cases hj; exact vk_R.of (hts _ (List.mem_of_getElem? (i := 745) (by decide +kernel))) (h 5 (by decide))
  | 6, hj => by cases hj; exact vk_R.of (hts _ (List.mem_of_getElem? (i := 746) (by decide +kernel))) (h 6 (by decide))
  | 7, hj => by cases hj; exact vk_R.of (hts _ (List.mem_of_getElem? (i := 759) (by decide +kernel))) (h 7 (by decide))
  | 8, hj => by cases hj; exact vk_R.of (hts _ (List.mem_of_getElem? (i := 772) (by decide +kernel))) (h 8 (by decide))
  | 9, hj => by cases hj; exact vk_R.of (hts _ (List.mem_of_getElem? (i := 773) (by decide +kernel))) (h 9 (by decide))
  | 10, hj => by cases hj; exact vk_R.of (hts _ (List.mem_of_getElem? (i := 774) (by decide +kernel))) (h 10 (by decide))
  | 11, hj => by cases hj; exact vk_R.of (hts _ (List.mem_of_getElem? (i := 775) (by decide +kernel))) (h 11 (by decide))
  | 12, hj => by cases hj; exact vk_R.of (hts _ (List.mem_of_getElem? (i := 776) (by decide +kernel))) (h 12 (by decide))
  | 13, hj => by cases hj; exact vk_R.of (hts _ (List.mem_of_getElem? (i := 781) (by decide +kernel))) (h 13 (by decide))
  | 14, hj => by cases hj; exact vk_R.of (hts _ (List.mem_of_getElem? (i := 782) (by decide +kernel))) (h 14 (by decide))
  | 15, hj => by cases hj; exact vk_R.of (hts _ (List.mem_of_getElem? (i := 787) (by decide +kernel))) (h 15 (by decide))
  | 16, hj => by cases hj; exact vk_R.of (hts _ (List.mem_of_getElem? (i := 788) (by decide +kernel))) (h 16 (by decide))
  | 17, hj => by cases hj; exact vk_R.of (hts _ (List.mem_of_getElem? (i := 789) (by decide +kernel))) (h 17 (by decide))
  | j + 18, hj => by simp [lu_sx] at hj
def z_fl : List Cond := flatC (Jvm.Cond.and given_1 narrow_1)
def z_b : List Nat := [18, 26, 38, 50, 61, 73, 86, 98, 112, 128, 147, 166, 189, 211, 231, 251, 275, 299]
theorem z_h1 : ∀ i : Nat, i < 18 → z_fl[z_b.getD i 0]? = some (Cond.exactly (z_tm i) "java/lang/String") := by decide +kernel
theorem z_h2 : ∀ i : Nat, i < 18 → z_fl[z_b.getD i 0 + 1]? = some (Cond.eq (.field (z_tm i) "java/lang/String" "coder" "B") (.int 0)) := by decide +kernel
theorem z_h3 : ∀ i : Nat, i < 18 → z_fl[z_b.getD i 0 + 2]? = some (Cond.arrayOf (.field (z_tm i) "java/lang/String" "value" "[B") .byte) := by decide +kernel
theorem z_h4 : ∀ i : Nat, i < 18 → z_fl[z_b.getD i 0 + 3]? = some (Cond.eq (.length (.field (z_tm i) "java/lang/String" "value" "[B")) (.int (Int32.ofNat (lu_len.getD i 0)))) := by decide +kernel
theorem z_h5 : ∀ i : Nat, i < 18 → ∀ j : Nat, j < lu_len.getD i 0 → z_fl[z_b.getD i 0 + 4 + j]? = some (Cond.eq (.elem (.field (z_tm i) "java/lang/String" "value" "[B") (.int (Int32.ofNat j))) (.int ((lu_byt.getD i []).getD j 0))) := by decide +kernel
theorem z_h6 : ∀ i : Nat, i < 18 → ∀ j : Nat, j < i → z_fl[z_b.getD i 0 + 4 + lu_len.getD i 0 + j]? = some (Cond.not (Cond.eq (z_tm j) (z_tm i))) := by decide +kernel
theorem z_g1 : ∀ i : Nat, i < 18 → Cond.exactly (z_tm i) "java/lang/String" ∈ z_fl := fun i hi => List.mem_of_getElem? (z_h1 i hi)
theorem z_g2 : ∀ i : Nat, i < 18 → Cond.eq (.field (z_tm i) "java/lang/String" "coder" "B") (.int 0) ∈ z_fl := fun i hi => List.mem_of_getElem? (z_h2 i hi)
theorem z_g3 : ∀ i : Nat, i < 18 → Cond.arrayOf (.field (z_tm i) "java/lang/String" "value" "[B") .byte ∈ z_fl := fun i hi => List.mem_of_getElem? (z_h3 i hi)
theorem z_g4 : ∀ i : Nat, i < 18 → Cond.eq (.length (.field (z_tm i) "java/lang/String" "value" "[B")) (.int (Int32.ofNat (lu_len.getD i 0))) ∈ z_fl := fun i hi => List.mem_of_getElem? (z_h4 i hi)
theorem z_g5 : ∀ i : Nat, i < 18 → ∀ j : Nat, j < lu_len.getD i 0 → Cond.eq (.elem (.field (z_tm i) "java/lang/String" "value" "[B") (.int (Int32.ofNat j))) (.int ((lu_byt.getD i []).getD j 0)) ∈ z_fl := fun i hi j hj => List.mem_of_getElem? (z_h5 i hi j hj)
theorem z_g6 : ∀ i : Nat, i < 18 → ∀ j : Nat, j < i → Cond.not (Cond.eq (z_tm j) (z_tm i)) ∈ z_fl := fun i hi j hj => List.mem_of_getElem? (z_h6 i hi j hj)
theorem z_g7 : Cond.arrayOf (.static RX11 "ABOVE" "[I") .int ∈ z_fl ∧ Cond.eq (.length (.static RX11 "ABOVE" "[I")) (.int (Int32.ofNat 6)) ∈ z_fl ∧ (∀ j : Nat, j < 6 → Cond.eq (.elem (.static RX11 "ABOVE" "[I") (.int (Int32.ofNat j))) (.int (lu_ab j)) ∈ z_fl) ∧ Cond.eq (.static "java/lang/String" "COMPACT_STRINGS" "Z") (.int 1) ∈ z_fl ∧ Cond.isRef (.static "jdk/internal/util/Preconditions" "SIOOBE_FORMATTER" "Ljava/util/function/BiFunction;") ∈ z_fl := by decide +kernel
theorem z_S {s : State} {b : Nat} {A : Nat → Prop} (hts : ∀ w ∈ lw_tbl, w.before #[Value.ref b] s = true) (hg : (Jvm.Cond.and given_1 narrow_1).before #[Value.ref b] s = true) (hA : ∀ a : Nat, a < s.heap.size → ¬ A a) : ∃ sa : Nat → Nat, lu_Sx sa A s s.heap ∧ lu_N sa s := by
  have hf : ∀ w ∈ z_fl, w.before #[Value.ref b] s = true := flat_of_before _ hg
  obtain ⟨g1, g2, g3, g4, g5⟩ := z_g7
  obtain ⟨adK, adV, k1, k2⟩ := vk_Sof (N := 18) (tm := z_tm) (len := lu_len) (byt := lu_byt) (A := A) (by decide +kernel) (fun i hi => hf _ (z_g1 i hi)) (fun i hi => hf _ (z_g2 i hi)) (fun i hi => hf _ (z_g3 i hi)) (fun i hi => hf _ (z_g4 i hi)) (fun i hi j hj => hf _ (z_g5 i hi j hj)) (fun i j hi hj hne => by
    rcases Nat.lt_or_gt_of_ne hne with h | h
    · exact Or.inl (hf _ (z_g6 j hj i h))
    · exact Or.inr (hf _ (z_g6 i hi j h))) hA
  obtain ⟨t, ht, hT⟩ := va_Tof (tm := .static RX11 "ABOVE" "[I") (ty := .int) (N := 6) (f := fun j => .int (lu_ab j)) (A := A) (by decide) (hf _ g1) (va_eqt (hf _ g2)) (fun j hj => va_eqt (hf _ (g3 j hj))) hA
  have hZ := va_Zref (C := RX11) (n := "ABOVE") (d := "[I") (A := A) (hts _ (List.mem_of_getElem? (i := 570) (by decide +kernel))) (hts _ (List.mem_of_getElem? (i := 84) (by decide +kernel))) ht hA
  have hC := va_Zof (C := "java/lang/String") (n := "COMPACT_STRINGS") (d := "Z") (A := A) (hts _ (List.mem_of_getElem? (i := 702) (by decide +kernel))) (hts _ (List.mem_of_getElem? (i := 97) (by decide +kernel))) (va_eqt (hf _ g4)) hA
  obtain ⟨y, hy⟩ : ∃ y : Nat, va_Z "jdk/internal/util/Preconditions" "SIOOBE_FORMATTER" "Ljava/util/function/BiFunction;" (lu_fv y) A s s.heap := by
    rcases va_Zqof (C := "jdk/internal/util/Preconditions") (n := "SIOOBE_FORMATTER") (d := "Ljava/util/function/BiFunction;") (A := A) (hts _ (List.mem_of_getElem? (i := 718) (by decide +kernel))) (hts _ (List.mem_of_getElem? (i := 99) (by decide +kernel))) (hf _ g5) hA with h | ⟨q, h⟩
    · exact ⟨0, h⟩
    · exact ⟨q + 1, h⟩
  have e1 : ∀ i, i < 18 → (fun i => if i < 18 then adK i else if i < 36 then adV (i - 18) else if i = 36 then t else y) i = adK i := fun i hi => if_pos hi
  have e2 : ∀ i, i < 18 → (fun i => if i < 18 then adK i else if i < 36 then adV (i - 18) else if i = 36 then t else y) (18 + i) = adV i := fun i hi => by
    show (if 18 + i < 18 then _ else if 18 + i < 36 then _ else _) = _
    rw [if_neg (by omega), if_pos (by omega), Nat.add_sub_cancel_left]
  refine ⟨fun i => if i < 18 then adK i else if i < 36 then adV (i - 18) else if i = 36 then t else y, ⟨hZ, hT, hC, hy, ?_⟩, z_nest hts, z_cast hts, ?_⟩
  · generalize (fun i => if i < 18 then adK i else if i < 36 then adV (i - 18) else if i = 36 then t else y) = sa at e1 e2
    refine ⟨fun i hi => ?_, fun i j hi hj h => k1.2 i j hi hj ?_⟩
    · have h := k1.1 i hi
      rw [← e1 i hi, ← e2 i hi] at h
      exact h
    · rw [← e1 i hi, ← e1 j hj]
      exact h
  · refine z_str hts (fun i hi => ?_)
    rw [k2 i hi]
    exact congrArg (fun a => some (Value.ref a)) (e1 i hi).symm

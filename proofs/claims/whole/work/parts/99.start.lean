/-! CONSTRUCTORS of the start: Course, Rules -/
theorem dX1_init_0 : decode cX1_init 0 = .ok (.aload_n 0, 1) := by decide +kernel
theorem dX1_init_1 : decode cX1_init 1 = .ok (.invokespecial 3, 3) := by decide +kernel
theorem dX1_init_4 : decode cX1_init 4 = .ok (.return_, 1) := by decide +kernel
theorem dX6_init_0 : decode cX6_init 0 = .ok (.aload_n 0, 1) := by decide +kernel
theorem dX6_init_1 : decode cX6_init 1 = .ok (.invokespecial 3, 3) := by decide +kernel
theorem dX6_init_4 : decode cX6_init 4 = .ok (.aload_n 0, 1) := by decide +kernel
theorem dX6_init_5 : decode cX6_init 5 = .ok (.bipush 8, 2) := by decide +kernel
theorem dX6_init_7 : decode cX6_init 7 = .ok (.newarray .int, 2) := by decide +kernel
theorem dX6_init_9 : decode cX6_init 9 = .ok (.putfield 9, 3) := by decide +kernel
theorem dX6_init_12 : decode cX6_init 12 = .ok (.aload_n 0, 1) := by decide +kernel
theorem dX6_init_13 : decode cX6_init 13 = .ok (.bipush 8, 2) := by decide +kernel
theorem dX6_init_15 : decode cX6_init 15 = .ok (.newarray .int, 2) := by decide +kernel
theorem dX6_init_17 : decode cX6_init 17 = .ok (.putfield 15, 3) := by decide +kernel
theorem dX6_init_20 : decode cX6_init 20 = .ok (.aload_n 0, 1) := by decide +kernel
theorem dX6_init_21 : decode cX6_init 21 = .ok (.bipush 8, 2) := by decide +kernel
theorem dX6_init_23 : decode cX6_init 23 = .ok (.newarray .int, 2) := by decide +kernel
theorem dX6_init_25 : decode cX6_init 25 = .ok (.putfield 18, 3) := by decide +kernel
theorem dX6_init_28 : decode cX6_init 28 = .ok (.aload_n 0, 1) := by decide +kernel
theorem dX6_init_29 : decode cX6_init 29 = .ok (.bipush 8, 2) := by decide +kernel
theorem dX6_init_31 : decode cX6_init 31 = .ok (.newarray .int, 2) := by decide +kernel
theorem dX6_init_33 : decode cX6_init 33 = .ok (.putfield 21, 3) := by decide +kernel
theorem dX6_init_36 : decode cX6_init 36 = .ok (.aload_n 0, 1) := by decide +kernel
theorem dX6_init_37 : decode cX6_init 37 = .ok (.sipush 200, 3) := by decide +kernel
theorem dX6_init_40 : decode cX6_init 40 = .ok (.newarray .int, 2) := by decide +kernel
theorem dX6_init_42 : decode cX6_init 42 = .ok (.putfield 24, 3) := by decide +kernel
theorem dX6_init_45 : decode cX6_init 45 = .ok (.return_, 1) := by decide +kernel
theorem hs_ai : Cond.arrayClass .int ∈ lu_ws := lu_in (List.mem_of_getElem? (i := 166) (by decide +kernel)) (by decide +kernel)
theorem hs_o1 : Cond.methodLink RX1 3 objectInit ∈ lu_ws := lu_in (List.mem_of_getElem? (i := 236) (by decide +kernel)) (by decide +kernel)
theorem hs_o6 : Cond.methodLink RX6 3 objectInit ∈ lu_ws := lu_in (List.mem_of_getElem? (i := 274) (by decide +kernel)) (by decide +kernel)

/-- an int array is made -/
theorem lu_newI {p : Program} {l : Launch} {e : Env} {R : Room} {s : State} {m : MethodId} {args : Array Value} {below : List Frame} {meth : Method} {c : Code} {H : Heap} {locs : List Loc} {cells slots : Nat} {Q : State → Prop} {cc : ByteArray} {pc : Nat} {ls : Array Slot} {rest : List Value} {D : va_G} {cl : List vw_C} {cs : Nat → ClassId} {A : Nat → Prop} {ws : va_W} {H0 : Heap}
    (hexec : p.tables.exec = Jvm.exec) (hb : c.code = cc) (hts : ∀ w ∈ lu_ws, w.before args s = true) (hK : va_K D cl (lu_tys cs) s) (hP : va_P D cl ws H) (hD : va_D A ws) (hS : va_S A H0 H locs) (hA : ∀ q, H0.size ≤ q → A q) {n : Int32} {N : Nat} (hn : ¬ n < 0) (hN : n.toNatClampNeg = N) (hN9 : N ≤ 1000) (hcells : cells + 1 ≤ R.cells) (hslots : slots + N ≤ R.slots) (hdg : decode cc pc = .ok (.newarray .int, 2))
    (kk : ∀ (q : Nat) (H1 : Heap), va_P D cl (ws ++ [(q, .inl (cs 0, N, .inl (fun _ => 0)))]) H1 → va_D A (ws ++ [(q, .inl (cs 0, N, .inl (fun _ => 0)))]) → va_S A H0 H1 locs → W p l e R s m args below meth c H1 locs (cells + 1) (slots + N) Q (F0 m (pc + 2) ls (.ref q :: rest))) : W p l e R s m args below meth c H locs cells slots Q (F0 m pc ls (.int n :: rest)) := by
  have hcb : componentBytes FieldType.int = 4 := rfl
  refine va_newa (atype := .int) (ty := .int) (a0 := (N, .inl (fun _ => 0))) hexec hb (hts _ hs_ai) rfl hK hP hD hS hA (fun cA => rfl) hn hN (by rw [hcb]; omega) hcells hslots hdg (fun q cA H1 hK1 hP1 hD1 hS1 => ?_)
  have c0 : s.vm.findClass "[I" = some (cs 0) := (hK.2 0 _ rfl).2
  have c1 : s.vm.findClass "[I" = some cA := (hK1.2 4 (cA, .int) rfl).2
  have eA : cA = cs 0 := Option.some.inj (c1.symm.trans c0)
  subst eA
  exact kk q H1 hP1 hD1 hS1
theorem lu_D1 {A : Nat → Prop} {a : Nat} {e : va_E} (h : A a) : va_D A [(a, e)] := ⟨fun i j p q hi hj _ => by
    have h1 := (List.getElem?_eq_some_iff.mp hi).1
    have h2 := (List.getElem?_eq_some_iff.mp hj).1
    simp only [List.length_singleton] at h1 h2
    omega, fun k q hk => by
    have h1 := (List.getElem?_eq_some_iff.mp hk).1
    simp only [List.length_singleton] at h1
    rw [show k = 0 by omega] at hk
    cases hk
    exact h⟩
/-- Course(): nothing is written -/
def lu_cQ : Array Value → State → Outcome → State → Prop := fun _ st oc t => oc = .returned none ∧ va_F (fun _ => False) st t
theorem c1_init (l : Launch) (h0 : Nat) : Met l yX1_init (.code yX1_init cX1_init 1 none :: lu_ws) ({ frames := 1, cells := 0, slots := 0, locals := 12 }) (va_Pc [.ref h0] (fun _ => True)) lu_cQ 0 0 (fun _ => False) := by
  refine Met.ofW (cc := cX1_init) (maxL := 1) (ret := none) (by decide) rfl ?_
  intro p e s m args below meth c s₁ B hml hv
  obtain ⟨rfl, -⟩ := hv
  have hx := B.exec
  have hb := B.bytes
  have hr := B.returns
  have hts : ∀ w ∈ lu_ws, w.before ([Value.ref h0] : List Value).toArray s = true := fun w hw => atoms_spec (ws := .code yX1_init cX1_init 1 none :: lu_ws) B.pre w (List.mem_cons_of_mem _ hw)
  have hown : s.vm.findClass RX1 = some m.cls := findClass_of_methodNamed B.named
  have hlocks := B.notSynchronized
  have hl := lv_entry ([.ref h0]) (n := 1) (Nat.le_of_ble_eq_true rfl)
  rw [lg_entry_eq]
  generalize (lg_sl ([.ref h0]) ++ List.replicate (1 - (lg_sl ([.ref h0])).length) Slot.unset).toArray = ls at hl ⊢
  have hl : lv_has ls 1 [(0, .ref h0)] := hl
  have hS : va_S (fun _ => False) s.heap s.heap [] := va_S.rf
  refine lv_aload_n hx hb dX1_init_0 rfl (lv_at hl 0 rfl) ?_
  refine W.objInit hx hb hown (hts _ hs_o1) (hts _ hw_oi) (hts _ hw_oc) rfl (by rw [hml]; exact hl.1) rfl dX1_init_1 (Nat.le_of_ble_eq_true rfl) (Nat.le_of_ble_eq_true rfl) ?_
  refine W.eq (g2 := F0 m 4 ls []) rfl ?_
  exact W.vret hx hb hr (fun t ht hW => ⟨rfl, hS.F ht⟩) hS.2.2 dX1_init_4
/-- Rules(): five arrays -/
def lu_rraw : List Value := [.int 0, .null, .null, .null, .null, .null, .int 0]
def lu_rW (cs : Nat → ClassId) (h0 a b c d e : Nat) : va_W := [(h0, .inr (6, [.int 0, .ref a, .ref b, .ref c, .ref d, .ref e, .int 0])), (a, .inl (cs 0, 8, .inl (fun _ => 0))), (b, .inl (cs 0, 8, .inl (fun _ => 0))), (c, .inl (cs 0, 8, .inl (fun _ => 0))), (d, .inl (cs 0, 8, .inl (fun _ => 0))), (e, .inl (cs 0, 200, .inl (fun _ => 0)))]
/-- a constructor's end: what stood at h0 is now wn, and all else as before -/
def lu_nQ (D : va_G) (h0 sz : Nat) (Pn : va_W → Prop) : Array Value → State → Outcome → State → Prop := fun _ st oc t => oc = .returned none ∧ (∃ wn : va_W, Pn wn ∧ va_P D lu_cl wn t.heap ∧ va_D (fun q => q = h0 ∨ sz ≤ q) wn) ∧ va_F (fun q => q = h0 ∨ sz ≤ q) st t
def lu_rN (cs : Nat → ClassId) (h0 : Nat) (wn : va_W) : Prop := ∃ a b c d e : Nat, wn = lu_rW cs h0 a b c d e
set_option maxHeartbeats 4000000 in
theorem c6_init (l : Launch) (D : va_G) (cs : Nat → ClassId) (h0 sz : Nat) : Met l yX6_init (.code yX6_init cX6_init 1 none :: lu_ws) ({ frames := 1, cells := 5, slots := 232, locals := 20 }) (va_Pc [.ref h0] (fun U => U.heap.size = sz ∧ va_P D lu_cl [(h0, .inr (6, lu_rraw))] U.heap ∧ va_K D lu_cl (lu_tys cs) U)) (lu_nQ D h0 sz (lu_rN cs h0)) 5 232 (fun q => q = h0 ∨ sz ≤ q) := by
  refine Met.ofW (cc := cX6_init) (maxL := 1) (ret := none) (by decide) rfl ?_
  intro p e s m args below meth c s₁ B hml hv
  obtain ⟨rfl, hsz, hP, hK⟩ := hv
  have hx := B.exec
  have hb := B.bytes
  have hr := B.returns
  have hts : ∀ w ∈ lu_ws, w.before ([Value.ref h0] : List Value).toArray s = true := fun w hw => atoms_spec (ws := .code yX6_init cX6_init 1 none :: lu_ws) B.pre w (List.mem_cons_of_mem _ hw)
  have hown : s.vm.findClass RX6 = some m.cls := findClass_of_methodNamed B.named
  have hlocks := B.notSynchronized
  have hni : meth.name = "<init>" := (name_of_methodNamed B.named B.method).1
  subst hsz
  have hA : ∀ q, s.heap.size ≤ q → (fun q => q = h0 ∨ s.heap.size ≤ q) q := fun q h => Or.inr h
  have hD : va_D (fun q => q = h0 ∨ s.heap.size ≤ q) [(h0, .inr (6, lu_rraw))] := lu_D1 (Or.inl rfl)
  have hS : va_S (fun q => q = h0 ∨ s.heap.size ≤ q) s.heap s.heap [] := va_S.rf
  have hl := lv_entry ([.ref h0]) (n := 1) (Nat.le_of_ble_eq_true rfl)
  rw [lg_entry_eq]
  generalize (lg_sl ([.ref h0]) ++ List.replicate (1 - (lg_sl ([.ref h0])).length) Slot.unset).toArray = ls at hl ⊢
  have hl : lv_has ls 1 [(0, .ref h0)] := hl
  have hc : lu_cl[6]? = some (RX6, TX6, 7) := rfl
  have hin := lu_lay lu_lay6
  refine lv_aload_n hx hb dX6_init_0 rfl (lv_at hl 0 rfl) ?_
  refine W.objInit hx hb hown (hts _ hs_o6) (hts _ hw_oi) (hts _ hw_oc) rfl (by rw [hml]; exact hl.1) rfl dX6_init_1 (Nat.le_of_ble_eq_true rfl) (Nat.le_of_ble_eq_true rfl) ?_
  refine W.eq (g2 := F0 m 4 ls []) rfl ?_
  refine lv_aload_n hx hb dX6_init_4 rfl (lv_at hl 0 rfl) ?_
  refine lv_bipush (v := 8) hx hb dX6_init_5 (by decide) ?_
  refine lu_newI (N := 8) hx hb hts hK hP hD hS hA (by decide) (by decide) (by decide) (by decide) (by decide) dX6_init_7 (fun q0 H hP hD hS => ?_)
  refine va_putF (v := .ref q0) (ty := .array .int) hx hb hts hin tyX6 tyX6_ok nmX6 hown hK hP hD hS 0 rfl hc 1 (by decide) (hts _ qfl6_9) (fun _ h => h) rfl hni rfl (by decide +kernel) rfl rfl (Nat.le_of_ble_eq_true rfl) dX6_init_9 (fun H locs hP hD hS => ?_)
  refine lv_aload_n hx hb dX6_init_12 rfl (lv_at hl 0 rfl) ?_
  refine lv_bipush (v := 8) hx hb dX6_init_13 (by decide) ?_
  refine lu_newI (N := 8) hx hb hts hK hP hD hS hA (by decide) (by decide) (by decide) (by decide) (by decide) dX6_init_15 (fun q1 H hP hD hS => ?_)
  refine va_putF (v := .ref q1) (ty := .array .int) hx hb hts hin tyX6 tyX6_ok nmX6 hown hK hP hD hS 0 rfl hc 2 (by decide) (hts _ qfl6_15) (fun _ h => h) rfl hni rfl (by decide +kernel) rfl rfl (Nat.le_of_ble_eq_true rfl) dX6_init_17 (fun H locs hP hD hS => ?_)
  refine lv_aload_n hx hb dX6_init_20 rfl (lv_at hl 0 rfl) ?_
  refine lv_bipush (v := 8) hx hb dX6_init_21 (by decide) ?_
  refine lu_newI (N := 8) hx hb hts hK hP hD hS hA (by decide) (by decide) (by decide) (by decide) (by decide) dX6_init_23 (fun q2 H hP hD hS => ?_)
  refine va_putF (v := .ref q2) (ty := .array .int) hx hb hts hin tyX6 tyX6_ok nmX6 hown hK hP hD hS 0 rfl hc 3 (by decide) (hts _ qfl6_18) (fun _ h => h) rfl hni rfl (by decide +kernel) rfl rfl (Nat.le_of_ble_eq_true rfl) dX6_init_25 (fun H locs hP hD hS => ?_)
  refine lv_aload_n hx hb dX6_init_28 rfl (lv_at hl 0 rfl) ?_
  refine lv_bipush (v := 8) hx hb dX6_init_29 (by decide) ?_
  refine lu_newI (N := 8) hx hb hts hK hP hD hS hA (by decide) (by decide) (by decide) (by decide) (by decide) dX6_init_31 (fun q3 H hP hD hS => ?_)
  refine va_putF (v := .ref q3) (ty := .array .int) hx hb hts hin tyX6 tyX6_ok nmX6 hown hK hP hD hS 0 rfl hc 4 (by decide) (hts _ qfl6_21) (fun _ h => h) rfl hni rfl (by decide +kernel) rfl rfl (Nat.le_of_ble_eq_true rfl) dX6_init_33 (fun H locs hP hD hS => ?_)
  refine lv_aload_n hx hb dX6_init_36 rfl (lv_at hl 0 rfl) ?_
  refine lv_sipush (v := 200) hx hb dX6_init_37 (by decide) ?_
  refine lu_newI (N := 200) hx hb hts hK hP hD hS hA (by decide) (by decide) (by decide) (by decide) (by decide) dX6_init_40 (fun q4 H hP hD hS => ?_)
  refine va_putF (v := .ref q4) (ty := .array .int) hx hb hts hin tyX6 tyX6_ok nmX6 hown hK hP hD hS 0 rfl hc 5 (by decide) (hts _ qfl6_24) (fun _ h => h) rfl hni rfl (by decide +kernel) rfl rfl (Nat.le_of_ble_eq_true rfl) dX6_init_42 (fun H locs hP hD hS => ?_)
  exact W.vret hx hb hr (fun t ht hW => ⟨rfl, ⟨lu_rW cs h0 q0 q1 q2 q3 q4, ⟨q0, q1, q2, q3, q4, rfl⟩, by rw [ht]; exact hP, hD⟩, hS.F ht⟩) hS.2.2 dX6_init_45


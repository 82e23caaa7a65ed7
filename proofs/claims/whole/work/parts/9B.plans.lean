/-! CONSTRUCTORS of the start: Plans -/
theorem dX5_init_0 : decode cX5_init 0 = .ok (.aload_n 0, 1) := by decide +kernel
theorem dX5_init_1 : decode cX5_init 1 = .ok (.invokespecial 3, 3) := by decide +kernel
theorem dX5_init_4 : decode cX5_init 4 = .ok (.aload_n 0, 1) := by decide +kernel
theorem dX5_init_5 : decode cX5_init 5 = .ok (.aload_n 1, 1) := by decide +kernel
theorem dX5_init_6 : decode cX5_init 6 = .ok (.putfield 9, 3) := by decide +kernel
theorem dX5_init_9 : decode cX5_init 9 = .ok (.aload_n 0, 1) := by decide +kernel
theorem dX5_init_10 : decode cX5_init 10 = .ok (.iconst 5, 1) := by decide +kernel
theorem dX5_init_11 : decode cX5_init 11 = .ok (.anewarray 15, 3) := by decide +kernel
theorem dX5_init_14 : decode cX5_init 14 = .ok (.putfield 17, 3) := by decide +kernel
theorem dX5_init_17 : decode cX5_init 17 = .ok (.iconst 0, 1) := by decide +kernel
theorem dX5_init_18 : decode cX5_init 18 = .ok (.istore_n 2, 1) := by decide +kernel
theorem dX5_init_19 : decode cX5_init 19 = .ok (.iload_n 2, 1) := by decide +kernel
theorem dX5_init_20 : decode cX5_init 20 = .ok (.iconst 4, 1) := by decide +kernel
theorem dX5_init_21 : decode cX5_init 21 = .ok (.if_icmp .gt 22, 3) := by decide +kernel
theorem dX5_init_24 : decode cX5_init 24 = .ok (.aload_n 0, 1) := by decide +kernel
theorem dX5_init_25 : decode cX5_init 25 = .ok (.getfield 17, 3) := by decide +kernel
theorem dX5_init_28 : decode cX5_init 28 = .ok (.iload_n 2, 1) := by decide +kernel
theorem dX5_init_29 : decode cX5_init 29 = .ok (.new 15, 3) := by decide +kernel
theorem dX5_init_32 : decode cX5_init 32 = .ok (.dup, 1) := by decide +kernel
theorem dX5_init_33 : decode cX5_init 33 = .ok (.invokespecial 21, 3) := by decide +kernel
theorem dX5_init_36 : decode cX5_init 36 = .ok (.aastore, 1) := by decide +kernel
theorem dX5_init_37 : decode cX5_init 37 = .ok (.iinc 2 1, 3) := by decide +kernel
theorem dX5_init_40 : decode cX5_init 40 = .ok (.goto (-21), 3) := by decide +kernel
theorem dX5_init_43 : decode cX5_init 43 = .ok (.aload_n 0, 1) := by decide +kernel
theorem dX5_init_44 : decode cX5_init 44 = .ok (.iconst 4, 1) := by decide +kernel
theorem dX5_init_45 : decode cX5_init 45 = .ok (.newarray .int, 2) := by decide +kernel
theorem dX5_init_47 : decode cX5_init 47 = .ok (.putfield 22, 3) := by decide +kernel
theorem dX5_init_50 : decode cX5_init 50 = .ok (.aload_n 0, 1) := by decide +kernel
theorem dX5_init_51 : decode cX5_init 51 = .ok (.iconst 4, 1) := by decide +kernel
theorem dX5_init_52 : decode cX5_init 52 = .ok (.newarray .int, 2) := by decide +kernel
theorem dX5_init_54 : decode cX5_init 54 = .ok (.putfield 26, 3) := by decide +kernel
theorem dX5_init_57 : decode cX5_init 57 = .ok (.return_, 1) := by decide +kernel
theorem hs_o5 : Cond.methodLink RX5 3 objectInit ∈ lu_ws := lu_in (List.mem_of_getElem? (i := 380) (by decide +kernel)) (by decide +kernel)
theorem hs_k5 : Cond.classLink RX5 15 RX1 ∈ lu_ws := lu_in (List.mem_of_getElem? (i := 381) (by decide +kernel)) (by decide +kernel)
theorem hs_n1 : Cond.instantiable RX1 6 ∈ lu_ws := lu_in (List.mem_of_getElem? (i := 232) (by decide +kernel)) (by decide +kernel)
theorem hs_i1 : Cond.initialized RX1 ∈ lu_ws := lu_in (List.mem_of_getElem? (i := 92) (by decide +kernel)) (by decide +kernel)
theorem hs_m1 : Cond.instanceMethod yX1_init ∈ lu_ws := lu_in (List.mem_of_getElem? (i := 234) (by decide +kernel)) (by decide +kernel)
theorem hs_c1 : Cond.code yX1_init cX1_init 1 none ∈ lu_ws := lu_in (List.mem_of_getElem? (i := 235) (by decide +kernel)) (by decide +kernel)

section CTOR2
variable {p : Program} {l : Launch} {e : Env} {R : Room} {s : State} {m : MethodId} {args : Array Value} {below : List Frame} {meth : Method} {c : Code} {H : Heap} {locs : List Loc} {cells slots : Nat} {Q : State → Prop} {g : JFrame} {rest : List Value} {D : va_G} {A : Nat → Prop} {ws : va_W} {H0 : Heap} {cc : ByteArray} {pc : Nat} {ls : Array Slot} {cs : Nat → ClassId}
/-- behind a call that writes nothing -/
theorem lu_ctor0 (hP : va_P D lu_cl ws H) (hS : va_S A H0 H locs)
    (hr : va_Run p l e R s m args below meth c H locs cells slots 0 0 g rest (fun st oc t => oc = .returned none ∧ va_F (fun _ => False) st t) (fun _ => False))
    (kk : ∀ (H1 : Heap) (locs1 : List Loc), va_P D lu_cl ws H1 → va_S A H0 H1 locs1 → W p l e R s m args below meth c H1 locs1 cells slots Q { g with pc := g.pc + 3, stack := rest }) : W p l e R s m args below meth c H locs cells slots Q g := by
  intro T0 hT X0
  obtain ⟨v, st₀, t, T', L, h0', X', hL, e1, e2, ⟨hv, hz, hk⟩, st⟩ := hr T0 hT X0
  cases hv
  rw [h0'] at hz hk
  obtain ⟨t2, a1, b1⟩ := kk T'.heap (locs ++ L) (by rw [e1]; exact hP.kept fun j q hj => hk q.1 (hP j q hj).lt (fun h => h)) ⟨by rw [e1]; exact Nat.le_trans hS.1 hz, fun x h1 h2 => by rw [e1, hk x (Nat.lt_of_lt_of_le h1 hS.1) (fun h => h)]; exact hS.2.1 x h1 h2, fun x hx => by
    rcases List.mem_append.mp hx with h | h
    · exact hS.2.2 x h
    · exact absurd (hL x h) (fun h => h)⟩ T' rfl X'
  exact ⟨t2, st t2 a1, b1⟩
/-- an array of references is made -/
theorem lu_newQ (hexec : p.tables.exec = Jvm.exec) (hb : c.code = cc) {own C : String} {index t : Nat} (ht : (lu_tys cs)[t]? = some (cs t, .object C)) (hown : s.vm.findClass own = some m.cls) (hclink : (Cond.classLink own index C).before args s = true) (hover : va_AO C s) (hK : va_K D lu_cl (lu_tys cs) s) (hP : va_P D lu_cl ws H) (hD : va_D A ws) (hS : va_S A H0 H locs) (hA : ∀ q, H0.size ≤ q → A q) {n : Int32} {N : Nat} (hn : ¬ n < 0) (hN : n.toNatClampNeg = N) (hN9 : N ≤ 1000) (hcells : cells + 1 ≤ R.cells) (hslots : slots + N ≤ R.slots) (hdg : decode cc pc = .ok (.anewarray index, 3))
    (kk : ∀ (q : Nat) (H1 : Heap), va_P D lu_cl (ws ++ [(q, .inl (cs t, N, .inr (.inr (.inr (.inr (fun _ => none))))))]) H1 → va_D A (ws ++ [(q, .inl (cs t, N, .inr (.inr (.inr (.inr (fun _ => none))))))]) → va_S A H0 H1 locs → W p l e R s m args below meth c H1 locs (cells + 1) (slots + N) Q (F0 m (pc + 3) ls (.ref q :: rest))) : W p l e R s m args below meth c H locs cells slots Q (F0 m pc ls (.int n :: rest)) := by
  refine va_newq hexec hb hown hclink hover hK hP hD hS hA hn hN (by omega) hcells hslots hdg (fun q cA H1 hK1 hP1 hD1 hS1 => ?_)
  obtain ⟨-, -, -, -, -, h1⟩ := (hK.2 t _ ht).2
  obtain ⟨-, -, -, -, -, h2⟩ := (hK1.2 4 (cA, .object C) rfl).2
  have eA : cA = cs t := Option.some.inj (h2.symm.trans h1)
  subst eA
  exact kk q H1 hP1 hD1 hS1
end CTOR2
def lu_praw : List Value := [.null, .null, .null, .int 0, .int 0, .int 0, .int 0, .null, .int 0, .int 0, .int 0]
def lu_craw : List Value := [.int 0, .int 0, .int 0, .int 0, .int 0, .int 0]
def lu_up5 (a b c d e : Nat) : Nat → Option Nat := va_up (va_up (va_up (va_up (va_up (fun _ => none) (0 : Int32).toNatClampNeg (some a)) (1 : Int32).toNatClampNeg (some b)) (2 : Int32).toNatClampNeg (some c)) (3 : Int32).toNatClampNeg (some d)) (4 : Int32).toNatClampNeg (some e)
def lu_pN (cs : Nat → ClassId) (h0 wr : Nat) (wn : va_W) : Prop := ∃ ln a b c d e ac fi : Nat, wn = [(h0, .inr (5, [.ref wr, .ref ln, .ref ac, .int 0, .int 0, .int 0, .int 0, .ref fi, .int 0, .int 0, .int 0])), (ln, .inl (cs 2, 5, .inr (.inr (.inr (.inr (lu_up5 a b c d e)))))), (a, .inr (1, lu_craw)), (b, .inr (1, lu_craw)), (c, .inr (1, lu_craw)), (d, .inr (1, lu_craw)), (e, .inr (1, lu_craw)), (ac, .inl (cs 0, 4, .inl (fun _ => 0))), (fi, .inl (cs 0, 4, .inl (fun _ => 0)))]
set_option maxHeartbeats 8000000 in
theorem c5_init (l : Launch) (D : va_G) (cs : Nat → ClassId) (h0 sz wr : Nat) : Met l yX5_init (.code yX5_init cX5_init 3 none :: lu_ws) ({ frames := 2, cells := 8, slots := 43, locals := 40 }) (va_Pc [.ref h0, .ref wr] (fun U => U.heap.size = sz ∧ va_P D lu_cl [(h0, .inr (5, lu_praw))] U.heap ∧ va_K D lu_cl (lu_tys cs) U ∧ va_AO RX1 U ∧ va_Nw (.methodLinkNest RX5 21 yX1_init RX11) U)) (lu_nQ D h0 sz (lu_pN cs h0 wr)) 8 43 (fun q => q = h0 ∨ sz ≤ q) := by
  refine Met.ofW (cc := cX5_init) (maxL := 3) (ret := none) (by decide) rfl ?_
  intro p e s m args below meth c s₁ B hml hv
  obtain ⟨rfl, hsz, hP, hK, hov, hnw⟩ := hv
  have hx := B.exec
  have hb := B.bytes
  have hr := B.returns
  have hts : ∀ w ∈ lu_ws, w.before ([Value.ref h0, .ref wr] : List Value).toArray s = true := fun w hw => atoms_spec (ws := .code yX5_init cX5_init 3 none :: lu_ws) B.pre w (List.mem_cons_of_mem _ hw)
  have hown : s.vm.findClass RX5 = some m.cls := findClass_of_methodNamed B.named
  have hlocks := B.notSynchronized
  have hni : meth.name = "<init>" := (name_of_methodNamed B.named B.method).1
  subst hsz
  have hA : ∀ q, s.heap.size ≤ q → (fun q => q = h0 ∨ s.heap.size ≤ q) q := fun q h => Or.inr h
  have hD : va_D (fun q => q = h0 ∨ s.heap.size ≤ q) [(h0, .inr (5, lu_praw))] := lu_D1 (Or.inl rfl)
  have hS : va_S (fun q => q = h0 ∨ s.heap.size ≤ q) s.heap s.heap [] := va_S.rf
  have hl := lv_entry ([.ref h0, .ref wr]) (n := 3) (Nat.le_of_ble_eq_true rfl)
  rw [lg_entry_eq]
  generalize (lg_sl ([.ref h0, .ref wr]) ++ List.replicate (3 - (lg_sl ([.ref h0, .ref wr])).length) Slot.unset).toArray = ls at hl ⊢
  have hl : lv_has ls 3 [(0, .ref h0), (1, .ref wr)] := hl
  have hc : lu_cl[5]? = some (RX5, TX5, 11) := rfl
  have hc1 : lu_cl[1]? = some (RX1, TX1, 6) := rfl
  have hin := lu_lay lu_lay5
  refine lv_aload_n hx hb dX5_init_0 rfl (lv_at hl 0 rfl) ?_
  refine W.objInit hx hb hown (hts _ hs_o5) (hts _ hw_oi) (hts _ hw_oc) rfl (by rw [hml]; exact hl.1) rfl dX5_init_1 (Nat.le_of_ble_eq_true rfl) (Nat.le_of_ble_eq_true rfl) ?_
  refine W.eq (g2 := F0 m 4 ls []) rfl ?_
  refine lv_aload_n hx hb dX5_init_4 rfl (lv_at hl 0 rfl) ?_
  refine lv_aload_n hx hb dX5_init_5 rfl (lv_at hl 1 rfl) ?_
  refine va_putF (v := .ref wr) (ty := .object RX10) hx hb hts hin tyX5 tyX5_ok nmX5 hown hK hP hD hS 0 rfl hc 0 (by decide) (hts _ qfl5_9) (fun _ h => h) rfl hni rfl (by decide +kernel) rfl rfl (Nat.le_of_ble_eq_true rfl) dX5_init_6 (fun H locs hP hD hS => ?_)
  refine lv_aload_n hx hb dX5_init_9 rfl (lv_at hl 0 rfl) ?_
  refine lv_iconst (v := 5) hx hb dX5_init_10 (by decide) ?_
  refine lu_newQ (t := 2) (N := 5) (C := RX1) hx hb rfl hown (hts _ hs_k5) hov hK hP hD hS hA (by decide) (by decide) (by decide) (by decide) (by decide) dX5_init_11 (fun ln H hP hD hS => ?_)
  refine va_putF (v := .ref ln) (ty := .array (.object RX1)) hx hb hts hin tyX5 tyX5_ok nmX5 hown hK hP hD hS 0 rfl hc 1 (by decide) (hts _ qfl5_17) (fun _ h => h) rfl hni rfl (by decide +kernel) rfl rfl (Nat.le_of_ble_eq_true rfl) dX5_init_14 (fun H locs hP hD hS => ?_)
  refine lv_iconst (v := 0) hx hb dX5_init_17 (by decide) ?_
  refine lv_istore_n (lv' := [(2, .int 0), (0, .ref h0), (1, .ref wr)]) hx hb dX5_init_18 rfl hl (by decide) rfl (fun ls hl => ?_)
  refine lv_iload_n hx hb dX5_init_19 rfl (lv_at hl 0 rfl) ?_
  refine lv_iconst (v := 4) hx hb dX5_init_20 (by decide) ?_
  refine lv_icmp_gt (tgt := 43) hx hb dX5_init_21 (by decide) (fun h => absurd h (by decide)) (fun _ => ?_)
  refine lv_aload_n hx hb dX5_init_24 rfl (lv_at hl 1 rfl) ?_
  refine va_get (D := D) hx hb hts hin hown hK hP 0 rfl hc 1 (by decide) (hts _ qfl5_17) (fun _ h => h) rfl dX5_init_25 ?_
  refine lv_iload_n hx hb dX5_init_28 rfl (lv_at hl 0 rfl) ?_
  refine va_new (ci := 1) (fs := lu_craw) hx hb hts (lu_lay lu_lay1) tyX1 tyX1_ok hown (hts _ hs_k5) (hts _ hs_n1) (hts _ hs_i1) hK hP hD hS hA rfl (fun j hj => by
    rcases (show j = 0 ∨ j = 1 ∨ j = 2 ∨ j = 3 ∨ j = 4 ∨ j = 5 by omega) with rfl | rfl | rfl | rfl | rfl | rfl <;> rfl) (by decide) (by decide) dX5_init_29 (fun k0 H hP hD hS => ?_)
  refine lv_dup hx hb dX5_init_32 rfl ?_
  refine lu_ctor0 (g := F0 m 33 ls [.ref k0, .ref k0, .int 0, .ref ln]) hP hS (va_runIN (As := []) (rest := [.ref k0, .int 0, .ref ln]) ⟨hx, hb, hml, hown, hts⟩ (c1_init l k0) ⟨va_cnB (host := RX11) 0 hts (lu_gi (fun w hw => by
    rcases List.mem_cons.mp hw with rfl | hw
    · exact hs_c1
    · exact hw)) rfl rfl rfl hnw (hts _ hs_i1) ⟨by decide, by decide, by decide +kernel⟩ ⟨by decide, by decide⟩, rfl, hts _ hs_m1⟩ ⟨fun a U g mk q => q, fun U hU hW => ⟨rfl, trivial⟩⟩ rfl rfl hl.1 rfl (lv_room (Nat.le_of_ble_eq_true rfl)) dX5_init_33 ⟨by decide, by decide⟩) (fun H locs hP hS => ?_)
  refine va_astq (r := (RX1, TX1, 6)) hx hb hK hP hD hS 1 2 2 1 rfl rfl rfl hc1 (i := 0) (by unfold vp_in; decide) dX5_init_36 (fun H locs hP hD hS => ?_)
  refine lv_iinc (v := 1) (lv' := [(2, .int 1), (0, .ref h0), (1, .ref wr)]) (k := 0) hx hb dX5_init_37 hl rfl (by decide) (by decide) rfl (fun ls hl => ?_)
  refine lv_goto (tgt := 19) hx hb dX5_init_40 rfl ?_
  refine lv_iload_n hx hb dX5_init_19 rfl (lv_at hl 0 rfl) ?_
  refine lv_iconst (v := 4) hx hb dX5_init_20 (by decide) ?_
  refine lv_icmp_gt (tgt := 43) hx hb dX5_init_21 (by decide) (fun h => absurd h (by decide)) (fun _ => ?_)
  refine lv_aload_n hx hb dX5_init_24 rfl (lv_at hl 1 rfl) ?_
  refine va_get (D := D) hx hb hts hin hown hK hP 0 rfl hc 1 (by decide) (hts _ qfl5_17) (fun _ h => h) rfl dX5_init_25 ?_
  refine lv_iload_n hx hb dX5_init_28 rfl (lv_at hl 0 rfl) ?_
  refine va_new (ci := 1) (fs := lu_craw) hx hb hts (lu_lay lu_lay1) tyX1 tyX1_ok hown (hts _ hs_k5) (hts _ hs_n1) (hts _ hs_i1) hK hP hD hS hA rfl (fun j hj => by
    rcases (show j = 0 ∨ j = 1 ∨ j = 2 ∨ j = 3 ∨ j = 4 ∨ j = 5 by omega) with rfl | rfl | rfl | rfl | rfl | rfl <;> rfl) (by decide) (by decide) dX5_init_29 (fun k1 H hP hD hS => ?_)
  refine lv_dup hx hb dX5_init_32 rfl ?_
  refine lu_ctor0 (g := F0 m 33 ls [.ref k1, .ref k1, .int 1, .ref ln]) hP hS (va_runIN (As := []) (rest := [.ref k1, .int 1, .ref ln]) ⟨hx, hb, hml, hown, hts⟩ (c1_init l k1) ⟨va_cnB (host := RX11) 0 hts (lu_gi (fun w hw => by
    rcases List.mem_cons.mp hw with rfl | hw
    · exact hs_c1
    · exact hw)) rfl rfl rfl hnw (hts _ hs_i1) ⟨by decide, by decide, by decide +kernel⟩ ⟨by decide, by decide⟩, rfl, hts _ hs_m1⟩ ⟨fun a U g mk q => q, fun U hU hW => ⟨rfl, trivial⟩⟩ rfl rfl hl.1 rfl (lv_room (Nat.le_of_ble_eq_true rfl)) dX5_init_33 ⟨by decide, by decide⟩) (fun H locs hP hS => ?_)
  refine va_astq (r := (RX1, TX1, 6)) hx hb hK hP hD hS 1 2 3 1 rfl rfl rfl hc1 (i := 1) (by unfold vp_in; decide) dX5_init_36 (fun H locs hP hD hS => ?_)
  refine lv_iinc (v := 2) (lv' := [(2, .int 2), (0, .ref h0), (1, .ref wr)]) (k := 0) hx hb dX5_init_37 hl rfl (by decide) (by decide) rfl (fun ls hl => ?_)
  refine lv_goto (tgt := 19) hx hb dX5_init_40 rfl ?_
  refine lv_iload_n hx hb dX5_init_19 rfl (lv_at hl 0 rfl) ?_
  refine lv_iconst (v := 4) hx hb dX5_init_20 (by decide) ?_
  refine lv_icmp_gt (tgt := 43) hx hb dX5_init_21 (by decide) (fun h => absurd h (by decide)) (fun _ => ?_)
  refine lv_aload_n hx hb dX5_init_24 rfl (lv_at hl 1 rfl) ?_
  refine va_get (D := D) hx hb hts hin hown hK hP 0 rfl hc 1 (by decide) (hts _ qfl5_17) (fun _ h => h) rfl dX5_init_25 ?_
  refine lv_iload_n hx hb dX5_init_28 rfl (lv_at hl 0 rfl) ?_
  refine va_new (ci := 1) (fs := lu_craw) hx hb hts (lu_lay lu_lay1) tyX1 tyX1_ok hown (hts _ hs_k5) (hts _ hs_n1) (hts _ hs_i1) hK hP hD hS hA rfl (fun j hj => by
    rcases (show j = 0 ∨ j = 1 ∨ j = 2 ∨ j = 3 ∨ j = 4 ∨ j = 5 by omega) with rfl | rfl | rfl | rfl | rfl | rfl <;> rfl) (by decide) (by decide) dX5_init_29 (fun k2 H hP hD hS => ?_)
  refine lv_dup hx hb dX5_init_32 rfl ?_
  refine lu_ctor0 (g := F0 m 33 ls [.ref k2, .ref k2, .int 2, .ref ln]) hP hS (va_runIN (As := []) (rest := [.ref k2, .int 2, .ref ln]) ⟨hx, hb, hml, hown, hts⟩ (c1_init l k2) ⟨va_cnB (host := RX11) 0 hts (lu_gi (fun w hw => by
    rcases List.mem_cons.mp hw with rfl | hw
    · exact hs_c1
    · exact hw)) rfl rfl rfl hnw (hts _ hs_i1) ⟨by decide, by decide, by decide +kernel⟩ ⟨by decide, by decide⟩, rfl, hts _ hs_m1⟩ ⟨fun a U g mk q => q, fun U hU hW => ⟨rfl, trivial⟩⟩ rfl rfl hl.1 rfl (lv_room (Nat.le_of_ble_eq_true rfl)) dX5_init_33 ⟨by decide, by decide⟩) (fun H locs hP hS => ?_)
  refine va_astq (r := (RX1, TX1, 6)) hx hb hK hP hD hS 1 2 4 1 rfl rfl rfl hc1 (i := 2) (by unfold vp_in; decide) dX5_init_36 (fun H locs hP hD hS => ?_)
  refine lv_iinc (v := 3) (lv' := [(2, .int 3), (0, .ref h0), (1, .ref wr)]) (k := 0) hx hb dX5_init_37 hl rfl (by decide) (by decide) rfl (fun ls hl => ?_)
  refine lv_goto (tgt := 19) hx hb dX5_init_40 rfl ?_
  refine lv_iload_n hx hb dX5_init_19 rfl (lv_at hl 0 rfl) ?_
  refine lv_iconst (v := 4) hx hb dX5_init_20 (by decide) ?_
  refine lv_icmp_gt (tgt := 43) hx hb dX5_init_21 (by decide) (fun h => absurd h (by decide)) (fun _ => ?_)
  refine lv_aload_n hx hb dX5_init_24 rfl (lv_at hl 1 rfl) ?_
  refine va_get (D := D) hx hb hts hin hown hK hP 0 rfl hc 1 (by decide) (hts _ qfl5_17) (fun _ h => h) rfl dX5_init_25 ?_
  refine lv_iload_n hx hb dX5_init_28 rfl (lv_at hl 0 rfl) ?_
  refine va_new (ci := 1) (fs := lu_craw) hx hb hts (lu_lay lu_lay1) tyX1 tyX1_ok hown (hts _ hs_k5) (hts _ hs_n1) (hts _ hs_i1) hK hP hD hS hA rfl (fun j hj => by
    rcases (show j = 0 ∨ j = 1 ∨ j = 2 ∨ j = 3 ∨ j = 4 ∨ j = 5 by omega) with rfl | rfl | rfl | rfl | rfl | rfl <;> rfl) (by decide) (by decide) dX5_init_29 (fun k3 H hP hD hS => ?_)
  refine lv_dup hx hb dX5_init_32 rfl ?_
  refine lu_ctor0 (g := F0 m 33 ls [.ref k3, .ref k3, .int 3, .ref ln]) hP hS (va_runIN (As := []) (rest := [.ref k3, .int 3, .ref ln]) ⟨hx, hb, hml, hown, hts⟩ (c1_init l k3) ⟨va_cnB (host := RX11) 0 hts (lu_gi (fun w hw => by
    rcases List.mem_cons.mp hw with rfl | hw
    · exact hs_c1
    · exact hw)) rfl rfl rfl hnw (hts _ hs_i1) ⟨by decide, by decide, by decide +kernel⟩ ⟨by decide, by decide⟩, rfl, hts _ hs_m1⟩ ⟨fun a U g mk q => q, fun U hU hW => ⟨rfl, trivial⟩⟩ rfl rfl hl.1 rfl (lv_room (Nat.le_of_ble_eq_true rfl)) dX5_init_33 ⟨by decide, by decide⟩) (fun H locs hP hS => ?_)
  refine va_astq (r := (RX1, TX1, 6)) hx hb hK hP hD hS 1 2 5 1 rfl rfl rfl hc1 (i := 3) (by unfold vp_in; decide) dX5_init_36 (fun H locs hP hD hS => ?_)
  refine lv_iinc (v := 4) (lv' := [(2, .int 4), (0, .ref h0), (1, .ref wr)]) (k := 0) hx hb dX5_init_37 hl rfl (by decide) (by decide) rfl (fun ls hl => ?_)
  refine lv_goto (tgt := 19) hx hb dX5_init_40 rfl ?_
  refine lv_iload_n hx hb dX5_init_19 rfl (lv_at hl 0 rfl) ?_
  refine lv_iconst (v := 4) hx hb dX5_init_20 (by decide) ?_
  refine lv_icmp_gt (tgt := 43) hx hb dX5_init_21 (by decide) (fun h => absurd h (by decide)) (fun _ => ?_)
  refine lv_aload_n hx hb dX5_init_24 rfl (lv_at hl 1 rfl) ?_
  refine va_get (D := D) hx hb hts hin hown hK hP 0 rfl hc 1 (by decide) (hts _ qfl5_17) (fun _ h => h) rfl dX5_init_25 ?_
  refine lv_iload_n hx hb dX5_init_28 rfl (lv_at hl 0 rfl) ?_
  refine va_new (ci := 1) (fs := lu_craw) hx hb hts (lu_lay lu_lay1) tyX1 tyX1_ok hown (hts _ hs_k5) (hts _ hs_n1) (hts _ hs_i1) hK hP hD hS hA rfl (fun j hj => by
    rcases (show j = 0 ∨ j = 1 ∨ j = 2 ∨ j = 3 ∨ j = 4 ∨ j = 5 by omega) with rfl | rfl | rfl | rfl | rfl | rfl <;> rfl) (by decide) (by decide) dX5_init_29 (fun k4 H hP hD hS => ?_)
  refine lv_dup hx hb dX5_init_32 rfl ?_
  refine lu_ctor0 (g := F0 m 33 ls [.ref k4, .ref k4, .int 4, .ref ln]) hP hS (va_runIN (As := []) (rest := [.ref k4, .int 4, .ref ln]) ⟨hx, hb, hml, hown, hts⟩ (c1_init l k4) ⟨va_cnB (host := RX11) 0 hts (lu_gi (fun w hw => by
    rcases List.mem_cons.mp hw with rfl | hw
    · exact hs_c1
    · exact hw)) rfl rfl rfl hnw (hts _ hs_i1) ⟨by decide, by decide, by decide +kernel⟩ ⟨by decide, by decide⟩, rfl, hts _ hs_m1⟩ ⟨fun a U g mk q => q, fun U hU hW => ⟨rfl, trivial⟩⟩ rfl rfl hl.1 rfl (lv_room (Nat.le_of_ble_eq_true rfl)) dX5_init_33 ⟨by decide, by decide⟩) (fun H locs hP hS => ?_)
  refine va_astq (r := (RX1, TX1, 6)) hx hb hK hP hD hS 1 2 6 1 rfl rfl rfl hc1 (i := 4) (by unfold vp_in; decide) dX5_init_36 (fun H locs hP hD hS => ?_)
  refine lv_iinc (v := 5) (lv' := [(2, .int 5), (0, .ref h0), (1, .ref wr)]) (k := 0) hx hb dX5_init_37 hl rfl (by decide) (by decide) rfl (fun ls hl => ?_)
  refine lv_goto (tgt := 19) hx hb dX5_init_40 rfl ?_
  refine lv_iload_n hx hb dX5_init_19 rfl (lv_at hl 0 rfl) ?_
  refine lv_iconst (v := 4) hx hb dX5_init_20 (by decide) ?_
  refine lv_icmp_gt (tgt := 43) hx hb dX5_init_21 (by decide) (fun _ => ?_) (fun h => absurd (by decide) h)
  refine lv_aload_n hx hb dX5_init_43 rfl (lv_at hl 1 rfl) ?_
  refine lv_iconst (v := 4) hx hb dX5_init_44 (by decide) ?_
  refine lu_newI (N := 4) hx hb hts hK hP hD hS hA (by decide) (by decide) (by decide) (by decide) (by decide) dX5_init_45 (fun ac H hP hD hS => ?_)
  refine va_putF (v := .ref ac) (ty := .array .int) hx hb hts hin tyX5 tyX5_ok nmX5 hown hK hP hD hS 0 rfl hc 2 (by decide) (hts _ qfl5_22) (fun _ h => h) rfl hni rfl (by decide +kernel) rfl rfl (Nat.le_of_ble_eq_true rfl) dX5_init_47 (fun H locs hP hD hS => ?_)
  refine lv_aload_n hx hb dX5_init_50 rfl (lv_at hl 1 rfl) ?_
  refine lv_iconst (v := 4) hx hb dX5_init_51 (by decide) ?_
  refine lu_newI (N := 4) hx hb hts hK hP hD hS hA (by decide) (by decide) (by decide) (by decide) (by decide) dX5_init_52 (fun fi H hP hD hS => ?_)
  refine va_putF (v := .ref fi) (ty := .array .int) hx hb hts hin tyX5 tyX5_ok nmX5 hown hK hP hD hS 0 rfl hc 7 (by decide) (hts _ qfl5_26) (fun _ h => h) rfl hni rfl (by decide +kernel) rfl rfl (Nat.le_of_ble_eq_true rfl) dX5_init_54 (fun H locs hP hD hS => ?_)
  exact W.vret hx hb hr (fun t ht hW => ⟨rfl, ⟨_, ⟨ln, k0, k1, k2, k3, k4, ac, fi, rfl⟩, by rw [ht]; exact hP, hD⟩, hS.F ht⟩) hS.2.2 dX5_init_57


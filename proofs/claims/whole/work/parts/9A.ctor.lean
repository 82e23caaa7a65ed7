/-! CONSTRUCTORS of the start: behind a constructor; Teller -/
theorem dX8_init_0 : decode cX8_init 0 = .ok (.aload_n 0, 1) := by decide +kernel
theorem dX8_init_1 : decode cX8_init 1 = .ok (.invokespecial 3, 3) := by decide +kernel
theorem dX8_init_4 : decode cX8_init 4 = .ok (.aload_n 0, 1) := by decide +kernel
theorem dX8_init_5 : decode cX8_init 5 = .ok (.sipush 200, 3) := by decide +kernel
theorem dX8_init_8 : decode cX8_init 8 = .ok (.newarray .int, 2) := by decide +kernel
theorem dX8_init_10 : decode cX8_init 10 = .ok (.putfield 9, 3) := by decide +kernel
theorem dX8_init_13 : decode cX8_init 13 = .ok (.aload_n 0, 1) := by decide +kernel
theorem dX8_init_14 : decode cX8_init 14 = .ok (.new 15, 3) := by decide +kernel
theorem dX8_init_17 : decode cX8_init 17 = .ok (.dup, 1) := by decide +kernel
theorem dX8_init_18 : decode cX8_init 18 = .ok (.invokespecial 17, 3) := by decide +kernel
theorem dX8_init_21 : decode cX8_init 21 = .ok (.putfield 18, 3) := by decide +kernel
theorem dX8_init_24 : decode cX8_init 24 = .ok (.return_, 1) := by decide +kernel
theorem hs_o8 : Cond.methodLink RX8 3 objectInit ∈ lu_ws := lu_in (List.mem_of_getElem? (i := 430) (by decide +kernel)) (by decide +kernel)
theorem hs_k8 : Cond.classLink RX8 15 RX6 ∈ lu_ws := lu_in (List.mem_of_getElem? (i := 431) (by decide +kernel)) (by decide +kernel)
theorem hs_l8 : Cond.methodLink RX8 17 yX6_init ∈ lu_ws := lu_in (List.mem_of_getElem? (i := 432) (by decide +kernel)) (by decide +kernel)
theorem hs_n6 : Cond.instantiable RX6 7 ∈ lu_ws := lu_in (List.mem_of_getElem? (i := 270) (by decide +kernel)) (by decide +kernel)
theorem hs_i6 : Cond.initialized RX6 ∈ lu_ws := lu_in (List.mem_of_getElem? (i := 93) (by decide +kernel)) (by decide +kernel)
theorem hs_m6 : Cond.instanceMethod yX6_init ∈ lu_ws := lu_in (List.mem_of_getElem? (i := 272) (by decide +kernel)) (by decide +kernel)
theorem hs_c6 : Cond.code yX6_init cX6_init 1 none ∈ lu_ws := lu_in (List.mem_of_getElem? (i := 273) (by decide +kernel)) (by decide +kernel)

section CTOR
variable {p : Program} {l : Launch} {e : Env} {R : Room} {s : State} {m : MethodId} {args : Array Value} {below : List Frame} {meth : Method} {c : Code} {H : Heap} {locs : List Loc} {cells slots : Nat} {Q : State → Prop} {g : JFrame} {rest : List Value} {D : va_G} {A : Nat → Prop} {ws : va_W} {H0 : Heap} {q : Nat} {e0 : va_E} {mc ms : Nat} {Pn : va_W → Prop}
theorem lu_ctor (hP : va_P D lu_cl (ws ++ [(q, e0)]) H) (hD : va_D A (ws ++ [(q, e0)])) (hS : va_S A H0 H locs) (hA : ∀ x, H0.size ≤ x → A x)
    (hr : va_Run p l e R s m args below meth c H locs cells slots mc ms g rest (fun st oc t => oc = .returned none ∧ (∃ wn : va_W, Pn wn ∧ va_P D lu_cl wn t.heap ∧ va_D (fun x => x = q ∨ H.size ≤ x) wn) ∧ va_F (fun x => x = q ∨ H.size ≤ x) st t) (fun x => x = q ∨ H.size ≤ x))
    (kk : ∀ (wn : va_W) (H1 : Heap) (locs1 : List Loc), Pn wn → va_P D lu_cl (ws ++ wn) H1 → va_D A (ws ++ wn) → va_S A H0 H1 locs1 → W p l e R s m args below meth c H1 locs1 (cells + mc) (slots + ms) Q { g with pc := g.pc + 3, stack := rest }) : W p l e R s m args below meth c H locs cells slots Q g := by
  intro T0 hT X0
  obtain ⟨v, st₀, t, T', L, h0', X', hL, e1, e2, ⟨hv, ⟨wn, hn, hp, hd⟩, hz, hk⟩, st⟩ := hr T0 hT X0
  cases hv
  rw [h0'] at hz hk
  have hq : (ws ++ [(q, e0)])[ws.length]? = some (q, e0) := by
    rw [List.getElem?_append_right (Nat.le_refl _), Nat.sub_self]; rfl
  have hAq : A q := hD.2 _ _ hq
  have hfree : ∀ x, (x = q ∨ H.size ≤ x) → A x := fun x h => by
    rcases h with rfl | h
    · exact hAq
    · exact hA x (Nat.le_trans hS.1 h)
  have hws : ∀ (j : Nat) (y : Nat × va_E), ws[j]? = some y → (ws ++ [(q, e0)])[j]? = some y := fun j y hy => by
    rw [List.getElem?_append_left ((List.getElem?_eq_some_iff.mp hy).1)]; exact hy
  have hne : ∀ (j : Nat) (y : Nat × va_E), ws[j]? = some y → y.1 < H.size ∧ y.1 ≠ q := fun j y hy => by
    refine ⟨(hP j y (hws j y hy)).lt, fun h => ?_⟩
    have h1 := hD.1 _ _ _ _ (hws j y hy) hq h
    have h2 := (List.getElem?_eq_some_iff.mp hy).1
    omega
  have hP1 : va_P D lu_cl (ws ++ wn) T'.heap := by
    rw [e1]
    refine va_P.app (fun j y hy => ?_) hp
    have h2 := hne j y hy
    exact (hP j y (hws j y hy)).kept (hk y.1 h2.1 (fun h => by omega))
  have hD1 : va_D A (ws ++ wn) := by
    refine va_D.app ⟨fun i j x y hi hj h => hD.1 _ _ _ _ (hws i x hi) (hws j y hj) h, fun j y hy => hD.2 _ _ (hws j y hy)⟩ (hd.weaken fun _ y _ h => hfree y.1 h) (fun i j x y hi hj h => ?_)
    have h2 := hne i x hi
    have h3 := hd.2 j y hj
    omega
  have hS1 : va_S A H0 T'.heap (locs ++ L) := by
    refine ⟨by rw [e1]; exact Nat.le_trans hS.1 hz, fun x h1 h2 => by rw [e1, hk x (Nat.lt_of_lt_of_le h1 hS.1) (fun h => h2 (hfree x h))]; exact hS.2.1 x h1 h2, fun x hx => ?_⟩
    rcases List.mem_append.mp hx with h | h
    · exact hS.2.2 x h
    · exact hfree _ (hL x h)
  obtain ⟨t2, a1, b1⟩ := kk wn T'.heap (locs ++ L) hn hP1 hD1 hS1 T' rfl X'
  exact ⟨t2, st t2 a1, b1⟩
end CTOR
/-- Teller(): the tape, the draft -/
def lu_traw : List Value := [.null, .int 0, .null, .int 0, .int 0, .int 0, .int 0]
def lu_tN (cs : Nat → ClassId) (h0 : Nat) (wn : va_W) : Prop := ∃ tp dr a b c d e : Nat, wn = [(h0, .inr (8, [.ref tp, .int 0, .ref dr, .int 0, .int 0, .int 0, .int 0])), (tp, .inl (cs 0, 200, .inl (fun _ => 0)))] ++ lu_rW cs dr a b c d e
set_option maxHeartbeats 4000000 in
theorem c8_init (l : Launch) (D : va_G) (cs : Nat → ClassId) (h0 sz : Nat) : Met l yX8_init (.code yX8_init cX8_init 1 none :: lu_ws) ({ frames := 2, cells := 7, slots := 439, locals := 40 }) (va_Pc [.ref h0] (fun U => U.heap.size = sz ∧ va_P D lu_cl [(h0, .inr (8, lu_traw))] U.heap ∧ va_K D lu_cl (lu_tys cs) U)) (lu_nQ D h0 sz (lu_tN cs h0)) 7 439 (fun q => q = h0 ∨ sz ≤ q) := by
  refine Met.ofW (cc := cX8_init) (maxL := 1) (ret := none) (by decide) rfl ?_
  intro p e s m args below meth c s₁ B hml hv
  obtain ⟨rfl, hsz, hP, hK⟩ := hv
  have hx := B.exec
  have hb := B.bytes
  have hr := B.returns
  have hts : ∀ w ∈ lu_ws, w.before ([Value.ref h0] : List Value).toArray s = true := fun w hw => atoms_spec (ws := .code yX8_init cX8_init 1 none :: lu_ws) B.pre w (List.mem_cons_of_mem _ hw)
  have hown : s.vm.findClass RX8 = some m.cls := findClass_of_methodNamed B.named
  have hlocks := B.notSynchronized
  have hni : meth.name = "<init>" := (name_of_methodNamed B.named B.method).1
  subst hsz
  have hA : ∀ q, s.heap.size ≤ q → (fun q => q = h0 ∨ s.heap.size ≤ q) q := fun q h => Or.inr h
  have hD : va_D (fun q => q = h0 ∨ s.heap.size ≤ q) [(h0, .inr (8, lu_traw))] := lu_D1 (Or.inl rfl)
  have hS : va_S (fun q => q = h0 ∨ s.heap.size ≤ q) s.heap s.heap [] := va_S.rf
  have hl := lv_entry ([.ref h0]) (n := 1) (Nat.le_of_ble_eq_true rfl)
  rw [lg_entry_eq]
  generalize (lg_sl ([.ref h0]) ++ List.replicate (1 - (lg_sl ([.ref h0])).length) Slot.unset).toArray = ls at hl ⊢
  have hl : lv_has ls 1 [(0, .ref h0)] := hl
  have hc : lu_cl[8]? = some (RX8, TX8, 7) := rfl
  have hin := lu_lay lu_lay8
  refine lv_aload_n hx hb dX8_init_0 rfl (lv_at hl 0 rfl) ?_
  refine W.objInit hx hb hown (hts _ hs_o8) (hts _ hw_oi) (hts _ hw_oc) rfl (by rw [hml]; exact hl.1) rfl dX8_init_1 (Nat.le_of_ble_eq_true rfl) (Nat.le_of_ble_eq_true rfl) ?_
  refine W.eq (g2 := F0 m 4 ls []) rfl ?_
  refine lv_aload_n hx hb dX8_init_4 rfl (lv_at hl 0 rfl) ?_
  refine lv_sipush (v := 200) hx hb dX8_init_5 (by decide) ?_
  refine lu_newI (N := 200) hx hb hts hK hP hD hS hA (by decide) (by decide) (by decide) (by decide) (by decide) dX8_init_8 (fun tp H hP hD hS => ?_)
  refine va_putF (v := .ref tp) (ty := .array .int) hx hb hts hin tyX8 tyX8_ok nmX8 hown hK hP hD hS 0 rfl hc 0 (by decide) (hts _ qfl8_9) (fun _ h => h) rfl hni rfl (by decide +kernel) rfl rfl (Nat.le_of_ble_eq_true rfl) dX8_init_10 (fun H locs hP hD hS => ?_)
  refine lv_aload_n hx hb dX8_init_13 rfl (lv_at hl 0 rfl) ?_
  refine va_new (ci := 6) (fs := lu_rraw) hx hb hts (lu_lay lu_lay6) tyX6 tyX6_ok hown (hts _ hs_k8) (hts _ hs_n6) (hts _ hs_i6) hK hP hD hS hA rfl (fun j hj => by
    rcases (show j = 0 ∨ j = 1 ∨ j = 2 ∨ j = 3 ∨ j = 4 ∨ j = 5 ∨ j = 6 by omega) with rfl | rfl | rfl | rfl | rfl | rfl | rfl <;> rfl) (by decide) (by decide) dX8_init_14 (fun dr H hP hD hS => ?_)
  refine lv_dup hx hb dX8_init_17 rfl ?_
  refine lu_ctor (g := F0 m 18 ls [.ref dr, .ref dr, .ref h0]) hP hD hS hA (va_runI (As := []) (rest := [.ref dr, .ref h0]) ⟨hx, hb, hml, hown, hts⟩ (c6_init l D cs dr H.size) (cwI 0 hts (lu_gi (fun w hw => by
    rcases List.mem_cons.mp hw with rfl | hw
    · exact hs_c6
    · exact hw)) rfl rfl rfl (hts _ hs_i6) (hts _ hs_l8) (hts _ hs_m6) rfl ⟨by decide, by decide, by decide +kernel⟩ ⟨by decide, by decide⟩) ⟨fun a U g mk q => by
    obtain ⟨q0, q1, qP, qK⟩ := q
    exact ⟨q0, q1, qP, va_K.moved (u := U) (U := U.calling g mk a) (Vm.Alike.refl U.vm) qK⟩, fun U hU hW => ⟨rfl, by rw [hU], by
      rw [hU]
      exact hP.sub [2] rfl, va_K.moved hW.alike hK⟩⟩ rfl rfl hl.1 rfl (lv_room (Nat.le_of_ble_eq_true rfl)) dX8_init_18 ⟨by decide, by decide⟩) (fun wn H locs hw hP hD hS => ?_)
  obtain ⟨a, b, c1, d, e1, rfl⟩ := hw
  refine va_putF (v := .ref dr) (ty := .object RX6) hx hb hts hin tyX8 tyX8_ok nmX8 hown hK hP hD hS 0 rfl hc 2 (by decide) (hts _ qfl8_18) (fun _ h => h) rfl hni rfl (by decide +kernel) rfl rfl (Nat.le_of_ble_eq_true rfl) dX8_init_21 (fun H locs hP hD hS => ?_)
  exact W.vret hx hb hr (fun t ht hW => ⟨rfl, ⟨_, ⟨tp, dr, a, b, c1, d, e1, rfl⟩, by rw [ht]; exact hP, hD⟩, hS.F ht⟩) hS.2.2 dX8_init_24


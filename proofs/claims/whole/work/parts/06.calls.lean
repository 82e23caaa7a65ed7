/-! CONTRACTS of methods against functions of the memory; returns, calls -/
def lu_Pre (T : lu_T) (D : va_G) (cs : Nat → ClassId) (ρ : Nat → Nat) (m : lu_M) (sa : Nat → Nat) (sz : Nat) (U : State) : Prop := U.heap.size = sz ∧ va_P D lu_cl (lu_W T cs ρ m) U.heap ∧ va_K D lu_cl (lu_tys cs) U ∧ va_D (fun _ => True) (lu_W T cs ρ m) ∧ lu_Sx sa (va_A (lu_W T cs ρ m) sz) U U.heap ∧ lu_N sa U
def lu_Post (T : lu_T) (D : va_G) (cs : Nat → ClassId) (ρ : Nat → Nat) (A : Nat → Prop) (m' : lu_M) (rv : Option Value) : Array Value → State → Outcome → State → Prop := fun _ st oc t => oc = .returned rv ∧ va_P D lu_cl (lu_W T cs ρ m') t.heap ∧ va_F A st t
def lu_C {β : Type} (T : lu_T) (l : Launch) (y : MethodName) (cc : ByteArray) (nL : Nat) (ret : Option FieldType) (fr lo : Nat) (avs : (Nat → Nat) → (Nat → Nat) → List Value) (f : lu_M → Option β) (RV : (Nat → Nat) → β → Option Value) (MM : β → lu_M) : Prop :=
  ∀ (D : va_G) (cs : Nat → ClassId) (ρ : Nat → Nat) (m : lu_M) (sa : Nat → Nat) (sz : Nat) (b : β), f m = some b → Met l y (.code y cc nL ret :: lu_ws) ({ frames := fr, cells := 0, slots := 0, locals := lo }) (va_Pc (avs ρ sa) (lu_Pre T D cs ρ m sa sz)) (lu_Post T D cs ρ (va_A (lu_W T cs ρ m) sz) (MM b) (RV ρ b)) 0 0 (va_A (lu_W T cs ρ m) sz)
def lu_RVi (_ : Nat → Nat) (b : Int32 × lu_M) : Option Value := some (.int b.1)
def lu_RVl (_ : Nat → Nat) (b : Int64 × lu_M) : Option Value := some (.long b.1)
def lu_RVr (ρ : Nat → Nat) (b : Nat × lu_M) : Option Value := some (.ref (ρ b.1))
def lu_RVv (_ : Nat → Nat) (_ : lu_M) : Option Value := none
def lu_id (b : lu_M) : lu_M := b
def lu_sn {α : Type} (b : α × lu_M) : lu_M := b.2
def lu_Q {β : Type} (T : lu_T) (G : lu_G) (ρ : Nat → Nat) (RV : (Nat → Nat) → β → Option Value) (MM : β → lu_M) : β → State → Prop := fun b => MQ (lu_b G) (lu_Post T (lu_D G) (lu_cs G) ρ (lu_A G) (MM b) (RV ρ b)) (lu_a G) (lu_s G) 0 0 (lu_A G)
theorem lu_dom {A : Nat → Prop} {w w' : va_W} (h : va_D A w) (e : w'.map Prod.fst = w.map Prod.fst) : va_D A w' := by
  have key : ∀ (k : Nat) (q : Nat × va_E), w'[k]? = some q → ∃ q0, w[k]? = some q0 ∧ q0.1 = q.1 := by
    intro k q hk
    have h1 : (w'.map Prod.fst)[k]? = some q.1 := by rw [List.getElem?_map, hk]; rfl
    rw [e, List.getElem?_map] at h1
    cases h2 : w[k]? with
    | none => rw [h2] at h1; cases h1
    | some q0 => rw [h2] at h1; exact ⟨q0, rfl, Option.some.inj h1⟩
  refine ⟨fun i j x y hi hj hxy => ?_, fun k q hk => ?_⟩
  · obtain ⟨x0, h1, h2⟩ := key i x hi
    obtain ⟨y0, h3, h4⟩ := key j y hj
    exact h.1 i j x0 y0 h1 h3 (h2.trans (hxy.trans h4.symm))
  · obtain ⟨q0, h1, h2⟩ := key k q hk
    rw [← h2]
    exact h.2 k q0 h1
theorem lu_W_fst (T : lu_T) (cs : Nat → ClassId) (ρ : Nat → Nat) (m m' : lu_M) (ex : va_W) : (lu_W T cs ρ m' ++ ex).map Prod.fst = (lu_W T cs ρ m ++ ex).map Prod.fst := by simp [lu_W]
theorem lu_P_l {D : va_G} {w1 w2 : va_W} {H : Heap} (h : va_P D lu_cl (w1 ++ w2) H) : va_P D lu_cl w1 H := fun k q hk => h k q (by
  rw [List.getElem?_append_left ((List.getElem?_eq_some_iff.mp hk).1)]; exact hk)
theorem lu_D_l {A : Nat → Prop} {w1 w2 : va_W} (h : va_D A (w1 ++ w2)) : va_D A w1 := by
  have key : ∀ (k : Nat) (q : Nat × va_E), w1[k]? = some q → (w1 ++ w2)[k]? = some q := fun k q hk => by
    rw [List.getElem?_append_left ((List.getElem?_eq_some_iff.mp hk).1)]; exact hk
  exact ⟨fun i j x y hi hj hxy => h.1 i j x y (key i x hi) (key j y hj) hxy, fun k q hk => h.2 k q (key k q hk)⟩
/-- a method's contract out of its walk -/
theorem lu_met {β : Type} {T : lu_T} {l : Launch} {y : MethodName} {cc : ByteArray} {nL : Nat} {ret : Option FieldType} {fr lo : Nat} {avs : (Nat → Nat) → (Nat → Nat) → List Value} {f : lu_M → Option β} {RV : (Nat → Nat) → β → Option Value} {MM : β → lu_M} {cls : String} (hcls : y.cls = cls) (hy : plainName y.cls = true) (hlen : ∀ ρ sa, (lg_sl (avs ρ sa)).length ≤ nL)
    (walk : ∀ (G : lu_G) (ρ : Nat → Nat) (m : lu_M), lu_l G = l → lu_X G cls cc nL fr lo → (lu_me G).sig.returnType = ret → lu_Ab T G (lu_Q T G ρ RV MM) (f m) 0 (lv_args 0 (avs ρ (lu_sa G))) [] ρ 0 0 [] m) : lu_C T l y cc nL ret fr lo avs f RV MM := by
  subst hcls
  intro D cs ρ m sa sz b hf
  refine Met.ofW (cc := cc) (maxL := nL) (ret := ret) hy rfl ?_
  intro p e s mm args below meth c s₁ B hml hv
  obtain ⟨rfl, hsz, hP, hK, hD0, hSx, hN⟩ := hv
  subst hsz
  have hown : s.vm.findClass y.cls = some mm.cls := findClass_of_methodNamed B.named
  have hts := atoms_spec (ws := .code y cc nL ret :: lu_ws) B.pre
  have hD := hD0.self (sz := s.heap.size)
  have hl := lv_entry (avs ρ sa) (hlen ρ sa)
  rw [lg_entry_eq]
  have h := walk (p, l, e, { frames := fr, cells := 0, slots := 0, locals := lo }, s, mm, (avs ρ sa).toArray, below, meth, c, va_A (lu_W T cs ρ m) s.heap.size, D, cs, sa, nL) ρ m rfl
    ⟨B.exec, B.bytes, hml, rfl, hown, fun w hw => hts w (List.mem_cons_of_mem _ hw), hK, B.notSynchronized, fun q h => Or.inr h, hSx, hN, Nat.le_refl _, Nat.le_refl _⟩ B.returns
  exact h b hf s.heap [] _ hl (by rw [List.append_nil]; exact hP) (by rw [List.append_nil]; exact hD) va_S.rf
section LUC
variable {β : Type} {T : lu_T} {G : lu_G} {Q : β → State → Prop} {o : Option β} {pc pc2 : Nat} {lv : List (Nat × Value)} {st : List Value} {ρ : Nat → Nat} {k n : Nat} {ex : va_W} {m : lu_M} {own : String} {cc : ByteArray} {nL fr lo : Nat}
theorem lu_iret (X : lu_X G own cc nL fr lo) (hr : (lu_me G).sig.returnType = some .int) {x : Int32} (d : decode cc pc = .ok (.ireturn, 1)) : lu_Ab T G (lu_Q T G ρ lu_RVi lu_sn) (some (x, m)) pc lv [.int x] ρ 0 0 [] m := by
  intro b hb H locs ls hl hP hD hS
  cases hb
  exact W.iret (v := x) X.hx X.hb hr (fun t ht hW => ⟨rfl, by rw [ht]; exact lu_P_l hP, hS.F ht⟩) hS.2.2 d X.hlk
theorem lu_zret (X : lu_X G own cc nL fr lo) (hr : (lu_me G).sig.returnType = some .boolean) {x : Int32} (hx : decide (x = 0 ∨ x = 1) = true) (d : decode cc pc = .ok (.ireturn, 1)) : lu_Ab T G (lu_Q T G ρ lu_RVi lu_sn) (some (x, m)) pc lv [.int x] ρ 0 0 [] m := by
  intro b hb H locs ls hl hP hD hS
  cases hb
  exact W.zret (v := x) X.hx X.hb hr (by rcases of_decide_eq_true hx with rfl | rfl <;> rfl) (fun t ht hW => ⟨rfl, by rw [ht]; exact lu_P_l hP, hS.F ht⟩) hS.2.2 d X.hlk
theorem lu_zretG (X : lu_X G own cc nL fr lo) (hr : (lu_me G).sig.returnType = some .boolean) {x : Int32} (d : decode cc pc = .ok (.ireturn, 1)) : lu_Ab T G (lu_Q T G ρ lu_RVi lu_sn) (lu_gd (decide (x = 0 ∨ x = 1)) (some (x, m))) pc lv [.int x] ρ 0 0 [] m := lu_gdr (fun g => lu_zret X hr g d)
theorem lu_lret (X : lu_X G own cc nL fr lo) (hr : (lu_me G).sig.returnType = some .long) {x : Int64} (d : decode cc pc = .ok (.lreturn, 1)) : lu_Ab T G (lu_Q T G ρ lu_RVl lu_sn) (some (x, m)) pc lv [.long x] ρ 0 0 [] m := by
  intro b hb H locs ls hl hP hD hS
  cases hb
  exact W.lret (v := x) X.hx X.hb hr (fun t ht hW => ⟨rfl, by rw [ht]; exact lu_P_l hP, hS.F ht⟩) hS.2.2 d X.hlk
theorem lu_aret (X : lu_X G own cc nL fr lo) {C : String} (hr : (lu_me G).sig.returnType = some (.object C)) {r : Nat} (d : decode cc pc = .ok (.areturn, 1)) : lu_Ab T G (lu_Q T G ρ lu_RVr lu_sn) (some (r, m)) pc lv [.ref (ρ r)] ρ 0 0 [] m := by
  intro b hb H locs ls hl hP hD hS
  cases hb
  exact W.aret (v := .ref (ρ r)) X.hx X.hb hr (Or.inl ⟨_, rfl⟩) (Or.inr ⟨_, rfl⟩) (fun t ht hW => ⟨rfl, by rw [ht]; exact lu_P_l hP, hS.F ht⟩) hS.2.2 d X.hlk
theorem lu_vret (X : lu_X G own cc nL fr lo) (hr : (lu_me G).sig.returnType = none) (d : decode cc pc = .ok (.return_, 1)) : lu_Ab T G (lu_Q T G ρ lu_RVv lu_id) (some m) pc lv [] ρ 0 0 [] m := by
  intro b hb H locs ls hl hP hD hS
  cases hb
  exact W.vret X.hx X.hb hr (fun t ht hW => ⟨rfl, by rw [ht]; exact lu_P_l hP, hS.F ht⟩) hS.2.2 d X.hlk
theorem lu_free (X : lu_X G own cc nL fr lo) {H : Heap} {locs : List Loc} (hD : va_D (lu_A G) (lu_W T (lu_cs G) ρ m ++ ex)) (hS : va_S (lu_A G) (lu_s G).heap H locs) : ∀ q, va_A (lu_W T (lu_cs G) ρ m) H.size q → lu_A G q := by
  intro q h
  rcases h with ⟨k, e, h⟩ | h
  · exact (lu_D_l hD).2 k (q, e) h
  · exact X.hA q (Nat.le_trans hS.1 h)
theorem lu_pre (X : lu_X G own cc nL fr lo) {H : Heap} {locs : List Loc} (hP : va_P (lu_D G) lu_cl (lu_W T (lu_cs G) ρ m ++ ex) H) (hD : va_D (lu_A G) (lu_W T (lu_cs G) ρ m ++ ex)) (hS : va_S (lu_A G) (lu_s G).heap H locs) (U : State) (hU : U.heap = H) (hW : (lu_s G).WarmedH U.vm) : lu_Pre T (lu_D G) (lu_cs G) ρ m (lu_sa G) H.size U := by
  refine ⟨by rw [hU], by rw [hU]; exact lu_P_l hP, va_K.moved hW.alike X.hK, (lu_D_l hD).weaken (fun _ _ _ _ => trivial), ?_, lu_N.warm hW X.hN⟩
  rw [hU]
  exact lu_Sx.moved hW.alike ((X.hSx.kept hS.2.1).narrow (lu_free X hD hS))
theorem lu_blind (D : va_G) (cs : Nat → ClassId) (sa : Nat → Nat) (sz : Nat) (av : List Value) : FrameBlind (va_Pc av (lu_Pre T D cs ρ m sa sz)) := fun a U g mk q => by
  obtain ⟨q0, q1, qP, qK, qD, qS, qN⟩ := q
  exact ⟨q0, q1, qP, va_K.moved (u := U) (U := U.calling g mk a) (Vm.Alike.refl U.vm) qK, qD, lu_Sx.moved (u := U) (U := U.calling g mk a) (Vm.Alike.refl U.vm) qS, lu_N.same (u := U) (U := U.calling g mk a) rfl qN⟩
/-- behind a call -/
theorem lu_back (X : lu_X G own cc nL fr lo) {m' : lu_M} {rv : Option Value} {rest st0 : List Value} {a : Array Value} {H : Heap} {locs : List Loc} {ls : Array Slot} {Q0 : State → Prop} (hP : va_P (lu_D G) lu_cl (lu_W T (lu_cs G) ρ m ++ ex) H) (hD : va_D (lu_A G) (lu_W T (lu_cs G) ρ m ++ ex)) (hS : va_S (lu_A G) (lu_s G).heap H locs)
    (hr : va_Run (lu_p G) (lu_l G) (lu_e G) (lu_R G) (lu_s G) (lu_m G) (lu_a G) (lu_b G) (lu_me G) (lu_c G) H locs k n 0 0 (F0 (lu_m G) pc ls st0) rest (lu_Post T (lu_D G) (lu_cs G) ρ (va_A (lu_W T (lu_cs G) ρ m) H.size) m' rv a) (va_A (lu_W T (lu_cs G) ρ m) H.size))
    (kk : ∀ (H1 : Heap) (locs1 : List Loc), va_P (lu_D G) lu_cl (lu_W T (lu_cs G) ρ m' ++ ex) H1 → va_D (lu_A G) (lu_W T (lu_cs G) ρ m' ++ ex) → va_S (lu_A G) (lu_s G).heap H1 locs1 → W (lu_p G) (lu_l G) (lu_e G) (lu_R G) (lu_s G) (lu_m G) (lu_a G) (lu_b G) (lu_me G) (lu_c G) H1 locs1 k n Q0 (F0 (lu_m G) (pc + 3) ls (rv.toList ++ rest))) : W (lu_p G) (lu_l G) (lu_e G) (lu_R G) (lu_s G) (lu_m G) (lu_a G) (lu_b G) (lu_me G) (lu_c G) H locs k n Q0 (F0 (lu_m G) pc ls st0) := by
  intro T0 hT X0
  obtain ⟨v, st₀, t, T', L, h0, X', hL, e1, e2, ⟨hv, hp, hz, hk⟩, st⟩ := hr T0 hT X0
  cases hv
  rw [h0] at hz hk
  have hF := lu_free X hD hS
  have hP1 : va_P (lu_D G) lu_cl (lu_W T (lu_cs G) ρ m' ++ ex) T'.heap := by
    rw [e1]
    refine va_P.app hp (fun j q hq => ?_)
    have hj : (lu_W T (lu_cs G) ρ m ++ ex)[(lu_W T (lu_cs G) ρ m).length + j]? = some q := by
      rw [List.getElem?_append_right (Nat.le_add_right _ _), Nat.add_sub_cancel_left]; exact hq
    have hlt := (hP _ q hj).lt
    refine (hP _ q hj).kept (hk q.1 hlt (fun hA => ?_))
    rcases hA with ⟨i, e, hi⟩ | hA
    · have hi2 : (lu_W T (lu_cs G) ρ m ++ ex)[i]? = some (q.1, e) := by
        rw [List.getElem?_append_left ((List.getElem?_eq_some_iff.mp hi).1)]; exact hi
      have := hD.1 _ _ _ _ hi2 hj rfl
      have h9 := (List.getElem?_eq_some_iff.mp hi).1
      omega
    · omega
  have hS1 : va_S (lu_A G) (lu_s G).heap T'.heap (locs ++ L) := by
    refine ⟨Nat.le_trans hS.1 (by rw [e1]; exact hz), fun q h1 h2 => by rw [e1, hk q (Nat.lt_of_lt_of_le h1 hS.1) (fun z => h2 (hF q z))]; exact hS.2.1 q h1 h2, fun q hq => ?_⟩
    rcases List.mem_append.mp hq with h | h
    · exact hS.2.2 q h
    · exact hF _ (hL q h)
  obtain ⟨t2, a1, b1⟩ := kk T'.heap (locs ++ L) hP1 (lu_dom hD (lu_W_fst T (lu_cs G) ρ m m' ex)) hS1 T' rfl X'
  exact ⟨t2, st t2 a1, b1⟩
/-- what a call asks of the tables -/
def lu_MV (C : String) (y : MethodName) (cy : ByteArray) (nLy : Nat) (ry : Option FieldType) (na : Nat) : Prop := Cond.code y cy nLy ry ∈ lu_ws ∧ Cond.instanceMethod y ∈ lu_ws ∧ Cond.selects C y y ∈ lu_ws ∧ Cond.initialized C ∈ lu_ws ∧ (y.cls = C ∧ y.cls ≠ "java/lang/invoke/MethodHandle" ∧ y.cls ≠ "java/lang/invoke/VarHandle" ∧ (parseMethodDescriptor y.desc).map (fun d => d.parameters.length) = some na)
def lu_MS (y : MethodName) (cy : ByteArray) (nLy : Nat) (ry : Option FieldType) (na : Nat) : Prop := Cond.code y cy nLy ry ∈ lu_ws ∧ Cond.static y ∈ lu_ws ∧ Cond.initialized y.cls ∈ lu_ws ∧ (y.cls ≠ "java/lang/invoke/MethodHandle" ∧ y.cls ≠ "java/lang/invoke/VarHandle" ∧ (parseMethodDescriptor y.desc).map (fun d => d.parameters.length) = some na)
def lu_MU (own : String) (y : MethodName) (cy : ByteArray) (nLy : Nat) (ry : Option FieldType) (na : Nat) : Prop := Cond.code y cy nLy ry ∈ lu_ws ∧ Cond.sameMethod y.cls y.cls y.name y.desc ∈ lu_ws ∧ Cond.superclass own y.cls ∈ lu_ws ∧ Cond.instanceMethod y ∈ lu_ws ∧ Cond.initialized y.cls ∈ lu_ws ∧ (y.name ≠ "<init>" ∧ (parseMethodDescriptor y.desc).map (fun d => d.parameters.length) = some na)
theorem lu_gi {ws : List Cond} (h : ∀ w ∈ ws, w ∈ lu_ws) : GoodIn lu_ws ws := fun w hw => ⟨h w hw, lu_gw (h w hw)⟩
theorem lu_invV (X : lu_X G own cc nL fr lo) {γ : Type} {index : Nat} {y : MethodName} {cy : ByteArray} {nLy : Nat} {ry : Option FieldType} {fry loy na : Nat} {avs : (Nat → Nat) → (Nat → Nat) → List Value} {f : lu_M → Option γ} {RV : (Nat → Nat) → γ → Option Value} {MM : γ → lu_M} {ov : Option γ} {Kf : γ → Option β} {As rest : List Value} {C : String} {r t : Nat} {x : Nat × Nat} (hM : lu_C T (lu_l G) y cy nLy ry fry loy avs f RV MM) (hf : f m = ov) (ml : Cond.methodLink own index y ∈ lu_ws) (mv : lu_MV C y cy nLy ry na) (hT : T.2 r = (t, x)) (hr : r < T.1) (h3 : 3 < t) (hcl : ∃ q, lu_cl[lu_ci t (m r 0)]? = some q ∧ q.1 = C) (hav : avs ρ (lu_sa G) = .ref (ρ r) :: As) (hn : As.length = na) (hroom : (rest.map fun v => v.category).sum ≤ 8) (hfr : fry + 1 ≤ fr) (hlo : 8 + (nLy + 11) + loy ≤ lo) (hk : k ≤ (lu_R G).cells ∧ n ≤ (lu_R G).slots) (d : decode cc pc = .ok (.invokevirtual index, 3)) (hp : pc + 3 = pc2) (hst : st = As.reverse ++ .ref (ρ r) :: rest) (kk : ∀ b : γ, lu_Ab T G Q (Kf b) pc2 lv ((RV ρ b).toList ++ rest) ρ k n ex (MM b)) : lu_Ab T G Q (ov.bind Kf) pc lv st ρ k n ex m := by
  subst hp
  subst hst
  intro b hb H locs ls hl hP hD hS
  subst hf
  cases hfm : f m with
  | none => rw [hfm] at hb; cases hb
  | some c =>
    rw [hfm] at hb
    have he := lu_W_at2 (T := T) (cs := lu_cs G) (ρ := ρ) (m := m) (ex := ex) hr
    rw [lu_cell_obj hT h3] at he
    obtain ⟨q, hc, hqC⟩ := hcl
    have hrecv := va_recv X.hK hP hc he
    rw [hqC] at hrecv
    obtain ⟨m1, m2, m3, m4, m5⟩ := mv
    have hMc := hM (lu_D G) (lu_cs G) ρ m (lu_sa G) H.size c hfm
    rw [hav] at hMc
    have hrun := va_runV (e := lu_e G) (below := lu_b G) (meth := lu_me G) (locs := locs) (rest := rest) (As := As) (g := F0 (lu_m G) pc ls (As.reverse ++ .ref (ρ r) :: rest)) ⟨X.hx, X.hb, X.hml, X.hown, X.hts⟩ hMc (cwV na X.hts (lu_gi (fun w hw => by
      simp only [wsV, List.cons_append, List.nil_append, List.mem_cons] at hw
      rcases hw with rfl | rfl | rfl | rfl | rfl | hw <;> assumption)) rfl rfl rfl m5 ⟨Nat.le_trans hfr X.hfr, Nat.le_trans hlo X.hlo⟩) ⟨lu_blind _ _ _ _ _, hrecv, fun U hU hW => ⟨rfl, lu_pre X hP hD hS U hU hW⟩⟩ rfl hn hl.1 rfl (lv_room hroom) d hk
    exact lu_back X hP hD hS hrun (fun H1 locs1 hP hD hS => kk c b hb H1 locs1 ls hl hP hD hS)
theorem lu_invS (X : lu_X G own cc nL fr lo) {γ : Type} {index : Nat} {y : MethodName} {cy : ByteArray} {nLy : Nat} {ry : Option FieldType} {fry loy na : Nat} {avs : (Nat → Nat) → (Nat → Nat) → List Value} {f : lu_M → Option γ} {RV : (Nat → Nat) → γ → Option Value} {MM : γ → lu_M} {ov : Option γ} {Kf : γ → Option β} {As rest : List Value} (hM : lu_C T (lu_l G) y cy nLy ry fry loy avs f RV MM) (hf : f m = ov) (ml : Cond.methodLink own index y ∈ lu_ws) (mv : lu_MS y cy nLy ry na) (hav : avs ρ (lu_sa G) = As) (hn : As.length = na) (hroom : (rest.map fun v => v.category).sum ≤ 8) (hfr : fry + 1 ≤ fr) (hlo : 8 + (nLy + 11) + loy ≤ lo) (hk : k ≤ (lu_R G).cells ∧ n ≤ (lu_R G).slots) (d : decode cc pc = .ok (.invokestatic index, 3)) (hp : pc + 3 = pc2) (hst : st = As.reverse ++ rest) (kk : ∀ b : γ, lu_Ab T G Q (Kf b) pc2 lv ((RV ρ b).toList ++ rest) ρ k n ex (MM b)) : lu_Ab T G Q (ov.bind Kf) pc lv st ρ k n ex m := by
  subst hp
  subst hst
  intro b hb H locs ls hl hP hD hS
  subst hf
  cases hfm : f m with
  | none => rw [hfm] at hb; cases hb
  | some c =>
    rw [hfm] at hb
    obtain ⟨m1, m2, m3, m5⟩ := mv
    have hMc := hM (lu_D G) (lu_cs G) ρ m (lu_sa G) H.size c hfm
    rw [hav] at hMc
    have hrun := va_runS (e := lu_e G) (below := lu_b G) (meth := lu_me G) (locs := locs) (rest := rest) (As := As) (g := F0 (lu_m G) pc ls (As.reverse ++ rest)) ⟨X.hx, X.hb, X.hml, X.hown, X.hts⟩ hMc (va_cwS na X.hts (lu_gi (fun w hw => by
      simp only [va_wsS, List.cons_append, List.nil_append, List.mem_cons] at hw
      rcases hw with rfl | rfl | rfl | rfl | hw <;> assumption)) rfl rfl rfl m5 ⟨Nat.le_trans hfr X.hfr, Nat.le_trans hlo X.hlo⟩) ⟨lu_blind _ _ _ _ _, fun U hU hW => ⟨rfl, lu_pre X hP hD hS U hU hW⟩⟩ rfl hn hl.1 rfl (lv_room hroom) d hk
    exact lu_back X hP hD hS hrun (fun H1 locs1 hP hD hS => kk c b hb H1 locs1 ls hl hP hD hS)
theorem lu_invN (X : lu_X G own cc nL fr lo) {γ : Type} {index : Nat} {y : MethodName} {cy : ByteArray} {nLy : Nat} {ry : Option FieldType} {fry loy na : Nat} {avs : (Nat → Nat) → (Nat → Nat) → List Value} {f : lu_M → Option γ} {RV : (Nat → Nat) → γ → Option Value} {MM : γ → lu_M} {ov : Option γ} {Kf : γ → Option β} {As rest : List Value} (hM : lu_C T (lu_l G) y cy nLy ry fry loy avs f RV MM) (hf : f m = ov) (ml : (own, index, y) ∈ lu_nest) (mv : lu_MS y cy nLy ry na) (hav : avs ρ (lu_sa G) = As) (hn : As.length = na) (hroom : (rest.map fun v => v.category).sum ≤ 8) (hfr : fry + 1 ≤ fr) (hlo : 8 + (nLy + 11) + loy ≤ lo) (hk : k ≤ (lu_R G).cells ∧ n ≤ (lu_R G).slots) (d : decode cc pc = .ok (.invokestatic index, 3)) (hp : pc + 3 = pc2) (hst : st = As.reverse ++ rest) (kk : ∀ b : γ, lu_Ab T G Q (Kf b) pc2 lv ((RV ρ b).toList ++ rest) ρ k n ex (MM b)) : lu_Ab T G Q (ov.bind Kf) pc lv st ρ k n ex m := by
  subst hp
  subst hst
  intro b hb H locs ls hl hP hD hS
  subst hf
  cases hfm : f m with
  | none => rw [hfm] at hb; cases hb
  | some c =>
    rw [hfm] at hb
    obtain ⟨m1, m2, m3, m5⟩ := mv
    have hMc := hM (lu_D G) (lu_cs G) ρ m (lu_sa G) H.size c hfm
    rw [hav] at hMc
    have hrun := va_runSN (e := lu_e G) (below := lu_b G) (meth := lu_me G) (locs := locs) (rest := rest) (As := As) (g := F0 (lu_m G) pc ls (As.reverse ++ rest)) ⟨X.hx, X.hb, X.hml, X.hown, X.hts⟩ hMc ⟨va_cnB (host := RX11) na X.hts (lu_gi (fun w hw => by
      simp only [List.mem_cons] at hw
      rcases hw with rfl | hw <;> assumption)) rfl rfl rfl (X.hN.1 _ ml) (X.hts _ m3) m5 ⟨Nat.le_trans hfr X.hfr, Nat.le_trans hlo X.hlo⟩, X.hts _ m2, trivial⟩ ⟨lu_blind _ _ _ _ _, fun U hU hW => ⟨rfl, lu_pre X hP hD hS U hU hW⟩⟩ rfl hn hl.1 rfl (lv_room hroom) d hk
    exact lu_back X hP hD hS hrun (fun H1 locs1 hP hD hS => kk c b hb H1 locs1 ls hl hP hD hS)
theorem lu_invU (X : lu_X G own cc nL fr lo) {γ : Type} {index : Nat} {y : MethodName} {cy : ByteArray} {nLy : Nat} {ry : Option FieldType} {fry loy na : Nat} {avs : (Nat → Nat) → (Nat → Nat) → List Value} {f : lu_M → Option γ} {RV : (Nat → Nat) → γ → Option Value} {MM : γ → lu_M} {ov : Option γ} {Kf : γ → Option β} {As rest : List Value} {r t : Nat} {x : Nat × Nat} (hM : lu_C T (lu_l G) y cy nLy ry fry loy avs f RV MM) (hf : f m = ov) (ml : Cond.methodLink own index y ∈ lu_ws) (mv : lu_MU own y cy nLy ry na) (hT : T.2 r = (t, x)) (hr : r < T.1) (h3 : 3 < t) (h12 : t < 12) (hav : avs ρ (lu_sa G) = .ref (ρ r) :: As) (hn : As.length = na) (hroom : (rest.map fun v => v.category).sum ≤ 8) (hfr : fry + 1 ≤ fr) (hlo : 8 + (nLy + 11) + loy ≤ lo) (hk : k ≤ (lu_R G).cells ∧ n ≤ (lu_R G).slots) (d : decode cc pc = .ok (.invokespecial index, 3)) (hp : pc + 3 = pc2) (hst : st = As.reverse ++ .ref (ρ r) :: rest) (kk : ∀ b : γ, lu_Ab T G Q (Kf b) pc2 lv ((RV ρ b).toList ++ rest) ρ k n ex (MM b)) : lu_Ab T G Q (ov.bind Kf) pc lv st ρ k n ex m := by
  subst hp
  subst hst
  intro b hb H locs ls hl hP hD hS
  subst hf
  cases hfm : f m with
  | none => rw [hfm] at hb; cases hb
  | some c =>
    rw [hfm] at hb
    have he := lu_W_at2 (T := T) (cs := lu_cs G) (ρ := ρ) (m := m) (ex := ex) hr
    rw [lu_cell_obj hT h3] at he
    obtain ⟨q, hc, -⟩ := lu_cls (m r 0) h3 h12
    have hrecv := va_recv X.hK hP hc he
    have hat : ClassAt (lu_s G) q.1 ((lu_D G).1 (lu_ci t (m r 0))) := (X.hK.1 _ _ hc).2
    obtain ⟨m1, m2, m3, m4, m6, m5⟩ := mv
    have hMc := hM (lu_D G) (lu_cs G) ρ m (lu_sa G) H.size c hfm
    rw [hav] at hMc
    have hrun := va_runSU (e := lu_e G) (below := lu_b G) (meth := lu_me G) (locs := locs) (rest := rest) (As := As) (g := F0 (lu_m G) pc ls (As.reverse ++ .ref (ρ r) :: rest)) hat ⟨X.hx, X.hb, X.hml, X.hown, X.hts⟩ hMc (va_cwSU na X.hts (lu_gi (fun w hw => by
      simp only [va_wsSU, List.cons_append, List.nil_append, List.mem_cons] at hw
      rcases hw with rfl | rfl | rfl | rfl | rfl | rfl | hw <;> assumption)) rfl rfl rfl m5 ⟨Nat.le_trans hfr X.hfr, Nat.le_trans hlo X.hlo⟩) ⟨lu_blind _ _ _ _ _, hrecv, fun U hU hW => ⟨rfl, lu_pre X hP hD hS U hU hW⟩⟩ rfl hn hl.1 rfl (lv_room hroom) d hk
    exact lu_back X hP hD hS hrun (fun H1 locs1 hP hD hS => kk c b hb H1 locs1 ls hl hP hD hS)
def lu_MP (own : String) (z y : MethodName) (cy : ByteArray) (nLy : Nat) (ry : Option FieldType) (na : Nat) : Prop := Cond.code y cy nLy ry ∈ lu_ws ∧ Cond.sameMethod z.cls y.cls z.name z.desc ∈ lu_ws ∧ Cond.superclass own z.cls ∈ lu_ws ∧ Cond.superclass z.cls y.cls ∈ lu_ws ∧ Cond.instanceMethod y ∈ lu_ws ∧ Cond.initialized y.cls ∈ lu_ws ∧ y.name = z.name ∧ y.desc = z.desc ∧ (z.name ≠ "<init>" ∧ (parseMethodDescriptor z.desc).map (fun d => d.parameters.length) = some na)
theorem lu_sup2 {args : Array Value} {s : State} {a b : String} {x y : ClassId} (h : (Cond.superclass a b).before args s = true) (hx : s.vm.findClass a = some x) (hy : s.vm.findClass b = some y) : s.vm.isSubclass x y = true := by
  obtain ⟨p1, k, kp, h1, h2, h3, h4, -⟩ := Cond.superclass_spec hx h
  cases h1.symm.trans hy
  obtain ⟨hsz, -⟩ := Array.getElem?_eq_some_iff.mp h2
  have h0 : s.vm.classes.size ≠ 0 := by omega
  obtain ⟨n, hn⟩ := Nat.exists_eq_succ_of_ne_zero h0
  simp [Vm.isSubclass, Vm.isSubclassAux, hn, h2, h4]
theorem lu_callP {T9 : State} {locs : List Loc} (X0 : Stand (lu_p G) (lu_l G) (lu_e G) (lu_R G) (lu_s G) (lu_m G) (lu_a G) (lu_b G) (lu_me G) (lu_c G) T9 locs k n) (hexec : (lu_p G).tables.exec = Jvm.exec) {own : String} {index : Nat} {z y : MethodName} {bytes : ByteArray} {maxL : Nat} {ret : Option FieldType}
    (hown : (lu_s G).vm.findClass own = some (lu_m G).cls) (hlink : (Cond.methodLink own index z).before (lu_a G) (lu_s G) = true) (hsame : (Cond.sameMethod z.cls y.cls z.name z.desc).before (lu_a G) (lu_s G) = true) (hsup : (Cond.superclass own z.cls).before (lu_a G) (lu_s G) = true) (hsup2 : (Cond.superclass z.cls y.cls).before (lu_a G) (lu_s G) = true)
    (hinst : (Cond.instanceMethod y).before (lu_a G) (lu_s G) = true) (hcode : (Cond.code y bytes maxL ret).before (lu_a G) (lu_s G) = true) (hyn : y.name = z.name) (hyd : y.desc = z.desc) (hno : z.name ≠ "<init>")
    {W9 : Nat} {Pre : Pt → Array Value → Prop} {Post : Pt → Array Value → Option Value → Pt → Prop} (hK : Back (lu_l G) (lu_R G) (lu_p G) (lu_e G) (lu_b G) (lu_s G) (lu_a G) y 3 W9 Pre Post)
    {b : Addr} {cellB : Cell} {kB : Class} (hcell : T9.heap[b]? = some cellB) (hobj : cellB.vm.isStatics = false) (hkB : (lu_s G).vm.classes[cellB.cls]? = some kB)
    {g : JFrame} (hg : g.method = lu_m G) (hsize : g.locals.size = (lu_c G).maxLocals) {argsL rest : List Value} (hlen : ∀ sig, parseMethodDescriptor y.desc = some sig → argsL.length = sig.parameters.length)
    (hstack : g.stack = argsL.reverse ++ .ref b :: rest) (hW : 2 * g.monitorRoom + (rest.map fun v => v.category).sum ≤ W9) (hdg : decode (lu_c G).code g.pc = .ok (.invokespecial index, 3))
    (hpre : ∀ vm₁, (lu_s G).WarmedH vm₁ → Pre ⟨T9.setVm vm₁, locs, k, n⟩ (Value.ref b :: argsL).toArray) :
    ∃ (v : Option Value) (vm₁ : Vm) (B : Pt), (lu_s G).WarmedH vm₁ ∧ Stand (lu_p G) (lu_l G) (lu_e G) (lu_R G) (lu_s G) (lu_m G) (lu_a G) (lu_b G) (lu_me G) (lu_c G) B.U B.locs B.cells B.slots ∧ Post ⟨T9.setVm vm₁, locs, k, n⟩ (Value.ref b :: argsL).toArray v B ∧
      ∀ target, Steps (lu_p G).tables (lu_e G) (lu_b G) (B.U.setTop { g with pc := g.pc + 3, stack := v.toList ++ rest }) target → Steps (lu_p G).tables (lu_e G) (lu_b G) (T9.setTop g) target := by
  obtain ⟨mk, methM, hnamed, hmethM, hstM, habM⟩ := Cond.instanceMethod_spec hinst
  obtain ⟨methM', cM, hmethM', -, -, -, -, -, -, hsigM⟩ := Cond.code_spec hnamed hcode
  cases hmethM.symm.trans hmethM'
  obtain ⟨ps, dk, kp, hps, hdk, hkp, hsuper, -, -, hnid⟩ := Cond.superclass_spec hown hsup
  have hn : (lu_s G).methodNamed? ⟨y.cls, z.name, z.desc⟩ = some mk := by rw [← hyn, ← hyd]; exact hnamed
  have hsub : (lu_s G).vm.isSubclass ps mk.cls = true := lu_sup2 hsup2 hps (findClass_of_methodNamed hnamed)
  obtain ⟨vm₁, X₁, hstep₁⟩ := X0.invokespecialUp hexec hown hlink hsame hn hmethM hstM habM hno hdk hnid hps hsuper hsub (a := b) (cell := cellB) hcell
    (fun z h => by rw [h] at hobj; cases hobj) hkB (g := g) hg (argsL := argsL) (rest := rest) (hlen _ hsigM) hstack hdg
  obtain ⟨v, B, X', hpost, hsteps⟩ := hK (lu_m G) (lu_me G) (lu_c G) ⟨T9.setVm vm₁, locs, k, n⟩ { g with stack := rest } (.invokespecial index) mk (Value.ref b :: argsL).toArray X₁ hg hsize hdg hW (X₁.named hnamed) (hpre vm₁ X₁.warmed)
  exact ⟨v, vm₁, B, X₁.warmed, X', hpost, fun target h => hstep₁ _ (by rw [doInvoke_state]; exact hsteps.trans h)⟩
theorem lu_invP (X : lu_X G own cc nL fr lo) {γ : Type} {index : Nat} {y : MethodName} {cy : ByteArray} {nLy : Nat} {ry : Option FieldType} {fry loy na : Nat} {avs : (Nat → Nat) → (Nat → Nat) → List Value} {f : lu_M → Option γ} {RV : (Nat → Nat) → γ → Option Value} {MM : γ → lu_M} {ov : Option γ} {Kf : γ → Option β} {As rest : List Value} {z : MethodName} {r t : Nat} {x : Nat × Nat} (hM : lu_C T (lu_l G) y cy nLy ry fry loy avs f RV MM) (hf : f m = ov) (ml : Cond.methodLink own index z ∈ lu_ws) (mv : lu_MP own z y cy nLy ry na) (hT : T.2 r = (t, x)) (hr : r < T.1) (h3 : 3 < t) (h12 : t < 12) (hav : avs ρ (lu_sa G) = .ref (ρ r) :: As) (hn : As.length = na) (hroom : (rest.map fun v => v.category).sum ≤ 8) (hfr : fry + 1 ≤ fr) (hlo : 8 + (nLy + 11) + loy ≤ lo) (hk : k ≤ (lu_R G).cells ∧ n ≤ (lu_R G).slots) (d : decode cc pc = .ok (.invokespecial index, 3)) (hp : pc + 3 = pc2) (hst : st = As.reverse ++ .ref (ρ r) :: rest) (kk : ∀ b : γ, lu_Ab T G Q (Kf b) pc2 lv ((RV ρ b).toList ++ rest) ρ k n ex (MM b)) : lu_Ab T G Q (ov.bind Kf) pc lv st ρ k n ex m := by
  subst hp
  subst hst
  intro b hb H locs ls hl hP hD hS
  subst hf
  cases hfm : f m with
  | none => rw [hfm] at hb; cases hb
  | some c =>
    rw [hfm] at hb
    have he := lu_W_at2 (T := T) (cs := lu_cs G) (ρ := ρ) (m := m) (ex := ex) hr
    rw [lu_cell_obj hT h3] at he
    obtain ⟨q, hc, -⟩ := lu_cls (m r 0) h3 h12
    obtain ⟨cellB, hcB, hoB, hclB⟩ := va_recv X.hK hP hc he
    obtain ⟨hfc, kB, hkB, -⟩ := (X.hK.1 _ _ hc).2
    rw [Option.some.inj (hfc.symm.trans hclB)] at hkB
    obtain ⟨m1, m2, m3, m4, m6, m7, m8, m9, m5⟩ := mv
    have hMc := hM (lu_D G) (lu_cs G) ρ m (lu_sa G) H.size c hfm
    rw [hav] at hMc
    have hlen9 : ∀ sig, parseMethodDescriptor y.desc = some sig → As.length = sig.parameters.length := fun sig h => by
      have h2 := m5.2
      rw [← m9, h] at h2
      exact hn.trans (Option.some.inj h2).symm
    have hGI : GoodIn lu_ws (Cond.code y cy nLy ry :: lu_ws) := lu_gi (fun w hw => by
      simp only [List.mem_cons] at hw
      rcases hw with rfl | hw <;> assumption)
    have hK9 : Back (lu_l G) (lu_R G) (lu_p G) (lu_e G) (lu_b G) (lu_s G) (lu_a G) y 3 8 (PreOf (lu_R G) 0 0 (va_Pc (Value.ref (ρ r) :: As) (lu_Pre T (lu_D G) (lu_cs G) ρ m (lu_sa G) H.size))) (PostOf _ 0 0 _) := back_of (bytes := cy) (maxL := nLy) (ret := ry) hMc (lu_blind _ _ _ _ _) rfl rfl (Nat.le_trans hfr X.hfr) (Nat.le_trans hlo X.hlo) (pay_in X.hts hGI) List.mem_cons_self (fun a' U hW => word_at hW (Or.inl (by first | rfl | simp [Cond.onTables, Cond.keeps, Cond.steady])) (X.hts _ m7))
    have hrun : va_Run (lu_p G) (lu_l G) (lu_e G) (lu_R G) (lu_s G) (lu_m G) (lu_a G) (lu_b G) (lu_me G) (lu_c G) H locs k n 0 0 (F0 (lu_m G) pc ls (As.reverse ++ .ref (ρ r) :: rest)) rest (lu_Post T (lu_D G) (lu_cs G) ρ (va_A (lu_W T (lu_cs G) ρ m) H.size) (MM c) (RV ρ c) (Value.ref (ρ r) :: As).toArray) (va_A (lu_W T (lu_cs G) ρ m) H.size) := by
      intro T9 hT9 X9
      obtain ⟨v, vm₁, ⟨U', l2, c2, s2⟩, hW₁, X', ⟨g', mk, t9, L, e1, e2, hq, h1, hL, h2, h3⟩, st⟩ := lu_callP X9 X.hx (bytes := cy) (maxL := nLy) (ret := ry) X.hown (X.hts _ ml) (X.hts _ m2) (X.hts _ m3) (X.hts _ m4) (X.hts _ m6) (X.hts _ m1) m8 m9 m5.1 hK9 (b := ρ r) (by rw [hT9]; exact hcB) hoB hkB (g := F0 (lu_m G) pc ls (As.reverse ++ .ref (ρ r) :: rest)) rfl (hl.1.trans X.hml.symm) (argsL := As) (rest := rest) hlen9 rfl (lv_room hroom) (by rw [X.hb]; exact d)
        (fun vm₁ hW₁ => ⟨hk.1, hk.2, rfl, lu_pre X hP hD hS (T9.setVm vm₁) hT9 hW₁⟩)
      dsimp only [Pt.U, Pt.locs, Pt.cells, Pt.slots] at X' e1 e2 h1 h2 h3 st
      subst h1; subst h2; subst h3
      exact ⟨v, (T9.setVm vm₁).calling g' mk (Value.ref (ρ r) :: As).toArray, t9, U', L, hT9, X', hL, e1, e2, hq, st⟩
    exact lu_back X hP hD hS hrun (fun H1 locs1 hP hD hS => kk c b hb H1 locs1 ls hl hP hD hS)
def lu_MO (C : String) (x y : MethodName) (cy : ByteArray) (nLy : Nat) (ry : Option FieldType) (na : Nat) : Prop := Cond.code y cy nLy ry ∈ lu_ws ∧ Cond.sameMethod x.cls RX3 x.name x.desc ∈ lu_ws ∧ Cond.instanceMethod ⟨RX3, x.name, x.desc⟩ ∈ lu_ws ∧ Cond.selects C x y ∈ lu_ws ∧ Cond.instanceMethod y ∈ lu_ws ∧ Cond.initialized y.cls ∈ lu_ws ∧ (∃ b0 m0 r0, Cond.code ⟨RX3, x.name, x.desc⟩ b0 m0 r0 ∈ lu_ws) ∧ (parseMethodDescriptor x.desc).map (fun d => d.parameters.length) = some na
theorem lu_invO (X : lu_X G own cc nL fr lo) {γ : Type} {index : Nat} {y : MethodName} {cy : ByteArray} {nLy : Nat} {ry : Option FieldType} {fry loy na : Nat} {avs : (Nat → Nat) → (Nat → Nat) → List Value} {f : lu_M → Option γ} {RV : (Nat → Nat) → γ → Option Value} {MM : γ → lu_M} {ov : Option γ} {Kf : γ → Option β} {As rest : List Value} {C : String} {z : MethodName} {r t : Nat} {x : Nat × Nat} (hM : lu_C T (lu_l G) y cy nLy ry fry loy avs f RV MM) (hf : f m = ov) (ml : Cond.methodLink own index z ∈ lu_ws) (mv : lu_MO C z y cy nLy ry na) (hT : T.2 r = (t, x)) (hr : r < T.1) (h3 : 3 < t) (hcl : ∃ q, lu_cl[lu_ci t (m r 0)]? = some q ∧ q.1 = C) (hav : avs ρ (lu_sa G) = .ref (ρ r) :: As) (hn : As.length = na) (hroom : (rest.map fun v => v.category).sum ≤ 8) (hfr : fry + 1 ≤ fr) (hlo : 8 + (nLy + 11) + loy ≤ lo) (hk : k ≤ (lu_R G).cells ∧ n ≤ (lu_R G).slots) (d : decode cc pc = .ok (.invokevirtual index, 3)) (hp : pc + 3 = pc2) (hst : st = As.reverse ++ .ref (ρ r) :: rest) (kk : ∀ b : γ, lu_Ab T G Q (Kf b) pc2 lv ((RV ρ b).toList ++ rest) ρ k n ex (MM b)) : lu_Ab T G Q (ov.bind Kf) pc lv st ρ k n ex m := by
  subst hp
  subst hst
  intro b hb H locs ls hl hP hD hS
  subst hf
  cases hfm : f m with
  | none => rw [hfm] at hb; cases hb
  | some c =>
    rw [hfm] at hb
    have he := lu_W_at2 (T := T) (cs := lu_cs G) (ρ := ρ) (m := m) (ex := ex) hr
    rw [lu_cell_obj hT h3] at he
    obtain ⟨q, hc, hqC⟩ := hcl
    have hrecv := va_recv X.hK hP hc he
    rw [hqC] at hrecv
    obtain ⟨m1, m2, m3, m4, m6, m7, ⟨b0, m0, r0, m8⟩, m5⟩ := mv
    have hMc := hM (lu_D G) (lu_cs G) ρ m (lu_sa G) H.size c hfm
    rw [hav] at hMc
    have hrun := va_runU (e := lu_e G) (below := lu_b G) (meth := lu_me G) (locs := locs) (rest := rest) (As := As) (g := F0 (lu_m G) pc ls (As.reverse ++ .ref (ρ r) :: rest)) ⟨X.hx, X.hb, X.hml, X.hown, X.hts⟩ hMc (va_cwO (owner := RX3) na X.hts (lu_gi (fun w hw => by
      simp only [va_wsO, List.cons_append, List.nil_append, List.mem_cons] at hw
      rcases hw with rfl | rfl | rfl | rfl | rfl | rfl | rfl | hw <;> assumption)) rfl rfl rfl m8 ⟨by decide, by decide, m5⟩ ⟨Nat.le_trans hfr X.hfr, Nat.le_trans hlo X.hlo⟩) ⟨lu_blind _ _ _ _ _, hrecv, fun U hU hW => ⟨rfl, lu_pre X hP hD hS U hU hW⟩⟩ rfl hn hl.1 rfl (lv_room hroom) d hk
    exact lu_back X hP hD hS hrun (fun H1 locs1 hP hD hS => kk c b hb H1 locs1 ls hl hP hD hS)
theorem lu_invVi (X : lu_X G own cc nL fr lo) {index : Nat} {y : MethodName} {cy : ByteArray} {nLy : Nat} {ry : Option FieldType} {fry loy na : Nat} {avs : (Nat → Nat) → (Nat → Nat) → List Value} {f : lu_M → Option (Int32 × lu_M)} {ov : Option (Int32 × lu_M)} {Ko : Int32 → lu_M → Option β} {As rest : List Value} {C : String} {r t : Nat} {x : Nat × Nat} (hM : lu_C T (lu_l G) y cy nLy ry fry loy avs f lu_RVi lu_sn) (hf : f m = ov) (ml : Cond.methodLink own index y ∈ lu_ws) (mv : lu_MV C y cy nLy ry na) (hT : T.2 r = (t, x)) (hr : r < T.1) (h3 : 3 < t) (hcl : ∃ q, lu_cl[lu_ci t (m r 0)]? = some q ∧ q.1 = C) (hav : avs ρ (lu_sa G) = .ref (ρ r) :: As) (hn : As.length = na) (hroom : (rest.map fun v => v.category).sum ≤ 8) (hfr : fry + 1 ≤ fr) (hlo : 8 + (nLy + 11) + loy ≤ lo) (hk : k ≤ (lu_R G).cells ∧ n ≤ (lu_R G).slots) (d : decode cc pc = .ok (.invokevirtual index, 3)) (hp : pc + 3 = pc2) (hst : st = As.reverse ++ .ref (ρ r) :: rest) (kk : ∀ (x : Int32) (m9 : lu_M), lu_Ab T G Q (Ko x m9) pc2 lv (.int x :: rest) ρ k n ex m9) : lu_Ab T G Q (lu_bi ov Ko) pc lv st ρ k n ex m := lu_invV X hM hf ml mv hT hr h3 hcl hav hn hroom hfr hlo hk d hp hst (fun b => kk b.1 b.2)
theorem lu_invVv (X : lu_X G own cc nL fr lo) {index : Nat} {y : MethodName} {cy : ByteArray} {nLy : Nat} {ry : Option FieldType} {fry loy na : Nat} {avs : (Nat → Nat) → (Nat → Nat) → List Value} {f : lu_M → Option (lu_M)} {ov : Option (lu_M)} {Ko : lu_M → Option β} {As rest : List Value} {C : String} {r t : Nat} {x : Nat × Nat} (hM : lu_C T (lu_l G) y cy nLy ry fry loy avs f lu_RVv lu_id) (hf : f m = ov) (ml : Cond.methodLink own index y ∈ lu_ws) (mv : lu_MV C y cy nLy ry na) (hT : T.2 r = (t, x)) (hr : r < T.1) (h3 : 3 < t) (hcl : ∃ q, lu_cl[lu_ci t (m r 0)]? = some q ∧ q.1 = C) (hav : avs ρ (lu_sa G) = .ref (ρ r) :: As) (hn : As.length = na) (hroom : (rest.map fun v => v.category).sum ≤ 8) (hfr : fry + 1 ≤ fr) (hlo : 8 + (nLy + 11) + loy ≤ lo) (hk : k ≤ (lu_R G).cells ∧ n ≤ (lu_R G).slots) (d : decode cc pc = .ok (.invokevirtual index, 3)) (hp : pc + 3 = pc2) (hst : st = As.reverse ++ .ref (ρ r) :: rest) (kk : ∀ (m9 : lu_M), lu_Ab T G Q (Ko m9) pc2 lv rest ρ k n ex m9) : lu_Ab T G Q (lu_bv ov Ko) pc lv st ρ k n ex m := lu_invV X hM hf ml mv hT hr h3 hcl hav hn hroom hfr hlo hk d hp hst (fun b => kk b)
theorem lu_invVl (X : lu_X G own cc nL fr lo) {index : Nat} {y : MethodName} {cy : ByteArray} {nLy : Nat} {ry : Option FieldType} {fry loy na : Nat} {avs : (Nat → Nat) → (Nat → Nat) → List Value} {f : lu_M → Option (Int64 × lu_M)} {ov : Option (Int64 × lu_M)} {Ko : Int64 → lu_M → Option β} {As rest : List Value} {C : String} {r t : Nat} {x : Nat × Nat} (hM : lu_C T (lu_l G) y cy nLy ry fry loy avs f lu_RVl lu_sn) (hf : f m = ov) (ml : Cond.methodLink own index y ∈ lu_ws) (mv : lu_MV C y cy nLy ry na) (hT : T.2 r = (t, x)) (hr : r < T.1) (h3 : 3 < t) (hcl : ∃ q, lu_cl[lu_ci t (m r 0)]? = some q ∧ q.1 = C) (hav : avs ρ (lu_sa G) = .ref (ρ r) :: As) (hn : As.length = na) (hroom : (rest.map fun v => v.category).sum ≤ 8) (hfr : fry + 1 ≤ fr) (hlo : 8 + (nLy + 11) + loy ≤ lo) (hk : k ≤ (lu_R G).cells ∧ n ≤ (lu_R G).slots) (d : decode cc pc = .ok (.invokevirtual index, 3)) (hp : pc + 3 = pc2) (hst : st = As.reverse ++ .ref (ρ r) :: rest) (kk : ∀ (x : Int64) (m9 : lu_M), lu_Ab T G Q (Ko x m9) pc2 lv (.long x :: rest) ρ k n ex m9) : lu_Ab T G Q (lu_bi ov Ko) pc lv st ρ k n ex m := lu_invV X hM hf ml mv hT hr h3 hcl hav hn hroom hfr hlo hk d hp hst (fun b => kk b.1 b.2)
theorem lu_invVr (X : lu_X G own cc nL fr lo) {index : Nat} {y : MethodName} {cy : ByteArray} {nLy : Nat} {ry : Option FieldType} {fry loy na : Nat} {avs : (Nat → Nat) → (Nat → Nat) → List Value} {f : lu_M → Option (Nat × lu_M)} {ov : Option (Nat × lu_M)} {Ko : Nat → lu_M → Option β} {As rest : List Value} {C : String} {r t : Nat} {x : Nat × Nat} (hM : lu_C T (lu_l G) y cy nLy ry fry loy avs f lu_RVr lu_sn) (hf : f m = ov) (ml : Cond.methodLink own index y ∈ lu_ws) (mv : lu_MV C y cy nLy ry na) (hT : T.2 r = (t, x)) (hr : r < T.1) (h3 : 3 < t) (hcl : ∃ q, lu_cl[lu_ci t (m r 0)]? = some q ∧ q.1 = C) (hav : avs ρ (lu_sa G) = .ref (ρ r) :: As) (hn : As.length = na) (hroom : (rest.map fun v => v.category).sum ≤ 8) (hfr : fry + 1 ≤ fr) (hlo : 8 + (nLy + 11) + loy ≤ lo) (hk : k ≤ (lu_R G).cells ∧ n ≤ (lu_R G).slots) (d : decode cc pc = .ok (.invokevirtual index, 3)) (hp : pc + 3 = pc2) (hst : st = As.reverse ++ .ref (ρ r) :: rest) (kk : ∀ (x : Nat) (m9 : lu_M), lu_Ab T G Q (Ko x m9) pc2 lv (.ref (ρ x) :: rest) ρ k n ex m9) : lu_Ab T G Q (lu_bi ov Ko) pc lv st ρ k n ex m := lu_invV X hM hf ml mv hT hr h3 hcl hav hn hroom hfr hlo hk d hp hst (fun b => kk b.1 b.2)
theorem lu_invSi (X : lu_X G own cc nL fr lo) {index : Nat} {y : MethodName} {cy : ByteArray} {nLy : Nat} {ry : Option FieldType} {fry loy na : Nat} {avs : (Nat → Nat) → (Nat → Nat) → List Value} {f : lu_M → Option (Int32 × lu_M)} {ov : Option (Int32 × lu_M)} {Ko : Int32 → lu_M → Option β} {As rest : List Value}  (hM : lu_C T (lu_l G) y cy nLy ry fry loy avs f lu_RVi lu_sn) (hf : f m = ov) (ml : Cond.methodLink own index y ∈ lu_ws) (mv : lu_MS y cy nLy ry na) (hav : avs ρ (lu_sa G) = As) (hn : As.length = na) (hroom : (rest.map fun v => v.category).sum ≤ 8) (hfr : fry + 1 ≤ fr) (hlo : 8 + (nLy + 11) + loy ≤ lo) (hk : k ≤ (lu_R G).cells ∧ n ≤ (lu_R G).slots) (d : decode cc pc = .ok (.invokestatic index, 3)) (hp : pc + 3 = pc2) (hst : st = As.reverse ++ rest) (kk : ∀ (x : Int32) (m9 : lu_M), lu_Ab T G Q (Ko x m9) pc2 lv (.int x :: rest) ρ k n ex m9) : lu_Ab T G Q (lu_bi ov Ko) pc lv st ρ k n ex m := lu_invS X hM hf ml mv hav hn hroom hfr hlo hk d hp hst (fun b => kk b.1 b.2)
theorem lu_invSv (X : lu_X G own cc nL fr lo) {index : Nat} {y : MethodName} {cy : ByteArray} {nLy : Nat} {ry : Option FieldType} {fry loy na : Nat} {avs : (Nat → Nat) → (Nat → Nat) → List Value} {f : lu_M → Option (lu_M)} {ov : Option (lu_M)} {Ko : lu_M → Option β} {As rest : List Value}  (hM : lu_C T (lu_l G) y cy nLy ry fry loy avs f lu_RVv lu_id) (hf : f m = ov) (ml : Cond.methodLink own index y ∈ lu_ws) (mv : lu_MS y cy nLy ry na) (hav : avs ρ (lu_sa G) = As) (hn : As.length = na) (hroom : (rest.map fun v => v.category).sum ≤ 8) (hfr : fry + 1 ≤ fr) (hlo : 8 + (nLy + 11) + loy ≤ lo) (hk : k ≤ (lu_R G).cells ∧ n ≤ (lu_R G).slots) (d : decode cc pc = .ok (.invokestatic index, 3)) (hp : pc + 3 = pc2) (hst : st = As.reverse ++ rest) (kk : ∀ (m9 : lu_M), lu_Ab T G Q (Ko m9) pc2 lv rest ρ k n ex m9) : lu_Ab T G Q (lu_bv ov Ko) pc lv st ρ k n ex m := lu_invS X hM hf ml mv hav hn hroom hfr hlo hk d hp hst (fun b => kk b)
theorem lu_invNi (X : lu_X G own cc nL fr lo) {index : Nat} {y : MethodName} {cy : ByteArray} {nLy : Nat} {ry : Option FieldType} {fry loy na : Nat} {avs : (Nat → Nat) → (Nat → Nat) → List Value} {f : lu_M → Option (Int32 × lu_M)} {ov : Option (Int32 × lu_M)} {Ko : Int32 → lu_M → Option β} {As rest : List Value}  (hM : lu_C T (lu_l G) y cy nLy ry fry loy avs f lu_RVi lu_sn) (hf : f m = ov) (ml : (own, index, y) ∈ lu_nest) (mv : lu_MS y cy nLy ry na) (hav : avs ρ (lu_sa G) = As) (hn : As.length = na) (hroom : (rest.map fun v => v.category).sum ≤ 8) (hfr : fry + 1 ≤ fr) (hlo : 8 + (nLy + 11) + loy ≤ lo) (hk : k ≤ (lu_R G).cells ∧ n ≤ (lu_R G).slots) (d : decode cc pc = .ok (.invokestatic index, 3)) (hp : pc + 3 = pc2) (hst : st = As.reverse ++ rest) (kk : ∀ (x : Int32) (m9 : lu_M), lu_Ab T G Q (Ko x m9) pc2 lv (.int x :: rest) ρ k n ex m9) : lu_Ab T G Q (lu_bi ov Ko) pc lv st ρ k n ex m := lu_invN X hM hf ml mv hav hn hroom hfr hlo hk d hp hst (fun b => kk b.1 b.2)
theorem lu_invNv (X : lu_X G own cc nL fr lo) {index : Nat} {y : MethodName} {cy : ByteArray} {nLy : Nat} {ry : Option FieldType} {fry loy na : Nat} {avs : (Nat → Nat) → (Nat → Nat) → List Value} {f : lu_M → Option (lu_M)} {ov : Option (lu_M)} {Ko : lu_M → Option β} {As rest : List Value}  (hM : lu_C T (lu_l G) y cy nLy ry fry loy avs f lu_RVv lu_id) (hf : f m = ov) (ml : (own, index, y) ∈ lu_nest) (mv : lu_MS y cy nLy ry na) (hav : avs ρ (lu_sa G) = As) (hn : As.length = na) (hroom : (rest.map fun v => v.category).sum ≤ 8) (hfr : fry + 1 ≤ fr) (hlo : 8 + (nLy + 11) + loy ≤ lo) (hk : k ≤ (lu_R G).cells ∧ n ≤ (lu_R G).slots) (d : decode cc pc = .ok (.invokestatic index, 3)) (hp : pc + 3 = pc2) (hst : st = As.reverse ++ rest) (kk : ∀ (m9 : lu_M), lu_Ab T G Q (Ko m9) pc2 lv rest ρ k n ex m9) : lu_Ab T G Q (lu_bv ov Ko) pc lv st ρ k n ex m := lu_invN X hM hf ml mv hav hn hroom hfr hlo hk d hp hst (fun b => kk b)
theorem lu_invUi (X : lu_X G own cc nL fr lo) {index : Nat} {y : MethodName} {cy : ByteArray} {nLy : Nat} {ry : Option FieldType} {fry loy na : Nat} {avs : (Nat → Nat) → (Nat → Nat) → List Value} {f : lu_M → Option (Int32 × lu_M)} {ov : Option (Int32 × lu_M)} {Ko : Int32 → lu_M → Option β} {As rest : List Value} {r t : Nat} {x : Nat × Nat} (hM : lu_C T (lu_l G) y cy nLy ry fry loy avs f lu_RVi lu_sn) (hf : f m = ov) (ml : Cond.methodLink own index y ∈ lu_ws) (mv : lu_MU own y cy nLy ry na) (hT : T.2 r = (t, x)) (hr : r < T.1) (h3 : 3 < t) (h12 : t < 12) (hav : avs ρ (lu_sa G) = .ref (ρ r) :: As) (hn : As.length = na) (hroom : (rest.map fun v => v.category).sum ≤ 8) (hfr : fry + 1 ≤ fr) (hlo : 8 + (nLy + 11) + loy ≤ lo) (hk : k ≤ (lu_R G).cells ∧ n ≤ (lu_R G).slots) (d : decode cc pc = .ok (.invokespecial index, 3)) (hp : pc + 3 = pc2) (hst : st = As.reverse ++ .ref (ρ r) :: rest) (kk : ∀ (x : Int32) (m9 : lu_M), lu_Ab T G Q (Ko x m9) pc2 lv (.int x :: rest) ρ k n ex m9) : lu_Ab T G Q (lu_bi ov Ko) pc lv st ρ k n ex m := lu_invU X hM hf ml mv hT hr h3 h12 hav hn hroom hfr hlo hk d hp hst (fun b => kk b.1 b.2)
theorem lu_invUv (X : lu_X G own cc nL fr lo) {index : Nat} {y : MethodName} {cy : ByteArray} {nLy : Nat} {ry : Option FieldType} {fry loy na : Nat} {avs : (Nat → Nat) → (Nat → Nat) → List Value} {f : lu_M → Option (lu_M)} {ov : Option (lu_M)} {Ko : lu_M → Option β} {As rest : List Value} {r t : Nat} {x : Nat × Nat} (hM : lu_C T (lu_l G) y cy nLy ry fry loy avs f lu_RVv lu_id) (hf : f m = ov) (ml : Cond.methodLink own index y ∈ lu_ws) (mv : lu_MU own y cy nLy ry na) (hT : T.2 r = (t, x)) (hr : r < T.1) (h3 : 3 < t) (h12 : t < 12) (hav : avs ρ (lu_sa G) = .ref (ρ r) :: As) (hn : As.length = na) (hroom : (rest.map fun v => v.category).sum ≤ 8) (hfr : fry + 1 ≤ fr) (hlo : 8 + (nLy + 11) + loy ≤ lo) (hk : k ≤ (lu_R G).cells ∧ n ≤ (lu_R G).slots) (d : decode cc pc = .ok (.invokespecial index, 3)) (hp : pc + 3 = pc2) (hst : st = As.reverse ++ .ref (ρ r) :: rest) (kk : ∀ (m9 : lu_M), lu_Ab T G Q (Ko m9) pc2 lv rest ρ k n ex m9) : lu_Ab T G Q (lu_bv ov Ko) pc lv st ρ k n ex m := lu_invU X hM hf ml mv hT hr h3 h12 hav hn hroom hfr hlo hk d hp hst (fun b => kk b)
theorem lu_invPi (X : lu_X G own cc nL fr lo) {index : Nat} {y : MethodName} {cy : ByteArray} {nLy : Nat} {ry : Option FieldType} {fry loy na : Nat} {avs : (Nat → Nat) → (Nat → Nat) → List Value} {f : lu_M → Option (Int32 × lu_M)} {ov : Option (Int32 × lu_M)} {Ko : Int32 → lu_M → Option β} {As rest : List Value} {z : MethodName} {r t : Nat} {x : Nat × Nat} (hM : lu_C T (lu_l G) y cy nLy ry fry loy avs f lu_RVi lu_sn) (hf : f m = ov) (ml : Cond.methodLink own index z ∈ lu_ws) (mv : lu_MP own z y cy nLy ry na) (hT : T.2 r = (t, x)) (hr : r < T.1) (h3 : 3 < t) (h12 : t < 12) (hav : avs ρ (lu_sa G) = .ref (ρ r) :: As) (hn : As.length = na) (hroom : (rest.map fun v => v.category).sum ≤ 8) (hfr : fry + 1 ≤ fr) (hlo : 8 + (nLy + 11) + loy ≤ lo) (hk : k ≤ (lu_R G).cells ∧ n ≤ (lu_R G).slots) (d : decode cc pc = .ok (.invokespecial index, 3)) (hp : pc + 3 = pc2) (hst : st = As.reverse ++ .ref (ρ r) :: rest) (kk : ∀ (x : Int32) (m9 : lu_M), lu_Ab T G Q (Ko x m9) pc2 lv (.int x :: rest) ρ k n ex m9) : lu_Ab T G Q (lu_bi ov Ko) pc lv st ρ k n ex m := lu_invP X hM hf ml mv hT hr h3 h12 hav hn hroom hfr hlo hk d hp hst (fun b => kk b.1 b.2)
theorem lu_invPv (X : lu_X G own cc nL fr lo) {index : Nat} {y : MethodName} {cy : ByteArray} {nLy : Nat} {ry : Option FieldType} {fry loy na : Nat} {avs : (Nat → Nat) → (Nat → Nat) → List Value} {f : lu_M → Option (lu_M)} {ov : Option (lu_M)} {Ko : lu_M → Option β} {As rest : List Value} {z : MethodName} {r t : Nat} {x : Nat × Nat} (hM : lu_C T (lu_l G) y cy nLy ry fry loy avs f lu_RVv lu_id) (hf : f m = ov) (ml : Cond.methodLink own index z ∈ lu_ws) (mv : lu_MP own z y cy nLy ry na) (hT : T.2 r = (t, x)) (hr : r < T.1) (h3 : 3 < t) (h12 : t < 12) (hav : avs ρ (lu_sa G) = .ref (ρ r) :: As) (hn : As.length = na) (hroom : (rest.map fun v => v.category).sum ≤ 8) (hfr : fry + 1 ≤ fr) (hlo : 8 + (nLy + 11) + loy ≤ lo) (hk : k ≤ (lu_R G).cells ∧ n ≤ (lu_R G).slots) (d : decode cc pc = .ok (.invokespecial index, 3)) (hp : pc + 3 = pc2) (hst : st = As.reverse ++ .ref (ρ r) :: rest) (kk : ∀ (m9 : lu_M), lu_Ab T G Q (Ko m9) pc2 lv rest ρ k n ex m9) : lu_Ab T G Q (lu_bv ov Ko) pc lv st ρ k n ex m := lu_invP X hM hf ml mv hT hr h3 h12 hav hn hroom hfr hlo hk d hp hst (fun b => kk b)
theorem lu_invOi (X : lu_X G own cc nL fr lo) {index : Nat} {y : MethodName} {cy : ByteArray} {nLy : Nat} {ry : Option FieldType} {fry loy na : Nat} {avs : (Nat → Nat) → (Nat → Nat) → List Value} {f : lu_M → Option (Int32 × lu_M)} {ov : Option (Int32 × lu_M)} {Ko : Int32 → lu_M → Option β} {As rest : List Value} {C : String} {z : MethodName} {r t : Nat} {x : Nat × Nat} (hM : lu_C T (lu_l G) y cy nLy ry fry loy avs f lu_RVi lu_sn) (hf : f m = ov) (ml : Cond.methodLink own index z ∈ lu_ws) (mv : lu_MO C z y cy nLy ry na) (hT : T.2 r = (t, x)) (hr : r < T.1) (h3 : 3 < t) (hcl : ∃ q, lu_cl[lu_ci t (m r 0)]? = some q ∧ q.1 = C) (hav : avs ρ (lu_sa G) = .ref (ρ r) :: As) (hn : As.length = na) (hroom : (rest.map fun v => v.category).sum ≤ 8) (hfr : fry + 1 ≤ fr) (hlo : 8 + (nLy + 11) + loy ≤ lo) (hk : k ≤ (lu_R G).cells ∧ n ≤ (lu_R G).slots) (d : decode cc pc = .ok (.invokevirtual index, 3)) (hp : pc + 3 = pc2) (hst : st = As.reverse ++ .ref (ρ r) :: rest) (kk : ∀ (x : Int32) (m9 : lu_M), lu_Ab T G Q (Ko x m9) pc2 lv (.int x :: rest) ρ k n ex m9) : lu_Ab T G Q (lu_bi ov Ko) pc lv st ρ k n ex m := lu_invO X hM hf ml mv hT hr h3 hcl hav hn hroom hfr hlo hk d hp hst (fun b => kk b.1 b.2)
theorem lu_invOv (X : lu_X G own cc nL fr lo) {index : Nat} {y : MethodName} {cy : ByteArray} {nLy : Nat} {ry : Option FieldType} {fry loy na : Nat} {avs : (Nat → Nat) → (Nat → Nat) → List Value} {f : lu_M → Option (lu_M)} {ov : Option (lu_M)} {Ko : lu_M → Option β} {As rest : List Value} {C : String} {z : MethodName} {r t : Nat} {x : Nat × Nat} (hM : lu_C T (lu_l G) y cy nLy ry fry loy avs f lu_RVv lu_id) (hf : f m = ov) (ml : Cond.methodLink own index z ∈ lu_ws) (mv : lu_MO C z y cy nLy ry na) (hT : T.2 r = (t, x)) (hr : r < T.1) (h3 : 3 < t) (hcl : ∃ q, lu_cl[lu_ci t (m r 0)]? = some q ∧ q.1 = C) (hav : avs ρ (lu_sa G) = .ref (ρ r) :: As) (hn : As.length = na) (hroom : (rest.map fun v => v.category).sum ≤ 8) (hfr : fry + 1 ≤ fr) (hlo : 8 + (nLy + 11) + loy ≤ lo) (hk : k ≤ (lu_R G).cells ∧ n ≤ (lu_R G).slots) (d : decode cc pc = .ok (.invokevirtual index, 3)) (hp : pc + 3 = pc2) (hst : st = As.reverse ++ .ref (ρ r) :: rest) (kk : ∀ (m9 : lu_M), lu_Ab T G Q (Ko m9) pc2 lv rest ρ k n ex m9) : lu_Ab T G Q (lu_bv ov Ko) pc lv st ρ k n ex m := lu_invO X hM hf ml mv hT hr h3 hcl hav hn hroom hfr hlo hk d hp hst (fun b => kk b)
end LUC

/-! CONTRACTS of methods that make cells: hands may have moved -/
def lu_mvd (q : Nat) : Bool := (decide (3 ≤ q) && decide (q < 9)) || (decide (39 ≤ q) && decide (q < 45))
def lu_kept (ρ ρ' : Nat → Nat) : Prop := ∀ q, lu_mvd q = false → ρ' q = ρ q
theorem lu_kept.refl (ρ : Nat → Nat) : lu_kept ρ ρ := fun _ _ => rfl
theorem lu_kept.trans {ρ ρ' ρ2 : Nat → Nat} (h : lu_kept ρ ρ') (h2 : lu_kept ρ' ρ2) : lu_kept ρ ρ2 := fun q hq => (h2 q hq).trans (h q hq)
def lu_Post2 (T : lu_T) (D : va_G) (cs : Nat → ClassId) (ρ : Nat → Nat) (A : Nat → Prop) (m' : lu_M) (rv : (Nat → Nat) → Option Value) : Array Value → State → Outcome → State → Prop := fun _ st oc t => ∃ ρ' : Nat → Nat, lu_kept ρ ρ' ∧ oc = .returned (rv ρ') ∧ va_P D lu_cl (lu_W T cs ρ' m') t.heap ∧ va_D A (lu_W T cs ρ' m') ∧ va_F A st t
def lu_C2 {β : Type} (T : lu_T) (l : Launch) (y : MethodName) (cc : ByteArray) (nL : Nat) (ret : Option FieldType) (fr lo mc ms : Nat) (avs : (Nat → Nat) → (Nat → Nat) → List Value) (f : lu_M → Option β) (RV : (Nat → Nat) → β → Option Value) (MM : β → lu_M) : Prop :=
  ∀ (D : va_G) (cs : Nat → ClassId) (ρ : Nat → Nat) (m : lu_M) (sa : Nat → Nat) (sz : Nat) (b : β), f m = some b → Met l y (.code y cc nL ret :: lu_ws) ({ frames := fr, cells := mc, slots := ms, locals := lo }) (va_Pc (avs ρ sa) (lu_Pre T D cs ρ m sa sz)) (lu_Post2 T D cs ρ (va_A (lu_W T cs ρ m) sz) (MM b) (fun ρ' => RV ρ' b)) mc ms (va_A (lu_W T cs ρ m) sz)
def lu_Q2 {β : Type} (T : lu_T) (G : lu_G) (ρ : Nat → Nat) (mc ms : Nat) (RV : (Nat → Nat) → β → Option Value) (MM : β → lu_M) : β → State → Prop := fun b => MQ (lu_b G) (lu_Post2 T (lu_D G) (lu_cs G) ρ (lu_A G) (MM b) (fun ρ' => RV ρ' b)) (lu_a G) (lu_s G) mc ms (lu_A G)
theorem lu_met2 {β : Type} {T : lu_T} {l : Launch} {y : MethodName} {cc : ByteArray} {nL : Nat} {ret : Option FieldType} {fr lo mc ms : Nat} {avs : (Nat → Nat) → (Nat → Nat) → List Value} {f : lu_M → Option β} {RV : (Nat → Nat) → β → Option Value} {MM : β → lu_M} {cls : String} (hcls : y.cls = cls) (hy : plainName y.cls = true) (hlen : ∀ ρ sa, (lg_sl (avs ρ sa)).length ≤ nL)
    (walk : ∀ (G : lu_G) (ρ : Nat → Nat) (m : lu_M), lu_l G = l → lu_X G cls cc nL fr lo → (lu_me G).sig.returnType = ret → (lu_R G).cells = mc → (lu_R G).slots = ms → lu_Ab T G (lu_Q2 T G ρ mc ms RV MM) (f m) 0 (lv_args 0 (avs ρ (lu_sa G))) [] ρ 0 0 [] m) : lu_C2 T l y cc nL ret fr lo mc ms avs f RV MM := by
  subst hcls
  intro D cs ρ m sa sz b hf
  refine Met.ofW (cc := cc) (maxL := nL) (ret := ret) hy rfl ?_
  intro p e s mm args below meth c s₁ B hml hv
  obtain ⟨rfl, hsz, hP, hK, hD0, hSx, hN⟩ := hv
  subst hsz
  have hown : s.vm.findClass y.cls = some mm.cls := findClass_of_methodNamed B.named
  have hts := atoms_spec (ws := .code y cc nL ret :: lu_ws) B.pre
  have hD := hD0.self (sz := s.heap.size)
  have hl := lv_entry (avs ρ sa) (hlen ρ sa)
  rw [lg_entry_eq]
  have h := walk (p, l, e, { frames := fr, cells := mc, slots := ms, locals := lo }, s, mm, (avs ρ sa).toArray, below, meth, c, va_A (lu_W T cs ρ m) s.heap.size, D, cs, sa, nL) ρ m rfl
    ⟨B.exec, B.bytes, hml, rfl, hown, fun w hw => hts w (List.mem_cons_of_mem _ hw), hK, B.notSynchronized, fun q h => Or.inr h, hSx, hN, Nat.le_refl _, Nat.le_refl _⟩ B.returns rfl rfl
  exact h b hf s.heap [] _ hl (by rw [List.append_nil]; exact hP) (by rw [List.append_nil]; exact hD) va_S.rf
section LUC2
variable {β : Type} {T : lu_T} {G : lu_G} {Q : β → State → Prop} {o : Option β} {pc pc2 : Nat} {lv : List (Nat × Value)} {st : List Value} {ρ : Nat → Nat} {k n : Nat} {ex : va_W} {m : lu_M} {own : String} {cc : ByteArray} {nL fr lo mc ms : Nat}
theorem lu_iret2 (X : lu_X G own cc nL fr lo) (hr : (lu_me G).sig.returnType = some .int) {ρ0 : Nat → Nat} (hρ : lu_kept ρ0 ρ) (hk : k ≤ mc) (hn : n ≤ ms) {x : Int32} (d : decode cc pc = .ok (.ireturn, 1)) : lu_Ab T G (lu_Q2 T G ρ0 mc ms lu_RVi lu_sn) (some (x, m)) pc lv [.int x] ρ k n ex m := by
  intro b hb H locs ls hl hP hD hS
  cases hb
  exact W.widen hk hn (W.iret (v := x) X.hx X.hb hr (fun t ht hW => ⟨ρ, hρ, rfl, by rw [ht]; exact lu_P_l hP, lu_D_l hD, hS.F ht⟩) hS.2.2 d X.hlk)
theorem lu_vret2 (X : lu_X G own cc nL fr lo) (hr : (lu_me G).sig.returnType = none) {ρ0 : Nat → Nat} (hρ : lu_kept ρ0 ρ) (hk : k ≤ mc) (hn : n ≤ ms) (d : decode cc pc = .ok (.return_, 1)) : lu_Ab T G (lu_Q2 T G ρ0 mc ms lu_RVv lu_id) (some m) pc lv [] ρ k n ex m := by
  intro b hb H locs ls hl hP hD hS
  cases hb
  exact W.widen hk hn (W.vret X.hx X.hb hr (fun t ht hW => ⟨ρ, hρ, rfl, by rw [ht]; exact lu_P_l hP, lu_D_l hD, hS.F ht⟩) hS.2.2 d X.hlk)
/-- behind a call that may have made cells -/
theorem lu_back2 (X : lu_X G own cc nL fr lo) {m' : lu_M} {rv : (Nat → Nat) → Option Value} {rest st0 : List Value} {a : Array Value} {H : Heap} {locs : List Loc} {ls : Array Slot} {Q0 : State → Prop} {mcy msy : Nat} (hP : va_P (lu_D G) lu_cl (lu_W T (lu_cs G) ρ m ++ ex) H) (hD : va_D (lu_A G) (lu_W T (lu_cs G) ρ m ++ ex)) (hS : va_S (lu_A G) (lu_s G).heap H locs)
    (hr : va_Run (lu_p G) (lu_l G) (lu_e G) (lu_R G) (lu_s G) (lu_m G) (lu_a G) (lu_b G) (lu_me G) (lu_c G) H locs k n mcy msy (F0 (lu_m G) pc ls st0) rest (lu_Post2 T (lu_D G) (lu_cs G) ρ (va_A (lu_W T (lu_cs G) ρ m) H.size) m' rv a) (va_A (lu_W T (lu_cs G) ρ m) H.size))
    (kk : ∀ (ρ' : Nat → Nat) (H1 : Heap) (locs1 : List Loc), lu_kept ρ ρ' → va_P (lu_D G) lu_cl (lu_W T (lu_cs G) ρ' m' ++ ex) H1 → va_D (lu_A G) (lu_W T (lu_cs G) ρ' m' ++ ex) → va_S (lu_A G) (lu_s G).heap H1 locs1 → W (lu_p G) (lu_l G) (lu_e G) (lu_R G) (lu_s G) (lu_m G) (lu_a G) (lu_b G) (lu_me G) (lu_c G) H1 locs1 (k + mcy) (n + msy) Q0 (F0 (lu_m G) (pc + 3) ls ((rv ρ').toList ++ rest))) : W (lu_p G) (lu_l G) (lu_e G) (lu_R G) (lu_s G) (lu_m G) (lu_a G) (lu_b G) (lu_me G) (lu_c G) H locs k n Q0 (F0 (lu_m G) pc ls st0) := by
  intro T0 hT X0
  obtain ⟨v, st₀, t, T', L, h0, X', hL, e1, e2, ⟨ρ', hρ, hv, hp, hd, hz, hk⟩, st⟩ := hr T0 hT X0
  cases hv
  rw [h0] at hz hk
  have hF := lu_free X hD hS
  have hexA : ∀ (j : Nat) (q : Nat × va_E), ex[j]? = some q → q.1 < H.size ∧ ¬ va_A (lu_W T (lu_cs G) ρ m) H.size q.1 := fun j q hq => by
    have hj : (lu_W T (lu_cs G) ρ m ++ ex)[(lu_W T (lu_cs G) ρ m).length + j]? = some q := by
      rw [List.getElem?_append_right (Nat.le_add_right _ _), Nat.add_sub_cancel_left]; exact hq
    have hlt := (hP _ q hj).lt
    refine ⟨hlt, fun hA => ?_⟩
    rcases hA with ⟨i, e, hi⟩ | hA
    · have hi2 : (lu_W T (lu_cs G) ρ m ++ ex)[i]? = some (q.1, e) := by
        rw [List.getElem?_append_left ((List.getElem?_eq_some_iff.mp hi).1)]; exact hi
      have := hD.1 _ _ _ _ hi2 hj rfl
      have h9 := (List.getElem?_eq_some_iff.mp hi).1
      omega
    · omega
  have hP1 : va_P (lu_D G) lu_cl (lu_W T (lu_cs G) ρ' m' ++ ex) T'.heap := by
    rw [e1]
    refine va_P.app hp (fun j q hq => ?_)
    have hj : (lu_W T (lu_cs G) ρ m ++ ex)[(lu_W T (lu_cs G) ρ m).length + j]? = some q := by
      rw [List.getElem?_append_right (Nat.le_add_right _ _), Nat.add_sub_cancel_left]; exact hq
    exact (hP _ q hj).kept (hk q.1 (hexA j q hq).1 (hexA j q hq).2)
  have hD1 : va_D (lu_A G) (lu_W T (lu_cs G) ρ' m' ++ ex) := by
    refine va_D.app (hd.weaken fun _ q _ h => hF q.1 h) ⟨fun i j p q hi hj hpq => ?_, fun j q hq => ?_⟩ (fun i j p q hi hj e => ?_)
    · have h1 : ∀ (i : Nat) (p : Nat × va_E), ex[i]? = some p → (lu_W T (lu_cs G) ρ m ++ ex)[(lu_W T (lu_cs G) ρ m).length + i]? = some p := fun i p hi => by
        rw [List.getElem?_append_right (Nat.le_add_right _ _), Nat.add_sub_cancel_left]; exact hi
      have := hD.1 _ _ _ _ (h1 i p hi) (h1 j q hj) hpq
      omega
    · have h1 : (lu_W T (lu_cs G) ρ m ++ ex)[(lu_W T (lu_cs G) ρ m).length + j]? = some q := by
        rw [List.getElem?_append_right (Nat.le_add_right _ _), Nat.add_sub_cancel_left]; exact hq
      exact hD.2 _ _ h1
    · have h1 := hd.2 i p hi
      rw [e] at h1
      exact (hexA j q hj).2 h1
  have hS1 : va_S (lu_A G) (lu_s G).heap T'.heap (locs ++ L) := by
    refine ⟨Nat.le_trans hS.1 (by rw [e1]; exact hz), fun q h1 h2 => by rw [e1, hk q (Nat.lt_of_lt_of_le h1 hS.1) (fun z => h2 (hF q z))]; exact hS.2.1 q h1 h2, fun q hq => ?_⟩
    rcases List.mem_append.mp hq with h | h
    · exact hS.2.2 q h
    · exact hF _ (hL q h)
  obtain ⟨t2, a1, b1⟩ := kk ρ' T'.heap (locs ++ L) hρ hP1 hD1 hS1 T' rfl X'
  exact ⟨t2, st t2 a1, b1⟩
theorem lu_invV2 (X : lu_X G own cc nL fr lo) {γ : Type} {index : Nat} {y : MethodName} {cy : ByteArray} {nLy : Nat} {ry : Option FieldType} {fry loy mcy msy na : Nat} {avs : (Nat → Nat) → (Nat → Nat) → List Value} {f : lu_M → Option γ} {RV : (Nat → Nat) → γ → Option Value} {MM : γ → lu_M} {ov : Option γ} {Kf : γ → Option β} {As rest : List Value} {C : String} {r t : Nat} {x : Nat × Nat} (hM : lu_C2 T (lu_l G) y cy nLy ry fry loy mcy msy avs f RV MM) (hf : f m = ov) (ml : Cond.methodLink own index y ∈ lu_ws) (mv : lu_MV C y cy nLy ry na) (hT : T.2 r = (t, x)) (hr : r < T.1) (h3 : 3 < t) (hcl : ∃ q, lu_cl[lu_ci t (m r 0)]? = some q ∧ q.1 = C) (hav : avs ρ (lu_sa G) = .ref (ρ r) :: As) (hn : As.length = na) (hroom : (rest.map fun v => v.category).sum ≤ 8) (hfr : fry + 1 ≤ fr) (hlo : 8 + (nLy + 11) + loy ≤ lo) (hk : k + mcy ≤ (lu_R G).cells ∧ n + msy ≤ (lu_R G).slots) (d : decode cc pc = .ok (.invokevirtual index, 3)) (hp : pc + 3 = pc2) (hst : st = As.reverse ++ .ref (ρ r) :: rest) (kk : ∀ (ρ' : Nat → Nat) (b : γ), lu_kept ρ ρ' → lu_Ab T G Q (Kf b) pc2 lv ((RV ρ' b).toList ++ rest) ρ' (k + mcy) (n + msy) ex (MM b)) : lu_Ab T G Q (ov.bind Kf) pc lv st ρ k n ex m := by
  subst hp
  subst hst
  intro b hb H locs ls hl hP hD hS
  subst hf
  cases hfm : f m with
  | none => rw [hfm] at hb; cases hb
  | some c =>
    rw [hfm] at hb
    have he := lu_W_at2 (T := T) (cs := lu_cs G) (ρ := ρ) (m := m) (ex := ex) hr
    rw [lu_cell_obj hT h3] at he
    obtain ⟨q, hc, hqC⟩ := hcl
    have hrecv := va_recv X.hK hP hc he
    rw [hqC] at hrecv
    obtain ⟨m1, m2, m3, m4, m5⟩ := mv
    have hMc := hM (lu_D G) (lu_cs G) ρ m (lu_sa G) H.size c hfm
    rw [hav] at hMc
    have hrun := va_runV (e := lu_e G) (below := lu_b G) (meth := lu_me G) (locs := locs) (rest := rest) (As := As) (g := F0 (lu_m G) pc ls (As.reverse ++ .ref (ρ r) :: rest)) ⟨X.hx, X.hb, X.hml, X.hown, X.hts⟩ hMc (cwV na X.hts (lu_gi (fun w hw => by
      simp only [wsV, List.cons_append, List.nil_append, List.mem_cons] at hw
      rcases hw with rfl | rfl | rfl | rfl | rfl | hw <;> assumption)) rfl rfl rfl m5 ⟨Nat.le_trans hfr X.hfr, Nat.le_trans hlo X.hlo⟩) ⟨lu_blind _ _ _ _ _, hrecv, fun U hU hW => ⟨rfl, lu_pre X hP hD hS U hU hW⟩⟩ rfl hn hl.1 rfl (lv_room hroom) d hk
    exact lu_back2 X hP hD hS hrun (fun ρ' H1 locs1 hρ hP hD hS => kk ρ' c hρ b hb H1 locs1 ls hl hP hD hS)
end LUC2

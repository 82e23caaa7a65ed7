/-! ARRAYS OF ARRAYS are made: rows of my own over the model's one step (nothing of JvmDerived/Shelf42) -/
theorem lu_aoI {a : Array Value} {f s : State} {o : Option Outcome} {ix : List Nat} (h : (Cond.arrayOver (.array .int)).holds a f o s ix = true) : ∃ (cI cA : ClassId) (k : Class), s.vm.findClass "[I" = some cI ∧ s.vm.findClass "[[I" = some cA ∧ s.vm.classes[cA]? = some k ∧ k.kind = .array cI (.array .int) := by
  simp only [Cond.holds, Cond.value, beq_iff_eq, Option.bind_eq_some_iff, Option.map_eq_some_iff] at h
  obtain ⟨cI, hI, cA, hA, k, hk, hb⟩ := h
  obtain ⟨hl, hp, -⟩ := Array.findIdx?_eq_some_iff_getElem.mp hA
  have e : s.vm.classes[cA] = k := (Array.getElem?_eq_some_iff.mp hk).2
  rw [e] at hp
  refine ⟨cI, cA, k, hI, ?_, hk, ?_⟩
  · revert hb
    split
    · intro hb
      rw [Bool.and_eq_true, decide_eq_true_eq, decide_eq_true_eq] at hb
      exact hb.2
    · intro hb
      cases hb
  · revert hb hp
    split
    · rename_i cc ty hkk
      intro hb hp
      rw [Bool.and_eq_true, decide_eq_true_eq, decide_eq_true_eq] at hb
      rw [beq_iff_eq] at hp
      rw [hkk, hp, hb.1]
    · intro hb
      cases hb
def lu_oA (cA : ClassId) (N h i : Nat) : Cell := arrV cA N fun j => if j < i then .ref (h + 1 + j) else .null
def lu_iA (cI : ClassId) (M : Nat) : Cell := arrV cI M fun _ => .int 0
theorem lu_oA_up (cA : ClassId) (N h i : Nat) : (lu_oA cA N h i).setSlot i (.ref (h + 1 + i)) = lu_oA cA N h (i + 1) := by
  unfold lu_oA
  rw [arrV_store]
  refine lu_arrV fun j _ => ?_
  unfold updV
  by_cases e : j = i
  · subst e
    rw [if_pos rfl, if_pos (by omega)]
  · rw [if_neg e]
    show (if j < i then Value.ref (h + 1 + j) else .null) = _
    by_cases h2 : j < i
    · rw [if_pos h2, if_pos (by omega)]
    · rw [if_neg h2, if_neg (by omega)]
def lu_ml (cA cI : ClassId) (N M : Nat) (T : State) : Nat → State
  | 0 => T.pushCell (lu_oA cA N T.heap.size 0)
  | i + 1 => ((lu_ml cA cI N M T i).pushCell (lu_iA cI M)).setCell T.heap.size (lu_oA cA N T.heap.size (i + 1))
def lu_mF (cA cI : ClassId) (N M : Nat) (T U : State) (i : Nat) : Prop := U.vm = T.vm ∧ U.slotsUsed = T.slotsUsed + N + i * M ∧ U.heap.size = T.heap.size + 1 + i ∧ U.heap[T.heap.size]? = some (lu_oA cA N T.heap.size i) ∧ (∀ a, a < T.heap.size → U.heap[a]? = T.heap[a]?) ∧ ∀ j, j < i → U.heap[T.heap.size + 1 + j]? = some (lu_iA cI M)
theorem lu_mF_ml (cA cI : ClassId) (N M : Nat) (T : State) : ∀ i, lu_mF cA cI N M T (lu_ml cA cI N M T i) i
  | 0 => by
    have hz : (lu_oA cA N T.heap.size 0).slots.size = N := arrV_size _ _ _
    refine ⟨rfl, ?_, ?_, State.heap_pushCell_size _ _, fun a ha => State.heap_pushCell_of_lt _ _ ha, fun j hj => absurd hj (Nat.not_lt_zero j)⟩
    · show T.slotsUsed + (lu_oA cA N T.heap.size 0).slots.size = _
      rw [hz]
      omega
    · show (T.pushCell _).heap.size = _
      simp
  | i + 1 => by
    obtain ⟨h1, h2, h3, h4, h5, h6⟩ := lu_mF_ml cA cI N M T i
    have hz : (lu_iA cI M).slots.size = M := arrV_size _ _ _
    have hlt : T.heap.size < (lu_ml cA cI N M T i).heap.size := by omega
    have h7 : ((lu_ml cA cI N M T i).pushCell (lu_iA cI M)).heap[T.heap.size]? = some (lu_oA cA N T.heap.size i) := by
      rw [State.heap_pushCell_of_lt _ _ hlt]
      exact h4
    refine ⟨h1, ?_, ?_, State.heap_setCell_self h7, fun a ha => ?_, fun j hj => ?_⟩
    · show (lu_ml cA cI N M T i).slotsUsed + (lu_iA cI M).slots.size = _
      rw [hz, h2, Nat.succ_mul]
      omega
    · show (((lu_ml cA cI N M T i).pushCell _).setCell _ _).heap.size = _
      simp [State.setCell, h3]
      omega
    · show (((lu_ml cA cI N M T i).pushCell _).setCell _ _).heap[a]? = _
      rw [State.heap_setCell_other (Nat.ne_of_gt ha), State.heap_pushCell_of_lt _ _ (Nat.lt_trans ha hlt)]
      exact h5 a ha
    · show (((lu_ml cA cI N M T i).pushCell _).setCell _ _).heap[T.heap.size + 1 + j]? = _
      rw [State.heap_setCell_other (show T.heap.size ≠ T.heap.size + 1 + j by omega)]
      by_cases e : j = i
      · subst e
        rw [← h3]
        exact State.heap_pushCell_size _ _
      · rw [State.heap_pushCell_of_lt _ _ (show T.heap.size + 1 + j < (lu_ml cA cI N M T i).heap.size by omega)]
        exact h6 j (by omega)
theorem lu_ml_top (cA cI : ClassId) (N M : Nat) (T : State) (f : JFrame) : ∀ i, lu_ml cA cI N M (T.setTop f) i = (lu_ml cA cI N M T i).setTop f
  | 0 => rfl
  | i + 1 => by
    unfold lu_ml
    rw [lu_ml_top cA cI N M T f i]
    rfl
theorem lu_mlS {p : Program} {l : Launch} {e : Env} {R : Room} {s : State} {m : MethodId} {args : Array Value} {below : List Frame} {meth : Method} {c : Code} {T : State} {locs : List Loc} {cells slots : Nat} (cA cI : ClassId) (N M : Nat) (X : Stand p l e R s m args below meth c T locs cells slots) : ∀ i, Stand p l e R s m args below meth c (lu_ml cA cI N M T i) (locs ++ (List.range i).map fun j => ⟨T.heap.size, j⟩) (cells + 1 + i) (slots + N + i * M)
  | 0 => by
    have h := X.pushed (lu_oA cA N T.heap.size 0)
    rw [show (lu_oA cA N T.heap.size 0).slots.size = N from arrV_size _ _ _] at h
    rw [List.range_zero, List.map_nil, List.append_nil, Nat.zero_mul, Nat.add_zero, Nat.add_zero]
    exact h
  | i + 1 => by
    obtain ⟨h1, h2, h3, h4, h5, h6⟩ := lu_mF_ml cA cI N M T i
    have h := (lu_mlS cA cI N M X i).pushed (lu_iA cI M)
    rw [show (lu_iA cI M).slots.size = M from arrV_size _ _ _] at h
    have h8 := h.stored (a := T.heap.size) (cell := lu_oA cA N T.heap.size i) (by rw [State.heap_pushCell_of_lt _ _ (show T.heap.size < (lu_ml cA cI N M T i).heap.size by omega)]; exact h4) i (.ref (T.heap.size + 1 + i))
    rw [lu_oA_up, List.append_assoc] at h8
    rw [List.range_succ, List.map_append, Nat.succ_mul, ← Nat.add_assoc (slots + N)]
    exact h8
theorem lu_mkL2 {E : CtlPost} {e : Env} {f : Nat → PUnit → Sem (ForInStep PUnit)} {St : Nat → State} {N : Nat} (hf : ∀ i, i < N → ∀ (d : Bool) (acts : List Action) (Q : ForInStep PUnit → Pre), (∀ d' acts', Q (.yield PUnit.unit) d' acts' (St (i + 1))) → wp (f i PUnit.unit) Q E e d acts (St i)) : ∀ (r i : Nat), i + r = N → ∀ (d : Bool) (acts : List Action) (Q : PUnit → Pre), (∀ d' acts', Q PUnit.unit d' acts' (St N)) → wp (forIn (List.range' i r 1) PUnit.unit f) Q E e d acts (St i)
  | 0, i, h, d, acts, Q, hq => by
    have e : i = N := h
    subst e
    rw [List.range'_zero, List.forIn_nil, wp_pure']
    exact hq d acts
  | r + 1, i, h, d, acts, Q, hq => by
    rw [List.range'_succ, List.forIn_cons, wp_bind']
    exact hf i (by omega) d acts _ fun d' acts' => lu_mkL2 hf r (i + 1) (by omega) d' acts' Q hq
theorem lu_mk2 {E : CtlPost} {e : Env} {d : Bool} {acts : List Action} {s : State} {Q : Addr → Pre} {cA cI c0 : ClassId} {kA kI : Class} {n k : Int32} {N M : Nat} (hkA : s.vm.classes[cA]? = some kA) (hA : kA.kind = .array cI (.array .int)) (hkI : s.vm.classes[cI]? = some kI) (hI : kI.kind = .array c0 .int) (hn : ¬ n < 0) (hN : n.toNatClampNeg = N) (hk : ¬ k < 0) (hM : k.toNatClampNeg = M) (hN9 : N ≤ 1000) (hM9 : M ≤ 1000) (hl : 1000 ≤ e.platform.arrayLengthLimit) (hh : 4000 ≤ e.platform.maxHeapBytes) (hc : s.heap.size + (1 + N) ≤ e.platform.maxCells) (hs : s.slotsUsed + (N + N * M) ≤ e.platform.maxSlots) (hq : ∀ d' acts', Q s.heap.size d' acts' (lu_ml cA cI N M s N)) : wp (Op.multianewarray.make cA [n, k]) Q E e d acts s := by
  have hfd : ([k].find? (· < 0)) = none := by simp [hk]
  have b1 : componentBytes (.array .int) = 4 := rfl
  have b2 : componentBytes .int = 4 := rfl
  rw [Op.multianewarray.make]
  simp only [wp_bind', W.ite, hn, if_false, wp_pure', W.theClass, hkA, hA, Option.some.injEq, exists_eq_left', hN]
  refine W.newArray_of hkA hA (by omega) (by rw [b1]; omega) (by omega) (by omega) rfl fun acts1 => ?_
  have e0 : s.pushCell { cls := cA, slots := Array.replicate N .null } = lu_ml cA cI N M s 0 := by
    show _ = s.pushCell _
    refine congrArg s.pushCell ((arrV_new cA N .null).trans (lu_arrV fun j _ => ?_))
    rw [if_neg (by omega)]
  rw [e0]
  simp only [hfd]
  rw [ite_self, wp_bind', Std.Legacy.Range.forIn_eq_forIn_range']
  have hz : ([:N] : Std.Legacy.Range).size = N := by simp [Std.Legacy.Range.size]
  rw [hz]
  refine lu_mkL2 (N := N) (St := lu_ml cA cI N M s) (fun i hi d2 acts2 Q2 h2 => ?_) N 0 (by omega) _ _ _ (fun d3 acts3 => by rw [wp_pure']; exact hq d3 acts3)
  obtain ⟨h1, h3, h4, h5, h6, h7⟩ := lu_mF_ml cA cI N M s i
  have hmul : i * M + M ≤ N * M := by
    rw [← Nat.succ_mul]
    exact Nat.mul_le_mul_right M hi
  rw [wp_bind', Op.multianewarray.make]
  simp only [wp_bind', W.ite, hk, if_false, wp_pure', W.theClass, h1, hkI, hI, Option.some.injEq, exists_eq_left', hM]
  refine W.newArray_of (by rw [h1]; exact hkI) hI (by omega) (by rw [b2]; omega) (by omega) (by omega) rfl fun acts3 => ?_
  have e1 : (lu_ml cA cI N M s i).pushCell { cls := cI, slots := Array.replicate M (defaultValue .int) } = (lu_ml cA cI N M s i).pushCell (lu_iA cI M) := congrArg _ (arrV_new cI M (.int 0))
  rw [e1, h4]
  simp only [wp_bind', W.writeLoc, wp_pure']
  refine ⟨lu_oA cA N s.heap.size i, ?_, ?_, ?_, ?_, ?_⟩
  · rw [State.heap_pushCell_of_lt _ _ (show s.heap.size < (lu_ml cA cI N M s i).heap.size by omega)]
    exact h5
  · intro h
    cases h
  · rw [show (lu_oA cA N s.heap.size i).slots.size = N from arrV_size _ _ _]
    exact hi
  · show State.fitsSlot _ cA .none i _ = true
    simp [State.fitsSlot, State.slotType?, h1, hkA, hA, fits]
  · rw [lu_oA_up]
    exact h2 _ _
theorem lu_mrow {p : Program} {l : Launch} {e : Env} {R : Room} {s : State} {m : MethodId} {args : Array Value} {below : List Frame} {meth : Method} {c : Code} {H : Heap} {locs : List Loc} {cells slots : Nat} {Q : State → Prop} {pc : Nat} {ls : Array Slot} {rest : List Value} {own : String} {index : Nat}
    (hexec : p.tables.exec = Jvm.exec) (hown : s.vm.findClass own = some m.cls) (hclink : (Cond.classLink own index "[[I").before args s = true) (hover : (Cond.arrayOver (.array .int)).before args s = true) (harr : (Cond.arrayClass .int).before args s = true)
    {n k : Int32} {N M : Nat} (hn : ¬ n < 0) (hN : n.toNatClampNeg = N) (hk : ¬ k < 0) (hM : k.toNatClampNeg = M) (hN9 : N ≤ 1000) (hM9 : M ≤ 1000) (hcells : cells + (1 + N) ≤ R.cells) (hslots : slots + (N + N * M) ≤ R.slots) (hdg : decode c.code pc = .ok (.multianewarray index 2, 4))
    (kk : ∀ (cA cI : ClassId) (H1 : Heap), s.vm.findClass "[[I" = some cA → s.vm.findClass "[I" = some cI → H1.size = H.size + 1 + N → H1[H.size]? = some (lu_oA cA N H.size N) → (∀ a, a < H.size → H1[a]? = H[a]?) → (∀ j, j < N → H1[H.size + 1 + j]? = some (lu_iA cI M)) → W p l e R s m args below meth c H1 (locs ++ (List.range N).map fun j => ⟨H.size, j⟩) (cells + 1 + N) (slots + N + N * M) Q (F0 m (pc + 4) ls (.ref H.size :: rest))) : W p l e R s m args below meth c H locs cells slots Q (F0 m pc ls (.int k :: .int n :: rest)) := by
  intro T hT X
  subst hT
  obtain ⟨cI, cA, kA, hI, hA, hkA, hAk⟩ := lu_aoI hover
  obtain ⟨c2, kI, c0, hI2, hkI, hIk⟩ := Cond.arrayClass_spec harr
  have e2 : c2 = cI := Option.some.inj (hI2.symm.trans hI)
  subst e2
  obtain ⟨c3, hc3, hlink⟩ := Cond.classLink_spec hown hclink e.platform (by rw [X.admits.platform])
  have e3 : c3 = cA := Option.some.inj (hc3.symm.trans hA)
  subst e3
  obtain ⟨r1, r2, r3⟩ := State.classEntry (e := e) X.warmed hlink
  generalize hV : T.vm.noted m.cls index (.cls c3) = V at r1 r2 r3
  obtain ⟨kA2, hkA2, qA⟩ := r2.alike.2.2 _ _ hkA
  obtain ⟨kI2, hkI2, qI⟩ := r2.alike.2.2 _ _ hkI
  have Y := lu_mlS c3 c2 N M (X.noted r2) N
  obtain ⟨f1, f2, f3, f4, f5, f6⟩ := lu_mF_ml c3 c2 N M (T.setVm V) N
  obtain ⟨g1, g2⟩ := X.roomAbove hcells hslots
  obtain ⟨t, a1, b1⟩ := kk c3 c2 _ hA hI f3 f4 f5 f6 _ rfl Y
  refine ⟨t, ?_, b1⟩
  jvm_step X.here [hexec, hdg]
  simp only [Op.multianewarray.sem, wp_bind', W.resolveClassAt_links (State.method?_setTop (F0 m pc ls (.int k :: .int n :: rest)) X.here.top) r1]
  rw [W.popN, if_neg (by decide)]
  refine ⟨F0 m pc ls (.int k :: .int n :: rest), State.topJava?_setTop' (s := T.setVm V) _ X.here.top, [.int n, .int k], rest, rfl, rfl, ?_⟩
  simp only [List.mapM_cons, List.mapM_nil, wp_bind', wp_pure']
  refine lu_mk2 (kA := kA2) (kI := kI2) (cI := c2) (c0 := c0) hkA2 (by rw [qA]; exact hAk) hkI2 (by rw [qI]; exact hIk) hn hN hk hM hN9 hM9 (by rw [Launch.admits_arrayLengthLimit X.admits]; decide) (by rw [Launch.admits_maxHeapBytes X.admits]; decide) g1 g2 (fun d3 acts3 => ?_)
  have eS : ((T.setTop (F0 m pc ls (.int k :: .int n :: rest))).setVm V).setTop (F0 m pc ls rest) = (T.setVm V).setTop (F0 m pc ls rest) := State.setTop_setTop (s := T.setVm V) ..
  show wp _ _ _ _ _ _ (lu_ml c3 c2 N M (((T.setTop (F0 m pc ls (.int k :: .int n :: rest))).setVm V).setTop (F0 m pc ls rest)) N)
  rw [eS, lu_ml_top]
  simp only [wp_bind', W.mark, W.pushRef, State.topJava?_setTop' _ Y.here.top, Option.some.injEq, exists_eq_left', State.setTop_setTop, State.heap_setTop]
  intro acts4
  simp [jvm, Y.here.top]
  exact a1
def lu_gr (cs : Nat → ClassId) (h N M : Nat) : va_W := (h, .inl (cs 3, N, .inr (.inr (.inr (.inr (fun i => some (h + 1 + i))))))) :: (List.range N).map fun j => (h + 1 + j, .inl (cs 0, M, .inl (fun _ => (0 : Int32))))
theorem lu_gr_at {cs : Nat → ClassId} {h N M k : Nat} {q : Nat × va_E} (hk : (lu_gr cs h N M)[k]? = some q) : k < N + 1 ∧ q.1 = h + k ∧ ((k = 0 ∧ q = (h, .inl (cs 3, N, .inr (.inr (.inr (.inr (fun i => some (h + 1 + i)))))))) ∨ (0 < k ∧ q = (h + 1 + (k - 1), .inl (cs 0, M, .inl (fun _ => (0 : Int32)))))) := by
  cases k with
  | zero =>
    cases hk
    exact ⟨by omega, rfl, Or.inl ⟨rfl, rfl⟩⟩
  | succ k =>
    have hk : ((List.range N).map fun j => ((h + 1 + j, .inl (cs 0, M, .inl (fun _ => (0 : Int32)))) : Nat × va_E))[k]? = some q := hk
    rw [List.getElem?_map] at hk
    by_cases h1 : k < N
    · rw [List.getElem?_range h1] at hk
      cases hk
      exact ⟨by omega, by show h + 1 + k = h + (k + 1); omega, Or.inr ⟨by omega, rfl⟩⟩
    · rw [List.getElem?_eq_none (by simp; omega)] at hk
      cases hk
theorem lu_multi {p : Program} {l : Launch} {e : Env} {R : Room} {s : State} {m : MethodId} {args : Array Value} {below : List Frame} {meth : Method} {c : Code} {H : Heap} {locs : List Loc} {cells slots : Nat} {Q : State → Prop} {cc : ByteArray} {pc : Nat} {ls : Array Slot} {rest : List Value} {D : va_G} {cl : List vw_C} {cs : Nat → ClassId} {A : Nat → Prop} {ws : va_W} {H0 : Heap} {own : String} {index : Nat}
    (hexec : p.tables.exec = Jvm.exec) (hb : c.code = cc) (hown : s.vm.findClass own = some m.cls) (hclink : (Cond.classLink own index "[[I").before args s = true) (hover : (Cond.arrayOver (.array .int)).before args s = true) (harr : (Cond.arrayClass .int).before args s = true) (hK : va_K D cl (lu_tys cs) s) (hP : va_P D cl ws H) (hD : va_D A ws) (hS : va_S A H0 H locs) (hA : ∀ q, H0.size ≤ q → A q)
    {n k : Int32} {N M : Nat} (hn : ¬ n < 0) (hN : n.toNatClampNeg = N) (hk : ¬ k < 0) (hM : k.toNatClampNeg = M) (hN9 : N ≤ 1000) (hM9 : M ≤ 1000) (hcells : cells + (1 + N) ≤ R.cells) (hslots : slots + (N + N * M) ≤ R.slots) (hdg : decode cc pc = .ok (.multianewarray index 2, 4))
    (kk : ∀ (H1 : Heap) (locs1 : List Loc), va_P D cl (ws ++ lu_gr cs H.size N M) H1 → va_D A (ws ++ lu_gr cs H.size N M) → va_S A H0 H1 locs1 → W p l e R s m args below meth c H1 locs1 (cells + 1 + N) (slots + N + N * M) Q (F0 m (pc + 4) ls (.ref H.size :: rest))) : W p l e R s m args below meth c H locs cells slots Q (F0 m pc ls (.int k :: .int n :: rest)) := by
  subst hb
  refine lu_mrow hexec hown hclink hover harr hn hN hk hM hN9 hM9 hcells hslots hdg fun cA comp H1 hfA hfC f1 f2 f3 f4 => ?_
  have c0 : s.vm.findClass "[I" = some (cs 0) := (hK.2 0 _ rfl).2
  have c3 : s.vm.findClass "[[I" = some (cs 3) := (hK.2 3 _ rfl).2
  have eA : cA = cs 3 := Option.some.inj (hfA.symm.trans c3)
  have eC : comp = cs 0 := Option.some.inj (hfC.symm.trans c0)
  subst eA
  subst eC
  have hP1 : va_P D cl (ws ++ lu_gr cs H.size N M) H1 := by
    refine va_P.app (hP.kept fun j q hj => f3 q.1 (hP j q hj).lt) (fun j q hj => ?_)
    obtain ⟨h1, h2, ⟨h3, h4⟩ | ⟨h3, h4⟩⟩ := lu_gr_at hj
    · subst h4
      show H1[H.size]? = some (vp_cell (cs 3) (N, .inr (.inr (.inr (.inr (fun i => some (H.size + 1 + i)))))))
      rw [f2, vp_cell_q]
      unfold lu_oA
      exact congrArg some (lu_arrV fun i hi => by rw [if_pos hi]; rfl)
    · subst h4
      show H1[H.size + 1 + (j - 1)]? = some (vp_cell (cs 0) (M, .inl (fun _ => 0)))
      rw [f4 (j - 1) (by omega), vp_cell_i]
      rfl
  have hD1 : va_D A (ws ++ lu_gr cs H.size N M) := by
    refine va_D.app hD ⟨fun i j p q hi hj e => ?_, fun j q hj => ?_⟩ (fun i j p q hi hj e => ?_)
    · obtain ⟨-, h2, -⟩ := lu_gr_at hi
      obtain ⟨-, h3, -⟩ := lu_gr_at hj
      omega
    · obtain ⟨-, h2, -⟩ := lu_gr_at hj
      exact hA _ (Nat.le_trans hS.1 (by omega))
    · have h1 := (hP i p hi).lt
      obtain ⟨-, h3, -⟩ := lu_gr_at hj
      omega
  have hS1 : va_S A H0 H1 (locs ++ (List.range N).map fun j => ⟨H.size, j⟩) := by
    refine ⟨by rw [f1]; exact Nat.le_trans hS.1 (by omega), fun q h1 h2 => by rw [f3 q (Nat.lt_of_lt_of_le h1 hS.1)]; exact hS.2.1 q h1 h2, fun q hq => ?_⟩
    rcases List.mem_append.mp hq with h | h
    · exact hS.2.2 q h
    · obtain ⟨j, -, rfl⟩ := List.mem_map.mp h
      exact hA _ hS.1
  exact kk H1 _ hP1 hD1 hS1

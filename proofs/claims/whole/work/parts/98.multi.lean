/-! ARRAYS OF ARRAYS are made -/
theorem lu_outer (cA : ClassId) (N h : Nat) : ∀ i, Jvm.Free.Multi.outerC cA N h i = arrV cA N (fun j => if j < i then .ref (h + 1 + j) else .null)
  | 0 => by
    unfold Jvm.Free.Multi.outerC
    rw [arrV_new]
    exact lu_arrV fun j _ => by rw [if_neg (by omega)]
  | i + 1 => by
    unfold Jvm.Free.Multi.outerC
    rw [lu_outer cA N h i, arrV_store]
    refine lu_arrV fun j hj => ?_
    unfold updV
    by_cases e : j = i
    · subst e
      rw [if_pos rfl, if_pos (by omega)]
    · rw [if_neg e]
      show (if j < i then Value.ref (h + 1 + j) else Value.null) = _
      by_cases h2 : j < i
      · rw [if_pos h2, if_pos (by omega)]
      · rw [if_neg h2, if_neg (by omega)]
def lu_gr (cs : Nat → ClassId) (h N M : Nat) : va_W := (h, .inl (cs 3, N, .inr (.inr (.inr (.inr (fun i => some (h + 1 + i))))))) :: (List.range N).map fun j => (h + 1 + j, .inl (cs 0, M, .inl (fun _ => (0 : Int32))))
theorem lu_gr_at {cs : Nat → ClassId} {h N M k : Nat} {q : Nat × va_E} (hk : (lu_gr cs h N M)[k]? = some q) : k < N + 1 ∧ q.1 = h + k ∧ ((k = 0 ∧ q = (h, .inl (cs 3, N, .inr (.inr (.inr (.inr (fun i => some (h + 1 + i)))))))) ∨ (0 < k ∧ q = (h + 1 + (k - 1), .inl (cs 0, M, .inl (fun _ => (0 : Int32)))))) := by
  cases k with
  | zero =>
    cases hk
    exact ⟨by omega, rfl, Or.inl ⟨rfl, rfl⟩⟩
  | succ k =>
    have hk : ((List.range N).map fun j => ((h + 1 + j, .inl (cs 0, M, .inl (fun _ => (0 : Int32)))) : Nat × va_E))[k]? = some q := hk
    rw [List.getElem?_map] at hk
    by_cases h1 : k < N
    · rw [List.getElem?_range h1] at hk
      cases hk
      exact ⟨by omega, by show h + 1 + k = h + (k + 1); omega, Or.inr ⟨by omega, rfl⟩⟩
    · rw [List.getElem?_eq_none (by simp; omega)] at hk
      cases hk
theorem lu_multi {p : Program} {l : Launch} {e : Env} {R : Room} {s : State} {m : MethodId} {args : Array Value} {below : List Frame} {meth : Method} {c : Code} {H : Heap} {locs : List Loc} {cells slots : Nat} {Q : State → Prop} {cc : ByteArray} {pc : Nat} {ls : Array Slot} {rest : List Value} {D : va_G} {cl : List vw_C} {cs : Nat → ClassId} {A : Nat → Prop} {ws : va_W} {H0 : Heap} {own : String} {index : Nat}
    (hexec : p.tables.exec = Jvm.exec) (hb : c.code = cc) (hown : s.vm.findClass own = some m.cls) (hclink : (Cond.classLink own index "[[I").before args s = true) (hover : (Cond.arrayOver (.array .int)).before args s = true) (harr : (Cond.arrayClass .int).before args s = true) (hK : va_K D cl (lu_tys cs) s) (hP : va_P D cl ws H) (hD : va_D A ws) (hS : va_S A H0 H locs) (hA : ∀ q, H0.size ≤ q → A q)
    {n k : Int32} {N M : Nat} (hn : ¬ n < 0) (hN : n.toNatClampNeg = N) (hk : ¬ k < 0) (hM : k.toNatClampNeg = M) (hN9 : N ≤ 1000) (hM9 : M ≤ 1000) (hcells : cells + (1 + N) ≤ R.cells) (hslots : slots + (N + N * M) ≤ R.slots) (hdg : decode cc pc = .ok (.multianewarray index 2, 4))
    (kk : ∀ (H1 : Heap) (locs1 : List Loc), va_P D cl (ws ++ lu_gr cs H.size N M) H1 → va_D A (ws ++ lu_gr cs H.size N M) → va_S A H0 H1 locs1 → W p l e R s m args below meth c H1 locs1 (cells + 1 + N) (slots + N + N * M) Q (F0 m (pc + 4) ls (.ref H.size :: rest))) : W p l e R s m args below meth c H locs cells slots Q (F0 m pc ls (.int k :: .int n :: rest)) := by
  subst hb
  intro T hT X
  have hcb : componentBytes FieldType.int = 4 := rfl
  obtain ⟨vm₁, cA, comp, hW, hfA, hfC, hAo, hAi, X', st⟩ := X.multianewarray2K hexec (ty := .int) hown hclink hover harr (g := F0 m pc ls (.int k :: .int n :: rest)) rfl hdg rfl hn hk (by rw [hN]; omega) (by rw [hM, hcb]; omega) (by rw [hM]; omega) rfl rfl (by rw [hN]; exact hcells) (by rw [hN, hM]; exact hslots)
  rw [hN, hM] at X' st
  have c0 : s.vm.findClass "[I" = some (cs 0) := (hK.2 0 _ rfl).2
  have c3 : s.vm.findClass "[[I" = some (cs 3) := (hK.2 3 _ rfl).2
  have eA : cA = cs 3 := Option.some.inj (hfA.symm.trans c3)
  have eC : comp = cs 0 := Option.some.inj (hfC.symm.trans c0)
  subst eA
  subst eC
  obtain ⟨f1, f2, -, -⟩ := Jvm.Free.Multi.fill_facts (T.setVm vm₁) (cs 3) (cs 0) N M (defaultValue .int) N
  have f3 := fun a (ha : a < (T.setVm vm₁).heap.size) => Jvm.Free.Multi.fill_old (T.setVm vm₁) (cs 3) (cs 0) N M (defaultValue .int) ha N
  have f4 := fun j (hj : j < N) => Jvm.Free.Multi.fill_inner (T.setVm vm₁) (cs 3) (cs 0) N M (defaultValue .int) N j hj
  have hTH : (T.setVm vm₁).heap = H := hT
  rw [hTH] at f1 f2 f3 f4
  rw [hT] at X' st
  generalize hF : Jvm.Free.Multi.fill (T.setVm vm₁) (cs 3) (cs 0) N M (defaultValue .int) N = F at *
  have hP1 : va_P D cl (ws ++ lu_gr cs H.size N M) F.heap := by
    refine va_P.app (hP.kept fun j q hj => f3 q.1 (hP j q hj).lt) (fun j q hj => ?_)
    obtain ⟨h1, h2, ⟨h3, h4⟩ | ⟨h3, h4⟩⟩ := lu_gr_at hj
    · subst h4
      show F.heap[H.size]? = some (vp_cell (cs 3) (N, .inr (.inr (.inr (.inr (fun i => some (H.size + 1 + i)))))))
      rw [f2, vp_cell_q, lu_outer]
      exact congrArg some (lu_arrV fun i hi => by rw [if_pos hi]; rfl)
    · subst h4
      show F.heap[H.size + 1 + (j - 1)]? = some (vp_cell (cs 0) (M, .inl (fun _ => 0)))
      rw [f4 (j - 1) (by omega), vp_cell_i]
      unfold Jvm.Free.Multi.innerC
      rw [arrV_new]
      rfl
  have hD1 : va_D A (ws ++ lu_gr cs H.size N M) := by
    refine va_D.app hD ⟨fun i j p q hi hj e => ?_, fun j q hj => ?_⟩ (fun i j p q hi hj e => ?_)
    · obtain ⟨-, h2, -⟩ := lu_gr_at hi
      obtain ⟨-, h3, -⟩ := lu_gr_at hj
      omega
    · obtain ⟨-, h2, -⟩ := lu_gr_at hj
      exact hA _ (Nat.le_trans hS.1 (by omega))
    · have h1 := (hP i p hi).lt
      obtain ⟨-, h3, -⟩ := lu_gr_at hj
      omega
  have hS1 : va_S A H0 F.heap (locs ++ (List.range N).map fun j => ⟨H.size, j⟩) := by
    refine ⟨by rw [f1]; exact Nat.le_trans hS.1 (by omega), fun q h1 h2 => by rw [f3 q (Nat.lt_of_lt_of_le h1 hS.1)]; exact hS.2.1 q h1 h2, fun q hq => ?_⟩
    rcases List.mem_append.mp hq with h | h
    · exact hS.2.2 q h
    · obtain ⟨j, -, rfl⟩ := List.mem_map.mp h
      exact hA _ hS.1
  obtain ⟨t', a1, b1⟩ := kk F.heap _ hP1 hD1 hS1 F rfl X'
  exact ⟨t', st t' a1, b1⟩

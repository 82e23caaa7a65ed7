/-! THE LAW: its start and its end -/
theorem dL_law_0 : decode cL_law 0 = .ok (.new 7, 3) := by decide +kernel
theorem dL_law_3 : decode cL_law 3 = .ok (.dup, 1) := by decide +kernel
theorem dL_law_4 : decode cL_law 4 = .ok (.invokespecial 9, 3) := by decide +kernel
theorem dL_law_7 : decode cL_law 7 = .ok (.astore_n 1, 1) := by decide +kernel
theorem dL_law_8 : decode cL_law 8 = .ok (.new 10, 3) := by decide +kernel
theorem dL_law_11 : decode cL_law 11 = .ok (.dup, 1) := by decide +kernel
theorem dL_law_12 : decode cL_law 12 = .ok (.invokespecial 12, 3) := by decide +kernel
theorem dL_law_15 : decode cL_law 15 = .ok (.astore_n 2, 1) := by decide +kernel
theorem dL_law_16 : decode cL_law 16 = .ok (.iconst 0, 1) := by decide +kernel
theorem dL_law_17 : decode cL_law 17 = .ok (.istore_n 3, 1) := by decide +kernel
theorem dL_law_1849 : decode cL_law 1849 = .ok (.iconst 1, 1) := by decide +kernel
theorem dL_law_1850 : decode cL_law 1850 = .ok (.ireturn, 1) := by decide +kernel
theorem hs_kLa : Cond.classLink RL 7 RX11 ∈ lu_ws := lu_in (List.mem_of_getElem? (i := 102) (by decide +kernel)) (by decide +kernel)
theorem hs_kLb : Cond.classLink RL 10 RX12 ∈ lu_ws := lu_in (List.mem_of_getElem? (i := 1203) (by decide +kernel)) (by decide +kernel)
theorem hs_lLa : Cond.methodLink RL 9 yX11_init ∈ lu_ws := lu_in (List.mem_of_getElem? (i := 104) (by decide +kernel)) (by decide +kernel)
theorem hs_lLb : Cond.methodLink RL 12 yX12_init ∈ lu_ws := lu_in (List.mem_of_getElem? (i := 1205) (by decide +kernel)) (by decide +kernel)
theorem hs_n11 : Cond.instantiable RX11 17 ∈ lu_ws := lu_in (List.mem_of_getElem? (i := 103) (by decide +kernel)) (by decide +kernel)
theorem hs_i11 : Cond.initialized RX11 ∈ lu_ws := lu_in (List.mem_of_getElem? (i := 84) (by decide +kernel)) (by decide +kernel)
theorem hs_m11 : Cond.instanceMethod yX11_init ∈ lu_ws := lu_in (List.mem_of_getElem? (i := 105) (by decide +kernel)) (by decide +kernel)
theorem hs_c11 : Cond.code yX11_init cX11_init 2 none ∈ lu_ws := lu_in (List.mem_of_getElem? (i := 106) (by decide +kernel)) (by decide +kernel)
theorem hs_n12 : Cond.instantiable RX12 42 ∈ lu_ws := lu_in (List.mem_of_getElem? (i := 1204) (by decide +kernel)) (by decide +kernel)
theorem hs_i12 : Cond.initialized RX12 ∈ lu_ws := lu_in (List.mem_of_getElem? (i := 96) (by decide +kernel)) (by decide +kernel)
theorem hs_m12 : Cond.instanceMethod yX12_init ∈ lu_ws := lu_in (List.mem_of_getElem? (i := 1206) (by decide +kernel)) (by decide +kernel)
theorem hs_c12 : Cond.code yX12_init cX12_init 1 none ∈ lu_ws := lu_in (List.mem_of_getElem? (i := 1207) (by decide +kernel)) (by decide +kernel)
theorem lu_DA {A : Nat → Prop} {w1 w2 v1 v2 : va_W} (h : va_D A (w1 ++ w2)) (h1 : ∀ B : Nat → Prop, va_D B w1 → va_D B v1) (h2 : ∀ B : Nat → Prop, va_D B w2 → va_D B v2) : va_D A (v1 ++ v2) := by
  have i1 : ∀ (k : Nat) (q : Nat × va_E), w1[k]? = some q → (w1 ++ w2)[k]? = some q := fun k q hk => by
    rw [List.getElem?_append_left (List.getElem?_eq_some_iff.mp hk).1]; exact hk
  have i2 : ∀ (k : Nat) (q : Nat × va_E), w2[k]? = some q → (w1 ++ w2)[w1.length + k]? = some q := fun k q hk => by
    rw [List.getElem?_append_right (Nat.le_add_right _ _), Nat.add_sub_cancel_left]; exact hk
  have d1 := h1 (fun a => A a ∧ ∃ (k : Nat) (q : Nat × va_E), w1[k]? = some q ∧ q.1 = a) ⟨fun i j p q hi hj e => h.1 i j p q (i1 i p hi) (i1 j q hj) e, fun k q hk => ⟨h.2 _ _ (i1 k q hk), k, q, hk, rfl⟩⟩
  have d2 := h2 (fun a => A a ∧ ∃ (k : Nat) (q : Nat × va_E), w2[k]? = some q ∧ q.1 = a) ⟨fun i j p q hi hj e => by
    have := h.1 _ _ p q (i2 i p hi) (i2 j q hj) e
    omega, fun k q hk => ⟨h.2 _ _ (i2 k q hk), k, q, hk, rfl⟩⟩
  refine va_D.app (d1.weaken fun _ q _ h => h.1) (d2.weaken fun _ q _ h => h.1) (fun i j p q hi hj e => ?_)
  obtain ⟨-, k, x, hk, hx⟩ := d1.2 i p hi
  obtain ⟨-, k2, x2, hk2, hx2⟩ := d2.2 j q hj
  have := h.1 _ _ x x2 (i1 k x hk) (i2 k2 x2 hk2) (by rw [hx, hx2]; exact e)
  have := (List.getElem?_eq_some_iff.mp hk).1
  omega
set_option maxHeartbeats 4000000 in
theorem whole_start {p : Program} {e : Env} {s : State} {m : MethodId} {below : List Frame} {meth : Method} {c : Code} (l : Launch) (hflags : l.flags = flags0) {b L : Nat} {xs : Nat → Int32} (hL : L ≤ 2560) (C0 : lw_At p s m meth c b L xs) : W p l e room_1 s m #[Value.ref b] below meth c s.heap [] 0 0 (lw_Z below #[Value.ref b] s) (entryFrame m ([Value.ref b] : List Value).toArray 4) := by
  obtain ⟨hx, hb, hr, hml, hown, hts0, hX, hbl, hlocks, hgv⟩ := id C0
  have hA : ∀ q : Nat, s.heap.size ≤ q → (fun q : Nat => s.heap.size ≤ q) q := fun _ h => h
  have hbA : ¬ (fun q : Nat => s.heap.size ≤ q) b := Nat.not_le.mpr hbl
  have hts := z_good hts0
  have hown : s.vm.findClass RL = some m.cls := hown
  obtain ⟨cs, hcs⟩ := z_cs hts0
  obtain ⟨D, hDK⟩ := z_Dg hts0
  have hK : va_K D lu_cl (lu_tys cs) s := ⟨hDK, hcs⟩
  obtain ⟨sa, hSx, hN⟩ := z_S (A := fun q : Nat => s.heap.size ≤ q) hts0 hgv (fun a h => Nat.not_le.mpr h)
  have hB : lu_B D cs sa s := ⟨hK, va_AO.of (hts0 (.arrayOver (.object RX3)) (List.mem_of_getElem? (i := 117) (by decide +kernel))), va_AO.of (hts0 (.arrayOver (.object RX1)) (List.mem_of_getElem? (i := 382) (by decide +kernel))), hts0 (.arrayOver (.array .int)) (List.mem_of_getElem? (i := 230) (by decide +kernel)), hN⟩
  have hS : va_S (fun q : Nat => s.heap.size ≤ q) s.heap s.heap [] := va_S.rf
  have hP : va_P D lu_cl [] s.heap := fun k q h => by simp at h
  have hD : va_D (fun q : Nat => s.heap.size ≤ q) [] := ⟨fun i j p q h => by simp at h, fun k q h => by simp at h⟩
  have hl := lv_entry ([.ref b]) (n := 4) (Nat.le_of_ble_eq_true rfl)
  rw [lg_entry_eq]
  generalize (lg_sl ([.ref b]) ++ List.replicate (4 - (lg_sl ([.ref b])).length) Slot.unset).toArray = ls at hl ⊢
  have hl : lv_has ls 4 [(0, .ref b)] := hl
  refine va_new (ci := 11) (fs := lu_uraw) hx hb hts (lu_lay lu_lay11) tyX11 tyX11_ok hown (hts _ hs_kLa) (hts _ hs_n11) (hts _ hs_i11) hK hP hD hS hA rfl (fun j hj => by
    rcases (show j = 0 ∨ j = 1 ∨ j = 2 ∨ j = 3 ∨ j = 4 ∨ j = 5 ∨ j = 6 ∨ j = 7 ∨ j = 8 ∨ j = 9 ∨ j = 10 ∨ j = 11 ∨ j = 12 ∨ j = 13 ∨ j = 14 ∨ j = 15 ∨ j = 16 by omega) with rfl | rfl | rfl | rfl | rfl | rfl | rfl | rfl | rfl | rfl | rfl | rfl | rfl | rfl | rfl | rfl | rfl <;> rfl) (Nat.le_of_ble_eq_true rfl) (Nat.le_of_ble_eq_true rfl) dL_law_0 (fun u1 H hP hD hS => ?_)
  refine lv_dup hx hb dL_law_3 rfl ?_
  refine lu_ctor (g := F0 m 4 ls [.ref u1, .ref u1]) hP hD hS hA (va_runI (As := []) (rest := [.ref u1]) ⟨hx, hb, hml, hown, hts⟩ (c11_init l D cs sa u1 H.size) (cwI 0 hts (lu_gi (fun w hw => by
    rcases List.mem_cons.mp hw with rfl | hw
    · exact hs_c11
    · exact hw)) rfl rfl rfl (hts _ hs_i11) (hts _ hs_lLa) (hts _ hs_m11) rfl ⟨by decide, by decide, by decide +kernel⟩ ⟨Nat.le_of_ble_eq_true rfl, Nat.le_of_ble_eq_true rfl⟩) ⟨fun a U g mk q => by
    obtain ⟨q0, q1, qP, qB⟩ := q
    exact ⟨q0, q1, qP, lu_B.same (u := U) (U := U.calling g mk a) rfl qB⟩, fun U hU hW => ⟨rfl, by rw [hU], by
      rw [hU]
      exact lu_Pr hP, lu_B.warm hW hB⟩⟩ rfl rfl hl.1 rfl (lv_room (Nat.le_of_ble_eq_true rfl)) dL_law_4 ⟨Nat.le_of_ble_eq_true rfl, Nat.le_of_ble_eq_true rfl⟩) (fun w1 H locs hw1 hP hD hS => ?_)
  have hP : va_P D lu_cl w1 H := hP
  have hD : va_D (fun q : Nat => s.heap.size ≤ q) w1 := hD
  refine lv_astore_n (lv' := [(1, .ref u1), (0, .ref b)]) hx hb dL_law_7 rfl hl (by decide) rfl (fun ls hl => ?_)
  refine va_new (ci := 12) (fs := lu_mraw) hx hb hts (lu_lay lu_lay12) tyX12 tyX12_ok hown (hts _ hs_kLb) (hts _ hs_n12) (hts _ hs_i12) hK hP hD hS hA rfl (fun j hj => by
    rcases (show j = 0 ∨ j = 1 ∨ j = 2 ∨ j = 3 ∨ j = 4 ∨ j = 5 ∨ j = 6 ∨ j = 7 ∨ j = 8 ∨ j = 9 ∨ j = 10 ∨ j = 11 ∨ j = 12 ∨ j = 13 ∨ j = 14 ∨ j = 15 ∨ j = 16 ∨ j = 17 ∨ j = 18 ∨ j = 19 ∨ j = 20 ∨ j = 21 ∨ j = 22 ∨ j = 23 ∨ j = 24 ∨ j = 25 ∨ j = 26 ∨ j = 27 ∨ j = 28 ∨ j = 29 ∨ j = 30 ∨ j = 31 ∨ j = 32 ∨ j = 33 ∨ j = 34 ∨ j = 35 ∨ j = 36 ∨ j = 37 ∨ j = 38 ∨ j = 39 ∨ j = 40 ∨ j = 41 by omega) with rfl | rfl | rfl | rfl | rfl | rfl | rfl | rfl | rfl | rfl | rfl | rfl | rfl | rfl | rfl | rfl | rfl | rfl | rfl | rfl | rfl | rfl | rfl | rfl | rfl | rfl | rfl | rfl | rfl | rfl | rfl | rfl | rfl | rfl | rfl | rfl | rfl | rfl | rfl | rfl | rfl | rfl <;> rfl) (Nat.le_of_ble_eq_true rfl) (Nat.le_of_ble_eq_true rfl) dL_law_8 (fun u2 H hP hD hS => ?_)
  refine lv_dup hx hb dL_law_11 rfl ?_
  refine lu_ctor (g := F0 m 12 ls [.ref u2, .ref u2]) hP hD hS hA (va_runI (As := []) (rest := [.ref u2]) ⟨hx, hb, hml, hown, hts⟩ (c12_init l D cs u2 H.size) (cwI 0 hts (lu_gi (fun w hw => by
    rcases List.mem_cons.mp hw with rfl | hw
    · exact hs_c12
    · exact hw)) rfl rfl rfl (hts _ hs_i12) (hts _ hs_lLb) (hts _ hs_m12) rfl ⟨by decide, by decide, by decide +kernel⟩ ⟨Nat.le_of_ble_eq_true rfl, Nat.le_of_ble_eq_true rfl⟩) ⟨fun a U g mk q => by
    obtain ⟨q0, q1, qP, qK⟩ := q
    exact ⟨q0, q1, qP, va_K.moved (u := U) (U := U.calling g mk a) (Vm.Alike.refl U.vm) qK⟩, fun U hU hW => ⟨rfl, by rw [hU], by
      rw [hU]
      exact lu_Pr hP, va_K.moved hW.alike hK⟩⟩ rfl rfl hl.1 rfl (lv_room (Nat.le_of_ble_eq_true rfl)) dL_law_12 ⟨Nat.le_of_ble_eq_true rfl, Nat.le_of_ble_eq_true rfl⟩) (fun w2 H locs hw2 hP hD hS => ?_)
  refine lv_astore_n (lv' := [(2, .ref u2), (1, .ref u1), (0, .ref b)]) hx hb dL_law_15 rfl hl (by decide) rfl (fun ls hl => ?_)
  refine lv_iconst (v := 0) hx hb dL_law_16 (by decide) ?_
  refine lv_istore_n (lv' := [(3, .int 0), (2, .ref u2), (1, .ref u1), (0, .ref b)]) hx hb dL_law_17 rfl hl (by decide) rfl (fun ls hl => ?_)
  obtain ⟨ρ, hρ, p1, d1⟩ := lu_uN.W hw1
  obtain ⟨σ, hσ, p2, d2⟩ := lu_mN.W hw2
  have hPW : va_P D lu_cl (lu_W lu_TC cs ρ lu_m0 ++ lu_W lu_TM cs σ lu_n0) H := va_P.app (p1 D H (lu_Pl hP)) (p2 D H (lu_Pr hP))
  have hDW := lu_DA hD d1 d2
  have X : lw_X (p, l, e, room_1, s, m, #[Value.ref b], below, meth, c, (fun q : Nat => s.heap.size ≤ q), D, cs, sa, 4) 2000 80000 b L xs := ⟨⟨hx, hb, hml, rfl, hown, hts, hK, hlocks, fun q h => h, hSx, hN, Nat.le_of_ble_eq_true rfl, Nat.le_of_ble_eq_true rfl⟩, hX, hbl, hbA, hL⟩
  subst hσ
  refine lw_loop (Q := lw_Z below #[Value.ref b] s) (u1 := u1) (C := 10000) (Z := 100000) X ⟨Nat.le_of_ble_eq_true rfl, Nat.le_of_ble_eq_true rfl⟩ (fun ρ m2 n2 k z i hk hz => ?_) 512 ρ lu_m0 lu_n0 _ _ 0 hρ (Nat.zero_le _) (by omega) lu_rel0 (by exact Nat.le_of_ble_eq_true rfl) (by exact Nat.le_of_ble_eq_true rfl) H locs ls hl hPW hDW hS
  intro H locs ls hl hP hD hS
  have hC1 : (10000 : Nat) ≤ 636345 := Nat.le_of_ble_eq_true rfl
  have hC2 : (100000 : Nat) ≤ 7193213 := Nat.le_of_ble_eq_true rfl
  refine va_forget (fun q hq => hS.2.2 q hq) ?_
  refine W.widen (k := 636345) (n := 7193213) (Nat.le_trans hk hC1) (Nat.le_trans hz hC2) ?_
  refine lv_iconst (v := 1) hx hb dL_law_1849 (by decide) ?_
  exact lw_ret hx hb hr hlocks dL_law_1850

/-! CONSTRUCTORS of the start: World -/
theorem dX10_init_0 : decode cX10_init 0 = .ok (.aload_n 0, 1) := by decide +kernel
theorem dX10_init_1 : decode cX10_init 1 = .ok (.invokespecial 3, 3) := by decide +kernel
theorem dX10_init_4 : decode cX10_init 4 = .ok (.aload_n 0, 1) := by decide +kernel
theorem dX10_init_5 : decode cX10_init 5 = .ok (.bipush 6, 2) := by decide +kernel
theorem dX10_init_7 : decode cX10_init 7 = .ok (.anewarray 9, 3) := by decide +kernel
theorem dX10_init_10 : decode cX10_init 10 = .ok (.putfield 11, 3) := by decide +kernel
theorem dX10_init_13 : decode cX10_init 13 = .ok (.iconst 0, 1) := by decide +kernel
theorem dX10_init_14 : decode cX10_init 14 = .ok (.istore_n 2, 1) := by decide +kernel
theorem dX10_init_15 : decode cX10_init 15 = .ok (.iload_n 2, 1) := by decide +kernel
theorem dX10_init_16 : decode cX10_init 16 = .ok (.bipush 6, 2) := by decide +kernel
theorem dX10_init_18 : decode cX10_init 18 = .ok (.if_icmp .ge 23, 3) := by decide +kernel
theorem dX10_init_21 : decode cX10_init 21 = .ok (.aload_n 0, 1) := by decide +kernel
theorem dX10_init_22 : decode cX10_init 22 = .ok (.getfield 11, 3) := by decide +kernel
theorem dX10_init_25 : decode cX10_init 25 = .ok (.iload_n 2, 1) := by decide +kernel
theorem dX10_init_26 : decode cX10_init 26 = .ok (.iconst 0, 1) := by decide +kernel
theorem dX10_init_27 : decode cX10_init 27 = .ok (.iload_n 2, 1) := by decide +kernel
theorem dX10_init_28 : decode cX10_init 28 = .ok (.iconst 1, 1) := by decide +kernel
theorem dX10_init_29 : decode cX10_init 29 = .ok (.iconst 1, 1) := by decide +kernel
theorem dX10_init_30 : decode cX10_init 30 = .ok (.aload_n 1, 1) := by decide +kernel
theorem dX10_init_31 : decode cX10_init 31 = .ok (.invokestatic 17, 3) := by decide +kernel
theorem dX10_init_34 : decode cX10_init 34 = .ok (.aastore, 1) := by decide +kernel
theorem dX10_init_35 : decode cX10_init 35 = .ok (.iinc 2 1, 3) := by decide +kernel
theorem dX10_init_38 : decode cX10_init 38 = .ok (.goto (-23), 3) := by decide +kernel
theorem dX10_init_41 : decode cX10_init 41 = .ok (.aload_n 0, 1) := by decide +kernel
theorem dX10_init_42 : decode cX10_init 42 = .ok (.bipush 10, 2) := by decide +kernel
theorem dX10_init_44 : decode cX10_init 44 = .ok (.newarray .int, 2) := by decide +kernel
theorem dX10_init_46 : decode cX10_init 46 = .ok (.putfield 21, 3) := by decide +kernel
theorem dX10_init_49 : decode cX10_init 49 = .ok (.aload_n 0, 1) := by decide +kernel
theorem dX10_init_50 : decode cX10_init 50 = .ok (.bipush 10, 2) := by decide +kernel
theorem dX10_init_52 : decode cX10_init 52 = .ok (.newarray .int, 2) := by decide +kernel
theorem dX10_init_54 : decode cX10_init 54 = .ok (.putfield 25, 3) := by decide +kernel
theorem dX10_init_57 : decode cX10_init 57 = .ok (.aload_n 0, 1) := by decide +kernel
theorem dX10_init_58 : decode cX10_init 58 = .ok (.bipush 10, 2) := by decide +kernel
theorem dX10_init_60 : decode cX10_init 60 = .ok (.newarray .int, 2) := by decide +kernel
theorem dX10_init_62 : decode cX10_init 62 = .ok (.putfield 28, 3) := by decide +kernel
theorem dX10_init_65 : decode cX10_init 65 = .ok (.aload_n 0, 1) := by decide +kernel
theorem dX10_init_66 : decode cX10_init 66 = .ok (.bipush 10, 2) := by decide +kernel
theorem dX10_init_68 : decode cX10_init 68 = .ok (.newarray .int, 2) := by decide +kernel
theorem dX10_init_70 : decode cX10_init 70 = .ok (.putfield 31, 3) := by decide +kernel
theorem dX10_init_73 : decode cX10_init 73 = .ok (.aload_n 0, 1) := by decide +kernel
theorem dX10_init_74 : decode cX10_init 74 = .ok (.bipush 10, 2) := by decide +kernel
theorem dX10_init_76 : decode cX10_init 76 = .ok (.newarray .int, 2) := by decide +kernel
theorem dX10_init_78 : decode cX10_init 78 = .ok (.putfield 34, 3) := by decide +kernel
theorem dX10_init_81 : decode cX10_init 81 = .ok (.aload_n 0, 1) := by decide +kernel
theorem dX10_init_82 : decode cX10_init 82 = .ok (.bipush 6, 2) := by decide +kernel
theorem dX10_init_84 : decode cX10_init 84 = .ok (.newarray .int, 2) := by decide +kernel
theorem dX10_init_86 : decode cX10_init 86 = .ok (.putfield 37, 3) := by decide +kernel
theorem dX10_init_89 : decode cX10_init 89 = .ok (.aload_n 0, 1) := by decide +kernel
theorem dX10_init_90 : decode cX10_init 90 = .ok (.bipush 12, 2) := by decide +kernel
theorem dX10_init_92 : decode cX10_init 92 = .ok (.putfield 40, 3) := by decide +kernel
theorem dX10_init_95 : decode cX10_init 95 = .ok (.aload_n 0, 1) := by decide +kernel
theorem dX10_init_96 : decode cX10_init 96 = .ok (.iconst 1, 1) := by decide +kernel
theorem dX10_init_97 : decode cX10_init 97 = .ok (.putfield 44, 3) := by decide +kernel
theorem dX10_init_100 : decode cX10_init 100 = .ok (.aload_n 0, 1) := by decide +kernel
theorem dX10_init_101 : decode cX10_init 101 = .ok (.bipush 6, 2) := by decide +kernel
theorem dX10_init_103 : decode cX10_init 103 = .ok (.iconst 4, 1) := by decide +kernel
theorem dX10_init_104 : decode cX10_init 104 = .ok (.multianewarray 47 2, 4) := by decide +kernel
theorem dX10_init_108 : decode cX10_init 108 = .ok (.putfield 49, 3) := by decide +kernel
theorem dX10_init_111 : decode cX10_init 111 = .ok (.aload_n 0, 1) := by decide +kernel
theorem dX10_init_112 : decode cX10_init 112 = .ok (.bipush 6, 2) := by decide +kernel
theorem dX10_init_114 : decode cX10_init 114 = .ok (.bipush 6, 2) := by decide +kernel
theorem dX10_init_116 : decode cX10_init 116 = .ok (.multianewarray 47 2, 4) := by decide +kernel
theorem dX10_init_120 : decode cX10_init 120 = .ok (.putfield 52, 3) := by decide +kernel
theorem dX10_init_123 : decode cX10_init 123 = .ok (.aload_n 0, 1) := by decide +kernel
theorem dX10_init_124 : decode cX10_init 124 = .ok (.new 55, 3) := by decide +kernel
theorem dX10_init_127 : decode cX10_init 127 = .ok (.dup, 1) := by decide +kernel
theorem dX10_init_128 : decode cX10_init 128 = .ok (.invokespecial 57, 3) := by decide +kernel
theorem dX10_init_131 : decode cX10_init 131 = .ok (.putfield 58, 3) := by decide +kernel
theorem dX10_init_134 : decode cX10_init 134 = .ok (.aload_n 0, 1) := by decide +kernel
theorem dX10_init_135 : decode cX10_init 135 = .ok (.new 62, 3) := by decide +kernel
theorem dX10_init_138 : decode cX10_init 138 = .ok (.dup, 1) := by decide +kernel
theorem dX10_init_139 : decode cX10_init 139 = .ok (.invokespecial 64, 3) := by decide +kernel
theorem dX10_init_142 : decode cX10_init 142 = .ok (.putfield 65, 3) := by decide +kernel
theorem dX10_init_145 : decode cX10_init 145 = .ok (.aload_n 0, 1) := by decide +kernel
theorem dX10_init_146 : decode cX10_init 146 = .ok (.iconst 5, 1) := by decide +kernel
theorem dX10_init_147 : decode cX10_init 147 = .ok (.newarray .int, 2) := by decide +kernel
theorem dX10_init_149 : decode cX10_init 149 = .ok (.putfield 69, 3) := by decide +kernel
theorem dX10_init_152 : decode cX10_init 152 = .ok (.return_, 1) := by decide +kernel
theorem hs_o10 : Cond.methodLink RX10 3 objectInit ∈ lu_ws := lu_in (List.mem_of_getElem? (i := 115) (by decide +kernel)) (by decide +kernel)
theorem hs_k10a : Cond.classLink RX10 9 RX3 ∈ lu_ws := lu_in (List.mem_of_getElem? (i := 116) (by decide +kernel)) (by decide +kernel)
theorem hs_k10b : Cond.classLink RX10 47 "[[I" ∈ lu_ws := lu_in (List.mem_of_getElem? (i := 229) (by decide +kernel)) (by decide +kernel)
theorem hs_k10c : Cond.classLink RX10 55 RX1 ∈ lu_ws := lu_in (List.mem_of_getElem? (i := 231) (by decide +kernel)) (by decide +kernel)
theorem hs_k10d : Cond.classLink RX10 62 RX6 ∈ lu_ws := lu_in (List.mem_of_getElem? (i := 269) (by decide +kernel)) (by decide +kernel)
theorem hs_l10 : Cond.methodLink RX10 64 yX6_init ∈ lu_ws := lu_in (List.mem_of_getElem? (i := 271) (by decide +kernel)) (by decide +kernel)

theorem lu_Pr {D : va_G} {cl : List vw_C} {ws wz : va_W} {H : Heap} (h : va_P D cl (ws ++ wz) H) : va_P D cl wz H := fun k q hk => h (ws.length + k) q (by rw [List.getElem?_append_right (Nat.le_add_right _ _), Nat.add_sub_cancel_left]; exact hk)
theorem lu_Pl {D : va_G} {cl : List vw_C} {ws wz : va_W} {H : Heap} (h : va_P D cl (ws ++ wz) H) : va_P D cl ws H := fun k q hk => h k q (by rw [List.getElem?_append_left (List.getElem?_eq_some_iff.mp hk).1]; exact hk)
theorem lu_last {x y : Nat × va_E} {rest : va_W} (z : Nat × va_E) : (x :: y :: (rest ++ [z]))[rest.length + 2]? = some z := by
  show (rest ++ [z])[rest.length]? = some z
  rw [List.getElem?_append_right (Nat.le_refl _), Nat.sub_self]; rfl
section MDW
variable {p : Program} {l : Launch} {e : Env} {R : Room} {s : State} {m : MethodId} {args : Array Value} {below : List Frame} {meth : Method} {c : Code} {H : Heap} {locs : List Loc} {cells slots : Nat} {Q : State → Prop} {rest : List Value} {D : va_G} {A : Nat → Prop} {ws : va_W} {H0 : Heap} {cc : ByteArray} {pc nL : Nat} {ls : Array Slot} {cs : Nat → ClassId} {own : String} {lv : List (Nat × Value)}
/-- behind made, whatever stands -/
theorem lu_mdB {kd u g w : Int32} {rr : Nat} {gf : JFrame} (hP : va_P D lu_cl ws H) (hD : va_D A ws) (hS : va_S A H0 H locs) (hA : ∀ x, H0.size ≤ x → A x)
    (hr : va_Run p l e R s m args below meth c H locs cells slots 1 6 gf rest (lu_mQ D H.size kd u g w rr #[]) (fun q => H.size ≤ q))
    (kk : ∀ (a : Nat) (H1 : Heap) (locs1 : List Loc), va_P D lu_cl (ws ++ [(a, .inr (lu_hk kd, lu_hnew (lu_kd kd) u g w rr))]) H1 → va_D A (ws ++ [(a, .inr (lu_hk kd, lu_hnew (lu_kd kd) u g w rr))]) → va_S A H0 H1 locs1 → W p l e R s m args below meth c H1 locs1 (cells + 1) (slots + 6) Q { gf with pc := gf.pc + 3, stack := .ref a :: rest }) : W p l e R s m args below meth c H locs cells slots Q gf := by
  intro T0 hT X0
  obtain ⟨v, st₀, t, T', L, h0, X', hL, e1, e2, ⟨a, hv, ha, hp, hz, hkp⟩, st⟩ := hr T0 hT X0
  cases hv
  rw [h0] at hz hkp
  have hP1 : va_P D lu_cl (ws ++ [(a, .inr (lu_hk kd, lu_hnew (lu_kd kd) u g w rr))]) T'.heap := by
    rw [e1]
    exact (hP.kept fun j q hj => hkp q.1 (hP j q hj).lt (fun z => by have := (hP j q hj).lt; omega)).app hp
  have hD1 : va_D A (ws ++ [(a, .inr (lu_hk kd, lu_hnew (lu_kd kd) u g w rr))]) := by
    refine va_D.app hD (lu_D1 (hA a (Nat.le_trans hS.1 ha))) (fun i j x y hi hj h => ?_)
    have h1 := (List.getElem?_eq_some_iff.mp hj).1
    simp only [List.length_singleton] at h1
    rw [show j = 0 by omega] at hj
    cases hj
    have := (hP i x hi).lt
    have h : x.1 = a := h
    omega
  obtain ⟨t2, a1, b1⟩ := kk a T'.heap (locs ++ L) hP1 hD1 ⟨Nat.le_trans hS.1 (by rw [e1]; exact hz), fun q h1 h2 => by rw [e1, hkp q (Nat.lt_of_lt_of_le h1 hS.1) (fun z => h2 (hA q (Nat.le_trans hS.1 z)))]; exact hS.2.1 q h1 h2, fun q hq => by
    rcases List.mem_append.mp hq with h | h
    · exact hS.2.2 q h
    · exact hA _ (Nat.le_trans hS.1 (hL q h))⟩ T' rfl X'
  exact ⟨t2, st t2 a1, b1⟩
end MDW
def lu_wraw : List Value := [.int 0, .null, .int 0, .null, .null, .null, .null, .null, .null, .int 0, .int 0, .int 0, .null, .null, .null, .null, .null]
def lu_up6 (a b c d e f : Nat) : Nat → Option Nat := va_up (va_up (va_up (va_up (va_up (va_up (fun _ => none) (0 : Int32).toNatClampNeg (some a)) (1 : Int32).toNatClampNeg (some b)) (2 : Int32).toNatClampNeg (some c)) (3 : Int32).toNatClampNeg (some d)) (4 : Int32).toNatClampNeg (some e)) (5 : Int32).toNatClampNeg (some f)
def lu_ha (i : Int32) (rr : Nat) : va_E := .inr (lu_hk 0, lu_hnew (lu_kd 0) i 1 1 rr)
def lu_ia (cs : Nat → ClassId) (n : Nat) : va_E := .inl (cs 0, n, .inl (fun _ => (0 : Int32)))
def lu_wN (cs : Nat → ClassId) (h0 rr : Nat) (wn : va_W) : Prop := ∃ (pe : Nat) (k a t : Nat → Nat) (co ru fa : Nat) (r : Nat → Nat), wn = [(h0, .inr (10, [.int 0, .ref pe, .int 0, .ref (a 0), .ref (a 1), .ref (a 2), .ref (a 3), .ref (a 4), .ref (a 5), .int 12, .int 1, .int 0, .ref (t 0), .ref (t 1), .ref co, .ref ru, .ref fa])), (pe, .inl (cs 1, 6, .inr (.inr (.inr (.inr (lu_up6 (k 0) (k 1) (k 2) (k 3) (k 4) (k 5))))))), (k 0, lu_ha 0 rr), (k 1, lu_ha 1 rr), (k 2, lu_ha 2 rr), (k 3, lu_ha 3 rr), (k 4, lu_ha 4 rr), (k 5, lu_ha 5 rr), (a 0, lu_ia cs 10), (a 1, lu_ia cs 10), (a 2, lu_ia cs 10), (a 3, lu_ia cs 10), (a 4, lu_ia cs 10), (a 5, lu_ia cs 6)] ++ lu_gr cs (t 0) 6 4 ++ lu_gr cs (t 1) 6 6 ++ [(co, .inr (1, lu_craw))] ++ lu_rW cs ru (r 0) (r 1) (r 2) (r 3) (r 4) ++ [(fa, lu_ia cs 5)]
def lu_at6 (a b c d e f : Nat) : Nat → Nat := fun i => if i = 0 then a else if i = 1 then b else if i = 2 then c else if i = 3 then d else if i = 4 then e else f
def lu_R10 : Room := { frames := 5, cells := 35, slots := 420, locals := 119 }
section TURN
variable {p : Program} {l : Launch} {e : Env} {s : State} {m : MethodId} {args : Array Value} {below : List Frame} {meth : Method} {c : Code} {H : Heap} {locs : List Loc} {cells slots : Nat} {Q : State → Prop} {rest : va_W} {D : va_G} {A : Nat → Prop} {H0 : Heap} {ls : Array Slot} {cs : Nat → ClassId} {h0 rr pe : Nat}
/-- a turn of the people's loop -/
theorem c10_turn {fs : List Value} {f : Nat → Option Nat} (S : CallFix p m c cX10_init 3 s args lu_ws RX10) (hK : va_K D lu_cl (lu_tys cs) s) (hnm : va_Nw (.methodLinkNest RX10 17 yX11_made RX11) s) (hA : ∀ q, H0.size ≤ q → A q) {i i' : Int32} (hi : ¬ (6 : Int32) ≤ i) (hi2 : vp_in i 6) (hi' : i + 1 = i') (hfs : fs[1]? = some (.ref pe))
    (hl : lv_has ls 3 [(2, .int i), (0, .ref h0), (1, .ref rr)]) (hcl : cells + 1 ≤ 35) (hsl : slots + 6 ≤ 420)
    (hP : va_P D lu_cl ((h0, .inr (10, fs)) :: (pe, .inl (cs 1, 6, .inr (.inr (.inr (.inr f))))) :: rest) H) (hD : va_D A ((h0, .inr (10, fs)) :: (pe, .inl (cs 1, 6, .inr (.inr (.inr (.inr f))))) :: rest)) (hS : va_S A H0 H locs)
    (kk : ∀ (k : Nat) (H : Heap) (locs : List Loc) (ls : Array Slot), lv_has ls 3 [(2, .int i'), (0, .ref h0), (1, .ref rr)] → va_P D lu_cl ((h0, .inr (10, fs)) :: (pe, .inl (cs 1, 6, .inr (.inr (.inr (.inr (va_up f i.toNatClampNeg (some k))))))) :: (rest ++ [(k, lu_ha i rr)])) H → va_D A ((h0, .inr (10, fs)) :: (pe, .inl (cs 1, 6, .inr (.inr (.inr (.inr (va_up f i.toNatClampNeg (some k))))))) :: (rest ++ [(k, lu_ha i rr)])) → va_S A H0 H locs → W p l e lu_R10 s m args below meth c H locs (cells + 1) (slots + 6) Q (F0 m 15 ls [])) :
    W p l e lu_R10 s m args below meth c H locs cells slots Q (F0 m 15 ls []) := by
  obtain ⟨hx, hb, hml, hown, hts⟩ := S
  have hc : lu_cl[10]? = some (RX10, TX10, 17) := rfl
  have hc3 : lu_cl[3]? = some (RX3, TX3, 6) := rfl
  have hin := lu_lay lu_lay10
  refine lv_iload_n hx hb dX10_init_15 rfl (lv_at hl 0 rfl) ?_
  refine lv_bipush (v := 6) hx hb dX10_init_16 (by decide) ?_
  refine lv_icmp_ge (tgt := 41) hx hb dX10_init_18 (by decide) (fun h => absurd h hi) (fun _ => ?_)
  refine lv_aload_n hx hb dX10_init_21 rfl (lv_at hl 1 rfl) ?_
  refine va_get (D := D) hx hb hts hin hown hK hP 0 rfl hc 1 (by decide) (hts _ qfl10_11) (fun _ h => h) hfs dX10_init_22 ?_
  refine lv_iload_n hx hb dX10_init_25 rfl (lv_at hl 0 rfl) ?_
  refine lv_iconst (v := 0) hx hb dX10_init_26 (by decide) ?_
  refine lv_iload_n hx hb dX10_init_27 rfl (lv_at hl 0 rfl) ?_
  refine lv_iconst (v := 1) hx hb dX10_init_28 (by decide) ?_
  refine lv_iconst (v := 1) hx hb dX10_init_29 (by decide) ?_
  refine lv_aload_n hx hb dX10_init_30 rfl (lv_at hl 2 rfl) ?_
  refine lu_mdB (kd := 0) (u := i) (g := 1) (w := 1) (rr := rr) (gf := F0 m 31 ls [.ref rr, .int 1, .int 1, .int i, .int 0, .int i, .ref pe]) hP hD hS hA (va_runSN (As := [.int 0, .int i, .int 1, .int 1, .ref rr]) (rest := [.int i, .ref pe]) ⟨hx, hb, hml, hown, hts⟩ (c11_made l D cs H.size rr 0 i 1 1) ⟨va_cnB (host := RX11) 5 hts (lu_gi (fun w hw => by
    rcases List.mem_cons.mp hw with rfl | hw
    · exact hw_cm
    · exact hw)) rfl rfl rfl hnm (hts _ hw_i11) ⟨by decide, by decide, by decide +kernel⟩ ⟨by decide, by decide⟩, hts _ hw_st, trivial⟩ ⟨fun a U g mk q => by
    obtain ⟨q0, q1, qK⟩ := q
    exact ⟨q0, q1, va_K.moved (u := U) (U := U.calling g mk a) (Vm.Alike.refl U.vm) qK⟩, fun U hU hW => ⟨rfl, by rw [hU], va_K.moved hW.alike hK⟩⟩ rfl rfl hl.1 rfl (lv_room (Nat.le_of_ble_eq_true rfl)) dX10_init_31 ⟨hcl, hsl⟩) (fun k H locs hP hD hS => ?_)
  have hP : va_P D lu_cl ((h0, .inr (10, fs)) :: (pe, .inl (cs 1, 6, .inr (.inr (.inr (.inr f))))) :: (rest ++ [(k, .inr (lu_hk 0, lu_hnew (lu_kd 0) i 1 1 rr))])) H := hP
  have hD : va_D A ((h0, .inr (10, fs)) :: (pe, .inl (cs 1, 6, .inr (.inr (.inr (.inr f))))) :: (rest ++ [(k, .inr (lu_hk 0, lu_hnew (lu_kd 0) i 1 1 rr))])) := hD
  refine va_astq (r := (RX3, TX3, 6)) hx hb hK hP hD hS 1 1 (rest.length + 2) 3 rfl rfl (lu_last _) hc3 (i := i) hi2 dX10_init_34 (fun H locs hP hD hS => ?_)
  refine lv_iinc (v := i') (lv' := [(2, .int i'), (0, .ref h0), (1, .ref rr)]) (k := 0) hx hb dX10_init_35 hl rfl hi' (by decide) rfl (fun ls hl => ?_)
  refine lv_goto (tgt := 15) hx hb dX10_init_38 rfl ?_
  exact kk k H locs ls hl hP hD hS

theorem c10_A (S : CallFix p m c cX10_init 3 s args lu_ws RX10) (hni : meth.name = "<init>") (hK : va_K D lu_cl (lu_tys cs) s) (hA : ∀ q, H0.size ≤ q → A q) {lv : List (Nat × Value)} (hl : lv_has ls 3 lv) (h00 : lv[1]? = some (0, .ref h0)) (hcl : cells + 6 ≤ 35) (hsl : slots + 56 ≤ 420) (hP : va_P D lu_cl ((h0, .inr (10, [.int 0, .ref pe, .int 0, .null, .null, .null, .null, .null, .null, .int 0, .int 0, .int 0, .null, .null, .null, .null, .null])) :: rest) H) (hD : va_D A ((h0, .inr (10, [.int 0, .ref pe, .int 0, .null, .null, .null, .null, .null, .null, .int 0, .int 0, .int 0, .null, .null, .null, .null, .null])) :: rest)) (hS : va_S A H0 H locs)
    (kk : ∀ (a0 a1 a2 a3 a4 a5 : Nat) (H : Heap) (locs : List Loc), va_P D lu_cl ((h0, .inr (10, [.int 0, .ref pe, .int 0, .ref a0, .ref a1, .ref a2, .ref a3, .ref a4, .ref a5, .int 0, .int 0, .int 0, .null, .null, .null, .null, .null])) :: ((((((rest ++ [(a0, lu_ia cs 10)]) ++ [(a1, lu_ia cs 10)]) ++ [(a2, lu_ia cs 10)]) ++ [(a3, lu_ia cs 10)]) ++ [(a4, lu_ia cs 10)]) ++ [(a5, lu_ia cs 6)])) H → va_D A ((h0, .inr (10, [.int 0, .ref pe, .int 0, .ref a0, .ref a1, .ref a2, .ref a3, .ref a4, .ref a5, .int 0, .int 0, .int 0, .null, .null, .null, .null, .null])) :: ((((((rest ++ [(a0, lu_ia cs 10)]) ++ [(a1, lu_ia cs 10)]) ++ [(a2, lu_ia cs 10)]) ++ [(a3, lu_ia cs 10)]) ++ [(a4, lu_ia cs 10)]) ++ [(a5, lu_ia cs 6)])) → va_S A H0 H locs → W p l e lu_R10 s m args below meth c H locs (cells + 6) (slots + 56) Q (F0 m 89 ls [])) :
    W p l e lu_R10 s m args below meth c H locs cells slots Q (F0 m 41 ls []) := by
  obtain ⟨hx, hb, hml, hown, hts⟩ := S
  have hc : lu_cl[10]? = some (RX10, TX10, 17) := rfl
  have hin := lu_lay lu_lay10
  have hcl : cells + 6 ≤ lu_R10.cells := hcl
  have hsl : slots + 56 ≤ lu_R10.slots := hsl
  refine lv_aload_n hx hb dX10_init_41 rfl (lv_at hl 1 h00) ?_
  refine lv_bipush (v := 10) hx hb dX10_init_42 (by decide) ?_
  refine lu_newI (N := 10) hx hb hts hK hP hD hS hA (by decide) (by decide) (by decide) (by omega) (by omega) dX10_init_44 (fun a0 H hP hD hS => ?_)
  refine va_putF (v := .ref a0) (ty := .array .int) hx hb hts hin tyX10 tyX10_ok nmX10 hown hK hP hD hS 0 rfl hc 3 (by decide) (hts _ qfl10_21) (fun _ h => h) rfl hni rfl (by decide +kernel) rfl rfl (Nat.le_of_ble_eq_true rfl) dX10_init_46 (fun H locs hP hD hS => ?_)
  have hP : va_P D lu_cl ((h0, .inr (10, [.int 0, .ref pe, .int 0, .ref a0, .null, .null, .null, .null, .null, .int 0, .int 0, .int 0, .null, .null, .null, .null, .null])) :: (rest ++ [(a0, lu_ia cs 10)])) H := hP
  have hD : va_D A ((h0, .inr (10, [.int 0, .ref pe, .int 0, .ref a0, .null, .null, .null, .null, .null, .int 0, .int 0, .int 0, .null, .null, .null, .null, .null])) :: (rest ++ [(a0, lu_ia cs 10)])) := hD
  generalize hr0 : rest ++ [(a0, lu_ia cs 10)] = rest0 at hP hD
  refine lv_aload_n hx hb dX10_init_49 rfl (lv_at hl 1 h00) ?_
  refine lv_bipush (v := 10) hx hb dX10_init_50 (by decide) ?_
  refine lu_newI (N := 10) hx hb hts hK hP hD hS hA (by decide) (by decide) (by decide) (by omega) (by omega) dX10_init_52 (fun a1 H hP hD hS => ?_)
  refine va_putF (v := .ref a1) (ty := .array .int) hx hb hts hin tyX10 tyX10_ok nmX10 hown hK hP hD hS 0 rfl hc 4 (by decide) (hts _ qfl10_25) (fun _ h => h) rfl hni rfl (by decide +kernel) rfl rfl (Nat.le_of_ble_eq_true rfl) dX10_init_54 (fun H locs hP hD hS => ?_)
  have hP : va_P D lu_cl ((h0, .inr (10, [.int 0, .ref pe, .int 0, .ref a0, .ref a1, .null, .null, .null, .null, .int 0, .int 0, .int 0, .null, .null, .null, .null, .null])) :: (rest0 ++ [(a1, lu_ia cs 10)])) H := hP
  have hD : va_D A ((h0, .inr (10, [.int 0, .ref pe, .int 0, .ref a0, .ref a1, .null, .null, .null, .null, .int 0, .int 0, .int 0, .null, .null, .null, .null, .null])) :: (rest0 ++ [(a1, lu_ia cs 10)])) := hD
  generalize hr1 : rest0 ++ [(a1, lu_ia cs 10)] = rest1 at hP hD
  refine lv_aload_n hx hb dX10_init_57 rfl (lv_at hl 1 h00) ?_
  refine lv_bipush (v := 10) hx hb dX10_init_58 (by decide) ?_
  refine lu_newI (N := 10) hx hb hts hK hP hD hS hA (by decide) (by decide) (by decide) (by omega) (by omega) dX10_init_60 (fun a2 H hP hD hS => ?_)
  refine va_putF (v := .ref a2) (ty := .array .int) hx hb hts hin tyX10 tyX10_ok nmX10 hown hK hP hD hS 0 rfl hc 5 (by decide) (hts _ qfl10_28) (fun _ h => h) rfl hni rfl (by decide +kernel) rfl rfl (Nat.le_of_ble_eq_true rfl) dX10_init_62 (fun H locs hP hD hS => ?_)
  have hP : va_P D lu_cl ((h0, .inr (10, [.int 0, .ref pe, .int 0, .ref a0, .ref a1, .ref a2, .null, .null, .null, .int 0, .int 0, .int 0, .null, .null, .null, .null, .null])) :: (rest1 ++ [(a2, lu_ia cs 10)])) H := hP
  have hD : va_D A ((h0, .inr (10, [.int 0, .ref pe, .int 0, .ref a0, .ref a1, .ref a2, .null, .null, .null, .int 0, .int 0, .int 0, .null, .null, .null, .null, .null])) :: (rest1 ++ [(a2, lu_ia cs 10)])) := hD
  generalize hr2 : rest1 ++ [(a2, lu_ia cs 10)] = rest2 at hP hD
  refine lv_aload_n hx hb dX10_init_65 rfl (lv_at hl 1 h00) ?_
  refine lv_bipush (v := 10) hx hb dX10_init_66 (by decide) ?_
  refine lu_newI (N := 10) hx hb hts hK hP hD hS hA (by decide) (by decide) (by decide) (by omega) (by omega) dX10_init_68 (fun a3 H hP hD hS => ?_)
  refine va_putF (v := .ref a3) (ty := .array .int) hx hb hts hin tyX10 tyX10_ok nmX10 hown hK hP hD hS 0 rfl hc 6 (by decide) (hts _ qfl10_31) (fun _ h => h) rfl hni rfl (by decide +kernel) rfl rfl (Nat.le_of_ble_eq_true rfl) dX10_init_70 (fun H locs hP hD hS => ?_)
  have hP : va_P D lu_cl ((h0, .inr (10, [.int 0, .ref pe, .int 0, .ref a0, .ref a1, .ref a2, .ref a3, .null, .null, .int 0, .int 0, .int 0, .null, .null, .null, .null, .null])) :: (rest2 ++ [(a3, lu_ia cs 10)])) H := hP
  have hD : va_D A ((h0, .inr (10, [.int 0, .ref pe, .int 0, .ref a0, .ref a1, .ref a2, .ref a3, .null, .null, .int 0, .int 0, .int 0, .null, .null, .null, .null, .null])) :: (rest2 ++ [(a3, lu_ia cs 10)])) := hD
  generalize hr3 : rest2 ++ [(a3, lu_ia cs 10)] = rest3 at hP hD
  refine lv_aload_n hx hb dX10_init_73 rfl (lv_at hl 1 h00) ?_
  refine lv_bipush (v := 10) hx hb dX10_init_74 (by decide) ?_
  refine lu_newI (N := 10) hx hb hts hK hP hD hS hA (by decide) (by decide) (by decide) (by omega) (by omega) dX10_init_76 (fun a4 H hP hD hS => ?_)
  refine va_putF (v := .ref a4) (ty := .array .int) hx hb hts hin tyX10 tyX10_ok nmX10 hown hK hP hD hS 0 rfl hc 7 (by decide) (hts _ qfl10_34) (fun _ h => h) rfl hni rfl (by decide +kernel) rfl rfl (Nat.le_of_ble_eq_true rfl) dX10_init_78 (fun H locs hP hD hS => ?_)
  have hP : va_P D lu_cl ((h0, .inr (10, [.int 0, .ref pe, .int 0, .ref a0, .ref a1, .ref a2, .ref a3, .ref a4, .null, .int 0, .int 0, .int 0, .null, .null, .null, .null, .null])) :: (rest3 ++ [(a4, lu_ia cs 10)])) H := hP
  have hD : va_D A ((h0, .inr (10, [.int 0, .ref pe, .int 0, .ref a0, .ref a1, .ref a2, .ref a3, .ref a4, .null, .int 0, .int 0, .int 0, .null, .null, .null, .null, .null])) :: (rest3 ++ [(a4, lu_ia cs 10)])) := hD
  generalize hr4 : rest3 ++ [(a4, lu_ia cs 10)] = rest4 at hP hD
  refine lv_aload_n hx hb dX10_init_81 rfl (lv_at hl 1 h00) ?_
  refine lv_bipush (v := 6) hx hb dX10_init_82 (by decide) ?_
  refine lu_newI (N := 6) hx hb hts hK hP hD hS hA (by decide) (by decide) (by decide) (by omega) (by omega) dX10_init_84 (fun a5 H hP hD hS => ?_)
  refine va_putF (v := .ref a5) (ty := .array .int) hx hb hts hin tyX10 tyX10_ok nmX10 hown hK hP hD hS 0 rfl hc 8 (by decide) (hts _ qfl10_37) (fun _ h => h) rfl hni rfl (by decide +kernel) rfl rfl (Nat.le_of_ble_eq_true rfl) dX10_init_86 (fun H locs hP hD hS => ?_)
  have hP : va_P D lu_cl ((h0, .inr (10, [.int 0, .ref pe, .int 0, .ref a0, .ref a1, .ref a2, .ref a3, .ref a4, .ref a5, .int 0, .int 0, .int 0, .null, .null, .null, .null, .null])) :: (rest4 ++ [(a5, lu_ia cs 6)])) H := hP
  have hD : va_D A ((h0, .inr (10, [.int 0, .ref pe, .int 0, .ref a0, .ref a1, .ref a2, .ref a3, .ref a4, .ref a5, .int 0, .int 0, .int 0, .null, .null, .null, .null, .null])) :: (rest4 ++ [(a5, lu_ia cs 6)])) := hD
  subst hr0 hr1 hr2 hr3 hr4
  exact kk a0 a1 a2 a3 a4 a5 H locs hP hD hS
theorem c10_B {a0 a1 a2 a3 a4 a5 : Nat} (S : CallFix p m c cX10_init 3 s args lu_ws RX10) (hni : meth.name = "<init>") (hK : va_K D lu_cl (lu_tys cs) s) (hA : ∀ q, H0.size ≤ q → A q) {lv : List (Nat × Value)} (hl : lv_has ls 3 lv) (h00 : lv[1]? = some (0, .ref h0)) (hov2 : (Cond.arrayOver (.array .int)).before args s = true) (hcl : cells + 14 ≤ 35) (hsl : slots + 72 ≤ 420) (hP : va_P D lu_cl ((h0, .inr (10, [.int 0, .ref pe, .int 0, .ref a0, .ref a1, .ref a2, .ref a3, .ref a4, .ref a5, .int 0, .int 0, .int 0, .null, .null, .null, .null, .null])) :: rest) H) (hD : va_D A ((h0, .inr (10, [.int 0, .ref pe, .int 0, .ref a0, .ref a1, .ref a2, .ref a3, .ref a4, .ref a5, .int 0, .int 0, .int 0, .null, .null, .null, .null, .null])) :: rest)) (hS : va_S A H0 H locs)
    (kk : ∀ (t0 t1 : Nat) (H : Heap) (locs : List Loc), va_P D lu_cl ((h0, .inr (10, [.int 0, .ref pe, .int 0, .ref a0, .ref a1, .ref a2, .ref a3, .ref a4, .ref a5, .int 12, .int 1, .int 0, .ref t0, .ref t1, .null, .null, .null])) :: ((rest ++ lu_gr cs t0 6 4) ++ lu_gr cs t1 6 6)) H → va_D A ((h0, .inr (10, [.int 0, .ref pe, .int 0, .ref a0, .ref a1, .ref a2, .ref a3, .ref a4, .ref a5, .int 12, .int 1, .int 0, .ref t0, .ref t1, .null, .null, .null])) :: ((rest ++ lu_gr cs t0 6 4) ++ lu_gr cs t1 6 6)) → va_S A H0 H locs → W p l e lu_R10 s m args below meth c H locs (cells + 14) (slots + 72) Q (F0 m 123 ls [])) :
    W p l e lu_R10 s m args below meth c H locs cells slots Q (F0 m 89 ls []) := by
  obtain ⟨hx, hb, hml, hown, hts⟩ := S
  have hc : lu_cl[10]? = some (RX10, TX10, 17) := rfl
  have hin := lu_lay lu_lay10
  have hcl : cells + 14 ≤ lu_R10.cells := hcl
  have hsl : slots + 72 ≤ lu_R10.slots := hsl
  refine lv_aload_n hx hb dX10_init_89 rfl (lv_at hl 1 h00) ?_
  refine lv_bipush (v := 12) hx hb dX10_init_90 (by decide) ?_
  refine va_put (v := .int 12) (ty := .int) hx hb hts hin tyX10 tyX10_ok nmX10 hown hK hP hD hS 0 rfl hc 9 (by decide) (hts _ qfl10_40) (fun _ h => h) rfl rfl rfl rfl (Nat.le_of_ble_eq_true rfl) dX10_init_92 (fun H locs hP hD hS => ?_)
  have hP : va_P D lu_cl ((h0, .inr (10, [.int 0, .ref pe, .int 0, .ref a0, .ref a1, .ref a2, .ref a3, .ref a4, .ref a5, .int 12, .int 0, .int 0, .null, .null, .null, .null, .null])) :: rest) H := hP
  have hD : va_D A ((h0, .inr (10, [.int 0, .ref pe, .int 0, .ref a0, .ref a1, .ref a2, .ref a3, .ref a4, .ref a5, .int 12, .int 0, .int 0, .null, .null, .null, .null, .null])) :: rest) := hD
  refine lv_aload_n hx hb dX10_init_95 rfl (lv_at hl 1 h00) ?_
  refine lv_iconst (v := 1) hx hb dX10_init_96 (by decide) ?_
  refine va_put (v := .int 1) (ty := .int) hx hb hts hin tyX10 tyX10_ok nmX10 hown hK hP hD hS 0 rfl hc 10 (by decide) (hts _ qfl10_44) (fun _ h => h) rfl rfl rfl rfl (Nat.le_of_ble_eq_true rfl) dX10_init_97 (fun H locs hP hD hS => ?_)
  have hP : va_P D lu_cl ((h0, .inr (10, [.int 0, .ref pe, .int 0, .ref a0, .ref a1, .ref a2, .ref a3, .ref a4, .ref a5, .int 12, .int 1, .int 0, .null, .null, .null, .null, .null])) :: rest) H := hP
  have hD : va_D A ((h0, .inr (10, [.int 0, .ref pe, .int 0, .ref a0, .ref a1, .ref a2, .ref a3, .ref a4, .ref a5, .int 12, .int 1, .int 0, .null, .null, .null, .null, .null])) :: rest) := hD
  refine lv_aload_n hx hb dX10_init_100 rfl (lv_at hl 1 h00) ?_
  refine lv_bipush (v := 6) hx hb dX10_init_101 (by decide) ?_
  refine lv_iconst (v := 4) hx hb dX10_init_103 (by decide) ?_
  refine lu_multi (N := 6) (M := 4) hx hb hown (hts _ hs_k10b) hov2 (hts _ hs_ai) hK hP hD hS hA (by decide) (by decide) (by decide) (by decide) (by decide) (by decide) (by omega) (by omega) dX10_init_104 (fun H1 locs hP hD hS => ?_)
  generalize H.size = t0 at hP hD ⊢
  refine va_putF (v := .ref t0) (ty := .array (.array .int)) hx hb hts hin tyX10 tyX10_ok nmX10 hown hK hP hD hS 0 rfl hc 12 (by decide) (hts _ qfl10_49) (fun _ h => h) rfl hni rfl (by decide +kernel) rfl rfl (Nat.le_of_ble_eq_true rfl) dX10_init_108 (fun H locs hP hD hS => ?_)
  have hP : va_P D lu_cl ((h0, .inr (10, [.int 0, .ref pe, .int 0, .ref a0, .ref a1, .ref a2, .ref a3, .ref a4, .ref a5, .int 12, .int 1, .int 0, .ref t0, .null, .null, .null, .null])) :: (rest ++ lu_gr cs t0 6 4)) H := hP
  have hD : va_D A ((h0, .inr (10, [.int 0, .ref pe, .int 0, .ref a0, .ref a1, .ref a2, .ref a3, .ref a4, .ref a5, .int 12, .int 1, .int 0, .ref t0, .null, .null, .null, .null])) :: (rest ++ lu_gr cs t0 6 4)) := hD
  generalize hr0 : rest ++ lu_gr cs t0 6 4 = rest0 at hP hD
  refine lv_aload_n hx hb dX10_init_111 rfl (lv_at hl 1 h00) ?_
  refine lv_bipush (v := 6) hx hb dX10_init_112 (by decide) ?_
  refine lv_bipush (v := 6) hx hb dX10_init_114 (by decide) ?_
  refine lu_multi (N := 6) (M := 6) hx hb hown (hts _ hs_k10b) hov2 (hts _ hs_ai) hK hP hD hS hA (by decide) (by decide) (by decide) (by decide) (by decide) (by decide) (by omega) (by omega) dX10_init_116 (fun H1 locs hP hD hS => ?_)
  generalize H.size = t1 at hP hD ⊢
  refine va_putF (v := .ref t1) (ty := .array (.array .int)) hx hb hts hin tyX10 tyX10_ok nmX10 hown hK hP hD hS 0 rfl hc 13 (by decide) (hts _ qfl10_52) (fun _ h => h) rfl hni rfl (by decide +kernel) rfl rfl (Nat.le_of_ble_eq_true rfl) dX10_init_120 (fun H locs hP hD hS => ?_)
  have hP : va_P D lu_cl ((h0, .inr (10, [.int 0, .ref pe, .int 0, .ref a0, .ref a1, .ref a2, .ref a3, .ref a4, .ref a5, .int 12, .int 1, .int 0, .ref t0, .ref t1, .null, .null, .null])) :: (rest0 ++ lu_gr cs t1 6 6)) H := hP
  have hD : va_D A ((h0, .inr (10, [.int 0, .ref pe, .int 0, .ref a0, .ref a1, .ref a2, .ref a3, .ref a4, .ref a5, .int 12, .int 1, .int 0, .ref t0, .ref t1, .null, .null, .null])) :: (rest0 ++ lu_gr cs t1 6 6)) := hD
  subst hr0
  exact kk t0 t1 H locs hP hD hS
theorem c10_C {a0 a1 a2 a3 a4 a5 t0 t1 : Nat} (S : CallFix p m c cX10_init 3 s args lu_ws RX10) (hni : meth.name = "<init>") (hK : va_K D lu_cl (lu_tys cs) s) (hA : ∀ q, H0.size ≤ q → A q) {lv : List (Nat × Value)} (hl : lv_has ls 3 lv) (h00 : lv[1]? = some (0, .ref h0)) (hnw : va_Nw (.methodLinkNest RX10 57 yX1_init RX11) s) (hcl : cells + 8 ≤ 35) (hsl : slots + 250 ≤ 420) (hP : va_P D lu_cl ((h0, .inr (10, [.int 0, .ref pe, .int 0, .ref a0, .ref a1, .ref a2, .ref a3, .ref a4, .ref a5, .int 12, .int 1, .int 0, .ref t0, .ref t1, .null, .null, .null])) :: rest) H) (hD : va_D A ((h0, .inr (10, [.int 0, .ref pe, .int 0, .ref a0, .ref a1, .ref a2, .ref a3, .ref a4, .ref a5, .int 12, .int 1, .int 0, .ref t0, .ref t1, .null, .null, .null])) :: rest)) (hS : va_S A H0 H locs)
    (kk : ∀ (co ru r0 r1 r2 r3 r4 fa : Nat) (H : Heap) (locs : List Loc), va_P D lu_cl ((h0, .inr (10, [.int 0, .ref pe, .int 0, .ref a0, .ref a1, .ref a2, .ref a3, .ref a4, .ref a5, .int 12, .int 1, .int 0, .ref t0, .ref t1, .ref co, .ref ru, .ref fa])) :: (((rest ++ [(co, .inr (1, lu_craw))]) ++ lu_rW cs ru r0 r1 r2 r3 r4) ++ [(fa, lu_ia cs 5)])) H → va_D A ((h0, .inr (10, [.int 0, .ref pe, .int 0, .ref a0, .ref a1, .ref a2, .ref a3, .ref a4, .ref a5, .int 12, .int 1, .int 0, .ref t0, .ref t1, .ref co, .ref ru, .ref fa])) :: (((rest ++ [(co, .inr (1, lu_craw))]) ++ lu_rW cs ru r0 r1 r2 r3 r4) ++ [(fa, lu_ia cs 5)])) → va_S A H0 H locs → W p l e lu_R10 s m args below meth c H locs (cells + 8) (slots + 250) Q (F0 m 152 ls [])) :
    W p l e lu_R10 s m args below meth c H locs cells slots Q (F0 m 123 ls []) := by
  obtain ⟨hx, hb, hml, hown, hts⟩ := S
  have hc : lu_cl[10]? = some (RX10, TX10, 17) := rfl
  have hin := lu_lay lu_lay10
  have hcl : cells + 8 ≤ lu_R10.cells := hcl
  have hsl : slots + 250 ≤ lu_R10.slots := hsl
  refine lv_aload_n hx hb dX10_init_123 rfl (lv_at hl 1 h00) ?_
  refine va_new (ci := 1) (fs := lu_craw) hx hb hts (lu_lay lu_lay1) tyX1 tyX1_ok hown (hts _ hs_k10c) (hts _ hs_n1) (hts _ hs_i1) hK hP hD hS hA rfl (fun j hj => by
    rcases (show j = 0 ∨ j = 1 ∨ j = 2 ∨ j = 3 ∨ j = 4 ∨ j = 5 by omega) with rfl | rfl | rfl | rfl | rfl | rfl <;> rfl) (by omega) (by omega) dX10_init_124 (fun co H hP hD hS => ?_)
  refine lv_dup hx hb dX10_init_127 rfl ?_
  refine lu_ctor0 (g := F0 m 128 ls [.ref co, .ref co, .ref h0]) hP hS (va_runIN (As := []) (rest := [.ref co, .ref h0]) ⟨hx, hb, hml, hown, hts⟩ (c1_init l co) ⟨va_cnB (host := RX11) 0 hts (lu_gi (fun w hw => by
    rcases List.mem_cons.mp hw with rfl | hw
    · exact hs_c1
    · exact hw)) rfl rfl rfl hnw (hts _ hs_i1) ⟨by decide, by decide, by decide +kernel⟩ ⟨by decide, by decide⟩, rfl, hts _ hs_m1⟩ ⟨fun a U g mk q => q, fun U hU hW => ⟨rfl, trivial⟩⟩ rfl rfl hl.1 rfl (lv_room (Nat.le_of_ble_eq_true rfl)) dX10_init_128 ⟨by omega, by omega⟩) (fun H locs hP hS => ?_)
  refine va_putF (v := .ref co) (ty := .object RX1) hx hb hts hin tyX10 tyX10_ok nmX10 hown hK hP hD hS 0 rfl hc 14 (by decide) (hts _ qfl10_58) (fun _ h => h) rfl hni rfl (by decide +kernel) rfl rfl (Nat.le_of_ble_eq_true rfl) dX10_init_131 (fun H locs hP hD hS => ?_)
  have hP : va_P D lu_cl ((h0, .inr (10, [.int 0, .ref pe, .int 0, .ref a0, .ref a1, .ref a2, .ref a3, .ref a4, .ref a5, .int 12, .int 1, .int 0, .ref t0, .ref t1, .ref co, .null, .null])) :: (rest ++ [(co, .inr (1, lu_craw))])) H := hP
  have hD : va_D A ((h0, .inr (10, [.int 0, .ref pe, .int 0, .ref a0, .ref a1, .ref a2, .ref a3, .ref a4, .ref a5, .int 12, .int 1, .int 0, .ref t0, .ref t1, .ref co, .null, .null])) :: (rest ++ [(co, .inr (1, lu_craw))])) := hD
  generalize hr0 : rest ++ [(co, .inr (1, lu_craw))] = rest0 at hP hD
  refine lv_aload_n hx hb dX10_init_134 rfl (lv_at hl 1 h00) ?_
  refine va_new (ci := 6) (fs := lu_rraw) hx hb hts (lu_lay lu_lay6) tyX6 tyX6_ok hown (hts _ hs_k10d) (hts _ hs_n6) (hts _ hs_i6) hK hP hD hS hA rfl (fun j hj => by
    rcases (show j = 0 ∨ j = 1 ∨ j = 2 ∨ j = 3 ∨ j = 4 ∨ j = 5 ∨ j = 6 by omega) with rfl | rfl | rfl | rfl | rfl | rfl | rfl <;> rfl) (by omega) (by omega) dX10_init_135 (fun ru H hP hD hS => ?_)
  refine lv_dup hx hb dX10_init_138 rfl ?_
  refine lu_ctor (g := F0 m 139 ls [.ref ru, .ref ru, .ref h0]) hP hD hS hA (va_runI (As := []) (rest := [.ref ru, .ref h0]) ⟨hx, hb, hml, hown, hts⟩ (c6_init l D cs ru H.size) (cwI 0 hts (lu_gi (fun w hw => by
    rcases List.mem_cons.mp hw with rfl | hw
    · exact hs_c6
    · exact hw)) rfl rfl rfl (hts _ hs_i6) (hts _ hs_l10) (hts _ hs_m6) rfl ⟨by decide, by decide, by decide +kernel⟩ ⟨by decide, by decide⟩) ⟨fun a U g mk q => by
    obtain ⟨q0, q1, qP, qK⟩ := q
    exact ⟨q0, q1, qP, va_K.moved (u := U) (U := U.calling g mk a) (Vm.Alike.refl U.vm) qK⟩, fun U hU hW => ⟨rfl, by rw [hU], by
      rw [hU]
      exact lu_Pr hP, va_K.moved hW.alike hK⟩⟩ rfl rfl hl.1 rfl (lv_room (Nat.le_of_ble_eq_true rfl)) dX10_init_139 ⟨by omega, by omega⟩) (fun wn H locs hw hP hD hS => ?_)
  obtain ⟨r0, r1, r2, r3, r4, rfl⟩ := hw
  have hP : va_P D lu_cl ((h0, .inr (10, [.int 0, .ref pe, .int 0, .ref a0, .ref a1, .ref a2, .ref a3, .ref a4, .ref a5, .int 12, .int 1, .int 0, .ref t0, .ref t1, .ref co, .null, .null])) :: (rest0 ++ lu_rW cs ru r0 r1 r2 r3 r4)) H := hP
  have hD : va_D A ((h0, .inr (10, [.int 0, .ref pe, .int 0, .ref a0, .ref a1, .ref a2, .ref a3, .ref a4, .ref a5, .int 12, .int 1, .int 0, .ref t0, .ref t1, .ref co, .null, .null])) :: (rest0 ++ lu_rW cs ru r0 r1 r2 r3 r4)) := hD
  generalize hr1 : rest0 ++ lu_rW cs ru r0 r1 r2 r3 r4 = rest1 at hP hD
  refine va_putF (v := .ref ru) (ty := .object RX6) hx hb hts hin tyX10 tyX10_ok nmX10 hown hK hP hD hS 0 rfl hc 15 (by decide) (hts _ qfl10_65) (fun _ h => h) rfl hni rfl (by decide +kernel) rfl rfl (Nat.le_of_ble_eq_true rfl) dX10_init_142 (fun H locs hP hD hS => ?_)
  have hP : va_P D lu_cl ((h0, .inr (10, [.int 0, .ref pe, .int 0, .ref a0, .ref a1, .ref a2, .ref a3, .ref a4, .ref a5, .int 12, .int 1, .int 0, .ref t0, .ref t1, .ref co, .ref ru, .null])) :: rest1) H := hP
  have hD : va_D A ((h0, .inr (10, [.int 0, .ref pe, .int 0, .ref a0, .ref a1, .ref a2, .ref a3, .ref a4, .ref a5, .int 12, .int 1, .int 0, .ref t0, .ref t1, .ref co, .ref ru, .null])) :: rest1) := hD
  refine lv_aload_n hx hb dX10_init_145 rfl (lv_at hl 1 h00) ?_
  refine lv_iconst (v := 5) hx hb dX10_init_146 (by decide) ?_
  refine lu_newI (N := 5) hx hb hts hK hP hD hS hA (by decide) (by decide) (by decide) (by omega) (by omega) dX10_init_147 (fun fa H hP hD hS => ?_)
  refine va_putF (v := .ref fa) (ty := .array .int) hx hb hts hin tyX10 tyX10_ok nmX10 hown hK hP hD hS 0 rfl hc 16 (by decide) (hts _ qfl10_69) (fun _ h => h) rfl hni rfl (by decide +kernel) rfl rfl (Nat.le_of_ble_eq_true rfl) dX10_init_149 (fun H locs hP hD hS => ?_)
  have hP : va_P D lu_cl ((h0, .inr (10, [.int 0, .ref pe, .int 0, .ref a0, .ref a1, .ref a2, .ref a3, .ref a4, .ref a5, .int 12, .int 1, .int 0, .ref t0, .ref t1, .ref co, .ref ru, .ref fa])) :: (rest1 ++ [(fa, lu_ia cs 5)])) H := hP
  have hD : va_D A ((h0, .inr (10, [.int 0, .ref pe, .int 0, .ref a0, .ref a1, .ref a2, .ref a3, .ref a4, .ref a5, .int 12, .int 1, .int 0, .ref t0, .ref t1, .ref co, .ref ru, .ref fa])) :: (rest1 ++ [(fa, lu_ia cs 5)])) := hD
  subst hr0 hr1
  exact kk co ru r0 r1 r2 r3 r4 fa H locs hP hD hS
end TURN
set_option maxHeartbeats 4000000 in
theorem c10_init (l : Launch) (D : va_G) (cs : Nat → ClassId) (h0 sz rr : Nat) : Met l yX10_init (.code yX10_init cX10_init 3 none :: lu_ws) lu_R10 (va_Pc [.ref h0, .ref rr] (fun U => U.heap.size = sz ∧ va_P D lu_cl [(h0, .inr (10, lu_wraw))] U.heap ∧ va_K D lu_cl (lu_tys cs) U ∧ va_AO RX3 U ∧ (Cond.arrayOver (.array .int)).before #[] U = true ∧ va_Nw (.methodLinkNest RX10 57 yX1_init RX11) U ∧ va_Nw (.methodLinkNest RX10 17 yX11_made RX11) U)) (lu_nQ D h0 sz (lu_wN cs h0 rr)) 35 420 (fun q => q = h0 ∨ sz ≤ q) := by
  refine Met.ofW (cc := cX10_init) (maxL := 3) (ret := none) (by decide) rfl ?_
  intro p e s m args below meth c s₁ B hml hv
  obtain ⟨rfl, hsz, hP, hK, hov, hov2, hnw, hnm⟩ := hv
  have hx := B.exec
  have hb := B.bytes
  have hr := B.returns
  have hts : ∀ w ∈ lu_ws, w.before ([Value.ref h0, .ref rr] : List Value).toArray s = true := fun w hw => atoms_spec (ws := .code yX10_init cX10_init 3 none :: lu_ws) B.pre w (List.mem_cons_of_mem _ hw)
  have hown : s.vm.findClass RX10 = some m.cls := findClass_of_methodNamed B.named
  have hlocks := B.notSynchronized
  have hni : meth.name = "<init>" := (name_of_methodNamed B.named B.method).1
  subst hsz
  have hA : ∀ q, s.heap.size ≤ q → (fun q => q = h0 ∨ s.heap.size ≤ q) q := fun q h => Or.inr h
  have hD : va_D (fun q => q = h0 ∨ s.heap.size ≤ q) [(h0, .inr (10, lu_wraw))] := lu_D1 (Or.inl rfl)
  have hS : va_S (fun q => q = h0 ∨ s.heap.size ≤ q) s.heap s.heap [] := va_S.rf
  have hl := lv_entry ([.ref h0, .ref rr]) (n := 3) (Nat.le_of_ble_eq_true rfl)
  rw [lg_entry_eq]
  generalize (lg_sl ([.ref h0, .ref rr]) ++ List.replicate (3 - (lg_sl ([.ref h0, .ref rr])).length) Slot.unset).toArray = ls at hl ⊢
  have hl : lv_has ls 3 [(0, .ref h0), (1, .ref rr)] := hl
  have hc : lu_cl[10]? = some (RX10, TX10, 17) := rfl
  have hin := lu_lay lu_lay10
  have S : CallFix p m c cX10_init 3 s ([Value.ref h0, .ref rr] : List Value).toArray lu_ws RX10 := ⟨hx, hb, hml, hown, hts⟩
  refine lv_aload_n hx hb dX10_init_0 rfl (lv_at hl 0 rfl) ?_
  refine W.objInit hx hb hown (hts _ hs_o10) (hts _ hw_oi) (hts _ hw_oc) rfl (by rw [hml]; exact hl.1) rfl dX10_init_1 (Nat.le_of_ble_eq_true rfl) (Nat.le_of_ble_eq_true rfl) ?_
  refine W.eq (g2 := F0 m 4 ls []) rfl ?_
  refine lv_aload_n hx hb dX10_init_4 rfl (lv_at hl 0 rfl) ?_
  refine lv_bipush (v := 6) hx hb dX10_init_5 (by decide) ?_
  refine lu_newQ (t := 1) (N := 6) (C := RX3) hx hb rfl hown (hts _ hs_k10a) hov hK hP hD hS hA (by decide) (by decide) (by decide) (by decide) (by decide) dX10_init_7 (fun pe H hP hD hS => ?_)
  refine va_putF (v := .ref pe) (ty := .array (.object RX3)) hx hb hts hin tyX10 tyX10_ok nmX10 hown hK hP hD hS 0 rfl hc 1 (by decide) (hts _ qfl10_11) (fun _ h => h) rfl hni rfl (by decide +kernel) rfl rfl (Nat.le_of_ble_eq_true rfl) dX10_init_10 (fun H locs hP hD hS => ?_)
  refine lv_iconst (v := 0) hx hb dX10_init_13 (by decide) ?_
  refine lv_istore_n (lv' := [(2, .int 0), (0, .ref h0), (1, .ref rr)]) hx hb dX10_init_14 rfl hl (by decide) rfl (fun ls hl => ?_)
  have hP : va_P D lu_cl ((h0, .inr (10, [.int 0, .ref pe, .int 0, .null, .null, .null, .null, .null, .null, .int 0, .int 0, .int 0, .null, .null, .null, .null, .null])) :: ((pe, .inl (cs 1, 6, .inr (.inr (.inr (.inr (fun _ => none)))))) :: [])) H := hP
  have hD : va_D (fun q => q = h0 ∨ s.heap.size ≤ q) ((h0, .inr (10, [.int 0, .ref pe, .int 0, .null, .null, .null, .null, .null, .null, .int 0, .int 0, .int 0, .null, .null, .null, .null, .null])) :: ((pe, .inl (cs 1, 6, .inr (.inr (.inr (.inr (fun _ => none)))))) :: [])) := hD
  refine c10_turn (i := 0) (i' := 1) S hK hnm hA (by decide) (by unfold vp_in; decide) (by decide) rfl hl (by decide) (by decide) hP hD hS (fun k0 H locs ls hl hP hD hS => ?_)
  refine c10_turn (i := 1) (i' := 2) S hK hnm hA (by decide) (by unfold vp_in; decide) (by decide) rfl hl (by decide) (by decide) hP hD hS (fun k1 H locs ls hl hP hD hS => ?_)
  refine c10_turn (i := 2) (i' := 3) S hK hnm hA (by decide) (by unfold vp_in; decide) (by decide) rfl hl (by decide) (by decide) hP hD hS (fun k2 H locs ls hl hP hD hS => ?_)
  refine c10_turn (i := 3) (i' := 4) S hK hnm hA (by decide) (by unfold vp_in; decide) (by decide) rfl hl (by decide) (by decide) hP hD hS (fun k3 H locs ls hl hP hD hS => ?_)
  refine c10_turn (i := 4) (i' := 5) S hK hnm hA (by decide) (by unfold vp_in; decide) (by decide) rfl hl (by decide) (by decide) hP hD hS (fun k4 H locs ls hl hP hD hS => ?_)
  refine c10_turn (i := 5) (i' := 6) S hK hnm hA (by decide) (by unfold vp_in; decide) (by decide) rfl hl (by decide) (by decide) hP hD hS (fun k5 H locs ls hl hP hD hS => ?_)
  refine lv_iload_n hx hb dX10_init_15 rfl (lv_at hl 0 rfl) ?_
  refine lv_bipush (v := 6) hx hb dX10_init_16 (by decide) ?_
  refine lv_icmp_ge (tgt := 41) hx hb dX10_init_18 (by decide) (fun _ => ?_) (fun h => absurd (by decide) h)
  refine c10_A S hni hK hA hl rfl (by decide) (by decide) hP hD hS (fun a0 a1 a2 a3 a4 a5 H locs hP hD hS => ?_)
  refine c10_B S hni hK hA hl rfl hov2 (by decide) (by decide) hP hD hS (fun t0 t1 H locs hP hD hS => ?_)
  refine c10_C S hni hK hA hl rfl hnw (by decide) (by decide) hP hD hS (fun co ru r0 r1 r2 r3 r4 fa H locs hP hD hS => ?_)
  exact W.vret hx hb hr (fun t ht hW => ⟨rfl, ⟨_, ⟨pe, lu_at6 k0 k1 k2 k3 k4 k5, lu_at6 a0 a1 a2 a3 a4 a5, lu_at6 t0 t1 0 0 0 0, co, ru, fa, lu_at6 r0 r1 r2 r3 r4 0, rfl⟩, by rw [ht]; exact hP, hD⟩, hS.F ht⟩) hS.2.2 dX10_init_152


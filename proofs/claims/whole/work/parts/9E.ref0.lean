/-! CONSTRUCTORS of the start: the reference -/
theorem dX12_init_0 : decode cX12_init 0 = .ok (.aload_n 0, 1) := by decide +kernel
theorem dX12_init_1 : decode cX12_init 1 = .ok (.invokespecial 1, 3) := by decide +kernel
theorem dX12_init_4 : decode cX12_init 4 = .ok (.aload_n 0, 1) := by decide +kernel
theorem dX12_init_5 : decode cX12_init 5 = .ok (.sipush 368, 3) := by decide +kernel
theorem dX12_init_8 : decode cX12_init 8 = .ok (.newarray .int, 2) := by decide +kernel
theorem dX12_init_10 : decode cX12_init 10 = .ok (.putfield 7, 3) := by decide +kernel
theorem dX12_init_13 : decode cX12_init 13 = .ok (.aload_n 0, 1) := by decide +kernel
theorem dX12_init_14 : decode cX12_init 14 = .ok (.sipush 368, 3) := by decide +kernel
theorem dX12_init_17 : decode cX12_init 17 = .ok (.newarray .int, 2) := by decide +kernel
theorem dX12_init_19 : decode cX12_init 19 = .ok (.putfield 13, 3) := by decide +kernel
theorem dX12_init_22 : decode cX12_init 22 = .ok (.aload_n 0, 1) := by decide +kernel
theorem dX12_init_23 : decode cX12_init 23 = .ok (.sipush 368, 3) := by decide +kernel
theorem dX12_init_26 : decode cX12_init 26 = .ok (.newarray .int, 2) := by decide +kernel
theorem dX12_init_28 : decode cX12_init 28 = .ok (.putfield 16, 3) := by decide +kernel
theorem dX12_init_31 : decode cX12_init 31 = .ok (.aload_n 0, 1) := by decide +kernel
theorem dX12_init_32 : decode cX12_init 32 = .ok (.sipush 200, 3) := by decide +kernel
theorem dX12_init_35 : decode cX12_init 35 = .ok (.newarray .int, 2) := by decide +kernel
theorem dX12_init_37 : decode cX12_init 37 = .ok (.putfield 19, 3) := by decide +kernel
theorem dX12_init_40 : decode cX12_init 40 = .ok (.aload_n 0, 1) := by decide +kernel
theorem dX12_init_41 : decode cX12_init 41 = .ok (.bipush 64, 2) := by decide +kernel
theorem dX12_init_43 : decode cX12_init 43 = .ok (.newarray .int, 2) := by decide +kernel
theorem dX12_init_45 : decode cX12_init 45 = .ok (.putfield 22, 3) := by decide +kernel
theorem dX12_init_48 : decode cX12_init 48 = .ok (.aload_n 0, 1) := by decide +kernel
theorem dX12_init_49 : decode cX12_init 49 = .ok (.bipush 64, 2) := by decide +kernel
theorem dX12_init_51 : decode cX12_init 51 = .ok (.newarray .int, 2) := by decide +kernel
theorem dX12_init_53 : decode cX12_init 53 = .ok (.putfield 25, 3) := by decide +kernel
theorem dX12_init_56 : decode cX12_init 56 = .ok (.aload_n 0, 1) := by decide +kernel
theorem dX12_init_57 : decode cX12_init 57 = .ok (.bipush 60, 2) := by decide +kernel
theorem dX12_init_59 : decode cX12_init 59 = .ok (.newarray .int, 2) := by decide +kernel
theorem dX12_init_61 : decode cX12_init 61 = .ok (.putfield 28, 3) := by decide +kernel
theorem dX12_init_64 : decode cX12_init 64 = .ok (.aload_n 0, 1) := by decide +kernel
theorem dX12_init_65 : decode cX12_init 65 = .ok (.iconst 4, 1) := by decide +kernel
theorem dX12_init_66 : decode cX12_init 66 = .ok (.newarray .int, 2) := by decide +kernel
theorem dX12_init_68 : decode cX12_init 68 = .ok (.putfield 31, 3) := by decide +kernel
theorem dX12_init_71 : decode cX12_init 71 = .ok (.aload_n 0, 1) := by decide +kernel
theorem dX12_init_72 : decode cX12_init 72 = .ok (.iconst 4, 1) := by decide +kernel
theorem dX12_init_73 : decode cX12_init 73 = .ok (.newarray .int, 2) := by decide +kernel
theorem dX12_init_75 : decode cX12_init 75 = .ok (.putfield 34, 3) := by decide +kernel
theorem dX12_init_78 : decode cX12_init 78 = .ok (.aload_n 0, 1) := by decide +kernel
theorem dX12_init_79 : decode cX12_init 79 = .ok (.bipush 12, 2) := by decide +kernel
theorem dX12_init_81 : decode cX12_init 81 = .ok (.newarray .int, 2) := by decide +kernel
theorem dX12_init_83 : decode cX12_init 83 = .ok (.putfield 37, 3) := by decide +kernel
theorem dX12_init_86 : decode cX12_init 86 = .ok (.aload_n 0, 1) := by decide +kernel
theorem dX12_init_87 : decode cX12_init 87 = .ok (.sipush 200, 3) := by decide +kernel
theorem dX12_init_90 : decode cX12_init 90 = .ok (.newarray .int, 2) := by decide +kernel
theorem dX12_init_92 : decode cX12_init 92 = .ok (.putfield 40, 3) := by decide +kernel
theorem dX12_init_95 : decode cX12_init 95 = .ok (.aload_n 0, 1) := by decide +kernel
theorem dX12_init_96 : decode cX12_init 96 = .ok (.iconst 4, 1) := by decide +kernel
theorem dX12_init_97 : decode cX12_init 97 = .ok (.newarray .int, 2) := by decide +kernel
theorem dX12_init_99 : decode cX12_init 99 = .ok (.dup, 1) := by decide +kernel
theorem dX12_init_100 : decode cX12_init 100 = .ok (.iconst 0, 1) := by decide +kernel
theorem dX12_init_101 : decode cX12_init 101 = .ok (.iconst (-1), 1) := by decide +kernel
theorem dX12_init_102 : decode cX12_init 102 = .ok (.iastore, 1) := by decide +kernel
theorem dX12_init_103 : decode cX12_init 103 = .ok (.dup, 1) := by decide +kernel
theorem dX12_init_104 : decode cX12_init 104 = .ok (.iconst 1, 1) := by decide +kernel
theorem dX12_init_105 : decode cX12_init 105 = .ok (.iconst (-1), 1) := by decide +kernel
theorem dX12_init_106 : decode cX12_init 106 = .ok (.iastore, 1) := by decide +kernel
theorem dX12_init_107 : decode cX12_init 107 = .ok (.dup, 1) := by decide +kernel
theorem dX12_init_108 : decode cX12_init 108 = .ok (.iconst 2, 1) := by decide +kernel
theorem dX12_init_109 : decode cX12_init 109 = .ok (.iconst (-1), 1) := by decide +kernel
theorem dX12_init_110 : decode cX12_init 110 = .ok (.iastore, 1) := by decide +kernel
theorem dX12_init_111 : decode cX12_init 111 = .ok (.dup, 1) := by decide +kernel
theorem dX12_init_112 : decode cX12_init 112 = .ok (.iconst 3, 1) := by decide +kernel
theorem dX12_init_113 : decode cX12_init 113 = .ok (.iconst (-1), 1) := by decide +kernel
theorem dX12_init_114 : decode cX12_init 114 = .ok (.iastore, 1) := by decide +kernel
theorem dX12_init_115 : decode cX12_init 115 = .ok (.putfield 43, 3) := by decide +kernel
theorem dX12_init_118 : decode cX12_init 118 = .ok (.aload_n 0, 1) := by decide +kernel
theorem dX12_init_119 : decode cX12_init 119 = .ok (.iconst 4, 1) := by decide +kernel
theorem dX12_init_120 : decode cX12_init 120 = .ok (.newarray .int, 2) := by decide +kernel
theorem dX12_init_122 : decode cX12_init 122 = .ok (.putfield 46, 3) := by decide +kernel
theorem dX12_init_125 : decode cX12_init 125 = .ok (.aload_n 0, 1) := by decide +kernel
theorem dX12_init_126 : decode cX12_init 126 = .ok (.sipush 160, 3) := by decide +kernel
theorem dX12_init_129 : decode cX12_init 129 = .ok (.newarray .int, 2) := by decide +kernel
theorem dX12_init_131 : decode cX12_init 131 = .ok (.putfield 49, 3) := by decide +kernel
theorem dX12_init_134 : decode cX12_init 134 = .ok (.aload_n 0, 1) := by decide +kernel
theorem dX12_init_135 : decode cX12_init 135 = .ok (.iconst 4, 1) := by decide +kernel
theorem dX12_init_136 : decode cX12_init 136 = .ok (.newarray .int, 2) := by decide +kernel
theorem dX12_init_138 : decode cX12_init 138 = .ok (.putfield 52, 3) := by decide +kernel
theorem dX12_init_141 : decode cX12_init 141 = .ok (.aload_n 0, 1) := by decide +kernel
theorem dX12_init_142 : decode cX12_init 142 = .ok (.iconst 4, 1) := by decide +kernel
theorem dX12_init_143 : decode cX12_init 143 = .ok (.newarray .int, 2) := by decide +kernel
theorem dX12_init_145 : decode cX12_init 145 = .ok (.putfield 55, 3) := by decide +kernel
theorem dX12_init_148 : decode cX12_init 148 = .ok (.aload_n 0, 1) := by decide +kernel
theorem dX12_init_149 : decode cX12_init 149 = .ok (.iconst 4, 1) := by decide +kernel
theorem dX12_init_150 : decode cX12_init 150 = .ok (.newarray .int, 2) := by decide +kernel
theorem dX12_init_152 : decode cX12_init 152 = .ok (.putfield 58, 3) := by decide +kernel
theorem dX12_init_155 : decode cX12_init 155 = .ok (.aload_n 0, 1) := by decide +kernel
theorem dX12_init_156 : decode cX12_init 156 = .ok (.bipush 30, 2) := by decide +kernel
theorem dX12_init_158 : decode cX12_init 158 = .ok (.newarray .int, 2) := by decide +kernel
theorem dX12_init_160 : decode cX12_init 160 = .ok (.putfield 61, 3) := by decide +kernel
theorem dX12_init_163 : decode cX12_init 163 = .ok (.aload_n 0, 1) := by decide +kernel
theorem dX12_init_164 : decode cX12_init 164 = .ok (.getfield 7, 3) := by decide +kernel
theorem dX12_init_167 : decode cX12_init 167 = .ok (.bipush 7, 2) := by decide +kernel
theorem dX12_init_169 : decode cX12_init 169 = .ok (.iconst 1, 1) := by decide +kernel
theorem dX12_init_170 : decode cX12_init 170 = .ok (.iastore, 1) := by decide +kernel
theorem dX12_init_171 : decode cX12_init 171 = .ok (.aload_n 0, 1) := by decide +kernel
theorem dX12_init_172 : decode cX12_init 172 = .ok (.getfield 7, 3) := by decide +kernel
theorem dX12_init_175 : decode cX12_init 175 = .ok (.iconst 2, 1) := by decide +kernel
theorem dX12_init_176 : decode cX12_init 176 = .ok (.bipush 12, 2) := by decide +kernel
theorem dX12_init_178 : decode cX12_init 178 = .ok (.iastore, 1) := by decide +kernel
theorem dX12_init_179 : decode cX12_init 179 = .ok (.return_, 1) := by decide +kernel
theorem hs_o12 : Cond.methodLink RX12 1 objectInit ∈ lu_ws := lu_in (List.mem_of_getElem? (i := 1208) (by decide +kernel)) (by decide +kernel)
def lu_mraw : List Value := [.null, .null, .null, .int 0, .null, .null, .null, .null, .null, .null, .int 0, .int 0, .int 0, .int 0, .int 0, .int 0, .int 0, .int 0, .int 0, .int 0, .null, .int 0, .null, .int 0, .int 0, .int 0, .int 0, .int 0, .int 0, .int 0, .null, .null, .null, .null, .null, .null, .null, .int 0, .int 0, .int 0, .int 0, .int 0]
def lu_R12 : Room := { frames := 1, cells := 18, slots := 1922, locals := 20 }
section REF0
variable {x y z : Nat × va_E} {rest : va_W}
theorem lu_end1 : (x :: (rest ++ [z]))[rest.length + 1]? = some z := by
  show (rest ++ [z])[rest.length]? = some z
  rw [List.getElem?_append_right (Nat.le_refl _), Nat.sub_self]; rfl
theorem lu_end1s (z' : Nat × va_E) : (x :: (rest ++ [z])).set (rest.length + 1) z' = x :: (rest ++ [z']) := by
  show x :: (rest ++ [z]).set rest.length z' = _
  rw [List.set_append_right _ _ (Nat.le_refl _), Nat.sub_self]; rfl
end REF0
section REF
variable {p : Program} {l : Launch} {e : Env} {s : State} {m : MethodId} {args : Array Value} {below : List Frame} {meth : Method} {c : Code} {H : Heap} {locs : List Loc} {cells slots : Nat} {Q : State → Prop} {rest : va_W} {D : va_G} {A : Nat → Prop} {H0 : Heap} {ls : Array Slot} {cs : Nat → ClassId} {h0 : Nat}
theorem c12_st {fs : List Value} {so : Nat} {f : Nat → Int32} {i : Int32} {ii : Int} {q : Nat} {st : List Value} (S : CallFix p m c cX12_init 1 s args lu_ws RX12) (hK : va_K D lu_cl (lu_tys cs) s) (hi : Int32.ofInt ii = i) (hin2 : vp_in i 4) (d0 : decode cX12_init q = .ok (.dup, 1)) (d1 : decode cX12_init (q + 1) = .ok (.iconst ii, 1)) (d2 : decode cX12_init (q + 2) = .ok (.iconst (-1), 1)) (d3 : decode cX12_init (q + 3) = .ok (.iastore, 1))
    (hP : va_P D lu_cl ((h0, .inr (12, fs)) :: (rest ++ [(so, .inl (cs 0, 4, .inl f))])) H) (hD : va_D A ((h0, .inr (12, fs)) :: (rest ++ [(so, .inl (cs 0, 4, .inl f))]))) (hS : va_S A H0 H locs)
    (kk : ∀ (H : Heap) (locs : List Loc), va_P D lu_cl ((h0, .inr (12, fs)) :: (rest ++ [(so, .inl (cs 0, 4, .inl (upd f i.toNatClampNeg (-1))))])) H → va_D A ((h0, .inr (12, fs)) :: (rest ++ [(so, .inl (cs 0, 4, .inl (upd f i.toNatClampNeg (-1))))])) → va_S A H0 H locs → W p l e lu_R12 s m args below meth c H locs cells slots Q (F0 m (q + 4) ls (.ref so :: st))) :
    W p l e lu_R12 s m args below meth c H locs cells slots Q (F0 m q ls (.ref so :: st)) := by
  obtain ⟨hx, hb, hml, hown, hts⟩ := S
  refine lv_dup hx hb d0 rfl ?_
  refine lv_iconst (v := i) hx hb d1 hi ?_
  refine lv_iconst (v := -1) hx hb d2 (by decide) ?_
  refine va_iast hx hb hK hP hD hS (rest.length + 1) 0 lu_end1 rfl hin2 d3 (fun H locs hP hD hS => ?_)
  rw [lu_end1s] at hP hD
  exact kk H locs hP hD hS
theorem c12_A  (S : CallFix p m c cX12_init 1 s args lu_ws RX12) (hni : meth.name = "<init>") (hK : va_K D lu_cl (lu_tys cs) s) (hA : ∀ q, H0.size ≤ q → A q) (hl : lv_has ls 1 [(0, .ref h0)]) (hcl : cells + 6 ≤ 18) (hsl : slots + 1432 ≤ 1922) (hP : va_P D lu_cl ((h0, .inr (12, [.null, .null, .null, .int 0, .null, .null, .null, .null, .null, .null, .int 0, .int 0, .int 0, .int 0, .int 0, .int 0, .int 0, .int 0, .int 0, .int 0, .null, .int 0, .null, .int 0, .int 0, .int 0, .int 0, .int 0, .int 0, .int 0, .null, .null, .null, .null, .null, .null, .null, .int 0, .int 0, .int 0, .int 0, .int 0])) :: rest) H) (hD : va_D A ((h0, .inr (12, [.null, .null, .null, .int 0, .null, .null, .null, .null, .null, .null, .int 0, .int 0, .int 0, .int 0, .int 0, .int 0, .int 0, .int 0, .int 0, .int 0, .null, .int 0, .null, .int 0, .int 0, .int 0, .int 0, .int 0, .int 0, .int 0, .null, .null, .null, .null, .null, .null, .null, .int 0, .int 0, .int 0, .int 0, .int 0])) :: rest)) (hS : va_S A H0 H locs)
    (kk : ∀ (s0 kp ot sk ne pa : Nat) (H : Heap) (locs : List Loc), va_P D lu_cl ((h0, .inr (12, [.ref s0, .ref kp, .ref ot, .int 0, .ref sk, .ref ne, .ref pa, .null, .null, .null, .int 0, .int 0, .int 0, .int 0, .int 0, .int 0, .int 0, .int 0, .int 0, .int 0, .null, .int 0, .null, .int 0, .int 0, .int 0, .int 0, .int 0, .int 0, .int 0, .null, .null, .null, .null, .null, .null, .null, .int 0, .int 0, .int 0, .int 0, .int 0])) :: ((((((rest ++ [(s0, lu_ia cs 368)]) ++ [(kp, lu_ia cs 368)]) ++ [(ot, lu_ia cs 368)]) ++ [(sk, lu_ia cs 200)]) ++ [(ne, lu_ia cs 64)]) ++ [(pa, lu_ia cs 64)])) H → va_D A ((h0, .inr (12, [.ref s0, .ref kp, .ref ot, .int 0, .ref sk, .ref ne, .ref pa, .null, .null, .null, .int 0, .int 0, .int 0, .int 0, .int 0, .int 0, .int 0, .int 0, .int 0, .int 0, .null, .int 0, .null, .int 0, .int 0, .int 0, .int 0, .int 0, .int 0, .int 0, .null, .null, .null, .null, .null, .null, .null, .int 0, .int 0, .int 0, .int 0, .int 0])) :: ((((((rest ++ [(s0, lu_ia cs 368)]) ++ [(kp, lu_ia cs 368)]) ++ [(ot, lu_ia cs 368)]) ++ [(sk, lu_ia cs 200)]) ++ [(ne, lu_ia cs 64)]) ++ [(pa, lu_ia cs 64)])) → va_S A H0 H locs → W p l e lu_R12 s m args below meth c H locs (cells + 1 + 1 + 1 + 1 + 1 + 1) (slots + 368 + 368 + 368 + 200 + 64 + 64) Q (F0 m 56 ls [])) :
    W p l e lu_R12 s m args below meth c H locs cells slots Q (F0 m 4 ls []) := by
  obtain ⟨hx, hb, hml, hown, hts⟩ := S
  have hc : lu_cl[12]? = some (RX12, TX12, 42) := rfl
  have hin := lu_lay lu_lay12
  have hcl : cells + 6 ≤ lu_R12.cells := hcl
  have hsl : slots + 1432 ≤ lu_R12.slots := hsl
  refine lv_aload_n hx hb dX12_init_4 rfl (lv_at hl 0 rfl) ?_
  refine lv_sipush (v := 368) hx hb dX12_init_5 (by decide) ?_
  refine lu_newI (N := 368) hx hb hts hK hP hD hS hA (by decide) (by decide) (by decide) (by omega) (by omega) dX12_init_8 (fun s0 H hP hD hS => ?_)
  refine va_putF (v := .ref s0) (ty := .array .int) hx hb hts hin tyX12 tyX12_ok nmX12 hown hK hP hD hS 0 rfl hc 0 (by decide) (hts _ qfl12_7) (fun _ h => h) rfl hni rfl (by decide +kernel) rfl rfl (Nat.le_of_ble_eq_true rfl) dX12_init_10 (fun H locs hP hD hS => ?_)
  have hP : va_P D lu_cl ((h0, .inr (12, [.ref s0, .null, .null, .int 0, .null, .null, .null, .null, .null, .null, .int 0, .int 0, .int 0, .int 0, .int 0, .int 0, .int 0, .int 0, .int 0, .int 0, .null, .int 0, .null, .int 0, .int 0, .int 0, .int 0, .int 0, .int 0, .int 0, .null, .null, .null, .null, .null, .null, .null, .int 0, .int 0, .int 0, .int 0, .int 0])) :: (rest ++ [(s0, lu_ia cs 368)])) H := hP
  have hD : va_D A ((h0, .inr (12, [.ref s0, .null, .null, .int 0, .null, .null, .null, .null, .null, .null, .int 0, .int 0, .int 0, .int 0, .int 0, .int 0, .int 0, .int 0, .int 0, .int 0, .null, .int 0, .null, .int 0, .int 0, .int 0, .int 0, .int 0, .int 0, .int 0, .null, .null, .null, .null, .null, .null, .null, .int 0, .int 0, .int 0, .int 0, .int 0])) :: (rest ++ [(s0, lu_ia cs 368)])) := hD
  generalize hr0 : rest ++ [(s0, lu_ia cs 368)] = rest0 at hP hD
  refine lv_aload_n hx hb dX12_init_13 rfl (lv_at hl 0 rfl) ?_
  refine lv_sipush (v := 368) hx hb dX12_init_14 (by decide) ?_
  refine lu_newI (N := 368) hx hb hts hK hP hD hS hA (by decide) (by decide) (by decide) (by omega) (by omega) dX12_init_17 (fun kp H hP hD hS => ?_)
  refine va_putF (v := .ref kp) (ty := .array .int) hx hb hts hin tyX12 tyX12_ok nmX12 hown hK hP hD hS 0 rfl hc 1 (by decide) (hts _ qfl12_13) (fun _ h => h) rfl hni rfl (by decide +kernel) rfl rfl (Nat.le_of_ble_eq_true rfl) dX12_init_19 (fun H locs hP hD hS => ?_)
  have hP : va_P D lu_cl ((h0, .inr (12, [.ref s0, .ref kp, .null, .int 0, .null, .null, .null, .null, .null, .null, .int 0, .int 0, .int 0, .int 0, .int 0, .int 0, .int 0, .int 0, .int 0, .int 0, .null, .int 0, .null, .int 0, .int 0, .int 0, .int 0, .int 0, .int 0, .int 0, .null, .null, .null, .null, .null, .null, .null, .int 0, .int 0, .int 0, .int 0, .int 0])) :: (rest0 ++ [(kp, lu_ia cs 368)])) H := hP
  have hD : va_D A ((h0, .inr (12, [.ref s0, .ref kp, .null, .int 0, .null, .null, .null, .null, .null, .null, .int 0, .int 0, .int 0, .int 0, .int 0, .int 0, .int 0, .int 0, .int 0, .int 0, .null, .int 0, .null, .int 0, .int 0, .int 0, .int 0, .int 0, .int 0, .int 0, .null, .null, .null, .null, .null, .null, .null, .int 0, .int 0, .int 0, .int 0, .int 0])) :: (rest0 ++ [(kp, lu_ia cs 368)])) := hD
  generalize hr1 : rest0 ++ [(kp, lu_ia cs 368)] = rest1 at hP hD
  refine lv_aload_n hx hb dX12_init_22 rfl (lv_at hl 0 rfl) ?_
  refine lv_sipush (v := 368) hx hb dX12_init_23 (by decide) ?_
  refine lu_newI (N := 368) hx hb hts hK hP hD hS hA (by decide) (by decide) (by decide) (by omega) (by omega) dX12_init_26 (fun ot H hP hD hS => ?_)
  refine va_putF (v := .ref ot) (ty := .array .int) hx hb hts hin tyX12 tyX12_ok nmX12 hown hK hP hD hS 0 rfl hc 2 (by decide) (hts _ qfl12_16) (fun _ h => h) rfl hni rfl (by decide +kernel) rfl rfl (Nat.le_of_ble_eq_true rfl) dX12_init_28 (fun H locs hP hD hS => ?_)
  have hP : va_P D lu_cl ((h0, .inr (12, [.ref s0, .ref kp, .ref ot, .int 0, .null, .null, .null, .null, .null, .null, .int 0, .int 0, .int 0, .int 0, .int 0, .int 0, .int 0, .int 0, .int 0, .int 0, .null, .int 0, .null, .int 0, .int 0, .int 0, .int 0, .int 0, .int 0, .int 0, .null, .null, .null, .null, .null, .null, .null, .int 0, .int 0, .int 0, .int 0, .int 0])) :: (rest1 ++ [(ot, lu_ia cs 368)])) H := hP
  have hD : va_D A ((h0, .inr (12, [.ref s0, .ref kp, .ref ot, .int 0, .null, .null, .null, .null, .null, .null, .int 0, .int 0, .int 0, .int 0, .int 0, .int 0, .int 0, .int 0, .int 0, .int 0, .null, .int 0, .null, .int 0, .int 0, .int 0, .int 0, .int 0, .int 0, .int 0, .null, .null, .null, .null, .null, .null, .null, .int 0, .int 0, .int 0, .int 0, .int 0])) :: (rest1 ++ [(ot, lu_ia cs 368)])) := hD
  generalize hr2 : rest1 ++ [(ot, lu_ia cs 368)] = rest2 at hP hD
  refine lv_aload_n hx hb dX12_init_31 rfl (lv_at hl 0 rfl) ?_
  refine lv_sipush (v := 200) hx hb dX12_init_32 (by decide) ?_
  refine lu_newI (N := 200) hx hb hts hK hP hD hS hA (by decide) (by decide) (by decide) (by omega) (by omega) dX12_init_35 (fun sk H hP hD hS => ?_)
  refine va_putF (v := .ref sk) (ty := .array .int) hx hb hts hin tyX12 tyX12_ok nmX12 hown hK hP hD hS 0 rfl hc 4 (by decide) (hts _ qfl12_19) (fun _ h => h) rfl hni rfl (by decide +kernel) rfl rfl (Nat.le_of_ble_eq_true rfl) dX12_init_37 (fun H locs hP hD hS => ?_)
  have hP : va_P D lu_cl ((h0, .inr (12, [.ref s0, .ref kp, .ref ot, .int 0, .ref sk, .null, .null, .null, .null, .null, .int 0, .int 0, .int 0, .int 0, .int 0, .int 0, .int 0, .int 0, .int 0, .int 0, .null, .int 0, .null, .int 0, .int 0, .int 0, .int 0, .int 0, .int 0, .int 0, .null, .null, .null, .null, .null, .null, .null, .int 0, .int 0, .int 0, .int 0, .int 0])) :: (rest2 ++ [(sk, lu_ia cs 200)])) H := hP
  have hD : va_D A ((h0, .inr (12, [.ref s0, .ref kp, .ref ot, .int 0, .ref sk, .null, .null, .null, .null, .null, .int 0, .int 0, .int 0, .int 0, .int 0, .int 0, .int 0, .int 0, .int 0, .int 0, .null, .int 0, .null, .int 0, .int 0, .int 0, .int 0, .int 0, .int 0, .int 0, .null, .null, .null, .null, .null, .null, .null, .int 0, .int 0, .int 0, .int 0, .int 0])) :: (rest2 ++ [(sk, lu_ia cs 200)])) := hD
  generalize hr3 : rest2 ++ [(sk, lu_ia cs 200)] = rest3 at hP hD
  refine lv_aload_n hx hb dX12_init_40 rfl (lv_at hl 0 rfl) ?_
  refine lv_bipush (v := 64) hx hb dX12_init_41 (by decide) ?_
  refine lu_newI (N := 64) hx hb hts hK hP hD hS hA (by decide) (by decide) (by decide) (by omega) (by omega) dX12_init_43 (fun ne H hP hD hS => ?_)
  refine va_putF (v := .ref ne) (ty := .array .int) hx hb hts hin tyX12 tyX12_ok nmX12 hown hK hP hD hS 0 rfl hc 5 (by decide) (hts _ qfl12_22) (fun _ h => h) rfl hni rfl (by decide +kernel) rfl rfl (Nat.le_of_ble_eq_true rfl) dX12_init_45 (fun H locs hP hD hS => ?_)
  have hP : va_P D lu_cl ((h0, .inr (12, [.ref s0, .ref kp, .ref ot, .int 0, .ref sk, .ref ne, .null, .null, .null, .null, .int 0, .int 0, .int 0, .int 0, .int 0, .int 0, .int 0, .int 0, .int 0, .int 0, .null, .int 0, .null, .int 0, .int 0, .int 0, .int 0, .int 0, .int 0, .int 0, .null, .null, .null, .null, .null, .null, .null, .int 0, .int 0, .int 0, .int 0, .int 0])) :: (rest3 ++ [(ne, lu_ia cs 64)])) H := hP
  have hD : va_D A ((h0, .inr (12, [.ref s0, .ref kp, .ref ot, .int 0, .ref sk, .ref ne, .null, .null, .null, .null, .int 0, .int 0, .int 0, .int 0, .int 0, .int 0, .int 0, .int 0, .int 0, .int 0, .null, .int 0, .null, .int 0, .int 0, .int 0, .int 0, .int 0, .int 0, .int 0, .null, .null, .null, .null, .null, .null, .null, .int 0, .int 0, .int 0, .int 0, .int 0])) :: (rest3 ++ [(ne, lu_ia cs 64)])) := hD
  generalize hr4 : rest3 ++ [(ne, lu_ia cs 64)] = rest4 at hP hD
  refine lv_aload_n hx hb dX12_init_48 rfl (lv_at hl 0 rfl) ?_
  refine lv_bipush (v := 64) hx hb dX12_init_49 (by decide) ?_
  refine lu_newI (N := 64) hx hb hts hK hP hD hS hA (by decide) (by decide) (by decide) (by omega) (by omega) dX12_init_51 (fun pa H hP hD hS => ?_)
  refine va_putF (v := .ref pa) (ty := .array .int) hx hb hts hin tyX12 tyX12_ok nmX12 hown hK hP hD hS 0 rfl hc 6 (by decide) (hts _ qfl12_25) (fun _ h => h) rfl hni rfl (by decide +kernel) rfl rfl (Nat.le_of_ble_eq_true rfl) dX12_init_53 (fun H locs hP hD hS => ?_)
  have hP : va_P D lu_cl ((h0, .inr (12, [.ref s0, .ref kp, .ref ot, .int 0, .ref sk, .ref ne, .ref pa, .null, .null, .null, .int 0, .int 0, .int 0, .int 0, .int 0, .int 0, .int 0, .int 0, .int 0, .int 0, .null, .int 0, .null, .int 0, .int 0, .int 0, .int 0, .int 0, .int 0, .int 0, .null, .null, .null, .null, .null, .null, .null, .int 0, .int 0, .int 0, .int 0, .int 0])) :: (rest4 ++ [(pa, lu_ia cs 64)])) H := hP
  have hD : va_D A ((h0, .inr (12, [.ref s0, .ref kp, .ref ot, .int 0, .ref sk, .ref ne, .ref pa, .null, .null, .null, .int 0, .int 0, .int 0, .int 0, .int 0, .int 0, .int 0, .int 0, .int 0, .int 0, .null, .int 0, .null, .int 0, .int 0, .int 0, .int 0, .int 0, .int 0, .int 0, .null, .null, .null, .null, .null, .null, .null, .int 0, .int 0, .int 0, .int 0, .int 0])) :: (rest4 ++ [(pa, lu_ia cs 64)])) := hD
  rw [← hr4, ← hr3, ← hr2, ← hr1, ← hr0] at hP hD
  exact kk s0 kp ot sk ne pa H locs hP hD hS
theorem c12_B {s0 kp ot sk ne pa : Nat} (S : CallFix p m c cX12_init 1 s args lu_ws RX12) (hni : meth.name = "<init>") (hK : va_K D lu_cl (lu_tys cs) s) (hA : ∀ q, H0.size ≤ q → A q) (hl : lv_has ls 1 [(0, .ref h0)]) (hcl : cells + 6 ≤ 18) (hsl : slots + 284 ≤ 1922) (hP : va_P D lu_cl ((h0, .inr (12, [.ref s0, .ref kp, .ref ot, .int 0, .ref sk, .ref ne, .ref pa, .null, .null, .null, .int 0, .int 0, .int 0, .int 0, .int 0, .int 0, .int 0, .int 0, .int 0, .int 0, .null, .int 0, .null, .int 0, .int 0, .int 0, .int 0, .int 0, .int 0, .int 0, .null, .null, .null, .null, .null, .null, .null, .int 0, .int 0, .int 0, .int 0, .int 0])) :: rest) H) (hD : va_D A ((h0, .inr (12, [.ref s0, .ref kp, .ref ot, .int 0, .ref sk, .ref ne, .ref pa, .null, .null, .null, .int 0, .int 0, .int 0, .int 0, .int 0, .int 0, .int 0, .int 0, .int 0, .int 0, .null, .int 0, .null, .int 0, .int 0, .int 0, .int 0, .int 0, .int 0, .int 0, .null, .null, .null, .null, .null, .null, .null, .int 0, .int 0, .int 0, .int 0, .int 0])) :: rest)) (hS : va_S A H0 H locs)
    (kk : ∀ (sv li fi ro tp so : Nat) (H : Heap) (locs : List Loc), va_P D lu_cl ((h0, .inr (12, [.ref s0, .ref kp, .ref ot, .int 0, .ref sk, .ref ne, .ref pa, .ref sv, .ref li, .ref fi, .int 0, .int 0, .int 0, .int 0, .int 0, .int 0, .int 0, .int 0, .int 0, .int 0, .ref ro, .int 0, .ref tp, .int 0, .int 0, .int 0, .int 0, .int 0, .int 0, .int 0, .ref so, .null, .null, .null, .null, .null, .null, .int 0, .int 0, .int 0, .int 0, .int 0])) :: ((((((rest ++ [(sv, lu_ia cs 60)]) ++ [(li, lu_ia cs 4)]) ++ [(fi, lu_ia cs 4)]) ++ [(ro, lu_ia cs 12)]) ++ [(tp, lu_ia cs 200)]) ++ [(so, .inl (cs 0, 4, .inl (lu_q4 (-1))))])) H → va_D A ((h0, .inr (12, [.ref s0, .ref kp, .ref ot, .int 0, .ref sk, .ref ne, .ref pa, .ref sv, .ref li, .ref fi, .int 0, .int 0, .int 0, .int 0, .int 0, .int 0, .int 0, .int 0, .int 0, .int 0, .ref ro, .int 0, .ref tp, .int 0, .int 0, .int 0, .int 0, .int 0, .int 0, .int 0, .ref so, .null, .null, .null, .null, .null, .null, .int 0, .int 0, .int 0, .int 0, .int 0])) :: ((((((rest ++ [(sv, lu_ia cs 60)]) ++ [(li, lu_ia cs 4)]) ++ [(fi, lu_ia cs 4)]) ++ [(ro, lu_ia cs 12)]) ++ [(tp, lu_ia cs 200)]) ++ [(so, .inl (cs 0, 4, .inl (lu_q4 (-1))))])) → va_S A H0 H locs → W p l e lu_R12 s m args below meth c H locs (cells + 1 + 1 + 1 + 1 + 1 + 1) (slots + 60 + 4 + 4 + 12 + 200 + 4) Q (F0 m 118 ls [])) :
    W p l e lu_R12 s m args below meth c H locs cells slots Q (F0 m 56 ls []) := by
  obtain ⟨hx, hb, hml, hown, hts⟩ := S
  have hc : lu_cl[12]? = some (RX12, TX12, 42) := rfl
  have hin := lu_lay lu_lay12
  have hcl : cells + 6 ≤ lu_R12.cells := hcl
  have hsl : slots + 284 ≤ lu_R12.slots := hsl
  refine lv_aload_n hx hb dX12_init_56 rfl (lv_at hl 0 rfl) ?_
  refine lv_bipush (v := 60) hx hb dX12_init_57 (by decide) ?_
  refine lu_newI (N := 60) hx hb hts hK hP hD hS hA (by decide) (by decide) (by decide) (by omega) (by omega) dX12_init_59 (fun sv H hP hD hS => ?_)
  refine va_putF (v := .ref sv) (ty := .array .int) hx hb hts hin tyX12 tyX12_ok nmX12 hown hK hP hD hS 0 rfl hc 7 (by decide) (hts _ qfl12_28) (fun _ h => h) rfl hni rfl (by decide +kernel) rfl rfl (Nat.le_of_ble_eq_true rfl) dX12_init_61 (fun H locs hP hD hS => ?_)
  have hP : va_P D lu_cl ((h0, .inr (12, [.ref s0, .ref kp, .ref ot, .int 0, .ref sk, .ref ne, .ref pa, .ref sv, .null, .null, .int 0, .int 0, .int 0, .int 0, .int 0, .int 0, .int 0, .int 0, .int 0, .int 0, .null, .int 0, .null, .int 0, .int 0, .int 0, .int 0, .int 0, .int 0, .int 0, .null, .null, .null, .null, .null, .null, .null, .int 0, .int 0, .int 0, .int 0, .int 0])) :: (rest ++ [(sv, lu_ia cs 60)])) H := hP
  have hD : va_D A ((h0, .inr (12, [.ref s0, .ref kp, .ref ot, .int 0, .ref sk, .ref ne, .ref pa, .ref sv, .null, .null, .int 0, .int 0, .int 0, .int 0, .int 0, .int 0, .int 0, .int 0, .int 0, .int 0, .null, .int 0, .null, .int 0, .int 0, .int 0, .int 0, .int 0, .int 0, .int 0, .null, .null, .null, .null, .null, .null, .null, .int 0, .int 0, .int 0, .int 0, .int 0])) :: (rest ++ [(sv, lu_ia cs 60)])) := hD
  generalize hr0 : rest ++ [(sv, lu_ia cs 60)] = rest0 at hP hD
  refine lv_aload_n hx hb dX12_init_64 rfl (lv_at hl 0 rfl) ?_
  refine lv_iconst (v := 4) hx hb dX12_init_65 (by decide) ?_
  refine lu_newI (N := 4) hx hb hts hK hP hD hS hA (by decide) (by decide) (by decide) (by omega) (by omega) dX12_init_66 (fun li H hP hD hS => ?_)
  refine va_putF (v := .ref li) (ty := .array .int) hx hb hts hin tyX12 tyX12_ok nmX12 hown hK hP hD hS 0 rfl hc 8 (by decide) (hts _ qfl12_31) (fun _ h => h) rfl hni rfl (by decide +kernel) rfl rfl (Nat.le_of_ble_eq_true rfl) dX12_init_68 (fun H locs hP hD hS => ?_)
  have hP : va_P D lu_cl ((h0, .inr (12, [.ref s0, .ref kp, .ref ot, .int 0, .ref sk, .ref ne, .ref pa, .ref sv, .ref li, .null, .int 0, .int 0, .int 0, .int 0, .int 0, .int 0, .int 0, .int 0, .int 0, .int 0, .null, .int 0, .null, .int 0, .int 0, .int 0, .int 0, .int 0, .int 0, .int 0, .null, .null, .null, .null, .null, .null, .null, .int 0, .int 0, .int 0, .int 0, .int 0])) :: (rest0 ++ [(li, lu_ia cs 4)])) H := hP
  have hD : va_D A ((h0, .inr (12, [.ref s0, .ref kp, .ref ot, .int 0, .ref sk, .ref ne, .ref pa, .ref sv, .ref li, .null, .int 0, .int 0, .int 0, .int 0, .int 0, .int 0, .int 0, .int 0, .int 0, .int 0, .null, .int 0, .null, .int 0, .int 0, .int 0, .int 0, .int 0, .int 0, .int 0, .null, .null, .null, .null, .null, .null, .null, .int 0, .int 0, .int 0, .int 0, .int 0])) :: (rest0 ++ [(li, lu_ia cs 4)])) := hD
  generalize hr1 : rest0 ++ [(li, lu_ia cs 4)] = rest1 at hP hD
  refine lv_aload_n hx hb dX12_init_71 rfl (lv_at hl 0 rfl) ?_
  refine lv_iconst (v := 4) hx hb dX12_init_72 (by decide) ?_
  refine lu_newI (N := 4) hx hb hts hK hP hD hS hA (by decide) (by decide) (by decide) (by omega) (by omega) dX12_init_73 (fun fi H hP hD hS => ?_)
  refine va_putF (v := .ref fi) (ty := .array .int) hx hb hts hin tyX12 tyX12_ok nmX12 hown hK hP hD hS 0 rfl hc 9 (by decide) (hts _ qfl12_34) (fun _ h => h) rfl hni rfl (by decide +kernel) rfl rfl (Nat.le_of_ble_eq_true rfl) dX12_init_75 (fun H locs hP hD hS => ?_)
  have hP : va_P D lu_cl ((h0, .inr (12, [.ref s0, .ref kp, .ref ot, .int 0, .ref sk, .ref ne, .ref pa, .ref sv, .ref li, .ref fi, .int 0, .int 0, .int 0, .int 0, .int 0, .int 0, .int 0, .int 0, .int 0, .int 0, .null, .int 0, .null, .int 0, .int 0, .int 0, .int 0, .int 0, .int 0, .int 0, .null, .null, .null, .null, .null, .null, .null, .int 0, .int 0, .int 0, .int 0, .int 0])) :: (rest1 ++ [(fi, lu_ia cs 4)])) H := hP
  have hD : va_D A ((h0, .inr (12, [.ref s0, .ref kp, .ref ot, .int 0, .ref sk, .ref ne, .ref pa, .ref sv, .ref li, .ref fi, .int 0, .int 0, .int 0, .int 0, .int 0, .int 0, .int 0, .int 0, .int 0, .int 0, .null, .int 0, .null, .int 0, .int 0, .int 0, .int 0, .int 0, .int 0, .int 0, .null, .null, .null, .null, .null, .null, .null, .int 0, .int 0, .int 0, .int 0, .int 0])) :: (rest1 ++ [(fi, lu_ia cs 4)])) := hD
  generalize hr2 : rest1 ++ [(fi, lu_ia cs 4)] = rest2 at hP hD
  refine lv_aload_n hx hb dX12_init_78 rfl (lv_at hl 0 rfl) ?_
  refine lv_bipush (v := 12) hx hb dX12_init_79 (by decide) ?_
  refine lu_newI (N := 12) hx hb hts hK hP hD hS hA (by decide) (by decide) (by decide) (by omega) (by omega) dX12_init_81 (fun ro H hP hD hS => ?_)
  refine va_putF (v := .ref ro) (ty := .array .int) hx hb hts hin tyX12 tyX12_ok nmX12 hown hK hP hD hS 0 rfl hc 20 (by decide) (hts _ qfl12_37) (fun _ h => h) rfl hni rfl (by decide +kernel) rfl rfl (Nat.le_of_ble_eq_true rfl) dX12_init_83 (fun H locs hP hD hS => ?_)
  have hP : va_P D lu_cl ((h0, .inr (12, [.ref s0, .ref kp, .ref ot, .int 0, .ref sk, .ref ne, .ref pa, .ref sv, .ref li, .ref fi, .int 0, .int 0, .int 0, .int 0, .int 0, .int 0, .int 0, .int 0, .int 0, .int 0, .ref ro, .int 0, .null, .int 0, .int 0, .int 0, .int 0, .int 0, .int 0, .int 0, .null, .null, .null, .null, .null, .null, .null, .int 0, .int 0, .int 0, .int 0, .int 0])) :: (rest2 ++ [(ro, lu_ia cs 12)])) H := hP
  have hD : va_D A ((h0, .inr (12, [.ref s0, .ref kp, .ref ot, .int 0, .ref sk, .ref ne, .ref pa, .ref sv, .ref li, .ref fi, .int 0, .int 0, .int 0, .int 0, .int 0, .int 0, .int 0, .int 0, .int 0, .int 0, .ref ro, .int 0, .null, .int 0, .int 0, .int 0, .int 0, .int 0, .int 0, .int 0, .null, .null, .null, .null, .null, .null, .null, .int 0, .int 0, .int 0, .int 0, .int 0])) :: (rest2 ++ [(ro, lu_ia cs 12)])) := hD
  generalize hr3 : rest2 ++ [(ro, lu_ia cs 12)] = rest3 at hP hD
  refine lv_aload_n hx hb dX12_init_86 rfl (lv_at hl 0 rfl) ?_
  refine lv_sipush (v := 200) hx hb dX12_init_87 (by decide) ?_
  refine lu_newI (N := 200) hx hb hts hK hP hD hS hA (by decide) (by decide) (by decide) (by omega) (by omega) dX12_init_90 (fun tp H hP hD hS => ?_)
  refine va_putF (v := .ref tp) (ty := .array .int) hx hb hts hin tyX12 tyX12_ok nmX12 hown hK hP hD hS 0 rfl hc 22 (by decide) (hts _ qfl12_40) (fun _ h => h) rfl hni rfl (by decide +kernel) rfl rfl (Nat.le_of_ble_eq_true rfl) dX12_init_92 (fun H locs hP hD hS => ?_)
  have hP : va_P D lu_cl ((h0, .inr (12, [.ref s0, .ref kp, .ref ot, .int 0, .ref sk, .ref ne, .ref pa, .ref sv, .ref li, .ref fi, .int 0, .int 0, .int 0, .int 0, .int 0, .int 0, .int 0, .int 0, .int 0, .int 0, .ref ro, .int 0, .ref tp, .int 0, .int 0, .int 0, .int 0, .int 0, .int 0, .int 0, .null, .null, .null, .null, .null, .null, .null, .int 0, .int 0, .int 0, .int 0, .int 0])) :: (rest3 ++ [(tp, lu_ia cs 200)])) H := hP
  have hD : va_D A ((h0, .inr (12, [.ref s0, .ref kp, .ref ot, .int 0, .ref sk, .ref ne, .ref pa, .ref sv, .ref li, .ref fi, .int 0, .int 0, .int 0, .int 0, .int 0, .int 0, .int 0, .int 0, .int 0, .int 0, .ref ro, .int 0, .ref tp, .int 0, .int 0, .int 0, .int 0, .int 0, .int 0, .int 0, .null, .null, .null, .null, .null, .null, .null, .int 0, .int 0, .int 0, .int 0, .int 0])) :: (rest3 ++ [(tp, lu_ia cs 200)])) := hD
  generalize hr4 : rest3 ++ [(tp, lu_ia cs 200)] = rest4 at hP hD
  refine lv_aload_n hx hb dX12_init_95 rfl (lv_at hl 0 rfl) ?_
  refine lv_iconst (v := 4) hx hb dX12_init_96 (by decide) ?_
  refine lu_newI (N := 4) hx hb hts hK hP hD hS hA (by decide) (by decide) (by decide) (by omega) (by omega) dX12_init_97 (fun so H hP hD hS => ?_)
  have hP : va_P D lu_cl ((h0, .inr (12, [.ref s0, .ref kp, .ref ot, .int 0, .ref sk, .ref ne, .ref pa, .ref sv, .ref li, .ref fi, .int 0, .int 0, .int 0, .int 0, .int 0, .int 0, .int 0, .int 0, .int 0, .int 0, .ref ro, .int 0, .ref tp, .int 0, .int 0, .int 0, .int 0, .int 0, .int 0, .int 0, .null, .null, .null, .null, .null, .null, .null, .int 0, .int 0, .int 0, .int 0, .int 0])) :: (rest4 ++ [(so, .inl (cs 0, 4, .inl (fun _ => 0)))])) H := hP
  have hD : va_D A ((h0, .inr (12, [.ref s0, .ref kp, .ref ot, .int 0, .ref sk, .ref ne, .ref pa, .ref sv, .ref li, .ref fi, .int 0, .int 0, .int 0, .int 0, .int 0, .int 0, .int 0, .int 0, .int 0, .int 0, .ref ro, .int 0, .ref tp, .int 0, .int 0, .int 0, .int 0, .int 0, .int 0, .int 0, .null, .null, .null, .null, .null, .null, .null, .int 0, .int 0, .int 0, .int 0, .int 0])) :: (rest4 ++ [(so, .inl (cs 0, 4, .inl (fun _ => 0)))])) := hD
  refine c12_st (i := 0) ⟨hx, hb, hml, hown, hts⟩ hK (by decide) (by unfold vp_in; decide) dX12_init_99 dX12_init_100 dX12_init_101 dX12_init_102 hP hD hS (fun H locs hP hD hS => ?_)
  refine c12_st (i := 1) ⟨hx, hb, hml, hown, hts⟩ hK (by decide) (by unfold vp_in; decide) dX12_init_103 dX12_init_104 dX12_init_105 dX12_init_106 hP hD hS (fun H locs hP hD hS => ?_)
  refine c12_st (i := 2) ⟨hx, hb, hml, hown, hts⟩ hK (by decide) (by unfold vp_in; decide) dX12_init_107 dX12_init_108 dX12_init_109 dX12_init_110 hP hD hS (fun H locs hP hD hS => ?_)
  refine c12_st (i := 3) ⟨hx, hb, hml, hown, hts⟩ hK (by decide) (by unfold vp_in; decide) dX12_init_111 dX12_init_112 dX12_init_113 dX12_init_114 hP hD hS (fun H locs hP hD hS => ?_)
  refine va_putF (v := .ref so) (ty := .array .int) hx hb hts hin tyX12 tyX12_ok nmX12 hown hK hP hD hS 0 rfl hc 30 (by decide) (hts _ qfl12_43) (fun _ h => h) rfl hni rfl (by decide +kernel) rfl rfl (Nat.le_of_ble_eq_true rfl) dX12_init_115 (fun H locs hP hD hS => ?_)
  have hP : va_P D lu_cl ((h0, .inr (12, [.ref s0, .ref kp, .ref ot, .int 0, .ref sk, .ref ne, .ref pa, .ref sv, .ref li, .ref fi, .int 0, .int 0, .int 0, .int 0, .int 0, .int 0, .int 0, .int 0, .int 0, .int 0, .ref ro, .int 0, .ref tp, .int 0, .int 0, .int 0, .int 0, .int 0, .int 0, .int 0, .ref so, .null, .null, .null, .null, .null, .null, .int 0, .int 0, .int 0, .int 0, .int 0])) :: (rest4 ++ [(so, .inl (cs 0, 4, .inl (lu_q4 (-1))))])) H := hP
  have hD : va_D A ((h0, .inr (12, [.ref s0, .ref kp, .ref ot, .int 0, .ref sk, .ref ne, .ref pa, .ref sv, .ref li, .ref fi, .int 0, .int 0, .int 0, .int 0, .int 0, .int 0, .int 0, .int 0, .int 0, .int 0, .ref ro, .int 0, .ref tp, .int 0, .int 0, .int 0, .int 0, .int 0, .int 0, .int 0, .ref so, .null, .null, .null, .null, .null, .null, .int 0, .int 0, .int 0, .int 0, .int 0])) :: (rest4 ++ [(so, .inl (cs 0, 4, .inl (lu_q4 (-1))))])) := hD
  rw [← hr4, ← hr3, ← hr2, ← hr1, ← hr0] at hP hD
  exact kk sv li fi ro tp so H locs hP hD hS
theorem c12_C {s0 kp ot sk ne pa sv li fi ro tp so : Nat} (S : CallFix p m c cX12_init 1 s args lu_ws RX12) (hni : meth.name = "<init>") (hK : va_K D lu_cl (lu_tys cs) s) (hA : ∀ q, H0.size ≤ q → A q) (hl : lv_has ls 1 [(0, .ref h0)]) (hcl : cells + 6 ≤ 18) (hsl : slots + 206 ≤ 1922) (hP : va_P D lu_cl ((h0, .inr (12, [.ref s0, .ref kp, .ref ot, .int 0, .ref sk, .ref ne, .ref pa, .ref sv, .ref li, .ref fi, .int 0, .int 0, .int 0, .int 0, .int 0, .int 0, .int 0, .int 0, .int 0, .int 0, .ref ro, .int 0, .ref tp, .int 0, .int 0, .int 0, .int 0, .int 0, .int 0, .int 0, .ref so, .null, .null, .null, .null, .null, .null, .int 0, .int 0, .int 0, .int 0, .int 0])) :: rest) H) (hD : va_D A ((h0, .inr (12, [.ref s0, .ref kp, .ref ot, .int 0, .ref sk, .ref ne, .ref pa, .ref sv, .ref li, .ref fi, .int 0, .int 0, .int 0, .int 0, .int 0, .int 0, .int 0, .int 0, .int 0, .int 0, .ref ro, .int 0, .ref tp, .int 0, .int 0, .int 0, .int 0, .int 0, .int 0, .int 0, .ref so, .null, .null, .null, .null, .null, .null, .int 0, .int 0, .int 0, .int 0, .int 0])) :: rest)) (hS : va_S A H0 H locs)
    (kk : ∀ (sz it le ln lt ra : Nat) (H : Heap) (locs : List Loc), va_P D lu_cl ((h0, .inr (12, [.ref s0, .ref kp, .ref ot, .int 0, .ref sk, .ref ne, .ref pa, .ref sv, .ref li, .ref fi, .int 0, .int 0, .int 0, .int 0, .int 0, .int 0, .int 0, .int 0, .int 0, .int 0, .ref ro, .int 0, .ref tp, .int 0, .int 0, .int 0, .int 0, .int 0, .int 0, .int 0, .ref so, .ref sz, .ref it, .ref le, .ref ln, .ref lt, .ref ra, .int 0, .int 0, .int 0, .int 0, .int 0])) :: ((((((rest ++ [(sz, lu_ia cs 4)]) ++ [(it, lu_ia cs 160)]) ++ [(le, lu_ia cs 4)]) ++ [(ln, lu_ia cs 4)]) ++ [(lt, lu_ia cs 4)]) ++ [(ra, lu_ia cs 30)])) H → va_D A ((h0, .inr (12, [.ref s0, .ref kp, .ref ot, .int 0, .ref sk, .ref ne, .ref pa, .ref sv, .ref li, .ref fi, .int 0, .int 0, .int 0, .int 0, .int 0, .int 0, .int 0, .int 0, .int 0, .int 0, .ref ro, .int 0, .ref tp, .int 0, .int 0, .int 0, .int 0, .int 0, .int 0, .int 0, .ref so, .ref sz, .ref it, .ref le, .ref ln, .ref lt, .ref ra, .int 0, .int 0, .int 0, .int 0, .int 0])) :: ((((((rest ++ [(sz, lu_ia cs 4)]) ++ [(it, lu_ia cs 160)]) ++ [(le, lu_ia cs 4)]) ++ [(ln, lu_ia cs 4)]) ++ [(lt, lu_ia cs 4)]) ++ [(ra, lu_ia cs 30)])) → va_S A H0 H locs → W p l e lu_R12 s m args below meth c H locs (cells + 1 + 1 + 1 + 1 + 1 + 1) (slots + 4 + 160 + 4 + 4 + 4 + 30) Q (F0 m 163 ls [])) :
    W p l e lu_R12 s m args below meth c H locs cells slots Q (F0 m 118 ls []) := by
  obtain ⟨hx, hb, hml, hown, hts⟩ := S
  have hc : lu_cl[12]? = some (RX12, TX12, 42) := rfl
  have hin := lu_lay lu_lay12
  have hcl : cells + 6 ≤ lu_R12.cells := hcl
  have hsl : slots + 206 ≤ lu_R12.slots := hsl
  refine lv_aload_n hx hb dX12_init_118 rfl (lv_at hl 0 rfl) ?_
  refine lv_iconst (v := 4) hx hb dX12_init_119 (by decide) ?_
  refine lu_newI (N := 4) hx hb hts hK hP hD hS hA (by decide) (by decide) (by decide) (by omega) (by omega) dX12_init_120 (fun sz H hP hD hS => ?_)
  refine va_putF (v := .ref sz) (ty := .array .int) hx hb hts hin tyX12 tyX12_ok nmX12 hown hK hP hD hS 0 rfl hc 31 (by decide) (hts _ qfl12_46) (fun _ h => h) rfl hni rfl (by decide +kernel) rfl rfl (Nat.le_of_ble_eq_true rfl) dX12_init_122 (fun H locs hP hD hS => ?_)
  have hP : va_P D lu_cl ((h0, .inr (12, [.ref s0, .ref kp, .ref ot, .int 0, .ref sk, .ref ne, .ref pa, .ref sv, .ref li, .ref fi, .int 0, .int 0, .int 0, .int 0, .int 0, .int 0, .int 0, .int 0, .int 0, .int 0, .ref ro, .int 0, .ref tp, .int 0, .int 0, .int 0, .int 0, .int 0, .int 0, .int 0, .ref so, .ref sz, .null, .null, .null, .null, .null, .int 0, .int 0, .int 0, .int 0, .int 0])) :: (rest ++ [(sz, lu_ia cs 4)])) H := hP
  have hD : va_D A ((h0, .inr (12, [.ref s0, .ref kp, .ref ot, .int 0, .ref sk, .ref ne, .ref pa, .ref sv, .ref li, .ref fi, .int 0, .int 0, .int 0, .int 0, .int 0, .int 0, .int 0, .int 0, .int 0, .int 0, .ref ro, .int 0, .ref tp, .int 0, .int 0, .int 0, .int 0, .int 0, .int 0, .int 0, .ref so, .ref sz, .null, .null, .null, .null, .null, .int 0, .int 0, .int 0, .int 0, .int 0])) :: (rest ++ [(sz, lu_ia cs 4)])) := hD
  generalize hr0 : rest ++ [(sz, lu_ia cs 4)] = rest0 at hP hD
  refine lv_aload_n hx hb dX12_init_125 rfl (lv_at hl 0 rfl) ?_
  refine lv_sipush (v := 160) hx hb dX12_init_126 (by decide) ?_
  refine lu_newI (N := 160) hx hb hts hK hP hD hS hA (by decide) (by decide) (by decide) (by omega) (by omega) dX12_init_129 (fun it H hP hD hS => ?_)
  refine va_putF (v := .ref it) (ty := .array .int) hx hb hts hin tyX12 tyX12_ok nmX12 hown hK hP hD hS 0 rfl hc 32 (by decide) (hts _ qfl12_49) (fun _ h => h) rfl hni rfl (by decide +kernel) rfl rfl (Nat.le_of_ble_eq_true rfl) dX12_init_131 (fun H locs hP hD hS => ?_)
  have hP : va_P D lu_cl ((h0, .inr (12, [.ref s0, .ref kp, .ref ot, .int 0, .ref sk, .ref ne, .ref pa, .ref sv, .ref li, .ref fi, .int 0, .int 0, .int 0, .int 0, .int 0, .int 0, .int 0, .int 0, .int 0, .int 0, .ref ro, .int 0, .ref tp, .int 0, .int 0, .int 0, .int 0, .int 0, .int 0, .int 0, .ref so, .ref sz, .ref it, .null, .null, .null, .null, .int 0, .int 0, .int 0, .int 0, .int 0])) :: (rest0 ++ [(it, lu_ia cs 160)])) H := hP
  have hD : va_D A ((h0, .inr (12, [.ref s0, .ref kp, .ref ot, .int 0, .ref sk, .ref ne, .ref pa, .ref sv, .ref li, .ref fi, .int 0, .int 0, .int 0, .int 0, .int 0, .int 0, .int 0, .int 0, .int 0, .int 0, .ref ro, .int 0, .ref tp, .int 0, .int 0, .int 0, .int 0, .int 0, .int 0, .int 0, .ref so, .ref sz, .ref it, .null, .null, .null, .null, .int 0, .int 0, .int 0, .int 0, .int 0])) :: (rest0 ++ [(it, lu_ia cs 160)])) := hD
  generalize hr1 : rest0 ++ [(it, lu_ia cs 160)] = rest1 at hP hD
  refine lv_aload_n hx hb dX12_init_134 rfl (lv_at hl 0 rfl) ?_
  refine lv_iconst (v := 4) hx hb dX12_init_135 (by decide) ?_
  refine lu_newI (N := 4) hx hb hts hK hP hD hS hA (by decide) (by decide) (by decide) (by omega) (by omega) dX12_init_136 (fun le H hP hD hS => ?_)
  refine va_putF (v := .ref le) (ty := .array .int) hx hb hts hin tyX12 tyX12_ok nmX12 hown hK hP hD hS 0 rfl hc 33 (by decide) (hts _ qfl12_52) (fun _ h => h) rfl hni rfl (by decide +kernel) rfl rfl (Nat.le_of_ble_eq_true rfl) dX12_init_138 (fun H locs hP hD hS => ?_)
  have hP : va_P D lu_cl ((h0, .inr (12, [.ref s0, .ref kp, .ref ot, .int 0, .ref sk, .ref ne, .ref pa, .ref sv, .ref li, .ref fi, .int 0, .int 0, .int 0, .int 0, .int 0, .int 0, .int 0, .int 0, .int 0, .int 0, .ref ro, .int 0, .ref tp, .int 0, .int 0, .int 0, .int 0, .int 0, .int 0, .int 0, .ref so, .ref sz, .ref it, .ref le, .null, .null, .null, .int 0, .int 0, .int 0, .int 0, .int 0])) :: (rest1 ++ [(le, lu_ia cs 4)])) H := hP
  have hD : va_D A ((h0, .inr (12, [.ref s0, .ref kp, .ref ot, .int 0, .ref sk, .ref ne, .ref pa, .ref sv, .ref li, .ref fi, .int 0, .int 0, .int 0, .int 0, .int 0, .int 0, .int 0, .int 0, .int 0, .int 0, .ref ro, .int 0, .ref tp, .int 0, .int 0, .int 0, .int 0, .int 0, .int 0, .int 0, .ref so, .ref sz, .ref it, .ref le, .null, .null, .null, .int 0, .int 0, .int 0, .int 0, .int 0])) :: (rest1 ++ [(le, lu_ia cs 4)])) := hD
  generalize hr2 : rest1 ++ [(le, lu_ia cs 4)] = rest2 at hP hD
  refine lv_aload_n hx hb dX12_init_141 rfl (lv_at hl 0 rfl) ?_
  refine lv_iconst (v := 4) hx hb dX12_init_142 (by decide) ?_
  refine lu_newI (N := 4) hx hb hts hK hP hD hS hA (by decide) (by decide) (by decide) (by omega) (by omega) dX12_init_143 (fun ln H hP hD hS => ?_)
  refine va_putF (v := .ref ln) (ty := .array .int) hx hb hts hin tyX12 tyX12_ok nmX12 hown hK hP hD hS 0 rfl hc 34 (by decide) (hts _ qfl12_55) (fun _ h => h) rfl hni rfl (by decide +kernel) rfl rfl (Nat.le_of_ble_eq_true rfl) dX12_init_145 (fun H locs hP hD hS => ?_)
  have hP : va_P D lu_cl ((h0, .inr (12, [.ref s0, .ref kp, .ref ot, .int 0, .ref sk, .ref ne, .ref pa, .ref sv, .ref li, .ref fi, .int 0, .int 0, .int 0, .int 0, .int 0, .int 0, .int 0, .int 0, .int 0, .int 0, .ref ro, .int 0, .ref tp, .int 0, .int 0, .int 0, .int 0, .int 0, .int 0, .int 0, .ref so, .ref sz, .ref it, .ref le, .ref ln, .null, .null, .int 0, .int 0, .int 0, .int 0, .int 0])) :: (rest2 ++ [(ln, lu_ia cs 4)])) H := hP
  have hD : va_D A ((h0, .inr (12, [.ref s0, .ref kp, .ref ot, .int 0, .ref sk, .ref ne, .ref pa, .ref sv, .ref li, .ref fi, .int 0, .int 0, .int 0, .int 0, .int 0, .int 0, .int 0, .int 0, .int 0, .int 0, .ref ro, .int 0, .ref tp, .int 0, .int 0, .int 0, .int 0, .int 0, .int 0, .int 0, .ref so, .ref sz, .ref it, .ref le, .ref ln, .null, .null, .int 0, .int 0, .int 0, .int 0, .int 0])) :: (rest2 ++ [(ln, lu_ia cs 4)])) := hD
  generalize hr3 : rest2 ++ [(ln, lu_ia cs 4)] = rest3 at hP hD
  refine lv_aload_n hx hb dX12_init_148 rfl (lv_at hl 0 rfl) ?_
  refine lv_iconst (v := 4) hx hb dX12_init_149 (by decide) ?_
  refine lu_newI (N := 4) hx hb hts hK hP hD hS hA (by decide) (by decide) (by decide) (by omega) (by omega) dX12_init_150 (fun lt H hP hD hS => ?_)
  refine va_putF (v := .ref lt) (ty := .array .int) hx hb hts hin tyX12 tyX12_ok nmX12 hown hK hP hD hS 0 rfl hc 35 (by decide) (hts _ qfl12_58) (fun _ h => h) rfl hni rfl (by decide +kernel) rfl rfl (Nat.le_of_ble_eq_true rfl) dX12_init_152 (fun H locs hP hD hS => ?_)
  have hP : va_P D lu_cl ((h0, .inr (12, [.ref s0, .ref kp, .ref ot, .int 0, .ref sk, .ref ne, .ref pa, .ref sv, .ref li, .ref fi, .int 0, .int 0, .int 0, .int 0, .int 0, .int 0, .int 0, .int 0, .int 0, .int 0, .ref ro, .int 0, .ref tp, .int 0, .int 0, .int 0, .int 0, .int 0, .int 0, .int 0, .ref so, .ref sz, .ref it, .ref le, .ref ln, .ref lt, .null, .int 0, .int 0, .int 0, .int 0, .int 0])) :: (rest3 ++ [(lt, lu_ia cs 4)])) H := hP
  have hD : va_D A ((h0, .inr (12, [.ref s0, .ref kp, .ref ot, .int 0, .ref sk, .ref ne, .ref pa, .ref sv, .ref li, .ref fi, .int 0, .int 0, .int 0, .int 0, .int 0, .int 0, .int 0, .int 0, .int 0, .int 0, .ref ro, .int 0, .ref tp, .int 0, .int 0, .int 0, .int 0, .int 0, .int 0, .int 0, .ref so, .ref sz, .ref it, .ref le, .ref ln, .ref lt, .null, .int 0, .int 0, .int 0, .int 0, .int 0])) :: (rest3 ++ [(lt, lu_ia cs 4)])) := hD
  generalize hr4 : rest3 ++ [(lt, lu_ia cs 4)] = rest4 at hP hD
  refine lv_aload_n hx hb dX12_init_155 rfl (lv_at hl 0 rfl) ?_
  refine lv_bipush (v := 30) hx hb dX12_init_156 (by decide) ?_
  refine lu_newI (N := 30) hx hb hts hK hP hD hS hA (by decide) (by decide) (by decide) (by omega) (by omega) dX12_init_158 (fun ra H hP hD hS => ?_)
  refine va_putF (v := .ref ra) (ty := .array .int) hx hb hts hin tyX12 tyX12_ok nmX12 hown hK hP hD hS 0 rfl hc 36 (by decide) (hts _ qfl12_61) (fun _ h => h) rfl hni rfl (by decide +kernel) rfl rfl (Nat.le_of_ble_eq_true rfl) dX12_init_160 (fun H locs hP hD hS => ?_)
  have hP : va_P D lu_cl ((h0, .inr (12, [.ref s0, .ref kp, .ref ot, .int 0, .ref sk, .ref ne, .ref pa, .ref sv, .ref li, .ref fi, .int 0, .int 0, .int 0, .int 0, .int 0, .int 0, .int 0, .int 0, .int 0, .int 0, .ref ro, .int 0, .ref tp, .int 0, .int 0, .int 0, .int 0, .int 0, .int 0, .int 0, .ref so, .ref sz, .ref it, .ref le, .ref ln, .ref lt, .ref ra, .int 0, .int 0, .int 0, .int 0, .int 0])) :: (rest4 ++ [(ra, lu_ia cs 30)])) H := hP
  have hD : va_D A ((h0, .inr (12, [.ref s0, .ref kp, .ref ot, .int 0, .ref sk, .ref ne, .ref pa, .ref sv, .ref li, .ref fi, .int 0, .int 0, .int 0, .int 0, .int 0, .int 0, .int 0, .int 0, .int 0, .int 0, .ref ro, .int 0, .ref tp, .int 0, .int 0, .int 0, .int 0, .int 0, .int 0, .int 0, .ref so, .ref sz, .ref it, .ref le, .ref ln, .ref lt, .ref ra, .int 0, .int 0, .int 0, .int 0, .int 0])) :: (rest4 ++ [(ra, lu_ia cs 30)])) := hD
  rw [← hr4, ← hr3, ← hr2, ← hr1, ← hr0] at hP hD
  exact kk sz it le ln lt ra H locs hP hD hS
end REF
def lu_mN (cs : Nat → ClassId) (h0 : Nat) (wn : va_W) : Prop := ∃ s0 kp ot sk ne pa sv li fi ro tp so sz it le ln lt ra : Nat, wn = [(h0, .inr (12, [.ref s0, .ref kp, .ref ot, .int 0, .ref sk, .ref ne, .ref pa, .ref sv, .ref li, .ref fi, .int 0, .int 0, .int 0, .int 0, .int 0, .int 0, .int 0, .int 0, .int 0, .int 0, .ref ro, .int 0, .ref tp, .int 0, .int 0, .int 0, .int 0, .int 0, .int 0, .int 0, .ref so, .ref sz, .ref it, .ref le, .ref ln, .ref lt, .ref ra, .int 0, .int 0, .int 0, .int 0, .int 0])), (s0, .inl (cs 0, 368, .inl (upd (upd (fun _ => 0) (7 : Int32).toNatClampNeg 1) (2 : Int32).toNatClampNeg 12))), (kp, lu_ia cs 368), (ot, lu_ia cs 368), (sk, lu_ia cs 200), (ne, lu_ia cs 64), (pa, lu_ia cs 64), (sv, lu_ia cs 60), (li, lu_ia cs 4), (fi, lu_ia cs 4), (ro, lu_ia cs 12), (tp, lu_ia cs 200), (so, .inl (cs 0, 4, .inl (lu_q4 (-1)))), (sz, lu_ia cs 4), (it, lu_ia cs 160), (le, lu_ia cs 4), (ln, lu_ia cs 4), (lt, lu_ia cs 4), (ra, lu_ia cs 30)]
set_option maxHeartbeats 4000000 in
theorem c12_init (l : Launch) (D : va_G) (cs : Nat → ClassId) (h0 sz0 : Nat) : Met l yX12_init (.code yX12_init cX12_init 1 none :: lu_ws) lu_R12 (va_Pc [.ref h0] (fun U => U.heap.size = sz0 ∧ va_P D lu_cl [(h0, .inr (12, lu_mraw))] U.heap ∧ va_K D lu_cl (lu_tys cs) U)) (lu_nQ D h0 sz0 (lu_mN cs h0)) 18 1922 (fun q => q = h0 ∨ sz0 ≤ q) := by
  refine Met.ofW (cc := cX12_init) (maxL := 1) (ret := none) (by decide) rfl ?_
  intro p e s m args below meth c s₁ B hml hv
  obtain ⟨rfl, hsz, hP, hK⟩ := hv
  have hx := B.exec
  have hb := B.bytes
  have hr := B.returns
  have hts : ∀ w ∈ lu_ws, w.before ([Value.ref h0] : List Value).toArray s = true := fun w hw => atoms_spec (ws := .code yX12_init cX12_init 1 none :: lu_ws) B.pre w (List.mem_cons_of_mem _ hw)
  have hown : s.vm.findClass RX12 = some m.cls := findClass_of_methodNamed B.named
  have hlocks := B.notSynchronized
  have hni : meth.name = "<init>" := (name_of_methodNamed B.named B.method).1
  subst hsz
  have hA : ∀ q, s.heap.size ≤ q → (fun q => q = h0 ∨ s.heap.size ≤ q) q := fun q h => Or.inr h
  have hD : va_D (fun q => q = h0 ∨ s.heap.size ≤ q) [(h0, .inr (12, lu_mraw))] := lu_D1 (Or.inl rfl)
  have hS : va_S (fun q => q = h0 ∨ s.heap.size ≤ q) s.heap s.heap [] := va_S.rf
  have hl := lv_entry ([.ref h0]) (n := 1) (Nat.le_of_ble_eq_true rfl)
  rw [lg_entry_eq]
  generalize (lg_sl ([.ref h0]) ++ List.replicate (1 - (lg_sl ([.ref h0])).length) Slot.unset).toArray = ls at hl ⊢
  have hl : lv_has ls 1 [(0, .ref h0)] := hl
  have hc : lu_cl[12]? = some (RX12, TX12, 42) := rfl
  have hin := lu_lay lu_lay12
  have S : CallFix p m c cX12_init 1 s ([Value.ref h0] : List Value).toArray lu_ws RX12 := ⟨hx, hb, hml, hown, hts⟩
  refine lv_aload_n hx hb dX12_init_0 rfl (lv_at hl 0 rfl) ?_
  refine W.objInit hx hb hown (hts _ hs_o12) (hts _ hw_oi) (hts _ hw_oc) rfl (by rw [hml]; exact hl.1) rfl dX12_init_1 (Nat.le_of_ble_eq_true rfl) (Nat.le_of_ble_eq_true rfl) ?_
  refine W.eq (g2 := F0 m 4 ls []) rfl ?_
  have hP : va_P D lu_cl ((h0, .inr (12, [.null, .null, .null, .int 0, .null, .null, .null, .null, .null, .null, .int 0, .int 0, .int 0, .int 0, .int 0, .int 0, .int 0, .int 0, .int 0, .int 0, .null, .int 0, .null, .int 0, .int 0, .int 0, .int 0, .int 0, .int 0, .int 0, .null, .null, .null, .null, .null, .null, .null, .int 0, .int 0, .int 0, .int 0, .int 0])) :: []) s.heap := hP
  have hD : va_D (fun q => q = h0 ∨ s.heap.size ≤ q) ((h0, .inr (12, [.null, .null, .null, .int 0, .null, .null, .null, .null, .null, .null, .int 0, .int 0, .int 0, .int 0, .int 0, .int 0, .int 0, .int 0, .int 0, .int 0, .null, .int 0, .null, .int 0, .int 0, .int 0, .int 0, .int 0, .int 0, .int 0, .null, .null, .null, .null, .null, .null, .null, .int 0, .int 0, .int 0, .int 0, .int 0])) :: []) := hD
  refine c12_A S hni hK hA hl (Nat.le_of_ble_eq_true rfl) (Nat.le_of_ble_eq_true rfl) hP hD hS (fun s0 kp ot sk ne pa H locs hP hD hS => ?_)
  refine c12_B S hni hK hA hl (Nat.le_of_ble_eq_true rfl) (Nat.le_of_ble_eq_true rfl) hP hD hS (fun sv li fi ro tp so H locs hP hD hS => ?_)
  refine c12_C S hni hK hA hl (Nat.le_of_ble_eq_true rfl) (Nat.le_of_ble_eq_true rfl) hP hD hS (fun sz it le ln lt ra H locs hP hD hS => ?_)
  have hP : va_P D lu_cl [(h0, .inr (12, [.ref s0, .ref kp, .ref ot, .int 0, .ref sk, .ref ne, .ref pa, .ref sv, .ref li, .ref fi, .int 0, .int 0, .int 0, .int 0, .int 0, .int 0, .int 0, .int 0, .int 0, .int 0, .ref ro, .int 0, .ref tp, .int 0, .int 0, .int 0, .int 0, .int 0, .int 0, .int 0, .ref so, .ref sz, .ref it, .ref le, .ref ln, .ref lt, .ref ra, .int 0, .int 0, .int 0, .int 0, .int 0])), (s0, lu_ia cs 368), (kp, lu_ia cs 368), (ot, lu_ia cs 368), (sk, lu_ia cs 200), (ne, lu_ia cs 64), (pa, lu_ia cs 64), (sv, lu_ia cs 60), (li, lu_ia cs 4), (fi, lu_ia cs 4), (ro, lu_ia cs 12), (tp, lu_ia cs 200), (so, .inl (cs 0, 4, .inl (lu_q4 (-1)))), (sz, lu_ia cs 4), (it, lu_ia cs 160), (le, lu_ia cs 4), (ln, lu_ia cs 4), (lt, lu_ia cs 4), (ra, lu_ia cs 30)] H := hP
  have hD : va_D (fun q => q = h0 ∨ s.heap.size ≤ q) [(h0, .inr (12, [.ref s0, .ref kp, .ref ot, .int 0, .ref sk, .ref ne, .ref pa, .ref sv, .ref li, .ref fi, .int 0, .int 0, .int 0, .int 0, .int 0, .int 0, .int 0, .int 0, .int 0, .int 0, .ref ro, .int 0, .ref tp, .int 0, .int 0, .int 0, .int 0, .int 0, .int 0, .int 0, .ref so, .ref sz, .ref it, .ref le, .ref ln, .ref lt, .ref ra, .int 0, .int 0, .int 0, .int 0, .int 0])), (s0, lu_ia cs 368), (kp, lu_ia cs 368), (ot, lu_ia cs 368), (sk, lu_ia cs 200), (ne, lu_ia cs 64), (pa, lu_ia cs 64), (sv, lu_ia cs 60), (li, lu_ia cs 4), (fi, lu_ia cs 4), (ro, lu_ia cs 12), (tp, lu_ia cs 200), (so, .inl (cs 0, 4, .inl (lu_q4 (-1)))), (sz, lu_ia cs 4), (it, lu_ia cs 160), (le, lu_ia cs 4), (ln, lu_ia cs 4), (lt, lu_ia cs 4), (ra, lu_ia cs 30)] := hD
  refine lv_aload_n hx hb dX12_init_163 rfl (lv_at hl 0 rfl) ?_
  refine va_get (D := D) hx hb hts hin hown hK hP 0 rfl hc 0 (by decide) (hts _ qfl12_7) (fun _ h => h) rfl dX12_init_164 ?_
  refine lv_bipush (v := 7) hx hb dX12_init_167 (by decide) ?_
  refine lv_iconst (v := 1) hx hb dX12_init_169 (by decide) ?_
  refine va_iast hx hb hK hP hD hS 1 0 rfl rfl (by unfold vp_in; decide) dX12_init_170 (fun H locs hP hD hS => ?_)
  refine lv_aload_n hx hb dX12_init_171 rfl (lv_at hl 0 rfl) ?_
  refine va_get (D := D) hx hb hts hin hown hK hP 0 rfl hc 0 (by decide) (hts _ qfl12_7) (fun _ h => h) rfl dX12_init_172 ?_
  refine lv_iconst (v := 2) hx hb dX12_init_175 (by decide) ?_
  refine lv_bipush (v := 12) hx hb dX12_init_176 (by decide) ?_
  refine va_iast hx hb hK hP hD hS 1 0 rfl rfl (by unfold vp_in; decide) dX12_init_178 (fun H locs hP hD hS => ?_)
  exact W.vret hx hb hr (fun t ht hW => ⟨rfl, ⟨_, ⟨s0, kp, ot, sk, ne, pa, sv, li, fi, ro, tp, so, sz, it, le, ln, lt, ra, rfl⟩, by rw [ht]; exact hP, hD⟩, hS.F ht⟩) hS.2.2 dX12_init_179


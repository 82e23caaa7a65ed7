/-! HANDS are made: constructors, LeftUndoes.made -/
theorem hw_o3 : Cond.methodLink RX3 3 objectInit ∈ lu_ws := lu_in (List.mem_of_getElem? (i := 129) (by decide +kernel)) (by decide +kernel)
theorem hw_oi : Cond.instanceMethod objectInit ∈ lu_ws := lu_in (List.mem_of_getElem? (i := 108) (by decide +kernel)) (by decide +kernel)
theorem hw_oc : Cond.code objectInit ⟨#[0xb1]⟩ 1 none ∈ lu_ws := lu_in (List.mem_of_getElem? (i := 109) (by decide +kernel)) (by decide +kernel)
theorem hw_f9 : Cond.fieldLink RX3 9 "LeftUndoes$Hand" "kind" "I" ∈ lu_ws := lu_in (List.mem_of_getElem? (i := 130) (by decide +kernel)) (by decide +kernel)
theorem hw_f15 : Cond.fieldLink RX3 15 "LeftUndoes$Hand" "number" "I" ∈ lu_ws := lu_in (List.mem_of_getElem? (i := 133) (by decide +kernel)) (by decide +kernel)
theorem hw_f18 : Cond.fieldLink RX3 18 "LeftUndoes$Hand" "grace" "I" ∈ lu_ws := lu_in (List.mem_of_getElem? (i := 138) (by decide +kernel)) (by decide +kernel)
theorem hw_f21 : Cond.fieldLink RX3 21 "LeftUndoes$Hand" "strength" "I" ∈ lu_ws := lu_in (List.mem_of_getElem? (i := 145) (by decide +kernel)) (by decide +kernel)
theorem hw_f24 : Cond.fieldLink RX3 24 "LeftUndoes$Hand" "ran" "[I" ∈ lu_ws := lu_in (List.mem_of_getElem? (i := 152) (by decide +kernel)) (by decide +kernel)
theorem hw_i0 : Cond.initialized RX0 ∈ lu_ws := lu_in (List.mem_of_getElem? (i := 87) (by decide +kernel)) (by decide +kernel)
theorem hw_c0 : Cond.code yX0_init cX0_init 6 none ∈ lu_ws := lu_in (List.mem_of_getElem? (i := 125) (by decide +kernel)) (by decide +kernel)
theorem hw_m0 : Cond.instanceMethod yX0_init ∈ lu_ws := lu_in (List.mem_of_getElem? (i := 124) (by decide +kernel)) (by decide +kernel)
theorem hw_n0 : Cond.instantiable RX0 6 ∈ lu_ws := lu_in (List.mem_of_getElem? (i := 122) (by decide +kernel)) (by decide +kernel)
theorem hw_s0 : Cond.methodLink RX0 1 yX3_init ∈ lu_ws := lu_in (List.mem_of_getElem? (i := 126) (by decide +kernel)) (by decide +kernel)
theorem hw_i2 : Cond.initialized RX2 ∈ lu_ws := lu_in (List.mem_of_getElem? (i := 88) (by decide +kernel)) (by decide +kernel)
theorem hw_c2 : Cond.code yX2_init cX2_init 6 none ∈ lu_ws := lu_in (List.mem_of_getElem? (i := 171) (by decide +kernel)) (by decide +kernel)
theorem hw_m2 : Cond.instanceMethod yX2_init ∈ lu_ws := lu_in (List.mem_of_getElem? (i := 170) (by decide +kernel)) (by decide +kernel)
theorem hw_n2 : Cond.instantiable RX2 6 ∈ lu_ws := lu_in (List.mem_of_getElem? (i := 168) (by decide +kernel)) (by decide +kernel)
theorem hw_s2 : Cond.methodLink RX2 1 yX3_init ∈ lu_ws := lu_in (List.mem_of_getElem? (i := 172) (by decide +kernel)) (by decide +kernel)
theorem hw_i9 : Cond.initialized RX9 ∈ lu_ws := lu_in (List.mem_of_getElem? (i := 89) (by decide +kernel)) (by decide +kernel)
theorem hw_c9 : Cond.code yX9_init cX9_init 6 none ∈ lu_ws := lu_in (List.mem_of_getElem? (i := 184) (by decide +kernel)) (by decide +kernel)
theorem hw_m9 : Cond.instanceMethod yX9_init ∈ lu_ws := lu_in (List.mem_of_getElem? (i := 183) (by decide +kernel)) (by decide +kernel)
theorem hw_n9 : Cond.instantiable RX9 6 ∈ lu_ws := lu_in (List.mem_of_getElem? (i := 181) (by decide +kernel)) (by decide +kernel)
theorem hw_s9 : Cond.methodLink RX9 1 yX2_init ∈ lu_ws := lu_in (List.mem_of_getElem? (i := 185) (by decide +kernel)) (by decide +kernel)
theorem hw_i7 : Cond.initialized RX7 ∈ lu_ws := lu_in (List.mem_of_getElem? (i := 90) (by decide +kernel)) (by decide +kernel)
theorem hw_c7 : Cond.code yX7_init cX7_init 6 none ∈ lu_ws := lu_in (List.mem_of_getElem? (i := 197) (by decide +kernel)) (by decide +kernel)
theorem hw_m7 : Cond.instanceMethod yX7_init ∈ lu_ws := lu_in (List.mem_of_getElem? (i := 196) (by decide +kernel)) (by decide +kernel)
theorem hw_n7 : Cond.instantiable RX7 6 ∈ lu_ws := lu_in (List.mem_of_getElem? (i := 194) (by decide +kernel)) (by decide +kernel)
theorem hw_s7 : Cond.methodLink RX7 1 yX3_init ∈ lu_ws := lu_in (List.mem_of_getElem? (i := 198) (by decide +kernel)) (by decide +kernel)
theorem hw_i4 : Cond.initialized RX4 ∈ lu_ws := lu_in (List.mem_of_getElem? (i := 91) (by decide +kernel)) (by decide +kernel)
theorem hw_c4 : Cond.code yX4_init cX4_init 6 none ∈ lu_ws := lu_in (List.mem_of_getElem? (i := 210) (by decide +kernel)) (by decide +kernel)
theorem hw_m4 : Cond.instanceMethod yX4_init ∈ lu_ws := lu_in (List.mem_of_getElem? (i := 209) (by decide +kernel)) (by decide +kernel)
theorem hw_n4 : Cond.instantiable RX4 6 ∈ lu_ws := lu_in (List.mem_of_getElem? (i := 207) (by decide +kernel)) (by decide +kernel)
theorem hw_s4 : Cond.methodLink RX4 1 yX7_init ∈ lu_ws := lu_in (List.mem_of_getElem? (i := 211) (by decide +kernel)) (by decide +kernel)
theorem hw_i3 : Cond.initialized RX3 ∈ lu_ws := lu_in (List.mem_of_getElem? (i := 86) (by decide +kernel)) (by decide +kernel)
theorem hw_c3 : Cond.code yX3_init cX3_init 6 none ∈ lu_ws := lu_in (List.mem_of_getElem? (i := 128) (by decide +kernel)) (by decide +kernel)
theorem hw_m3 : Cond.instanceMethod yX3_init ∈ lu_ws := lu_in (List.mem_of_getElem? (i := 127) (by decide +kernel)) (by decide +kernel)
theorem hw_n3 : Cond.instantiable RX3 6 ∈ lu_ws := lu_in (List.mem_of_getElem? (i := 220) (by decide +kernel)) (by decide +kernel)
theorem hw_k0 : Cond.classLink RX11 331 RX0 ∈ lu_ws := lu_in (List.mem_of_getElem? (i := 121) (by decide +kernel)) (by decide +kernel)
theorem hw_l0 : Cond.methodLink RX11 333 yX0_init ∈ lu_ws := lu_in (List.mem_of_getElem? (i := 123) (by decide +kernel)) (by decide +kernel)
theorem hw_k2 : Cond.classLink RX11 336 RX2 ∈ lu_ws := lu_in (List.mem_of_getElem? (i := 167) (by decide +kernel)) (by decide +kernel)
theorem hw_l2 : Cond.methodLink RX11 338 yX2_init ∈ lu_ws := lu_in (List.mem_of_getElem? (i := 169) (by decide +kernel)) (by decide +kernel)
theorem hw_k9 : Cond.classLink RX11 339 RX9 ∈ lu_ws := lu_in (List.mem_of_getElem? (i := 180) (by decide +kernel)) (by decide +kernel)
theorem hw_l9 : Cond.methodLink RX11 341 yX9_init ∈ lu_ws := lu_in (List.mem_of_getElem? (i := 182) (by decide +kernel)) (by decide +kernel)
theorem hw_k7 : Cond.classLink RX11 342 RX7 ∈ lu_ws := lu_in (List.mem_of_getElem? (i := 193) (by decide +kernel)) (by decide +kernel)
theorem hw_l7 : Cond.methodLink RX11 344 yX7_init ∈ lu_ws := lu_in (List.mem_of_getElem? (i := 195) (by decide +kernel)) (by decide +kernel)
theorem hw_k4 : Cond.classLink RX11 345 RX4 ∈ lu_ws := lu_in (List.mem_of_getElem? (i := 206) (by decide +kernel)) (by decide +kernel)
theorem hw_l4 : Cond.methodLink RX11 347 yX4_init ∈ lu_ws := lu_in (List.mem_of_getElem? (i := 208) (by decide +kernel)) (by decide +kernel)
theorem hw_k3 : Cond.classLink RX11 52 RX3 ∈ lu_ws := lu_in (List.mem_of_getElem? (i := 219) (by decide +kernel)) (by decide +kernel)
theorem hw_l3 : Cond.methodLink RX11 348 yX3_init ∈ lu_ws := lu_in (List.mem_of_getElem? (i := 221) (by decide +kernel)) (by decide +kernel)
theorem hw_st : Cond.static yX11_made ∈ lu_ws := lu_in (List.mem_of_getElem? (i := 119) (by decide +kernel)) (by decide +kernel)
theorem hw_cm : Cond.code yX11_made cX11_made 5 (some (.object "LeftUndoes$Hand")) ∈ lu_ws := lu_in (List.mem_of_getElem? (i := 120) (by decide +kernel)) (by decide +kernel)
theorem hw_58 : Cond.methodLink RX11 58 yX11_made ∈ lu_ws := lu_in (List.mem_of_getElem? (i := 458) (by decide +kernel)) (by decide +kernel)
theorem hw_i11 : Cond.initialized RX11 ∈ lu_ws := lu_in (List.mem_of_getElem? (i := 84) (by decide +kernel)) (by decide +kernel)
theorem dX0_init_0 : decode cX0_init 0 = .ok (.aload_n 0, 1) := by decide +kernel
theorem dX0_init_1 : decode cX0_init 1 = .ok (.iload_n 1, 1) := by decide +kernel
theorem dX0_init_2 : decode cX0_init 2 = .ok (.iload_n 2, 1) := by decide +kernel
theorem dX0_init_3 : decode cX0_init 3 = .ok (.iload_n 3, 1) := by decide +kernel
theorem dX0_init_4 : decode cX0_init 4 = .ok (.iload 4, 2) := by decide +kernel
theorem dX0_init_6 : decode cX0_init 6 = .ok (.aload 5, 2) := by decide +kernel
theorem dX0_init_8 : decode cX0_init 8 = .ok (.invokespecial 1, 3) := by decide +kernel
theorem dX0_init_11 : decode cX0_init 11 = .ok (.return_, 1) := by decide +kernel
theorem dX2_init_0 : decode cX2_init 0 = .ok (.aload_n 0, 1) := by decide +kernel
theorem dX2_init_1 : decode cX2_init 1 = .ok (.iload_n 1, 1) := by decide +kernel
theorem dX2_init_2 : decode cX2_init 2 = .ok (.iload_n 2, 1) := by decide +kernel
theorem dX2_init_3 : decode cX2_init 3 = .ok (.iload_n 3, 1) := by decide +kernel
theorem dX2_init_4 : decode cX2_init 4 = .ok (.iload 4, 2) := by decide +kernel
theorem dX2_init_6 : decode cX2_init 6 = .ok (.aload 5, 2) := by decide +kernel
theorem dX2_init_8 : decode cX2_init 8 = .ok (.invokespecial 1, 3) := by decide +kernel
theorem dX2_init_11 : decode cX2_init 11 = .ok (.return_, 1) := by decide +kernel
theorem dX9_init_0 : decode cX9_init 0 = .ok (.aload_n 0, 1) := by decide +kernel
theorem dX9_init_1 : decode cX9_init 1 = .ok (.iload_n 1, 1) := by decide +kernel
theorem dX9_init_2 : decode cX9_init 2 = .ok (.iload_n 2, 1) := by decide +kernel
theorem dX9_init_3 : decode cX9_init 3 = .ok (.iload_n 3, 1) := by decide +kernel
theorem dX9_init_4 : decode cX9_init 4 = .ok (.iload 4, 2) := by decide +kernel
theorem dX9_init_6 : decode cX9_init 6 = .ok (.aload 5, 2) := by decide +kernel
theorem dX9_init_8 : decode cX9_init 8 = .ok (.invokespecial 1, 3) := by decide +kernel
theorem dX9_init_11 : decode cX9_init 11 = .ok (.return_, 1) := by decide +kernel
theorem dX7_init_0 : decode cX7_init 0 = .ok (.aload_n 0, 1) := by decide +kernel
theorem dX7_init_1 : decode cX7_init 1 = .ok (.iload_n 1, 1) := by decide +kernel
theorem dX7_init_2 : decode cX7_init 2 = .ok (.iload_n 2, 1) := by decide +kernel
theorem dX7_init_3 : decode cX7_init 3 = .ok (.iload_n 3, 1) := by decide +kernel
theorem dX7_init_4 : decode cX7_init 4 = .ok (.iload 4, 2) := by decide +kernel
theorem dX7_init_6 : decode cX7_init 6 = .ok (.aload 5, 2) := by decide +kernel
theorem dX7_init_8 : decode cX7_init 8 = .ok (.invokespecial 1, 3) := by decide +kernel
theorem dX7_init_11 : decode cX7_init 11 = .ok (.return_, 1) := by decide +kernel
theorem dX4_init_0 : decode cX4_init 0 = .ok (.aload_n 0, 1) := by decide +kernel
theorem dX4_init_1 : decode cX4_init 1 = .ok (.iload_n 1, 1) := by decide +kernel
theorem dX4_init_2 : decode cX4_init 2 = .ok (.iload_n 2, 1) := by decide +kernel
theorem dX4_init_3 : decode cX4_init 3 = .ok (.iload_n 3, 1) := by decide +kernel
theorem dX4_init_4 : decode cX4_init 4 = .ok (.iload 4, 2) := by decide +kernel
theorem dX4_init_6 : decode cX4_init 6 = .ok (.aload 5, 2) := by decide +kernel
theorem dX4_init_8 : decode cX4_init 8 = .ok (.invokespecial 1, 3) := by decide +kernel
theorem dX4_init_11 : decode cX4_init 11 = .ok (.return_, 1) := by decide +kernel
theorem dX3_init_0 : decode cX3_init 0 = .ok (.aload_n 0, 1) := by decide +kernel
theorem dX3_init_1 : decode cX3_init 1 = .ok (.invokespecial 3, 3) := by decide +kernel
theorem dX3_init_4 : decode cX3_init 4 = .ok (.aload_n 0, 1) := by decide +kernel
theorem dX3_init_5 : decode cX3_init 5 = .ok (.iload_n 1, 1) := by decide +kernel
theorem dX3_init_6 : decode cX3_init 6 = .ok (.putfield 9, 3) := by decide +kernel
theorem dX3_init_9 : decode cX3_init 9 = .ok (.aload_n 0, 1) := by decide +kernel
theorem dX3_init_10 : decode cX3_init 10 = .ok (.iload_n 2, 1) := by decide +kernel
theorem dX3_init_11 : decode cX3_init 11 = .ok (.putfield 15, 3) := by decide +kernel
theorem dX3_init_14 : decode cX3_init 14 = .ok (.aload_n 0, 1) := by decide +kernel
theorem dX3_init_15 : decode cX3_init 15 = .ok (.iload_n 3, 1) := by decide +kernel
theorem dX3_init_16 : decode cX3_init 16 = .ok (.putfield 18, 3) := by decide +kernel
theorem dX3_init_19 : decode cX3_init 19 = .ok (.aload_n 0, 1) := by decide +kernel
theorem dX3_init_20 : decode cX3_init 20 = .ok (.iload 4, 2) := by decide +kernel
theorem dX3_init_22 : decode cX3_init 22 = .ok (.putfield 21, 3) := by decide +kernel
theorem dX3_init_25 : decode cX3_init 25 = .ok (.aload_n 0, 1) := by decide +kernel
theorem dX3_init_26 : decode cX3_init 26 = .ok (.aload 5, 2) := by decide +kernel
theorem dX3_init_28 : decode cX3_init 28 = .ok (.putfield 24, 3) := by decide +kernel
theorem dX3_init_31 : decode cX3_init 31 = .ok (.return_, 1) := by decide +kernel
theorem dX11_made_0 : decode cX11_made 0 = .ok (.iload_n 0, 1) := by decide +kernel
theorem dX11_made_1 : decode cX11_made 1 = .ok (.tableswitch 105 1 5 #[35, 49, 63, 77, 91], 35) := by decide +kernel
theorem dX11_made_36 : decode cX11_made 36 = .ok (.new 331, 3) := by decide +kernel
theorem dX11_made_39 : decode cX11_made 39 = .ok (.dup, 1) := by decide +kernel
theorem dX11_made_40 : decode cX11_made 40 = .ok (.iload_n 0, 1) := by decide +kernel
theorem dX11_made_41 : decode cX11_made 41 = .ok (.iload_n 1, 1) := by decide +kernel
theorem dX11_made_42 : decode cX11_made 42 = .ok (.iload_n 2, 1) := by decide +kernel
theorem dX11_made_43 : decode cX11_made 43 = .ok (.iload_n 3, 1) := by decide +kernel
theorem dX11_made_44 : decode cX11_made 44 = .ok (.aload 4, 2) := by decide +kernel
theorem dX11_made_46 : decode cX11_made 46 = .ok (.invokespecial 333, 3) := by decide +kernel
theorem dX11_made_49 : decode cX11_made 49 = .ok (.areturn, 1) := by decide +kernel
theorem dX11_made_50 : decode cX11_made 50 = .ok (.new 336, 3) := by decide +kernel
theorem dX11_made_53 : decode cX11_made 53 = .ok (.dup, 1) := by decide +kernel
theorem dX11_made_54 : decode cX11_made 54 = .ok (.iload_n 0, 1) := by decide +kernel
theorem dX11_made_55 : decode cX11_made 55 = .ok (.iload_n 1, 1) := by decide +kernel
theorem dX11_made_56 : decode cX11_made 56 = .ok (.iload_n 2, 1) := by decide +kernel
theorem dX11_made_57 : decode cX11_made 57 = .ok (.iload_n 3, 1) := by decide +kernel
theorem dX11_made_58 : decode cX11_made 58 = .ok (.aload 4, 2) := by decide +kernel
theorem dX11_made_60 : decode cX11_made 60 = .ok (.invokespecial 338, 3) := by decide +kernel
theorem dX11_made_63 : decode cX11_made 63 = .ok (.areturn, 1) := by decide +kernel
theorem dX11_made_64 : decode cX11_made 64 = .ok (.new 339, 3) := by decide +kernel
theorem dX11_made_67 : decode cX11_made 67 = .ok (.dup, 1) := by decide +kernel
theorem dX11_made_68 : decode cX11_made 68 = .ok (.iload_n 0, 1) := by decide +kernel
theorem dX11_made_69 : decode cX11_made 69 = .ok (.iload_n 1, 1) := by decide +kernel
theorem dX11_made_70 : decode cX11_made 70 = .ok (.iload_n 2, 1) := by decide +kernel
theorem dX11_made_71 : decode cX11_made 71 = .ok (.iload_n 3, 1) := by decide +kernel
theorem dX11_made_72 : decode cX11_made 72 = .ok (.aload 4, 2) := by decide +kernel
theorem dX11_made_74 : decode cX11_made 74 = .ok (.invokespecial 341, 3) := by decide +kernel
theorem dX11_made_77 : decode cX11_made 77 = .ok (.areturn, 1) := by decide +kernel
theorem dX11_made_78 : decode cX11_made 78 = .ok (.new 342, 3) := by decide +kernel
theorem dX11_made_81 : decode cX11_made 81 = .ok (.dup, 1) := by decide +kernel
theorem dX11_made_82 : decode cX11_made 82 = .ok (.iload_n 0, 1) := by decide +kernel
theorem dX11_made_83 : decode cX11_made 83 = .ok (.iload_n 1, 1) := by decide +kernel
theorem dX11_made_84 : decode cX11_made 84 = .ok (.iload_n 2, 1) := by decide +kernel
theorem dX11_made_85 : decode cX11_made 85 = .ok (.iload_n 3, 1) := by decide +kernel
theorem dX11_made_86 : decode cX11_made 86 = .ok (.aload 4, 2) := by decide +kernel
theorem dX11_made_88 : decode cX11_made 88 = .ok (.invokespecial 344, 3) := by decide +kernel
theorem dX11_made_91 : decode cX11_made 91 = .ok (.areturn, 1) := by decide +kernel
theorem dX11_made_92 : decode cX11_made 92 = .ok (.new 345, 3) := by decide +kernel
theorem dX11_made_95 : decode cX11_made 95 = .ok (.dup, 1) := by decide +kernel
theorem dX11_made_96 : decode cX11_made 96 = .ok (.iload_n 0, 1) := by decide +kernel
theorem dX11_made_97 : decode cX11_made 97 = .ok (.iload_n 1, 1) := by decide +kernel
theorem dX11_made_98 : decode cX11_made 98 = .ok (.iload_n 2, 1) := by decide +kernel
theorem dX11_made_99 : decode cX11_made 99 = .ok (.iload_n 3, 1) := by decide +kernel
theorem dX11_made_100 : decode cX11_made 100 = .ok (.aload 4, 2) := by decide +kernel
theorem dX11_made_102 : decode cX11_made 102 = .ok (.invokespecial 347, 3) := by decide +kernel
theorem dX11_made_105 : decode cX11_made 105 = .ok (.areturn, 1) := by decide +kernel
theorem dX11_made_106 : decode cX11_made 106 = .ok (.new 52, 3) := by decide +kernel
theorem dX11_made_109 : decode cX11_made 109 = .ok (.dup, 1) := by decide +kernel
theorem dX11_made_110 : decode cX11_made 110 = .ok (.iconst 0, 1) := by decide +kernel
theorem dX11_made_111 : decode cX11_made 111 = .ok (.iload_n 1, 1) := by decide +kernel
theorem dX11_made_112 : decode cX11_made 112 = .ok (.iload_n 2, 1) := by decide +kernel
theorem dX11_made_113 : decode cX11_made 113 = .ok (.iload_n 3, 1) := by decide +kernel
theorem dX11_made_114 : decode cX11_made 114 = .ok (.aload 4, 2) := by decide +kernel
theorem dX11_made_116 : decode cX11_made 116 = .ok (.invokespecial 348, 3) := by decide +kernel
theorem dX11_made_119 : decode cX11_made 119 = .ok (.areturn, 1) := by decide +kernel
def lu_hraw : List Value := [.int 0, .int 0, .int 0, .int 0, .int 0, .null]
def lu_hnew (k u g w : Int32) (r : Nat) : List Value := [.int k, .int u, .int g, .int w, .int 0, .ref r]
def lu_hp (D : va_G) (cs : Nat → ClassId) (h0 sz ci : Nat) (U : State) : Prop := U.heap.size = sz ∧ va_P D lu_cl [(h0, .inr (ci, lu_hraw))] U.heap ∧ va_K D lu_cl (lu_tys cs) U
def lu_hC (l : Launch) (y : MethodName) (cc : ByteArray) (fr lo : Nat) : Prop := ∀ (D : va_G) (cs : Nat → ClassId) (h0 sz ci r : Nat) (k u g w : Int32), (∃ q, lu_cl[ci]? = some q ∧ lu_Ok q 10) → Met l y (.code y cc 6 none :: lu_ws) ({ frames := fr, cells := 0, slots := 0, locals := lo }) (va_Pc [.ref h0, .int k, .int u, .int g, .int w, .ref r] (lu_hp D cs h0 sz ci)) (fun _ st oc t => oc = .returned none ∧ va_P D lu_cl [(h0, .inr (ci, lu_hnew k u g w r))] t.heap ∧ va_F (fun q => q = h0) st t) 0 0 (fun q => q = h0)
set_option maxHeartbeats 4000000 in
theorem c3_init (l : Launch) : lu_hC l yX3_init cX3_init 1 20 := by
  rintro D cs h0 sz ci r kd nu gr wt ⟨⟨C, T, N⟩, hc, e1, e2, hin, ⟨ty0, hty⟩, hnm⟩
  simp only at e1 e2 hin hty hnm
  have e1 : T = TX3 := e1
  have e2 : N = 6 := e2
  subst e1
  subst e2
  refine Met.ofW (cc := cX3_init) (maxL := 6) (ret := none) (by decide) rfl ?_
  intro p e s m args below meth c s₁ B hml hv
  obtain ⟨rfl, hsz, hP, hK⟩ := hv
  have hx := B.exec
  have hb := B.bytes
  have hr := B.returns
  have hts : ∀ w ∈ lu_ws, w.before ([Value.ref h0, .int kd, .int nu, .int gr, .int wt, .ref r] : List Value).toArray s = true := fun w hw => atoms_spec (ws := .code yX3_init cX3_init 6 none :: lu_ws) B.pre w (List.mem_cons_of_mem _ hw)
  have hown : s.vm.findClass RX3 = some m.cls := findClass_of_methodNamed B.named
  have hlocks := B.notSynchronized
  have hni : meth.name = "<init>" := (name_of_methodNamed B.named B.method).1
  have hD : va_D (fun q => q = h0) [(h0, .inr (ci, lu_hraw))] := ⟨fun i j p q hi hj _ => by
    have h1 := (List.getElem?_eq_some_iff.mp hi).1
    have h2 := (List.getElem?_eq_some_iff.mp hj).1
    simp only [List.length_singleton] at h1 h2
    omega, fun k q hk => by
    have h1 := (List.getElem?_eq_some_iff.mp hk).1
    simp only [List.length_singleton] at h1
    rw [show k = 0 by omega] at hk
    cases hk
    rfl⟩
  have hS : va_S (fun q => q = h0) s.heap s.heap [] := va_S.rf
  have hl := lv_entry ([.ref h0, .int kd, .int nu, .int gr, .int wt, .ref r]) (n := 6) (Nat.le_of_ble_eq_true rfl)
  rw [lg_entry_eq]
  generalize (lg_sl ([.ref h0, .int kd, .int nu, .int gr, .int wt, .ref r]) ++ List.replicate (6 - (lg_sl ([.ref h0, .int kd, .int nu, .int gr, .int wt, .ref r])).length) Slot.unset).toArray = ls at hl ⊢
  have hl : lv_has ls 6 [(0, .ref h0), (1, .int kd), (2, .int nu), (3, .int gr), (4, .int wt), (5, .ref r)] := hl
  refine lv_aload_n hx hb dX3_init_0 rfl (lv_at hl 0 rfl) ?_
  refine W.objInit hx hb hown (hts _ hw_o3) (hts _ hw_oi) (hts _ hw_oc) rfl (by rw [hml]; exact hl.1) rfl dX3_init_1 (Nat.le_of_ble_eq_true rfl) (Nat.le_of_ble_eq_true rfl) ?_
  refine W.eq (g2 := F0 m 4 ls []) rfl ?_
  refine lv_aload_n hx hb dX3_init_4 rfl (lv_at hl 0 rfl) ?_
  refine lv_iload_n hx hb dX3_init_5 rfl (lv_at hl 1 rfl) ?_
  refine va_putF (v := .int kd) (ty := .int) hx hb hts hin ty0 hty hnm hown hK hP hD hS 0 rfl hc 0 (by decide) (hts _ hw_f9) (fun _ h => h) rfl hni rfl rfl rfl rfl (Nat.le_of_ble_eq_true rfl) dX3_init_6 (fun H locs hP hD hS => ?_)
  refine lv_aload_n hx hb dX3_init_9 rfl (lv_at hl 0 rfl) ?_
  refine lv_iload_n hx hb dX3_init_10 rfl (lv_at hl 2 rfl) ?_
  refine va_putF (v := .int nu) (ty := .int) hx hb hts hin ty0 hty hnm hown hK hP hD hS 0 rfl hc 1 (by decide) (hts _ hw_f15) (fun _ h => h) rfl hni rfl rfl rfl rfl (Nat.le_of_ble_eq_true rfl) dX3_init_11 (fun H locs hP hD hS => ?_)
  refine lv_aload_n hx hb dX3_init_14 rfl (lv_at hl 0 rfl) ?_
  refine lv_iload_n hx hb dX3_init_15 rfl (lv_at hl 3 rfl) ?_
  refine va_put (v := .int gr) (ty := .int) hx hb hts hin ty0 hty hnm hown hK hP hD hS 0 rfl hc 2 (by decide) (hts _ hw_f18) (fun _ h => h) rfl rfl rfl rfl (Nat.le_of_ble_eq_true rfl) dX3_init_16 (fun H locs hP hD hS => ?_)
  refine lv_aload_n hx hb dX3_init_19 rfl (lv_at hl 0 rfl) ?_
  refine lv_iload hx hb dX3_init_20 (lv_at hl 4 rfl) ?_
  refine va_put (v := .int wt) (ty := .int) hx hb hts hin ty0 hty hnm hown hK hP hD hS 0 rfl hc 3 (by decide) (hts _ hw_f21) (fun _ h => h) rfl rfl rfl rfl (Nat.le_of_ble_eq_true rfl) dX3_init_22 (fun H locs hP hD hS => ?_)
  refine lv_aload_n hx hb dX3_init_25 rfl (lv_at hl 0 rfl) ?_
  refine lv_aload hx hb dX3_init_26 (lv_at hl 5 rfl) ?_
  refine va_putF (v := .ref r) (ty := .array .int) hx hb hts hin ty0 hty hnm hown hK hP hD hS 0 rfl hc 5 (by decide) (hts _ hw_f24) (fun _ h => h) rfl hni rfl (by decide +kernel) rfl rfl (Nat.le_of_ble_eq_true rfl) dX3_init_28 (fun H locs hP hD hS => ?_)
  exact W.vret hx hb hr (fun t ht hW => ⟨rfl, by rw [ht]; exact hP, hS.F ht⟩) hS.2.2 dX3_init_31
/-- behind a constructor's call -/
theorem lu_hb {p : Program} {l : Launch} {e : Env} {R : Room} {s : State} {m : MethodId} {args : Array Value} {below : List Frame} {meth : Method} {c : Code} {H : Heap} {locs : List Loc} {cells slots : Nat} {Q : State → Prop} {g : JFrame} {rest : List Value} {D : va_G} {h0 ci : Nat} {fs : List Value}
    (hr : va_Run p l e R s m args below meth c H locs cells slots 0 0 g rest (fun st oc t => oc = .returned none ∧ va_P D lu_cl [(h0, .inr (ci, fs))] t.heap ∧ va_F (fun q => q = h0) st t) (fun q => q = h0))
    (kk : ∀ (H1 : Heap) (L : List Loc), va_P D lu_cl [(h0, .inr (ci, fs))] H1 → H.size ≤ H1.size → (∀ q : Nat, q < H.size → ¬ q = h0 → H1[q]? = H[q]?) → (∀ q ∈ L, q.base = h0) → W p l e R s m args below meth c H1 (locs ++ L) cells slots Q { g with pc := g.pc + 3, stack := rest }) : W p l e R s m args below meth c H locs cells slots Q g := by
  intro T0 hT X0
  obtain ⟨v, st₀, t, T', L, h0', X', hL, e1, e2, ⟨hv, hp, hz, hk⟩, st⟩ := hr T0 hT X0
  cases hv
  rw [h0'] at hz hk
  obtain ⟨t2, a1, b1⟩ := kk T'.heap L (by rw [e1]; exact hp) (by rw [e1]; exact hz) (fun q h1 h2 => by rw [e1]; exact hk q h1 h2) hL T' rfl X'
  exact ⟨t2, st t2 a1, b1⟩


theorem lu_hk_ok {ci : Nat} {C : String} (h : lu_cl[ci]? = some (C, TX3, 6)) (hw : ∀ w ∈ u_ws C TX3 6, w ∈ lu_ws) : ∃ q, lu_cl[ci]? = some q ∧ lu_Ok q 10 := ⟨_, h, rfl, rfl, hw, ⟨_, tyX3_ok⟩, nmX3⟩
set_option maxHeartbeats 4000000 in
theorem lu_sup {l : Launch} {own : String} {y y2 : MethodName} {cc cc2 : ByteArray} {fr lo : Nat} (hM : lu_hC l y2 cc2 fr lo) (hcls : y.cls = own) (hpl : plainName y.cls = true) (hn2 : y2.name = "<init>") (hy2 : y2.cls ≠ "java/lang/invoke/MethodHandle" ∧ y2.cls ≠ "java/lang/invoke/VarHandle" ∧ (parseMethodDescriptor y2.desc).map (fun d => d.parameters.length) = some 5) (ml : Cond.methodLink own 1 y2 ∈ lu_ws) (mi : Cond.instanceMethod y2 ∈ lu_ws) (mini : Cond.initialized y2.cls ∈ lu_ws) (mc : Cond.code y2 cc2 6 none ∈ lu_ws)
    (d0 : decode cc 0 = .ok (.aload_n 0, 1)) (d1 : decode cc 1 = .ok (.iload_n 1, 1)) (d2 : decode cc 2 = .ok (.iload_n 2, 1)) (d3 : decode cc 3 = .ok (.iload_n 3, 1)) (d4 : decode cc 4 = .ok (.iload 4, 2)) (d6 : decode cc 6 = .ok (.aload 5, 2)) (d8 : decode cc 8 = .ok (.invokespecial 1, 3)) (d11 : decode cc 11 = .ok (.return_, 1)) : lu_hC l y cc (fr + 1) (lo + 25) := by
  intro D cs h0 sz ci r kd nu gr wt hci
  subst hcls
  refine Met.ofW (cc := cc) (maxL := 6) (ret := none) hpl rfl ?_
  intro p e s m args below meth c s₁ B hml hv
  obtain ⟨rfl, hsz, hP, hK⟩ := hv
  have hx := B.exec
  have hb := B.bytes
  have hr := B.returns
  have hts : ∀ w ∈ lu_ws, w.before ([Value.ref h0, .int kd, .int nu, .int gr, .int wt, .ref r] : List Value).toArray s = true := fun w hw => atoms_spec (ws := .code y cc 6 none :: lu_ws) B.pre w (List.mem_cons_of_mem _ hw)
  have hown : s.vm.findClass y.cls = some m.cls := findClass_of_methodNamed B.named
  have hlocks := B.notSynchronized
  have hl := lv_entry ([.ref h0, .int kd, .int nu, .int gr, .int wt, .ref r]) (n := 6) (Nat.le_of_ble_eq_true rfl)
  rw [lg_entry_eq]
  generalize (lg_sl ([.ref h0, .int kd, .int nu, .int gr, .int wt, .ref r]) ++ List.replicate (6 - (lg_sl ([.ref h0, .int kd, .int nu, .int gr, .int wt, .ref r])).length) Slot.unset).toArray = ls at hl ⊢
  have hl : lv_has ls 6 [(0, .ref h0), (1, .int kd), (2, .int nu), (3, .int gr), (4, .int wt), (5, .ref r)] := hl
  refine lv_aload_n hx hb d0 rfl (lv_at hl 0 rfl) ?_
  refine lv_iload_n hx hb d1 rfl (lv_at hl 1 rfl) ?_
  refine lv_iload_n hx hb d2 rfl (lv_at hl 2 rfl) ?_
  refine lv_iload_n hx hb d3 rfl (lv_at hl 3 rfl) ?_
  refine lv_iload hx hb d4 (lv_at hl 4 rfl) ?_
  refine lv_aload hx hb d6 (lv_at hl 5 rfl) ?_
  refine lu_hb (g := F0 m 8 ls [.ref r, .int wt, .int gr, .int nu, .int kd, .ref h0]) (va_runI (As := [.int kd, .int nu, .int gr, .int wt, .ref r]) (rest := []) ⟨hx, hb, hml, hown, hts⟩ (hM D cs h0 s.heap.size ci r kd nu gr wt hci) (cwI 5 hts (lu_gi (fun w hw => by
    rcases List.mem_cons.mp hw with rfl | hw
    · exact mc
    · exact hw)) rfl rfl rfl (hts _ mini) (hts _ ml) (hts _ mi) hn2 hy2 ⟨Nat.le_refl _, by show 8 + (6 + 11) + lo ≤ lo + 25; omega⟩) ⟨fun a U g mk q => by
    obtain ⟨q0, q1, qP, qK⟩ := q
    exact ⟨q0, q1, qP, va_K.moved (u := U) (U := U.calling g mk a) (Vm.Alike.refl U.vm) qK⟩, fun U hU hW => ⟨rfl, by rw [hU], by rw [hU]; exact hP, va_K.moved hW.alike hK⟩⟩ rfl rfl hl.1 rfl (lv_room (Nat.le_of_ble_eq_true rfl)) d8 ⟨Nat.zero_le _, Nat.zero_le _⟩) (fun H1 L hP1 hz hk hL => ?_)
  exact W.vret hx hb hr (fun t ht hW => ⟨rfl, by rw [ht]; exact hP1, ⟨by rw [ht]; exact hz, fun q h1 h2 => by rw [ht]; exact hk q h1 h2⟩⟩) (fun q hq => hL q (by simpa using hq)) d11
theorem c0_init (l : Launch) : lu_hC l yX0_init cX0_init 2 45 := lu_sup (c3_init l) rfl (by decide) rfl ⟨by decide, by decide, by decide +kernel⟩ hw_s0 hw_m3 hw_i3 hw_c3 dX0_init_0 dX0_init_1 dX0_init_2 dX0_init_3 dX0_init_4 dX0_init_6 dX0_init_8 dX0_init_11
theorem c2_init (l : Launch) : lu_hC l yX2_init cX2_init 2 45 := lu_sup (c3_init l) rfl (by decide) rfl ⟨by decide, by decide, by decide +kernel⟩ hw_s2 hw_m3 hw_i3 hw_c3 dX2_init_0 dX2_init_1 dX2_init_2 dX2_init_3 dX2_init_4 dX2_init_6 dX2_init_8 dX2_init_11
theorem c7_init (l : Launch) : lu_hC l yX7_init cX7_init 2 45 := lu_sup (c3_init l) rfl (by decide) rfl ⟨by decide, by decide, by decide +kernel⟩ hw_s7 hw_m3 hw_i3 hw_c3 dX7_init_0 dX7_init_1 dX7_init_2 dX7_init_3 dX7_init_4 dX7_init_6 dX7_init_8 dX7_init_11
theorem c9_init (l : Launch) : lu_hC l yX9_init cX9_init 3 70 := lu_sup (c2_init l) rfl (by decide) rfl ⟨by decide, by decide, by decide +kernel⟩ hw_s9 hw_m2 hw_i2 hw_c2 dX9_init_0 dX9_init_1 dX9_init_2 dX9_init_3 dX9_init_4 dX9_init_6 dX9_init_8 dX9_init_11
theorem c4_init (l : Launch) : lu_hC l yX4_init cX4_init 3 70 := lu_sup (c7_init l) rfl (by decide) rfl ⟨by decide, by decide, by decide +kernel⟩ hw_s4 hw_m7 hw_i7 hw_c7 dX4_init_0 dX4_init_1 dX4_init_2 dX4_init_3 dX4_init_4 dX4_init_6 dX4_init_8 dX4_init_11
/-- LeftUndoes.made: one new hand, of the kind's class -/
def lu_kd (k : Int32) : Int32 := if lu_hk k = 3 then 0 else k
def lu_mP (D : va_G) (cs : Nat → ClassId) (sz : Nat) (U : State) : Prop := U.heap.size = sz ∧ va_K D lu_cl (lu_tys cs) U
def lu_mQ (D : va_G) (sz : Nat) (k u g w : Int32) (r : Nat) : Array Value → State → Outcome → State → Prop := fun _ st oc t => ∃ a : Nat, oc = .returned (some (.ref a)) ∧ sz ≤ a ∧ va_P D lu_cl [(a, .inr (lu_hk k, lu_hnew (lu_kd k) u g w r))] t.heap ∧ va_F (fun q => sz ≤ q) st t
set_option maxHeartbeats 4000000 in
theorem lu_mk {p : Program} {l : Launch} {e : Env} {R : Room} {s : State} {m : MethodId} {args : Array Value} {below : List Frame} {meth : Method} {c : Code} {D : va_G} {cs : Nat → ClassId} {ls : Array Slot} {pc a b ci fr lo r : Nat} {C : String} {y : MethodName} {cy : ByteArray} {k0 k u g w : Int32} (hM : lu_hC l y cy fr lo) (hx : p.tables.exec = Jvm.exec) (hb : c.code = cX11_made) (hr : meth.sig.returnType = some (.object "LeftUndoes$Hand")) (hml : c.maxLocals = 5) (hts : ∀ w ∈ lu_ws, w.before args s = true) (hown : s.vm.findClass RX11 = some m.cls) (hlocks : meth.locks = false) (hK : va_K D lu_cl (lu_tys cs) s) (hl : lv_has ls 5 [(0, .int k0), (1, .int u), (2, .int g), (3, .int w), (4, .ref r)])
    (hR : fr + 1 ≤ R.frames ∧ 8 + (6 + 11) + lo ≤ R.locals) (hR2 : 1 ≤ R.cells ∧ 6 ≤ R.slots) (hc : lu_cl[ci]? = some (C, TX3, 6)) (hin : ∀ w ∈ u_ws C TX3 6, w ∈ lu_ws) (hkl : Cond.classLink RX11 a C ∈ lu_ws) (hnew : Cond.instantiable C 6 ∈ lu_ws) (hini : Cond.initialized C ∈ lu_ws) (hyc : y.cls = C) (hy1 : y.name = "<init>") (hy2 : y.cls ≠ "java/lang/invoke/MethodHandle" ∧ y.cls ≠ "java/lang/invoke/VarHandle" ∧ (parseMethodDescriptor y.desc).map (fun d => d.parameters.length) = some 5) (ml : Cond.methodLink RX11 b y ∈ lu_ws) (mi : Cond.instanceMethod y ∈ lu_ws) (mc : Cond.code y cy 6 none ∈ lu_ws)
    (hci : lu_hk k0 = ci) (hk : lu_kd k0 = k)
    (d0 : decode cX11_made pc = .ok (.new a, 3)) (d3 : decode cX11_made (pc + 3) = .ok (.dup, 1)) (dk : ∀ (H : Heap) (locs : List Loc) (kk nn : Nat) (Q : State → Prop) (st : List Value), W p l e R s m args below meth c H locs kk nn Q (F0 m (pc + 5) ls (.int k :: st)) → W p l e R s m args below meth c H locs kk nn Q (F0 m (pc + 4) ls st)) (d5 : decode cX11_made (pc + 5) = .ok (.iload_n 1, 1)) (d6 : decode cX11_made (pc + 6) = .ok (.iload_n 2, 1)) (d7 : decode cX11_made (pc + 7) = .ok (.iload_n 3, 1)) (d8 : decode cX11_made (pc + 8) = .ok (.aload 4, 2)) (d10 : decode cX11_made (pc + 10) = .ok (.invokespecial b, 3)) (d13 : decode cX11_made (pc + 13) = .ok (.areturn, 1)) :
    W p l e R s m args below meth c s.heap [] 0 0 (MQ below (lu_mQ D s.heap.size k0 u g w r) args s 1 6 (fun q => s.heap.size ≤ q)) (F0 m pc ls []) := by
  have hS : va_S (fun q => s.heap.size ≤ q) s.heap s.heap [] := va_S.rf
  refine va_new (ws := []) (fs := lu_hraw) hx hb hts hin tyX3 tyX3_ok hown (hts _ hkl) (hts _ hnew) (hts _ hini) hK (fun k q hk => by cases k <;> cases hk) ⟨fun i j p q hi => (by cases i <;> cases hi), fun k q hk => (by cases k <;> cases hk)⟩ hS (fun q h => h) hc (fun j hj => by
    rcases (show j = 0 ∨ j = 1 ∨ j = 2 ∨ j = 3 ∨ j = 4 ∨ j = 5 by omega) with rfl | rfl | rfl | rfl | rfl | rfl <;> rfl) (by omega) (by omega) d0 (fun q H hP hD hS => ?_)
  have hP : va_P D lu_cl [(q, .inr (ci, lu_hraw))] H := hP
  have hq : s.heap.size ≤ q := hD.2 0 _ rfl
  refine lv_dup hx hb d3 rfl ?_
  refine dk _ _ _ _ _ _ ?_
  refine lv_iload_n hx hb d5 rfl (lv_at hl 1 rfl) ?_
  refine lv_iload_n hx hb d6 rfl (lv_at hl 2 rfl) ?_
  refine lv_iload_n hx hb d7 rfl (lv_at hl 3 rfl) ?_
  refine lv_aload hx hb d8 (lv_at hl 4 rfl) ?_
  refine lu_hb (g := F0 m (pc + 10) ls [.ref r, .int w, .int g, .int u, .int k, .ref q, .ref q]) (va_runI (As := [.int k, .int u, .int g, .int w, .ref r]) (rest := [.ref q]) ⟨hx, hb, hml, hown, hts⟩ (hM D cs q H.size ci r k u g w (lu_hk_ok hc hin)) (cwI 5 hts (lu_gi (fun w hw => by
    rcases List.mem_cons.mp hw with rfl | hw
    · exact mc
    · exact hw)) rfl rfl rfl (hts _ (by rw [hyc]; exact hini)) (hts _ ml) (hts _ mi) hy1 hy2 hR) ⟨fun a U g mk q => by
    obtain ⟨q0, q1, qP, qK⟩ := q
    exact ⟨q0, q1, qP, va_K.moved (u := U) (U := U.calling g mk a) (Vm.Alike.refl U.vm) qK⟩, fun U hU hW => ⟨rfl, by rw [hU], by rw [hU]; exact hP, va_K.moved hW.alike hK⟩⟩ rfl rfl hl.1 rfl (lv_room (Nat.le_of_ble_eq_true rfl)) d10 ⟨by show 0 + 1 + 0 ≤ _; omega, by show 0 + 6 + 0 ≤ _; omega⟩) (fun H1 L hP1 hz hk9 hL => ?_)
  refine W.aret (v := .ref q) hx hb hr (Or.inl ⟨_, rfl⟩) (Or.inr ⟨_, rfl⟩) (fun t ht hW => ⟨q, rfl, hq, by rw [ht, hci, hk]; exact hP1, ⟨by rw [ht]; exact Nat.le_trans hS.1 hz, fun x h1 h2 => by rw [ht, hk9 x (Nat.lt_of_lt_of_le h1 hS.1) (fun z => h2 (by rw [z]; exact hq))]; exact hS.2.1 x h1 h2⟩⟩) (fun x hx => by
    rw [hL x (by simpa using hx)]
    exact hq) d13
theorem lu_hk1 : lu_hk 1 = 0 := by decide
theorem lu_hk2 : lu_hk 2 = 2 := by decide
theorem lu_hk3 : lu_hk 3 = 9 := by decide
theorem lu_hk4 : lu_hk 4 = 7 := by decide
theorem lu_hk5 : lu_hk 5 = 4 := by decide
theorem lu_hk0 {k : Int32} (h1 : k ≠ 1) (h2 : k ≠ 2) (h3 : k ≠ 3) (h4 : k ≠ 4) (h5 : k ≠ 5) : lu_hk k = 3 := by
  unfold lu_hk
  rw [if_neg h1, if_neg h2, if_neg h3, if_neg h4, if_neg h5]
set_option maxHeartbeats 4000000 in
theorem c11_made (l : Launch) (D : va_G) (cs : Nat → ClassId) (sz r : Nat) (k u g w : Int32) : Met l yX11_made (.code yX11_made cX11_made 5 (some (.object "LeftUndoes$Hand")) :: lu_ws) ({ frames := 4, cells := 1, slots := 6, locals := 95 }) (va_Pc [.int k, .int u, .int g, .int w, .ref r] (lu_mP D cs sz)) (lu_mQ D sz k u g w r) 1 6 (fun q => sz ≤ q) := by
  refine Met.ofW (cc := cX11_made) (maxL := 5) (ret := some (.object "LeftUndoes$Hand")) (by decide) rfl ?_
  intro p e s m args below meth c s₁ B hml hv
  obtain ⟨rfl, hsz, hK⟩ := hv
  have hx := B.exec
  have hb := B.bytes
  have hr := B.returns
  have hts : ∀ w0 ∈ lu_ws, w0.before ([Value.int k, .int u, .int g, .int w, .ref r] : List Value).toArray s = true := fun w0 hw => atoms_spec (ws := .code yX11_made cX11_made 5 (some (.object "LeftUndoes$Hand")) :: lu_ws) B.pre w0 (List.mem_cons_of_mem _ hw)
  have hown : s.vm.findClass RX11 = some m.cls := findClass_of_methodNamed B.named
  have hlocks := B.notSynchronized
  subst hsz
  have hl := lv_entry ([.int k, .int u, .int g, .int w, .ref r]) (n := 5) (Nat.le_of_ble_eq_true rfl)
  rw [lg_entry_eq]
  generalize (lg_sl ([.int k, .int u, .int g, .int w, .ref r]) ++ List.replicate (5 - (lg_sl ([.int k, .int u, .int g, .int w, .ref r])).length) Slot.unset).toArray = ls at hl ⊢
  have hl : lv_has ls 5 [(0, .int k), (1, .int u), (2, .int g), (3, .int w), (4, .ref r)] := hl
  refine lv_iload_n hx hb dX11_made_0 rfl (lv_at hl 0 rfl) ?_
  by_cases h1 : k = 1
  · subst h1
    refine lv_tableIn (off := 35) hx hb dX11_made_1 (by decide) (by decide) rfl (tgt := 36) rfl ?_
    exact lu_mk (C := RX0) (c0_init l) hx hb hr hml hts hown hlocks hK hl ⟨by decide, by decide⟩ ⟨by decide, by decide⟩ rfl (lu_lay lu_lay0) hw_k0 hw_n0 hw_i0 rfl rfl ⟨by decide, by decide, by decide +kernel⟩ hw_l0 hw_m0 hw_c0 lu_hk1 rfl dX11_made_36 dX11_made_39 (fun H locs kk nn Q st h => lv_iload_n hx hb dX11_made_40 rfl (lv_at hl 0 rfl) h) dX11_made_41 dX11_made_42 dX11_made_43 dX11_made_44 dX11_made_46 dX11_made_49
  by_cases h2 : k = 2
  · subst h2
    refine lv_tableIn (off := 49) hx hb dX11_made_1 (by decide) (by decide) rfl (tgt := 50) rfl ?_
    exact lu_mk (C := RX2) (c2_init l) hx hb hr hml hts hown hlocks hK hl ⟨by decide, by decide⟩ ⟨by decide, by decide⟩ rfl (lu_lay lu_lay2) hw_k2 hw_n2 hw_i2 rfl rfl ⟨by decide, by decide, by decide +kernel⟩ hw_l2 hw_m2 hw_c2 lu_hk2 rfl dX11_made_50 dX11_made_53 (fun H locs kk nn Q st h => lv_iload_n hx hb dX11_made_54 rfl (lv_at hl 0 rfl) h) dX11_made_55 dX11_made_56 dX11_made_57 dX11_made_58 dX11_made_60 dX11_made_63
  by_cases h3 : k = 3
  · subst h3
    refine lv_tableIn (off := 63) hx hb dX11_made_1 (by decide) (by decide) rfl (tgt := 64) rfl ?_
    exact lu_mk (C := RX9) (c9_init l) hx hb hr hml hts hown hlocks hK hl ⟨by decide, by decide⟩ ⟨by decide, by decide⟩ rfl (lu_lay lu_lay9) hw_k9 hw_n9 hw_i9 rfl rfl ⟨by decide, by decide, by decide +kernel⟩ hw_l9 hw_m9 hw_c9 lu_hk3 rfl dX11_made_64 dX11_made_67 (fun H locs kk nn Q st h => lv_iload_n hx hb dX11_made_68 rfl (lv_at hl 0 rfl) h) dX11_made_69 dX11_made_70 dX11_made_71 dX11_made_72 dX11_made_74 dX11_made_77
  by_cases h4 : k = 4
  · subst h4
    refine lv_tableIn (off := 77) hx hb dX11_made_1 (by decide) (by decide) rfl (tgt := 78) rfl ?_
    exact lu_mk (C := RX7) (c7_init l) hx hb hr hml hts hown hlocks hK hl ⟨by decide, by decide⟩ ⟨by decide, by decide⟩ rfl (lu_lay lu_lay7) hw_k7 hw_n7 hw_i7 rfl rfl ⟨by decide, by decide, by decide +kernel⟩ hw_l7 hw_m7 hw_c7 lu_hk4 rfl dX11_made_78 dX11_made_81 (fun H locs kk nn Q st h => lv_iload_n hx hb dX11_made_82 rfl (lv_at hl 0 rfl) h) dX11_made_83 dX11_made_84 dX11_made_85 dX11_made_86 dX11_made_88 dX11_made_91
  by_cases h5 : k = 5
  · subst h5
    refine lv_tableIn (off := 91) hx hb dX11_made_1 (by decide) (by decide) rfl (tgt := 92) rfl ?_
    exact lu_mk (C := RX4) (c4_init l) hx hb hr hml hts hown hlocks hK hl ⟨by decide, by decide⟩ ⟨by decide, by decide⟩ rfl (lu_lay lu_lay4) hw_k4 hw_n4 hw_i4 rfl rfl ⟨by decide, by decide, by decide +kernel⟩ hw_l4 hw_m4 hw_c4 lu_hk5 rfl dX11_made_92 dX11_made_95 (fun H locs kk nn Q st h => lv_iload_n hx hb dX11_made_96 rfl (lv_at hl 0 rfl) h) dX11_made_97 dX11_made_98 dX11_made_99 dX11_made_100 dX11_made_102 dX11_made_105
  · have hq := lu_hk0 h1 h2 h3 h4 h5
    have hz : k.toInt < 1 ∨ 5 < k.toInt := by
      rcases Int.lt_or_le k.toInt 1 with h | h
      · exact Or.inl h
      refine Or.inr (Int.not_le.mp fun h9 => ?_)
      have e : ∀ z : Int32, k.toInt = z.toInt → k = z := fun z h => Int32.toInt_inj.mp h
      rcases (show k.toInt = 1 ∨ k.toInt = 2 ∨ k.toInt = 3 ∨ k.toInt = 4 ∨ k.toInt = 5 by omega) with h | h | h | h | h
      · exact h1 (e 1 h)
      · exact h2 (e 2 h)
      · exact h3 (e 3 h)
      · exact h4 (e 4 h)
      · exact h5 (e 5 h)
    refine lv_tableOut hx hb dX11_made_1 hz (tgt := 106) rfl ?_
    exact lu_mk (C := RX3) (c3_init l) hx hb hr hml hts hown hlocks hK hl ⟨by decide, by decide⟩ ⟨by decide, by decide⟩ rfl (lu_lay lu_lay3) hw_k3 hw_n3 hw_i3 rfl rfl ⟨by decide, by decide, by decide +kernel⟩ hw_l3 hw_m3 hw_c3 hq (by unfold lu_kd; rw [if_pos hq]) dX11_made_106 dX11_made_109 (fun H locs kk nn Q st h => lv_iconst hx hb dX11_made_110 (by decide) h) dX11_made_111 dX11_made_112 dX11_made_113 dX11_made_114 dX11_made_116 dX11_made_119


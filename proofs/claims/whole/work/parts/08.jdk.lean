/-! THE JDK METHODS that are reached: length and charAt of a text constant -/
abbrev cJ0_coder_7d493 : ByteArray := prog_16_method_152_code
def yJ0_coder_7d493 : MethodName := ⟨"java/lang/String", "coder", "()B"⟩
theorem dJ0_coder_7d493_0 : decode cJ0_coder_7d493 0 = .ok (.getstatic 38, 3) := by decide +kernel
theorem dJ0_coder_7d493_3 : decode cJ0_coder_7d493 3 = .ok (.ifCond .eq 10, 3) := by decide +kernel
theorem dJ0_coder_7d493_6 : decode cJ0_coder_7d493 6 = .ok (.aload_n 0, 1) := by decide +kernel
theorem dJ0_coder_7d493_7 : decode cJ0_coder_7d493 7 = .ok (.getfield 15, 3) := by decide +kernel
theorem dJ0_coder_7d493_10 : decode cJ0_coder_7d493 10 = .ok (.goto 4, 3) := by decide +kernel
theorem dJ0_coder_7d493_13 : decode cJ0_coder_7d493 13 = .ok (.iconst 1, 1) := by decide +kernel
theorem dJ0_coder_7d493_14 : decode cJ0_coder_7d493 14 = .ok (.ireturn, 1) := by decide +kernel
theorem jc_J0_coder_7d493 : Cond.code yJ0_coder_7d493 cJ0_coder_7d493 1 (some .byte) ∈ lu_ws := lu_in (List.mem_of_getElem? (i := 700) (by decide +kernel)) (by decide +kernel)
abbrev cJ0_isLatin1_aae02 : ByteArray := prog_16_method_154_code
def yJ0_isLatin1_aae02 : MethodName := ⟨"java/lang/String", "isLatin1", "()Z"⟩
theorem dJ0_isLatin1_aae02_0 : decode cJ0_isLatin1_aae02 0 = .ok (.getstatic 38, 3) := by decide +kernel
theorem dJ0_isLatin1_aae02_3 : decode cJ0_isLatin1_aae02 3 = .ok (.ifCond .eq 14, 3) := by decide +kernel
theorem dJ0_isLatin1_aae02_6 : decode cJ0_isLatin1_aae02 6 = .ok (.aload_n 0, 1) := by decide +kernel
theorem dJ0_isLatin1_aae02_7 : decode cJ0_isLatin1_aae02 7 = .ok (.getfield 15, 3) := by decide +kernel
theorem dJ0_isLatin1_aae02_10 : decode cJ0_isLatin1_aae02 10 = .ok (.ifCond .ne 7, 3) := by decide +kernel
theorem dJ0_isLatin1_aae02_13 : decode cJ0_isLatin1_aae02 13 = .ok (.iconst 1, 1) := by decide +kernel
theorem dJ0_isLatin1_aae02_14 : decode cJ0_isLatin1_aae02 14 = .ok (.goto 4, 3) := by decide +kernel
theorem dJ0_isLatin1_aae02_17 : decode cJ0_isLatin1_aae02 17 = .ok (.iconst 0, 1) := by decide +kernel
theorem dJ0_isLatin1_aae02_18 : decode cJ0_isLatin1_aae02 18 = .ok (.ireturn, 1) := by decide +kernel
theorem jc_J0_isLatin1_aae02 : Cond.code yJ0_isLatin1_aae02 cJ0_isLatin1_aae02 1 (some .boolean) ∈ lu_ws := lu_in (List.mem_of_getElem? (i := 710) (by decide +kernel)) (by decide +kernel)
abbrev cJ0_length_8abf5 : ByteArray := prog_16_method_54_code
def yJ0_length_8abf5 : MethodName := ⟨"java/lang/String", "length", "()I"⟩
theorem dJ0_length_8abf5_0 : decode cJ0_length_8abf5 0 = .ok (.aload_n 0, 1) := by decide +kernel
theorem dJ0_length_8abf5_1 : decode cJ0_length_8abf5 1 = .ok (.getfield 9, 3) := by decide +kernel
theorem dJ0_length_8abf5_4 : decode cJ0_length_8abf5 4 = .ok (.arraylength, 1) := by decide +kernel
theorem dJ0_length_8abf5_5 : decode cJ0_length_8abf5 5 = .ok (.aload_n 0, 1) := by decide +kernel
theorem dJ0_length_8abf5_6 : decode cJ0_length_8abf5 6 = .ok (.invokevirtual 335, 3) := by decide +kernel
theorem dJ0_length_8abf5_9 : decode cJ0_length_8abf5 9 = .ok (.ishr, 1) := by decide +kernel
theorem dJ0_length_8abf5_10 : decode cJ0_length_8abf5 10 = .ok (.ireturn, 1) := by decide +kernel
theorem jc_J0_length_8abf5 : Cond.code yJ0_length_8abf5 cJ0_length_8abf5 1 (some .int) ∈ lu_ws := lu_in (List.mem_of_getElem? (i := 696) (by decide +kernel)) (by decide +kernel)
abbrev cJ0_checkIndex_df160 : ByteArray := prog_16_method_155_code
def yJ0_checkIndex_df160 : MethodName := ⟨"java/lang/String", "checkIndex", "(II)V"⟩
theorem dJ0_checkIndex_df160_0 : decode cJ0_checkIndex_df160 0 = .ok (.iload_n 0, 1) := by decide +kernel
theorem dJ0_checkIndex_df160_1 : decode cJ0_checkIndex_df160 1 = .ok (.iload_n 1, 1) := by decide +kernel
theorem dJ0_checkIndex_df160_2 : decode cJ0_checkIndex_df160 2 = .ok (.getstatic 1053, 3) := by decide +kernel
theorem dJ0_checkIndex_df160_5 : decode cJ0_checkIndex_df160 5 = .ok (.invokestatic 1059, 3) := by decide +kernel
theorem dJ0_checkIndex_df160_8 : decode cJ0_checkIndex_df160 8 = .ok (.pop, 1) := by decide +kernel
theorem dJ0_checkIndex_df160_9 : decode cJ0_checkIndex_df160 9 = .ok (.return_, 1) := by decide +kernel
theorem jc_J0_checkIndex_df160 : Cond.code yJ0_checkIndex_df160 cJ0_checkIndex_df160 2 none ∈ lu_ws := lu_in (List.mem_of_getElem? (i := 716) (by decide +kernel)) (by decide +kernel)
abbrev cJ1_charAt_3b067 : ByteArray := prog_17_method_2_code
def yJ1_charAt_3b067 : MethodName := ⟨"java/lang/StringLatin1", "charAt", "([BI)C"⟩
theorem dJ1_charAt_3b067_0 : decode cJ1_charAt_3b067 0 = .ok (.iload_n 1, 1) := by decide +kernel
theorem dJ1_charAt_3b067_1 : decode cJ1_charAt_3b067 1 = .ok (.aload_n 0, 1) := by decide +kernel
theorem dJ1_charAt_3b067_2 : decode cJ1_charAt_3b067 2 = .ok (.arraylength, 1) := by decide +kernel
theorem dJ1_charAt_3b067_3 : decode cJ1_charAt_3b067 3 = .ok (.invokestatic 9, 3) := by decide +kernel
theorem dJ1_charAt_3b067_6 : decode cJ1_charAt_3b067 6 = .ok (.aload_n 0, 1) := by decide +kernel
theorem dJ1_charAt_3b067_7 : decode cJ1_charAt_3b067 7 = .ok (.iload_n 1, 1) := by decide +kernel
theorem dJ1_charAt_3b067_8 : decode cJ1_charAt_3b067 8 = .ok (.baload, 1) := by decide +kernel
theorem dJ1_charAt_3b067_9 : decode cJ1_charAt_3b067 9 = .ok (.sipush 255, 3) := by decide +kernel
theorem dJ1_charAt_3b067_12 : decode cJ1_charAt_3b067 12 = .ok (.iand, 1) := by decide +kernel
theorem dJ1_charAt_3b067_13 : decode cJ1_charAt_3b067 13 = .ok (.i2c, 1) := by decide +kernel
theorem dJ1_charAt_3b067_14 : decode cJ1_charAt_3b067 14 = .ok (.ireturn, 1) := by decide +kernel
theorem jc_J1_charAt_3b067 : Cond.code yJ1_charAt_3b067 cJ1_charAt_3b067 2 (some .char) ∈ lu_ws := lu_in (List.mem_of_getElem? (i := 713) (by decide +kernel)) (by decide +kernel)
abbrev cJ3_checkIndex_8e157 : ByteArray := prog_19_method_11_code
def yJ3_checkIndex_8e157 : MethodName := ⟨"jdk/internal/util/Preconditions", "checkIndex", "(IILjava/util/function/BiFunction;)I"⟩
theorem dJ3_checkIndex_8e157_0 : decode cJ3_checkIndex_8e157 0 = .ok (.iload_n 0, 1) := by decide +kernel
theorem dJ3_checkIndex_8e157_1 : decode cJ3_checkIndex_8e157 1 = .ok (.ifCond .lt 8, 3) := by decide +kernel
theorem dJ3_checkIndex_8e157_4 : decode cJ3_checkIndex_8e157 4 = .ok (.iload_n 0, 1) := by decide +kernel
theorem dJ3_checkIndex_8e157_5 : decode cJ3_checkIndex_8e157 5 = .ok (.iload_n 1, 1) := by decide +kernel
theorem dJ3_checkIndex_8e157_6 : decode cJ3_checkIndex_8e157 6 = .ok (.if_icmp .lt 10, 3) := by decide +kernel
theorem dJ3_checkIndex_8e157_9 : decode cJ3_checkIndex_8e157 9 = .ok (.aload_n 2, 1) := by decide +kernel
theorem dJ3_checkIndex_8e157_10 : decode cJ3_checkIndex_8e157 10 = .ok (.iload_n 0, 1) := by decide +kernel
theorem dJ3_checkIndex_8e157_11 : decode cJ3_checkIndex_8e157 11 = .ok (.iload_n 1, 1) := by decide +kernel
theorem dJ3_checkIndex_8e157_12 : decode cJ3_checkIndex_8e157 12 = .ok (.invokestatic 95, 3) := by decide +kernel
theorem dJ3_checkIndex_8e157_15 : decode cJ3_checkIndex_8e157 15 = .ok (.athrow, 1) := by decide +kernel
theorem dJ3_checkIndex_8e157_16 : decode cJ3_checkIndex_8e157 16 = .ok (.iload_n 0, 1) := by decide +kernel
theorem dJ3_checkIndex_8e157_17 : decode cJ3_checkIndex_8e157 17 = .ok (.ireturn, 1) := by decide +kernel
theorem jc_J3_checkIndex_8e157 : Cond.code yJ3_checkIndex_8e157 cJ3_checkIndex_8e157 3 (some .int) ∈ lu_ws := lu_in (List.mem_of_getElem? (i := 721) (by decide +kernel)) (by decide +kernel)
abbrev cJ0_charAt_5068e : ByteArray := prog_16_method_56_code
def yJ0_charAt_5068e : MethodName := ⟨"java/lang/String", "charAt", "(I)C"⟩
theorem dJ0_charAt_5068e_0 : decode cJ0_charAt_5068e 0 = .ok (.aload_n 0, 1) := by decide +kernel
theorem dJ0_charAt_5068e_1 : decode cJ0_charAt_5068e 1 = .ok (.invokevirtual 492, 3) := by decide +kernel
theorem dJ0_charAt_5068e_4 : decode cJ0_charAt_5068e 4 = .ok (.ifCond .eq 12, 3) := by decide +kernel
theorem dJ0_charAt_5068e_7 : decode cJ0_charAt_5068e 7 = .ok (.aload_n 0, 1) := by decide +kernel
theorem dJ0_charAt_5068e_8 : decode cJ0_charAt_5068e 8 = .ok (.getfield 9, 3) := by decide +kernel
theorem dJ0_charAt_5068e_11 : decode cJ0_charAt_5068e 11 = .ok (.iload_n 1, 1) := by decide +kernel
theorem dJ0_charAt_5068e_12 : decode cJ0_charAt_5068e 12 = .ok (.invokestatic 495, 3) := by decide +kernel
theorem dJ0_charAt_5068e_15 : decode cJ0_charAt_5068e 15 = .ok (.ireturn, 1) := by decide +kernel
theorem dJ0_charAt_5068e_16 : decode cJ0_charAt_5068e 16 = .ok (.aload_n 0, 1) := by decide +kernel
theorem dJ0_charAt_5068e_17 : decode cJ0_charAt_5068e 17 = .ok (.getfield 9, 3) := by decide +kernel
theorem dJ0_charAt_5068e_20 : decode cJ0_charAt_5068e 20 = .ok (.iload_n 1, 1) := by decide +kernel
theorem dJ0_charAt_5068e_21 : decode cJ0_charAt_5068e 21 = .ok (.invokestatic 498, 3) := by decide +kernel
theorem dJ0_charAt_5068e_24 : decode cJ0_charAt_5068e 24 = .ok (.ireturn, 1) := by decide +kernel
theorem jc_J0_charAt_5068e : Cond.code yJ0_charAt_5068e cJ0_charAt_5068e 2 (some .char) ∈ lu_ws := lu_in (List.mem_of_getElem? (i := 706) (by decide +kernel)) (by decide +kernel)
theorem ji_J0_coder_7d493 : Cond.instanceMethod yJ0_coder_7d493 ∈ lu_ws := lu_in (List.mem_of_getElem? (i := 698) (by decide +kernel)) (by decide +kernel)
theorem jl_J0_coder_7d493 : Cond.selects "java/lang/String" yJ0_coder_7d493 yJ0_coder_7d493 ∈ lu_ws := lu_in (List.mem_of_getElem? (i := 699) (by decide +kernel)) (by decide +kernel)
theorem ji_J0_isLatin1_aae02 : Cond.instanceMethod yJ0_isLatin1_aae02 ∈ lu_ws := lu_in (List.mem_of_getElem? (i := 708) (by decide +kernel)) (by decide +kernel)
theorem jl_J0_isLatin1_aae02 : Cond.selects "java/lang/String" yJ0_isLatin1_aae02 yJ0_isLatin1_aae02 ∈ lu_ws := lu_in (List.mem_of_getElem? (i := 709) (by decide +kernel)) (by decide +kernel)
theorem ji_J0_length_8abf5 : Cond.instanceMethod yJ0_length_8abf5 ∈ lu_ws := lu_in (List.mem_of_getElem? (i := 694) (by decide +kernel)) (by decide +kernel)
theorem jl_J0_length_8abf5 : Cond.selects "java/lang/String" yJ0_length_8abf5 yJ0_length_8abf5 ∈ lu_ws := lu_in (List.mem_of_getElem? (i := 695) (by decide +kernel)) (by decide +kernel)
theorem js_J0_checkIndex_df160 : Cond.static yJ0_checkIndex_df160 ∈ lu_ws := lu_in (List.mem_of_getElem? (i := 715) (by decide +kernel)) (by decide +kernel)
theorem js_J1_charAt_3b067 : Cond.static yJ1_charAt_3b067 ∈ lu_ws := lu_in (List.mem_of_getElem? (i := 712) (by decide +kernel)) (by decide +kernel)
theorem js_J3_checkIndex_8e157 : Cond.static yJ3_checkIndex_8e157 ∈ lu_ws := lu_in (List.mem_of_getElem? (i := 720) (by decide +kernel)) (by decide +kernel)
theorem ji_J0_charAt_5068e : Cond.instanceMethod yJ0_charAt_5068e ∈ lu_ws := lu_in (List.mem_of_getElem? (i := 704) (by decide +kernel)) (by decide +kernel)
theorem jl_J0_charAt_5068e : Cond.selects "java/lang/String" yJ0_charAt_5068e yJ0_charAt_5068e ∈ lu_ws := lu_in (List.mem_of_getElem? (i := 705) (by decide +kernel)) (by decide +kernel)
theorem jm_coder : Cond.methodLink "java/lang/String" 335 yJ0_coder_7d493 ∈ lu_ws := lu_in (List.mem_of_getElem? (i := 697) (by decide +kernel)) (by decide +kernel)
theorem jm_isLatin1 : Cond.methodLink "java/lang/String" 492 yJ0_isLatin1_aae02 ∈ lu_ws := lu_in (List.mem_of_getElem? (i := 707) (by decide +kernel)) (by decide +kernel)
theorem jm_charAtL : Cond.methodLink "java/lang/String" 495 yJ1_charAt_3b067 ∈ lu_ws := lu_in (List.mem_of_getElem? (i := 711) (by decide +kernel)) (by decide +kernel)
theorem jm_checkS : Cond.methodLink "java/lang/StringLatin1" 9 yJ0_checkIndex_df160 ∈ lu_ws := lu_in (List.mem_of_getElem? (i := 714) (by decide +kernel)) (by decide +kernel)
theorem jm_checkP : Cond.methodLink "java/lang/String" 1059 yJ3_checkIndex_8e157 ∈ lu_ws := lu_in (List.mem_of_getElem? (i := 719) (by decide +kernel)) (by decide +kernel)
theorem jf_value : Cond.fieldLink "java/lang/String" 9 "java/lang/String" "value" "[B" ∈ lu_ws := lu_in (List.mem_of_getElem? (i := 1906) (by decide +kernel)) (by decide +kernel)
theorem jf_coder : Cond.fieldLink "java/lang/String" 15 "java/lang/String" "coder" "B" ∈ lu_ws := lu_in (List.mem_of_getElem? (i := 1907) (by decide +kernel)) (by decide +kernel)
theorem jf_compact : Cond.fieldLink "java/lang/String" 38 "java/lang/String" "COMPACT_STRINGS" "Z" ∈ lu_ws := lu_in (List.mem_of_getElem? (i := 701) (by decide +kernel)) (by decide +kernel)
theorem jf_sioobe : Cond.fieldLink "java/lang/String" 1053 "jdk/internal/util/Preconditions" "SIOOBE_FORMATTER" "Ljava/util/function/BiFunction;" ∈ lu_ws := lu_in (List.mem_of_getElem? (i := 717) (by decide +kernel)) (by decide +kernel)
theorem jn_S : Cond.initialized "java/lang/String" ∈ lu_ws := lu_in (List.mem_of_getElem? (i := 97) (by decide +kernel)) (by decide +kernel)
theorem jn_L : Cond.initialized "java/lang/StringLatin1" ∈ lu_ws := lu_in (List.mem_of_getElem? (i := 98) (by decide +kernel)) (by decide +kernel)
theorem jn_P : Cond.initialized "jdk/internal/util/Preconditions" ∈ lu_ws := lu_in (List.mem_of_getElem? (i := 99) (by decide +kernel)) (by decide +kernel)
section LUJ
variable {β : Type} {T : lu_T} {G : lu_G} {Q : β → State → Prop} {o o1 o2 : Option β} {pc pc2 tgt : Nat} {lv lv2 : List (Nat × Value)} {st : List Value} {ρ : Nat → Nat} {k n : Nat} {ex : va_W} {m : lu_M} {own : String} {cc : ByteArray} {nL fr lo : Nat}
theorem lu_getsZ {i : Nat} (X : lu_X G own cc nL fr lo) (hw : Cond.fieldLink own i "java/lang/String" "COMPACT_STRINGS" "Z" ∈ lu_ws) (d : decode cc pc = .ok (.getstatic i, 3)) (hp : pc + 3 = pc2) (kk : lu_Ab T G Q o pc2 lv (.int 1 :: st) ρ k n ex m) : lu_Ab T G Q o pc lv st ρ k n ex m := by
  subst hp
  exact fun b hb H locs ls hl hP hD hS => va_gets X.hx X.hb X.hSx.2.2.1 hS X.hown (X.hts _ hw) (fun _ h => h) d (kk b hb H locs ls hl hP hD hS)
theorem lu_getsF {i : Nat} (X : lu_X G own cc nL fr lo) (hw : Cond.fieldLink own i "jdk/internal/util/Preconditions" "SIOOBE_FORMATTER" "Ljava/util/function/BiFunction;" ∈ lu_ws) (d : decode cc pc = .ok (.getstatic i, 3)) (hp : pc + 3 = pc2) (kk : lu_Ab T G Q o pc2 lv (lu_fv (lu_sa G 37) :: st) ρ k n ex m) : lu_Ab T G Q o pc lv st ρ k n ex m := by
  subst hp
  exact fun b hb H locs ls hl hP hD hS => va_gets X.hx X.hb X.hSx.2.2.2.1 hS X.hown (X.hts _ hw) (fun _ h => h) d (kk b hb H locs ls hl hP hD hS)
theorem lu_sval {i j : Nat} (hj : j < 18) (X : lu_X G own cc nL fr lo) (hw : Cond.fieldLink own i "java/lang/String" "value" "[B" ∈ lu_ws) (d : decode cc pc = .ok (.getfield i, 3)) (hp : pc + 3 = pc2) (kk : lu_Ab T G Q o pc2 lv (.ref (lu_sa G (18 + j)) :: st) ρ k n ex m) : lu_Ab T G Q o pc lv (.ref (lu_sa G j) :: st) ρ k n ex m := by
  subst hp
  exact fun b hb H locs ls hl hP hD hS => vk_getf X.hx X.hb (X.hSx.2.2.2.2.1 j hj).2.2.1 hS X.hown (X.hts _ hw) (fun _ h => h) d (kk b hb H locs ls hl hP hD hS)
theorem lu_scod {i j : Nat} (hj : j < 18) (X : lu_X G own cc nL fr lo) (hw : Cond.fieldLink own i "java/lang/String" "coder" "B" ∈ lu_ws) (d : decode cc pc = .ok (.getfield i, 3)) (hp : pc + 3 = pc2) (kk : lu_Ab T G Q o pc2 lv (.int 0 :: st) ρ k n ex m) : lu_Ab T G Q o pc lv (.ref (lu_sa G j) :: st) ρ k n ex m := by
  subst hp
  exact fun b hb H locs ls hl hP hD hS => vk_getf X.hx X.hb (X.hSx.2.2.2.2.1 j hj).2.1 hS X.hown (X.hts _ hw) (fun _ h => h) d (kk b hb H locs ls hl hP hD hS)
theorem lu_tblen {j : Nat} (hj : j < 18) (X : lu_X G own cc nL fr lo) (d : decode cc pc = .ok (.arraylength, 1)) (hp : pc + 1 = pc2) (kk : lu_Ab T G Q o pc2 lv (.int (nI (lu_len.getD j 0)) :: st) ρ k n ex m) : lu_Ab T G Q o pc lv (.ref (lu_sa G (18 + j)) :: st) ρ k n ex m := by
  subst hp
  exact fun b hb H locs ls hl hP hD hS => va_tlen X.hx X.hb (X.hSx.2.2.2.2.1 j hj).2.2.2 hS rfl d (kk b hb H locs ls hl hP hD hS)
theorem lu_tbald {j : Nat} {i : Int32} (hj : j < 18) (X : lu_X G own cc nL fr lo) (g : lu_ib i (lu_len.getD j 0) = true) (d : decode cc pc = .ok (.baload, 1)) (hp : pc + 1 = pc2) (kk : lu_Ab T G Q o pc2 lv (.int ((lu_byt.getD j []).getD i.toNatClampNeg 0) :: st) ρ k n ex m) : lu_Ab T G Q o pc lv (.int i :: .ref (lu_sa G (18 + j)) :: st) ρ k n ex m := by
  subst hp
  exact fun b hb H locs ls hl hP hD hS => va_tb X.hx X.hb (X.hSx.2.2.2.2.1 j hj).2.2.2 hS (lu_ib_in g) rfl d (kk b hb H locs ls hl hP hD hS)
theorem lu_i2c (X : lu_X G own cc nL fr lo) {x v : Int32} (hv : (x.toUInt32 % 65536).toInt32 = v) (d : decode cc pc = .ok (.i2c, 1)) (hp : pc + 1 = pc2) (kk : lu_Ab T G Q o pc2 lv (.int v :: st) ρ k n ex m) : lu_Ab T G Q o pc lv (.int x :: st) ρ k n ex m := by
  subst hp
  exact fun b hb H locs ls hl hP hD hS => lv_i2c X.hx X.hb d hv (kk b hb H locs ls hl hP hD hS)
theorem lu_nret (X : lu_X G own cc nL fr lo) {ty : FieldType} (hr : (lu_me G).sig.returnType = some ty) {x : Int32} (hn : narrow ty (.int x) = .int x) (d : decode cc pc = .ok (.ireturn, 1)) : lu_Ab T G (lu_Q T G ρ lu_RVi lu_sn) (some (x, m)) pc lv [.int x] ρ 0 0 [] m := by
  intro b hb H locs ls hl hP hD hS
  cases hb
  exact W.zret (v := x) X.hx X.hb hr hn (fun t ht hW => ⟨rfl, by rw [ht]; exact lu_P_l hP, hS.F ht⟩) hS.2.2 d X.hlk
/-- a call of a method of a text constant -/
theorem lu_invK (X : lu_X G own cc nL fr lo) {γ : Type} {index j : Nat} {y : MethodName} {cy : ByteArray} {nLy : Nat} {ry : Option FieldType} {fry loy na : Nat} {avs : (Nat → Nat) → (Nat → Nat) → List Value} {f : lu_M → Option γ} {RV : (Nat → Nat) → γ → Option Value} {MM : γ → lu_M} {ov : Option γ} {Kf : γ → Option β} {As rest : List Value} (hj : j < 18) (hM : lu_C T (lu_l G) y cy nLy ry fry loy avs f RV MM) (hf : f m = ov) (ml : Cond.methodLink own index y ∈ lu_ws) (mv : lu_MV "java/lang/String" y cy nLy ry na) (hav : avs ρ (lu_sa G) = .ref (lu_sa G j) :: As) (hn : As.length = na) (hroom : (rest.map fun v => v.category).sum ≤ 8) (hfr : fry + 1 ≤ fr) (hlo : 8 + (nLy + 11) + loy ≤ lo) (hk : k ≤ (lu_R G).cells ∧ n ≤ (lu_R G).slots) (d : decode cc pc = .ok (.invokevirtual index, 3)) (hp : pc + 3 = pc2) (hst : st = As.reverse ++ .ref (lu_sa G j) :: rest) (kk : ∀ b : γ, f m = some b → lu_Ab T G Q (Kf b) pc2 lv ((RV ρ b).toList ++ rest) ρ k n ex (MM b)) : lu_Ab T G Q (ov.bind Kf) pc lv st ρ k n ex m := by
  subst hp
  subst hst
  intro b hb H locs ls hl hP hD hS
  subst hf
  cases hfm : f m with
  | none => rw [hfm] at hb; cases hb
  | some c =>
    rw [hfm] at hb
    have hrecv := vk_recv X.hSx.2.2.2.2 hj hS
    obtain ⟨m1, m2, m3, m4, m5⟩ := mv
    have hMc := hM (lu_D G) (lu_cs G) ρ m (lu_sa G) H.size c hfm
    rw [hav] at hMc
    have hrun := va_runV (e := lu_e G) (below := lu_b G) (meth := lu_me G) (locs := locs) (rest := rest) (As := As) (g := F0 (lu_m G) pc ls (As.reverse ++ .ref (lu_sa G j) :: rest)) ⟨X.hx, X.hb, X.hml, X.hown, X.hts⟩ hMc (cwV na X.hts (lu_gi (fun w hw => by
      simp only [wsV, List.cons_append, List.nil_append, List.mem_cons] at hw
      rcases hw with rfl | rfl | rfl | rfl | rfl | hw <;> assumption)) rfl rfl rfl m5 ⟨Nat.le_trans hfr X.hfr, Nat.le_trans hlo X.hlo⟩) ⟨lu_blind _ _ _ _ _, hrecv, fun U hU hW => ⟨rfl, lu_pre X hP hD hS U hU hW⟩⟩ rfl hn hl.1 rfl (lv_room hroom) d hk
    exact lu_back X hP hD hS hrun (fun H1 locs1 hP hD hS => kk c hfm b hb H1 locs1 ls hl hP hD hS)
end LUJ
theorem mvJ_coder : lu_MV "java/lang/String" yJ0_coder_7d493 cJ0_coder_7d493 1 (some .byte) 0 := ⟨jc_J0_coder_7d493, ji_J0_coder_7d493, jl_J0_coder_7d493, jn_S, rfl, by decide, by decide, by decide +kernel⟩
theorem mvJ_isLatin1 : lu_MV "java/lang/String" yJ0_isLatin1_aae02 cJ0_isLatin1_aae02 1 (some .boolean) 0 := ⟨jc_J0_isLatin1_aae02, ji_J0_isLatin1_aae02, jl_J0_isLatin1_aae02, jn_S, rfl, by decide, by decide, by decide +kernel⟩
theorem mvJ_length : lu_MV "java/lang/String" yJ0_length_8abf5 cJ0_length_8abf5 1 (some .int) 0 := ⟨jc_J0_length_8abf5, ji_J0_length_8abf5, jl_J0_length_8abf5, jn_S, rfl, by decide, by decide, by decide +kernel⟩
theorem mvJ_charAt : lu_MV "java/lang/String" yJ0_charAt_5068e cJ0_charAt_5068e 2 (some .char) 1 := ⟨jc_J0_charAt_5068e, ji_J0_charAt_5068e, jl_J0_charAt_5068e, jn_S, rfl, by decide, by decide, by decide +kernel⟩
theorem mvJ_charAtL : lu_MS yJ1_charAt_3b067 cJ1_charAt_3b067 2 (some .char) 2 := ⟨jc_J1_charAt_3b067, js_J1_charAt_3b067, jn_L, by decide, by decide, by decide +kernel⟩
theorem mvJ_checkS : lu_MS yJ0_checkIndex_df160 cJ0_checkIndex_df160 2 none 2 := ⟨jc_J0_checkIndex_df160, js_J0_checkIndex_df160, jn_S, by decide, by decide, by decide +kernel⟩
theorem mvJ_checkP : lu_MS yJ3_checkIndex_8e157 cJ3_checkIndex_8e157 3 (some .int) 3 := ⟨jc_J3_checkIndex_8e157, js_J3_checkIndex_8e157, jn_P, by decide, by decide, by decide +kernel⟩
theorem lu_shr0 (x : Int32) : x >>> ((0 : Int32) &&& 31) = x := sb_shr0 x
theorem cJ_coder {T : lu_T} (l : Launch) {j : Nat} (hj : j < 18) : lu_C T l yJ0_coder_7d493 cJ0_coder_7d493 1 (some .byte) 0 0 (fun _ sa => [.ref (sa j)]) (fun m => some ((0 : Int32), m)) lu_RVi lu_sn := by
  refine lu_met (cls := "java/lang/String") rfl (by decide +kernel) (fun _ _ => Nat.le_of_ble_eq_true rfl) ?_
  intro G ρ m hl X hret
  subst hl
  change lu_Ab T G _ (some ((0 : Int32), m)) 0 [(0, .ref (lu_sa G j))] [] ρ 0 0 [] m
  refine lu_getsZ X jf_compact dJ0_coder_7d493_0 (pc2 := 3) rfl ?_
  refine lu_sub [0] rfl ?_
  refine (show lu_Ab T G _ (if (1 : Int32) = 0 then none else some ((0 : Int32), m)) 3 [(0, .ref (lu_sa G j))] [.int 1] ρ 0 0 [] m from ?_)
  refine lu_if_eq (tgt := 13) X dJ0_coder_7d493_3 (pc2 := 6) rfl (by decide) (fun _ => lu_none) (fun _ => ?_)
  refine lu_aload_n X dJ0_coder_7d493_6 (pc2 := 7) rfl rfl 0 rfl ?_
  refine lu_scod hj X jf_coder dJ0_coder_7d493_7 (pc2 := 10) rfl ?_
  refine lu_goto (tgt := 14) X dJ0_coder_7d493_10 (by decide) ?_
  exact lu_nret X hret rfl dJ0_coder_7d493_14
theorem cJ_isLatin1 {T : lu_T} (l : Launch) {j : Nat} (hj : j < 18) : lu_C T l yJ0_isLatin1_aae02 cJ0_isLatin1_aae02 1 (some .boolean) 0 0 (fun _ sa => [.ref (sa j)]) (fun m => some ((1 : Int32), m)) lu_RVi lu_sn := by
  refine lu_met (cls := "java/lang/String") rfl (by decide +kernel) (fun _ _ => Nat.le_of_ble_eq_true rfl) ?_
  intro G ρ m hl X hret
  subst hl
  change lu_Ab T G _ (some ((1 : Int32), m)) 0 [(0, .ref (lu_sa G j))] [] ρ 0 0 [] m
  refine lu_getsZ X jf_compact dJ0_isLatin1_aae02_0 (pc2 := 3) rfl ?_
  refine (show lu_Ab T G _ (if (1 : Int32) = 0 then none else some ((1 : Int32), m)) 3 [(0, .ref (lu_sa G j))] [.int 1] ρ 0 0 [] m from ?_)
  refine lu_if_eq (tgt := 17) X dJ0_isLatin1_aae02_3 (pc2 := 6) rfl (by decide) (fun _ => lu_none) (fun _ => ?_)
  refine lu_aload_n X dJ0_isLatin1_aae02_6 (pc2 := 7) rfl rfl 0 rfl ?_
  refine lu_scod hj X jf_coder dJ0_isLatin1_aae02_7 (pc2 := 10) rfl ?_
  refine (show lu_Ab T G _ (if (0 : Int32) = 0 then some ((1 : Int32), m) else none) 10 [(0, .ref (lu_sa G j))] [.int 0] ρ 0 0 [] m from ?_)
  refine lu_if_ne (tgt := 17) X dJ0_isLatin1_aae02_10 (pc2 := 13) rfl (by decide) (fun _ => lu_none) (fun _ => ?_)
  refine lu_iconst (v := 1) X dJ0_isLatin1_aae02_13 (pc2 := 14) rfl (by decide) ?_
  refine lu_goto (tgt := 18) X dJ0_isLatin1_aae02_14 (by decide) ?_
  exact lu_nret X hret rfl dJ0_isLatin1_aae02_18
theorem cJ_length {T : lu_T} (l : Launch) {j : Nat} (hj : j < 18) : lu_C T l yJ0_length_8abf5 cJ0_length_8abf5 1 (some .int) 1 20 (fun _ sa => [.ref (sa j)]) (fun m => some (nI (lu_len.getD j 0), m)) lu_RVi lu_sn := by
  refine lu_met (cls := "java/lang/String") rfl (by decide +kernel) (fun _ _ => Nat.le_of_ble_eq_true rfl) ?_
  intro G ρ m hl X hret
  subst hl
  show lu_Ab T G _ (some (nI (lu_len.getD j 0), m)) 0 [(0, .ref (lu_sa G j))] [] ρ 0 0 [] m
  have e : some (nI (lu_len.getD j 0), m) = (some ((0 : Int32), m)).bind (fun b => some (nI (lu_len.getD j 0) >>> (b.1 &&& 31), b.2)) := by
    simp only [Option.bind_some]
    rw [lu_shr0]
  rw [e]
  refine lu_aload_n X dJ0_length_8abf5_0 (pc2 := 1) rfl rfl 0 rfl ?_
  refine lu_sval hj X jf_value dJ0_length_8abf5_1 (pc2 := 4) rfl ?_
  refine lu_tblen hj X dJ0_length_8abf5_4 (pc2 := 5) rfl ?_
  refine lu_aload_n X dJ0_length_8abf5_5 (pc2 := 6) rfl rfl 0 rfl ?_
  refine lu_invK X hj (cJ_coder _ hj) rfl jm_coder mvJ_coder rfl rfl (Nat.le_of_ble_eq_true rfl) (Nat.le_of_ble_eq_true rfl) (Nat.le_of_ble_eq_true rfl) ⟨Nat.zero_le _, Nat.zero_le _⟩ dJ0_length_8abf5_6 (pc2 := 9) rfl rfl (fun b _ => ?_)
  refine lu_ishr X dJ0_length_8abf5_9 (pc2 := 10) rfl ?_
  exact lu_iret X hret dJ0_length_8abf5_10
theorem lu_strs : ∀ j, j < 18 → ∀ i, i < lu_len.getD j 0 → (((lu_byt.getD j []).getD i 0 &&& 255).toUInt32 % 65536).toInt32 = (lu_byt.getD j []).getD i 0 ∧ narrow .char (.int ((lu_byt.getD j []).getD i 0)) = .int ((lu_byt.getD j []).getD i 0) := by decide +kernel
theorem lu_lens : ∀ j, j < 18 → lu_len.getD j 0 < 100 := by decide +kernel
theorem lu_ib2 {i : Int32} {N : Nat} (h : lu_ib i N = true) (hN : N < 2 ^ 31) : ¬ i < 0 ∧ i < nI N := by
  simp only [lu_ib, Bool.and_eq_true, decide_eq_true_eq] at h
  constructor
  · rw [Int32.lt_iff_toInt_lt]
    have : (0 : Int32).toInt = 0 := rfl
    omega
  · rw [Int32.lt_iff_toInt_lt, nI_toInt hN]
    omega
theorem cJ_checkP {T : lu_T} (l : Launch) (i v : Int32) (q : Nat) : lu_C T l yJ3_checkIndex_8e157 cJ3_checkIndex_8e157 3 (some .int) 0 0 (fun _ sa => [.int i, .int v, lu_fv (sa q)]) (fun m => if i < 0 then none else if i < v then some (i, m) else none) lu_RVi lu_sn := by
  refine lu_met (cls := "jdk/internal/util/Preconditions") rfl (by decide +kernel) (fun _ sa => by
    show (lg_sl [.int i, .int v, lu_fv (sa q)]).length ≤ 3
    cases sa q <;> exact Nat.le_of_ble_eq_true rfl) ?_
  intro G ρ m hl X hret
  subst hl
  change lu_Ab T G _ (if i < 0 then none else if i < v then some (i, m) else none) 0 [(0, .int i), (1, .int v), (2, lu_fv (lu_sa G q))] [] ρ 0 0 [] m
  refine lu_iload_n X dJ3_checkIndex_8e157_0 (pc2 := 1) rfl rfl 0 rfl ?_
  refine lu_if_lt (tgt := 9) X dJ3_checkIndex_8e157_1 (pc2 := 4) rfl (by decide) (fun _ => lu_none) (fun _ => ?_)
  refine lu_iload_n X dJ3_checkIndex_8e157_4 (pc2 := 5) rfl rfl 0 rfl ?_
  refine lu_iload_n X dJ3_checkIndex_8e157_5 (pc2 := 6) rfl rfl 1 rfl ?_
  refine lu_icmp_lt (tgt := 16) X dJ3_checkIndex_8e157_6 (pc2 := 9) rfl (by decide) (fun _ => ?_) (fun _ => lu_none)
  refine lu_iload_n X dJ3_checkIndex_8e157_16 (pc2 := 17) rfl rfl 0 rfl ?_
  exact lu_iret X hret dJ3_checkIndex_8e157_17
theorem cJ_checkS {T : lu_T} (l : Launch) (i v : Int32) : lu_C T l yJ0_checkIndex_df160 cJ0_checkIndex_df160 2 none 1 22 (fun _ _ => [.int i, .int v]) (fun m => if i < 0 then none else if i < v then some m else none) lu_RVv lu_id := by
  refine lu_met (cls := "java/lang/String") rfl (by decide +kernel) (fun _ _ => Nat.le_of_ble_eq_true rfl) ?_
  intro G ρ m hl X hret
  subst hl
  have e : (if i < 0 then none else if i < v then some m else none) = lu_bi (if i < 0 then none else if i < v then some (i, m) else none) (fun _ m => some m) := by
    by_cases h1 : i < 0
    · rw [if_pos h1, if_pos h1]; rfl
    · rw [if_neg h1, if_neg h1]
      by_cases h2 : i < v
      · rw [if_pos h2, if_pos h2]; rfl
      · rw [if_neg h2, if_neg h2]; rfl
  show lu_Ab T G _ (if i < 0 then none else if i < v then some m else none) 0 [(0, .int i), (1, .int v)] [] ρ 0 0 [] m
  rw [e]
  refine lu_iload_n X dJ0_checkIndex_df160_0 (pc2 := 1) rfl rfl 0 rfl ?_
  refine lu_iload_n X dJ0_checkIndex_df160_1 (pc2 := 2) rfl rfl 1 rfl ?_
  refine lu_getsF X jf_sioobe dJ0_checkIndex_df160_2 (pc2 := 5) rfl ?_
  refine lu_invSi X (cJ_checkP _ i v 37) rfl jm_checkP mvJ_checkP rfl rfl (Nat.le_of_ble_eq_true rfl) (Nat.le_of_ble_eq_true rfl) (Nat.le_of_ble_eq_true rfl) ⟨Nat.zero_le _, Nat.zero_le _⟩ dJ0_checkIndex_df160_5 (pc2 := 8) rfl rfl (fun x m1 => ?_)
  refine lu_pop X dJ0_checkIndex_df160_8 (pc2 := 9) rfl rfl ?_
  exact lu_vret X hret dJ0_checkIndex_df160_9
theorem cJ_charAtL {T : lu_T} (l : Launch) {j : Nat} (hj : j < 18) (i : Int32) : lu_C T l yJ1_charAt_3b067 cJ1_charAt_3b067 2 (some .char) 2 43 (fun _ sa => [.ref (sa (18 + j)), .int i]) (fun m => lu_gd (lu_ib i (lu_len.getD j 0)) (some ((lu_byt.getD j []).getD i.toNatClampNeg 0, m))) lu_RVi lu_sn := by
  refine lu_met (cls := "java/lang/StringLatin1") rfl (by decide +kernel) (fun _ _ => Nat.le_of_ble_eq_true rfl) ?_
  intro G ρ m hl X hret
  subst hl
  show lu_Ab T G _ (lu_gd (lu_ib i (lu_len.getD j 0)) (some ((lu_byt.getD j []).getD i.toNatClampNeg 0, m))) 0 [(0, .ref (lu_sa G (18 + j))), (1, .int i)] [] ρ 0 0 [] m
  refine lu_gdr (fun g => ?_)
  have hN := lu_lens j hj
  obtain ⟨g1, g2⟩ := lu_ib2 g (by omega)
  have e : some ((lu_byt.getD j []).getD i.toNatClampNeg 0, m) = lu_bv (if i < 0 then none else if i < nI (lu_len.getD j 0) then some m else none) (fun m => some ((lu_byt.getD j []).getD i.toNatClampNeg 0, m)) := by
    rw [if_neg g1, if_pos g2]; rfl
  rw [e]
  obtain ⟨s1, s2⟩ := lu_strs j hj i.toNatClampNeg (lu_ib_lt g)
  refine lu_iload_n X dJ1_charAt_3b067_0 (pc2 := 1) rfl rfl 1 rfl ?_
  refine lu_aload_n X dJ1_charAt_3b067_1 (pc2 := 2) rfl rfl 0 rfl ?_
  refine lu_tblen hj X dJ1_charAt_3b067_2 (pc2 := 3) rfl ?_
  refine lu_invSv X (cJ_checkS _ i (nI (lu_len.getD j 0))) rfl jm_checkS mvJ_checkS rfl rfl (Nat.le_of_ble_eq_true rfl) (Nat.le_of_ble_eq_true rfl) (Nat.le_of_ble_eq_true rfl) ⟨Nat.zero_le _, Nat.zero_le _⟩ dJ1_charAt_3b067_3 (pc2 := 6) rfl rfl (fun m1 => ?_)
  refine lu_aload_n X dJ1_charAt_3b067_6 (pc2 := 7) rfl rfl 0 rfl ?_
  refine lu_iload_n X dJ1_charAt_3b067_7 (pc2 := 8) rfl rfl 1 rfl ?_
  refine lu_tbald hj X g dJ1_charAt_3b067_8 (pc2 := 9) rfl ?_
  refine lu_sipush (v := 255) X dJ1_charAt_3b067_9 (pc2 := 12) rfl (by decide) ?_
  refine lu_iand X dJ1_charAt_3b067_12 (pc2 := 13) rfl ?_
  refine lu_i2c X s1 dJ1_charAt_3b067_13 (pc2 := 14) rfl ?_
  exact lu_nret X hret s2 dJ1_charAt_3b067_14
theorem cJ_charAt {T : lu_T} (l : Launch) {j : Nat} (hj : j < 18) (i : Int32) : lu_C T l yJ0_charAt_5068e cJ0_charAt_5068e 2 (some .char) 3 64 (fun _ sa => [.ref (sa j), .int i]) (fun m => lu_gd (lu_ib i (lu_len.getD j 0)) (some ((lu_byt.getD j []).getD i.toNatClampNeg 0, m))) lu_RVi lu_sn := by
  refine lu_met (cls := "java/lang/String") rfl (by decide +kernel) (fun _ _ => Nat.le_of_ble_eq_true rfl) ?_
  intro G ρ m hl X hret
  subst hl
  show lu_Ab T G _ (lu_gd (lu_ib i (lu_len.getD j 0)) (some ((lu_byt.getD j []).getD i.toNatClampNeg 0, m))) 0 [(0, .ref (lu_sa G j)), (1, .int i)] [] ρ 0 0 [] m
  refine lu_gdr (fun g => ?_)
  obtain ⟨s1, s2⟩ := lu_strs j hj i.toNatClampNeg (lu_ib_lt g)
  have e : some ((lu_byt.getD j []).getD i.toNatClampNeg 0, m) = (some ((1 : Int32), m)).bind (fun b => if b.1 = 0 then none else lu_bi (lu_gd (lu_ib i (lu_len.getD j 0)) (some ((lu_byt.getD j []).getD i.toNatClampNeg 0, b.2))) (fun x m => if x = (lu_byt.getD j []).getD i.toNatClampNeg 0 then some (x, m) else none)) := by
    simp only [Option.bind_some]
    rw [if_neg (by decide), g]
    simp [lu_gd, lu_bi]
  rw [e]
  refine lu_aload_n X dJ0_charAt_5068e_0 (pc2 := 1) rfl rfl 0 rfl ?_
  refine lu_invK X hj (cJ_isLatin1 _ hj) rfl jm_isLatin1 mvJ_isLatin1 rfl rfl (Nat.le_of_ble_eq_true rfl) (Nat.le_of_ble_eq_true rfl) (Nat.le_of_ble_eq_true rfl) ⟨Nat.zero_le _, Nat.zero_le _⟩ dJ0_charAt_5068e_1 (pc2 := 4) rfl rfl (fun b _ => ?_)
  refine lu_if_eq (tgt := 16) X dJ0_charAt_5068e_4 (pc2 := 7) rfl (by decide) (fun _ => lu_none) (fun _ => ?_)
  refine lu_aload_n X dJ0_charAt_5068e_7 (pc2 := 8) rfl rfl 0 rfl ?_
  refine lu_sval hj X jf_value dJ0_charAt_5068e_8 (pc2 := 11) rfl ?_
  refine lu_iload_n X dJ0_charAt_5068e_11 (pc2 := 12) rfl rfl 1 rfl ?_
  refine lu_invSi X (cJ_charAtL _ hj i) rfl jm_charAtL mvJ_charAtL rfl rfl (Nat.le_of_ble_eq_true rfl) (Nat.le_of_ble_eq_true rfl) (Nat.le_of_ble_eq_true rfl) ⟨Nat.zero_le _, Nat.zero_le _⟩ dJ0_charAt_5068e_12 (pc2 := 15) rfl rfl (fun x m1 => ?_)
  refine lu_ite (fun c => ?_) (fun _ => lu_none)
  exact lu_nret X hret (by rw [c]; exact s2) dJ0_charAt_5068e_15
section LUK
variable {β : Type} {T : lu_T} {G : lu_G} {Q : β → State → Prop} {o o1 o2 : Option β} {pc pc2 tgt : Nat} {lv lv2 : List (Nat × Value)} {st : List Value} {ρ : Nat → Nat} {k n : Nat} {ex : va_W} {m : lu_M} {own : String} {cc : ByteArray} {nL fr lo : Nat}
theorem lu_slen (X : lu_X G own cc nL fr lo) {i j : Nat} (ml : Cond.methodLink own i ⟨"java/lang/String", "length", "()I"⟩ ∈ lu_ws) (hj : j < 18) (hroom : (st.map fun v => v.category).sum ≤ 8) (hfr : 8 ≤ fr) (hlo : 200 ≤ lo) (hk : k ≤ (lu_R G).cells ∧ n ≤ (lu_R G).slots) (d : decode cc pc = .ok (.invokevirtual i, 3)) (hp : pc + 3 = pc2) (kk : lu_Ab T G Q o pc2 lv (.int (nI (lu_len.getD j 0)) :: st) ρ k n ex m) : lu_Ab T G Q o pc lv (.ref (lu_sa G j) :: st) ρ k n ex m :=
  show lu_Ab T G Q ((some (nI (lu_len.getD j 0), m)).bind (fun _ => o)) pc lv (.ref (lu_sa G j) :: st) ρ k n ex m from
  lu_invK (As := []) (rest := st) X hj (cJ_length _ hj) rfl ml mvJ_length rfl rfl hroom (by omega) (by omega) hk d hp rfl (fun b h => by
    cases h
    exact kk)
theorem lu_schar (X : lu_X G own cc nL fr lo) {i j : Nat} {x : Int32} (ml : Cond.methodLink own i ⟨"java/lang/String", "charAt", "(I)C"⟩ ∈ lu_ws) (hj : j < 18) (hroom : (st.map fun v => v.category).sum ≤ 8) (hfr : 8 ≤ fr) (hlo : 200 ≤ lo) (hk : k ≤ (lu_R G).cells ∧ n ≤ (lu_R G).slots) (d : decode cc pc = .ok (.invokevirtual i, 3)) (hp : pc + 3 = pc2) (kk : lu_Ab T G Q o pc2 lv (.int ((lu_byt.getD j []).getD x.toNatClampNeg 0) :: st) ρ k n ex m) : lu_Ab T G Q (lu_gd (lu_ib x (lu_len.getD j 0)) o) pc lv (.int x :: .ref (lu_sa G j) :: st) ρ k n ex m := by
  refine lu_gdr (fun g => ?_)
  have e : o = (lu_gd (lu_ib x (lu_len.getD j 0)) (some ((lu_byt.getD j []).getD x.toNatClampNeg 0, m))).bind (fun _ => o) := by rw [g]; rfl
  rw [e]
  exact lu_invK (As := [.int x]) (rest := st) X hj (cJ_charAt _ hj x) rfl ml mvJ_charAt rfl rfl hroom (by omega) (by omega) hk d hp rfl (fun b h => by
    rw [g] at h
    cases h
    exact kk)
end LUK

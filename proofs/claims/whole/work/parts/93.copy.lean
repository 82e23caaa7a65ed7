/-! WALKS of World.copy, keep, again (they make hands) -/
theorem dX10_copy_0 : decode cX10_copy 0 = .ok (.aload_n 0, 1) := by decide +kernel
theorem dX10_copy_1 : decode cX10_copy 1 = .ok (.aload_n 1, 1) := by decide +kernel
theorem dX10_copy_2 : decode cX10_copy 2 = .ok (.getfield 72, 3) := by decide +kernel
theorem dX10_copy_5 : decode cX10_copy 5 = .ok (.putfield 72, 3) := by decide +kernel
theorem dX10_copy_8 : decode cX10_copy 8 = .ok (.iconst 0, 1) := by decide +kernel
theorem dX10_copy_9 : decode cX10_copy 9 = .ok (.istore_n 3, 1) := by decide +kernel
theorem dX10_copy_10 : decode cX10_copy 10 = .ok (.iload_n 3, 1) := by decide +kernel
theorem dX10_copy_11 : decode cX10_copy 11 = .ok (.bipush 6, 2) := by decide +kernel
theorem dX10_copy_13 : decode cX10_copy 13 = .ok (.if_icmp .ge 89, 3) := by decide +kernel
theorem dX10_copy_16 : decode cX10_copy 16 = .ok (.aload_n 1, 1) := by decide +kernel
theorem dX10_copy_17 : decode cX10_copy 17 = .ok (.getfield 11, 3) := by decide +kernel
theorem dX10_copy_20 : decode cX10_copy 20 = .ok (.iload_n 3, 1) := by decide +kernel
theorem dX10_copy_21 : decode cX10_copy 21 = .ok (.aaload, 1) := by decide +kernel
theorem dX10_copy_22 : decode cX10_copy 22 = .ok (.astore 4, 2) := by decide +kernel
theorem dX10_copy_24 : decode cX10_copy 24 = .ok (.aload_n 0, 1) := by decide +kernel
theorem dX10_copy_25 : decode cX10_copy 25 = .ok (.getfield 11, 3) := by decide +kernel
theorem dX10_copy_28 : decode cX10_copy 28 = .ok (.iload_n 3, 1) := by decide +kernel
theorem dX10_copy_29 : decode cX10_copy 29 = .ok (.aload 4, 2) := by decide +kernel
theorem dX10_copy_31 : decode cX10_copy 31 = .ok (.getfield 75, 3) := by decide +kernel
theorem dX10_copy_34 : decode cX10_copy 34 = .ok (.iload_n 3, 1) := by decide +kernel
theorem dX10_copy_35 : decode cX10_copy 35 = .ok (.aload 4, 2) := by decide +kernel
theorem dX10_copy_37 : decode cX10_copy 37 = .ok (.getfield 78, 3) := by decide +kernel
theorem dX10_copy_40 : decode cX10_copy 40 = .ok (.aload 4, 2) := by decide +kernel
theorem dX10_copy_42 : decode cX10_copy 42 = .ok (.getfield 81, 3) := by decide +kernel
theorem dX10_copy_45 : decode cX10_copy 45 = .ok (.aload_n 2, 1) := by decide +kernel
theorem dX10_copy_46 : decode cX10_copy 46 = .ok (.invokestatic 17, 3) := by decide +kernel
theorem dX10_copy_49 : decode cX10_copy 49 = .ok (.aastore, 1) := by decide +kernel
theorem dX10_copy_50 : decode cX10_copy 50 = .ok (.aload_n 0, 1) := by decide +kernel
theorem dX10_copy_51 : decode cX10_copy 51 = .ok (.getfield 37, 3) := by decide +kernel
theorem dX10_copy_54 : decode cX10_copy 54 = .ok (.iload_n 3, 1) := by decide +kernel
theorem dX10_copy_55 : decode cX10_copy 55 = .ok (.aload_n 1, 1) := by decide +kernel
theorem dX10_copy_56 : decode cX10_copy 56 = .ok (.getfield 37, 3) := by decide +kernel
theorem dX10_copy_59 : decode cX10_copy 59 = .ok (.iload_n 3, 1) := by decide +kernel
theorem dX10_copy_60 : decode cX10_copy 60 = .ok (.iaload, 1) := by decide +kernel
theorem dX10_copy_61 : decode cX10_copy 61 = .ok (.iastore, 1) := by decide +kernel
theorem dX10_copy_62 : decode cX10_copy 62 = .ok (.iconst 0, 1) := by decide +kernel
theorem dX10_copy_63 : decode cX10_copy 63 = .ok (.istore 5, 2) := by decide +kernel
theorem dX10_copy_65 : decode cX10_copy 65 = .ok (.iload 5, 2) := by decide +kernel
theorem dX10_copy_67 : decode cX10_copy 67 = .ok (.bipush 6, 2) := by decide +kernel
theorem dX10_copy_69 : decode cX10_copy 69 = .ok (.if_icmp .ge 27, 3) := by decide +kernel
theorem dX10_copy_72 : decode cX10_copy 72 = .ok (.aload_n 0, 1) := by decide +kernel
theorem dX10_copy_73 : decode cX10_copy 73 = .ok (.getfield 52, 3) := by decide +kernel
theorem dX10_copy_76 : decode cX10_copy 76 = .ok (.iload_n 3, 1) := by decide +kernel
theorem dX10_copy_77 : decode cX10_copy 77 = .ok (.aaload, 1) := by decide +kernel
theorem dX10_copy_78 : decode cX10_copy 78 = .ok (.iload 5, 2) := by decide +kernel
theorem dX10_copy_80 : decode cX10_copy 80 = .ok (.aload_n 1, 1) := by decide +kernel
theorem dX10_copy_81 : decode cX10_copy 81 = .ok (.getfield 52, 3) := by decide +kernel
theorem dX10_copy_84 : decode cX10_copy 84 = .ok (.iload_n 3, 1) := by decide +kernel
theorem dX10_copy_85 : decode cX10_copy 85 = .ok (.aaload, 1) := by decide +kernel
theorem dX10_copy_86 : decode cX10_copy 86 = .ok (.iload 5, 2) := by decide +kernel
theorem dX10_copy_88 : decode cX10_copy 88 = .ok (.iaload, 1) := by decide +kernel
theorem dX10_copy_89 : decode cX10_copy 89 = .ok (.iastore, 1) := by decide +kernel
theorem dX10_copy_90 : decode cX10_copy 90 = .ok (.iinc 5 1, 3) := by decide +kernel
theorem dX10_copy_93 : decode cX10_copy 93 = .ok (.goto (-28), 3) := by decide +kernel
theorem dX10_copy_96 : decode cX10_copy 96 = .ok (.iinc 3 1, 3) := by decide +kernel
theorem dX10_copy_99 : decode cX10_copy 99 = .ok (.goto (-89), 3) := by decide +kernel
theorem dX10_copy_102 : decode cX10_copy 102 = .ok (.aload_n 0, 1) := by decide +kernel
theorem dX10_copy_103 : decode cX10_copy 103 = .ok (.aload_n 1, 1) := by decide +kernel
theorem dX10_copy_104 : decode cX10_copy 104 = .ok (.getfield 84, 3) := by decide +kernel
theorem dX10_copy_107 : decode cX10_copy 107 = .ok (.putfield 84, 3) := by decide +kernel
theorem dX10_copy_110 : decode cX10_copy 110 = .ok (.iconst 0, 1) := by decide +kernel
theorem dX10_copy_111 : decode cX10_copy 111 = .ok (.istore_n 3, 1) := by decide +kernel
theorem dX10_copy_112 : decode cX10_copy 112 = .ok (.iload_n 3, 1) := by decide +kernel
theorem dX10_copy_113 : decode cX10_copy 113 = .ok (.bipush 10, 2) := by decide +kernel
theorem dX10_copy_115 : decode cX10_copy 115 = .ok (.if_icmp .ge 69, 3) := by decide +kernel
theorem dX10_copy_118 : decode cX10_copy 118 = .ok (.aload_n 0, 1) := by decide +kernel
theorem dX10_copy_119 : decode cX10_copy 119 = .ok (.getfield 21, 3) := by decide +kernel
theorem dX10_copy_122 : decode cX10_copy 122 = .ok (.iload_n 3, 1) := by decide +kernel
theorem dX10_copy_123 : decode cX10_copy 123 = .ok (.aload_n 1, 1) := by decide +kernel
theorem dX10_copy_124 : decode cX10_copy 124 = .ok (.getfield 21, 3) := by decide +kernel
theorem dX10_copy_127 : decode cX10_copy 127 = .ok (.iload_n 3, 1) := by decide +kernel
theorem dX10_copy_128 : decode cX10_copy 128 = .ok (.iaload, 1) := by decide +kernel
theorem dX10_copy_129 : decode cX10_copy 129 = .ok (.iastore, 1) := by decide +kernel
theorem dX10_copy_130 : decode cX10_copy 130 = .ok (.aload_n 0, 1) := by decide +kernel
theorem dX10_copy_131 : decode cX10_copy 131 = .ok (.getfield 25, 3) := by decide +kernel
theorem dX10_copy_134 : decode cX10_copy 134 = .ok (.iload_n 3, 1) := by decide +kernel
theorem dX10_copy_135 : decode cX10_copy 135 = .ok (.aload_n 1, 1) := by decide +kernel
theorem dX10_copy_136 : decode cX10_copy 136 = .ok (.getfield 25, 3) := by decide +kernel
theorem dX10_copy_139 : decode cX10_copy 139 = .ok (.iload_n 3, 1) := by decide +kernel
theorem dX10_copy_140 : decode cX10_copy 140 = .ok (.iaload, 1) := by decide +kernel
theorem dX10_copy_141 : decode cX10_copy 141 = .ok (.iastore, 1) := by decide +kernel
theorem dX10_copy_142 : decode cX10_copy 142 = .ok (.aload_n 0, 1) := by decide +kernel
theorem dX10_copy_143 : decode cX10_copy 143 = .ok (.getfield 28, 3) := by decide +kernel
theorem dX10_copy_146 : decode cX10_copy 146 = .ok (.iload_n 3, 1) := by decide +kernel
theorem dX10_copy_147 : decode cX10_copy 147 = .ok (.aload_n 1, 1) := by decide +kernel
theorem dX10_copy_148 : decode cX10_copy 148 = .ok (.getfield 28, 3) := by decide +kernel
theorem dX10_copy_151 : decode cX10_copy 151 = .ok (.iload_n 3, 1) := by decide +kernel
theorem dX10_copy_152 : decode cX10_copy 152 = .ok (.iaload, 1) := by decide +kernel
theorem dX10_copy_153 : decode cX10_copy 153 = .ok (.iastore, 1) := by decide +kernel
theorem dX10_copy_154 : decode cX10_copy 154 = .ok (.aload_n 0, 1) := by decide +kernel
theorem dX10_copy_155 : decode cX10_copy 155 = .ok (.getfield 31, 3) := by decide +kernel
theorem dX10_copy_158 : decode cX10_copy 158 = .ok (.iload_n 3, 1) := by decide +kernel
theorem dX10_copy_159 : decode cX10_copy 159 = .ok (.aload_n 1, 1) := by decide +kernel
theorem dX10_copy_160 : decode cX10_copy 160 = .ok (.getfield 31, 3) := by decide +kernel
theorem dX10_copy_163 : decode cX10_copy 163 = .ok (.iload_n 3, 1) := by decide +kernel
theorem dX10_copy_164 : decode cX10_copy 164 = .ok (.iaload, 1) := by decide +kernel
theorem dX10_copy_165 : decode cX10_copy 165 = .ok (.iastore, 1) := by decide +kernel
theorem dX10_copy_166 : decode cX10_copy 166 = .ok (.aload_n 0, 1) := by decide +kernel
theorem dX10_copy_167 : decode cX10_copy 167 = .ok (.getfield 34, 3) := by decide +kernel
theorem dX10_copy_170 : decode cX10_copy 170 = .ok (.iload_n 3, 1) := by decide +kernel
theorem dX10_copy_171 : decode cX10_copy 171 = .ok (.aload_n 1, 1) := by decide +kernel
theorem dX10_copy_172 : decode cX10_copy 172 = .ok (.getfield 34, 3) := by decide +kernel
theorem dX10_copy_175 : decode cX10_copy 175 = .ok (.iload_n 3, 1) := by decide +kernel
theorem dX10_copy_176 : decode cX10_copy 176 = .ok (.iaload, 1) := by decide +kernel
theorem dX10_copy_177 : decode cX10_copy 177 = .ok (.iastore, 1) := by decide +kernel
theorem dX10_copy_178 : decode cX10_copy 178 = .ok (.iinc 3 1, 3) := by decide +kernel
theorem dX10_copy_181 : decode cX10_copy 181 = .ok (.goto (-69), 3) := by decide +kernel
theorem dX10_copy_184 : decode cX10_copy 184 = .ok (.aload_n 0, 1) := by decide +kernel
theorem dX10_copy_185 : decode cX10_copy 185 = .ok (.aload_n 1, 1) := by decide +kernel
theorem dX10_copy_186 : decode cX10_copy 186 = .ok (.getfield 40, 3) := by decide +kernel
theorem dX10_copy_189 : decode cX10_copy 189 = .ok (.putfield 40, 3) := by decide +kernel
theorem dX10_copy_192 : decode cX10_copy 192 = .ok (.aload_n 0, 1) := by decide +kernel
theorem dX10_copy_193 : decode cX10_copy 193 = .ok (.aload_n 1, 1) := by decide +kernel
theorem dX10_copy_194 : decode cX10_copy 194 = .ok (.getfield 44, 3) := by decide +kernel
theorem dX10_copy_197 : decode cX10_copy 197 = .ok (.putfield 44, 3) := by decide +kernel
theorem dX10_copy_200 : decode cX10_copy 200 = .ok (.aload_n 0, 1) := by decide +kernel
theorem dX10_copy_201 : decode cX10_copy 201 = .ok (.aload_n 1, 1) := by decide +kernel
theorem dX10_copy_202 : decode cX10_copy 202 = .ok (.getfield 87, 3) := by decide +kernel
theorem dX10_copy_205 : decode cX10_copy 205 = .ok (.putfield 87, 3) := by decide +kernel
theorem dX10_copy_208 : decode cX10_copy 208 = .ok (.iconst 0, 1) := by decide +kernel
theorem dX10_copy_209 : decode cX10_copy 209 = .ok (.istore_n 3, 1) := by decide +kernel
theorem dX10_copy_210 : decode cX10_copy 210 = .ok (.iload_n 3, 1) := by decide +kernel
theorem dX10_copy_211 : decode cX10_copy 211 = .ok (.bipush 6, 2) := by decide +kernel
theorem dX10_copy_213 : decode cX10_copy 213 = .ok (.if_icmp .ge 42, 3) := by decide +kernel
theorem dX10_copy_216 : decode cX10_copy 216 = .ok (.iconst 0, 1) := by decide +kernel
theorem dX10_copy_217 : decode cX10_copy 217 = .ok (.istore 4, 2) := by decide +kernel
theorem dX10_copy_219 : decode cX10_copy 219 = .ok (.iload 4, 2) := by decide +kernel
theorem dX10_copy_221 : decode cX10_copy 221 = .ok (.iconst 4, 1) := by decide +kernel
theorem dX10_copy_222 : decode cX10_copy 222 = .ok (.if_icmp .ge 27, 3) := by decide +kernel
theorem dX10_copy_225 : decode cX10_copy 225 = .ok (.aload_n 0, 1) := by decide +kernel
theorem dX10_copy_226 : decode cX10_copy 226 = .ok (.getfield 49, 3) := by decide +kernel
theorem dX10_copy_229 : decode cX10_copy 229 = .ok (.iload_n 3, 1) := by decide +kernel
theorem dX10_copy_230 : decode cX10_copy 230 = .ok (.aaload, 1) := by decide +kernel
theorem dX10_copy_231 : decode cX10_copy 231 = .ok (.iload 4, 2) := by decide +kernel
theorem dX10_copy_233 : decode cX10_copy 233 = .ok (.aload_n 1, 1) := by decide +kernel
theorem dX10_copy_234 : decode cX10_copy 234 = .ok (.getfield 49, 3) := by decide +kernel
theorem dX10_copy_237 : decode cX10_copy 237 = .ok (.iload_n 3, 1) := by decide +kernel
theorem dX10_copy_238 : decode cX10_copy 238 = .ok (.aaload, 1) := by decide +kernel
theorem dX10_copy_239 : decode cX10_copy 239 = .ok (.iload 4, 2) := by decide +kernel
theorem dX10_copy_241 : decode cX10_copy 241 = .ok (.iaload, 1) := by decide +kernel
theorem dX10_copy_242 : decode cX10_copy 242 = .ok (.iastore, 1) := by decide +kernel
theorem dX10_copy_243 : decode cX10_copy 243 = .ok (.iinc 4 1, 3) := by decide +kernel
theorem dX10_copy_246 : decode cX10_copy 246 = .ok (.goto (-27), 3) := by decide +kernel
theorem dX10_copy_249 : decode cX10_copy 249 = .ok (.iinc 3 1, 3) := by decide +kernel
theorem dX10_copy_252 : decode cX10_copy 252 = .ok (.goto (-42), 3) := by decide +kernel
theorem dX10_copy_255 : decode cX10_copy 255 = .ok (.aload_n 0, 1) := by decide +kernel
theorem dX10_copy_256 : decode cX10_copy 256 = .ok (.getfield 58, 3) := by decide +kernel
theorem dX10_copy_259 : decode cX10_copy 259 = .ok (.aload_n 1, 1) := by decide +kernel
theorem dX10_copy_260 : decode cX10_copy 260 = .ok (.getfield 58, 3) := by decide +kernel
theorem dX10_copy_263 : decode cX10_copy 263 = .ok (.invokevirtual 90, 3) := by decide +kernel
theorem dX10_copy_266 : decode cX10_copy 266 = .ok (.aload_n 0, 1) := by decide +kernel
theorem dX10_copy_267 : decode cX10_copy 267 = .ok (.getfield 65, 3) := by decide +kernel
theorem dX10_copy_270 : decode cX10_copy 270 = .ok (.aload_n 1, 1) := by decide +kernel
theorem dX10_copy_271 : decode cX10_copy 271 = .ok (.getfield 65, 3) := by decide +kernel
theorem dX10_copy_274 : decode cX10_copy 274 = .ok (.invokevirtual 94, 3) := by decide +kernel
theorem dX10_copy_277 : decode cX10_copy 277 = .ok (.return_, 1) := by decide +kernel
theorem dX11_keep_0 : decode cX11_keep 0 = .ok (.aload_n 0, 1) := by decide +kernel
theorem dX11_keep_1 : decode cX11_keep 1 = .ok (.getfield 22, 3) := by decide +kernel
theorem dX11_keep_4 : decode cX11_keep 4 = .ok (.aload_n 0, 1) := by decide +kernel
theorem dX11_keep_5 : decode cX11_keep 5 = .ok (.getfield 18, 3) := by decide +kernel
theorem dX11_keep_8 : decode cX11_keep 8 = .ok (.aload_n 0, 1) := by decide +kernel
theorem dX11_keep_9 : decode cX11_keep 9 = .ok (.getfield 9, 3) := by decide +kernel
theorem dX11_keep_12 : decode cX11_keep 12 = .ok (.invokevirtual 325, 3) := by decide +kernel
theorem dX11_keep_15 : decode cX11_keep 15 = .ok (.aload_n 0, 1) := by decide +kernel
theorem dX11_keep_16 : decode cX11_keep 16 = .ok (.iconst 1, 1) := by decide +kernel
theorem dX11_keep_17 : decode cX11_keep 17 = .ok (.putfield 25, 3) := by decide +kernel
theorem dX11_keep_20 : decode cX11_keep 20 = .ok (.iconst 1, 1) := by decide +kernel
theorem dX11_keep_21 : decode cX11_keep 21 = .ok (.ireturn, 1) := by decide +kernel
theorem dX11_again_0 : decode cX11_again 0 = .ok (.aload_n 0, 1) := by decide +kernel
theorem dX11_again_1 : decode cX11_again 1 = .ok (.getfield 25, 3) := by decide +kernel
theorem dX11_again_4 : decode cX11_again 4 = .ok (.ifCond .ne 6, 3) := by decide +kernel
theorem dX11_again_7 : decode cX11_again 7 = .ok (.bipush (-3), 2) := by decide +kernel
theorem dX11_again_9 : decode cX11_again 9 = .ok (.ireturn, 1) := by decide +kernel
theorem dX11_again_10 : decode cX11_again 10 = .ok (.aload_n 0, 1) := by decide +kernel
theorem dX11_again_11 : decode cX11_again 11 = .ok (.getfield 18, 3) := by decide +kernel
theorem dX11_again_14 : decode cX11_again 14 = .ok (.aload_n 0, 1) := by decide +kernel
theorem dX11_again_15 : decode cX11_again 15 = .ok (.getfield 22, 3) := by decide +kernel
theorem dX11_again_18 : decode cX11_again 18 = .ok (.aload_n 0, 1) := by decide +kernel
theorem dX11_again_19 : decode cX11_again 19 = .ok (.getfield 9, 3) := by decide +kernel
theorem dX11_again_22 : decode cX11_again 22 = .ok (.invokevirtual 325, 3) := by decide +kernel
theorem dX11_again_25 : decode cX11_again 25 = .ok (.aload_n 0, 1) := by decide +kernel
theorem dX11_again_26 : decode cX11_again 26 = .ok (.getfield 18, 3) := by decide +kernel
theorem dX11_again_29 : decode cX11_again 29 = .ok (.getfield 96, 3) := by decide +kernel
theorem dX11_again_32 : decode cX11_again 32 = .ok (.ireturn, 1) := by decide +kernel
theorem hw_c90 : Cond.methodLink RX10 90 yX1_copy ∈ lu_ws := lu_in (List.mem_of_getElem? (i := 1197) (by decide +kernel)) (by decide +kernel)
theorem hw_c94 : Cond.methodLink RX10 94 yX6_copy ∈ lu_ws := lu_in (List.mem_of_getElem? (i := 1198) (by decide +kernel)) (by decide +kernel)
theorem hw_c325 : Cond.methodLink RX11 325 yX10_copy ∈ lu_ws := lu_in (List.mem_of_getElem? (i := 1193) (by decide +kernel)) (by decide +kernel)
theorem hw_cc : Cond.code yX10_copy cX10_copy 6 none ∈ lu_ws := lu_in (List.mem_of_getElem? (i := 1196) (by decide +kernel)) (by decide +kernel)
theorem hw_ci : Cond.instanceMethod yX10_copy ∈ lu_ws := lu_in (List.mem_of_getElem? (i := 1194) (by decide +kernel)) (by decide +kernel)
theorem hw_cs : Cond.selects RX10 yX10_copy yX10_copy ∈ lu_ws := lu_in (List.mem_of_getElem? (i := 1195) (by decide +kernel)) (by decide +kernel)
theorem hw_iw : Cond.initialized RX10 ∈ lu_ws := lu_in (List.mem_of_getElem? (i := 85) (by decide +kernel)) (by decide +kernel)

theorem mvV_10_copy : lu_MV RX10 yX10_copy cX10_copy 6 none 2 := ⟨hw_cc, hw_ci, hw_cs, hw_iw, rfl, by decide, by decide, by decide +kernel⟩
section CPY
variable {β : Type} {T : lu_T} {G : lu_G} {Q : β → State → Prop} {o : Option β} {pc pc2 tgt : Nat} {lv : List (Nat × Value)} {st : List Value} {ρ : Nat → Nat} {k n : Nat} {ex : va_W} {m : lu_M} {own : String} {cc : ByteArray} {nL fr lo : Nat}
theorem lu_gdT {b : Bool} (h : b = true) (kk : lu_Ab T G Q (lu_gd b o) pc lv st ρ k n ex m) : lu_Ab T G Q o pc lv st ρ k n ex m := by
  rw [h] at kk
  exact kk
theorem lu_drop (kk : lu_Ab T G Q o pc lv st ρ k n [] m) : lu_Ab T G Q o pc lv st ρ k n ex m := fun b hb H locs ls hl hP hD hS => kk b hb H locs ls hl (by rw [List.append_nil]; exact lu_P_l hP) (by rw [List.append_nil]; exact lu_D_l hD) hS
theorem lu_iastE (X : lu_X G own cc nL fr lo) {r N j q : Nat} {i v : Int32} (hi : (lu_ib i N && decide (i.toNatClampNeg = q)) = true) (hT : T.2 r = (0, N, j)) (hr : r < T.1) (d : decode cc pc = .ok (.iastore, 1)) (hp : pc + 1 = pc2) (kk : lu_Ab T G Q o pc2 lv st ρ k n ex (lu_st m r q v)) : lu_Ab T G Q o pc lv (.int v :: .int i :: .ref (ρ r) :: st) ρ k n ex m := by
  have g1 := (Bool.and_eq_true _ _ ▸ hi).1
  have g2 := of_decide_eq_true (Bool.and_eq_true _ _ ▸ hi).2
  subst hp
  subst g2
  intro b hb H locs ls hl hP hD hS
  have he := lu_W_at2 (T := T) (cs := lu_cs G) (ρ := ρ) (m := m) (ex := ex) hr
  rw [lu_cell_int hT] at he
  have hset : (lu_W T (lu_cs G) ρ m ++ ex).set r (ρ r, .inl (lu_cs G 0, N, .inl (upd (m r) i.toNatClampNeg v))) = lu_W T (lu_cs G) ρ (lu_st m r i.toNatClampNeg v) ++ ex := by
    refine lu_W_set hr (fun q hq => lu_st_row hq) ?_
    rw [lu_cell_int hT, lu_st_upd]
  exact va_iast (D := lu_D G) X.hx X.hb X.hK hP hD hS r 0 he rfl (lu_ib_in g1) d (fun H1 locs1 hP hD hS => by
    rw [hset] at hP hD
    exact kk b hb H1 locs1 ls hl hP hD hS)
theorem lu_aaldE (X : lu_X G own cc nL fr lo) {r N j t q : Nat} {i : Int32} {ty : FieldType} (hi : (lu_ib i N && decide (i.toNatClampNeg = q)) = true) (ht : (lu_tys (lu_cs G))[t]? = some (lu_cs G t, ty)) (hty : ty.isReference = true) (h1 : 0 < t) (h2 : t ≤ 3) (hT : T.2 r = (t, N, j)) (hr : r < T.1) (d : decode cc pc = .ok (.aaload, 1)) (hp : pc + 1 = pc2) (kk : lu_Ab T G Q o pc2 lv (.ref (ρ (r + 1 + q)) :: st) ρ k n ex m) : lu_Ab T G Q o pc lv (.int i :: .ref (ρ r) :: st) ρ k n ex m := by
  have g1 := (Bool.and_eq_true _ _ ▸ hi).1
  have g2 := of_decide_eq_true (Bool.and_eq_true _ _ ▸ hi).2
  subst g2
  exact lu_gdT g1 (lu_aald X ht hty h1 h2 hT hr d hp (fun _ => kk))
theorem lu_geT (X : lu_X G own cc nL fr lo) {x y : Int32} {off : Int} (hc : y ≤ x) (d : decode cc pc = .ok (.if_icmp .ge off, 3)) (ht : (pc : Int) + off = (tgt : Int)) (kt : lu_Ab T G Q o tgt lv st ρ k n ex m) : lu_Ab T G Q o pc lv (.int y :: .int x :: st) ρ k n ex m := by
  have h := lu_icmp_ge (o1 := o) (o2 := o) X d rfl ht (fun _ => kt) (fun h => absurd hc h)
  rw [ite_self] at h
  exact h
theorem lu_geF (X : lu_X G own cc nL fr lo) {x y : Int32} {off : Int} (hc : ¬ y ≤ x) (d : decode cc pc = .ok (.if_icmp .ge off, 3)) (hp : pc + 3 = pc2) (ht : (pc : Int) + off = (tgt : Int)) (kf : lu_Ab T G Q o pc2 lv st ρ k n ex m) : lu_Ab T G Q o pc lv (.int y :: .int x :: st) ρ k n ex m := by
  have h := lu_icmp_ge (o1 := o) (o2 := o) X d hp ht (fun h => absurd h hc) (fun _ => kf)
  rw [ite_self] at h
  exact h
end CPY
theorem cp_i6 : ∀ j, j < 6 → (lu_ib (nI j) 6 && decide ((nI j).toNatClampNeg = j)) = true := by decide +kernel
theorem cp_i10 : ∀ j, j < 10 → (lu_ib (nI j) 10 && decide ((nI j).toNatClampNeg = j)) = true := by decide +kernel
theorem cp_i4 : ∀ j, j < 4 → (lu_ib (nI j) 4 && decide ((nI j).toNatClampNeg = j)) = true := by decide +kernel
theorem cp_n6 : ∀ j, j < 6 → ¬ (6 : Int32) ≤ nI j := by decide +kernel
theorem cp_n10 : ∀ j, j < 10 → ¬ (10 : Int32) ≤ nI j := by decide +kernel
theorem cp_n4 : ∀ j, j < 4 → ¬ (4 : Int32) ≤ nI j := by decide +kernel
theorem cp_up : ∀ j, j < 10 → nI j + Int32.ofInt 1 = nI (j + 1) := by decide +kernel
theorem cp_cl {j : Nat} (h : j < 6) : (nI j).toNatClampNeg = j := of_decide_eq_true (Bool.and_eq_true _ _ ▸ cp_i6 j h).2
theorem cp_ib {j : Nat} (h : j < 6) : lu_ib (nI j) 6 = true := (Bool.and_eq_true _ _ ▸ cp_i6 j h).1
theorem kW {w j : Nat} {x : Nat × Nat × Nat} (hw : w = 1 ∨ w = 37) (h1 : lu_TC.2 (1 + j) = x) (h2 : lu_TC.2 (37 + j) = x) : lu_TC.2 (w + j) = x := by
  rcases hw with rfl | rfl
  · exact h1
  · exact h2
theorem kW0 {w : Nat} (hw : w = 1 ∨ w = 37) : lu_TC.2 w = (5, 0, 0) := by rcases hw with rfl | rfl <;> rfl
theorem lW {w j : Nat} (hw : w = 1 ∨ w = 37) (h : j < 78) : w + j < lu_TC.1 := by
  show _ < 115
  omega
theorem lW0 {w : Nat} (hw : w = 1 ∨ w = 37) : w < lu_TC.1 := by
  show _ < 115
  omega
theorem kWh {w p : Nat} (hw : w = 1 ∨ w = 37) (hp : p < 6) : lu_TC.2 (w + 1 + 1 + p) = (10, 0, 0) := by
  rcases hw with rfl | rfl <;> rcases (show p = 0 ∨ p = 1 ∨ p = 2 ∨ p = 3 ∨ p = 4 ∨ p = 5 by omega) with rfl | rfl | rfl | rfl | rfl | rfl <;> rfl
theorem kWl {w p : Nat} (hw : w = 1 ∨ w = 37) (hp : p < 6) : lu_TC.2 (w + 21 + 1 + p) = (0, 6, 0) := by
  rcases hw with rfl | rfl <;> rcases (show p = 0 ∨ p = 1 ∨ p = 2 ∨ p = 3 ∨ p = 4 ∨ p = 5 by omega) with rfl | rfl | rfl | rfl | rfl | rfl <;> rfl
theorem kWt {w p : Nat} (hw : w = 1 ∨ w = 37) (hp : p < 6) : lu_TC.2 (w + 14 + 1 + p) = (0, 4, 0) := by
  rcases hw with rfl | rfl <;> rcases (show p = 0 ∨ p = 1 ∨ p = 2 ∨ p = 3 ∨ p = 4 ∨ p = 5 by omega) with rfl | rfl | rfl | rfl | rfl | rfl <;> rfl
theorem kWk {w : Nat} (hw : w = 1 ∨ w = 37) : lu_mvd w = false := by rcases hw with rfl | rfl <;> rfl
theorem kWhit {w : Nat} (hw : w = 1 ∨ w = 37) : ∀ p, p < 6 → ∀ k, k < lu_TC.1 → k ≠ w + 1 → lu_hits lu_TC k (w + 1 + 1 + p) = false := by
  rcases hw with rfl | rfl
  · exact lu_hit_now
  · exact lu_hit_kept
theorem kWkept {w : Nat} (hw : w = 1 ∨ w = 37) {ρ ρ' : Nat → Nat} {i : Nat} (hi : i < 6) (h : ∀ q, q ≠ w + 1 + 1 + i → ρ' q = ρ q) : lu_kept ρ ρ' := by
  rcases hw with rfl | rfl
  · exact lu_kept_now hi h
  · exact lu_kept_kept hi h
/-- what World.copy leaves: a row of loans, a hand with its row, the deeds, the tellings -/
def cpL (w v p : Nat) : Nat → lu_M → lu_M
  | 0, m => m
  | c + 1, m => cpL w v p c (lu_st m (w + 21 + 1 + p) (5 - c) (m (v + 21 + 1 + p) (5 - c)))
def cpH1 (w v p : Nat) (m : lu_M) : lu_M := lu_hm m (w + 1 + 1 + p) (lu_kd (m (v + 1 + 1 + p) 0)) (nI p) (m (v + 1 + 1 + p) 2) (m (v + 1 + 1 + p) 3)
def cpH2 (w v p : Nat) (m : lu_M) : lu_M := lu_st m (w + 13) p (m (v + 13) p)
def cpH (w v : Nat) : Nat → lu_M → lu_M
  | 0, m => m
  | c + 1, m => cpH w v c (cpL w v (5 - c) 6 (cpH2 w v (5 - c) (cpH1 w v (5 - c) m)))
def cpD1 (w v q j : Nat) (m : lu_M) : lu_M := lu_st m (w + q) j (m (v + q) j)
def cpD (w v : Nat) : Nat → lu_M → lu_M
  | 0, m => m
  | c + 1, m => cpD w v c (cpD1 w v 12 (9 - c) (cpD1 w v 11 (9 - c) (cpD1 w v 10 (9 - c) (cpD1 w v 9 (9 - c) (cpD1 w v 8 (9 - c) m)))))
def cpT (w v p : Nat) : Nat → lu_M → lu_M
  | 0, m => m
  | c + 1, m => cpT w v p c (lu_st m (w + 14 + 1 + p) (3 - c) (m (v + 14 + 1 + p) (3 - c)))
def cpTT (w v : Nat) : Nat → lu_M → lu_M
  | 0, m => m
  | c + 1, m => cpTT w v c (cpT w v (5 - c) 4 m)
def cpF (w v f : Nat) (m : lu_M) : lu_M := lu_st m w f (m v f)
def cpAll (w v : Nat) (m : lu_M) : lu_M := cpTT w v 6 (cpF w v 11 (cpF w v 10 (cpF w v 9 (cpD w v 10 (cpF w v 2 (cpH w v 6 (cpF w v 0 m)))))))
def f10_copy (w v : Nat) (m : lu_M) : Option lu_M :=
  lu_bv (f1_copy (w + 28) (v + 28) (cpAll w v m)) fun m1 =>
  lu_bv (f6_copy (w + 29) (v + 29) m1) fun m2 =>
  some m2

section CPW
variable {β : Type} {G : lu_G} {Q : β → State → Prop} {o : Option β} {ρ : Nat → Nat} {k n : Nat} {ex : va_W} {w v p x4 : Nat} {fr lo : Nat}
set_option maxRecDepth 20000 in
theorem w10_copy_65 (X : lu_X G RX10 cX10_copy 6 fr lo) (hw : w = 1 ∨ w = 37) (hv : v = 1 ∨ v = 37) (hp : p < 6) : ∀ (c : Nat) (m : lu_M), c ≤ 6 → lu_Ab lu_TC G Q o 96 [(0, .ref (ρ w)), (1, .ref (ρ v)), (2, .ref (ρ 114)), (3, .int (nI p))] [] ρ k n ex (cpL w v p c m) → lu_Ab lu_TC G Q o 65 [(5, .int (nI (6 - c))), (0, .ref (ρ w)), (1, .ref (ρ v)), (2, .ref (ρ 114)), (3, .int (nI p)), (4, .ref x4)] [] ρ k n ex m := by
  intro c
  induction c with
  | zero =>
    intro m _ kk
    refine lu_iload X dX10_copy_65 (pc2 := 67) rfl 0 rfl ?_
    refine lu_bipush X dX10_copy_67 (pc2 := 69) rfl bp_6 ?_
    refine lu_geT (tgt := 96) X (by decide) dX10_copy_69 (by decide) ?_
    exact lu_sub [1, 2, 3, 4] rfl kk
  | succ c ih =>
    intro m hc kk
    have hj : 5 - c < 6 := by omega
    rw [show 6 - (c + 1) = 5 - c by omega]
    refine lu_iload X dX10_copy_65 (pc2 := 67) rfl 0 rfl ?_
    refine lu_bipush X dX10_copy_67 (pc2 := 69) rfl bp_6 ?_
    refine lu_geF (tgt := 96) X (cp_n6 _ hj) dX10_copy_69 (pc2 := 72) rfl (by decide) ?_
    refine lu_aload_n X dX10_copy_72 (pc2 := 73) rfl rfl 1 rfl ?_
    refine lu_getr (r2 := w + 21) X rfl fl10_52 rfl (kW0 hw) (lW0 hw) dX10_copy_73 (pc2 := 76) rfl ?_
    refine lu_iload_n X dX10_copy_76 (pc2 := 77) rfl rfl 4 rfl ?_
    refine lu_aaldE X (t := 3) (cp_i6 _ hp) rfl rfl (by decide) (by decide) (kW (x := (3, 6, 6)) hw rfl rfl) (lW hw (by decide)) dX10_copy_77 (pc2 := 78) rfl ?_
    refine lu_iload X dX10_copy_78 (pc2 := 80) rfl 0 rfl ?_
    refine lu_aload_n X dX10_copy_80 (pc2 := 81) rfl rfl 2 rfl ?_
    refine lu_getr (r2 := v + 21) X rfl fl10_52 rfl (kW0 hv) (lW0 hv) dX10_copy_81 (pc2 := 84) rfl ?_
    refine lu_iload_n X dX10_copy_84 (pc2 := 85) rfl rfl 4 rfl ?_
    refine lu_aaldE X (t := 3) (cp_i6 _ hp) rfl rfl (by decide) (by decide) (kW (x := (3, 6, 6)) hv rfl rfl) (lW hv (by decide)) dX10_copy_85 (pc2 := 86) rfl ?_
    refine lu_iload X dX10_copy_86 (pc2 := 88) rfl 0 rfl ?_
    refine lu_ialdK X (cp_i6 _ hj) (kWl hv hp) (by show _ < 115; omega) dX10_copy_88 (pc2 := 89) rfl ?_
    refine lu_iastE X (cp_i6 _ hj) (kWl hw hp) (by show _ < 115; omega) dX10_copy_89 (pc2 := 90) rfl ?_
    refine lu_iinc (lv2 := [(5, .int (nI (6 - c))), (0, .ref (ρ w)), (1, .ref (ρ v)), (2, .ref (ρ 114)), (3, .int (nI p)), (4, .ref x4)]) X dX10_copy_90 (pc2 := 93) rfl 0 rfl (by rw [cp_up _ (by omega), show 5 - c + 1 = 6 - c by omega]) (by decide) rfl ?_
    refine lu_goto (tgt := 65) X dX10_copy_93 (by decide) ?_
    exact ih _ (by omega) kk
set_option maxRecDepth 20000 in
theorem w10_copy_10 (X : lu_X G RX10 cX10_copy 6 5 119) (hw : w = 1 ∨ w = 37) (hv : v = 1 ∨ v = 37) (hRc : (lu_R G).cells = 6) (hRs : (lu_R G).slots = 36) {ρ0 : Nat → Nat} : ∀ (c : Nat) (ρ : Nat → Nat) (k n : Nat) (m : lu_M), c ≤ 6 → lu_kept ρ0 ρ → k + c ≤ 6 → n + 6 * c ≤ 36 → (∀ (ρ' : Nat → Nat) (k' n' : Nat), lu_kept ρ0 ρ' → k' ≤ 6 → n' ≤ 36 → lu_Ab lu_TC G Q o 102 [(0, .ref (ρ' w)), (1, .ref (ρ' v))] [] ρ' k' n' [] (cpH w v c m)) → lu_Ab lu_TC G Q o 10 [(3, .int (nI (6 - c))), (0, .ref (ρ w)), (1, .ref (ρ v)), (2, .ref (ρ 114))] [] ρ k n [] m := by
  intro c
  induction c with
  | zero =>
    intro ρ k n m _ hk0 hk hn kk
    refine lu_iload_n X dX10_copy_10 (pc2 := 11) rfl rfl 0 rfl ?_
    refine lu_bipush X dX10_copy_11 (pc2 := 13) rfl bp_6 ?_
    refine lu_geT (tgt := 102) X (by decide) dX10_copy_13 (by decide) ?_
    exact lu_sub [1, 2] rfl (kk ρ k n hk0 (by omega) (by omega))
  | succ c ih =>
    intro ρ k n m hc hk0 hk hn kk
    have hj : 5 - c < 6 := by omega
    rw [show 6 - (c + 1) = 5 - c by omega]
    refine lu_iload_n X dX10_copy_10 (pc2 := 11) rfl rfl 0 rfl ?_
    refine lu_bipush X dX10_copy_11 (pc2 := 13) rfl bp_6 ?_
    refine lu_geF (tgt := 102) X (cp_n6 _ hj) dX10_copy_13 (pc2 := 16) rfl (by decide) ?_
    refine lu_aload_n X dX10_copy_16 (pc2 := 17) rfl rfl 2 rfl ?_
    refine lu_getr (r2 := v + 1) X rfl fl10_11 rfl (kW0 hv) (lW0 hv) dX10_copy_17 (pc2 := 20) rfl ?_
    refine lu_iload_n X dX10_copy_20 (pc2 := 21) rfl rfl 0 rfl ?_
    refine lu_aaldE X (t := 1) (cp_i6 _ hj) rfl rfl (by decide) (by decide) (kW (x := (1, 6, 0)) hv rfl rfl) (lW hv (by decide)) dX10_copy_21 (pc2 := 22) rfl ?_
    refine lu_astore (lv2 := [(4, .ref (ρ (v + 1 + 1 + (5 - c)))), (3, .int (nI (5 - c))), (0, .ref (ρ w)), (1, .ref (ρ v)), (2, .ref (ρ 114))]) X dX10_copy_22 (pc2 := 24) rfl (by decide) rfl ?_
    have hrh : v + 1 + 1 + (5 - c) < lu_TC.1 := by show _ < 115; omega
    refine lu_aload_n X dX10_copy_24 (pc2 := 25) rfl rfl 2 rfl ?_
    refine lu_getr (r2 := w + 1) X rfl fl10_11 rfl (kW0 hw) (lW0 hw) dX10_copy_25 (pc2 := 28) rfl ?_
    refine lu_iload_n X dX10_copy_28 (pc2 := 29) rfl rfl 1 rfl ?_
    refine lu_aload X dX10_copy_29 (pc2 := 31) rfl 0 rfl ?_
    refine lu_get X fl10_75 rfl (kWh hv hj) hrh dX10_copy_31 (pc2 := 34) rfl ?_
    refine lu_iload_n X dX10_copy_34 (pc2 := 35) rfl rfl 1 rfl ?_
    refine lu_aload X dX10_copy_35 (pc2 := 37) rfl 0 rfl ?_
    refine lu_get X fl10_78 rfl (kWh hv hj) hrh dX10_copy_37 (pc2 := 40) rfl ?_
    refine lu_aload X dX10_copy_40 (pc2 := 42) rfl 0 rfl ?_
    refine lu_get X fl10_81 rfl (kWh hv hj) hrh dX10_copy_42 (pc2 := 45) rfl ?_
    refine lu_aload_n X dX10_copy_45 (pc2 := 46) rfl rfl 4 rfl ?_
    refine lu_made X (Or.inr (by decide +kernel)) (Nat.le_of_ble_eq_true rfl) (Nat.le_of_ble_eq_true rfl) (Nat.le_of_ble_eq_true rfl) (by rw [hRc, hRs]; omega) dX10_copy_46 (pc2 := 49) rfl rfl (fun a => ?_)
    refine lu_gdT (cp_ib hj) ?_
    refine lu_aast (r := w + 1) (ex0 := []) X (kW (x := (1, 6, 0)) hw rfl rfl) (lW hw (by decide)) (by show _ ≤ 115; omega) (fun p hp => ⟨_, kWh hw hp⟩) (kWhit hw) (by omega) dX10_copy_49 (pc2 := 50) rfl rfl (fun ρ' hρ hi => ?_)
    rw [cp_cl hj] at hρ ⊢
    have hkp := kWkept hw hj hρ
    rw [← hkp w (kWk hw), ← hkp v (kWk hv), ← hkp 114 rfl]
    refine lu_drop ?_
    generalize ρ (v + 1 + 1 + (5 - c)) = x4
    refine lu_aload_n X dX10_copy_50 (pc2 := 51) rfl rfl 2 rfl ?_
    refine lu_getr (r2 := w + 13) X rfl fl10_37 rfl (kW0 hw) (lW0 hw) dX10_copy_51 (pc2 := 54) rfl ?_
    refine lu_iload_n X dX10_copy_54 (pc2 := 55) rfl rfl 1 rfl ?_
    refine lu_aload_n X dX10_copy_55 (pc2 := 56) rfl rfl 3 rfl ?_
    refine lu_getr (r2 := v + 13) X rfl fl10_37 rfl (kW0 hv) (lW0 hv) dX10_copy_56 (pc2 := 59) rfl ?_
    refine lu_iload_n X dX10_copy_59 (pc2 := 60) rfl rfl 1 rfl ?_
    refine lu_ialdK X (cp_i6 _ hj) (kW (x := (0, 6, 0)) hv rfl rfl) (lW hv (by decide)) dX10_copy_60 (pc2 := 61) rfl ?_
    refine lu_iastE X (cp_i6 _ hj) (kW (x := (0, 6, 0)) hw rfl rfl) (lW hw (by decide)) dX10_copy_61 (pc2 := 62) rfl ?_
    refine lu_iconst X dX10_copy_62 (pc2 := 63) rfl ic_0 ?_
    refine lu_istore (lv2 := [(5, .int (nI (6 - 6))), (4, .ref x4), (3, .int (nI (5 - c))), (0, .ref (ρ' w)), (1, .ref (ρ' v)), (2, .ref (ρ' 114))]) X dX10_copy_63 (pc2 := 65) rfl (by decide) rfl ?_
    refine lu_sub [0, 3, 4, 5, 2, 1] rfl (w10_copy_65 X hw hv hj 6 _ (by omega) ?_)
    refine lu_iinc (lv2 := [(3, .int (nI (6 - c))), (0, .ref (ρ' w)), (1, .ref (ρ' v)), (2, .ref (ρ' 114))]) X dX10_copy_96 (pc2 := 99) rfl 3 rfl (by rw [cp_up _ (by omega), show 5 - c + 1 = 6 - c by omega]) (by decide) rfl ?_
    refine lu_goto (tgt := 10) X dX10_copy_99 (by decide) ?_
    exact ih ρ' (k + 1) (n + 6) _ (by omega) (hk0.trans hkp) (by omega) (by omega) kk
set_option maxRecDepth 20000 in
theorem w10_copy_112 (X : lu_X G RX10 cX10_copy 6 fr lo) (hw : w = 1 ∨ w = 37) (hv : v = 1 ∨ v = 37) : ∀ (c : Nat) (m : lu_M), c ≤ 10 → lu_Ab lu_TC G Q o 184 [(0, .ref (ρ w)), (1, .ref (ρ v))] [] ρ k n ex (cpD w v c m) → lu_Ab lu_TC G Q o 112 [(3, .int (nI (10 - c))), (0, .ref (ρ w)), (1, .ref (ρ v))] [] ρ k n ex m := by
  intro c
  induction c with
  | zero =>
    intro m _ kk
    refine lu_iload_n X dX10_copy_112 (pc2 := 113) rfl rfl 0 rfl ?_
    refine lu_bipush X dX10_copy_113 (pc2 := 115) rfl bp_10 ?_
    refine lu_geT (tgt := 184) X (by decide) dX10_copy_115 (by decide) ?_
    exact lu_sub [1, 2] rfl kk
  | succ c ih =>
    intro m hc kk
    have hj : 9 - c < 10 := by omega
    rw [show 10 - (c + 1) = 9 - c by omega]
    refine lu_iload_n X dX10_copy_112 (pc2 := 113) rfl rfl 0 rfl ?_
    refine lu_bipush X dX10_copy_113 (pc2 := 115) rfl bp_10 ?_
    refine lu_geF (tgt := 184) X (cp_n10 _ hj) dX10_copy_115 (pc2 := 118) rfl (by decide) ?_
    refine lu_aload_n X dX10_copy_118 (pc2 := 119) rfl rfl 1 rfl ?_
    refine lu_getr (r2 := w + 8) X rfl fl10_21 rfl (kW0 hw) (lW0 hw) dX10_copy_119 (pc2 := 122) rfl ?_
    refine lu_iload_n X dX10_copy_122 (pc2 := 123) rfl rfl 0 rfl ?_
    refine lu_aload_n X dX10_copy_123 (pc2 := 124) rfl rfl 2 rfl ?_
    refine lu_getr (r2 := v + 8) X rfl fl10_21 rfl (kW0 hv) (lW0 hv) dX10_copy_124 (pc2 := 127) rfl ?_
    refine lu_iload_n X dX10_copy_127 (pc2 := 128) rfl rfl 0 rfl ?_
    refine lu_ialdK X (cp_i10 _ hj) (kW (x := (0, 10, 0)) hv rfl rfl) (lW hv (by decide)) dX10_copy_128 (pc2 := 129) rfl ?_
    refine lu_iastE X (cp_i10 _ hj) (kW (x := (0, 10, 0)) hw rfl rfl) (lW hw (by decide)) dX10_copy_129 (pc2 := 130) rfl ?_
    refine lu_aload_n X dX10_copy_130 (pc2 := 131) rfl rfl 1 rfl ?_
    refine lu_getr (r2 := w + 9) X rfl fl10_25 rfl (kW0 hw) (lW0 hw) dX10_copy_131 (pc2 := 134) rfl ?_
    refine lu_iload_n X dX10_copy_134 (pc2 := 135) rfl rfl 0 rfl ?_
    refine lu_aload_n X dX10_copy_135 (pc2 := 136) rfl rfl 2 rfl ?_
    refine lu_getr (r2 := v + 9) X rfl fl10_25 rfl (kW0 hv) (lW0 hv) dX10_copy_136 (pc2 := 139) rfl ?_
    refine lu_iload_n X dX10_copy_139 (pc2 := 140) rfl rfl 0 rfl ?_
    refine lu_ialdK X (cp_i10 _ hj) (kW (x := (0, 10, 0)) hv rfl rfl) (lW hv (by decide)) dX10_copy_140 (pc2 := 141) rfl ?_
    refine lu_iastE X (cp_i10 _ hj) (kW (x := (0, 10, 0)) hw rfl rfl) (lW hw (by decide)) dX10_copy_141 (pc2 := 142) rfl ?_
    refine lu_aload_n X dX10_copy_142 (pc2 := 143) rfl rfl 1 rfl ?_
    refine lu_getr (r2 := w + 10) X rfl fl10_28 rfl (kW0 hw) (lW0 hw) dX10_copy_143 (pc2 := 146) rfl ?_
    refine lu_iload_n X dX10_copy_146 (pc2 := 147) rfl rfl 0 rfl ?_
    refine lu_aload_n X dX10_copy_147 (pc2 := 148) rfl rfl 2 rfl ?_
    refine lu_getr (r2 := v + 10) X rfl fl10_28 rfl (kW0 hv) (lW0 hv) dX10_copy_148 (pc2 := 151) rfl ?_
    refine lu_iload_n X dX10_copy_151 (pc2 := 152) rfl rfl 0 rfl ?_
    refine lu_ialdK X (cp_i10 _ hj) (kW (x := (0, 10, 0)) hv rfl rfl) (lW hv (by decide)) dX10_copy_152 (pc2 := 153) rfl ?_
    refine lu_iastE X (cp_i10 _ hj) (kW (x := (0, 10, 0)) hw rfl rfl) (lW hw (by decide)) dX10_copy_153 (pc2 := 154) rfl ?_
    refine lu_aload_n X dX10_copy_154 (pc2 := 155) rfl rfl 1 rfl ?_
    refine lu_getr (r2 := w + 11) X rfl fl10_31 rfl (kW0 hw) (lW0 hw) dX10_copy_155 (pc2 := 158) rfl ?_
    refine lu_iload_n X dX10_copy_158 (pc2 := 159) rfl rfl 0 rfl ?_
    refine lu_aload_n X dX10_copy_159 (pc2 := 160) rfl rfl 2 rfl ?_
    refine lu_getr (r2 := v + 11) X rfl fl10_31 rfl (kW0 hv) (lW0 hv) dX10_copy_160 (pc2 := 163) rfl ?_
    refine lu_iload_n X dX10_copy_163 (pc2 := 164) rfl rfl 0 rfl ?_
    refine lu_ialdK X (cp_i10 _ hj) (kW (x := (0, 10, 0)) hv rfl rfl) (lW hv (by decide)) dX10_copy_164 (pc2 := 165) rfl ?_
    refine lu_iastE X (cp_i10 _ hj) (kW (x := (0, 10, 0)) hw rfl rfl) (lW hw (by decide)) dX10_copy_165 (pc2 := 166) rfl ?_
    refine lu_aload_n X dX10_copy_166 (pc2 := 167) rfl rfl 1 rfl ?_
    refine lu_getr (r2 := w + 12) X rfl fl10_34 rfl (kW0 hw) (lW0 hw) dX10_copy_167 (pc2 := 170) rfl ?_
    refine lu_iload_n X dX10_copy_170 (pc2 := 171) rfl rfl 0 rfl ?_
    refine lu_aload_n X dX10_copy_171 (pc2 := 172) rfl rfl 2 rfl ?_
    refine lu_getr (r2 := v + 12) X rfl fl10_34 rfl (kW0 hv) (lW0 hv) dX10_copy_172 (pc2 := 175) rfl ?_
    refine lu_iload_n X dX10_copy_175 (pc2 := 176) rfl rfl 0 rfl ?_
    refine lu_ialdK X (cp_i10 _ hj) (kW (x := (0, 10, 0)) hv rfl rfl) (lW hv (by decide)) dX10_copy_176 (pc2 := 177) rfl ?_
    refine lu_iastE X (cp_i10 _ hj) (kW (x := (0, 10, 0)) hw rfl rfl) (lW hw (by decide)) dX10_copy_177 (pc2 := 178) rfl ?_
    refine lu_iinc (lv2 := [(3, .int (nI (10 - c))), (0, .ref (ρ w)), (1, .ref (ρ v))]) X dX10_copy_178 (pc2 := 181) rfl 0 rfl (by rw [cp_up _ (by omega), show 9 - c + 1 = 10 - c by omega]) (by decide) rfl ?_
    refine lu_goto (tgt := 112) X dX10_copy_181 (by decide) ?_
    exact ih _ (by omega) kk
set_option maxRecDepth 20000 in
theorem w10_copy_219 (X : lu_X G RX10 cX10_copy 6 fr lo) (hw : w = 1 ∨ w = 37) (hv : v = 1 ∨ v = 37) (hp : p < 6) : ∀ (c : Nat) (m : lu_M), c ≤ 4 → lu_Ab lu_TC G Q o 249 [(3, .int (nI p)), (0, .ref (ρ w)), (1, .ref (ρ v))] [] ρ k n ex (cpT w v p c m) → lu_Ab lu_TC G Q o 219 [(4, .int (nI (4 - c))), (3, .int (nI p)), (0, .ref (ρ w)), (1, .ref (ρ v))] [] ρ k n ex m := by
  intro c
  induction c with
  | zero =>
    intro m _ kk
    refine lu_iload X dX10_copy_219 (pc2 := 221) rfl 0 rfl ?_
    refine lu_iconst X dX10_copy_221 (pc2 := 222) rfl ic_4 ?_
    refine lu_geT (tgt := 249) X (by decide) dX10_copy_222 (by decide) ?_
    exact lu_sub [1, 2, 3] rfl kk
  | succ c ih =>
    intro m hc kk
    have hj : 3 - c < 4 := by omega
    rw [show 4 - (c + 1) = 3 - c by omega]
    refine lu_iload X dX10_copy_219 (pc2 := 221) rfl 0 rfl ?_
    refine lu_iconst X dX10_copy_221 (pc2 := 222) rfl ic_4 ?_
    refine lu_geF (tgt := 249) X (cp_n4 _ hj) dX10_copy_222 (pc2 := 225) rfl (by decide) ?_
    refine lu_aload_n X dX10_copy_225 (pc2 := 226) rfl rfl 2 rfl ?_
    refine lu_getr (r2 := w + 14) X rfl fl10_49 rfl (kW0 hw) (lW0 hw) dX10_copy_226 (pc2 := 229) rfl ?_
    refine lu_iload_n X dX10_copy_229 (pc2 := 230) rfl rfl 1 rfl ?_
    refine lu_aaldE X (t := 3) (cp_i6 _ hp) rfl rfl (by decide) (by decide) (kW (x := (3, 6, 4)) hw rfl rfl) (lW hw (by decide)) dX10_copy_230 (pc2 := 231) rfl ?_
    refine lu_iload X dX10_copy_231 (pc2 := 233) rfl 0 rfl ?_
    refine lu_aload_n X dX10_copy_233 (pc2 := 234) rfl rfl 3 rfl ?_
    refine lu_getr (r2 := v + 14) X rfl fl10_49 rfl (kW0 hv) (lW0 hv) dX10_copy_234 (pc2 := 237) rfl ?_
    refine lu_iload_n X dX10_copy_237 (pc2 := 238) rfl rfl 1 rfl ?_
    refine lu_aaldE X (t := 3) (cp_i6 _ hp) rfl rfl (by decide) (by decide) (kW (x := (3, 6, 4)) hv rfl rfl) (lW hv (by decide)) dX10_copy_238 (pc2 := 239) rfl ?_
    refine lu_iload X dX10_copy_239 (pc2 := 241) rfl 0 rfl ?_
    refine lu_ialdK X (cp_i4 _ hj) (kWt hv hp) (by show _ < 115; omega) dX10_copy_241 (pc2 := 242) rfl ?_
    refine lu_iastE X (cp_i4 _ hj) (kWt hw hp) (by show _ < 115; omega) dX10_copy_242 (pc2 := 243) rfl ?_
    refine lu_iinc (lv2 := [(4, .int (nI (4 - c))), (3, .int (nI p)), (0, .ref (ρ w)), (1, .ref (ρ v))]) X dX10_copy_243 (pc2 := 246) rfl 0 rfl (by rw [cp_up _ (by omega), show 3 - c + 1 = 4 - c by omega]) (by decide) rfl ?_
    refine lu_goto (tgt := 219) X dX10_copy_246 (by decide) ?_
    exact ih _ (by omega) kk
set_option maxRecDepth 20000 in
theorem w10_copy_210 (X : lu_X G RX10 cX10_copy 6 fr lo) (hw : w = 1 ∨ w = 37) (hv : v = 1 ∨ v = 37) : ∀ (c : Nat) (m : lu_M), c ≤ 6 → lu_Ab lu_TC G Q o 255 [(0, .ref (ρ w)), (1, .ref (ρ v))] [] ρ k n ex (cpTT w v c m) → lu_Ab lu_TC G Q o 210 [(3, .int (nI (6 - c))), (0, .ref (ρ w)), (1, .ref (ρ v))] [] ρ k n ex m := by
  intro c
  induction c with
  | zero =>
    intro m _ kk
    refine lu_iload_n X dX10_copy_210 (pc2 := 211) rfl rfl 0 rfl ?_
    refine lu_bipush X dX10_copy_211 (pc2 := 213) rfl bp_6 ?_
    refine lu_geT (tgt := 255) X (by decide) dX10_copy_213 (by decide) ?_
    exact lu_sub [1, 2] rfl kk
  | succ c ih =>
    intro m hc kk
    have hj : 5 - c < 6 := by omega
    rw [show 6 - (c + 1) = 5 - c by omega]
    refine lu_iload_n X dX10_copy_210 (pc2 := 211) rfl rfl 0 rfl ?_
    refine lu_bipush X dX10_copy_211 (pc2 := 213) rfl bp_6 ?_
    refine lu_geF (tgt := 255) X (cp_n6 _ hj) dX10_copy_213 (pc2 := 216) rfl (by decide) ?_
    refine lu_iconst X dX10_copy_216 (pc2 := 217) rfl ic_0 ?_
    refine lu_istore (lv2 := [(4, .int (nI (4 - 4))), (3, .int (nI (5 - c))), (0, .ref (ρ w)), (1, .ref (ρ v))]) X dX10_copy_217 (pc2 := 219) rfl (by decide) rfl ?_
    refine w10_copy_219 X hw hv hj 4 _ (by omega) ?_
    refine lu_iinc (lv2 := [(3, .int (nI (6 - c))), (0, .ref (ρ w)), (1, .ref (ρ v))]) X dX10_copy_249 (pc2 := 252) rfl 0 rfl (by rw [cp_up _ (by omega), show 5 - c + 1 = 6 - c by omega]) (by decide) rfl ?_
    refine lu_goto (tgt := 210) X dX10_copy_252 (by decide) ?_
    exact ih _ (by omega) kk
end CPW
set_option maxRecDepth 20000 in
theorem c10_copy (l : Launch) {w v : Nat} (hw : w = 1 ∨ w = 37) (hv : v = 1 ∨ v = 37) : lu_C2 lu_TC l yX10_copy cX10_copy 6 none 5 119 6 36 (fun ρ sa => [.ref (ρ w), .ref (ρ v), .ref (ρ 114)]) (f10_copy w v) lu_RVv lu_id := by
  refine lu_met2 (cls := RX10) rfl (by decide +kernel) (fun _ _ => Nat.le_of_ble_eq_true rfl) ?_
  intro G ρ m hl X hret hRc hRs
  subst hl
  change lu_Ab lu_TC G (lu_Q2 lu_TC G ρ 6 36 lu_RVv lu_id) (f10_copy w v m) 0 [(0, .ref (ρ w)), (1, .ref (ρ v)), (2, .ref (ρ 114))] [] ρ 0 0 [] m
  unfold f10_copy
  refine lu_aload_n X dX10_copy_0 (pc2 := 1) rfl rfl 0 rfl ?_
  refine lu_aload_n X dX10_copy_1 (pc2 := 2) rfl rfl 1 rfl ?_
  refine lu_get X fl10_72 rfl (kW0 hv) (lW0 hv) dX10_copy_2 (pc2 := 5) rfl ?_
  refine lu_putG (ty := .int) X fl10_72 rfl (Or.inl (by decide)) rfl (by decide +kernel) rfl rfl (kW0 hw) (lW0 hw) dX10_copy_5 (pc2 := 8) rfl ?_
  refine lu_iconst X dX10_copy_8 (pc2 := 9) rfl ic_0 ?_
  refine lu_istore_n (lv2 := [(3, .int (nI (6 - 6))), (0, .ref (ρ w)), (1, .ref (ρ v)), (2, .ref (ρ 114))]) X dX10_copy_9 (pc2 := 10) rfl rfl (by decide) rfl ?_
  refine w10_copy_10 X hw hv hRc hRs 6 ρ 0 0 _ (Nat.le_refl _) (lu_kept.refl ρ) (by decide) (by decide) (fun ρ' k n hkp hk hn => ?_)
  refine lu_aload_n X dX10_copy_102 (pc2 := 103) rfl rfl 0 rfl ?_
  refine lu_aload_n X dX10_copy_103 (pc2 := 104) rfl rfl 1 rfl ?_
  refine lu_get X fl10_84 rfl (kW0 hv) (lW0 hv) dX10_copy_104 (pc2 := 107) rfl ?_
  refine lu_putG (ty := .int) X fl10_84 rfl (Or.inl (by decide)) rfl (by decide +kernel) rfl rfl (kW0 hw) (lW0 hw) dX10_copy_107 (pc2 := 110) rfl ?_
  refine lu_iconst X dX10_copy_110 (pc2 := 111) rfl ic_0 ?_
  refine lu_istore_n (lv2 := [(3, .int (nI (10 - 10))), (0, .ref (ρ' w)), (1, .ref (ρ' v))]) X dX10_copy_111 (pc2 := 112) rfl rfl (by decide) rfl ?_
  refine w10_copy_112 X hw hv 10 _ (Nat.le_refl _) ?_
  refine lu_aload_n X dX10_copy_184 (pc2 := 185) rfl rfl 0 rfl ?_
  refine lu_aload_n X dX10_copy_185 (pc2 := 186) rfl rfl 1 rfl ?_
  refine lu_get X fl10_40 rfl (kW0 hv) (lW0 hv) dX10_copy_186 (pc2 := 189) rfl ?_
  refine lu_putG (ty := .int) X fl10_40 rfl (Or.inl (by decide)) rfl (by decide +kernel) rfl rfl (kW0 hw) (lW0 hw) dX10_copy_189 (pc2 := 192) rfl ?_
  refine lu_aload_n X dX10_copy_192 (pc2 := 193) rfl rfl 0 rfl ?_
  refine lu_aload_n X dX10_copy_193 (pc2 := 194) rfl rfl 1 rfl ?_
  refine lu_get X fl10_44 rfl (kW0 hv) (lW0 hv) dX10_copy_194 (pc2 := 197) rfl ?_
  refine lu_putG (ty := .int) X fl10_44 rfl (Or.inl (by decide)) rfl (by decide +kernel) rfl rfl (kW0 hw) (lW0 hw) dX10_copy_197 (pc2 := 200) rfl ?_
  refine lu_aload_n X dX10_copy_200 (pc2 := 201) rfl rfl 0 rfl ?_
  refine lu_aload_n X dX10_copy_201 (pc2 := 202) rfl rfl 1 rfl ?_
  refine lu_get X fl10_87 rfl (kW0 hv) (lW0 hv) dX10_copy_202 (pc2 := 205) rfl ?_
  refine lu_putG (ty := .int) X fl10_87 rfl (Or.inl (by decide)) rfl (by decide +kernel) rfl rfl (kW0 hw) (lW0 hw) dX10_copy_205 (pc2 := 208) rfl ?_
  refine lu_iconst X dX10_copy_208 (pc2 := 209) rfl ic_0 ?_
  refine lu_istore_n (lv2 := [(3, .int (nI (6 - 6))), (0, .ref (ρ' w)), (1, .ref (ρ' v))]) X dX10_copy_209 (pc2 := 210) rfl rfl (by decide) rfl ?_
  refine w10_copy_210 X hw hv 6 _ (Nat.le_refl _) ?_
  change lu_Ab lu_TC G (lu_Q2 lu_TC G ρ 6 36 lu_RVv lu_id) _ 255 [(0, .ref (ρ' w)), (1, .ref (ρ' v))] [] ρ' k n [] (cpAll w v m)
  have hkR : k ≤ (lu_R G).cells ∧ n ≤ (lu_R G).slots := by rw [hRc, hRs]; exact ⟨hk, hn⟩
  refine lu_aload_n X dX10_copy_255 (pc2 := 256) rfl rfl 0 rfl ?_
  refine lu_getr (r2 := w + 28) X rfl fl10_58 rfl (kW0 hw) (lW0 hw) dX10_copy_256 (pc2 := 259) rfl ?_
  refine lu_aload_n X dX10_copy_259 (pc2 := 260) rfl rfl 1 rfl ?_
  refine lu_getr (r2 := v + 28) X rfl fl10_58 rfl (kW0 hv) (lW0 hv) dX10_copy_260 (pc2 := 263) rfl ?_
  have k1 : lu_TC.2 (w + 28) = (6, 0, 0) := kW hw rfl rfl
  have k2 : lu_TC.2 (v + 28) = (6, 0, 0) := kW hv rfl rfl
  have k3 : lu_TC.2 (w + 29) = (7, 0, 0) := kW hw rfl rfl
  have k4 : lu_TC.2 (v + 29) = (7, 0, 0) := kW hv rfl rfl
  refine lu_invVv X (c1_copy _ k1 (lW hw (by decide)) k2 (lW hv (by decide))) rfl hw_c90 mvV_1_copy k1 (lW hw (by decide)) (by decide) ⟨_, rfl, rfl⟩ rfl rfl (Nat.le_of_ble_eq_true rfl) (Nat.le_of_ble_eq_true rfl) (Nat.le_of_ble_eq_true rfl) hkR dX10_copy_263 (pc2 := 266) rfl rfl (fun m1 => ?_)
  refine lu_aload_n X dX10_copy_266 (pc2 := 267) rfl rfl 0 rfl ?_
  refine lu_getr (r2 := w + 29) X rfl fl10_65 rfl (kW0 hw) (lW0 hw) dX10_copy_267 (pc2 := 270) rfl ?_
  refine lu_aload_n X dX10_copy_270 (pc2 := 271) rfl rfl 1 rfl ?_
  refine lu_getr (r2 := v + 29) X rfl fl10_65 rfl (kW0 hv) (lW0 hv) dX10_copy_271 (pc2 := 274) rfl ?_
  refine lu_invVv X (c6_copy _ k3 (lW hw (by decide)) k4 (lW hv (by decide))) rfl hw_c94 mvV_6_copy k3 (lW hw (by decide)) (by decide) ⟨_, rfl, rfl⟩ rfl rfl (Nat.le_of_ble_eq_true rfl) (Nat.le_of_ble_eq_true rfl) (Nat.le_of_ble_eq_true rfl) hkR dX10_copy_274 (pc2 := 277) rfl rfl (fun m2 => ?_)
  exact lu_vret2 X hret hkp hk hn dX10_copy_277
def f11_keep (m : lu_M) : Option (Int32 × lu_M) :=
  lu_bv (f10_copy 37 1 m) fun m1 =>
  some ((1 : Int32), lu_st m1 0 2 (1 : Int32))
set_option maxRecDepth 20000 in
theorem c11_keep (l : Launch) : lu_C2 lu_TC l yX11_keep cX11_keep 1 (some .int) 6 144 6 36 (fun ρ sa => [.ref (ρ 0)]) f11_keep lu_RVi lu_sn := by
  refine lu_met2 (cls := RX11) rfl (by decide +kernel) (fun _ _ => Nat.le_of_ble_eq_true rfl) ?_
  intro G ρ m hl X hret hRc hRs
  subst hl
  have hk1 : 0 + 6 ≤ (lu_R G).cells ∧ 0 + 36 ≤ (lu_R G).slots := by rw [hRc, hRs]; exact ⟨Nat.le_refl _, Nat.le_refl _⟩
  change lu_Ab lu_TC G (lu_Q2 lu_TC G ρ 6 36 lu_RVi lu_sn) (f11_keep m) 0 [(0, .ref (ρ 0))] [] ρ 0 0 [] m
  unfold f11_keep
  refine lu_aload_n X dX11_keep_0 (pc2 := 1) rfl rfl 0 rfl ?_
  refine lu_getr (r2 := 37) X rfl fl11_22 rfl kC_0 lC_0 dX11_keep_1 (pc2 := 4) rfl ?_
  refine lu_aload_n X dX11_keep_4 (pc2 := 5) rfl rfl 0 rfl ?_
  refine lu_getr (r2 := 1) X rfl fl11_18 rfl kC_0 lC_0 dX11_keep_5 (pc2 := 8) rfl ?_
  refine lu_aload_n X dX11_keep_8 (pc2 := 9) rfl rfl 0 rfl ?_
  refine lu_getr (r2 := 114) X rfl fl11_9 rfl kC_0 lC_0 dX11_keep_9 (pc2 := 12) rfl ?_
  refine lu_invV2 X (c10_copy _ (w := 37) (v := 1) (Or.inr rfl) (Or.inl rfl)) rfl hw_c325 mvV_10_copy kC_37 lC_37 (by decide) ⟨_, rfl, rfl⟩ rfl rfl (Nat.le_of_ble_eq_true rfl) (Nat.le_of_ble_eq_true rfl) (Nat.le_of_ble_eq_true rfl) hk1 dX11_keep_12 (pc2 := 15) rfl rfl (fun ρ' m1 hkp => ?_)
  rw [← hkp 0 rfl]
  refine lu_aload_n X dX11_keep_15 (pc2 := 16) rfl rfl 0 rfl ?_
  refine lu_iconst X dX11_keep_16 (pc2 := 17) rfl ic_1 ?_
  refine lu_putG (ty := .boolean) X fl11_25 rfl (Or.inl (by decide)) rfl (by decide +kernel) rfl rfl kC_0 lC_0 dX11_keep_17 (pc2 := 20) rfl ?_
  refine lu_iconst X dX11_keep_20 (pc2 := 21) rfl ic_1 ?_
  exact lu_iret2 X hret hkp (Nat.le_refl _) (Nat.le_refl _) dX11_keep_21
def f11_again (m : lu_M) : Option (Int32 × lu_M) :=
  if (m 0 2) = 0 then (some ((-3 : Int32), m))
  else (lu_bv (f10_copy 1 37 m) fun m1 =>
  some ((m1 1 0), m1))
set_option maxRecDepth 20000 in
theorem c11_again (l : Launch) : lu_C2 lu_TC l yX11_again cX11_again 1 (some .int) 6 144 6 36 (fun ρ sa => [.ref (ρ 0)]) f11_again lu_RVi lu_sn := by
  refine lu_met2 (cls := RX11) rfl (by decide +kernel) (fun _ _ => Nat.le_of_ble_eq_true rfl) ?_
  intro G ρ m hl X hret hRc hRs
  subst hl
  have hk1 : 0 + 6 ≤ (lu_R G).cells ∧ 0 + 36 ≤ (lu_R G).slots := by rw [hRc, hRs]; exact ⟨Nat.le_refl _, Nat.le_refl _⟩
  change lu_Ab lu_TC G (lu_Q2 lu_TC G ρ 6 36 lu_RVi lu_sn) (f11_again m) 0 [(0, .ref (ρ 0))] [] ρ 0 0 [] m
  unfold f11_again
  refine lu_aload_n X dX11_again_0 (pc2 := 1) rfl rfl 0 rfl ?_
  refine lu_get X fl11_25 rfl kC_0 lC_0 dX11_again_1 (pc2 := 4) rfl ?_
  refine lu_if_ne (tgt := 10) X dX11_again_4 (pc2 := 7) rfl (by decide) (fun _ => ?_) (fun _ => ?_)
  · refine lu_aload_n X dX11_again_10 (pc2 := 11) rfl rfl 0 rfl ?_
    refine lu_getr (r2 := 1) X rfl fl11_18 rfl kC_0 lC_0 dX11_again_11 (pc2 := 14) rfl ?_
    refine lu_aload_n X dX11_again_14 (pc2 := 15) rfl rfl 0 rfl ?_
    refine lu_getr (r2 := 37) X rfl fl11_22 rfl kC_0 lC_0 dX11_again_15 (pc2 := 18) rfl ?_
    refine lu_aload_n X dX11_again_18 (pc2 := 19) rfl rfl 0 rfl ?_
    refine lu_getr (r2 := 114) X rfl fl11_9 rfl kC_0 lC_0 dX11_again_19 (pc2 := 22) rfl ?_
    refine lu_invV2 X (c10_copy _ (w := 1) (v := 37) (Or.inl rfl) (Or.inr rfl)) rfl hw_c325 mvV_10_copy kC_1 lC_1 (by decide) ⟨_, rfl, rfl⟩ rfl rfl (Nat.le_of_ble_eq_true rfl) (Nat.le_of_ble_eq_true rfl) (Nat.le_of_ble_eq_true rfl) hk1 dX11_again_22 (pc2 := 25) rfl rfl (fun ρ' m1 hkp => ?_)
    rw [← hkp 0 rfl]
    refine lu_aload_n X dX11_again_25 (pc2 := 26) rfl rfl 0 rfl ?_
    refine lu_getr (r2 := 1) X rfl fl11_18 rfl kC_0 lC_0 dX11_again_26 (pc2 := 29) rfl ?_
    refine lu_get X fl11_96 rfl kC_1 lC_1 dX11_again_29 (pc2 := 32) rfl ?_
    exact lu_iret2 X hret hkp (Nat.le_refl _) (Nat.le_refl _) dX11_again_32
  · refine lu_bipush X dX11_again_7 (pc2 := 9) rfl bp_m3 ?_
    exact lu_iret2 X hret (lu_kept.refl ρ) (Nat.zero_le _) (Nat.zero_le _) dX11_again_9


/-! CONSTRUCTORS of the start: LeftUndoes -/
theorem dX11_init_0 : decode cX11_init 0 = .ok (.aload_n 0, 1) := by decide +kernel
theorem dX11_init_1 : decode cX11_init 1 = .ok (.invokespecial 1, 3) := by decide +kernel
theorem dX11_init_4 : decode cX11_init 4 = .ok (.aload_n 0, 1) := by decide +kernel
theorem dX11_init_5 : decode cX11_init 5 = .ok (.bipush 31, 2) := by decide +kernel
theorem dX11_init_7 : decode cX11_init 7 = .ok (.newarray .int, 2) := by decide +kernel
theorem dX11_init_9 : decode cX11_init 9 = .ok (.putfield 9, 3) := by decide +kernel
theorem dX11_init_12 : decode cX11_init 12 = .ok (.aload_n 0, 1) := by decide +kernel
theorem dX11_init_13 : decode cX11_init 13 = .ok (.new 13, 3) := by decide +kernel
theorem dX11_init_16 : decode cX11_init 16 = .ok (.dup, 1) := by decide +kernel
theorem dX11_init_17 : decode cX11_init 17 = .ok (.aload_n 0, 1) := by decide +kernel
theorem dX11_init_18 : decode cX11_init 18 = .ok (.getfield 9, 3) := by decide +kernel
theorem dX11_init_21 : decode cX11_init 21 = .ok (.invokespecial 15, 3) := by decide +kernel
theorem dX11_init_24 : decode cX11_init 24 = .ok (.putfield 18, 3) := by decide +kernel
theorem dX11_init_27 : decode cX11_init 27 = .ok (.aload_n 0, 1) := by decide +kernel
theorem dX11_init_28 : decode cX11_init 28 = .ok (.new 13, 3) := by decide +kernel
theorem dX11_init_31 : decode cX11_init 31 = .ok (.dup, 1) := by decide +kernel
theorem dX11_init_32 : decode cX11_init 32 = .ok (.aload_n 0, 1) := by decide +kernel
theorem dX11_init_33 : decode cX11_init 33 = .ok (.getfield 9, 3) := by decide +kernel
theorem dX11_init_36 : decode cX11_init 36 = .ok (.invokespecial 15, 3) := by decide +kernel
theorem dX11_init_39 : decode cX11_init 39 = .ok (.putfield 22, 3) := by decide +kernel
theorem dX11_init_42 : decode cX11_init 42 = .ok (.aload_n 0, 1) := by decide +kernel
theorem dX11_init_43 : decode cX11_init 43 = .ok (.iconst 0, 1) := by decide +kernel
theorem dX11_init_44 : decode cX11_init 44 = .ok (.putfield 25, 3) := by decide +kernel
theorem dX11_init_47 : decode cX11_init 47 = .ok (.aload_n 0, 1) := by decide +kernel
theorem dX11_init_48 : decode cX11_init 48 = .ok (.new 29, 3) := by decide +kernel
theorem dX11_init_51 : decode cX11_init 51 = .ok (.dup, 1) := by decide +kernel
theorem dX11_init_52 : decode cX11_init 52 = .ok (.invokespecial 31, 3) := by decide +kernel
theorem dX11_init_55 : decode cX11_init 55 = .ok (.putfield 32, 3) := by decide +kernel
theorem dX11_init_58 : decode cX11_init 58 = .ok (.aload_n 0, 1) := by decide +kernel
theorem dX11_init_59 : decode cX11_init 59 = .ok (.new 36, 3) := by decide +kernel
theorem dX11_init_62 : decode cX11_init 62 = .ok (.dup, 1) := by decide +kernel
theorem dX11_init_63 : decode cX11_init 63 = .ok (.aload_n 0, 1) := by decide +kernel
theorem dX11_init_64 : decode cX11_init 64 = .ok (.getfield 18, 3) := by decide +kernel
theorem dX11_init_67 : decode cX11_init 67 = .ok (.invokespecial 38, 3) := by decide +kernel
theorem dX11_init_70 : decode cX11_init 70 = .ok (.putfield 41, 3) := by decide +kernel
theorem dX11_init_73 : decode cX11_init 73 = .ok (.aload_n 0, 1) := by decide +kernel
theorem dX11_init_74 : decode cX11_init 74 = .ok (.new 45, 3) := by decide +kernel
theorem dX11_init_77 : decode cX11_init 77 = .ok (.dup, 1) := by decide +kernel
theorem dX11_init_78 : decode cX11_init 78 = .ok (.invokespecial 47, 3) := by decide +kernel
theorem dX11_init_81 : decode cX11_init 81 = .ok (.putfield 48, 3) := by decide +kernel
theorem dX11_init_84 : decode cX11_init 84 = .ok (.aload_n 0, 1) := by decide +kernel
theorem dX11_init_85 : decode cX11_init 85 = .ok (.bipush 6, 2) := by decide +kernel
theorem dX11_init_87 : decode cX11_init 87 = .ok (.anewarray 52, 3) := by decide +kernel
theorem dX11_init_90 : decode cX11_init 90 = .ok (.putfield 54, 3) := by decide +kernel
theorem dX11_init_93 : decode cX11_init 93 = .ok (.iconst 0, 1) := by decide +kernel
theorem dX11_init_94 : decode cX11_init 94 = .ok (.istore_n 1, 1) := by decide +kernel
theorem dX11_init_95 : decode cX11_init 95 = .ok (.iload_n 1, 1) := by decide +kernel
theorem dX11_init_96 : decode cX11_init 96 = .ok (.iconst 5, 1) := by decide +kernel
theorem dX11_init_97 : decode cX11_init 97 = .ok (.if_icmp .gt 26, 3) := by decide +kernel
theorem dX11_init_100 : decode cX11_init 100 = .ok (.aload_n 0, 1) := by decide +kernel
theorem dX11_init_101 : decode cX11_init 101 = .ok (.getfield 54, 3) := by decide +kernel
theorem dX11_init_104 : decode cX11_init 104 = .ok (.iload_n 1, 1) := by decide +kernel
theorem dX11_init_105 : decode cX11_init 105 = .ok (.iload_n 1, 1) := by decide +kernel
theorem dX11_init_106 : decode cX11_init 106 = .ok (.iconst 0, 1) := by decide +kernel
theorem dX11_init_107 : decode cX11_init 107 = .ok (.iconst 1, 1) := by decide +kernel
theorem dX11_init_108 : decode cX11_init 108 = .ok (.iconst 1, 1) := by decide +kernel
theorem dX11_init_109 : decode cX11_init 109 = .ok (.aload_n 0, 1) := by decide +kernel
theorem dX11_init_110 : decode cX11_init 110 = .ok (.getfield 9, 3) := by decide +kernel
theorem dX11_init_113 : decode cX11_init 113 = .ok (.invokestatic 58, 3) := by decide +kernel
theorem dX11_init_116 : decode cX11_init 116 = .ok (.aastore, 1) := by decide +kernel
theorem dX11_init_117 : decode cX11_init 117 = .ok (.iinc 1 1, 3) := by decide +kernel
theorem dX11_init_120 : decode cX11_init 120 = .ok (.goto (-25), 3) := by decide +kernel
theorem dX11_init_123 : decode cX11_init 123 = .ok (.aload_n 0, 1) := by decide +kernel
theorem dX11_init_124 : decode cX11_init 124 = .ok (.bipush 64, 2) := by decide +kernel
theorem dX11_init_126 : decode cX11_init 126 = .ok (.newarray .int, 2) := by decide +kernel
theorem dX11_init_128 : decode cX11_init 128 = .ok (.putfield 62, 3) := by decide +kernel
theorem dX11_init_131 : decode cX11_init 131 = .ok (.aload_n 0, 1) := by decide +kernel
theorem dX11_init_132 : decode cX11_init 132 = .ok (.iconst 4, 1) := by decide +kernel
theorem dX11_init_133 : decode cX11_init 133 = .ok (.iconst 3, 1) := by decide +kernel
theorem dX11_init_134 : decode cX11_init 134 = .ok (.multianewarray 65 2, 4) := by decide +kernel
theorem dX11_init_138 : decode cX11_init 138 = .ok (.putfield 67, 3) := by decide +kernel
theorem dX11_init_141 : decode cX11_init 141 = .ok (.aload_n 0, 1) := by decide +kernel
theorem dX11_init_142 : decode cX11_init 142 = .ok (.iconst 0, 1) := by decide +kernel
theorem dX11_init_143 : decode cX11_init 143 = .ok (.putfield 70, 3) := by decide +kernel
theorem dX11_init_146 : decode cX11_init 146 = .ok (.aload_n 0, 1) := by decide +kernel
theorem dX11_init_147 : decode cX11_init 147 = .ok (.iconst 4, 1) := by decide +kernel
theorem dX11_init_148 : decode cX11_init 148 = .ok (.newarray .int, 2) := by decide +kernel
theorem dX11_init_150 : decode cX11_init 150 = .ok (.putfield 74, 3) := by decide +kernel
theorem dX11_init_153 : decode cX11_init 153 = .ok (.aload_n 0, 1) := by decide +kernel
theorem dX11_init_154 : decode cX11_init 154 = .ok (.iconst 4, 1) := by decide +kernel
theorem dX11_init_155 : decode cX11_init 155 = .ok (.newarray .int, 2) := by decide +kernel
theorem dX11_init_157 : decode cX11_init 157 = .ok (.putfield 77, 3) := by decide +kernel
theorem dX11_init_160 : decode cX11_init 160 = .ok (.aload_n 0, 1) := by decide +kernel
theorem dX11_init_161 : decode cX11_init 161 = .ok (.iconst 4, 1) := by decide +kernel
theorem dX11_init_162 : decode cX11_init 162 = .ok (.bipush 40, 2) := by decide +kernel
theorem dX11_init_164 : decode cX11_init 164 = .ok (.multianewarray 65 2, 4) := by decide +kernel
theorem dX11_init_168 : decode cX11_init 168 = .ok (.putfield 80, 3) := by decide +kernel
theorem dX11_init_171 : decode cX11_init 171 = .ok (.iconst 0, 1) := by decide +kernel
theorem dX11_init_172 : decode cX11_init 172 = .ok (.istore_n 1, 1) := by decide +kernel
theorem dX11_init_173 : decode cX11_init 173 = .ok (.iload_n 1, 1) := by decide +kernel
theorem dX11_init_174 : decode cX11_init 174 = .ok (.iconst 4, 1) := by decide +kernel
theorem dX11_init_175 : decode cX11_init 175 = .ok (.if_icmp .ge 16, 3) := by decide +kernel
theorem dX11_init_178 : decode cX11_init 178 = .ok (.aload_n 0, 1) := by decide +kernel
theorem dX11_init_179 : decode cX11_init 179 = .ok (.getfield 74, 3) := by decide +kernel
theorem dX11_init_182 : decode cX11_init 182 = .ok (.iload_n 1, 1) := by decide +kernel
theorem dX11_init_183 : decode cX11_init 183 = .ok (.iconst (-1), 1) := by decide +kernel
theorem dX11_init_184 : decode cX11_init 184 = .ok (.iastore, 1) := by decide +kernel
theorem dX11_init_185 : decode cX11_init 185 = .ok (.iinc 1 1, 3) := by decide +kernel
theorem dX11_init_188 : decode cX11_init 188 = .ok (.goto (-15), 3) := by decide +kernel
theorem dX11_init_191 : decode cX11_init 191 = .ok (.aload_n 0, 1) := by decide +kernel
theorem dX11_init_192 : decode cX11_init 192 = .ok (.iconst 4, 1) := by decide +kernel
theorem dX11_init_193 : decode cX11_init 193 = .ok (.newarray .int, 2) := by decide +kernel
theorem dX11_init_195 : decode cX11_init 195 = .ok (.putfield 83, 3) := by decide +kernel
theorem dX11_init_198 : decode cX11_init 198 = .ok (.aload_n 0, 1) := by decide +kernel
theorem dX11_init_199 : decode cX11_init 199 = .ok (.iconst 4, 1) := by decide +kernel
theorem dX11_init_200 : decode cX11_init 200 = .ok (.newarray .int, 2) := by decide +kernel
theorem dX11_init_202 : decode cX11_init 202 = .ok (.putfield 86, 3) := by decide +kernel
theorem dX11_init_205 : decode cX11_init 205 = .ok (.aload_n 0, 1) := by decide +kernel
theorem dX11_init_206 : decode cX11_init 206 = .ok (.iconst 4, 1) := by decide +kernel
theorem dX11_init_207 : decode cX11_init 207 = .ok (.newarray .int, 2) := by decide +kernel
theorem dX11_init_209 : decode cX11_init 209 = .ok (.putfield 89, 3) := by decide +kernel
theorem dX11_init_212 : decode cX11_init 212 = .ok (.iconst 0, 1) := by decide +kernel
theorem dX11_init_213 : decode cX11_init 213 = .ok (.istore_n 1, 1) := by decide +kernel
theorem dX11_init_214 : decode cX11_init 214 = .ok (.iload_n 1, 1) := by decide +kernel
theorem dX11_init_215 : decode cX11_init 215 = .ok (.iconst 4, 1) := by decide +kernel
theorem dX11_init_216 : decode cX11_init 216 = .ok (.if_icmp .ge 16, 3) := by decide +kernel
theorem dX11_init_219 : decode cX11_init 219 = .ok (.aload_n 0, 1) := by decide +kernel
theorem dX11_init_220 : decode cX11_init 220 = .ok (.getfield 83, 3) := by decide +kernel
theorem dX11_init_223 : decode cX11_init 223 = .ok (.iload_n 1, 1) := by decide +kernel
theorem dX11_init_224 : decode cX11_init 224 = .ok (.iconst 2, 1) := by decide +kernel
theorem dX11_init_225 : decode cX11_init 225 = .ok (.iastore, 1) := by decide +kernel
theorem dX11_init_226 : decode cX11_init 226 = .ok (.iinc 1 1, 3) := by decide +kernel
theorem dX11_init_229 : decode cX11_init 229 = .ok (.goto (-15), 3) := by decide +kernel
theorem dX11_init_232 : decode cX11_init 232 = .ok (.return_, 1) := by decide +kernel
theorem hs_o11 : Cond.methodLink RX11 1 objectInit ∈ lu_ws := lu_in (List.mem_of_getElem? (i := 107) (by decide +kernel)) (by decide +kernel)
theorem hs_k11a : Cond.classLink RX11 13 RX10 ∈ lu_ws := lu_in (List.mem_of_getElem? (i := 110) (by decide +kernel)) (by decide +kernel)
theorem hs_k11b : Cond.classLink RX11 29 RX1 ∈ lu_ws := lu_in (List.mem_of_getElem? (i := 373) (by decide +kernel)) (by decide +kernel)
theorem hs_k11c : Cond.classLink RX11 36 RX5 ∈ lu_ws := lu_in (List.mem_of_getElem? (i := 375) (by decide +kernel)) (by decide +kernel)
theorem hs_k11d : Cond.classLink RX11 45 RX8 ∈ lu_ws := lu_in (List.mem_of_getElem? (i := 425) (by decide +kernel)) (by decide +kernel)
theorem hs_k11e : Cond.classLink RX11 52 RX3 ∈ lu_ws := lu_in (List.mem_of_getElem? (i := 219) (by decide +kernel)) (by decide +kernel)
theorem hs_k11f : Cond.classLink RX11 65 "[[I" ∈ lu_ws := lu_in (List.mem_of_getElem? (i := 459) (by decide +kernel)) (by decide +kernel)
theorem hs_l11a : Cond.methodLink RX11 15 yX10_init ∈ lu_ws := lu_in (List.mem_of_getElem? (i := 112) (by decide +kernel)) (by decide +kernel)
theorem hs_l11b : Cond.methodLink RX11 38 yX5_init ∈ lu_ws := lu_in (List.mem_of_getElem? (i := 377) (by decide +kernel)) (by decide +kernel)
theorem hs_l11c : Cond.methodLink RX11 47 yX8_init ∈ lu_ws := lu_in (List.mem_of_getElem? (i := 427) (by decide +kernel)) (by decide +kernel)
theorem hs_l11d : Cond.methodLink RX11 58 yX11_made ∈ lu_ws := lu_in (List.mem_of_getElem? (i := 458) (by decide +kernel)) (by decide +kernel)
theorem hs_n10 : Cond.instantiable RX10 17 ∈ lu_ws := lu_in (List.mem_of_getElem? (i := 111) (by decide +kernel)) (by decide +kernel)
theorem hs_i10 : Cond.initialized RX10 ∈ lu_ws := lu_in (List.mem_of_getElem? (i := 85) (by decide +kernel)) (by decide +kernel)
theorem hs_m10 : Cond.instanceMethod yX10_init ∈ lu_ws := lu_in (List.mem_of_getElem? (i := 113) (by decide +kernel)) (by decide +kernel)
theorem hs_c10 : Cond.code yX10_init cX10_init 3 none ∈ lu_ws := lu_in (List.mem_of_getElem? (i := 114) (by decide +kernel)) (by decide +kernel)
theorem hs_n5 : Cond.instantiable RX5 11 ∈ lu_ws := lu_in (List.mem_of_getElem? (i := 376) (by decide +kernel)) (by decide +kernel)
theorem hs_i5 : Cond.initialized RX5 ∈ lu_ws := lu_in (List.mem_of_getElem? (i := 94) (by decide +kernel)) (by decide +kernel)
theorem hs_m5 : Cond.instanceMethod yX5_init ∈ lu_ws := lu_in (List.mem_of_getElem? (i := 378) (by decide +kernel)) (by decide +kernel)
theorem hs_c5 : Cond.code yX5_init cX5_init 3 none ∈ lu_ws := lu_in (List.mem_of_getElem? (i := 379) (by decide +kernel)) (by decide +kernel)
theorem hs_n8 : Cond.instantiable RX8 7 ∈ lu_ws := lu_in (List.mem_of_getElem? (i := 426) (by decide +kernel)) (by decide +kernel)
theorem hs_i8 : Cond.initialized RX8 ∈ lu_ws := lu_in (List.mem_of_getElem? (i := 95) (by decide +kernel)) (by decide +kernel)
theorem hs_m8 : Cond.instanceMethod yX8_init ∈ lu_ws := lu_in (List.mem_of_getElem? (i := 428) (by decide +kernel)) (by decide +kernel)
theorem hs_c8 : Cond.code yX8_init cX8_init 1 none ∈ lu_ws := lu_in (List.mem_of_getElem? (i := 429) (by decide +kernel)) (by decide +kernel)

/-- what the start's constructors need of the tables -/
def lu_B (D : va_G) (cs sa : Nat → Nat) (U : State) : Prop := va_K D lu_cl (lu_tys cs) U ∧ va_AO RX3 U ∧ va_AO RX1 U ∧ (Cond.arrayOver (.array .int)).before #[] U = true ∧ lu_N sa U
theorem lu_ao_vm {u U : State} (e : u.vm = U.vm) (h : (Cond.arrayOver (.array .int)).before #[] u = true) : (Cond.arrayOver (.array .int)).before #[] U = true := by
  simp only [Cond.before, Cond.holds, Cond.value] at h ⊢
  rw [← e]
  exact h
theorem lu_B.warm {D : va_G} {cs sa : Nat → Nat} {s U : State} (hW : s.WarmedH U.vm) (h : lu_B D cs sa s) : lu_B D cs sa U := ⟨va_K.moved hW.alike h.1, va_AO.moved hW.alike h.2.1, va_AO.moved hW.alike h.2.2.1, lu_ao_vm (rfl : (s.setVm U.vm).vm = U.vm) (by rw [Cond.arrayOver_setVmC hW.alike]; exact h.2.2.2.1), h.2.2.2.2.warm hW⟩
theorem lu_B.same {D : va_G} {cs sa : Nat → Nat} {u U : State} (e : u.vm = U.vm) (h : lu_B D cs sa u) : lu_B D cs sa U := ⟨va_K.moved (by rw [e]; exact Vm.Alike.refl _) h.1, va_AO.moved (by rw [e]; exact Vm.Alike.refl _) h.2.1, va_AO.moved (by rw [e]; exact Vm.Alike.refl _) h.2.2.1, lu_ao_vm e h.2.2.2.1, h.2.2.2.2.same e⟩
theorem lu_B.n0 {D : va_G} {cs sa : Nat → Nat} {U : State} (h : lu_B D cs sa U) : va_Nw (.methodLinkNest RX10 17 yX11_made RX11) U := h.2.2.2.2.1 (RX10, 17, ⟨RX11, "made", "(IIII[I)LLeftUndoes$Hand;"⟩) (List.mem_of_getElem? (i := 0) rfl)
theorem lu_B.n1 {D : va_G} {cs sa : Nat → Nat} {U : State} (h : lu_B D cs sa U) : va_Nw (.methodLinkNest RX10 57 yX1_init RX11) U := h.2.2.2.2.1 (RX10, 57, ⟨RX1, "<init>", "()V"⟩) (List.mem_of_getElem? (i := 1) rfl)
theorem lu_B.n2 {D : va_G} {cs sa : Nat → Nat} {U : State} (h : lu_B D cs sa U) : va_Nw (.methodLinkNest RX11 31 yX1_init RX11) U := h.2.2.2.2.1 (RX11, 31, ⟨RX1, "<init>", "()V"⟩) (List.mem_of_getElem? (i := 2) rfl)
theorem lu_B.n3 {D : va_G} {cs sa : Nat → Nat} {U : State} (h : lu_B D cs sa U) : va_Nw (.methodLinkNest RX5 21 yX1_init RX11) U := h.2.2.2.2.1 (RX5, 21, ⟨RX1, "<init>", "()V"⟩) (List.mem_of_getElem? (i := 3) rfl)
section MIDS
variable {x y z : Nat × va_E} {rest more : va_W}
theorem lu_mid : (x :: y :: ((rest ++ [z]) ++ more))[rest.length + 2]? = some z := by
  show ((rest ++ [z]) ++ more)[rest.length]? = some z
  rw [List.getElem?_append_left (by simp), List.getElem?_append_right (Nat.le_refl _), Nat.sub_self]; rfl
theorem lu_mset (z' : Nat × va_E) : (x :: y :: ((rest ++ [z]) ++ more)).set (rest.length + 2) z' = x :: y :: ((rest ++ [z']) ++ more) := by
  show x :: y :: ((rest ++ [z]) ++ more).set rest.length z' = _
  rw [List.set_append_left _ _ (by simp), List.set_append_right _ _ (Nat.le_refl _), Nat.sub_self]; rfl
theorem lu_last2 (w : Nat × va_E) : (x :: y :: ((rest ++ [z]) ++ (more ++ [w])))[rest.length + more.length + 3]? = some w := by
  show ((rest ++ [z]) ++ (more ++ [w]))[rest.length + more.length + 1]? = some w
  have e1 : (rest ++ [z]).length = rest.length + 1 := by simp
  rw [List.getElem?_append_right (by rw [e1]; omega), e1, List.getElem?_append_right (by omega), show rest.length + more.length + 1 - (rest.length + 1) - more.length = 0 by omega]; rfl
theorem lu_assoc (w : Nat × va_E) : (x :: y :: ((rest ++ [z]) ++ more)) ++ [w] = x :: y :: ((rest ++ [z]) ++ (more ++ [w])) := by simp
end MIDS
def lu_uraw : List Value := [.null, .null, .int 0, .null, .null, .null, .null, .null, .null, .int 0, .null, .null, .null, .null, .null, .null, .null]
def lu_R11 : Room := { frames := 6, cells := 114, slots := 1717, locals := 141 }
abbrev lu_q4 (x : Int32) : Nat → Int32 := upd (upd (upd (upd (fun _ => 0) (0 : Int32).toNatClampNeg x) (1 : Int32).toNatClampNeg x) (2 : Int32).toNatClampNeg x) (3 : Int32).toNatClampNeg x
abbrev lu_qa (cs : Nat → ClassId) (f : Nat → Nat) : va_E := .inl (cs 1, 6, .inr (.inr (.inr (.inr (lu_up6 (f 0) (f 1) (f 2) (f 3) (f 4) (f 5))))))
abbrev lu_hs (rr : Nat) (k : Nat → Nat) : va_W := ((((([] ++ [(k 0, lu_hE 0 0 1 1 rr)]) ++ [(k 1, lu_hE 1 0 1 1 rr)]) ++ [(k 2, lu_hE 2 0 1 1 rr)]) ++ [(k 3, lu_hE 3 0 1 1 rr)]) ++ [(k 4, lu_hE 4 0 1 1 rr)]) ++ [(k 5, lu_hE 5 0 1 1 rr)]
section UND
variable {p : Program} {l : Launch} {e : Env} {s : State} {m : MethodId} {args : Array Value} {below : List Frame} {meth : Method} {c : Code} {H : Heap} {locs : List Loc} {cells slots : Nat} {Q : State → Prop} {rest : va_W} {D : va_G} {A : Nat → Prop} {H0 : Heap} {ls : Array Slot} {cs sa : Nat → Nat} {h0 rr : Nat}
theorem c11_W1  (S : CallFix p m c cX11_init 2 s args lu_ws RX11) (hni : meth.name = "<init>") (hB : lu_B D cs sa s) (hA : ∀ q, H0.size ≤ q → A q) {lv : List (Nat × Value)} (hl : lv_has ls 2 lv) (kv : Nat) (h00 : lv[kv]? = some (0, .ref h0)) (hcl : cells + 36 ≤ 114) (hsl : slots + 437 ≤ 1717) (hP : va_P D lu_cl ((h0, .inr (11, [.null, .null, .int 0, .null, .null, .null, .null, .null, .null, .int 0, .null, .null, .null, .null, .null, .null, .ref rr])) :: (rr, lu_ia cs 31) :: rest) H) (hD : va_D A ((h0, .inr (11, [.null, .null, .int 0, .null, .null, .null, .null, .null, .null, .int 0, .null, .null, .null, .null, .null, .null, .ref rr])) :: (rr, lu_ia cs 31) :: rest)) (hS : va_S A H0 H locs)
    (kk : ∀ (wo : Nat) (wn : va_W), lu_wN cs wo rr wn → ∀ (H : Heap) (locs : List Loc), va_P D lu_cl ((h0, .inr (11, [.ref wo, .null, .int 0, .null, .null, .null, .null, .null, .null, .int 0, .null, .null, .null, .null, .null, .null, .ref rr])) :: (rr, lu_ia cs 31) :: (rest ++ wn)) H → va_D A ((h0, .inr (11, [.ref wo, .null, .int 0, .null, .null, .null, .null, .null, .null, .int 0, .null, .null, .null, .null, .null, .null, .ref rr])) :: (rr, lu_ia cs 31) :: (rest ++ wn)) → va_S A H0 H locs → W p l e lu_R11 s m args below meth c H locs (cells + 36) (slots + 437) Q (F0 m 27 ls [])) :
    W p l e lu_R11 s m args below meth c H locs cells slots Q (F0 m 12 ls []) := by
  obtain ⟨hx, hb, hml, hown, hts⟩ := S
  have hK := hB.1
  have hc : lu_cl[11]? = some (RX11, TX11, 17) := rfl
  have hin := lu_lay lu_lay11
  have hcl : cells + 36 ≤ lu_R11.cells := hcl
  have hsl : slots + 437 ≤ lu_R11.slots := hsl
  refine lv_aload_n hx hb dX11_init_12 rfl (lv_at hl kv h00) ?_
  refine va_new (ci := 10) (fs := lu_wraw) hx hb hts (lu_lay lu_lay10) tyX10 tyX10_ok hown (hts _ hs_k11a) (hts _ hs_n10) (hts _ hs_i10) hK hP hD hS hA rfl (fun j hj => by
    rcases (show j = 0 ∨ j = 1 ∨ j = 2 ∨ j = 3 ∨ j = 4 ∨ j = 5 ∨ j = 6 ∨ j = 7 ∨ j = 8 ∨ j = 9 ∨ j = 10 ∨ j = 11 ∨ j = 12 ∨ j = 13 ∨ j = 14 ∨ j = 15 ∨ j = 16 by omega) with rfl | rfl | rfl | rfl | rfl | rfl | rfl | rfl | rfl | rfl | rfl | rfl | rfl | rfl | rfl | rfl | rfl <;> rfl) (by omega) (by omega) dX11_init_13 (fun wo H hP hD hS => ?_)
  refine lv_dup hx hb dX11_init_16 rfl ?_
  refine lv_aload_n hx hb dX11_init_17 rfl (lv_at hl kv h00) ?_
  have hP : va_P D lu_cl ((h0, .inr (11, [.null, .null, .int 0, .null, .null, .null, .null, .null, .null, .int 0, .null, .null, .null, .null, .null, .null, .ref rr])) :: (rr, lu_ia cs 31) :: (rest ++ [(wo, .inr (10, lu_wraw))])) H := hP
  refine va_get (D := D) hx hb hts hin hown hK hP 0 rfl hc 16 (by decide) (hts _ qfl11_9) (fun _ h => h) rfl dX11_init_18 ?_
  have hP : va_P D lu_cl (((h0, .inr (11, [.null, .null, .int 0, .null, .null, .null, .null, .null, .null, .int 0, .null, .null, .null, .null, .null, .null, .ref rr])) :: (rr, lu_ia cs 31) :: rest) ++ [(wo, .inr (10, lu_wraw))]) H := hP
  refine lu_ctor (g := F0 m 21 ls [.ref rr, .ref wo, .ref wo, .ref h0]) hP hD hS hA (va_runI (As := [.ref rr]) (rest := [.ref wo, .ref h0]) ⟨hx, hb, hml, hown, hts⟩ (c10_init l D cs wo H.size rr) (cwI 1 hts (lu_gi (fun w hw => by
    rcases List.mem_cons.mp hw with rfl | hw
    · exact hs_c10
    · exact hw)) rfl rfl rfl (hts _ hs_i10) (hts _ hs_l11a) (hts _ hs_m10) rfl ⟨by decide, by decide, by decide +kernel⟩ ⟨by decide, by decide⟩) ⟨fun a U g mk q => by
    obtain ⟨q0, q1, qP, qK, qa, qb, qc, qd⟩ := q
    exact ⟨q0, q1, qP, va_K.moved (u := U) (U := U.calling g mk a) (Vm.Alike.refl U.vm) qK, va_AO.moved (u := U) (U := U.calling g mk a) (Vm.Alike.refl U.vm) qa, lu_ao_vm (u := U) (U := U.calling g mk a) rfl qb, va_Nw.same (u := U) (U := U.calling g mk a) rfl rfl qc, va_Nw.same (u := U) (U := U.calling g mk a) rfl rfl qd⟩, fun U hU hW => ⟨rfl, by rw [hU], by
      rw [hU]
      exact lu_Pr hP, (hB.warm hW).1, (hB.warm hW).2.1, (hB.warm hW).2.2.2.1, (hB.warm hW).n1, (hB.warm hW).n0⟩⟩ rfl rfl hl.1 rfl (lv_room (Nat.le_of_ble_eq_true rfl)) dX11_init_21 ⟨by omega, by omega⟩) (fun wn H locs hw hP hD hS => ?_)
  have hP : va_P D lu_cl ((h0, .inr (11, [.null, .null, .int 0, .null, .null, .null, .null, .null, .null, .int 0, .null, .null, .null, .null, .null, .null, .ref rr])) :: (rr, lu_ia cs 31) :: (rest ++ wn)) H := hP
  have hD : va_D A ((h0, .inr (11, [.null, .null, .int 0, .null, .null, .null, .null, .null, .null, .int 0, .null, .null, .null, .null, .null, .null, .ref rr])) :: (rr, lu_ia cs 31) :: (rest ++ wn)) := hD
  refine va_putF (v := .ref wo) (ty := .object RX10) hx hb hts hin tyX11 tyX11_ok nmX11 hown hK hP hD hS 0 rfl hc 0 (by decide) (hts _ qfl11_18) (fun _ h => h) rfl hni rfl (by decide +kernel) rfl rfl (Nat.le_of_ble_eq_true rfl) dX11_init_24 (fun H locs hP hD hS => ?_)
  have hP : va_P D lu_cl ((h0, .inr (11, [.ref wo, .null, .int 0, .null, .null, .null, .null, .null, .null, .int 0, .null, .null, .null, .null, .null, .null, .ref rr])) :: (rr, lu_ia cs 31) :: (rest ++ wn)) H := hP
  have hD : va_D A ((h0, .inr (11, [.ref wo, .null, .int 0, .null, .null, .null, .null, .null, .null, .int 0, .null, .null, .null, .null, .null, .null, .ref rr])) :: (rr, lu_ia cs 31) :: (rest ++ wn)) := hD
  exact kk wo wn hw H locs hP hD hS
theorem c11_W2 {w1 : Nat} (S : CallFix p m c cX11_init 2 s args lu_ws RX11) (hni : meth.name = "<init>") (hB : lu_B D cs sa s) (hA : ∀ q, H0.size ≤ q → A q) {lv : List (Nat × Value)} (hl : lv_has ls 2 lv) (kv : Nat) (h00 : lv[kv]? = some (0, .ref h0)) (hcl : cells + 36 ≤ 114) (hsl : slots + 437 ≤ 1717) (hP : va_P D lu_cl ((h0, .inr (11, [.ref w1, .null, .int 0, .null, .null, .null, .null, .null, .null, .int 0, .null, .null, .null, .null, .null, .null, .ref rr])) :: (rr, lu_ia cs 31) :: rest) H) (hD : va_D A ((h0, .inr (11, [.ref w1, .null, .int 0, .null, .null, .null, .null, .null, .null, .int 0, .null, .null, .null, .null, .null, .null, .ref rr])) :: (rr, lu_ia cs 31) :: rest)) (hS : va_S A H0 H locs)
    (kk : ∀ (wo : Nat) (wn : va_W), lu_wN cs wo rr wn → ∀ (H : Heap) (locs : List Loc), va_P D lu_cl ((h0, .inr (11, [.ref w1, .ref wo, .int 0, .null, .null, .null, .null, .null, .null, .int 0, .null, .null, .null, .null, .null, .null, .ref rr])) :: (rr, lu_ia cs 31) :: (rest ++ wn)) H → va_D A ((h0, .inr (11, [.ref w1, .ref wo, .int 0, .null, .null, .null, .null, .null, .null, .int 0, .null, .null, .null, .null, .null, .null, .ref rr])) :: (rr, lu_ia cs 31) :: (rest ++ wn)) → va_S A H0 H locs → W p l e lu_R11 s m args below meth c H locs (cells + 36) (slots + 437) Q (F0 m 42 ls [])) :
    W p l e lu_R11 s m args below meth c H locs cells slots Q (F0 m 27 ls []) := by
  obtain ⟨hx, hb, hml, hown, hts⟩ := S
  have hK := hB.1
  have hc : lu_cl[11]? = some (RX11, TX11, 17) := rfl
  have hin := lu_lay lu_lay11
  have hcl : cells + 36 ≤ lu_R11.cells := hcl
  have hsl : slots + 437 ≤ lu_R11.slots := hsl
  refine lv_aload_n hx hb dX11_init_27 rfl (lv_at hl kv h00) ?_
  refine va_new (ci := 10) (fs := lu_wraw) hx hb hts (lu_lay lu_lay10) tyX10 tyX10_ok hown (hts _ hs_k11a) (hts _ hs_n10) (hts _ hs_i10) hK hP hD hS hA rfl (fun j hj => by
    rcases (show j = 0 ∨ j = 1 ∨ j = 2 ∨ j = 3 ∨ j = 4 ∨ j = 5 ∨ j = 6 ∨ j = 7 ∨ j = 8 ∨ j = 9 ∨ j = 10 ∨ j = 11 ∨ j = 12 ∨ j = 13 ∨ j = 14 ∨ j = 15 ∨ j = 16 by omega) with rfl | rfl | rfl | rfl | rfl | rfl | rfl | rfl | rfl | rfl | rfl | rfl | rfl | rfl | rfl | rfl | rfl <;> rfl) (by omega) (by omega) dX11_init_28 (fun wo H hP hD hS => ?_)
  refine lv_dup hx hb dX11_init_31 rfl ?_
  refine lv_aload_n hx hb dX11_init_32 rfl (lv_at hl kv h00) ?_
  have hP : va_P D lu_cl ((h0, .inr (11, [.ref w1, .null, .int 0, .null, .null, .null, .null, .null, .null, .int 0, .null, .null, .null, .null, .null, .null, .ref rr])) :: (rr, lu_ia cs 31) :: (rest ++ [(wo, .inr (10, lu_wraw))])) H := hP
  refine va_get (D := D) hx hb hts hin hown hK hP 0 rfl hc 16 (by decide) (hts _ qfl11_9) (fun _ h => h) rfl dX11_init_33 ?_
  have hP : va_P D lu_cl (((h0, .inr (11, [.ref w1, .null, .int 0, .null, .null, .null, .null, .null, .null, .int 0, .null, .null, .null, .null, .null, .null, .ref rr])) :: (rr, lu_ia cs 31) :: rest) ++ [(wo, .inr (10, lu_wraw))]) H := hP
  refine lu_ctor (g := F0 m 36 ls [.ref rr, .ref wo, .ref wo, .ref h0]) hP hD hS hA (va_runI (As := [.ref rr]) (rest := [.ref wo, .ref h0]) ⟨hx, hb, hml, hown, hts⟩ (c10_init l D cs wo H.size rr) (cwI 1 hts (lu_gi (fun w hw => by
    rcases List.mem_cons.mp hw with rfl | hw
    · exact hs_c10
    · exact hw)) rfl rfl rfl (hts _ hs_i10) (hts _ hs_l11a) (hts _ hs_m10) rfl ⟨by decide, by decide, by decide +kernel⟩ ⟨by decide, by decide⟩) ⟨fun a U g mk q => by
    obtain ⟨q0, q1, qP, qK, qa, qb, qc, qd⟩ := q
    exact ⟨q0, q1, qP, va_K.moved (u := U) (U := U.calling g mk a) (Vm.Alike.refl U.vm) qK, va_AO.moved (u := U) (U := U.calling g mk a) (Vm.Alike.refl U.vm) qa, lu_ao_vm (u := U) (U := U.calling g mk a) rfl qb, va_Nw.same (u := U) (U := U.calling g mk a) rfl rfl qc, va_Nw.same (u := U) (U := U.calling g mk a) rfl rfl qd⟩, fun U hU hW => ⟨rfl, by rw [hU], by
      rw [hU]
      exact lu_Pr hP, (hB.warm hW).1, (hB.warm hW).2.1, (hB.warm hW).2.2.2.1, (hB.warm hW).n1, (hB.warm hW).n0⟩⟩ rfl rfl hl.1 rfl (lv_room (Nat.le_of_ble_eq_true rfl)) dX11_init_36 ⟨by omega, by omega⟩) (fun wn H locs hw hP hD hS => ?_)
  have hP : va_P D lu_cl ((h0, .inr (11, [.ref w1, .null, .int 0, .null, .null, .null, .null, .null, .null, .int 0, .null, .null, .null, .null, .null, .null, .ref rr])) :: (rr, lu_ia cs 31) :: (rest ++ wn)) H := hP
  have hD : va_D A ((h0, .inr (11, [.ref w1, .null, .int 0, .null, .null, .null, .null, .null, .null, .int 0, .null, .null, .null, .null, .null, .null, .ref rr])) :: (rr, lu_ia cs 31) :: (rest ++ wn)) := hD
  refine va_putF (v := .ref wo) (ty := .object RX10) hx hb hts hin tyX11 tyX11_ok nmX11 hown hK hP hD hS 0 rfl hc 1 (by decide) (hts _ qfl11_22) (fun _ h => h) rfl hni rfl (by decide +kernel) rfl rfl (Nat.le_of_ble_eq_true rfl) dX11_init_39 (fun H locs hP hD hS => ?_)
  have hP : va_P D lu_cl ((h0, .inr (11, [.ref w1, .ref wo, .int 0, .null, .null, .null, .null, .null, .null, .int 0, .null, .null, .null, .null, .null, .null, .ref rr])) :: (rr, lu_ia cs 31) :: (rest ++ wn)) H := hP
  have hD : va_D A ((h0, .inr (11, [.ref w1, .ref wo, .int 0, .null, .null, .null, .null, .null, .null, .int 0, .null, .null, .null, .null, .null, .null, .ref rr])) :: (rr, lu_ia cs 31) :: (rest ++ wn)) := hD
  exact kk wo wn hw H locs hP hD hS
theorem c11_W3 {w1 w2 : Nat} (S : CallFix p m c cX11_init 2 s args lu_ws RX11) (hni : meth.name = "<init>") (hB : lu_B D cs sa s) (hA : ∀ q, H0.size ≤ q → A q) {lv : List (Nat × Value)} (hl : lv_has ls 2 lv) (kv : Nat) (h00 : lv[kv]? = some (0, .ref h0)) (hcl : cells + 18 ≤ 114) (hsl : slots + 506 ≤ 1717) (hP : va_P D lu_cl ((h0, .inr (11, [.ref w1, .ref w2, .int 0, .null, .null, .null, .null, .null, .null, .int 0, .null, .null, .null, .null, .null, .null, .ref rr])) :: (rr, lu_ia cs 31) :: rest) H) (hD : va_D A ((h0, .inr (11, [.ref w1, .ref w2, .int 0, .null, .null, .null, .null, .null, .null, .int 0, .null, .null, .null, .null, .null, .null, .ref rr])) :: (rr, lu_ia cs 31) :: rest)) (hS : va_S A H0 H locs)
    (kk : ∀ (li pl te : Nat) (pn tn : va_W), lu_pN cs pl w1 pn → lu_tN cs te tn → ∀ (H : Heap) (locs : List Loc), va_P D lu_cl ((h0, .inr (11, [.ref w1, .ref w2, .int 0, .ref li, .ref pl, .ref te, .null, .null, .null, .int 0, .null, .null, .null, .null, .null, .null, .ref rr])) :: (rr, lu_ia cs 31) :: (((rest ++ [(li, .inr (1, lu_craw))]) ++ pn) ++ tn)) H → va_D A ((h0, .inr (11, [.ref w1, .ref w2, .int 0, .ref li, .ref pl, .ref te, .null, .null, .null, .int 0, .null, .null, .null, .null, .null, .null, .ref rr])) :: (rr, lu_ia cs 31) :: (((rest ++ [(li, .inr (1, lu_craw))]) ++ pn) ++ tn)) → va_S A H0 H locs → W p l e lu_R11 s m args below meth c H locs (cells + 18) (slots + 506) Q (F0 m 84 ls [])) :
    W p l e lu_R11 s m args below meth c H locs cells slots Q (F0 m 42 ls []) := by
  obtain ⟨hx, hb, hml, hown, hts⟩ := S
  have hK := hB.1
  have hc : lu_cl[11]? = some (RX11, TX11, 17) := rfl
  have hin := lu_lay lu_lay11
  have hcl : cells + 18 ≤ lu_R11.cells := hcl
  have hsl : slots + 506 ≤ lu_R11.slots := hsl
  refine lv_aload_n hx hb dX11_init_42 rfl (lv_at hl kv h00) ?_
  refine lv_iconst (v := 0) hx hb dX11_init_43 (by decide) ?_
  refine va_put (v := .int 0) (ty := .boolean) hx hb hts hin tyX11 tyX11_ok nmX11 hown hK hP hD hS 0 rfl hc 2 (by decide) (hts _ qfl11_25) (fun _ h => h) rfl rfl rfl rfl (Nat.le_of_ble_eq_true rfl) dX11_init_44 (fun H locs hP hD hS => ?_)
  have hP : va_P D lu_cl ((h0, .inr (11, [.ref w1, .ref w2, .int 0, .null, .null, .null, .null, .null, .null, .int 0, .null, .null, .null, .null, .null, .null, .ref rr])) :: (rr, lu_ia cs 31) :: rest) H := hP
  have hD : va_D A ((h0, .inr (11, [.ref w1, .ref w2, .int 0, .null, .null, .null, .null, .null, .null, .int 0, .null, .null, .null, .null, .null, .null, .ref rr])) :: (rr, lu_ia cs 31) :: rest) := hD
  refine lv_aload_n hx hb dX11_init_47 rfl (lv_at hl kv h00) ?_
  refine va_new (ci := 1) (fs := lu_craw) hx hb hts (lu_lay lu_lay1) tyX1 tyX1_ok hown (hts _ hs_k11b) (hts _ hs_n1) (hts _ hs_i1) hK hP hD hS hA rfl (fun j hj => by
    rcases (show j = 0 ∨ j = 1 ∨ j = 2 ∨ j = 3 ∨ j = 4 ∨ j = 5 by omega) with rfl | rfl | rfl | rfl | rfl | rfl <;> rfl) (by omega) (by omega) dX11_init_48 (fun li H hP hD hS => ?_)
  refine lv_dup hx hb dX11_init_51 rfl ?_
  refine lu_ctor0 (g := F0 m 52 ls [.ref li, .ref li, .ref h0]) hP hS (va_runIN (As := []) (rest := [.ref li, .ref h0]) ⟨hx, hb, hml, hown, hts⟩ (c1_init l li) ⟨va_cnB (host := RX11) 0 hts (lu_gi (fun w hw => by
    rcases List.mem_cons.mp hw with rfl | hw
    · exact hs_c1
    · exact hw)) rfl rfl rfl hB.n2 (hts _ hs_i1) ⟨by decide, by decide, by decide +kernel⟩ ⟨by decide, by decide⟩, rfl, hts _ hs_m1⟩ ⟨fun a U g mk q => q, fun U hU hW => ⟨rfl, trivial⟩⟩ rfl rfl hl.1 rfl (lv_room (Nat.le_of_ble_eq_true rfl)) dX11_init_52 ⟨by omega, by omega⟩) (fun H locs hP hS => ?_)
  refine va_putF (v := .ref li) (ty := .object RX1) hx hb hts hin tyX11 tyX11_ok nmX11 hown hK hP hD hS 0 rfl hc 3 (by decide) (hts _ qfl11_32) (fun _ h => h) rfl hni rfl (by decide +kernel) rfl rfl (Nat.le_of_ble_eq_true rfl) dX11_init_55 (fun H locs hP hD hS => ?_)
  have hP : va_P D lu_cl ((h0, .inr (11, [.ref w1, .ref w2, .int 0, .ref li, .null, .null, .null, .null, .null, .int 0, .null, .null, .null, .null, .null, .null, .ref rr])) :: (rr, lu_ia cs 31) :: (rest ++ [(li, .inr (1, lu_craw))])) H := hP
  have hD : va_D A ((h0, .inr (11, [.ref w1, .ref w2, .int 0, .ref li, .null, .null, .null, .null, .null, .int 0, .null, .null, .null, .null, .null, .null, .ref rr])) :: (rr, lu_ia cs 31) :: (rest ++ [(li, .inr (1, lu_craw))])) := hD
  generalize hr0 : rest ++ [(li, .inr (1, lu_craw))] = rest0 at hP hD
  refine lv_aload_n hx hb dX11_init_58 rfl (lv_at hl kv h00) ?_
  refine va_new (ci := 5) (fs := lu_praw) hx hb hts (lu_lay lu_lay5) tyX5 tyX5_ok hown (hts _ hs_k11c) (hts _ hs_n5) (hts _ hs_i5) hK hP hD hS hA rfl (fun j hj => by
    rcases (show j = 0 ∨ j = 1 ∨ j = 2 ∨ j = 3 ∨ j = 4 ∨ j = 5 ∨ j = 6 ∨ j = 7 ∨ j = 8 ∨ j = 9 ∨ j = 10 by omega) with rfl | rfl | rfl | rfl | rfl | rfl | rfl | rfl | rfl | rfl | rfl <;> rfl) (by omega) (by omega) dX11_init_59 (fun pl H hP hD hS => ?_)
  refine lv_dup hx hb dX11_init_62 rfl ?_
  refine lv_aload_n hx hb dX11_init_63 rfl (lv_at hl kv h00) ?_
  have hP : va_P D lu_cl ((h0, .inr (11, [.ref w1, .ref w2, .int 0, .ref li, .null, .null, .null, .null, .null, .int 0, .null, .null, .null, .null, .null, .null, .ref rr])) :: (rr, lu_ia cs 31) :: (rest0 ++ [(pl, .inr (5, lu_praw))])) H := hP
  refine va_get (D := D) hx hb hts hin hown hK hP 0 rfl hc 0 (by decide) (hts _ qfl11_18) (fun _ h => h) rfl dX11_init_64 ?_
  have hP : va_P D lu_cl (((h0, .inr (11, [.ref w1, .ref w2, .int 0, .ref li, .null, .null, .null, .null, .null, .int 0, .null, .null, .null, .null, .null, .null, .ref rr])) :: (rr, lu_ia cs 31) :: rest0) ++ [(pl, .inr (5, lu_praw))]) H := hP
  refine lu_ctor (g := F0 m 67 ls [.ref w1, .ref pl, .ref pl, .ref h0]) hP hD hS hA (va_runI (As := [.ref w1]) (rest := [.ref pl, .ref h0]) ⟨hx, hb, hml, hown, hts⟩ (c5_init l D cs pl H.size w1) (cwI 1 hts (lu_gi (fun w hw => by
    rcases List.mem_cons.mp hw with rfl | hw
    · exact hs_c5
    · exact hw)) rfl rfl rfl (hts _ hs_i5) (hts _ hs_l11b) (hts _ hs_m5) rfl ⟨by decide, by decide, by decide +kernel⟩ ⟨by decide, by decide⟩) ⟨fun a U g mk q => by
    obtain ⟨q0, q1, qP, qK, qa, qc⟩ := q
    exact ⟨q0, q1, qP, va_K.moved (u := U) (U := U.calling g mk a) (Vm.Alike.refl U.vm) qK, va_AO.moved (u := U) (U := U.calling g mk a) (Vm.Alike.refl U.vm) qa, va_Nw.same (u := U) (U := U.calling g mk a) rfl rfl qc⟩, fun U hU hW => ⟨rfl, by rw [hU], by
      rw [hU]
      exact lu_Pr hP, (hB.warm hW).1, (hB.warm hW).2.2.1, (hB.warm hW).n3⟩⟩ rfl rfl hl.1 rfl (lv_room (Nat.le_of_ble_eq_true rfl)) dX11_init_67 ⟨by omega, by omega⟩) (fun pn H locs hpn hP hD hS => ?_)
  have hP : va_P D lu_cl ((h0, .inr (11, [.ref w1, .ref w2, .int 0, .ref li, .null, .null, .null, .null, .null, .int 0, .null, .null, .null, .null, .null, .null, .ref rr])) :: (rr, lu_ia cs 31) :: (rest0 ++ pn)) H := hP
  have hD : va_D A ((h0, .inr (11, [.ref w1, .ref w2, .int 0, .ref li, .null, .null, .null, .null, .null, .int 0, .null, .null, .null, .null, .null, .null, .ref rr])) :: (rr, lu_ia cs 31) :: (rest0 ++ pn)) := hD
  refine va_putF (v := .ref pl) (ty := .object RX5) hx hb hts hin tyX11 tyX11_ok nmX11 hown hK hP hD hS 0 rfl hc 4 (by decide) (hts _ qfl11_41) (fun _ h => h) rfl hni rfl (by decide +kernel) rfl rfl (Nat.le_of_ble_eq_true rfl) dX11_init_70 (fun H locs hP hD hS => ?_)
  have hP : va_P D lu_cl ((h0, .inr (11, [.ref w1, .ref w2, .int 0, .ref li, .ref pl, .null, .null, .null, .null, .int 0, .null, .null, .null, .null, .null, .null, .ref rr])) :: (rr, lu_ia cs 31) :: (rest0 ++ pn)) H := hP
  have hD : va_D A ((h0, .inr (11, [.ref w1, .ref w2, .int 0, .ref li, .ref pl, .null, .null, .null, .null, .int 0, .null, .null, .null, .null, .null, .null, .ref rr])) :: (rr, lu_ia cs 31) :: (rest0 ++ pn)) := hD
  generalize hr1 : rest0 ++ pn = rest1 at hP hD
  refine lv_aload_n hx hb dX11_init_73 rfl (lv_at hl kv h00) ?_
  refine va_new (ci := 8) (fs := lu_traw) hx hb hts (lu_lay lu_lay8) tyX8 tyX8_ok hown (hts _ hs_k11d) (hts _ hs_n8) (hts _ hs_i8) hK hP hD hS hA rfl (fun j hj => by
    rcases (show j = 0 ∨ j = 1 ∨ j = 2 ∨ j = 3 ∨ j = 4 ∨ j = 5 ∨ j = 6 by omega) with rfl | rfl | rfl | rfl | rfl | rfl | rfl <;> rfl) (by omega) (by omega) dX11_init_74 (fun te H hP hD hS => ?_)
  refine lv_dup hx hb dX11_init_77 rfl ?_
  refine lu_ctor (g := F0 m 78 ls [.ref te, .ref te, .ref h0]) hP hD hS hA (va_runI (As := []) (rest := [.ref te, .ref h0]) ⟨hx, hb, hml, hown, hts⟩ (c8_init l D cs te H.size) (cwI 0 hts (lu_gi (fun w hw => by
    rcases List.mem_cons.mp hw with rfl | hw
    · exact hs_c8
    · exact hw)) rfl rfl rfl (hts _ hs_i8) (hts _ hs_l11c) (hts _ hs_m8) rfl ⟨by decide, by decide, by decide +kernel⟩ ⟨by decide, by decide⟩) ⟨fun a U g mk q => by
    obtain ⟨q0, q1, qP, qK⟩ := q
    exact ⟨q0, q1, qP, va_K.moved (u := U) (U := U.calling g mk a) (Vm.Alike.refl U.vm) qK⟩, fun U hU hW => ⟨rfl, by rw [hU], by
      rw [hU]
      exact lu_Pr hP, va_K.moved hW.alike hK⟩⟩ rfl rfl hl.1 rfl (lv_room (Nat.le_of_ble_eq_true rfl)) dX11_init_78 ⟨by omega, by omega⟩) (fun tn H locs htn hP hD hS => ?_)
  have hP : va_P D lu_cl ((h0, .inr (11, [.ref w1, .ref w2, .int 0, .ref li, .ref pl, .null, .null, .null, .null, .int 0, .null, .null, .null, .null, .null, .null, .ref rr])) :: (rr, lu_ia cs 31) :: (rest1 ++ tn)) H := hP
  have hD : va_D A ((h0, .inr (11, [.ref w1, .ref w2, .int 0, .ref li, .ref pl, .null, .null, .null, .null, .int 0, .null, .null, .null, .null, .null, .null, .ref rr])) :: (rr, lu_ia cs 31) :: (rest1 ++ tn)) := hD
  refine va_putF (v := .ref te) (ty := .object RX8) hx hb hts hin tyX11 tyX11_ok nmX11 hown hK hP hD hS 0 rfl hc 5 (by decide) (hts _ qfl11_48) (fun _ h => h) rfl hni rfl (by decide +kernel) rfl rfl (Nat.le_of_ble_eq_true rfl) dX11_init_81 (fun H locs hP hD hS => ?_)
  have hP : va_P D lu_cl ((h0, .inr (11, [.ref w1, .ref w2, .int 0, .ref li, .ref pl, .ref te, .null, .null, .null, .int 0, .null, .null, .null, .null, .null, .null, .ref rr])) :: (rr, lu_ia cs 31) :: (rest1 ++ tn)) H := hP
  have hD : va_D A ((h0, .inr (11, [.ref w1, .ref w2, .int 0, .ref li, .ref pl, .ref te, .null, .null, .null, .int 0, .null, .null, .null, .null, .null, .null, .ref rr])) :: (rr, lu_ia cs 31) :: (rest1 ++ tn)) := hD
  subst hr0 hr1
  exact kk li pl te pn tn hpn htn H locs hP hD hS
theorem c11_S {w1 w2 li pl te : Nat} (S : CallFix p m c cX11_init 2 s args lu_ws RX11) (hni : meth.name = "<init>") (hB : lu_B D cs sa s) (hA : ∀ q, H0.size ≤ q → A q) {lv : List (Nat × Value)} (hl : lv_has ls 2 lv) (kv : Nat) (h00 : lv[kv]? = some (0, .ref h0)) (hcl : cells + 1 ≤ 114) (hsl : slots + 6 ≤ 1717) (hP : va_P D lu_cl ((h0, .inr (11, [.ref w1, .ref w2, .int 0, .ref li, .ref pl, .ref te, .null, .null, .null, .int 0, .null, .null, .null, .null, .null, .null, .ref rr])) :: (rr, lu_ia cs 31) :: rest) H) (hD : va_D A ((h0, .inr (11, [.ref w1, .ref w2, .int 0, .ref li, .ref pl, .ref te, .null, .null, .null, .int 0, .null, .null, .null, .null, .null, .null, .ref rr])) :: (rr, lu_ia cs 31) :: rest)) (hS : va_S A H0 H locs)
    (kk : ∀ (st : Nat) (H : Heap) (locs : List Loc), va_P D lu_cl ((h0, .inr (11, [.ref w1, .ref w2, .int 0, .ref li, .ref pl, .ref te, .ref st, .null, .null, .int 0, .null, .null, .null, .null, .null, .null, .ref rr])) :: (rr, lu_ia cs 31) :: ((rest ++ [(st, .inl (cs 1, 6, .inr (.inr (.inr (.inr (fun _ => none))))))]) ++ [])) H → va_D A ((h0, .inr (11, [.ref w1, .ref w2, .int 0, .ref li, .ref pl, .ref te, .ref st, .null, .null, .int 0, .null, .null, .null, .null, .null, .null, .ref rr])) :: (rr, lu_ia cs 31) :: ((rest ++ [(st, .inl (cs 1, 6, .inr (.inr (.inr (.inr (fun _ => none))))))]) ++ [])) → va_S A H0 H locs → W p l e lu_R11 s m args below meth c H locs (cells + 1) (slots + 6) Q (F0 m 93 ls [])) :
    W p l e lu_R11 s m args below meth c H locs cells slots Q (F0 m 84 ls []) := by
  obtain ⟨hx, hb, hml, hown, hts⟩ := S
  have hK := hB.1
  have hc : lu_cl[11]? = some (RX11, TX11, 17) := rfl
  have hin := lu_lay lu_lay11
  have hcl : cells + 1 ≤ lu_R11.cells := hcl
  have hsl : slots + 6 ≤ lu_R11.slots := hsl
  refine lv_aload_n hx hb dX11_init_84 rfl (lv_at hl kv h00) ?_
  refine lv_bipush (v := 6) hx hb dX11_init_85 (by decide) ?_
  refine lu_newQ (t := 1) (N := 6) (C := RX3) hx hb rfl hown (hts _ hs_k11e) hB.2.1 hK hP hD hS hA (by decide) (by decide) (by decide) (by omega) (by omega) dX11_init_87 (fun st H hP hD hS => ?_)
  refine va_putF (v := .ref st) (ty := .array (.object RX3)) hx hb hts hin tyX11 tyX11_ok nmX11 hown hK hP hD hS 0 rfl hc 6 (by decide) (hts _ qfl11_54) (fun _ h => h) rfl hni rfl (by decide +kernel) rfl rfl (Nat.le_of_ble_eq_true rfl) dX11_init_90 (fun H locs hP hD hS => ?_)
  have hP : va_P D lu_cl ((h0, .inr (11, [.ref w1, .ref w2, .int 0, .ref li, .ref pl, .ref te, .ref st, .null, .null, .int 0, .null, .null, .null, .null, .null, .null, .ref rr])) :: (rr, lu_ia cs 31) :: ((rest ++ [(st, .inl (cs 1, 6, .inr (.inr (.inr (.inr (fun _ => none))))))]) ++ [])) H := by rw [List.append_nil]; exact hP
  have hD : va_D A ((h0, .inr (11, [.ref w1, .ref w2, .int 0, .ref li, .ref pl, .ref te, .ref st, .null, .null, .int 0, .null, .null, .null, .null, .null, .null, .ref rr])) :: (rr, lu_ia cs 31) :: ((rest ++ [(st, .inl (cs 1, 6, .inr (.inr (.inr (.inr (fun _ => none))))))]) ++ [])) := by rw [List.append_nil]; exact hD
  exact kk st H locs hP hD hS
theorem c11_T0 {w1 w2 li pl te : Nat} {st : Nat} {more : va_W} {f : Nat → Option Nat} (S : CallFix p m c cX11_init 2 s args lu_ws RX11) (hB : lu_B D cs sa s) (hA : ∀ q, H0.size ≤ q → A q) (hl : lv_has ls 2 [(1, .int 0), (0, .ref h0)]) (hcl : cells + 1 ≤ 114) (hsl : slots + 6 ≤ 1717)
    (hP : va_P D lu_cl ((h0, .inr (11, [.ref w1, .ref w2, .int 0, .ref li, .ref pl, .ref te, .ref st, .null, .null, .int 0, .null, .null, .null, .null, .null, .null, .ref rr])) :: (rr, lu_ia cs 31) :: ((rest ++ [(st, .inl (cs 1, 6, .inr (.inr (.inr (.inr (f))))))]) ++ more)) H) (hD : va_D A ((h0, .inr (11, [.ref w1, .ref w2, .int 0, .ref li, .ref pl, .ref te, .ref st, .null, .null, .int 0, .null, .null, .null, .null, .null, .null, .ref rr])) :: (rr, lu_ia cs 31) :: ((rest ++ [(st, .inl (cs 1, 6, .inr (.inr (.inr (.inr (f))))))]) ++ more))) (hS : va_S A H0 H locs)
    (kk : ∀ (k : Nat) (H : Heap) (locs : List Loc) (ls : Array Slot), lv_has ls 2 [(1, .int 1), (0, .ref h0)] → va_P D lu_cl ((h0, .inr (11, [.ref w1, .ref w2, .int 0, .ref li, .ref pl, .ref te, .ref st, .null, .null, .int 0, .null, .null, .null, .null, .null, .null, .ref rr])) :: (rr, lu_ia cs 31) :: ((rest ++ [(st, .inl (cs 1, 6, .inr (.inr (.inr (.inr (va_up f (0 : Int32).toNatClampNeg (some k)))))))]) ++ (more ++ [(k, lu_hE 0 0 1 1 rr)]))) H → va_D A ((h0, .inr (11, [.ref w1, .ref w2, .int 0, .ref li, .ref pl, .ref te, .ref st, .null, .null, .int 0, .null, .null, .null, .null, .null, .null, .ref rr])) :: (rr, lu_ia cs 31) :: ((rest ++ [(st, .inl (cs 1, 6, .inr (.inr (.inr (.inr (va_up f (0 : Int32).toNatClampNeg (some k)))))))]) ++ (more ++ [(k, lu_hE 0 0 1 1 rr)]))) → va_S A H0 H locs → W p l e lu_R11 s m args below meth c H locs (cells + 1) (slots + 6) Q (F0 m 95 ls [])) :
    W p l e lu_R11 s m args below meth c H locs cells slots Q (F0 m 95 ls []) := by
  obtain ⟨hx, hb, hml, hown, hts⟩ := S
  have hK := hB.1
  have hc : lu_cl[11]? = some (RX11, TX11, 17) := rfl
  have hin := lu_lay lu_lay11
  have hcl : cells + 1 ≤ lu_R11.cells := hcl
  have hsl : slots + 6 ≤ lu_R11.slots := hsl
  refine lv_iload_n hx hb dX11_init_95 rfl (lv_at hl 0 rfl) ?_
  refine lv_iconst (v := 5) hx hb dX11_init_96 (by decide) ?_
  refine lv_icmp_gt (tgt := 123) hx hb dX11_init_97 (by decide) (fun h => absurd h (by decide)) (fun _ => ?_)
  refine lv_aload_n hx hb dX11_init_100 rfl (lv_at hl 1 rfl) ?_
  refine va_get (D := D) hx hb hts hin hown hK hP 0 rfl hc 6 (by decide) (hts _ qfl11_54) (fun _ h => h) rfl dX11_init_101 ?_
  refine lv_iload_n hx hb dX11_init_104 rfl (lv_at hl 0 rfl) ?_
  refine lv_iload_n hx hb dX11_init_105 rfl (lv_at hl 0 rfl) ?_
  refine lv_iconst (v := 0) hx hb dX11_init_106 (by decide) ?_
  refine lv_iconst (v := 1) hx hb dX11_init_107 (by decide) ?_
  refine lv_iconst (v := 1) hx hb dX11_init_108 (by decide) ?_
  refine lv_aload_n hx hb dX11_init_109 rfl (lv_at hl 1 rfl) ?_
  refine va_get (D := D) hx hb hts hin hown hK hP 0 rfl hc 16 (by decide) (hts _ qfl11_9) (fun _ h => h) rfl dX11_init_110 ?_
  refine lu_mdB (kd := 0) (u := 0) (g := 1) (w := 1) (rr := rr) (gf := F0 m 113 ls [.ref rr, .int 1, .int 1, .int 0, .int 0, .int 0, .ref st]) hP hD hS hA (va_runS (As := [.int 0, .int 0, .int 1, .int 1, .ref rr]) (rest := [.int 0, .ref st]) ⟨hx, hb, hml, hown, hts⟩ (c11_made l D cs H.size rr 0 0 1 1) ⟨callB_of 5 hts (lu_gi (fun w hw => by
    rcases List.mem_cons.mp hw with rfl | hw
    · exact hw_cm
    · exact hw)) rfl rfl rfl (hts _ hw_i11) (hts _ hs_l11d) ⟨by decide, by decide, by decide +kernel⟩ ⟨by decide, by decide⟩, hts _ hw_st⟩ ⟨fun a U g mk q => by
    obtain ⟨q0, q1, qK⟩ := q
    exact ⟨q0, q1, va_K.moved (u := U) (U := U.calling g mk a) (Vm.Alike.refl U.vm) qK⟩, fun U hU hW => ⟨rfl, by rw [hU], va_K.moved hW.alike hK⟩⟩ rfl rfl hl.1 rfl (lv_room (Nat.le_of_ble_eq_true rfl)) dX11_init_113 ⟨by omega, by omega⟩) (fun k H locs hP hD hS => ?_)
  rw [lu_assoc] at hP hD
  refine va_astq (r := (RX3, TX3, 6)) hx hb hK hP hD hS (rest.length + 2) 1 (rest.length + more.length + 3) 3 lu_mid rfl (lu_last2 _) rfl (i := 0) (by unfold vp_in; decide) dX11_init_116 (fun H locs hP hD hS => ?_)
  rw [lu_mset] at hP hD
  refine lv_iinc (v := 1) (lv' := [(1, .int 1), (0, .ref h0)]) (k := 0) hx hb dX11_init_117 hl rfl (by decide) (by decide) rfl (fun ls hl => ?_)
  refine lv_goto (tgt := 95) hx hb dX11_init_120 rfl ?_
  exact kk k H locs ls hl hP hD hS
theorem c11_T1 {w1 w2 li pl te : Nat} {st : Nat} {more : va_W} {f : Nat → Option Nat} (S : CallFix p m c cX11_init 2 s args lu_ws RX11) (hB : lu_B D cs sa s) (hA : ∀ q, H0.size ≤ q → A q) (hl : lv_has ls 2 [(1, .int 1), (0, .ref h0)]) (hcl : cells + 1 ≤ 114) (hsl : slots + 6 ≤ 1717)
    (hP : va_P D lu_cl ((h0, .inr (11, [.ref w1, .ref w2, .int 0, .ref li, .ref pl, .ref te, .ref st, .null, .null, .int 0, .null, .null, .null, .null, .null, .null, .ref rr])) :: (rr, lu_ia cs 31) :: ((rest ++ [(st, .inl (cs 1, 6, .inr (.inr (.inr (.inr (f))))))]) ++ more)) H) (hD : va_D A ((h0, .inr (11, [.ref w1, .ref w2, .int 0, .ref li, .ref pl, .ref te, .ref st, .null, .null, .int 0, .null, .null, .null, .null, .null, .null, .ref rr])) :: (rr, lu_ia cs 31) :: ((rest ++ [(st, .inl (cs 1, 6, .inr (.inr (.inr (.inr (f))))))]) ++ more))) (hS : va_S A H0 H locs)
    (kk : ∀ (k : Nat) (H : Heap) (locs : List Loc) (ls : Array Slot), lv_has ls 2 [(1, .int 2), (0, .ref h0)] → va_P D lu_cl ((h0, .inr (11, [.ref w1, .ref w2, .int 0, .ref li, .ref pl, .ref te, .ref st, .null, .null, .int 0, .null, .null, .null, .null, .null, .null, .ref rr])) :: (rr, lu_ia cs 31) :: ((rest ++ [(st, .inl (cs 1, 6, .inr (.inr (.inr (.inr (va_up f (1 : Int32).toNatClampNeg (some k)))))))]) ++ (more ++ [(k, lu_hE 1 0 1 1 rr)]))) H → va_D A ((h0, .inr (11, [.ref w1, .ref w2, .int 0, .ref li, .ref pl, .ref te, .ref st, .null, .null, .int 0, .null, .null, .null, .null, .null, .null, .ref rr])) :: (rr, lu_ia cs 31) :: ((rest ++ [(st, .inl (cs 1, 6, .inr (.inr (.inr (.inr (va_up f (1 : Int32).toNatClampNeg (some k)))))))]) ++ (more ++ [(k, lu_hE 1 0 1 1 rr)]))) → va_S A H0 H locs → W p l e lu_R11 s m args below meth c H locs (cells + 1) (slots + 6) Q (F0 m 95 ls [])) :
    W p l e lu_R11 s m args below meth c H locs cells slots Q (F0 m 95 ls []) := by
  obtain ⟨hx, hb, hml, hown, hts⟩ := S
  have hK := hB.1
  have hc : lu_cl[11]? = some (RX11, TX11, 17) := rfl
  have hin := lu_lay lu_lay11
  have hcl : cells + 1 ≤ lu_R11.cells := hcl
  have hsl : slots + 6 ≤ lu_R11.slots := hsl
  refine lv_iload_n hx hb dX11_init_95 rfl (lv_at hl 0 rfl) ?_
  refine lv_iconst (v := 5) hx hb dX11_init_96 (by decide) ?_
  refine lv_icmp_gt (tgt := 123) hx hb dX11_init_97 (by decide) (fun h => absurd h (by decide)) (fun _ => ?_)
  refine lv_aload_n hx hb dX11_init_100 rfl (lv_at hl 1 rfl) ?_
  refine va_get (D := D) hx hb hts hin hown hK hP 0 rfl hc 6 (by decide) (hts _ qfl11_54) (fun _ h => h) rfl dX11_init_101 ?_
  refine lv_iload_n hx hb dX11_init_104 rfl (lv_at hl 0 rfl) ?_
  refine lv_iload_n hx hb dX11_init_105 rfl (lv_at hl 0 rfl) ?_
  refine lv_iconst (v := 0) hx hb dX11_init_106 (by decide) ?_
  refine lv_iconst (v := 1) hx hb dX11_init_107 (by decide) ?_
  refine lv_iconst (v := 1) hx hb dX11_init_108 (by decide) ?_
  refine lv_aload_n hx hb dX11_init_109 rfl (lv_at hl 1 rfl) ?_
  refine va_get (D := D) hx hb hts hin hown hK hP 0 rfl hc 16 (by decide) (hts _ qfl11_9) (fun _ h => h) rfl dX11_init_110 ?_
  refine lu_mdB (kd := 1) (u := 0) (g := 1) (w := 1) (rr := rr) (gf := F0 m 113 ls [.ref rr, .int 1, .int 1, .int 0, .int 1, .int 1, .ref st]) hP hD hS hA (va_runS (As := [.int 1, .int 0, .int 1, .int 1, .ref rr]) (rest := [.int 1, .ref st]) ⟨hx, hb, hml, hown, hts⟩ (c11_made l D cs H.size rr 1 0 1 1) ⟨callB_of 5 hts (lu_gi (fun w hw => by
    rcases List.mem_cons.mp hw with rfl | hw
    · exact hw_cm
    · exact hw)) rfl rfl rfl (hts _ hw_i11) (hts _ hs_l11d) ⟨by decide, by decide, by decide +kernel⟩ ⟨by decide, by decide⟩, hts _ hw_st⟩ ⟨fun a U g mk q => by
    obtain ⟨q0, q1, qK⟩ := q
    exact ⟨q0, q1, va_K.moved (u := U) (U := U.calling g mk a) (Vm.Alike.refl U.vm) qK⟩, fun U hU hW => ⟨rfl, by rw [hU], va_K.moved hW.alike hK⟩⟩ rfl rfl hl.1 rfl (lv_room (Nat.le_of_ble_eq_true rfl)) dX11_init_113 ⟨by omega, by omega⟩) (fun k H locs hP hD hS => ?_)
  rw [lu_assoc] at hP hD
  refine va_astqO (r := (RX0, TX0, 6)) (E := RX3) hx hb hK hP hD hS (rest.length + 2) 1 (rest.length + more.length + 3) 0 lu_mid rfl (hB.2.2.2.2.2.1 (RX0, RX3) (List.mem_of_getElem? (i := 0) rfl)) (lu_last2 _) rfl (i := 1) (by unfold vp_in; decide) dX11_init_116 (fun H locs hP hD hS => ?_)
  rw [lu_mset] at hP hD
  refine lv_iinc (v := 2) (lv' := [(1, .int 2), (0, .ref h0)]) (k := 0) hx hb dX11_init_117 hl rfl (by decide) (by decide) rfl (fun ls hl => ?_)
  refine lv_goto (tgt := 95) hx hb dX11_init_120 rfl ?_
  exact kk k H locs ls hl hP hD hS
theorem c11_T2 {w1 w2 li pl te : Nat} {st : Nat} {more : va_W} {f : Nat → Option Nat} (S : CallFix p m c cX11_init 2 s args lu_ws RX11) (hB : lu_B D cs sa s) (hA : ∀ q, H0.size ≤ q → A q) (hl : lv_has ls 2 [(1, .int 2), (0, .ref h0)]) (hcl : cells + 1 ≤ 114) (hsl : slots + 6 ≤ 1717)
    (hP : va_P D lu_cl ((h0, .inr (11, [.ref w1, .ref w2, .int 0, .ref li, .ref pl, .ref te, .ref st, .null, .null, .int 0, .null, .null, .null, .null, .null, .null, .ref rr])) :: (rr, lu_ia cs 31) :: ((rest ++ [(st, .inl (cs 1, 6, .inr (.inr (.inr (.inr (f))))))]) ++ more)) H) (hD : va_D A ((h0, .inr (11, [.ref w1, .ref w2, .int 0, .ref li, .ref pl, .ref te, .ref st, .null, .null, .int 0, .null, .null, .null, .null, .null, .null, .ref rr])) :: (rr, lu_ia cs 31) :: ((rest ++ [(st, .inl (cs 1, 6, .inr (.inr (.inr (.inr (f))))))]) ++ more))) (hS : va_S A H0 H locs)
    (kk : ∀ (k : Nat) (H : Heap) (locs : List Loc) (ls : Array Slot), lv_has ls 2 [(1, .int 3), (0, .ref h0)] → va_P D lu_cl ((h0, .inr (11, [.ref w1, .ref w2, .int 0, .ref li, .ref pl, .ref te, .ref st, .null, .null, .int 0, .null, .null, .null, .null, .null, .null, .ref rr])) :: (rr, lu_ia cs 31) :: ((rest ++ [(st, .inl (cs 1, 6, .inr (.inr (.inr (.inr (va_up f (2 : Int32).toNatClampNeg (some k)))))))]) ++ (more ++ [(k, lu_hE 2 0 1 1 rr)]))) H → va_D A ((h0, .inr (11, [.ref w1, .ref w2, .int 0, .ref li, .ref pl, .ref te, .ref st, .null, .null, .int 0, .null, .null, .null, .null, .null, .null, .ref rr])) :: (rr, lu_ia cs 31) :: ((rest ++ [(st, .inl (cs 1, 6, .inr (.inr (.inr (.inr (va_up f (2 : Int32).toNatClampNeg (some k)))))))]) ++ (more ++ [(k, lu_hE 2 0 1 1 rr)]))) → va_S A H0 H locs → W p l e lu_R11 s m args below meth c H locs (cells + 1) (slots + 6) Q (F0 m 95 ls [])) :
    W p l e lu_R11 s m args below meth c H locs cells slots Q (F0 m 95 ls []) := by
  obtain ⟨hx, hb, hml, hown, hts⟩ := S
  have hK := hB.1
  have hc : lu_cl[11]? = some (RX11, TX11, 17) := rfl
  have hin := lu_lay lu_lay11
  have hcl : cells + 1 ≤ lu_R11.cells := hcl
  have hsl : slots + 6 ≤ lu_R11.slots := hsl
  refine lv_iload_n hx hb dX11_init_95 rfl (lv_at hl 0 rfl) ?_
  refine lv_iconst (v := 5) hx hb dX11_init_96 (by decide) ?_
  refine lv_icmp_gt (tgt := 123) hx hb dX11_init_97 (by decide) (fun h => absurd h (by decide)) (fun _ => ?_)
  refine lv_aload_n hx hb dX11_init_100 rfl (lv_at hl 1 rfl) ?_
  refine va_get (D := D) hx hb hts hin hown hK hP 0 rfl hc 6 (by decide) (hts _ qfl11_54) (fun _ h => h) rfl dX11_init_101 ?_
  refine lv_iload_n hx hb dX11_init_104 rfl (lv_at hl 0 rfl) ?_
  refine lv_iload_n hx hb dX11_init_105 rfl (lv_at hl 0 rfl) ?_
  refine lv_iconst (v := 0) hx hb dX11_init_106 (by decide) ?_
  refine lv_iconst (v := 1) hx hb dX11_init_107 (by decide) ?_
  refine lv_iconst (v := 1) hx hb dX11_init_108 (by decide) ?_
  refine lv_aload_n hx hb dX11_init_109 rfl (lv_at hl 1 rfl) ?_
  refine va_get (D := D) hx hb hts hin hown hK hP 0 rfl hc 16 (by decide) (hts _ qfl11_9) (fun _ h => h) rfl dX11_init_110 ?_
  refine lu_mdB (kd := 2) (u := 0) (g := 1) (w := 1) (rr := rr) (gf := F0 m 113 ls [.ref rr, .int 1, .int 1, .int 0, .int 2, .int 2, .ref st]) hP hD hS hA (va_runS (As := [.int 2, .int 0, .int 1, .int 1, .ref rr]) (rest := [.int 2, .ref st]) ⟨hx, hb, hml, hown, hts⟩ (c11_made l D cs H.size rr 2 0 1 1) ⟨callB_of 5 hts (lu_gi (fun w hw => by
    rcases List.mem_cons.mp hw with rfl | hw
    · exact hw_cm
    · exact hw)) rfl rfl rfl (hts _ hw_i11) (hts _ hs_l11d) ⟨by decide, by decide, by decide +kernel⟩ ⟨by decide, by decide⟩, hts _ hw_st⟩ ⟨fun a U g mk q => by
    obtain ⟨q0, q1, qK⟩ := q
    exact ⟨q0, q1, va_K.moved (u := U) (U := U.calling g mk a) (Vm.Alike.refl U.vm) qK⟩, fun U hU hW => ⟨rfl, by rw [hU], va_K.moved hW.alike hK⟩⟩ rfl rfl hl.1 rfl (lv_room (Nat.le_of_ble_eq_true rfl)) dX11_init_113 ⟨by omega, by omega⟩) (fun k H locs hP hD hS => ?_)
  rw [lu_assoc] at hP hD
  refine va_astqO (r := (RX2, TX2, 6)) (E := RX3) hx hb hK hP hD hS (rest.length + 2) 1 (rest.length + more.length + 3) 2 lu_mid rfl (hB.2.2.2.2.2.1 (RX2, RX3) (List.mem_of_getElem? (i := 1) rfl)) (lu_last2 _) rfl (i := 2) (by unfold vp_in; decide) dX11_init_116 (fun H locs hP hD hS => ?_)
  rw [lu_mset] at hP hD
  refine lv_iinc (v := 3) (lv' := [(1, .int 3), (0, .ref h0)]) (k := 0) hx hb dX11_init_117 hl rfl (by decide) (by decide) rfl (fun ls hl => ?_)
  refine lv_goto (tgt := 95) hx hb dX11_init_120 rfl ?_
  exact kk k H locs ls hl hP hD hS
theorem c11_T3 {w1 w2 li pl te : Nat} {st : Nat} {more : va_W} {f : Nat → Option Nat} (S : CallFix p m c cX11_init 2 s args lu_ws RX11) (hB : lu_B D cs sa s) (hA : ∀ q, H0.size ≤ q → A q) (hl : lv_has ls 2 [(1, .int 3), (0, .ref h0)]) (hcl : cells + 1 ≤ 114) (hsl : slots + 6 ≤ 1717)
    (hP : va_P D lu_cl ((h0, .inr (11, [.ref w1, .ref w2, .int 0, .ref li, .ref pl, .ref te, .ref st, .null, .null, .int 0, .null, .null, .null, .null, .null, .null, .ref rr])) :: (rr, lu_ia cs 31) :: ((rest ++ [(st, .inl (cs 1, 6, .inr (.inr (.inr (.inr (f))))))]) ++ more)) H) (hD : va_D A ((h0, .inr (11, [.ref w1, .ref w2, .int 0, .ref li, .ref pl, .ref te, .ref st, .null, .null, .int 0, .null, .null, .null, .null, .null, .null, .ref rr])) :: (rr, lu_ia cs 31) :: ((rest ++ [(st, .inl (cs 1, 6, .inr (.inr (.inr (.inr (f))))))]) ++ more))) (hS : va_S A H0 H locs)
    (kk : ∀ (k : Nat) (H : Heap) (locs : List Loc) (ls : Array Slot), lv_has ls 2 [(1, .int 4), (0, .ref h0)] → va_P D lu_cl ((h0, .inr (11, [.ref w1, .ref w2, .int 0, .ref li, .ref pl, .ref te, .ref st, .null, .null, .int 0, .null, .null, .null, .null, .null, .null, .ref rr])) :: (rr, lu_ia cs 31) :: ((rest ++ [(st, .inl (cs 1, 6, .inr (.inr (.inr (.inr (va_up f (3 : Int32).toNatClampNeg (some k)))))))]) ++ (more ++ [(k, lu_hE 3 0 1 1 rr)]))) H → va_D A ((h0, .inr (11, [.ref w1, .ref w2, .int 0, .ref li, .ref pl, .ref te, .ref st, .null, .null, .int 0, .null, .null, .null, .null, .null, .null, .ref rr])) :: (rr, lu_ia cs 31) :: ((rest ++ [(st, .inl (cs 1, 6, .inr (.inr (.inr (.inr (va_up f (3 : Int32).toNatClampNeg (some k)))))))]) ++ (more ++ [(k, lu_hE 3 0 1 1 rr)]))) → va_S A H0 H locs → W p l e lu_R11 s m args below meth c H locs (cells + 1) (slots + 6) Q (F0 m 95 ls [])) :
    W p l e lu_R11 s m args below meth c H locs cells slots Q (F0 m 95 ls []) := by
  obtain ⟨hx, hb, hml, hown, hts⟩ := S
  have hK := hB.1
  have hc : lu_cl[11]? = some (RX11, TX11, 17) := rfl
  have hin := lu_lay lu_lay11
  have hcl : cells + 1 ≤ lu_R11.cells := hcl
  have hsl : slots + 6 ≤ lu_R11.slots := hsl
  refine lv_iload_n hx hb dX11_init_95 rfl (lv_at hl 0 rfl) ?_
  refine lv_iconst (v := 5) hx hb dX11_init_96 (by decide) ?_
  refine lv_icmp_gt (tgt := 123) hx hb dX11_init_97 (by decide) (fun h => absurd h (by decide)) (fun _ => ?_)
  refine lv_aload_n hx hb dX11_init_100 rfl (lv_at hl 1 rfl) ?_
  refine va_get (D := D) hx hb hts hin hown hK hP 0 rfl hc 6 (by decide) (hts _ qfl11_54) (fun _ h => h) rfl dX11_init_101 ?_
  refine lv_iload_n hx hb dX11_init_104 rfl (lv_at hl 0 rfl) ?_
  refine lv_iload_n hx hb dX11_init_105 rfl (lv_at hl 0 rfl) ?_
  refine lv_iconst (v := 0) hx hb dX11_init_106 (by decide) ?_
  refine lv_iconst (v := 1) hx hb dX11_init_107 (by decide) ?_
  refine lv_iconst (v := 1) hx hb dX11_init_108 (by decide) ?_
  refine lv_aload_n hx hb dX11_init_109 rfl (lv_at hl 1 rfl) ?_
  refine va_get (D := D) hx hb hts hin hown hK hP 0 rfl hc 16 (by decide) (hts _ qfl11_9) (fun _ h => h) rfl dX11_init_110 ?_
  refine lu_mdB (kd := 3) (u := 0) (g := 1) (w := 1) (rr := rr) (gf := F0 m 113 ls [.ref rr, .int 1, .int 1, .int 0, .int 3, .int 3, .ref st]) hP hD hS hA (va_runS (As := [.int 3, .int 0, .int 1, .int 1, .ref rr]) (rest := [.int 3, .ref st]) ⟨hx, hb, hml, hown, hts⟩ (c11_made l D cs H.size rr 3 0 1 1) ⟨callB_of 5 hts (lu_gi (fun w hw => by
    rcases List.mem_cons.mp hw with rfl | hw
    · exact hw_cm
    · exact hw)) rfl rfl rfl (hts _ hw_i11) (hts _ hs_l11d) ⟨by decide, by decide, by decide +kernel⟩ ⟨by decide, by decide⟩, hts _ hw_st⟩ ⟨fun a U g mk q => by
    obtain ⟨q0, q1, qK⟩ := q
    exact ⟨q0, q1, va_K.moved (u := U) (U := U.calling g mk a) (Vm.Alike.refl U.vm) qK⟩, fun U hU hW => ⟨rfl, by rw [hU], va_K.moved hW.alike hK⟩⟩ rfl rfl hl.1 rfl (lv_room (Nat.le_of_ble_eq_true rfl)) dX11_init_113 ⟨by omega, by omega⟩) (fun k H locs hP hD hS => ?_)
  rw [lu_assoc] at hP hD
  refine va_astqO (r := (RX9, TX9, 6)) (E := RX3) hx hb hK hP hD hS (rest.length + 2) 1 (rest.length + more.length + 3) 9 lu_mid rfl (hB.2.2.2.2.2.1 (RX9, RX3) (List.mem_of_getElem? (i := 2) rfl)) (lu_last2 _) rfl (i := 3) (by unfold vp_in; decide) dX11_init_116 (fun H locs hP hD hS => ?_)
  rw [lu_mset] at hP hD
  refine lv_iinc (v := 4) (lv' := [(1, .int 4), (0, .ref h0)]) (k := 0) hx hb dX11_init_117 hl rfl (by decide) (by decide) rfl (fun ls hl => ?_)
  refine lv_goto (tgt := 95) hx hb dX11_init_120 rfl ?_
  exact kk k H locs ls hl hP hD hS
theorem c11_T4 {w1 w2 li pl te : Nat} {st : Nat} {more : va_W} {f : Nat → Option Nat} (S : CallFix p m c cX11_init 2 s args lu_ws RX11) (hB : lu_B D cs sa s) (hA : ∀ q, H0.size ≤ q → A q) (hl : lv_has ls 2 [(1, .int 4), (0, .ref h0)]) (hcl : cells + 1 ≤ 114) (hsl : slots + 6 ≤ 1717)
    (hP : va_P D lu_cl ((h0, .inr (11, [.ref w1, .ref w2, .int 0, .ref li, .ref pl, .ref te, .ref st, .null, .null, .int 0, .null, .null, .null, .null, .null, .null, .ref rr])) :: (rr, lu_ia cs 31) :: ((rest ++ [(st, .inl (cs 1, 6, .inr (.inr (.inr (.inr (f))))))]) ++ more)) H) (hD : va_D A ((h0, .inr (11, [.ref w1, .ref w2, .int 0, .ref li, .ref pl, .ref te, .ref st, .null, .null, .int 0, .null, .null, .null, .null, .null, .null, .ref rr])) :: (rr, lu_ia cs 31) :: ((rest ++ [(st, .inl (cs 1, 6, .inr (.inr (.inr (.inr (f))))))]) ++ more))) (hS : va_S A H0 H locs)
    (kk : ∀ (k : Nat) (H : Heap) (locs : List Loc) (ls : Array Slot), lv_has ls 2 [(1, .int 5), (0, .ref h0)] → va_P D lu_cl ((h0, .inr (11, [.ref w1, .ref w2, .int 0, .ref li, .ref pl, .ref te, .ref st, .null, .null, .int 0, .null, .null, .null, .null, .null, .null, .ref rr])) :: (rr, lu_ia cs 31) :: ((rest ++ [(st, .inl (cs 1, 6, .inr (.inr (.inr (.inr (va_up f (4 : Int32).toNatClampNeg (some k)))))))]) ++ (more ++ [(k, lu_hE 4 0 1 1 rr)]))) H → va_D A ((h0, .inr (11, [.ref w1, .ref w2, .int 0, .ref li, .ref pl, .ref te, .ref st, .null, .null, .int 0, .null, .null, .null, .null, .null, .null, .ref rr])) :: (rr, lu_ia cs 31) :: ((rest ++ [(st, .inl (cs 1, 6, .inr (.inr (.inr (.inr (va_up f (4 : Int32).toNatClampNeg (some k)))))))]) ++ (more ++ [(k, lu_hE 4 0 1 1 rr)]))) → va_S A H0 H locs → W p l e lu_R11 s m args below meth c H locs (cells + 1) (slots + 6) Q (F0 m 95 ls [])) :
    W p l e lu_R11 s m args below meth c H locs cells slots Q (F0 m 95 ls []) := by
  obtain ⟨hx, hb, hml, hown, hts⟩ := S
  have hK := hB.1
  have hc : lu_cl[11]? = some (RX11, TX11, 17) := rfl
  have hin := lu_lay lu_lay11
  have hcl : cells + 1 ≤ lu_R11.cells := hcl
  have hsl : slots + 6 ≤ lu_R11.slots := hsl
  refine lv_iload_n hx hb dX11_init_95 rfl (lv_at hl 0 rfl) ?_
  refine lv_iconst (v := 5) hx hb dX11_init_96 (by decide) ?_
  refine lv_icmp_gt (tgt := 123) hx hb dX11_init_97 (by decide) (fun h => absurd h (by decide)) (fun _ => ?_)
  refine lv_aload_n hx hb dX11_init_100 rfl (lv_at hl 1 rfl) ?_
  refine va_get (D := D) hx hb hts hin hown hK hP 0 rfl hc 6 (by decide) (hts _ qfl11_54) (fun _ h => h) rfl dX11_init_101 ?_
  refine lv_iload_n hx hb dX11_init_104 rfl (lv_at hl 0 rfl) ?_
  refine lv_iload_n hx hb dX11_init_105 rfl (lv_at hl 0 rfl) ?_
  refine lv_iconst (v := 0) hx hb dX11_init_106 (by decide) ?_
  refine lv_iconst (v := 1) hx hb dX11_init_107 (by decide) ?_
  refine lv_iconst (v := 1) hx hb dX11_init_108 (by decide) ?_
  refine lv_aload_n hx hb dX11_init_109 rfl (lv_at hl 1 rfl) ?_
  refine va_get (D := D) hx hb hts hin hown hK hP 0 rfl hc 16 (by decide) (hts _ qfl11_9) (fun _ h => h) rfl dX11_init_110 ?_
  refine lu_mdB (kd := 4) (u := 0) (g := 1) (w := 1) (rr := rr) (gf := F0 m 113 ls [.ref rr, .int 1, .int 1, .int 0, .int 4, .int 4, .ref st]) hP hD hS hA (va_runS (As := [.int 4, .int 0, .int 1, .int 1, .ref rr]) (rest := [.int 4, .ref st]) ⟨hx, hb, hml, hown, hts⟩ (c11_made l D cs H.size rr 4 0 1 1) ⟨callB_of 5 hts (lu_gi (fun w hw => by
    rcases List.mem_cons.mp hw with rfl | hw
    · exact hw_cm
    · exact hw)) rfl rfl rfl (hts _ hw_i11) (hts _ hs_l11d) ⟨by decide, by decide, by decide +kernel⟩ ⟨by decide, by decide⟩, hts _ hw_st⟩ ⟨fun a U g mk q => by
    obtain ⟨q0, q1, qK⟩ := q
    exact ⟨q0, q1, va_K.moved (u := U) (U := U.calling g mk a) (Vm.Alike.refl U.vm) qK⟩, fun U hU hW => ⟨rfl, by rw [hU], va_K.moved hW.alike hK⟩⟩ rfl rfl hl.1 rfl (lv_room (Nat.le_of_ble_eq_true rfl)) dX11_init_113 ⟨by omega, by omega⟩) (fun k H locs hP hD hS => ?_)
  rw [lu_assoc] at hP hD
  refine va_astqO (r := (RX7, TX7, 6)) (E := RX3) hx hb hK hP hD hS (rest.length + 2) 1 (rest.length + more.length + 3) 7 lu_mid rfl (hB.2.2.2.2.2.1 (RX7, RX3) (List.mem_of_getElem? (i := 3) rfl)) (lu_last2 _) rfl (i := 4) (by unfold vp_in; decide) dX11_init_116 (fun H locs hP hD hS => ?_)
  rw [lu_mset] at hP hD
  refine lv_iinc (v := 5) (lv' := [(1, .int 5), (0, .ref h0)]) (k := 0) hx hb dX11_init_117 hl rfl (by decide) (by decide) rfl (fun ls hl => ?_)
  refine lv_goto (tgt := 95) hx hb dX11_init_120 rfl ?_
  exact kk k H locs ls hl hP hD hS
theorem c11_T5 {w1 w2 li pl te : Nat} {st : Nat} {more : va_W} {f : Nat → Option Nat} (S : CallFix p m c cX11_init 2 s args lu_ws RX11) (hB : lu_B D cs sa s) (hA : ∀ q, H0.size ≤ q → A q) (hl : lv_has ls 2 [(1, .int 5), (0, .ref h0)]) (hcl : cells + 1 ≤ 114) (hsl : slots + 6 ≤ 1717)
    (hP : va_P D lu_cl ((h0, .inr (11, [.ref w1, .ref w2, .int 0, .ref li, .ref pl, .ref te, .ref st, .null, .null, .int 0, .null, .null, .null, .null, .null, .null, .ref rr])) :: (rr, lu_ia cs 31) :: ((rest ++ [(st, .inl (cs 1, 6, .inr (.inr (.inr (.inr (f))))))]) ++ more)) H) (hD : va_D A ((h0, .inr (11, [.ref w1, .ref w2, .int 0, .ref li, .ref pl, .ref te, .ref st, .null, .null, .int 0, .null, .null, .null, .null, .null, .null, .ref rr])) :: (rr, lu_ia cs 31) :: ((rest ++ [(st, .inl (cs 1, 6, .inr (.inr (.inr (.inr (f))))))]) ++ more))) (hS : va_S A H0 H locs)
    (kk : ∀ (k : Nat) (H : Heap) (locs : List Loc) (ls : Array Slot), lv_has ls 2 [(1, .int 6), (0, .ref h0)] → va_P D lu_cl ((h0, .inr (11, [.ref w1, .ref w2, .int 0, .ref li, .ref pl, .ref te, .ref st, .null, .null, .int 0, .null, .null, .null, .null, .null, .null, .ref rr])) :: (rr, lu_ia cs 31) :: ((rest ++ [(st, .inl (cs 1, 6, .inr (.inr (.inr (.inr (va_up f (5 : Int32).toNatClampNeg (some k)))))))]) ++ (more ++ [(k, lu_hE 5 0 1 1 rr)]))) H → va_D A ((h0, .inr (11, [.ref w1, .ref w2, .int 0, .ref li, .ref pl, .ref te, .ref st, .null, .null, .int 0, .null, .null, .null, .null, .null, .null, .ref rr])) :: (rr, lu_ia cs 31) :: ((rest ++ [(st, .inl (cs 1, 6, .inr (.inr (.inr (.inr (va_up f (5 : Int32).toNatClampNeg (some k)))))))]) ++ (more ++ [(k, lu_hE 5 0 1 1 rr)]))) → va_S A H0 H locs → W p l e lu_R11 s m args below meth c H locs (cells + 1) (slots + 6) Q (F0 m 95 ls [])) :
    W p l e lu_R11 s m args below meth c H locs cells slots Q (F0 m 95 ls []) := by
  obtain ⟨hx, hb, hml, hown, hts⟩ := S
  have hK := hB.1
  have hc : lu_cl[11]? = some (RX11, TX11, 17) := rfl
  have hin := lu_lay lu_lay11
  have hcl : cells + 1 ≤ lu_R11.cells := hcl
  have hsl : slots + 6 ≤ lu_R11.slots := hsl
  refine lv_iload_n hx hb dX11_init_95 rfl (lv_at hl 0 rfl) ?_
  refine lv_iconst (v := 5) hx hb dX11_init_96 (by decide) ?_
  refine lv_icmp_gt (tgt := 123) hx hb dX11_init_97 (by decide) (fun h => absurd h (by decide)) (fun _ => ?_)
  refine lv_aload_n hx hb dX11_init_100 rfl (lv_at hl 1 rfl) ?_
  refine va_get (D := D) hx hb hts hin hown hK hP 0 rfl hc 6 (by decide) (hts _ qfl11_54) (fun _ h => h) rfl dX11_init_101 ?_
  refine lv_iload_n hx hb dX11_init_104 rfl (lv_at hl 0 rfl) ?_
  refine lv_iload_n hx hb dX11_init_105 rfl (lv_at hl 0 rfl) ?_
  refine lv_iconst (v := 0) hx hb dX11_init_106 (by decide) ?_
  refine lv_iconst (v := 1) hx hb dX11_init_107 (by decide) ?_
  refine lv_iconst (v := 1) hx hb dX11_init_108 (by decide) ?_
  refine lv_aload_n hx hb dX11_init_109 rfl (lv_at hl 1 rfl) ?_
  refine va_get (D := D) hx hb hts hin hown hK hP 0 rfl hc 16 (by decide) (hts _ qfl11_9) (fun _ h => h) rfl dX11_init_110 ?_
  refine lu_mdB (kd := 5) (u := 0) (g := 1) (w := 1) (rr := rr) (gf := F0 m 113 ls [.ref rr, .int 1, .int 1, .int 0, .int 5, .int 5, .ref st]) hP hD hS hA (va_runS (As := [.int 5, .int 0, .int 1, .int 1, .ref rr]) (rest := [.int 5, .ref st]) ⟨hx, hb, hml, hown, hts⟩ (c11_made l D cs H.size rr 5 0 1 1) ⟨callB_of 5 hts (lu_gi (fun w hw => by
    rcases List.mem_cons.mp hw with rfl | hw
    · exact hw_cm
    · exact hw)) rfl rfl rfl (hts _ hw_i11) (hts _ hs_l11d) ⟨by decide, by decide, by decide +kernel⟩ ⟨by decide, by decide⟩, hts _ hw_st⟩ ⟨fun a U g mk q => by
    obtain ⟨q0, q1, qK⟩ := q
    exact ⟨q0, q1, va_K.moved (u := U) (U := U.calling g mk a) (Vm.Alike.refl U.vm) qK⟩, fun U hU hW => ⟨rfl, by rw [hU], va_K.moved hW.alike hK⟩⟩ rfl rfl hl.1 rfl (lv_room (Nat.le_of_ble_eq_true rfl)) dX11_init_113 ⟨by omega, by omega⟩) (fun k H locs hP hD hS => ?_)
  rw [lu_assoc] at hP hD
  refine va_astqO (r := (RX4, TX4, 6)) (E := RX3) hx hb hK hP hD hS (rest.length + 2) 1 (rest.length + more.length + 3) 4 lu_mid rfl (hB.2.2.2.2.2.1 (RX4, RX3) (List.mem_of_getElem? (i := 4) rfl)) (lu_last2 _) rfl (i := 5) (by unfold vp_in; decide) dX11_init_116 (fun H locs hP hD hS => ?_)
  rw [lu_mset] at hP hD
  refine lv_iinc (v := 6) (lv' := [(1, .int 6), (0, .ref h0)]) (k := 0) hx hb dX11_init_117 hl rfl (by decide) (by decide) rfl (fun ls hl => ?_)
  refine lv_goto (tgt := 95) hx hb dX11_init_120 rfl ?_
  exact kk k H locs ls hl hP hD hS
theorem c11_R {w1 w2 li pl te st : Nat} (S : CallFix p m c cX11_init 2 s args lu_ws RX11) (hni : meth.name = "<init>") (hB : lu_B D cs sa s) (hA : ∀ q, H0.size ≤ q → A q) {lv : List (Nat × Value)} (hl : lv_has ls 2 lv) (kv : Nat) (h00 : lv[kv]? = some (0, .ref h0)) (hcl : cells + 13 ≤ 114) (hsl : slots + 252 ≤ 1717) (hP : va_P D lu_cl ((h0, .inr (11, [.ref w1, .ref w2, .int 0, .ref li, .ref pl, .ref te, .ref st, .null, .null, .int 0, .null, .null, .null, .null, .null, .null, .ref rr])) :: (rr, lu_ia cs 31) :: rest) H) (hD : va_D A ((h0, .inr (11, [.ref w1, .ref w2, .int 0, .ref li, .ref pl, .ref te, .ref st, .null, .null, .int 0, .null, .null, .null, .null, .null, .null, .ref rr])) :: (rr, lu_ia cs 31) :: rest)) (hS : va_S A H0 H locs)
    (kk : ∀ (gr ro so sz it : Nat) (H : Heap) (locs : List Loc), va_P D lu_cl ((h0, .inr (11, [.ref w1, .ref w2, .int 0, .ref li, .ref pl, .ref te, .ref st, .ref gr, .ref ro, .int 0, .ref so, .ref sz, .ref it, .null, .null, .null, .ref rr])) :: (rr, lu_ia cs 31) :: ((((rest ++ [(gr, lu_ia cs 64)]) ++ lu_gr cs ro 4 3) ++ [(so, lu_ia cs 4)]) ++ ([(sz, lu_ia cs 4)] ++ lu_gr cs it 4 40))) H → va_D A ((h0, .inr (11, [.ref w1, .ref w2, .int 0, .ref li, .ref pl, .ref te, .ref st, .ref gr, .ref ro, .int 0, .ref so, .ref sz, .ref it, .null, .null, .null, .ref rr])) :: (rr, lu_ia cs 31) :: ((((rest ++ [(gr, lu_ia cs 64)]) ++ lu_gr cs ro 4 3) ++ [(so, lu_ia cs 4)]) ++ ([(sz, lu_ia cs 4)] ++ lu_gr cs it 4 40))) → va_S A H0 H locs → W p l e lu_R11 s m args below meth c H locs (cells + 13) (slots + 252) Q (F0 m 171 ls [])) :
    W p l e lu_R11 s m args below meth c H locs cells slots Q (F0 m 123 ls []) := by
  obtain ⟨hx, hb, hml, hown, hts⟩ := S
  have hK := hB.1
  have hc : lu_cl[11]? = some (RX11, TX11, 17) := rfl
  have hin := lu_lay lu_lay11
  have hcl : cells + 13 ≤ lu_R11.cells := hcl
  have hsl : slots + 252 ≤ lu_R11.slots := hsl
  refine lv_aload_n hx hb dX11_init_123 rfl (lv_at hl kv h00) ?_
  refine lv_bipush (v := 64) hx hb dX11_init_124 (by decide) ?_
  refine lu_newI (N := 64) hx hb hts hK hP hD hS hA (by decide) (by decide) (by decide) (by omega) (by omega) dX11_init_126 (fun gr H hP hD hS => ?_)
  refine va_putF (v := .ref gr) (ty := .array .int) hx hb hts hin tyX11 tyX11_ok nmX11 hown hK hP hD hS 0 rfl hc 7 (by decide) (hts _ qfl11_62) (fun _ h => h) rfl hni rfl (by decide +kernel) rfl rfl (Nat.le_of_ble_eq_true rfl) dX11_init_128 (fun H locs hP hD hS => ?_)
  have hP : va_P D lu_cl ((h0, .inr (11, [.ref w1, .ref w2, .int 0, .ref li, .ref pl, .ref te, .ref st, .ref gr, .null, .int 0, .null, .null, .null, .null, .null, .null, .ref rr])) :: (rr, lu_ia cs 31) :: (rest ++ [(gr, lu_ia cs 64)])) H := hP
  have hD : va_D A ((h0, .inr (11, [.ref w1, .ref w2, .int 0, .ref li, .ref pl, .ref te, .ref st, .ref gr, .null, .int 0, .null, .null, .null, .null, .null, .null, .ref rr])) :: (rr, lu_ia cs 31) :: (rest ++ [(gr, lu_ia cs 64)])) := hD
  generalize hr0 : rest ++ [(gr, lu_ia cs 64)] = rest0 at hP hD
  refine lv_aload_n hx hb dX11_init_131 rfl (lv_at hl kv h00) ?_
  refine lv_iconst (v := 4) hx hb dX11_init_132 (by decide) ?_
  refine lv_iconst (v := 3) hx hb dX11_init_133 (by decide) ?_
  refine lu_multi (N := 4) (M := 3) hx hb hown (hts _ hs_k11f) hB.2.2.2.1 (hts _ hs_ai) hK hP hD hS hA (by decide) (by decide) (by decide) (by decide) (by decide) (by decide) (by omega) (by omega) dX11_init_134 (fun H1 locs hP hD hS => ?_)
  generalize H.size = ro at hP hD ⊢
  refine va_putF (v := .ref ro) (ty := .array (.array .int)) hx hb hts hin tyX11 tyX11_ok nmX11 hown hK hP hD hS 0 rfl hc 8 (by decide) (hts _ qfl11_67) (fun _ h => h) rfl hni rfl (by decide +kernel) rfl rfl (Nat.le_of_ble_eq_true rfl) dX11_init_138 (fun H locs hP hD hS => ?_)
  have hP : va_P D lu_cl ((h0, .inr (11, [.ref w1, .ref w2, .int 0, .ref li, .ref pl, .ref te, .ref st, .ref gr, .ref ro, .int 0, .null, .null, .null, .null, .null, .null, .ref rr])) :: (rr, lu_ia cs 31) :: (rest0 ++ lu_gr cs ro 4 3)) H := hP
  have hD : va_D A ((h0, .inr (11, [.ref w1, .ref w2, .int 0, .ref li, .ref pl, .ref te, .ref st, .ref gr, .ref ro, .int 0, .null, .null, .null, .null, .null, .null, .ref rr])) :: (rr, lu_ia cs 31) :: (rest0 ++ lu_gr cs ro 4 3)) := hD
  generalize hr1 : rest0 ++ lu_gr cs ro 4 3 = rest1 at hP hD
  refine lv_aload_n hx hb dX11_init_141 rfl (lv_at hl kv h00) ?_
  refine lv_iconst (v := 0) hx hb dX11_init_142 (by decide) ?_
  refine va_put (v := .int 0) (ty := .int) hx hb hts hin tyX11 tyX11_ok nmX11 hown hK hP hD hS 0 rfl hc 9 (by decide) (hts _ qfl11_70) (fun _ h => h) rfl rfl rfl rfl (Nat.le_of_ble_eq_true rfl) dX11_init_143 (fun H locs hP hD hS => ?_)
  have hP : va_P D lu_cl ((h0, .inr (11, [.ref w1, .ref w2, .int 0, .ref li, .ref pl, .ref te, .ref st, .ref gr, .ref ro, .int 0, .null, .null, .null, .null, .null, .null, .ref rr])) :: (rr, lu_ia cs 31) :: rest1) H := hP
  have hD : va_D A ((h0, .inr (11, [.ref w1, .ref w2, .int 0, .ref li, .ref pl, .ref te, .ref st, .ref gr, .ref ro, .int 0, .null, .null, .null, .null, .null, .null, .ref rr])) :: (rr, lu_ia cs 31) :: rest1) := hD
  refine lv_aload_n hx hb dX11_init_146 rfl (lv_at hl kv h00) ?_
  refine lv_iconst (v := 4) hx hb dX11_init_147 (by decide) ?_
  refine lu_newI (N := 4) hx hb hts hK hP hD hS hA (by decide) (by decide) (by decide) (by omega) (by omega) dX11_init_148 (fun so H hP hD hS => ?_)
  refine va_putF (v := .ref so) (ty := .array .int) hx hb hts hin tyX11 tyX11_ok nmX11 hown hK hP hD hS 0 rfl hc 10 (by decide) (hts _ qfl11_74) (fun _ h => h) rfl hni rfl (by decide +kernel) rfl rfl (Nat.le_of_ble_eq_true rfl) dX11_init_150 (fun H locs hP hD hS => ?_)
  have hP : va_P D lu_cl ((h0, .inr (11, [.ref w1, .ref w2, .int 0, .ref li, .ref pl, .ref te, .ref st, .ref gr, .ref ro, .int 0, .ref so, .null, .null, .null, .null, .null, .ref rr])) :: (rr, lu_ia cs 31) :: (rest1 ++ [(so, lu_ia cs 4)])) H := hP
  have hD : va_D A ((h0, .inr (11, [.ref w1, .ref w2, .int 0, .ref li, .ref pl, .ref te, .ref st, .ref gr, .ref ro, .int 0, .ref so, .null, .null, .null, .null, .null, .ref rr])) :: (rr, lu_ia cs 31) :: (rest1 ++ [(so, lu_ia cs 4)])) := hD
  generalize hr2 : rest1 ++ [(so, lu_ia cs 4)] = rest2 at hP hD
  refine lv_aload_n hx hb dX11_init_153 rfl (lv_at hl kv h00) ?_
  refine lv_iconst (v := 4) hx hb dX11_init_154 (by decide) ?_
  refine lu_newI (N := 4) hx hb hts hK hP hD hS hA (by decide) (by decide) (by decide) (by omega) (by omega) dX11_init_155 (fun sz H hP hD hS => ?_)
  refine va_putF (v := .ref sz) (ty := .array .int) hx hb hts hin tyX11 tyX11_ok nmX11 hown hK hP hD hS 0 rfl hc 11 (by decide) (hts _ qfl11_77) (fun _ h => h) rfl hni rfl (by decide +kernel) rfl rfl (Nat.le_of_ble_eq_true rfl) dX11_init_157 (fun H locs hP hD hS => ?_)
  have hP : va_P D lu_cl ((h0, .inr (11, [.ref w1, .ref w2, .int 0, .ref li, .ref pl, .ref te, .ref st, .ref gr, .ref ro, .int 0, .ref so, .ref sz, .null, .null, .null, .null, .ref rr])) :: (rr, lu_ia cs 31) :: (rest2 ++ [(sz, lu_ia cs 4)])) H := hP
  have hD : va_D A ((h0, .inr (11, [.ref w1, .ref w2, .int 0, .ref li, .ref pl, .ref te, .ref st, .ref gr, .ref ro, .int 0, .ref so, .ref sz, .null, .null, .null, .null, .ref rr])) :: (rr, lu_ia cs 31) :: (rest2 ++ [(sz, lu_ia cs 4)])) := hD
  generalize hr3 : rest2 ++ [(sz, lu_ia cs 4)] = rest3 at hP hD
  refine lv_aload_n hx hb dX11_init_160 rfl (lv_at hl kv h00) ?_
  refine lv_iconst (v := 4) hx hb dX11_init_161 (by decide) ?_
  refine lv_bipush (v := 40) hx hb dX11_init_162 (by decide) ?_
  refine lu_multi (N := 4) (M := 40) hx hb hown (hts _ hs_k11f) hB.2.2.2.1 (hts _ hs_ai) hK hP hD hS hA (by decide) (by decide) (by decide) (by decide) (by decide) (by decide) (by omega) (by omega) dX11_init_164 (fun H1 locs hP hD hS => ?_)
  generalize H.size = it at hP hD ⊢
  refine va_putF (v := .ref it) (ty := .array (.array .int)) hx hb hts hin tyX11 tyX11_ok nmX11 hown hK hP hD hS 0 rfl hc 12 (by decide) (hts _ qfl11_80) (fun _ h => h) rfl hni rfl (by decide +kernel) rfl rfl (Nat.le_of_ble_eq_true rfl) dX11_init_168 (fun H locs hP hD hS => ?_)
  have hP : va_P D lu_cl ((h0, .inr (11, [.ref w1, .ref w2, .int 0, .ref li, .ref pl, .ref te, .ref st, .ref gr, .ref ro, .int 0, .ref so, .ref sz, .ref it, .null, .null, .null, .ref rr])) :: (rr, lu_ia cs 31) :: (rest3 ++ lu_gr cs it 4 40)) H := hP
  have hD : va_D A ((h0, .inr (11, [.ref w1, .ref w2, .int 0, .ref li, .ref pl, .ref te, .ref st, .ref gr, .ref ro, .int 0, .ref so, .ref sz, .ref it, .null, .null, .null, .ref rr])) :: (rr, lu_ia cs 31) :: (rest3 ++ lu_gr cs it 4 40)) := hD

  subst hr0 hr1 hr2 hr3
  exact kk gr ro so sz it H locs (by rw [← List.append_assoc ((((rest ++ [(gr, lu_ia cs 64)]) ++ lu_gr cs ro 4 3) ++ [(so, lu_ia cs 4)]))]; exact hP) (by rw [← List.append_assoc ((((rest ++ [(gr, lu_ia cs 64)]) ++ lu_gr cs ro 4 3) ++ [(so, lu_ia cs 4)]))]; exact hD) hS
theorem c11_L1 {w1 w2 li pl te st gr ro so sz it : Nat} {more : va_W} {f : Nat → Int32} {i i' : Int32} (S : CallFix p m c cX11_init 2 s args lu_ws RX11) (hB : lu_B D cs sa s) (hl : lv_has ls 2 [(1, .int i), (0, .ref h0)]) (hi : ¬ (4 : Int32) ≤ i) (hi2 : vp_in i 4) (hi' : i + 1 = i')
    (hP : va_P D lu_cl ((h0, .inr (11, [.ref w1, .ref w2, .int 0, .ref li, .ref pl, .ref te, .ref st, .ref gr, .ref ro, .int 0, .ref so, .ref sz, .ref it, .null, .null, .null, .ref rr])) :: (rr, lu_ia cs 31) :: ((rest ++ [(so, .inl (cs 0, 4, .inl (f)))]) ++ more)) H) (hD : va_D A ((h0, .inr (11, [.ref w1, .ref w2, .int 0, .ref li, .ref pl, .ref te, .ref st, .ref gr, .ref ro, .int 0, .ref so, .ref sz, .ref it, .null, .null, .null, .ref rr])) :: (rr, lu_ia cs 31) :: ((rest ++ [(so, .inl (cs 0, 4, .inl (f)))]) ++ more))) (hS : va_S A H0 H locs)
    (kk : ∀ (H : Heap) (locs : List Loc) (ls : Array Slot), lv_has ls 2 [(1, .int i'), (0, .ref h0)] → va_P D lu_cl ((h0, .inr (11, [.ref w1, .ref w2, .int 0, .ref li, .ref pl, .ref te, .ref st, .ref gr, .ref ro, .int 0, .ref so, .ref sz, .ref it, .null, .null, .null, .ref rr])) :: (rr, lu_ia cs 31) :: ((rest ++ [(so, .inl (cs 0, 4, .inl (upd f i.toNatClampNeg (-1))))]) ++ more)) H → va_D A ((h0, .inr (11, [.ref w1, .ref w2, .int 0, .ref li, .ref pl, .ref te, .ref st, .ref gr, .ref ro, .int 0, .ref so, .ref sz, .ref it, .null, .null, .null, .ref rr])) :: (rr, lu_ia cs 31) :: ((rest ++ [(so, .inl (cs 0, 4, .inl (upd f i.toNatClampNeg (-1))))]) ++ more)) → va_S A H0 H locs → W p l e lu_R11 s m args below meth c H locs cells slots Q (F0 m 173 ls [])) :
    W p l e lu_R11 s m args below meth c H locs cells slots Q (F0 m 173 ls []) := by
  obtain ⟨hx, hb, hml, hown, hts⟩ := S
  have hK := hB.1
  have hc : lu_cl[11]? = some (RX11, TX11, 17) := rfl
  have hin := lu_lay lu_lay11
  refine lv_iload_n hx hb dX11_init_173 rfl (lv_at hl 0 rfl) ?_
  refine lv_iconst (v := 4) hx hb dX11_init_174 (by decide) ?_
  refine lv_icmp_ge (tgt := 191) hx hb dX11_init_175 (by decide) (fun h => absurd h hi) (fun _ => ?_)
  refine lv_aload_n hx hb dX11_init_178 rfl (lv_at hl 1 rfl) ?_
  refine va_get (D := D) hx hb hts hin hown hK hP 0 rfl hc 10 (by decide) (hts _ qfl11_74) (fun _ h => h) rfl dX11_init_179 ?_
  refine lv_iload_n hx hb dX11_init_182 rfl (lv_at hl 0 rfl) ?_
  refine lv_iconst (v := -1) hx hb dX11_init_183 (by decide) ?_
  refine va_iast hx hb hK hP hD hS (rest.length + 2) 0 lu_mid rfl hi2 dX11_init_184 (fun H locs hP hD hS => ?_)
  rw [lu_mset] at hP hD
  refine lv_iinc (v := i') (lv' := [(1, .int i'), (0, .ref h0)]) (k := 0) hx hb dX11_init_185 hl rfl hi' (by decide) rfl (fun ls hl => ?_)
  refine lv_goto (tgt := 173) hx hb dX11_init_188 rfl ?_
  exact kk H locs ls hl hP hD hS
theorem c11_F {w1 w2 li pl te st gr ro so sz it : Nat} (S : CallFix p m c cX11_init 2 s args lu_ws RX11) (hni : meth.name = "<init>") (hB : lu_B D cs sa s) (hA : ∀ q, H0.size ≤ q → A q) {lv : List (Nat × Value)} (hl : lv_has ls 2 lv) (kv : Nat) (h00 : lv[kv]? = some (0, .ref h0)) (hcl : cells + 3 ≤ 114) (hsl : slots + 12 ≤ 1717) (hP : va_P D lu_cl ((h0, .inr (11, [.ref w1, .ref w2, .int 0, .ref li, .ref pl, .ref te, .ref st, .ref gr, .ref ro, .int 0, .ref so, .ref sz, .ref it, .null, .null, .null, .ref rr])) :: (rr, lu_ia cs 31) :: rest) H) (hD : va_D A ((h0, .inr (11, [.ref w1, .ref w2, .int 0, .ref li, .ref pl, .ref te, .ref st, .ref gr, .ref ro, .int 0, .ref so, .ref sz, .ref it, .null, .null, .null, .ref rr])) :: (rr, lu_ia cs 31) :: rest)) (hS : va_S A H0 H locs)
    (kk : ∀ (ho th si : Nat) (H : Heap) (locs : List Loc), va_P D lu_cl ((h0, .inr (11, [.ref w1, .ref w2, .int 0, .ref li, .ref pl, .ref te, .ref st, .ref gr, .ref ro, .int 0, .ref so, .ref sz, .ref it, .ref ho, .ref th, .ref si, .ref rr])) :: (rr, lu_ia cs 31) :: ((rest ++ [(ho, lu_ia cs 4)]) ++ ([(th, lu_ia cs 4)] ++ [(si, lu_ia cs 4)]))) H → va_D A ((h0, .inr (11, [.ref w1, .ref w2, .int 0, .ref li, .ref pl, .ref te, .ref st, .ref gr, .ref ro, .int 0, .ref so, .ref sz, .ref it, .ref ho, .ref th, .ref si, .ref rr])) :: (rr, lu_ia cs 31) :: ((rest ++ [(ho, lu_ia cs 4)]) ++ ([(th, lu_ia cs 4)] ++ [(si, lu_ia cs 4)]))) → va_S A H0 H locs → W p l e lu_R11 s m args below meth c H locs (cells + 3) (slots + 12) Q (F0 m 212 ls [])) :
    W p l e lu_R11 s m args below meth c H locs cells slots Q (F0 m 191 ls []) := by
  obtain ⟨hx, hb, hml, hown, hts⟩ := S
  have hK := hB.1
  have hc : lu_cl[11]? = some (RX11, TX11, 17) := rfl
  have hin := lu_lay lu_lay11
  have hcl : cells + 3 ≤ lu_R11.cells := hcl
  have hsl : slots + 12 ≤ lu_R11.slots := hsl
  refine lv_aload_n hx hb dX11_init_191 rfl (lv_at hl kv h00) ?_
  refine lv_iconst (v := 4) hx hb dX11_init_192 (by decide) ?_
  refine lu_newI (N := 4) hx hb hts hK hP hD hS hA (by decide) (by decide) (by decide) (by omega) (by omega) dX11_init_193 (fun ho H hP hD hS => ?_)
  refine va_putF (v := .ref ho) (ty := .array .int) hx hb hts hin tyX11 tyX11_ok nmX11 hown hK hP hD hS 0 rfl hc 13 (by decide) (hts _ qfl11_83) (fun _ h => h) rfl hni rfl (by decide +kernel) rfl rfl (Nat.le_of_ble_eq_true rfl) dX11_init_195 (fun H locs hP hD hS => ?_)
  have hP : va_P D lu_cl ((h0, .inr (11, [.ref w1, .ref w2, .int 0, .ref li, .ref pl, .ref te, .ref st, .ref gr, .ref ro, .int 0, .ref so, .ref sz, .ref it, .ref ho, .null, .null, .ref rr])) :: (rr, lu_ia cs 31) :: (rest ++ [(ho, lu_ia cs 4)])) H := hP
  have hD : va_D A ((h0, .inr (11, [.ref w1, .ref w2, .int 0, .ref li, .ref pl, .ref te, .ref st, .ref gr, .ref ro, .int 0, .ref so, .ref sz, .ref it, .ref ho, .null, .null, .ref rr])) :: (rr, lu_ia cs 31) :: (rest ++ [(ho, lu_ia cs 4)])) := hD
  generalize hr0 : rest ++ [(ho, lu_ia cs 4)] = rest0 at hP hD
  refine lv_aload_n hx hb dX11_init_198 rfl (lv_at hl kv h00) ?_
  refine lv_iconst (v := 4) hx hb dX11_init_199 (by decide) ?_
  refine lu_newI (N := 4) hx hb hts hK hP hD hS hA (by decide) (by decide) (by decide) (by omega) (by omega) dX11_init_200 (fun th H hP hD hS => ?_)
  refine va_putF (v := .ref th) (ty := .array .int) hx hb hts hin tyX11 tyX11_ok nmX11 hown hK hP hD hS 0 rfl hc 14 (by decide) (hts _ qfl11_86) (fun _ h => h) rfl hni rfl (by decide +kernel) rfl rfl (Nat.le_of_ble_eq_true rfl) dX11_init_202 (fun H locs hP hD hS => ?_)
  have hP : va_P D lu_cl ((h0, .inr (11, [.ref w1, .ref w2, .int 0, .ref li, .ref pl, .ref te, .ref st, .ref gr, .ref ro, .int 0, .ref so, .ref sz, .ref it, .ref ho, .ref th, .null, .ref rr])) :: (rr, lu_ia cs 31) :: (rest0 ++ [(th, lu_ia cs 4)])) H := hP
  have hD : va_D A ((h0, .inr (11, [.ref w1, .ref w2, .int 0, .ref li, .ref pl, .ref te, .ref st, .ref gr, .ref ro, .int 0, .ref so, .ref sz, .ref it, .ref ho, .ref th, .null, .ref rr])) :: (rr, lu_ia cs 31) :: (rest0 ++ [(th, lu_ia cs 4)])) := hD
  generalize hr1 : rest0 ++ [(th, lu_ia cs 4)] = rest1 at hP hD
  refine lv_aload_n hx hb dX11_init_205 rfl (lv_at hl kv h00) ?_
  refine lv_iconst (v := 4) hx hb dX11_init_206 (by decide) ?_
  refine lu_newI (N := 4) hx hb hts hK hP hD hS hA (by decide) (by decide) (by decide) (by omega) (by omega) dX11_init_207 (fun si H hP hD hS => ?_)
  refine va_putF (v := .ref si) (ty := .array .int) hx hb hts hin tyX11 tyX11_ok nmX11 hown hK hP hD hS 0 rfl hc 15 (by decide) (hts _ qfl11_89) (fun _ h => h) rfl hni rfl (by decide +kernel) rfl rfl (Nat.le_of_ble_eq_true rfl) dX11_init_209 (fun H locs hP hD hS => ?_)
  have hP : va_P D lu_cl ((h0, .inr (11, [.ref w1, .ref w2, .int 0, .ref li, .ref pl, .ref te, .ref st, .ref gr, .ref ro, .int 0, .ref so, .ref sz, .ref it, .ref ho, .ref th, .ref si, .ref rr])) :: (rr, lu_ia cs 31) :: (rest1 ++ [(si, lu_ia cs 4)])) H := hP
  have hD : va_D A ((h0, .inr (11, [.ref w1, .ref w2, .int 0, .ref li, .ref pl, .ref te, .ref st, .ref gr, .ref ro, .int 0, .ref so, .ref sz, .ref it, .ref ho, .ref th, .ref si, .ref rr])) :: (rr, lu_ia cs 31) :: (rest1 ++ [(si, lu_ia cs 4)])) := hD

  subst hr0 hr1
  exact kk ho th si H locs (by rw [← List.append_assoc (rest ++ [(ho, lu_ia cs 4)])]; exact hP) (by rw [← List.append_assoc (rest ++ [(ho, lu_ia cs 4)])]; exact hD) hS
theorem c11_L2 {w1 w2 li pl te st gr ro so sz it ho th si : Nat} {more : va_W} {f : Nat → Int32} {i i' : Int32} (S : CallFix p m c cX11_init 2 s args lu_ws RX11) (hB : lu_B D cs sa s) (hl : lv_has ls 2 [(1, .int i), (0, .ref h0)]) (hi : ¬ (4 : Int32) ≤ i) (hi2 : vp_in i 4) (hi' : i + 1 = i')
    (hP : va_P D lu_cl ((h0, .inr (11, [.ref w1, .ref w2, .int 0, .ref li, .ref pl, .ref te, .ref st, .ref gr, .ref ro, .int 0, .ref so, .ref sz, .ref it, .ref ho, .ref th, .ref si, .ref rr])) :: (rr, lu_ia cs 31) :: ((rest ++ [(ho, .inl (cs 0, 4, .inl (f)))]) ++ more)) H) (hD : va_D A ((h0, .inr (11, [.ref w1, .ref w2, .int 0, .ref li, .ref pl, .ref te, .ref st, .ref gr, .ref ro, .int 0, .ref so, .ref sz, .ref it, .ref ho, .ref th, .ref si, .ref rr])) :: (rr, lu_ia cs 31) :: ((rest ++ [(ho, .inl (cs 0, 4, .inl (f)))]) ++ more))) (hS : va_S A H0 H locs)
    (kk : ∀ (H : Heap) (locs : List Loc) (ls : Array Slot), lv_has ls 2 [(1, .int i'), (0, .ref h0)] → va_P D lu_cl ((h0, .inr (11, [.ref w1, .ref w2, .int 0, .ref li, .ref pl, .ref te, .ref st, .ref gr, .ref ro, .int 0, .ref so, .ref sz, .ref it, .ref ho, .ref th, .ref si, .ref rr])) :: (rr, lu_ia cs 31) :: ((rest ++ [(ho, .inl (cs 0, 4, .inl (upd f i.toNatClampNeg (2))))]) ++ more)) H → va_D A ((h0, .inr (11, [.ref w1, .ref w2, .int 0, .ref li, .ref pl, .ref te, .ref st, .ref gr, .ref ro, .int 0, .ref so, .ref sz, .ref it, .ref ho, .ref th, .ref si, .ref rr])) :: (rr, lu_ia cs 31) :: ((rest ++ [(ho, .inl (cs 0, 4, .inl (upd f i.toNatClampNeg (2))))]) ++ more)) → va_S A H0 H locs → W p l e lu_R11 s m args below meth c H locs cells slots Q (F0 m 214 ls [])) :
    W p l e lu_R11 s m args below meth c H locs cells slots Q (F0 m 214 ls []) := by
  obtain ⟨hx, hb, hml, hown, hts⟩ := S
  have hK := hB.1
  have hc : lu_cl[11]? = some (RX11, TX11, 17) := rfl
  have hin := lu_lay lu_lay11
  refine lv_iload_n hx hb dX11_init_214 rfl (lv_at hl 0 rfl) ?_
  refine lv_iconst (v := 4) hx hb dX11_init_215 (by decide) ?_
  refine lv_icmp_ge (tgt := 232) hx hb dX11_init_216 (by decide) (fun h => absurd h hi) (fun _ => ?_)
  refine lv_aload_n hx hb dX11_init_219 rfl (lv_at hl 1 rfl) ?_
  refine va_get (D := D) hx hb hts hin hown hK hP 0 rfl hc 13 (by decide) (hts _ qfl11_83) (fun _ h => h) rfl dX11_init_220 ?_
  refine lv_iload_n hx hb dX11_init_223 rfl (lv_at hl 0 rfl) ?_
  refine lv_iconst (v := 2) hx hb dX11_init_224 (by decide) ?_
  refine va_iast hx hb hK hP hD hS (rest.length + 2) 0 lu_mid rfl hi2 dX11_init_225 (fun H locs hP hD hS => ?_)
  rw [lu_mset] at hP hD
  refine lv_iinc (v := i') (lv' := [(1, .int i'), (0, .ref h0)]) (k := 0) hx hb dX11_init_226 hl rfl hi' (by decide) rfl (fun ls hl => ?_)
  refine lv_goto (tgt := 214) hx hb dX11_init_229 rfl ?_
  exact kk H locs ls hl hP hD hS
end UND
def lu_uN (cs : Nat → ClassId) (h0 : Nat) (wn : va_W) : Prop := ∃ (rr w1 w2 li pl te st gr ro so sz it ho th si : Nat) (k : Nat → Nat) (n1 n2 pn tn : va_W), lu_wN cs w1 rr n1 ∧ lu_wN cs w2 rr n2 ∧ lu_pN cs pl w1 pn ∧ lu_tN cs te tn ∧ wn = (h0, .inr (11, [.ref w1, .ref w2, .int 0, .ref li, .ref pl, .ref te, .ref st, .ref gr, .ref ro, .int 0, .ref so, .ref sz, .ref it, .ref ho, .ref th, .ref si, .ref rr])) :: (rr, lu_ia cs 31) :: ((((((((([] ++ n1) ++ n2) ++ [(li, .inr (1, lu_craw))]) ++ pn) ++ tn) ++ [(st, lu_qa cs k)]) ++ lu_hs rr k) ++ [(gr, lu_ia cs 64)]) ++ lu_gr cs ro 4 3 ++ [(so, .inl (cs 0, 4, .inl (lu_q4 (-1))))] ++ ([(sz, lu_ia cs 4)] ++ lu_gr cs it 4 40) ++ [(ho, .inl (cs 0, 4, .inl (lu_q4 2)))] ++ ([(th, lu_ia cs 4)] ++ [(si, lu_ia cs 4)]))
set_option maxHeartbeats 4000000 in
theorem c11_init (l : Launch) (D : va_G) (cs sa : Nat → Nat) (h0 sz0 : Nat) : Met l yX11_init (.code yX11_init cX11_init 2 none :: lu_ws) lu_R11 (va_Pc [.ref h0] (fun U => U.heap.size = sz0 ∧ va_P D lu_cl [(h0, .inr (11, lu_uraw))] U.heap ∧ lu_B D cs sa U)) (lu_nQ D h0 sz0 (lu_uN cs h0)) 114 1717 (fun q => q = h0 ∨ sz0 ≤ q) := by
  refine Met.ofW (cc := cX11_init) (maxL := 2) (ret := none) (by decide) rfl ?_
  intro p e s m args below meth c s₁ B hml hv
  obtain ⟨rfl, hsz, hP, hB⟩ := hv
  have hK := hB.1
  have hx := B.exec
  have hb := B.bytes
  have hr := B.returns
  have hts : ∀ w ∈ lu_ws, w.before ([Value.ref h0] : List Value).toArray s = true := fun w hw => atoms_spec (ws := .code yX11_init cX11_init 2 none :: lu_ws) B.pre w (List.mem_cons_of_mem _ hw)
  have hown : s.vm.findClass RX11 = some m.cls := findClass_of_methodNamed B.named
  have hlocks := B.notSynchronized
  have hni : meth.name = "<init>" := (name_of_methodNamed B.named B.method).1
  subst hsz
  have hA : ∀ q, s.heap.size ≤ q → (fun q => q = h0 ∨ s.heap.size ≤ q) q := fun q h => Or.inr h
  have hD : va_D (fun q => q = h0 ∨ s.heap.size ≤ q) [(h0, .inr (11, lu_uraw))] := lu_D1 (Or.inl rfl)
  have hS : va_S (fun q => q = h0 ∨ s.heap.size ≤ q) s.heap s.heap [] := va_S.rf
  have hl := lv_entry ([.ref h0]) (n := 2) (Nat.le_of_ble_eq_true rfl)
  rw [lg_entry_eq]
  generalize (lg_sl ([.ref h0]) ++ List.replicate (2 - (lg_sl ([.ref h0])).length) Slot.unset).toArray = ls at hl ⊢
  have hl : lv_has ls 2 [(0, .ref h0)] := hl
  have hc : lu_cl[11]? = some (RX11, TX11, 17) := rfl
  have hin := lu_lay lu_lay11
  have S : CallFix p m c cX11_init 2 s ([Value.ref h0] : List Value).toArray lu_ws RX11 := ⟨hx, hb, hml, hown, hts⟩
  refine lv_aload_n hx hb dX11_init_0 rfl (lv_at hl 0 rfl) ?_
  refine W.objInit hx hb hown (hts _ hs_o11) (hts _ hw_oi) (hts _ hw_oc) rfl (by rw [hml]; exact hl.1) rfl dX11_init_1 (Nat.le_of_ble_eq_true rfl) (Nat.le_of_ble_eq_true rfl) ?_
  refine W.eq (g2 := F0 m 4 ls []) rfl ?_
  refine lv_aload_n hx hb dX11_init_4 rfl (lv_at hl 0 rfl) ?_
  refine lv_bipush (v := 31) hx hb dX11_init_5 (by decide) ?_
  refine lu_newI (N := 31) hx hb hts hK hP hD hS hA (by decide) (by decide) (by decide) (by decide) (by decide) dX11_init_7 (fun rr H hP hD hS => ?_)
  refine va_putF (v := .ref rr) (ty := .array .int) hx hb hts hin tyX11 tyX11_ok nmX11 hown hK hP hD hS 0 rfl hc 16 (by decide) (hts _ qfl11_9) (fun _ h => h) rfl hni rfl (by decide +kernel) rfl rfl (Nat.le_of_ble_eq_true rfl) dX11_init_9 (fun H locs hP hD hS => ?_)
  have hP : va_P D lu_cl ((h0, .inr (11, [.null, .null, .int 0, .null, .null, .null, .null, .null, .null, .int 0, .null, .null, .null, .null, .null, .null, .ref rr])) :: (rr, lu_ia cs 31) :: []) H := hP
  have hD : va_D (fun q => q = h0 ∨ s.heap.size ≤ q) ((h0, .inr (11, [.null, .null, .int 0, .null, .null, .null, .null, .null, .null, .int 0, .null, .null, .null, .null, .null, .null, .ref rr])) :: (rr, lu_ia cs 31) :: []) := hD
  refine c11_W1 S hni hB hA hl 0 rfl (by decide) (by decide) hP hD hS (fun w1 n1 hn1 H locs hP hD hS => ?_)
  refine c11_W2 S hni hB hA hl 0 rfl (by decide) (by decide) hP hD hS (fun w2 n2 hn2 H locs hP hD hS => ?_)
  refine c11_W3 S hni hB hA hl 0 rfl (by decide) (by decide) hP hD hS (fun li pl te pn tn hpn htn H locs hP hD hS => ?_)
  refine c11_S S hni hB hA hl 0 rfl (by decide) (by decide) hP hD hS (fun st H locs hP hD hS => ?_)
  refine lv_iconst (v := 0) hx hb dX11_init_93 (by decide) ?_
  refine lv_istore_n (lv' := [(1, .int 0), (0, .ref h0)]) hx hb dX11_init_94 rfl hl (by decide) rfl (fun ls hl => ?_)
  refine c11_T0 S hB hA hl (by decide) (by decide) hP hD hS (fun k0 H locs ls hl hP hD hS => ?_)
  refine c11_T1 S hB hA hl (by decide) (by decide) hP hD hS (fun k1 H locs ls hl hP hD hS => ?_)
  refine c11_T2 S hB hA hl (by decide) (by decide) hP hD hS (fun k2 H locs ls hl hP hD hS => ?_)
  refine c11_T3 S hB hA hl (by decide) (by decide) hP hD hS (fun k3 H locs ls hl hP hD hS => ?_)
  refine c11_T4 S hB hA hl (by decide) (by decide) hP hD hS (fun k4 H locs ls hl hP hD hS => ?_)
  refine c11_T5 S hB hA hl (by decide) (by decide) hP hD hS (fun k5 H locs ls hl hP hD hS => ?_)
  refine lv_iload_n hx hb dX11_init_95 rfl (lv_at hl 0 rfl) ?_
  refine lv_iconst (v := 5) hx hb dX11_init_96 (by decide) ?_
  refine lv_icmp_gt (tgt := 123) hx hb dX11_init_97 (by decide) (fun _ => ?_) (fun h => absurd (by decide) h)
  refine c11_R S hni hB hA hl 1 rfl (by decide) (by decide) hP hD hS (fun gr ro so sz it H locs hP hD hS => ?_)
  refine lv_iconst (v := 0) hx hb dX11_init_171 (by decide) ?_
  refine lv_istore_n (lv' := [(1, .int 0), (0, .ref h0)]) hx hb dX11_init_172 rfl hl (by decide) rfl (fun ls hl => ?_)
  refine c11_L1 (i := 0) (i' := 1) S hB hl (by decide) (by unfold vp_in; decide) (by decide) hP hD hS (fun H locs ls hl hP hD hS => ?_)
  refine c11_L1 (i := 1) (i' := 2) S hB hl (by decide) (by unfold vp_in; decide) (by decide) hP hD hS (fun H locs ls hl hP hD hS => ?_)
  refine c11_L1 (i := 2) (i' := 3) S hB hl (by decide) (by unfold vp_in; decide) (by decide) hP hD hS (fun H locs ls hl hP hD hS => ?_)
  refine c11_L1 (i := 3) (i' := 4) S hB hl (by decide) (by unfold vp_in; decide) (by decide) hP hD hS (fun H locs ls hl hP hD hS => ?_)
  refine lv_iload_n hx hb dX11_init_173 rfl (lv_at hl 0 rfl) ?_
  refine lv_iconst (v := 4) hx hb dX11_init_174 (by decide) ?_
  refine lv_icmp_ge (tgt := 191) hx hb dX11_init_175 (by decide) (fun _ => ?_) (fun h => absurd (by decide) h)
  refine c11_F S hni hB hA hl 1 rfl (by decide) (by decide) hP hD hS (fun ho th si H locs hP hD hS => ?_)
  refine lv_iconst (v := 0) hx hb dX11_init_212 (by decide) ?_
  refine lv_istore_n (lv' := [(1, .int 0), (0, .ref h0)]) hx hb dX11_init_213 rfl hl (by decide) rfl (fun ls hl => ?_)
  refine c11_L2 (i := 0) (i' := 1) S hB hl (by decide) (by unfold vp_in; decide) (by decide) hP hD hS (fun H locs ls hl hP hD hS => ?_)
  refine c11_L2 (i := 1) (i' := 2) S hB hl (by decide) (by unfold vp_in; decide) (by decide) hP hD hS (fun H locs ls hl hP hD hS => ?_)
  refine c11_L2 (i := 2) (i' := 3) S hB hl (by decide) (by unfold vp_in; decide) (by decide) hP hD hS (fun H locs ls hl hP hD hS => ?_)
  refine c11_L2 (i := 3) (i' := 4) S hB hl (by decide) (by unfold vp_in; decide) (by decide) hP hD hS (fun H locs ls hl hP hD hS => ?_)
  refine lv_iload_n hx hb dX11_init_214 rfl (lv_at hl 0 rfl) ?_
  refine lv_iconst (v := 4) hx hb dX11_init_215 (by decide) ?_
  refine lv_icmp_ge (tgt := 232) hx hb dX11_init_216 (by decide) (fun _ => ?_) (fun h => absurd (by decide) h)
  exact W.vret hx hb hr (fun t ht hW => ⟨rfl, ⟨_, ⟨rr, w1, w2, li, pl, te, st, gr, ro, so, sz, it, ho, th, si, lu_at6 k0 k1 k2 k3 k4 k5, n1, n2, pn, tn, hn1, hn2, hpn, htn, rfl⟩, by rw [ht]; exact hP, hD⟩, hS.F ht⟩) hS.2.2 dX11_init_232


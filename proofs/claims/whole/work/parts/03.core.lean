/-! THE CORE: a world of cells in fixed places (roles), its numbers one memory; a method is held against a function of that memory -/
abbrev lu_M : Type := Nat → Nat → Int32
def lu_st (m : lu_M) (r k : Nat) (v : Int32) : lu_M := fun a b => if a = r ∧ b = k then v else m a b
theorem lu_st_row {m : lu_M} {r k a : Nat} {v : Int32} (h : a ≠ r) : lu_st m r k v a = m a := by
  funext b
  simp [lu_st, h]
theorem lu_st_self (m : lu_M) (r k : Nat) (v : Int32) : lu_st m r k v r k = v := by simp [lu_st]
theorem lu_st_ne {m : lu_M} {r k b : Nat} {v : Int32} (h : b ≠ k) : lu_st m r k v r b = m r b := by simp [lu_st, h]
theorem lu_st_upd (m : lu_M) (r k : Nat) (v : Int32) : upd (m r) k v = lu_st m r k v r := by
  funext b
  simp [lu_st, upd]
/-- roles: how many; of each its tag and sizes -/
abbrev lu_T : Type := Nat × (Nat → Nat × Nat × Nat)
def lu_cl : List vw_C := [(RX0, TX0, 6), (RX1, TX1, 6), (RX2, TX2, 6), (RX3, TX3, 6), (RX4, TX4, 6), (RX5, TX5, 11), (RX6, TX6, 7), (RX7, TX7, 6), (RX8, TX8, 7), (RX9, TX9, 6), (RX10, TX10, 17), (RX11, TX11, 17), (RX12, TX12, 42)]
def lu_tys (cs : Nat → ClassId) : List (ClassId × FieldType) := [(cs 0, .int), (cs 1, .object "LeftUndoes$Hand"), (cs 2, .object "LeftUndoes$Course"), (cs 3, .array .int)]
/-- a class's fields by tag: a number, or the role that it refers to (from its own on, or 1000 and the role itself) -/
def lu_F (t : Nat) : List (Option Nat) :=
  if t = 4 then [some 1, some 37, none, some 73, some 74, some 83, some 91, some 98, some 99, none, some 104, some 105, some 106, some 111, some 112, some 113, some 114]
  else if t = 5 then [none, some 1, none, some 8, some 9, some 10, some 11, some 12, some 13, none, none, none, some 14, some 21, some 28, some 29, some 35]
  else if t = 6 then [none, none, none, none, none, none]
  else if t = 7 then [none, some 1, some 2, some 3, some 4, some 5, none]
  else if t = 8 then [some 1001, some 1, some 7, none, none, none, none, some 8, none, none, none]
  else if t = 9 then [some 1, none, some 2, none, none, none, none]
  else if t = 10 then [none, none, none, none, none, some 1114]
  else if t = 11 then [some 1, some 2, some 3, none, some 4, some 5, some 6, some 7, some 8, some 9, none, none, none, none, none, none, none, none, none, none, some 10, none, some 11, none, none, none, none, none, none, none, some 12, some 13, some 14, some 15, some 16, some 17, some 18, none, none, none, none, none]
  else []
def lu_tg (r o : Nat) : Nat := if o < 1000 then r + o else o - 1000
def lu_hk (v : Int32) : Nat := if v = 1 then 0 else if v = 2 then 2 else if v = 3 then 9 else if v = 4 then 7 else if v = 5 then 4 else 3
def lu_ci (t : Nat) (v : Int32) : Nat := if t = 4 then 11 else if t = 5 then 10 else if t = 6 then 1 else if t = 7 then 6 else if t = 8 then 5 else if t = 9 then 8 else if t = 11 then 12 else lu_hk v
def lu_fs (ρ : Nat → Nat) (m : lu_M) (r : Nat) : List (Option Nat) → Nat → List Value
  | [], _ => []
  | none :: F, k => .int (m r k) :: lu_fs ρ m r F (k + 1)
  | some o :: F, k => .ref (ρ (lu_tg r o)) :: lu_fs ρ m r F (k + 1)
def lu_cell (T : lu_T) (cs : Nat → ClassId) (ρ : Nat → Nat) (m : lu_M) (r : Nat) : va_E :=
  if (T.2 r).1 = 0 then .inl (cs 0, (T.2 r).2.1, .inl (m r))
  else if (T.2 r).1 ≤ 3 then .inl (cs (T.2 r).1, (T.2 r).2.1, .inr (.inr (.inr (.inr (fun i => some (ρ (r + 1 + i)))))))
  else .inr (lu_ci (T.2 r).1 (m r 0), lu_fs ρ m r (lu_F (T.2 r).1) 0)
def lu_W (T : lu_T) (cs : Nat → ClassId) (ρ : Nat → Nat) (m : lu_M) : va_W := (List.range T.1).map fun r => (ρ r, lu_cell T cs ρ m r)
theorem lu_W_len (T : lu_T) (cs : Nat → ClassId) (ρ : Nat → Nat) (m : lu_M) : (lu_W T cs ρ m).length = T.1 := by simp [lu_W]
theorem lu_W_at {T : lu_T} {cs : Nat → ClassId} {ρ : Nat → Nat} {m : lu_M} {r : Nat} (h : r < T.1) : (lu_W T cs ρ m)[r]? = some (ρ r, lu_cell T cs ρ m r) := by
  simp [lu_W, h]
theorem lu_W_at2 {T : lu_T} {cs : Nat → ClassId} {ρ : Nat → Nat} {m : lu_M} {ex : va_W} {r : Nat} (h : r < T.1) : (lu_W T cs ρ m ++ ex)[r]? = some (ρ r, lu_cell T cs ρ m r) := by
  rw [List.getElem?_append_left (by rw [lu_W_len]; exact h), lu_W_at h]
theorem lu_fs_congr {ρ : Nat → Nat} {m m' : lu_M} {r : Nat} (h : m' r = m r) : ∀ (F : List (Option Nat)) (k : Nat), lu_fs ρ m' r F k = lu_fs ρ m r F k
  | [], _ => rfl
  | none :: F, k => by simp only [lu_fs, h, lu_fs_congr h F]
  | some o :: F, k => by simp only [lu_fs, lu_fs_congr h F]
theorem lu_cell_congr {T : lu_T} {cs : Nat → ClassId} {ρ : Nat → Nat} {m m' : lu_M} {r : Nat} (h : m' r = m r) : lu_cell T cs ρ m' r = lu_cell T cs ρ m r := by
  simp only [lu_cell, h, lu_fs_congr h]
theorem lu_W_set {T : lu_T} {cs : Nat → ClassId} {ρ : Nat → Nat} {m m' : lu_M} {ex : va_W} {r : Nat} {e : va_E} (h : r < T.1) (ho : ∀ q, q ≠ r → m' q = m q) (he : e = lu_cell T cs ρ m' r) : (lu_W T cs ρ m ++ ex).set r (ρ r, e) = lu_W T cs ρ m' ++ ex := by
  have hl : r < (lu_W T cs ρ m).length := by rw [lu_W_len]; exact h
  rw [List.set_append_left _ _ hl]
  congr 1
  subst he
  apply List.ext_getElem?
  intro i
  by_cases hi : i = r
  · subst hi
    rw [List.getElem?_set_self hl, lu_W_at h]
  · rw [List.getElem?_set_ne (Ne.symm hi)]
    by_cases hn : i < T.1
    · rw [lu_W_at hn, lu_W_at hn, lu_cell_congr (ho i hi)]
    · rw [List.getElem?_eq_none (by rw [lu_W_len]; omega), List.getElem?_eq_none (by rw [lu_W_len]; omega)]
theorem lu_fs_len (ρ : Nat → Nat) (m : lu_M) (r : Nat) : ∀ (F : List (Option Nat)) (k : Nat), (lu_fs ρ m r F k).length = F.length
  | [], _ => rfl
  | none :: F, k => by simp only [lu_fs, List.length_cons, lu_fs_len ρ m r F]
  | some o :: F, k => by simp only [lu_fs, List.length_cons, lu_fs_len ρ m r F]
theorem lu_fs_int (ρ : Nat → Nat) (m : lu_M) (r : Nat) : ∀ (F : List (Option Nat)) (j k : Nat), F[k]? = some none → (lu_fs ρ m r F j)[k]? = some (.int (m r (j + k)))
  | [], _, _, h => by simp at h
  | none :: F, j, 0, _ => by simp [lu_fs]
  | some o :: F, j, 0, h => by simp at h
  | none :: F, j, k + 1, h => by
    have e := lu_fs_int ρ m r F (j + 1) k (by simpa using h)
    simp only [lu_fs, List.getElem?_cons_succ, e]
    congr 3; omega
  | some o :: F, j, k + 1, h => by
    have e := lu_fs_int ρ m r F (j + 1) k (by simpa using h)
    simp only [lu_fs, List.getElem?_cons_succ, e]
    congr 3; omega
theorem lu_fs_ref (ρ : Nat → Nat) (m : lu_M) (r : Nat) {o : Nat} : ∀ (F : List (Option Nat)) (j k : Nat), F[k]? = some (some o) → (lu_fs ρ m r F j)[k]? = some (.ref (ρ (lu_tg r o)))
  | [], _, _, h => by simp at h
  | some o' :: F, j, 0, h => by
    have e : o' = o := by simpa using h
    subst e
    simp [lu_fs]
  | none :: F, j, 0, h => by simp at h
  | none :: F, j, k + 1, h => by simp only [lu_fs, List.getElem?_cons_succ, lu_fs_ref ρ m r F (j + 1) k (by simpa using h)]
  | some o' :: F, j, k + 1, h => by simp only [lu_fs, List.getElem?_cons_succ, lu_fs_ref ρ m r F (j + 1) k (by simpa using h)]
theorem lu_fs_low (ρ : Nat → Nat) (m : lu_M) (r : Nat) (v : Int32) {i : Nat} : ∀ (F : List (Option Nat)) (j : Nat), i < j → lu_fs ρ (lu_st m r i v) r F j = lu_fs ρ m r F j
  | [], _, _ => rfl
  | none :: F, j, h => by simp only [lu_fs, lu_fs_low (i := i) ρ m r v F (j + 1) (by omega), lu_st_ne (show j ≠ i by omega)]
  | some o :: F, j, h => by simp only [lu_fs, lu_fs_low (i := i) ρ m r v F (j + 1) (by omega)]
theorem lu_fs_set (ρ : Nat → Nat) (m : lu_M) (r : Nat) (v : Int32) : ∀ (F : List (Option Nat)) (j k : Nat), F[k]? = some none → (lu_fs ρ m r F j).set k (.int v) = lu_fs ρ (lu_st m r (j + k) v) r F j
  | [], _, _, h => by simp at h
  | none :: F, j, 0, _ => by
    simp only [lu_fs, List.set_cons_zero, Nat.add_zero, lu_st_self, lu_fs_low (i := j) ρ m r v F (j + 1) (show j < j + 1 by omega)]
  | some o :: F, j, 0, h => by simp at h
  | none :: F, j, k + 1, h => by
    have e := lu_fs_set ρ m r v F (j + 1) k (by simpa using h)
    simp only [lu_fs, List.set_cons_succ, e, lu_st_ne (show j ≠ j + (k + 1) by omega), show j + 1 + k = j + (k + 1) by omega]
  | some o :: F, j, k + 1, h => by
    have e := lu_fs_set ρ m r v F (j + 1) k (by simpa using h)
    simp only [lu_fs, List.set_cons_succ, e, show j + 1 + k = j + (k + 1) by omega]
/-- the words that stay good while a method runs -/
def lu_ws : List Cond := lw_tbl.filter goodWord
theorem lu_in {w : Cond} (h : w ∈ lw_tbl) (g : goodWord w = true) : w ∈ lu_ws := List.mem_filter.mpr ⟨h, g⟩
theorem lu_gw {w : Cond} (h : w ∈ lu_ws) : (w.onTables && w.keeps) = true ∨ ∃ ty, w = .arrayClass ty := good_of_word (List.mem_filter.mp h).2
/-- words that are carried in another way: links to nest mates, kinds of hands, text constants -/
def lu_nest : List (String × Nat × MethodName) := [(RX10, 17, ⟨RX11, "made", "(IIII[I)LLeftUndoes$Hand;"⟩), (RX10, 57, ⟨RX1, "<init>", "()V"⟩), (RX11, 31, ⟨RX1, "<init>", "()V"⟩), (RX5, 21, ⟨RX1, "<init>", "()V"⟩), (RX10, 97, ⟨RX11, "isWithin", "(III)Z"⟩), (RX10, 125, ⟨RX11, "isUnder", "(II)Z"⟩), (RX8, 68, ⟨RX11, "isWithin", "(III)Z"⟩)]
def lu_cast : List (String × String) := [(RX0, RX3), (RX2, RX3), (RX9, RX3), (RX7, RX3), (RX4, RX3)]
def lu_sx : List (Nat × String) := [(101, "hand"), (103, "clasped"), (105, "forger"), (107, "twin"), (109, "slow"), (111, "heir"), (52, "if"), (93, "not"), (119, "year"), (121, "stands"), (123, "grace"), (125, "strength"), (127, "number"), (91, "and"), (82, "or"), (113, "early"), (115, "late"), (117, "spare")]
def lu_len : List Nat := [4, 7, 6, 4, 4, 4, 2, 3, 4, 6, 5, 8, 6, 3, 2, 5, 4, 5]
def lu_byt : List (List Int32) := [[104, 97, 110, 100], [99, 108, 97, 115, 112, 101, 100], [102, 111, 114, 103, 101, 114], [116, 119, 105, 110], [115, 108, 111, 119], [104, 101, 105, 114], [105, 102], [110, 111, 116], [121, 101, 97, 114], [115, 116, 97, 110, 100, 115], [103, 114, 97, 99, 101], [115, 116, 114, 101, 110, 103, 116, 104], [110, 117, 109, 98, 101, 114], [97, 110, 100], [111, 114], [101, 97, 114, 108, 121], [108, 97, 116, 101], [115, 112, 97, 114, 101]]
def lu_ab (j : Nat) : Int32 := [0, 0, 0, 2, 0, 4].getD j 0
def lu_N (sa : Nat → Nat) (U : State) : Prop := (∀ q ∈ lu_nest, va_Nw (.methodLinkNest q.1 q.2.1 q.2.2 RX11) U) ∧ (∀ q ∈ lu_cast, va_Nw (.castable q.1 q.2) U) ∧ ∀ (j : Nat) (q : Nat × String), lu_sx[j]? = some q → vk_R RX8 q.1 q.2 (sa j) U
theorem lu_N.warm {sa : Nat → Nat} {s U : State} (hW : s.WarmedH U.vm) (h : lu_N sa s) : lu_N sa U :=
  ⟨fun q hq => va_Nw.warmM hW (h.1 q hq), fun q hq => va_tabs rfl (rfl : (s.setVm U.vm).vm = U.vm) (by rw [Cond.castable_setVm hW.alike]; exact h.2.1 q hq), fun j q hj => vk_R.warm hW (h.2.2 j q hj)⟩
theorem lu_N.same {sa : Nat → Nat} {u U : State} (e : u.vm = U.vm) (h : lu_N sa u) : lu_N sa U :=
  ⟨fun q hq => va_Nw.same rfl e (h.1 q hq), fun q hq => va_Nw.same rfl e (h.2.1 q hq), fun j q hj => vk_R.same e.symm (h.2.2 j q hj)⟩
/-- a reference that may be null, as one number -/
def lu_fv : Nat → Value
  | 0 => .null
  | n + 1 => .ref n
/-- what nobody writes: the static array, the text constants -/
def lu_Sx (sa : Nat → Nat) (A : Nat → Prop) (U : State) (H : Heap) : Prop := va_Z RX11 "ABOVE" "[I" (.ref (sa 36)) A U H ∧ va_T .int (sa 36) 6 (fun j => .int (lu_ab j)) A U H ∧ va_Z "java/lang/String" "COMPACT_STRINGS" "Z" (.int 1) A U H ∧ va_Z "jdk/internal/util/Preconditions" "SIOOBE_FORMATTER" "Ljava/util/function/BiFunction;" (lu_fv (sa 37)) A U H ∧ vk_S 18 lu_len lu_byt sa (fun j => sa (18 + j)) A U H
theorem lu_Sx.moved {sa : Nat → Nat} {A : Nat → Prop} {u U : State} {H : Heap} (hvm : u.vm.Alike U.vm) (h : lu_Sx sa A u H) : lu_Sx sa A U H := ⟨va_Z.moved hvm h.1, va_T.moved hvm h.2.1, va_Z.moved hvm h.2.2.1, va_Z.moved hvm h.2.2.2.1, vk_S.moved hvm h.2.2.2.2⟩
theorem lu_Sx.kept {sa : Nat → Nat} {A : Nat → Prop} {U : State} {H H1 : Heap} (h : lu_Sx sa A U H) (hq : ∀ a : Nat, a < H.size → ¬ A a → H1[a]? = H[a]?) : lu_Sx sa A U H1 := ⟨h.1.kept hq, h.2.1.kept hq, h.2.2.1.kept hq, h.2.2.2.1.kept hq, h.2.2.2.2.kept hq⟩
theorem lu_Sx.narrow {sa : Nat → Nat} {A B : Nat → Prop} {U : State} {H : Heap} (h : lu_Sx sa A U H) (hAB : ∀ q, B q → A q) : lu_Sx sa B U H := ⟨h.1.narrow hAB, h.2.1.narrow hAB, h.2.2.1.narrow hAB, h.2.2.2.1.narrow hAB, h.2.2.2.2.narrow hAB⟩
/-- a class by its tag -/
def lu_TT (t : Nat) : u_T := if t = 4 then TX11 else if t = 5 then TX10 else if t = 6 then TX1 else if t = 7 then TX6 else if t = 8 then TX5 else if t = 9 then TX8 else if t = 11 then TX12 else TX3
def lu_NN (t : Nat) : Nat := if t = 4 then 17 else if t = 5 then 17 else if t = 6 then 6 else if t = 7 then 7 else if t = 8 then 11 else if t = 9 then 7 else if t = 11 then 42 else 6
def lu_Ok (q : vw_C) (t : Nat) : Prop := q.2.1 = lu_TT t ∧ q.2.2 = lu_NN t ∧ (∀ w ∈ u_ws q.1 q.2.1 q.2.2, w ∈ lu_ws) ∧ (∃ ty0 : Nat → FieldType, ∀ k, k < q.2.2 → parseFieldDescriptor (q.2.1 k).2.2.1 = some (ty0 k)) ∧ ∀ a, a < q.2.2 → ∀ b, b < q.2.2 → a ≠ b → (q.2.1 a).2.1 ≠ (q.2.1 b).2.1
theorem lu_lay {C : String} {T : u_T} {N : Nat} (h : ∀ w ∈ u_ws C T N, w ∈ lw_tbl ∧ goodWord w = true) : ∀ w ∈ u_ws C T N, w ∈ lu_ws := fun w hw => lu_in (h w hw).1 (h w hw).2
theorem lu_lay0 : ∀ w ∈ u_ws RX0 TX0 6, w ∈ lw_tbl ∧ goodWord w = true := by decide +kernel
theorem lu_lay1 : ∀ w ∈ u_ws RX1 TX1 6, w ∈ lw_tbl ∧ goodWord w = true := by decide +kernel
theorem lu_lay2 : ∀ w ∈ u_ws RX2 TX2 6, w ∈ lw_tbl ∧ goodWord w = true := by decide +kernel
theorem lu_lay3 : ∀ w ∈ u_ws RX3 TX3 6, w ∈ lw_tbl ∧ goodWord w = true := by decide +kernel
theorem lu_lay4 : ∀ w ∈ u_ws RX4 TX4 6, w ∈ lw_tbl ∧ goodWord w = true := by decide +kernel
theorem lu_lay5 : ∀ w ∈ u_ws RX5 TX5 11, w ∈ lw_tbl ∧ goodWord w = true := by decide +kernel
theorem lu_lay6 : ∀ w ∈ u_ws RX6 TX6 7, w ∈ lw_tbl ∧ goodWord w = true := by decide +kernel
theorem lu_lay7 : ∀ w ∈ u_ws RX7 TX7 6, w ∈ lw_tbl ∧ goodWord w = true := by decide +kernel
theorem lu_lay8 : ∀ w ∈ u_ws RX8 TX8 7, w ∈ lw_tbl ∧ goodWord w = true := by decide +kernel
theorem lu_lay9 : ∀ w ∈ u_ws RX9 TX9 6, w ∈ lw_tbl ∧ goodWord w = true := by decide +kernel
theorem lu_lay10 : ∀ w ∈ u_ws RX10 TX10 17, w ∈ lw_tbl ∧ goodWord w = true := by decide +kernel
theorem lu_lay11 : ∀ w ∈ u_ws RX11 TX11 17, w ∈ lw_tbl ∧ goodWord w = true := by decide +kernel
theorem lu_lay12 : ∀ w ∈ u_ws RX12 TX12 42, w ∈ lw_tbl ∧ goodWord w = true := by decide +kernel
theorem lu_hand (v : Int32) : ∃ q, lu_cl[lu_hk v]? = some q ∧ lu_Ok q 10 := by
  unfold lu_hk
  by_cases h1 : v = 1
  · exact ⟨(RX0, TX0, 6), by rw [if_pos h1]; rfl, rfl, rfl, lu_lay lu_lay0, ⟨_, tyX0_ok⟩, nmX0⟩
  rw [if_neg h1]
  by_cases h2 : v = 2
  · exact ⟨(RX2, TX2, 6), by rw [if_pos h2]; rfl, rfl, rfl, lu_lay lu_lay2, ⟨_, tyX2_ok⟩, nmX2⟩
  rw [if_neg h2]
  by_cases h3 : v = 3
  · exact ⟨(RX9, TX9, 6), by rw [if_pos h3]; rfl, rfl, rfl, lu_lay lu_lay9, ⟨_, tyX9_ok⟩, nmX9⟩
  rw [if_neg h3]
  by_cases h4 : v = 4
  · exact ⟨(RX7, TX7, 6), by rw [if_pos h4]; rfl, rfl, rfl, lu_lay lu_lay7, ⟨_, tyX7_ok⟩, nmX7⟩
  rw [if_neg h4]
  by_cases h5 : v = 5
  · exact ⟨(RX4, TX4, 6), by rw [if_pos h5]; rfl, rfl, rfl, lu_lay lu_lay4, ⟨_, tyX4_ok⟩, nmX4⟩
  · exact ⟨(RX3, TX3, 6), by rw [if_neg h5]; rfl, rfl, rfl, lu_lay lu_lay3, ⟨_, tyX3_ok⟩, nmX3⟩
theorem lu_cls {t : Nat} (v : Int32) (h : 3 < t) (h2 : t < 12) : ∃ q, lu_cl[lu_ci t v]? = some q ∧ lu_Ok q t := by
  rcases (show t = 4 ∨ t = 5 ∨ t = 6 ∨ t = 7 ∨ t = 8 ∨ t = 9 ∨ t = 10 ∨ t = 11 by omega) with rfl | rfl | rfl | rfl | rfl | rfl | rfl | rfl
  · exact ⟨(RX11, TX11, 17), rfl, rfl, rfl, lu_lay lu_lay11, ⟨_, tyX11_ok⟩, nmX11⟩
  · exact ⟨(RX10, TX10, 17), rfl, rfl, rfl, lu_lay lu_lay10, ⟨_, tyX10_ok⟩, nmX10⟩
  · exact ⟨(RX1, TX1, 6), rfl, rfl, rfl, lu_lay lu_lay1, ⟨_, tyX1_ok⟩, nmX1⟩
  · exact ⟨(RX6, TX6, 7), rfl, rfl, rfl, lu_lay lu_lay6, ⟨_, tyX6_ok⟩, nmX6⟩
  · exact ⟨(RX5, TX5, 11), rfl, rfl, rfl, lu_lay lu_lay5, ⟨_, tyX5_ok⟩, nmX5⟩
  · exact ⟨(RX8, TX8, 7), rfl, rfl, rfl, lu_lay lu_lay8, ⟨_, tyX8_ok⟩, nmX8⟩
  · exact lu_hand v
  · exact ⟨(RX12, TX12, 42), rfl, rfl, rfl, lu_lay lu_lay12, ⟨_, tyX12_ok⟩, nmX12⟩
theorem lu_cell_obj {T : lu_T} {cs : Nat → ClassId} {ρ : Nat → Nat} {m : lu_M} {r t : Nat} {x : Nat × Nat} (h : T.2 r = (t, x)) (h3 : 3 < t) : lu_cell T cs ρ m r = .inr (lu_ci t (m r 0), lu_fs ρ m r (lu_F t) 0) := by
  simp only [lu_cell, h]
  rw [if_neg (by omega), if_neg (by omega)]
theorem lu_cell_int {T : lu_T} {cs : Nat → ClassId} {ρ : Nat → Nat} {m : lu_M} {r n i : Nat} (h : T.2 r = (0, n, i)) : lu_cell T cs ρ m r = .inl (cs 0, n, .inl (m r)) := by
  simp only [lu_cell, h]
  exact if_pos trivial
theorem lu_cell_ref {T : lu_T} {cs : Nat → ClassId} {ρ : Nat → Nat} {m : lu_M} {r t n i : Nat} (h : T.2 r = (t, n, i)) (h1 : 0 < t) (h3 : t ≤ 3) : lu_cell T cs ρ m r = .inl (cs t, n, .inr (.inr (.inr (.inr (fun i => some (ρ (r + 1 + i))))))) := by
  simp only [lu_cell, h]
  rw [if_neg (by omega), if_pos h3]

/-! THE LAW: rows over the class's world and the reference's -/
def RL : String := "LeftUndoesLaw"
abbrev cL_law : ByteArray := code
abbrev lw_lv (b u1 u2 : Nat) (i : Int32) : List (Nat × Value) := [(3, .int i), (2, .ref u2), (1, .ref u1), (0, .ref b)]
/-- from here the law comes to its end, wherever the two worlds lie -/
def lw_I (G : lu_G) (Q : State → Prop) (pc : Nat) (lv : List (Nat × Value)) (st : List Value) (ρ : Nat → Nat) (m : lu_M) (σ : Nat → Nat) (n : lu_M) (k z : Nat) : Prop :=
  ∀ (H : Heap) (locs : List Loc) (ls : Array Slot), lv_has ls 4 lv → va_P (lu_D G) lu_cl (lu_W lu_TC (lu_cs G) ρ m ++ lu_W lu_TM (lu_cs G) σ n) H → va_D (lu_A G) (lu_W lu_TC (lu_cs G) ρ m ++ lu_W lu_TM (lu_cs G) σ n) → va_S (lu_A G) (lu_s G).heap H locs → W (lu_p G) (lu_l G) (lu_e G) (lu_R G) (lu_s G) (lu_m G) (lu_a G) (lu_b G) (lu_me G) (lu_c G) H locs k z Q (F0 (lu_m G) pc ls st)
theorem lu_swap {D : va_G} {w1 w2 : va_W} : (∀ H : Heap, va_P D lu_cl (w1 ++ w2) H → va_P D lu_cl (w2 ++ w1) H) ∧ ∀ A : Nat → Prop, va_D A (w1 ++ w2) → va_D A (w2 ++ w1) := by
  have key := fun (H : Heap) => lu_perm (D := D) (cl := lu_cl) (w := w1 ++ w2) (w' := w2 ++ w1) (H := H) (fun k => if k < w2.length then w1.length + k else k - w2.length) (fun i j hi hj e => by
    simp only [List.length_append] at hi hj
    split at e <;> split at e <;> omega) (fun k q hk => by
    refine ⟨q, ?_, rfl, id⟩
    by_cases h : k < w2.length
    · rw [if_pos h, List.getElem?_append_right (Nat.le_add_right _ _), Nat.add_sub_cancel_left]
      rw [List.getElem?_append_left h] at hk
      exact hk
    · rw [if_neg h]
      rw [List.getElem?_append_right (by omega)] at hk
      rw [List.getElem?_append_left (List.getElem?_eq_some_iff.mp hk).1]
      exact hk)
  exact ⟨fun H => (key H).1, fun A => (key #[]).2 A⟩
section LAW
variable {G : lu_G} {Q : State → Prop} {pc pc2 : Nat} {lv : List (Nat × Value)} {st : List Value} {ρ σ : Nat → Nat} {m n : lu_M} {k z fr lo : Nat}
/-- what the law knows throughout -/
def lw_X (G : lu_G) (fr lo b L : Nat) (xs : Nat → Int32) : Prop := lu_X G RL cL_law 4 fr lo ∧ va_X b L xs (lu_s G) (lu_s G).heap ∧ b < (lu_s G).heap.size ∧ ¬ lu_A G b ∧ L ≤ 2560
theorem lw_I.wide (h : lw_I G Q pc lv st ρ m σ n (k + 6) (z + 36)) : lw_I G Q pc lv st ρ m σ n k z := fun H locs ls hl hP hD hS => W.widen (by omega) (by omega) (h H locs ls hl hP hD hS)
theorem lw_callC (X : lu_X G RL cL_law 4 fr lo) {index : Nat} {y : MethodName} {cy : ByteArray} {nLy fry loy na : Nat} {avs : (Nat → Nat) → (Nat → Nat) → List Value} {f : lu_M → Option (Int32 × lu_M)} {As rest : List Value} {a : Int32} {m' : lu_M} (hM : lu_C lu_TC (lu_l G) y cy nLy (some .int) fry loy avs f lu_RVi lu_sn) (hf : f m = some (a, m')) (ml : Cond.methodLink RL index y ∈ lu_ws) (mv : lu_MV RX11 y cy nLy (some .int) na) (hav : avs ρ (lu_sa G) = .ref (ρ 0) :: As) (hn : As.length = na) (hroom : (rest.map fun v => v.category).sum ≤ 8) (hfr : fry + 1 ≤ fr) (hlo : 8 + (nLy + 11) + loy ≤ lo) (hk : k ≤ (lu_R G).cells ∧ z ≤ (lu_R G).slots) (d : decode cL_law pc = .ok (.invokevirtual index, 3)) (hp : pc + 3 = pc2) (hst : st = As.reverse ++ .ref (ρ 0) :: rest) (kk : lw_I G Q pc2 lv (.int a :: rest) ρ m' σ n k z) : lw_I G Q pc lv st ρ m σ n k z := by
  intro H locs ls hl hP hD hS
  classical
  have h := lu_invV (β := Unit) (Q := fun _ => Q) (Kf := fun b => if b = (a, m') then some () else none) (T := lu_TC) (ex := lu_W lu_TM (lu_cs G) σ n) (r := 0) (t := 4) (x := (0, 0)) X hM hf ml mv rfl (by decide) (by decide) ⟨_, rfl, rfl⟩ hav hn hroom hfr hlo hk d hp hst (fun b => by
    intro b' hb H locs ls hl hP hD hS
    by_cases e : b = (a, m')
    · subst e
      exact kk H locs ls (by rw [← X.hnL]; exact hl) hP hD hS
    · rw [if_neg e] at hb; cases hb)
  exact h () (by simp) H locs ls (by rw [X.hnL]; exact hl) hP hD hS
theorem lw_callC2 (X : lu_X G RL cL_law 4 fr lo) {index : Nat} {y : MethodName} {cy : ByteArray} {nLy fry loy mcy msy na : Nat} {avs : (Nat → Nat) → (Nat → Nat) → List Value} {f : lu_M → Option (Int32 × lu_M)} {As rest : List Value} {a : Int32} {m' : lu_M} (hM : lu_C2 lu_TC (lu_l G) y cy nLy (some .int) fry loy mcy msy avs f lu_RVi lu_sn) (hf : f m = some (a, m')) (ml : Cond.methodLink RL index y ∈ lu_ws) (mv : lu_MV RX11 y cy nLy (some .int) na) (hav : avs ρ (lu_sa G) = .ref (ρ 0) :: As) (hn : As.length = na) (hroom : (rest.map fun v => v.category).sum ≤ 8) (hfr : fry + 1 ≤ fr) (hlo : 8 + (nLy + 11) + loy ≤ lo) (hk : k + mcy ≤ (lu_R G).cells ∧ z + msy ≤ (lu_R G).slots) (d : decode cL_law pc = .ok (.invokevirtual index, 3)) (hp : pc + 3 = pc2) (hst : st = As.reverse ++ .ref (ρ 0) :: rest) (kk : ∀ ρ' : Nat → Nat, ρ' 0 = ρ 0 → lw_I G Q pc2 lv (.int a :: rest) ρ' m' σ n (k + mcy) (z + msy)) : lw_I G Q pc lv st ρ m σ n k z := by
  intro H locs ls hl hP hD hS
  classical
  have h := lu_invV2 (β := Unit) (Q := fun _ => Q) (Kf := fun b => if b = (a, m') then some () else none) (T := lu_TC) (ex := lu_W lu_TM (lu_cs G) σ n) (r := 0) (t := 4) (x := (0, 0)) X hM hf ml mv rfl (by decide) (by decide) ⟨_, rfl, rfl⟩ hav hn hroom hfr hlo hk d hp hst (fun ρ' b hρ => by
    intro b' hb H locs ls hl hP hD hS
    by_cases e : b = (a, m')
    · subst e
      exact kk ρ' (hρ 0 rfl) H locs ls (by rw [← X.hnL]; exact hl) hP hD hS
    · rw [if_neg e] at hb; cases hb)
  exact h () (by simp) H locs ls (by rw [X.hnL]; exact hl) hP hD hS
theorem lw_callM (X : lu_X G RL cL_law 4 fr lo) {index : Nat} {y : MethodName} {cy : ByteArray} {nLy fry loy na : Nat} {avs : (Nat → Nat) → (Nat → Nat) → List Value} {f : lu_M → Option (Int32 × lu_M)} {As rest : List Value} {a : Int32} {n' : lu_M} (hM : lu_C lu_TM (lu_l G) y cy nLy (some .int) fry loy avs f lu_RVi lu_sn) (hf : f n = some (a, n')) (ml : Cond.methodLink RL index y ∈ lu_ws) (mv : lu_MV RX12 y cy nLy (some .int) na) (hav : avs σ (lu_sa G) = .ref (σ 0) :: As) (hn : As.length = na) (hroom : (rest.map fun v => v.category).sum ≤ 8) (hfr : fry + 1 ≤ fr) (hlo : 8 + (nLy + 11) + loy ≤ lo) (hk : k ≤ (lu_R G).cells ∧ z ≤ (lu_R G).slots) (d : decode cL_law pc = .ok (.invokevirtual index, 3)) (hp : pc + 3 = pc2) (hst : st = As.reverse ++ .ref (σ 0) :: rest) (kk : lw_I G Q pc2 lv (.int a :: rest) ρ m σ n' k z) : lw_I G Q pc lv st ρ m σ n k z := by
  intro H locs ls hl hP hD hS
  classical
  have h := lu_invV (β := Unit) (Q := fun _ => Q) (Kf := fun b => if b = (a, n') then some () else none) (T := lu_TM) (ex := lu_W lu_TC (lu_cs G) ρ m) (r := 0) (t := 11) (x := (0, 0)) X hM hf ml mv rfl (by decide) (by decide) ⟨_, rfl, rfl⟩ hav hn hroom hfr hlo hk d hp hst (fun b => by
    intro b' hb H locs ls hl hP hD hS
    by_cases e : b = (a, n')
    · subst e
      exact kk H locs ls (by rw [← X.hnL]; exact hl) (lu_swap.1 H hP) ((lu_swap (D := lu_D G)).2 _ hD) hS
    · rw [if_neg e] at hb; cases hb)
  exact h () (by simp) H locs ls (by rw [X.hnL]; exact hl) (lu_swap.1 H hP) ((lu_swap (D := lu_D G)).2 _ hD) hS
variable {b L j u1 u2 : Nat} {xs : Nat → Int32}
theorem lw_a1 (X : lw_X G fr lo b L xs) (d : decode cL_law pc = .ok (.aload_n 1, 1)) (hp : pc + 1 = pc2) {i : Int32} (kk : lw_I G Q pc2 (lw_lv b u1 u2 i) (.ref u1 :: st) ρ m σ n k z) : lw_I G Q pc (lw_lv b u1 u2 i) st ρ m σ n k z := by
  subst hp
  exact fun H locs ls hl hP hD hS => lv_aload_n X.1.hx X.1.hb d rfl (lv_at hl 2 rfl) (kk H locs ls hl hP hD hS)
theorem lw_a2 (X : lw_X G fr lo b L xs) (d : decode cL_law pc = .ok (.aload_n 2, 1)) (hp : pc + 1 = pc2) {i : Int32} (kk : lw_I G Q pc2 (lw_lv b u1 u2 i) (.ref u2 :: st) ρ m σ n k z) : lw_I G Q pc (lw_lv b u1 u2 i) st ρ m σ n k z := by
  subst hp
  exact fun H locs ls hl hP hD hS => lv_aload_n X.1.hx X.1.hb d rfl (lv_at hl 1 rfl) (kk H locs ls hl hP hD hS)
/-- script[i + q] -/
theorem lw_ld (X : lw_X G fr lo b L xs) (hj : j + 5 ≤ L) (q : Nat) (hq : q < 5) {qi : Int} (hqi : Int32.ofInt qi = nI q) (d0 : decode cL_law pc = .ok (.aload_n 0, 1)) (d1 : decode cL_law (pc + 1) = .ok (.iload_n 3, 1)) (d2 : decode cL_law (pc + 2) = .ok (.iconst qi, 1)) (d3 : decode cL_law (pc + 3) = .ok (.iadd, 1)) (d4 : decode cL_law (pc + 4) = .ok (.iaload, 1)) (hp : pc + 5 = pc2)
    (kk : lw_I G Q pc2 (lw_lv b u1 u2 (nI j)) (.int (xs (j + q)) :: st) ρ m σ n k z) : lw_I G Q pc (lw_lv b u1 u2 (nI j)) st ρ m σ n k z := by
  subst hp
  intro H locs ls hl hP hD hS
  have h5 := X.2.2.2.2
  have e : (nI j + nI q).toNatClampNeg = j + q := by rw [nI_add, nI_clamp (by omega)]
  refine lv_aload_n X.1.hx X.1.hb d0 rfl (lv_at hl 3 rfl) ?_
  refine lv_iload_n X.1.hx X.1.hb d1 rfl (lv_at hl 0 rfl) ?_
  refine lv_iconst (v := nI q) X.1.hx X.1.hb d2 hqi ?_
  refine lv_iadd X.1.hx X.1.hb d3 ?_
  refine va_sld X.1.hx X.1.hb X.2.1 X.2.2.1 X.2.2.2.1 hS (by rw [nI_add]; exact vp_in_nI (by omega) (by omega)) d4 ?_
  rw [e]
  exact kk H locs ls hl hP hD hS
theorem lw_same (X : lw_X G fr lo b L xs) {a : Int32} {off : Int} (d : decode cL_law pc = .ok (.if_icmp .eq off, 3)) (ht : (pc : Int) + off = ((1843 : Nat) : Int)) (kk : lw_I G Q 1843 lv [] ρ m σ n k z) : lw_I G Q pc lv [.int a, .int a] ρ m σ n k z :=
  fun H locs ls hl hP hD hS => lv_icmp_eq X.1.hx X.1.hb d ht (fun _ => kk H locs ls hl hP hD hS) (fun h => absurd rfl h)
/-- a long of two ints of the script -/
def lw_w (a c : Int32) : Int64 := (a.toInt64 <<< ((32 : Int32).toInt64 &&& 63)) ||| (c.toInt64 &&& 4294967295)
theorem lw_lo (X : lw_X G fr lo b L xs) {a c : Int32} {index : Nat} (hcl : Cond.constantLong RL index 4294967295 ∈ lu_ws) (hj : j + 5 ≤ L)
    (d0 : decode cL_law pc = .ok (.i2l, 1)) (d1 : decode cL_law (pc + 1) = .ok (.bipush 32, 2)) (d2 : decode cL_law (pc + 3) = .ok (.lshl, 1)) (e0 : decode cL_law (pc + 4) = .ok (.aload_n 0, 1)) (e1 : decode cL_law (pc + 5) = .ok (.iload_n 3, 1)) (e2 : decode cL_law (pc + 6) = .ok (.iconst 2, 1)) (e3 : decode cL_law (pc + 7) = .ok (.iadd, 1)) (e4 : decode cL_law (pc + 8) = .ok (.iaload, 1)) (d3 : decode cL_law (pc + 9) = .ok (.i2l, 1)) (d4 : decode cL_law (pc + 10) = .ok (.ldc2_w index, 3)) (d5 : decode cL_law (pc + 13) = .ok (.land, 1)) (d6 : decode cL_law (pc + 14) = .ok (.lor, 1)) (hp : pc + 15 = pc2) (hc : xs (j + 2) = c)
    (kk : lw_I G Q pc2 (lw_lv b u1 u2 (nI j)) (.long (lw_w a c) :: st) ρ m σ n k z) : lw_I G Q pc (lw_lv b u1 u2 (nI j)) (.int a :: st) ρ m σ n k z := by
  subst hp
  subst hc
  intro H locs ls hl hP hD hS
  refine lv_i2l (v := a.toInt64) X.1.hx X.1.hb d0 rfl ?_
  refine lv_bipush (v := 32) X.1.hx X.1.hb d1 (by decide) ?_
  refine lv_lshl (v := a.toInt64 <<< ((32 : Int32).toInt64 &&& 63)) X.1.hx X.1.hb d2 rfl ?_
  refine lw_ld (st := .long (a.toInt64 <<< ((32 : Int32).toInt64 &&& 63)) :: st) (Q := Q) (k := k) (z := z) X hj 2 (by decide) rfl e0 e1 e2 e3 e4 rfl ?_ H locs ls hl hP hD hS
  intro H locs ls hl hP hD hS
  refine lv_i2l (v := (xs (j + 2)).toInt64) X.1.hx X.1.hb d3 rfl ?_
  refine lv_ldc2 X.1.hx X.1.hb X.1.hown (X.1.hts _ hcl) d4 ?_
  refine lv_land X.1.hx X.1.hb d5 ?_
  refine lv_lor X.1.hx X.1.hb d6 ?_
  exact kk H locs ls hl hP hD hS
end LAW

/-! THE PURE PART: the reading of a text: a value, a comparison -/
section COMP
variable {b : Nat → Nat} {len : Nat} {M0 N0 M N : lu_M} {us co o f : Nat} {l : List Tk} {x : List Int32}
theorem g_is_no {j : Nat} (h : g_L b len f = false) : g_is b len f j = false := by
  unfold g_is
  rw [h, Bool.false_and]
theorem g_DL (h : g_D b len f = true) : g_L b len f = false := Bool.eq_false_iff.mpr (fun q => by
  rw [g_LD b len f q] at h
  exact p_ff h)
def g_va (b : Nat → Nat) (len f : Nat) : Int32 := if g_is b len f 8 then 10000 else if g_is b len f 9 then 10001 else if g_is b len f 10 then 10002 else if g_is b len f 11 then 10003 else if g_is b len f 12 then 10004 else -1
def g_fa (b : Nat → Nat) (len f : Nat) : Int32 := if g_is b len f 8 then -1 else if g_is b len f 9 then -2 else if g_is b len f 10 then -3 else if g_is b len f 11 then -4 else if g_is b len f 12 then -5 else 0
theorem k_value (T : TPc b len M) (A : AT b len f M) : f8_valueNamed M = some (if g_so b len f = 2 then g_val b f (g_nx b len f) else g_va b len f, M) := by
  have hs := g_so_le b len f
  unfold f8_valueNamed f8_valueNamed_b81 g_va
  rw [A.2.1, show (2 : Int32) = nI 2 from rfl, q_eq (by omega) (by omega)]
  by_cases h : g_so b len f = 2
  · rw [if_pos h, if_pos h, A.2.2.2.2 h]
  · rw [if_neg h, if_neg h, k_isNamed T A (j := 8) (by omega), p_bi, k_isNamed T A (j := 9) (by omega), p_bi, k_isNamed T A (j := 10) (by omega), p_bi, k_isNamed T A (j := 11) (by omega), p_bi, k_isNamed T A (j := 12) (by omega), p_bi, p_if, p_if, p_if, p_if, p_if]
    cases g_is b len f 8 <;> cases g_is b len f 9 <;> cases g_is b len f 10 <;> cases g_is b len f 11 <;> cases g_is b len f 12 <;> rfl
theorem t_fact0 (T : TPn b len N) (A : ATn b len f N) (h : N 0 29 = 0) : f12_factHere N = some (g_fa b len f, N) := by
  have hw : f12_word N = some (g_wd b len f false, N) := t_word T A (wr := false) h
  have hq : ∀ j, j < 18 → ∀ (u v : Option (Int32 × lu_M)), (if lg_cmp (g_wd b len f false) (lN (g_cd j)) = 0 then u else v) = if g_is b len f j then u else v := fun j hj u v => by
    have hi := g_wd_is T.1 T.2.2.2 A.1 hj
    cases hb : g_is b len f j
    · rw [if_neg (fun q => by rw [hi, hb] at q; exact p_ff q), if_neg p_ff]
    · rw [if_pos (hi.mpr hb), if_pos rfl]
  unfold f12_factHere f12_factHere_b70 g_fa
  rw [hw, p_bi, gc8, gc9, gc10, gc11, gc12, hq 8 (by omega), hq 9 (by omega), hq 10 (by omega), hq 11 (by omega), hq 12 (by omega)]
  cases g_is b len f 8 <;> cases g_is b len f 9 <;> cases g_is b len f 10 <;> cases g_is b len f 11 <;> cases g_is b len f 12 <;> rfl
theorem lu_bvs (u : Option lu_M) : (lu_bv u fun m => some m) = u := by cases u <;> rfl
theorem g_dig (hl : len ≤ 200) (hD : g_D b len f = true) : ∀ i, f ≤ i → i < g_nx b len f → 48 ≤ b i ∧ b i ≤ 57 := by
  have hlt := g_Dl b len f hD
  have hx : g_nx b len f = g_to (g_D b len) (f + 1) := by
    unfold g_nx
    rw [if_neg (by omega), g_DL hD, if_neg p_ff, hD, if_pos rfl]
  obtain ⟨p1, p2, -, p4⟩ := g_to_p (g_Dl b len) hl (i := f + 1) (by omega)
  intro i h1 h2
  by_cases e : i = f
  · subst e; exact (g_lt (b := b) hD).2
  · exact (g_lt (b := b) (p4 i (by omega) (by omega))).2
theorem g_num_lt (hl : len ≤ 200) (hD : g_D b len f = true) (h4 : g_nx b len f - f ≤ 4) : g_nm b (g_nx b len f - f) f 0 < 10000 := by
  have hd := g_dig hl hD
  have h1 := g_nm_le b (g_nx b len f - f) f 0 (fun k h1 h2 => (hd k h1 (by omega)).2)
  have h2 : 10 ^ (g_nx b len f - f) ≤ 10 ^ 4 := Nat.pow_le_pow_right (by omega) h4
  rw [Nat.zero_add, Nat.one_mul] at h1
  exact Nat.lt_of_lt_of_le h1 h2
theorem t_num (T : TPn b len N) (A : ATn b len f N) {high : Nat} (hh : high ≤ 9999) : ((g_D b len f = true ∧ g_nx b len f - f ≤ 4 ∧ g_nm b (g_nx b len f - f) f 0 ≤ high) → f12_number (nI high) N = f12_wants 1 (p_rw N 0 (upd (N 0) 26 (nI (g_nm b (g_nx b len f - f) f 0))))) ∧ (¬ (g_D b len f = true ∧ g_nx b len f - f ≤ 4 ∧ g_nm b (g_nx b len f - f) f 0 ≤ high) → ∃ v, f12_number (nI high) N = f12_wants 0 (p_rw N 0 (upd (N 0) 26 v))) := by
  have hl := T.1
  obtain ⟨hf, a4, a5⟩ := A
  obtain ⟨n1, n2, n3⟩ := g_nx_p (b := b) hl hf
  have run : g_D b len f = true → ∀ (j i q acc : Nat), i + j = g_nx b len f → f ≤ i → j < q → f12_number_b43 (f12_number_b82 (nI high)) (nI high) q 1 (nI i) (p_rw N 0 (upd (N 0) 26 (nI acc))) = f12_number_b82 (nI high) 1 (p_rw N 0 (upd (N 0) 26 (nI (g_nm b j i acc)))) := by
    intro hD j
    induction j with
    | zero =>
      intro i q acc hi hfi hq
      obtain ⟨q, rfl⟩ : ∃ r, q = r + 1 := ⟨q - 1, by omega⟩
      show f12_number_b43B _ _ _ _ _ _ = _
      unfold f12_number_b43B
      rw [p_rw_s, upd_ne (by omega), a5, q_le (by omega) (by omega), if_pos (by omega)]
      rfl
    | succ j ih =>
      intro i q acc hi hfi hq
      obtain ⟨q, rfl⟩ : ∃ r, q = r + 1 := ⟨q - 1, by omega⟩
      obtain ⟨d1, d2⟩ := g_dig hl hD i hfi (by omega)
      have hst : g_nm b (j + 1) i acc = g_nm b j (i + 1) (acc * 10 + b i - 48) := rfl
      show f12_number_b43B _ _ _ _ _ _ = _
      unfold f12_number_b43B
      rw [p_rw_s, upd_ne (by omega), a5, q_le (by omega) (by omega), if_neg (by omega), if_neg (by decide), p_gd (by omega) (by omega), p_us, p_rw_n (by omega), nI_clamp (by omega), T.2.2.1 i (by omega), show (10 : Int32) = nI 10 from rfl, show (48 : Int32) = nI 48 from rfl, pk_mul, nI_add, pk_sub (by omega), p_nm, p_next, p_stc, upd_upd, hst, Nat.mul_comm 10]
      exact ih (i + 1) q _ (by omega) (by omega) (by omega)
  have h32 : ∀ (z : Int32) , f12_number_b32 (nI high) z N = f12_number_b43 (f12_number_b82 (nI high)) (nI high) lu_fu z (nI f) (p_rw N 0 (upd (N 0) 26 0)) := fun z => by
    unfold f12_number_b32
    rw [p_nm, p_nm, p_st, p_rw_s, upd_ne (by omega), a4]
  have hz0 : ∀ q, 0 < q → f12_number_b43 (f12_number_b82 (nI high)) (nI high) q 0 (nI f) (p_rw N 0 (upd (N 0) 26 0)) = f12_wants 0 (p_rw N 0 (upd (N 0) 26 0)) := fun q hq => by
    obtain ⟨q, rfl⟩ : ∃ r, q = r + 1 := ⟨q - 1, by omega⟩
    show f12_number_b43B _ _ _ _ _ _ = _
    unfold f12_number_b43B f12_number_b82 f12_number_b99 f12_number_b100
    rw [if_pos (show (0 : Int32) = 0 from rfl), if_pos (show (0 : Int32) = 0 from rfl), lu_bvs]
    split <;> rfl
  have hz := hz0 lu_fu (p_fu (by omega))
  unfold f12_number f12_number_b31
  rw [a4, t_byteAt T (by omega), p_bi, t_isDigit T.2.2.2, p_bi, p_if, a5, a4, pk_sub n1, show (5 : Int32) = nI 5 from rfl, q_le (by omega) (by omega), h32, h32]
  cases hD : g_D b len f
  · refine ⟨fun q => absurd q.1 p_ff, fun _ => ⟨0, ?_⟩⟩
    rw [if_neg p_ff, hz]
  by_cases h5 : 5 ≤ g_nx b len f - f
  · refine ⟨fun q => by omega, fun _ => ⟨0, ?_⟩⟩
    rw [if_pos rfl, if_pos h5, hz]
  have hn := g_num_lt hl hD (by omega)
  have hr := run hD (g_nx b len f - f) f lu_fu 0 (by omega) (Nat.le_refl _) (p_fu (by omega))
  rw [if_pos rfl, if_neg h5]
  have hr' : f12_number_b43 (f12_number_b82 (nI high)) (nI high) lu_fu 1 (nI f) (p_rw N 0 (upd (N 0) 26 0)) = f12_number_b82 (nI high) 1 (p_rw N 0 (upd (N 0) 26 (nI (g_nm b (g_nx b len f - f) f 0)))) := hr
  rw [hr']
  unfold f12_number_b82 f12_number_b99 f12_number_b100
  rw [if_neg (show ¬ (1 : Int32) = 0 by decide), p_rw_s, p_us, q_lt (by omega) (by omega), lu_bvs, lu_bvs]
  by_cases hc : high < g_nm b (g_nx b len f - f) f 0
  · rw [if_pos hc]
    exact ⟨fun q => by have := q.2.2; omega, fun _ => ⟨_, rfl⟩⟩
  · rw [if_neg hc]
    exact ⟨fun _ => rfl, fun q => absurd ⟨rfl, by omega, by omega⟩ q⟩
theorem ST.val (S : ST b len M0 N0 us co o f l x M N) : (∃ a M' N' f', a < 10005 ∧ f8_valueNamed M = some (nI a, M) ∧ f8_advance M = some M' ∧ f12_valueHere N = some N' ∧ ST b len M0 N0 us co o f' l (x ++ [e_o a]) M' N' ∧ f < f') ∨ (∃ v N', ¬ 0 ≤ v ∧ f8_valueNamed M = some (v, M) ∧ f12_valueHere N = some N' ∧ FA b len M0 N0 co M N') := by
  have hl := S.l2
  have hf := S.fl
  have hbd := S.bd
  have ek := k_value S.tc S.at'
  have et := t_fact0 S.tn S.an S.w0
  have hneg : ∀ v : Int32, v < 0 → ¬ 0 ≤ v := fun v hv q => Int32.lt_irrefl (Int32.lt_of_le_of_lt q hv)
  have hnum : g_fa b len f = 0 → f12_valueHere N = lu_bv (f12_number (9999 : Int32) N) fun m3 => lu_bv (f12_writes (m3 0 26) m3) fun m4 => some m4 := fun h0 => by
    unfold f12_valueHere f12_valueHere_b44
    rw [et, h0, p_bi, if_pos (Int32.le_refl _), S.w0, if_pos rfl]
  obtain ⟨num1, num2⟩ := t_num S.tn S.an (high := 9999) (Nat.le_refl _)
  have hbad : g_fa b len f = 0 → ¬ (g_D b len f = true ∧ g_nx b len f - f ≤ 4 ∧ g_nm b (g_nx b len f - f) f 0 ≤ 9999) → ∃ N', f12_valueHere N = some N' ∧ FA b len M0 N0 co M N' := fun h0 hn => by
    obtain ⟨v, ev⟩ := num2 hn
    have S1 := S.n0 (z := upd (N 0) 26 v) (fun i h1 h2 => upd_ne h1) (o' := o) (by rw [upd_ne (by omega)]; exact S.op)
    obtain ⟨N', e1, F, -⟩ := S1.no
    refine ⟨N', ?_, F⟩
    obtain ⟨-, -, -, -, -, -, f', -, -, h29⟩ := F
    rw [hnum h0, show (9999 : Int32) = nI 9999 from rfl, ev, e1, p_bv, st_writes h29, p_bv]
  by_cases hs : g_so b len f = 2
  · have hD := (g_so_2 b len f).mp hs
    have hL := g_DL hD
    have hlt := g_Dl b len f hD
    have h0 : g_fa b len f = 0 := by
      unfold g_fa
      rw [g_is_no hL, g_is_no hL, g_is_no hL, g_is_no hL, g_is_no hL]; rfl
    rw [if_pos hs] at ek
    by_cases h4 : g_nx b len f - f ≤ 4
    · have hn := g_num_lt hl hD h4
      have hv : g_val b f (g_nx b len f) = nI (g_nm b (g_nx b len f - f) f 0) := by
        unfold g_val
        rw [if_pos h4]
      have S1 := S.n0 (z := upd (N 0) 26 (nI (g_nm b (g_nx b len f - f) f 0))) (fun i h1 h2 => upd_ne h1) (o' := o) (by rw [upd_ne (by omega)]; exact S.op)
      obtain ⟨M', N1, f', e1, e2, S2, q1, q2, q3⟩ := S1.go
      have hff := q2 hlt
      obtain ⟨N2, e3, S3⟩ := S2.wr (nI (g_nm b (g_nx b len f - f) f 0)) (by omega)
      refine Or.inl ⟨g_nm b (g_nx b len f - f) f 0, M', N2, f', by omega, by rw [ek, hv], e1, ?_, ?_, hff⟩
      · rw [hnum h0, show (9999 : Int32) = nI 9999 from rfl, num1 ⟨hD, h4, by omega⟩, e2, p_bv, q3, p_rw_s, p_us, e3, p_bv]
      · have heo : e_o (g_nm b (g_nx b len f - f) f 0) = nI (g_nm b (g_nx b len f - f) f 0) := if_pos hn
        rw [heo]
        exact S3
    · obtain ⟨N', e1, F⟩ := hbad h0 (fun q => h4 q.2.1)
      refine Or.inr ⟨-1, N', by decide, ?_, e1, F⟩
      rw [ek]
      unfold g_val
      rw [if_neg h4]
  · rw [if_neg hs] at ek
    have hname : ∀ (a : Nat) (c : Int32), a < 10005 → e_o a = c → ¬ 0 ≤ c → f < len → g_va b len f = nI a → g_fa b len f = c → (∃ a M' N' f', a < 10005 ∧ f8_valueNamed M = some (nI a, M) ∧ f8_advance M = some M' ∧ f12_valueHere N = some N' ∧ ST b len M0 N0 us co o f' l (x ++ [e_o a]) M' N' ∧ f < f') := fun a c ha hc hneg hlt h1 h2 => by
      obtain ⟨M', N1, f', e1, e2, S2, q1, q2, q3⟩ := S.go
      have hff := q2 hlt
      obtain ⟨N2, e3, S3⟩ := S2.wr c (by omega)
      refine ⟨a, M', N2, f', ha, by rw [ek, h1], e1, ?_, by rw [hc]; exact S3, hff⟩
      unfold f12_valueHere f12_valueHere_b44
      rw [et, h2, p_bi, if_neg hneg, e2, p_bv, e3, p_bv]
    have hlt : ∀ j, g_is b len f j = true → f < len := fun j h => by
      unfold g_is at h
      rw [Bool.and_eq_true] at h
      exact g_Ll b len f h.1
    cases h8 : g_is b len f 8
    · cases h9 : g_is b len f 9
      · cases h10 : g_is b len f 10
        · cases h11 : g_is b len f 11
          · cases h12 : g_is b len f 12
            · have h0 : g_fa b len f = 0 := by
                unfold g_fa
                rw [h8, h9, h10, h11, h12]; rfl
              obtain ⟨N', e1, F⟩ := hbad h0 (fun q => hs ((g_so_2 b len f).mpr q.1))
              refine Or.inr ⟨-1, N', by decide, ?_, e1, F⟩
              rw [ek]
              unfold g_va
              rw [h8, h9, h10, h11, h12]; rfl
            · refine Or.inl (hname 10004 (-5) (by omega) (by decide) (by decide) (hlt 12 h12) ?_ ?_)
              · unfold g_va; rw [h8, h9, h10, h11, h12]; rfl
              · unfold g_fa; rw [h8, h9, h10, h11, h12]; rfl
          · refine Or.inl (hname 10003 (-4) (by omega) (by decide) (by decide) (hlt 11 h11) ?_ ?_)
            · unfold g_va; rw [h8, h9, h10, h11]; rfl
            · unfold g_fa; rw [h8, h9, h10, h11]; rfl
        · refine Or.inl (hname 10002 (-3) (by omega) (by decide) (by decide) (hlt 10 h10) ?_ ?_)
          · unfold g_va; rw [h8, h9, h10]; rfl
          · unfold g_fa; rw [h8, h9, h10]; rfl
      · refine Or.inl (hname 10001 (-2) (by omega) (by decide) (by decide) (hlt 9 h9) ?_ ?_)
        · unfold g_va; rw [h8, h9]; rfl
        · unfold g_fa; rw [h8, h9]; rfl
    · refine Or.inl (hname 10000 (-1) (by omega) (by decide) (by decide) (hlt 8 h8) ?_ ?_)
      · unfold g_va; rw [h8]; rfl
      · unfold g_fa; rw [h8]; rfl
/-- what reading a piece leaves: it is told whole, or it is wrong in both -/
def OU (b : Nat → Nat) (len : Nat) (M0 N0 : lu_M) (us co o f : Nat) (l : List Tk) (H : Nat) (fc : Option (Int32 × lu_M)) (fn : Option lu_M) : Prop :=
  (∃ M' N' f' lx, fc = some (1, M') ∧ fn = some N' ∧ ST b len M0 N0 us co o f' (l ++ lx) [] M' N' ∧ f < f' ∧ (e_Ms lx).length + f ≤ f' ∧ (∀ h, h ≤ H → o_hs lx h = some (h + 1)) ∧ ∀ t ∈ lx, o_ok t) ∨
  ∃ M' N', fc = some (0, M') ∧ fn = some N' ∧ FA b len M0 N0 co M' N'
theorem i_sh {a : Nat} (h : a * 2 ^ 14 < 2 ^ 32) : nI a <<< ((14 : Int32) &&& 31) = nI (a * 16384) := pk_shlN _ 14 (by decide +kernel) h
theorem nI_or {a c : Nat} (ha : a < 2 ^ 31) (hc : c < 2 ^ 31) : (nI a ||| nI c) = nI (a ||| c) := by
  apply b_ext
  intro i hi
  rw [b_or, bt_nI ha hi, bt_nI hc hi, bt_nI (Nat.or_lt_two_pow ha hc) hi, Nat.testBit_or]
theorem i_or14 {a c : Nat} (ha : a < 2 ^ 17) (hc : c < 16384) : (nI (a * 16384) ||| nI c) = nI (a * 16384 + c) := by
  rw [nI_or (by omega) (by omega), Nat.mul_comm a 16384]
  have := Nat.two_pow_add_eq_or_of_lt (i := 14) (b := c) hc a
  rw [show (2 : Nat) ^ 14 = 16384 by decide] at this
  rw [this]
theorem i_step {g a c : Nat} (hg : g ≤ 3) (ha : a < 10005) (hc : c < 10005) : ((((nI g <<< ((14 : Int32) &&& 31)) ||| nI a) <<< ((14 : Int32) &&& 31)) ||| nI c) = nI ((g * 16384 + a) * 16384 + c) := by
  rw [i_sh (by omega), i_or14 (by omega) (by omega), i_sh (by omega), i_or14 (by omega) (by omega)]
theorem ST.comp (S : ST b len M0 N0 us co o f l [] M N) : OU b len M0 N0 us co o f l 11 (f8_tellComparison M) (f12_comparison N) := by
  have hbd := S.bd
  rcases S.val with ⟨a, M1, N1, f1, ha, e1, e2, e3, S1, q1⟩ | ⟨v, N1, hv, e1, e3, F⟩
  · have hl := S1.l2
    have hf1 := S1.fl
    have hcl : f8_tellComparison M = (if f1 < len ∧ b f1 = 60 then f8_tellComparison_b55 (nI a) 1 M1 else if f1 < len ∧ b f1 = 61 then f8_tellComparison_b55 (nI a) 2 M1 else if f1 < len ∧ b f1 = 62 then f8_tellComparison_b55 (nI a) 3 M1 else f8_tellComparison_b55 (nI a) 0 M1) := by
      unfold f8_tellComparison
      rw [e1, p_bi, if_pos (nI_pos' (by omega)), e2, p_bv, show (60 : Int32) = nI 60 from rfl, show (61 : Int32) = nI 61 from rfl, show (62 : Int32) = nI 62 from rfl, k_isByte S1.tc S1.at' (by omega) (by omega) (by omega), p_bi, k_isByte S1.tc S1.at' (by omega) (by omega) (by omega), p_bi, k_isByte S1.tc S1.at' (by omega) (by omega) (by omega), p_bi, p_if, p_if, p_if]
      simp only [decide_eq_true_eq]
    have hby := fun c hc => g_by_32 (b := b) (len := len) (a := f1) S1.tn.2.2.2 c hc
    have hre : f12_comparison N = (if f1 < len ∧ b f1 = 60 then f12_comparison_b48 (nI 60) 1 N1 else if f1 < len ∧ b f1 = 61 then f12_comparison_b48 (nI 61) 1 N1 else if f1 < len ∧ b f1 = 62 then f12_comparison_b48 (nI 62) 1 N1 else f12_comparison_b48 (g_by b len f1) 0 N1) := by
      unfold f12_comparison f12_comparison_b23 f12_comparison_b43
      rw [e3, p_bv, S1.w0, if_pos rfl, S1.an.2.1, t_byteAt S1.tn (by omega), p_bi]
      have q60 : (g_by b len f1 = (60 : Int32)) = (f1 < len ∧ b f1 = 60) := propext (hby 60 (by omega))
      have q61 : (g_by b len f1 = (61 : Int32)) = (f1 < len ∧ b f1 = 61) := propext (hby 61 (by omega))
      have q62 : (g_by b len f1 = (62 : Int32)) = (f1 < len ∧ b f1 = 62) := propext (hby 62 (by omega))
      by_cases h60 : f1 < len ∧ b f1 = 60
      · rw [if_pos (q60 ▸ h60), if_pos h60, (hby 60 (by omega)).mpr h60]
      rw [if_neg (q60 ▸ h60), if_neg h60]
      by_cases h61 : f1 < len ∧ b f1 = 61
      · rw [if_pos (q61 ▸ h61), if_pos h61, (hby 61 (by omega)).mpr h61]
      rw [if_neg (q61 ▸ h61), if_neg h61]
      by_cases h62 : f1 < len ∧ b f1 = 62
      · rw [if_pos (q62 ▸ h62), if_pos h62, (hby 62 (by omega)).mpr h62]
      rw [if_neg (q62 ▸ h62), if_neg h62]
    have sgn : ∀ g : Nat, 1 ≤ g → g ≤ 3 → f1 < len → OU b len M0 N0 us co o f l 11 (f8_tellComparison_b55 (nI a) (nI g) M1) (f12_comparison_b48 (nI (59 + g)) 1 N1) := fun g g1 g3 hlt => by
      obtain ⟨M2, N2, f2, c1, c2, S2, r1, r2, -⟩ := S1.go
      have hf12 := r2 hlt
      have g3' : g = 1 ∨ g = 2 ∨ g = 3 := by omega
      unfold f8_tellComparison_b55 f12_comparison_b48 f12_comparison_b80
      rw [if_neg (p_ne0 (by omega) (by omega)), c1, p_bv, c2, p_bv]
      rcases S2.val with ⟨a2, M3, N3, f3, ha2, d1, d2, d3, S3, s1⟩ | ⟨v, N3, hv, d1, d3, F⟩
      · obtain ⟨N4, w1, S4⟩ := S3.wr (if g = 1 then -11 else if g = 2 then -12 else -13) (by simp; omega)
        have hx : e_M (0, g, a, a2) = [] ++ [e_o a] ++ [e_o a2] ++ [if g = 1 then -11 else if g = 2 then -12 else -13] := rfl
        obtain ⟨M5, w2, S5⟩ := S4.ad (t := (0, g, a, a2)) hx (by simp)
        refine Or.inl ⟨M5, N4, f3, [(0, g, a, a2)], ?_, ?_, S5, by omega, ?_, fun h hh => ?_, fun t ht => ?_⟩
        · rw [d1, p_bi, if_pos (nI_pos' (by omega)), d2, p_bv, i_step g3 ha ha2]
          have he : e_C (0, g, a, a2) = nI ((g * 16384 + a) * 16384 + a2) := rfl
          rw [← he, w2, p_bv]
        · rw [d3, p_bv]
          rcases g3' with e | e | e <;> subst e
          · rw [if_pos (by decide)]
            rw [show f12_writes (-11) N3 = some N4 from w1, p_bv]
          · rw [if_neg (by decide), if_pos (by decide)]
            rw [show f12_writes (-12) N3 = some N4 from w1, p_bv]
          · rw [if_neg (by decide), if_neg (by decide)]
            rw [show f12_writes (-13) N3 = some N4 from w1, p_bv]
        · show 3 + f ≤ f3
          omega
        · show (o_h (0, g, a, a2) h).bind (o_hs []) = some (h + 1)
          have : o_h (0, g, a, a2) h = some (h + 1) := by
            show (if (0 : Nat) = 0 then (if h < 12 then some (h + 1) else none) else _) = _
            rw [if_pos rfl, if_pos (by omega)]
          rw [this]; rfl
        · have e : t = (0, g, a, a2) := by simpa using ht
          subst e
          exact ⟨Nat.zero_le _, fun _ => ⟨g1, g3, ha, ha2⟩⟩
      · obtain ⟨-, -, -, -, -, -, f', -, -, h29⟩ := id F
        refine Or.inr ⟨M2, N3, ?_, ?_, F⟩
        · rw [d1, p_bi, if_neg hv]
        · rw [d3, p_bv, st_writes h29, st_writes h29, st_writes h29, p_bv]
          split
          · rfl
          · split <;> rfl
    rw [hcl, hre]
    by_cases h60 : f1 < len ∧ b f1 = 60
    · rw [if_pos h60, if_pos h60]
      exact sgn 1 (by omega) (by omega) h60.1
    rw [if_neg h60, if_neg h60]
    by_cases h61 : f1 < len ∧ b f1 = 61
    · rw [if_pos h61, if_pos h61]
      exact sgn 2 (by omega) (by omega) h61.1
    rw [if_neg h61, if_neg h61]
    by_cases h62 : f1 < len ∧ b f1 = 62
    · rw [if_pos h62, if_pos h62]
      exact sgn 3 (by omega) (by omega) h62.1
    rw [if_neg h62, if_neg h62]
    obtain ⟨N2, w1, F, -⟩ := S1.no
    obtain ⟨-, -, -, -, -, T2, f', -, A2, h29⟩ := id F
    refine Or.inr ⟨M1, N2, ?_, ?_, F⟩
    · unfold f8_tellComparison_b55
      rw [if_pos rfl]
    · unfold f12_comparison_b48 f12_comparison_b80
      rw [w1, p_bv, st_value T2 A2 h29, p_bv, st_writes h29, st_writes h29, st_writes h29, p_bv]
      split
      · rfl
      · split <;> rfl
  · obtain ⟨-, -, -, -, -, T2, f', -, A2, h29⟩ := id F
    refine Or.inr ⟨M, N1, ?_, ?_, F⟩
    · unfold f8_tellComparison
      rw [e1, p_bi, if_neg hv]
    · unfold f12_comparison f12_comparison_b23 f12_comparison_b43 f12_comparison_b48 f12_comparison_b80
      rw [e3, p_bv, h29, if_neg (by decide), if_neg (by decide), if_neg (by decide), if_neg (by decide), st_wants h29, p_bv, st_value T2 A2 h29, p_bv, if_neg (by decide), if_neg (by decide), st_writes h29, p_bv]
end COMP

/-! THE PURE PART: the reading of a text: what stands at a token, one step on -/
theorem gc0 : (263620 : Int64) = lN (g_cd 0) := by decide +kernel
theorem gc1 : (3625566372 : Int64) = lN (g_cd 1) := by decide +kernel
theorem gc2 : (217652402 : Int64) = lN (g_cd 2) := by decide +kernel
theorem gc3 : (679214 : Int64) = lN (g_cd 3) := by decide +kernel
theorem gc4 : (635383 : Int64) = lN (g_cd 4) := by decide +kernel
theorem gc5 : (267570 : Int64) = lN (g_cd 5) := by decide +kernel
theorem gc6 : (294 : Int64) = lN (g_cd 6) := by decide +kernel
theorem gc7 : (14836 : Int64) = lN (g_cd 7) := by decide +kernel
theorem gc8 : (824370 : Int64) = lN (g_cd 8) := by decide +kernel
theorem gc9 : (658552979 : Int64) = lN (g_cd 9) := by decide +kernel
theorem gc10 : (7930981 : Int64) = lN (g_cd 10) := by decide +kernel
theorem gc11 : (674919554696 : Int64) = lN (g_cd 11) := by decide +kernel
theorem gc12 : (492210354 : Int64) = lN (g_cd 12) := by decide +kernel
theorem gc13 : (1476 : Int64) = lN (g_cd 13) := by decide +kernel
theorem gc14 : (498 : Int64) = lN (g_cd 14) := by decide +kernel
theorem gc15 : (5294489 : Int64) = lN (g_cd 15) := by decide +kernel
theorem gc16 : (394885 : Int64) = lN (g_cd 16) := by decide +kernel
theorem gc17 : (20448837 : Int64) = lN (g_cd 17) := by decide +kernel
/-- both since M0, N0: a condition's steps l, codes x besides; us, co: how many stood there -/
def PC (M0 N0 : lu_M) (us co : Nat) (l : List Tk) (x : List Int32) (M N : lu_M) : Prop :=
  (∀ r, r ≠ 83 → r ≠ 85 → r ≠ 90 → M r = M0 r) ∧ M 83 1 = M0 83 1 ∧ (∀ i, i ≠ 6 → M 85 i = M0 85 i) ∧ (∀ i, i < us → M 90 i = M0 90 i) ∧
  (∀ r, r ≠ 0 → r ≠ 1 → N r = N0 r) ∧ (∀ i, i < 24 ∨ 29 < i → N 0 i = N0 0 i) ∧ (∀ k, k < 168 + co ∨ 368 ≤ k → N 1 k = N0 1 k) ∧
  M 85 6 = nI (us + l.length) ∧ seg (M 90) us (l.map e_C) ∧ N 0 28 = nI (co + (e_Ms l).length + x.length) ∧ seg (N 1) (168 + co) (e_Ms l ++ x)
def ST (b : Nat → Nat) (len : Nat) (M0 N0 : lu_M) (us co o f : Nat) (l : List Tk) (x : List Int32) (M N : lu_M) : Prop :=
  PC M0 N0 us co l x M N ∧ AT b len f M ∧ ATn b len f N ∧ N 0 29 = 0 ∧ N 0 27 = nI o ∧ co + (e_Ms l).length + x.length ≤ f ∧ us ≤ co ∧ TPc b len M ∧ TPn b len N
def FA (b : Nat → Nat) (len : Nat) (M0 N0 : lu_M) (co : Nat) (M N : lu_M) : Prop :=
  (∀ r, r ≠ 83 → r ≠ 85 → r ≠ 90 → M r = M0 r) ∧ M 83 1 = M0 83 1 ∧
  (∀ r, r ≠ 0 → r ≠ 1 → N r = N0 r) ∧ (∀ i, i < 24 ∨ 29 < i → N 0 i = N0 0 i) ∧ (∀ k, k < 168 + co ∨ 368 ≤ k → N 1 k = N0 1 k) ∧ TPn b len N ∧
  ∃ f, M 83 4 = nI f ∧ ATn b len f N ∧ N 0 29 = 1
section TOLD
variable {b : Nat → Nat} {len : Nat} {M0 N0 M N : lu_M} {us co o f : Nat} {l : List Tk} {x : List Int32}
theorem ST.pc (S : ST b len M0 N0 us co o f l x M N) : PC M0 N0 us co l x M N := S.1
theorem ST.at' (S : ST b len M0 N0 us co o f l x M N) : AT b len f M := S.2.1
theorem ST.an (S : ST b len M0 N0 us co o f l x M N) : ATn b len f N := S.2.2.1
theorem ST.w0 (S : ST b len M0 N0 us co o f l x M N) : N 0 29 = 0 := S.2.2.2.1
theorem ST.op (S : ST b len M0 N0 us co o f l x M N) : N 0 27 = nI o := S.2.2.2.2.1
theorem ST.bd (S : ST b len M0 N0 us co o f l x M N) : co + (e_Ms l).length + x.length ≤ f := S.2.2.2.2.2.1
theorem ST.uc (S : ST b len M0 N0 us co o f l x M N) : us ≤ co := S.2.2.2.2.2.2.1
theorem ST.tc (S : ST b len M0 N0 us co o f l x M N) : TPc b len M := S.2.2.2.2.2.2.2.1
theorem ST.tn (S : ST b len M0 N0 us co o f l x M N) : TPn b len N := S.2.2.2.2.2.2.2.2
theorem ST.fl (S : ST b len M0 N0 us co o f l x M N) : f ≤ len := S.at'.1
theorem ST.l2 (S : ST b len M0 N0 us co o f l x M N) : len ≤ 200 := S.tc.1
/-- row 83, and those of row 0 that tell where one stands, are others -/
theorem ST.mv (S : ST b len M0 N0 us co o f l x M N) {y z : Nat → Int32} {f' : Nat} (hy : y 1 = M 83 1) (hz : ∀ i, i < 24 ∨ i = 28 ∨ 29 < i → z i = N 0 i) (A : AT b len f' (p_rw M 83 y)) (An : ATn b len f' (p_rw N 0 z)) (h29 : z 29 = 0) {o' : Nat} (h27 : z 27 = nI o') (hf : f ≤ f') : ST b len M0 N0 us co o' f' l x (p_rw M 83 y) (p_rw N 0 z) := by
  obtain ⟨⟨p1, p2, p3, p4, p5, p6, p7, p8, p9, p10, p11⟩, -, -, -, -, bd, uc, tc, tn⟩ := S
  refine ⟨⟨fun r h1 h2 h3 => ?_, ?_, fun i hi => ?_, fun i hi => ?_, fun r h1 h2 => ?_, fun i hi => ?_, fun k hk => ?_, ?_, ?_, ?_, ?_⟩, A, An, ?_, ?_, by omega, uc, tc.rw hy, tn.rw (hz 23 (by omega))⟩
  · rw [p_rw_n h1]; exact p1 r h1 h2 h3
  · rw [p_rw_s, hy]; exact p2
  · rw [p_rw_n (by omega)]; exact p3 i hi
  · rw [p_rw_n (by omega)]; exact p4 i hi
  · rw [p_rw_n h1]; exact p5 r h1 h2
  · rw [p_rw_s, hz i (by omega)]; exact p6 i hi
  · rw [p_rw_n (by omega)]; exact p7 k hk
  · rw [p_rw_n (by omega)]; exact p8
  · rw [p_rw_n (by omega)]; exact p9
  · rw [p_rw_s, hz 28 (by omega)]; exact p10
  · rw [p_rw_n (by omega)]; exact p11
  · rw [p_rw_s]; exact h29
  · rw [p_rw_s]; exact h27
/-- only numbers of the reference that tell nothing, or how many are open -/
theorem ST.n0 (S : ST b len M0 N0 us co o f l x M N) {z : Nat → Int32} (hz : ∀ i, i ≠ 26 → i ≠ 27 → z i = N 0 i) {o' : Nat} (h27 : z 27 = nI o') : ST b len M0 N0 us co o' f l x M (p_rw N 0 z) := by
  have hid : p_rw M 83 (M 83) = M := p_rw_id ..
  have := S.mv (y := M 83) (z := z) (f' := f) rfl (fun i hi => hz i (by omega) (by omega)) (by rw [hid]; exact S.at') ⟨S.fl, by rw [p_rw_s, hz 24 (by omega) (by omega)]; exact S.an.2.1, by rw [p_rw_s, hz 25 (by omega) (by omega)]; exact S.an.2.2⟩ (by rw [hz 29 (by omega) (by omega)]; exact S.w0) h27 (Nat.le_refl _)
  rw [hid] at this
  exact this
/-- a token on, in both -/
theorem ST.go (S : ST b len M0 N0 us co o f l x M N) : ∃ M' N' f', f8_advance M = some M' ∧ f12_wants (1 : Int32) N = some N' ∧ ST b len M0 N0 us co o f' l x M' N' ∧ f ≤ f' ∧ (f < len → f < f') ∧ N' 0 26 = N 0 26 := by
  have hl := S.l2
  have hf := S.fl
  obtain ⟨n1, n2, n3⟩ := g_nx_p (b := b) hl hf
  obtain ⟨p1, p2, -, -⟩ := g_to_p (g_Bl b len) hl (i := g_nx b len f) (by omega)
  obtain ⟨y, e1, y1, y3, y4, y5, y6⟩ := k_adv S.tc S.at'.2.2.2.1 n2
  have hw : f12_wants (1 : Int32) N = lu_bv (f12_token (p_rw N 0 (upd (N 0) 29 0))) fun m2 => some m2 := by
    unfold f12_wants f12_wants_b17 f12_wants_b31
    rw [S.w0, if_pos rfl, if_neg (by decide), p_g0, p_nm, lu_st_self, if_pos rfl, p_st]
  have T1 : TPn b len (p_rw N 0 (upd (N 0) 29 0)) := S.tn.rw (upd_ne (by omega))
  obtain ⟨z, e2, z0, z4, z5⟩ := t_tok T1 (e := g_nx b len f) (by rw [p_rw_s, upd_ne (by omega)]; exact S.an.2.2) n2
  rw [p_rw_s] at z0
  rw [p_rw_rw] at e2
  refine ⟨_, _, g_to (g_B b len) (g_nx b len f), e1, by rw [hw, e2, p_bv], S.mv (f' := g_to (g_B b len) (g_nx b len f)) y1 (fun i hi => ?_) ⟨p2 n2, by rw [p_rw_s]; exact y3, by rw [p_rw_s]; exact y4, by rw [p_rw_s]; exact y5, fun q => by rw [p_rw_s]; exact y6 q⟩ ⟨p2 n2, by rw [p_rw_s]; exact z4, by rw [p_rw_s]; exact z5⟩ ?_ (o' := o) ?_ (by omega), by omega, fun q => by have := n3 q; omega, ?_⟩
  · rw [z0 i (by omega) (by omega), upd_ne (by omega)]
  · rw [z0 29 (by omega) (by omega), p_us]
  · rw [z0 27 (by omega) (by omega), upd_ne (by omega)]; exact S.op
  · rw [p_rw_s, z0 26 (by omega) (by omega), upd_ne (by omega)]
theorem ST.no (S : ST b len M0 N0 us co o f l x M N) : ∃ N', f12_wants (0 : Int32) N = some N' ∧ FA b len M0 N0 co M N' ∧ N' 0 27 = N 0 27 := by
  obtain ⟨p1, p2, p3, p4, p5, p6, p7, p8, p9, p10, p11⟩ := S.pc
  refine ⟨p_rw N 0 (upd (N 0) 29 1), ?_, ⟨p1, p2, fun r h1 h2 => ?_, fun i hi => ?_, fun k hk => ?_, S.tn.rw (upd_ne (by omega)), f, S.at'.2.2.1, ⟨S.fl, ?_, ?_⟩, ?_⟩, ?_⟩
  · unfold f12_wants f12_wants_b12 f12_wants_b17 f12_wants_b31
    rw [S.w0, if_pos rfl, if_pos rfl, p_g1, p_nm, lu_st_self, if_neg (by decide), p_st]
  · rw [p_rw_n h1]; exact p5 r h1 h2
  · rw [p_rw_s, upd_ne (by omega)]; exact p6 i hi
  · rw [p_rw_n (by omega)]; exact p7 k hk
  · rw [p_rw_s, upd_ne (by omega)]; exact S.an.2.1
  · rw [p_rw_s, upd_ne (by omega)]; exact S.an.2.2
  · rw [p_rw_s, p_us]
  · rw [p_rw_s, upd_ne (by omega)]
theorem seg_in {r : Nat → Int32} {k : Nat} {v : Int32} : ∀ (l : List Int32) (i : Nat), i + l.length ≤ k → seg r i l → seg (upd r k v) i l := fun l i h hs => seg_eq l i (fun j h1 h2 => upd_ne (by omega)) hs
theorem ST.wr (S : ST b len M0 N0 us co o f l x M N) (c : Int32) (hb : co + (e_Ms l).length + x.length + 1 ≤ f) : ∃ N', f12_writes c N = some N' ∧ ST b len M0 N0 us co o f l (x ++ [c]) M N' := by
  have hl := S.l2
  have hf := S.fl
  obtain ⟨p1, p2, p3, p4, p5, p6, p7, p8, p9, p10, p11⟩ := S.pc
  have hx : (x ++ [c]).length = x.length + 1 := by simp
  refine ⟨lu_st (lu_st N 1 (168 + (co + (e_Ms l).length + x.length)) c) 0 28 (nI (co + (e_Ms l).length + x.length + 1)), ?_, ⟨p1, p2, p3, p4, fun r h1 h2 => ?_, fun i hi => ?_, fun k hk => ?_, p8, p9, ?_, ?_⟩, S.at', ⟨S.fl, ?_, ?_⟩, ?_, ?_, by omega, S.uc, S.tc, ⟨S.tn.1, ?_, fun i hi => ?_, S.tn.2.2.2⟩⟩
  · unfold f12_writes f12_writes_b31
    rw [S.w0, if_pos rfl, p10, show (168 : Int32) = nI 168 from rfl, nI_add, p_gd (by omega) (by omega), p_nm, nI_clamp (by omega), p_nm, lu_st_row (by omega), p10, p_next]
  · rw [lu_st_row h1, lu_st_row h2]; exact p5 r h1 h2
  · rw [lu_st_ne (by omega), lu_st_row (by omega)]; exact p6 i hi
  · rw [lu_st_row (by omega), lu_st_ne (by omega)]; exact p7 k hk
  · rw [lu_st_self, hx, Nat.add_assoc _ _ 1]
  · rw [lu_st_row (by omega), ← lu_st_upd, ← List.append_assoc]
    rw [seg_app]
    refine ⟨seg_in _ _ (by simp; omega) p11, ?_, trivial⟩
    rw [show 168 + co + (e_Ms l ++ x).length = 168 + (co + (e_Ms l).length + x.length) by simp; omega]
    exact p_us ..
  · rw [lu_st_ne (by omega), lu_st_row (by omega)]; exact S.an.2.1
  · rw [lu_st_ne (by omega), lu_st_row (by omega)]; exact S.an.2.2
  · rw [lu_st_ne (by omega), lu_st_row (by omega)]; exact S.w0
  · rw [lu_st_ne (by omega), lu_st_row (by omega)]; exact S.op
  · rw [lu_st_ne (by omega), lu_st_row (by omega)]; exact S.tn.2.1
  · rw [lu_st_row (by omega), lu_st_row (by omega)]; exact S.tn.2.2.1 i hi
theorem ST.ad (S : ST b len M0 N0 us co o f l x M N) {t : Tk} (ht : e_M t = x) (hx : 1 ≤ x.length) : ∃ M', f6_add 85 (e_C t) M = some M' ∧ ST b len M0 N0 us co o f (l ++ [t]) [] M' N := by
  have hl := S.l2
  have hf := S.fl
  have hbd := S.bd
  have huc := S.uc
  have hle := e_Ms_len l
  obtain ⟨p1, p2, p3, p4, p5, p6, p7, p8, p9, p10, p11⟩ := S.pc
  have hMs : e_Ms (l ++ [t]) = e_Ms l ++ x := by
    rw [e_Ms_app]
    show e_Ms l ++ (e_M t ++ []) = _
    rw [ht, List.append_nil]
  have hll : (l ++ [t]).length = l.length + 1 := by simp
  refine ⟨lu_st (lu_st M 90 (us + l.length) (e_C t)) 85 6 (nI (us + l.length + 1)), ?_, ⟨fun r h1 h2 h3 => ?_, ?_, fun i hi => ?_, fun i hi => ?_, p5, p6, p7, ?_, ?_, ?_, ?_⟩, ⟨S.fl, ?_, ?_, ?_, fun q => ?_⟩, S.an, S.w0, S.op, ?_, S.uc, ⟨S.tc.1, ?_, fun i hi => ?_, S.tc.2.2.2⟩, S.tn⟩
  · unfold f6_add
    rw [p8, show (200 : Int32) = nI 200 from rfl, q_lt (by omega) (by omega), if_pos (by omega), p_gd (by omega) (by omega), p_nm, nI_clamp (by omega), p_nm, lu_st_row (by omega), p8, p_next]
  · rw [lu_st_row h2, lu_st_row h3]; exact p1 r h1 h2 h3
  · rw [lu_st_row (by omega), lu_st_row (by omega)]; exact p2
  · rw [lu_st_ne hi, lu_st_row (by omega)]; exact p3 i hi
  · rw [lu_st_row (by omega), lu_st_ne (by omega)]; exact p4 i hi
  · rw [lu_st_self, hll, Nat.add_assoc]
  · rw [lu_st_row (by omega), ← lu_st_upd, List.map_append, seg_app]
    refine ⟨seg_in _ _ (by simp) p9, ?_, trivial⟩
    rw [show us + (l.map e_C).length = us + l.length by simp]
    exact p_us ..
  · rw [p10, hMs, List.length_append]
    show nI (co + (e_Ms l).length + x.length) = nI (co + ((e_Ms l).length + x.length) + 0)
    rw [Nat.add_assoc, Nat.add_zero]
  · rw [hMs, List.append_nil]; exact p11
  · rw [lu_st_row (by omega), lu_st_row (by omega)]; exact S.at'.2.1
  · rw [lu_st_row (by omega), lu_st_row (by omega)]; exact S.at'.2.2.1
  · rw [lu_st_row (by omega), lu_st_row (by omega)]; exact S.at'.2.2.2.1
  · rw [lu_st_row (by omega), lu_st_row (by omega)]; exact S.at'.2.2.2.2 q
  · rw [hMs, List.length_append]
    show co + ((e_Ms l).length + x.length) + 0 ≤ f
    omega
  · rw [lu_st_row (by omega), lu_st_row (by omega)]; exact S.tc.2.1
  · rw [lu_st_row (by omega), lu_st_row (by omega)]; exact S.tc.2.2.1 i hi
/-! where it is wrong, nothing goes on -/
theorem st_wants (h : N 0 29 = 1) (s0 : Int32) : f12_wants s0 N = some N := by
  have hid : lu_st N 0 29 1 = N := by rw [p_st, ← h, p_uid, p_rw_id]
  unfold f12_wants f12_wants_b12 f12_wants_b17 f12_wants_b31
  rw [h, if_neg (by decide), p_g1, p_nm, hid, h, if_neg (by decide)]
theorem st_writes (h : N 0 29 = 1) (c : Int32) : f12_writes c N = some N := by
  unfold f12_writes f12_writes_b31
  rw [h, if_neg (by decide)]
theorem st_word (T : TPn b len N) (A : ATn b len f N) (h : N 0 29 = 1) : f12_word N = some (g_wd b len f true, N) := t_word T A (wr := true) h
theorem st_fact (T : TPn b len N) (A : ATn b len f N) (h : N 0 29 = 1) : f12_factHere N = some (0, N) := by
  unfold f12_factHere f12_factHere_b70
  rw [st_word T A h, p_bi, gc8, gc9, gc10, gc11, gc12, if_neg (g_wd_1 b len f (j := 8) (by omega)), if_neg (g_wd_1 b len f (j := 9) (by omega)), if_neg (g_wd_1 b len f (j := 10) (by omega)), if_neg (g_wd_1 b len f (j := 11) (by omega)), if_neg (g_wd_1 b len f (j := 12) (by omega))]
theorem st_value (T : TPn b len N) (A : ATn b len f N) (h : N 0 29 = 1) : f12_valueHere N = some N := by
  unfold f12_valueHere f12_valueHere_b44
  rw [st_fact T A h, p_bi, if_pos (Int32.le_refl _), h, if_neg (by decide)]
theorem st_comp (T : TPn b len N) (A : ATn b len f N) (h : N 0 29 = 1) : f12_comparison N = some N := by
  unfold f12_comparison f12_comparison_b23 f12_comparison_b43 f12_comparison_b48 f12_comparison_b80
  rw [st_value T A h, p_bv, h, if_neg (by decide), if_neg (by decide), if_neg (by decide), if_neg (by decide), st_wants h, p_bv, st_value T A h, p_bv, if_neg (by decide), if_neg (by decide), st_writes h, p_bv]
theorem st_one31 (T : TPn b len N) (A : ATn b len f N) (h : N 0 29 = 1) (rc : lu_M → Option lu_M) (v : Int32) : f12_one_b31 rc v N = some N := by
  unfold f12_one_b31 f12_one_b124 f12_one_b128 f12_one_b138
  rw [h, if_neg (by decide), st_comp T A h, p_bv, st_writes h, p_bv]
  split <;> rfl
theorem st_one2 (T : TPn b len N) (A : ATn b len f N) (h : N 0 29 = 1) (rc : lu_M → Option lu_M) (v : Int32) {q : Nat} (hq : 0 < q) : f12_one_b2 (f12_one_b31 rc) rc q v N = some N := by
  obtain ⟨q, rfl⟩ : ∃ r, q = r + 1 := ⟨q - 1, by omega⟩
  show f12_one_b2B _ _ _ _ _ = _
  unfold f12_one_b2B
  rw [st_word T A h, p_bi, gc7, if_neg (g_wd_1 b len f (j := 7) (by omega)), st_one31 T A h]
theorem st_all4 (T : TPn b len N) (A : ATn b len f N) (h : N 0 29 = 1) (rc : lu_M → Option lu_M) {q : Nat} (hq : 0 < q) : f12_all_b4 (f12_all_b33 rc) rc q N = some N := by
  obtain ⟨q, rfl⟩ : ∃ r, q = r + 1 := ⟨q - 1, by omega⟩
  show f12_all_b4B _ _ _ _ = _
  unfold f12_all_b4B f12_all_b33
  rw [st_word T A h, p_bi, gc13, if_neg (g_wd_1 b len f (j := 13) (by omega))]
theorem st_cond12 (T : TPn b len N) (A : ATn b len f N) (h : N 0 29 = 1) (rc : lu_M → Option lu_M) {q : Nat} (hq : 0 < q) : f12_condition_b12 (f12_condition_b41 rc) rc q N = some N := by
  obtain ⟨q, rfl⟩ : ∃ r, q = r + 1 := ⟨q - 1, by omega⟩
  show f12_condition_b12B _ _ _ _ = _
  unfold f12_condition_b12B f12_condition_b41
  rw [st_word T A h, p_bi, gc14, if_neg (g_wd_1 b len f (j := 14) (by omega))]
end TOLD

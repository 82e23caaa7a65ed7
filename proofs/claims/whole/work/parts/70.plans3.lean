/-! THE PURE PART: best, ith, ways, life, bars -/
theorem p_c0 : (0 : Int32).toNatClampNeg = 0 := rfl
theorem p_g05 {β : Type} (o : Option β) : lu_gd (lu_ib (0 : Int32) 5) o = o := rfl
theorem k_start {m n : lu_M} {L : List Ru} (W : WR m 1 (n 1) L) {K : Nat} (hK : K ≤ 4) : ∃ x, f5_start (nI K) m = some (p_rw (lu_st m 74 4 (nI (min (s_v (n 1) 2 - s_v (n 1) 3) K))) (75 + 1 + 0) x) ∧ (∀ i, i < 5 → x i = m 29 i) ∧ x 5 = 0 := by
  have hE := W.i.E16
  have hY := W.i.YE
  have h9 : m 1 9 = nI (s_v (n 1) 2) := W.b.en.trans W.i.eE
  have h0 : m 29 0 = nI (s_v (n 1) 3) := W.c.1.trans W.i.eY
  have e1 : (if (0 : Int32) < nI (s_v (n 1) 2 - s_v (n 1) 3) then nI (s_v (n 1) 2 - s_v (n 1) 3) else (0 : Int32)) = nI (s_v (n 1) 2 - s_v (n 1) 3) := by
    rw [show (0 : Int32) = nI 0 from rfl, q_lt (by omega) (by omega)]
    by_cases h : 0 < s_v (n 1) 2 - s_v (n 1) 3
    · rw [if_pos h]
    · rw [if_neg h, show s_v (n 1) 2 - s_v (n 1) 3 = 0 by omega]
  have e2 : (if (4 : Int32) < nI K then (4 : Int32) else nI K) = nI K := by
    rw [show (4 : Int32) = nI 4 from rfl, q_lt (by omega) (by omega), if_neg (by omega)]
  have e3 : (if nI (s_v (n 1) 2 - s_v (n 1) 3) < nI K then nI (s_v (n 1) 2 - s_v (n 1) 3) else nI K) = nI (min (s_v (n 1) 2 - s_v (n 1) 3) K) := by
    rw [q_lt (by omega) (by omega)]
    by_cases h : s_v (n 1) 2 - s_v (n 1) 3 < K
    · rw [if_pos h, Nat.min_eq_left (by omega)]
    · rw [if_neg h, Nat.min_eq_right (by omega)]
  obtain ⟨x, e, hx, h5⟩ := k_begin (lu_st m 74 4 (nI (min (s_v (n 1) 2 - s_v (n 1) 3) K))) (c := 75 + 1 + 0) (b := 29) (by omega)
  refine ⟨x, ?_, fun i hi => ?_, h5⟩
  · unfold f5_start
    rw [h9, h0, pk_sub hY, e1, p_nm, e2, e3, p_nm, p_g05, p_c0, e, p_bv]
  · rw [hx i hi, lu_st_row (by omega)]
theorem t_yearsOf {n : lu_M} (I : SI (n 1)) {K : Nat} (hK : K ≤ 4) : f12_yearsOf (nI K) n = some (nI (min (s_v (n 1) 2 - s_v (n 1) 3) K), n) := by
  have hE := I.E16
  have hY := I.YE
  unfold f12_yearsOf f12_yearsOf_b32
  rw [I.eE, I.eY, pk_sub hY, p_nm, q_le (by omega) (by omega), if_pos (nI_pos' (by omega))]
  by_cases h : s_v (n 1) 2 - s_v (n 1) 3 ≤ K
  · rw [if_pos h, Nat.min_eq_left h]
  · rw [if_neg h, Nat.min_eq_right (by omega)]
theorem plans_all {m n : lu_M} {L : List Ru} (R : Rel m n) (W : WR m 1 (n 1) L) {K : Nat} (hK : K ≤ 4) (set : Int32) : ∃ M N, f5_tryAll (nI K) set m = some M ∧ f12_plansOf (nI K) set n = some (nI (min (s_v (n 1) 2 - s_v (n 1) 3) K), N) ∧ PS m n (min (s_v (n 1) 2 - s_v (n 1) 3) K) M N ∧ PF (min (s_v (n 1) 2 - s_v (n 1) 3) K) M N ∧ N 1 = n 1 ∧ Rel M N := by
  have hE := W.i.E16
  have hY := W.i.YE
  obtain ⟨x, e1, hx, h5⟩ := k_start W hK
  have e2 : f12_yearsOf (nI K) (lu_st (lu_st (lu_st (lu_st (lu_st n 0 10 (-1 : Int32)) 0 11 (0 : Int32)) 0 12 (5 : Int32)) 0 13 (0 : Int32)) 0 14 set) = some (nI (min (s_v (n 1) 2 - s_v (n 1) 3) K), lu_st (lu_st (lu_st (lu_st (lu_st n 0 10 (-1 : Int32)) 0 11 (0 : Int32)) 0 12 (5 : Int32)) 0 13 (0 : Int32)) 0 14 set) := t_yearsOf (n := lu_st (lu_st (lu_st (lu_st (lu_st n 0 10 (-1 : Int32)) 0 11 (0 : Int32)) 0 12 (5 : Int32)) 0 13 (0 : Int32)) 0 14 set) W.i hK
  generalize hlen : min (s_v (n 1) 2 - s_v (n 1) 3) K = len at *
  have hl : len ≤ 4 := by omega
  have hM : ∀ r, r ≠ 74 → lu_st (lu_st (lu_st (lu_st (lu_st (p_rw (lu_st m 74 4 (nI len)) (75 + 1 + 0) x) 74 3 set) 74 5 (-1)) 74 6 0) 74 8 5) 74 9 0 r = p_rw m (75 + 1 + 0) x r := fun r hr => by
    rw [lu_st_row hr, lu_st_row hr, lu_st_row hr, lu_st_row hr, lu_st_row hr]
    by_cases h : r = 75 + 1 + 0
    · rw [h, p_rw_s, p_rw_s]
    · rw [p_rw_n h, p_rw_n h, lu_st_row hr]
  have hN : ∀ r, r ≠ 0 → lu_st (lu_st (lu_st (lu_st (lu_st n 0 10 (-1 : Int32)) 0 11 (0 : Int32)) 0 12 (5 : Int32)) 0 13 (0 : Int32)) 0 14 set r = n r := fun r hr => by
    rw [lu_st_row hr, lu_st_row hr, lu_st_row hr, lu_st_row hr, lu_st_row hr]
  have S : PS m n len (lu_st (lu_st (lu_st (lu_st (lu_st (p_rw (lu_st m 74 4 (nI len)) (75 + 1 + 0) x) 74 3 set) 74 5 (-1)) 74 6 0) 74 8 5) 74 9 0) (lu_st (lu_st (lu_st (lu_st (lu_st n 0 10 (-1 : Int32)) 0 11 (0 : Int32)) 0 12 (5 : Int32)) 0 13 (0 : Int32)) 0 14 set) := by
    refine ⟨fun r h1 h2 h3 => ?_, fun r h1 h2 h3 h4 => hN r h1, fun i hi => ?_, ?_, ?_, ?_, ?_, ?_, ?_⟩
    · rw [hM r h2, p_rw_n (by omega)]
    · rw [lu_st_ne (by omega), lu_st_ne (by omega), lu_st_ne (by omega), lu_st_ne (by omega), lu_st_ne (by omega)]
    · rw [lu_st_ne (by omega), lu_st_ne (by omega), lu_st_ne (by omega), lu_st_ne (by omega), lu_st_ne (by omega), p_rw_n (by omega), lu_st_self]
    · rw [lu_st_ne (by omega), lu_st_ne (by omega), lu_st_ne (by omega), lu_st_ne (by omega), lu_st_self, lu_st_self]
    · rw [lu_st_ne (by omega), lu_st_ne (by omega), lu_st_ne (by omega), lu_st_self, lu_st_ne (by omega), lu_st_ne (by omega), lu_st_ne (by omega), lu_st_ne (by omega), lu_st_self]
    · rw [lu_st_ne (by omega), lu_st_ne (by omega), lu_st_self, lu_st_ne (by omega), lu_st_ne (by omega), lu_st_ne (by omega), lu_st_self]
    · rw [lu_st_ne (by omega), lu_st_self, lu_st_ne (by omega), lu_st_ne (by omega), lu_st_self]
    · rw [lu_st_self, lu_st_ne (by omega), lu_st_self]
  have hF : lu_st (lu_st (lu_st (lu_st (lu_st n 0 10 (-1 : Int32)) 0 11 (0 : Int32)) 0 12 (5 : Int32)) 0 13 (0 : Int32)) 0 14 set 0 10 = -1 := by
    rw [lu_st_ne (by omega), lu_st_ne (by omega), lu_st_ne (by omega), lu_st_ne (by omega), lu_st_self]
  have hx76 : lu_st (lu_st (lu_st (lu_st (lu_st (p_rw (lu_st m 74 4 (nI len)) (75 + 1 + 0) x) 74 3 set) 74 5 (-1)) 74 6 0) 74 8 5) 74 9 0 (75 + 1 + 0) = x := by rw [hM _ (by omega), p_rw_s]
  obtain ⟨M, N, c1, c2, S', F', h1, -⟩ := pl_run W hl len 0 6 _ _ (n 1) 0 0 (by omega) (by omega) S (Or.inl hF) (SE.rf _) W.i (hN 1 (by omega)) (by rw [hx76]; exact W.c.cp hx) (by rw [hx76]; exact h5) ⟨0, rfl, by omega⟩ (fun k hk => absurd hk (by omega)) rfl (by omega)
  refine ⟨M, N, ?_, ?_, S', F', h1, ?_⟩
  · unfold f5_tryAll
    rw [e1, p_bv, p_nm, p_nm, p_nm, p_nm, p_nm, show f5_tryFrom 6 (0 : Int32) (0 : Int32) _ = some M from c1, p_bv]
  · unfold f12_plansOf
    rw [p_nm, p_nm, p_nm, p_nm, p_nm, e2, p_bi, show f12_plans 6 (0 : Int32) (nI len) (0 : Int32) _ = some N from c2, p_bv]
  · obtain ⟨s1, s2, s3, -⟩ := S'
    exact R.same (fun a ha => s1 a (by omega) (by omega) (by omega)) (fun a h1 h2 => s1 a (by omega) (by omega) (by omega)) ⟨fun a ha => s2 a (by omega) (by omega) (by omega) (by omega), s3 3 (by omega), s3 21 (by omega), s3 23 (by omega), s3 37 (by omega)⟩ h1
theorem t_isLong (a : Int32) (n : lu_M) : f12_isLong a n = some (p_b (p_in a.toInt 0 4), n) := by
  unfold f12_isLong
  rw [show (0 : Int64) = (0 : Int32).toInt64 from rfl, show (4 : Int64) = (4 : Int32).toInt64 from rfl, t_in32, p_bi, p_gb]
  rfl
theorem k_long (a : Int32) (m : lu_M) : f11_isWithin a (0 : Int32) (4 : Int32) m = some (p_b (p_in a.toInt 0 4), m) := k_in a 0 4 m
theorem y_best (a : Int32) : Me (f11_best a) (f12_best a) := Me.mk fun m n L R W => by
  unfold f11_best f12_best
  rw [k_long, t_isLong, p_bi, p_bi, p_if, p_if]
  cases h : p_in a.toInt 0 4
  · rw [if_neg p_ff, if_neg p_ff]
    exact ⟨_, _, _, rfl, rfl, R⟩
  obtain ⟨K, rfl, -, hK⟩ := p_in_ex (lo := 0) (hi := 4) h (by omega)
  obtain ⟨M, N, e1, e2, S, F, h1, R'⟩ := plans_all R W hK 0
  rw [if_pos rfl, if_pos rfl, e1, e2, p_bv, p_bi, S.2.2.2.2.2.1]
  exact ⟨_, _, _, rfl, rfl, R'⟩
theorem y_ways (a : Int32) : Me (f11_ways a) (f12_ways a) := Me.mk fun m n L R W => by
  unfold f11_ways f12_ways
  rw [k_long, t_isLong, p_bi, p_bi, p_if, p_if]
  cases h : p_in a.toInt 0 4
  · rw [if_neg p_ff, if_neg p_ff]
    exact ⟨_, _, _, rfl, rfl, R⟩
  obtain ⟨K, rfl, -, hK⟩ := p_in_ex (lo := 0) (hi := 4) h (by omega)
  obtain ⟨M, N, e1, e2, S, F, h1, R'⟩ := plans_all R W hK 0
  rw [if_pos rfl, if_pos rfl, e1, e2, p_bv, p_bi, S.2.2.2.2.2.2.1]
  exact ⟨_, _, _, rfl, rfl, R'⟩
theorem y_ith (a b : Int32) : Me (f11_ith a b) (f12_ith a b) := Me.mk fun m n L R W => by
  unfold f11_ith f12_ith f11_ith_b18 f12_ith_b19 f11_ith_b54 f12_ith_b42
  rw [k_long, t_isLong, p_bi, p_bi, p_if, p_if]
  cases h : p_in a.toInt 0 4
  · rw [if_neg p_ff, if_neg p_ff]
    exact ⟨_, _, _, rfl, rfl, R⟩
  rw [if_pos rfl, if_pos rfl, show (0 : Int64) = (0 : Int32).toInt64 from rfl, show (3 : Int64) = (3 : Int32).toInt64 from rfl, k_in, t_in32, p_bi, p_bi, p_if, p_if]
  cases h2 : p_in b.toInt (0 : Int32).toInt (3 : Int32).toInt
  · rw [if_neg p_ff, if_neg p_ff]
    exact ⟨_, _, _, rfl, rfl, R⟩
  obtain ⟨K, rfl, -, hK⟩ := p_in_ex (lo := 0) (hi := 4) h (by omega)
  obtain ⟨i, rfl, -, hi⟩ := p_in_ex (lo := 0) (hi := 3) h2 (by omega)
  obtain ⟨M, N, e1, e2, S, F, h1, R'⟩ := plans_all R W hK 0
  have hE := W.i.E16
  rw [if_pos rfl, if_pos rfl, e1, e2, p_bv, p_bi, S.2.2.2.1, q_le (by omega) (by omega), q_le (by omega) (by omega), p_gd (by omega) (by omega), p_gd (by omega) (by omega), nI_clamp (by omega)]
  by_cases hc : min (s_v (n 1) 2 - s_v (n 1) 3) K ≤ i
  · rw [if_pos hc, if_pos hc]
    exact ⟨_, _, _, rfl, rfl, R'⟩
  · rw [if_neg hc, if_neg hc, F i (by omega)]
    exact ⟨_, _, _, rfl, rfl, R'⟩
theorem k_dset {m n : lu_M} {L : List Ru} (W : WR m 1 (n 1) L) (a : Int32) : f10_isDeedSet 1 a m = some (p_b (p_in a.toInt (0 : Int32).toInt (((1 : Int32) <<< (nI (s_D (n 1)) &&& 31)) - 1).toInt), m) := by
  unfold f10_isDeedSet
  rw [W.b.ded.trans W.i.eD, k_in, p_bi, p_gb]
theorem t_dset {n : lu_M} (I : SI (n 1)) (a : Int32) : f12_areDeeds a n = some (p_b (p_in a.toInt (0 : Int32).toInt (((1 : Int32) <<< (nI (s_D (n 1)) &&& 31)) - 1).toInt), n) := by
  unfold f12_areDeeds
  rw [I.eD, show (0 : Int64) = (0 : Int32).toInt64 from rfl, t_in32, p_bi, p_gb]
theorem y_life (a b : Int32) : Me (f11_life a b) (f12_life a b) := Me.mk fun m n L R W => by
  unfold f11_life f12_life f11_life_b20 f12_life_b15 f11_life_b54 f12_life_b41
  rw [k_long, t_isLong, p_bi, p_bi, p_if, p_if]
  cases h : p_in a.toInt 0 4
  · rw [if_neg p_ff, if_neg p_ff]
    exact ⟨_, _, _, rfl, rfl, R⟩
  rw [if_pos rfl, if_pos rfl, k_dset W, t_dset W.i, p_bi, p_bi, p_if, p_if]
  cases h2 : p_in b.toInt (0 : Int32).toInt (((1 : Int32) <<< (nI (s_D (n 1)) &&& 31)) - 1).toInt
  · rw [if_neg p_ff, if_neg p_ff]
    exact ⟨_, _, _, rfl, rfl, R⟩
  obtain ⟨K, rfl, -, hK⟩ := p_in_ex (lo := 0) (hi := 4) h (by omega)
  obtain ⟨M, N, e1, e2, S, F, h1, R'⟩ := plans_all R W hK b
  rw [if_pos rfl, if_pos rfl, e1, e2, p_bv, p_bi, S.2.2.2.2.2.2.2.1]
  by_cases hc : N 0 12 ≤ (4 : Int32)
  · rw [if_pos hc, if_neg (Int32.not_lt.mpr hc)]
    exact ⟨_, _, _, rfl, rfl, R'⟩
  · rw [if_neg hc, if_pos (Int32.not_le.mp hc)]
    exact ⟨_, _, _, rfl, rfl, R'⟩
theorem p_pow1 : ∀ D, D < 11 → ((1 : Int32) <<< (nI D &&& 31)) - 1 = nI (2 ^ D - 1) := by decide +kernel
theorem bt_nI {v i : Nat} (hv : v < 2 ^ 31) (hi : i < 32) : bt (nI v) i = v.testBit i := by
  show (BitVec.ofNat 32 v).getLsbD i = v.testBit i
  rw [BitVec.getLsbD_ofNat]
  simp [hi]
theorem set_hi {a : Int32} {D : Nat} (hD : D ≤ 10) (h : p_in a.toInt (0 : Int32).toInt (((1 : Int32) <<< (nI D &&& 31)) - 1).toInt = true) {i : Nat} (h1 : D ≤ i) (h2 : i < 32) : bt a i = false := by
  rw [p_pow1 D (by omega)] at h
  have hp : 2 ^ D ≤ 2 ^ 10 := Nat.pow_le_pow_right (by omega) hD
  have hpos := Nat.two_pow_pos D
  have h' : p_in a.toInt 0 ((2 ^ D - 1 : Nat) : Int) = true := by
    rw [nI_toInt (by omega)] at h
    exact h
  obtain ⟨v, rfl, -, hv⟩ := p_in_ex (lo := 0) (hi := 2 ^ D - 1) h' (by omega)
  rw [bt_nI (by omega) h2]
  exact Nat.testBit_lt_two_pow (Nat.lt_of_lt_of_le (show v < 2 ^ D by omega) (Nat.pow_le_pow_right (by omega) h1))
theorem y_bars (a b : Int32) : Me (f11_bars a b) (f12_bars a b) := Me.mk fun m n L R W => by
  have hD := W.i.D10
  unfold f11_bars f12_bars f11_bars_b20 f12_bars_b15
  rw [k_long, t_isLong, p_bi, p_bi, p_if, p_if]
  cases h : p_in a.toInt 0 4
  · rw [if_neg p_ff, if_neg p_ff]
    exact ⟨_, _, _, rfl, rfl, R⟩
  rw [if_pos rfl, if_pos rfl, k_dset W, t_dset W.i, p_bi, p_bi, p_if, p_if]
  cases h2 : p_in b.toInt (0 : Int32).toInt (((1 : Int32) <<< (nI (s_D (n 1)) &&& 31)) - 1).toInt
  · rw [if_neg p_ff, if_neg p_ff]
    exact ⟨_, _, _, rfl, rfl, R⟩
  obtain ⟨K, rfl, -, hK⟩ := p_in_ex (lo := 0) (hi := 4) h (by omega)
  obtain ⟨M, N, e1, e2, S, F, h1, R'⟩ := plans_all R W hK b
  rw [if_pos rfl, if_pos rfl, e1, e2, p_bv, p_bi]
  have h9 : M 74 9 = N 0 13 := S.2.2.2.2.2.2.2.2
  have hM2 : M 1 2 = nI (s_D (n 1)) := by rw [S.1 1 (by omega) (by omega) (by omega)]; exact W.b.ded.trans W.i.eD
  have f1 : ∀ (j k q : Nat), k + j = s_D (n 1) → j < q → f11_bars_b33 (f11_bars_b67 (nI K) b) (f11_bars_b75 (nI K) b) (nI K) b q (nI k) M = some (s_fst (fun d => bt b d && !bt (N 0 13) d) k j, M) := by
    intro j
    induction j with
    | zero =>
      intro k q hk hq
      obtain ⟨q, rfl⟩ : ∃ r, q = r + 1 := ⟨q - 1, by omega⟩
      show f11_bars_b33B _ _ _ _ _ _ _ = _
      unfold f11_bars_b33B f11_bars_b75
      rw [hM2, q_le (by omega) (by omega), if_pos (by omega)]
      rfl
    | succ j ih =>
      intro k q hk hq
      obtain ⟨q, rfl⟩ : ∃ r, q = r + 1 := ⟨q - 1, by omega⟩
      show f11_bars_b33B _ _ _ _ _ _ _ = _
      unfold f11_bars_b33B f11_bars_b69 s_fst
      rw [hM2, q_le (by omega) (by omega), if_neg (by omega), p_bit _ (by omega), p_if1, h9, p_bit _ (by omega), p_if, p_next, ih (k + 1) q (by omega) (by omega)]
      cases bt b k <;> cases bt (N 0 13) k <;> rfl
  have f2 : ∀ (j k q : Nat), k + j = 10 → j < q → f12_bars_b27 (f12_bars_b65 (nI K) b) (f12_bars_b74 (nI K) b) (nI K) b q (nI k) N = some (s_fst (fun d => bt b d && !bt (N 0 13) d) k j, N) := by
    intro j
    induction j with
    | zero =>
      intro k q hk hq
      obtain ⟨q, rfl⟩ : ∃ r, q = r + 1 := ⟨q - 1, by omega⟩
      show f12_bars_b27B _ _ _ _ _ _ _ = _
      unfold f12_bars_b27B f12_bars_b74
      rw [show (10 : Int32) = nI 10 from rfl, q_le (by omega) (by omega), if_pos (by omega)]
      rfl
    | succ j ih =>
      intro k q hk hq
      obtain ⟨q, rfl⟩ : ∃ r, q = r + 1 := ⟨q - 1, by omega⟩
      have hb : bt (b &&& (N 0 13 ^^^ (-1 : Int32))) k = (bt b k && !bt (N 0 13) k) := by
        rw [b_and, b_xor, b_m1 k (by omega), Bool.xor_true]
      have hbit := p_bit (b &&& (N 0 13 ^^^ (-1 : Int32))) (i := k) (by omega)
      rw [hb] at hbit
      show f12_bars_b27B _ _ _ _ _ _ _ = _
      unfold f12_bars_b27B f12_bars_b68 s_fst
      rw [show (10 : Int32) = nI 10 from rfl, q_le (by omega) (by omega), if_neg (by omega), hbit, p_if1, p_next, ih (k + 1) q (by omega) (by omega)]
      by_cases hz : ((b &&& (N 0 13 ^^^ (-1 : Int32))) >>> (nI k &&& 31)) = 0
      · rw [hz] at hbit
        have hf : (bt b k && !bt (N 0 13) k) = false := (p_b0 _).mp (hbit.symm.trans rfl)
        rw [if_pos hz, hf, if_neg p_ff]
      · rw [if_neg hz]
        cases (bt b k && !bt (N 0 13) k) <;> rfl
  have e3 : s_fst (fun d => bt b d && !bt (N 0 13) d) 0 10 = s_fst (fun d => bt b d && !bt (N 0 13) d) 0 (s_D (n 1)) := by
    have := s_fst_eq (fun d => bt b d && !bt (N 0 13) d) (s_D (n 1)) (10 - s_D (n 1)) 0 (fun k h1 h2' h3 => by
      have h3' : (bt b k && !bt (N 0 13) k) = true := h3
      rw [set_hi hD h2 (i := k) (by omega) (by omega), Bool.false_and] at h3'
      exact absurd h3' p_ff)
    rw [show s_D (n 1) + (10 - s_D (n 1)) = 10 by omega] at this
    exact this
  have g1 := f1 (s_D (n 1)) 0 lu_fu (by omega) (p_fu (by omega))
  have g2 := f2 10 0 lu_fu (by omega) (p_fu (by omega))
  rw [e3] at g2
  exact ⟨_, _, _, g1, g2, R'⟩

/-! THE PURE PART: rows, sheets, trace -/
theorem RK.fr {m m' n n' : lu_M} (R : RK m n) (h0 : m' 0 2 = m 0 2) (F : ∀ a, 37 ≤ a → a < 72 → m' a = m a) (g : n' 0 3 = n 0 3) (g2 : n' 2 = n 2) : RK m' n' := by
  refine ⟨by rw [h0, g]; exact R.1, ?_⟩
  rw [h0]
  rcases R.2 with k2 | ⟨k2, L, k3⟩
  · exact Or.inl k2
  · refine Or.inr ⟨k2, L, ?_⟩
    rw [g2]
    exact k3.tr (fun a h1 h2 => F a (by omega) (by omega))
theorem RR.fr {m m' n n' : lu_M} (R : RR m n) (h0 : m' 0 9 = m 0 9) (g : n' 0 21 = n 0 21) (F : ∀ a, 100 ≤ a → a < 104 → m' a = m a) (g2 : n' 10 = n 10) : RR m' n' := by
  obtain ⟨c, r1, r2, r3, r4⟩ := R
  exact ⟨c, r1, by rw [h0]; exact r2, by rw [g]; exact r3, fun k hk j hj => by rw [F _ (by omega) (by omega), g2]; exact r4 k hk j hj⟩
theorem RT.fr {m m' n n' : lu_M} (R : RT m n) (h0 : m' 83 1 = m 83 1) (g : n' 0 23 = n 0 23) (F : m' 84 = m 84) (g2 : n' 11 = n 11) : RT m' n' := by
  obtain ⟨c, r1, r2, r3, r4⟩ := R
  exact ⟨c, r1, by rw [h0]; exact r2, by rw [g]; exact r3, by rw [F, g2]; exact r4⟩
theorem RH.fr {m m' n n' : lu_M} (R : RH m n) (F : ∀ a, 104 ≤ a → a < 111 → m' a = m a) (g : ∀ a, 12 ≤ a → a < 15 → n' a = n a) : RH m' n' := fun h hh => by
  rw [F 104 (by omega) (by omega), F 105 (by omega) (by omega), F (106 + 1 + h) (by omega) (by omega), g 12 (by omega) (by omega), g 13 (by omega) (by omega), g 14 (by omega) (by omega)]
  exact R h hh
theorem RF.fr {m m' n n' : lu_M} (R : RF m n) (F : ∀ a, 111 ≤ a → a < 114 → m' a = m a) (g : ∀ a, 15 ≤ a → a < 18 → n' a = n a) : RF m' n' := fun h hh => by
  rw [F 111 (by omega) (by omega), F 112 (by omega) (by omega), F 113 (by omega) (by omega), g 15 (by omega) (by omega), g 16 (by omega) (by omega), g 17 (by omega) (by omega)]
  exact R h hh
theorem RN.fr {m m' n n' : lu_M} (R : RN m n) (g : n' 0 37 = n 0 37) (F : m' 114 = m 114) (g2 : n' 18 = n 18) : RN m' n' := by
  obtain ⟨b, n1, n2, n3, n4⟩ := R
  exact ⟨b, n1, by rw [g]; exact n2, by rw [F]; exact n3, by rw [F, g2]; exact n4⟩
theorem RG.fr {m m' : lu_M} (R : RG m) (F : ∀ k, k < 6 → m' (91 + 1 + k) 0 = m (91 + 1 + k) 0) : RG m' := fun k hk => by rw [F k hk]; exact R k hk
theorem WR.tr1 {m m' : lu_M} {s s' : Nat → Int32} {L : List Ru} (W : WR m 1 s L) (F : ∀ a, 1 ≤ a → a < 36 → m' a = m a) (e : s' = s) : ∃ L, WR m' 1 s' L := ⟨L, by rw [e]; exact W.tr (fun a h1 h2 => F a h1 (by omega))⟩
theorem Re.k {m n : lu_M} (R : Re m n) : RK m n := R.1
theorem Re.r {m n : lu_M} (R : Re m n) : RR m n := R.2.1
theorem Re.t {m n : lu_M} (R : Re m n) : RT m n := R.2.2.1
theorem Re.h {m n : lu_M} (R : Re m n) : RH m n := R.2.2.2.1
theorem Re.f {m n : lu_M} (R : Re m n) : RF m n := R.2.2.2.2.1
theorem Re.n {m n : lu_M} (R : Re m n) : RN m n := R.2.2.2.2.2.1
theorem Re.g {m n : lu_M} (R : Re m n) : RG m := R.2.2.2.2.2.2
/-- one row of each is another, of those behind 98, 9: all but what it tells stays -/
theorem Rel.two {m n : lu_M} {L : List Ru} (R : Rel m n) (W : WR m 1 (n 1) L) (a b : Nat) (x y : Nat → Int32) (ha : 99 ≤ a) (hb : 10 ≤ b) (hr : RR (p_rw m a x) (p_rw n b y)) (ht : RT (p_rw m a x) (p_rw n b y)) (hh : RH (p_rw m a x) (p_rw n b y)) (hf : RF (p_rw m a x) (p_rw n b y)) (hn : RN (p_rw m a x) (p_rw n b y)) : Rel (p_rw m a x) (p_rw n b y) :=
  ⟨W.tr1 (fun r h1 h2 => p_rw_n (by omega)) (p_rw_n (by omega)), R.2.k.fr (by rw [p_rw_n (by omega)]) (fun r h1 h2 => p_rw_n (by omega)) (by rw [p_rw_n (by omega)]) (p_rw_n (by omega)), hr, ht, hh, hf, hn, R.2.g.fr (fun k hk => by rw [p_rw_n (by omega)])⟩
theorem y_row (a b : Int32) : Me (f11_row a b) (f12_row a b) := Me.mk fun m n L R W => by
  obtain ⟨c, c4, hm, hn, hr⟩ := R.2.r
  have hc : (nI c - 1).toInt = (c : Int) - 1 := pk_sub_toInt (b := 1) (by omega) (by omega)
  unfold f11_row f12_row f11_row_b23 f12_row_b24 f12_isRow f12_isRow_b32 f12_isRow_b33
  rw [show (0 : Int64) = (0 : Int32).toInt64 from rfl, show (2 : Int64) = (2 : Int32).toInt64 from rfl, hm, hn, k_in, t_in32, p_bi, p_bi, p_if, p_if, hc]
  cases h1 : p_in a.toInt (0 : Int32).toInt ((c : Int) - 1)
  · rw [if_neg p_ff, if_neg p_ff]
    exact ⟨_, _, _, rfl, rfl, R⟩
  rw [if_pos rfl, if_pos rfl, k_in, t_in32, p_bi, p_bi, p_if, p_if]
  cases h2 : p_in b.toInt (0 : Int32).toInt (2 : Int32).toInt
  · rw [if_neg p_ff, if_neg p_ff]
    exact ⟨_, _, _, rfl, rfl, R⟩
  rw [if_pos rfl, if_pos rfl]
  obtain ⟨k, rfl, hk⟩ := p_in_m1 h1 (by omega)
  obtain ⟨j, rfl, -, hj⟩ := p_in_ex (lo := 0) (hi := 2) h2 (by omega)
  have e3 : (3 : Int32) * nI k + nI j = nI (3 * k + j) := by rw [show (3 : Int32) = nI 3 from rfl, pk_mul, nI_add]
  rw [e3, p_gd (by omega) (by omega), p_gd (by omega) (by omega), p_g1, p_bi, if_neg (by decide), p_gd (by omega) (by omega), nI_clamp (by omega), nI_clamp (by omega), nI_clamp (by omega), hr k hk j (by omega)]
  exact ⟨_, _, _, rfl, rfl, R⟩
theorem y_alterRow (a b v : Int32) : Me (f11_alterRow a b v) (f12_alterRow a b v) := Me.mk fun m n L R W => by
  obtain ⟨c, c4, hm, hn, hr⟩ := R.2.r
  have hc : (nI c - 1).toInt = (c : Int) - 1 := pk_sub_toInt (b := 1) (by omega) (by omega)
  unfold f11_alterRow f12_alterRow f11_alterRow_b23 f12_isRow f12_isRow_b32 f12_isRow_b33
  rw [show (0 : Int64) = (0 : Int32).toInt64 from rfl, show (2 : Int64) = (2 : Int32).toInt64 from rfl, hm, hn, k_in, t_in32, p_bi, p_bi, p_if, p_if, hc]
  cases h1 : p_in a.toInt (0 : Int32).toInt ((c : Int) - 1)
  · rw [if_neg p_ff, if_neg p_ff]
    exact ⟨_, _, _, rfl, rfl, R⟩
  rw [if_pos rfl, if_pos rfl, k_in, t_in32, p_bi, p_bi, p_if, p_if]
  cases h2 : p_in b.toInt (0 : Int32).toInt (2 : Int32).toInt
  · rw [if_neg p_ff, if_neg p_ff]
    exact ⟨_, _, _, rfl, rfl, R⟩
  rw [if_pos rfl, if_pos rfl]
  obtain ⟨k, rfl, hk⟩ := p_in_m1 h1 (by omega)
  obtain ⟨j, rfl, -, hj⟩ := p_in_ex (lo := 0) (hi := 2) h2 (by omega)
  have e3 : (3 : Int32) * nI k + nI j = nI (3 * k + j) := by rw [show (3 : Int32) = nI 3 from rfl, pk_mul, nI_add]
  rw [e3, p_gd (by omega) (by omega), p_gd (by omega) (by omega), p_nm, p_gd (by omega) (by omega), p_gd (by omega) (by omega), p_nm, p_g1, p_bi, if_neg (by decide), p_gd (by omega) (by omega), p_nm, p_gd (by omega) (by omega), p_nm, nI_clamp (by omega), nI_clamp (by omega), nI_clamp (by omega), hr k hk j (by omega), p_st, p_st]
  refine ⟨_, _, _, rfl, rfl, R.two W _ _ _ _ (by omega) (by omega) ?_ (R.2.t.fr (by rw [p_rw_n (by omega)]) (by rw [p_rw_n (by omega)]) (p_rw_n (by omega)) (p_rw_n (by omega))) (R.2.h.fr (fun r h1 h2 => p_rw_n (by omega)) (fun r h1 h2 => p_rw_n (by omega))) (R.2.f.fr (fun r h1 h2 => p_rw_n (by omega)) (fun r h1 h2 => p_rw_n (by omega))) (R.2.n.fr (by rw [p_rw_n (by omega)]) (p_rw_n (by omega)) (p_rw_n (by omega)))⟩
  refine ⟨c, c4, by rw [p_rw_n (by omega)]; exact hm, by rw [p_rw_n (by omega)]; exact hn, fun k' hk' j' hj' => ?_⟩
  rw [p_rw_s]
  by_cases e : k' = k
  · subst e
    rw [p_rw_s]
    by_cases e2 : j' = j
    · subst e2; rw [p_us, p_us]
    · rw [upd_ne e2, upd_ne (by omega)]; exact hr k' hk' j' hj'
  · rw [p_rw_n (by omega), upd_ne (by omega)]; exact hr k' hk' j' hj'
theorem y_trace (a : Int32) : Me (f11_trace a) (f12_trace a) := Me.mk fun m n L R W => by
  obtain ⟨b, b1, hn, hm, hr⟩ := R.2.n
  have ht : f12_traced n = some (nI (min b 30), n) := by
    unfold f12_traced f12_traced_b18
    rw [hn, show (30 : Int32) = nI 30 from rfl, q_le (by omega) (by omega)]
    by_cases h : 30 ≤ b
    · rw [if_pos h, Nat.min_eq_right h]
    · rw [if_neg h, Nat.min_eq_left (by omega)]
  have hc : (nI (min b 30) - 1).toInt = ((min b 30 : Nat) : Int) - 1 := pk_sub_toInt (b := 1) (by omega) (by omega)
  unfold f11_trace f12_trace f11_trace_b29 f12_trace_b27
  rw [ht, p_bi, hm, show (0 : Int64) = (0 : Int32).toInt64 from rfl, k_in, t_in32, p_bi, p_bi, p_if, p_if, hc]
  cases h1 : p_in a.toInt (0 : Int32).toInt (((min b 30 : Nat) : Int) - 1)
  · rw [if_neg p_ff, if_neg p_ff]
    exact ⟨_, _, _, rfl, rfl, R⟩
  rw [if_pos rfl, if_pos rfl]
  obtain ⟨k, rfl, hk⟩ := p_in_m1 h1 (by omega)
  rw [p_next, p_gd (by omega) (by omega), p_gd (by omega) (by omega), nI_clamp (by omega), nI_clamp (by omega), hr k (by omega) (by omega)]
  exact ⟨_, _, _, rfl, rfl, R⟩

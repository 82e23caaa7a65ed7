/-! THE PURE PART: within, over, puts and putsBack, the years that rest -/
theorem lg_lt (x y : Int64) : lg_cmp x y < 0 ↔ x.toInt < y.toInt := by
  unfold lg_cmp
  by_cases h1 : x > y
  · rw [if_pos h1]
    have := Int64.lt_iff_toInt_lt.mp h1
    constructor
    · intro q; exact absurd q (by decide)
    · intro q; omega
  rw [if_neg h1]
  by_cases h2 : x = y
  · rw [if_pos h2]
    constructor
    · intro q; exact absurd q (by decide)
    · intro q; rw [h2] at q; omega
  · rw [if_neg h2]
    constructor
    · intro _
      have h3 : ¬ y.toInt < x.toInt := fun q => h1 (Int64.lt_iff_toInt_lt.mpr q)
      have h4 : x.toInt ≠ y.toInt := fun q => h2 (Int64.toInt_inj.mp q)
      omega
    · intro _; decide
theorem lg_gt (x y : Int64) : 0 < lg_cmp x y ↔ y.toInt < x.toInt := by
  unfold lg_cmp
  by_cases h1 : x > y
  · rw [if_pos h1]
    exact ⟨fun _ => Int64.lt_iff_toInt_lt.mp h1, fun _ => by decide⟩
  rw [if_neg h1]
  have h3 : ¬ y.toInt < x.toInt := fun q => h1 (Int64.lt_iff_toInt_lt.mpr q)
  by_cases h2 : x = y
  · rw [if_pos h2]
    exact ⟨fun q => absurd q (by decide), fun q => absurd q h3⟩
  · rw [if_neg h2]
    exact ⟨fun q => absurd q (by decide), fun q => absurd q h3⟩
def p_in (a lo hi : Int) : Bool := decide (lo ≤ a ∧ a ≤ hi)
theorem t_in (x y z : Int64) (n : lu_M) : f12_in x y z n = some (p_b (p_in x.toInt y.toInt z.toInt), n) := by
  unfold f12_in f12_in_b17 f12_in_b18 p_in
  by_cases h1 : x.toInt < y.toInt
  · rw [if_pos ((lg_lt x y).mpr h1), decide_eq_false (p := y.toInt ≤ x.toInt ∧ _) (fun q => by omega)]; rfl
  · rw [if_neg (fun q => h1 ((lg_lt x y).mp q))]
    by_cases h2 : z.toInt < x.toInt
    · rw [if_pos ((lg_gt x z).mpr h2), decide_eq_false (p := y.toInt ≤ x.toInt ∧ _) (fun q => by omega)]; rfl
    · rw [if_neg (fun q => h2 ((lg_gt x z).mp q)), decide_eq_true (p := y.toInt ≤ x.toInt ∧ _) (by omega)]; rfl
theorem k_in (x y z : Int32) (m : lu_M) : f11_isWithin x y z m = some (p_b (p_in x.toInt y.toInt z.toInt), m) := by
  unfold f11_isWithin f11_isWithin_b14 f11_isWithin_b15 p_in
  by_cases h1 : x.toInt < y.toInt
  · rw [if_pos (Int32.lt_iff_toInt_lt.mpr h1), decide_eq_false (p := y.toInt ≤ x.toInt ∧ _) (fun q => by omega)]; rfl
  · rw [if_neg (fun q => h1 (Int32.lt_iff_toInt_lt.mp q))]
    by_cases h2 : z.toInt < x.toInt
    · rw [if_pos (Int32.lt_iff_toInt_lt.mpr h2), decide_eq_false (p := y.toInt ≤ x.toInt ∧ _) (fun q => by omega)]; rfl
    · rw [if_neg (fun q => h2 (Int32.lt_iff_toInt_lt.mp q)), decide_eq_true (p := y.toInt ≤ x.toInt ∧ _) (by omega)]; rfl
theorem t_in32 (a lo hi : Int32) (n : lu_M) : f12_in a.toInt64 lo.toInt64 hi.toInt64 n = some (p_b (p_in a.toInt lo.toInt hi.toInt), n) := by
  rw [t_in, Int32.toInt_toInt64, Int32.toInt_toInt64, Int32.toInt_toInt64]
theorem p_in_ex {a : Int32} {lo hi : Nat} (h : p_in a.toInt lo hi = true) (hh : hi < 2 ^ 31) : ∃ v, a = nI v ∧ lo ≤ v ∧ v ≤ hi := by
  unfold p_in at h
  have h' := of_decide_eq_true h
  refine ⟨a.toInt.toNat, ?_, by omega, by omega⟩
  apply Int32.toInt_inj.mp
  rw [nI_toInt (by omega)]
  omega
theorem p_in_m1 {a : Int32} {P : Nat} (h : p_in a.toInt 0 ((P : Int) - 1) = true) (hh : P < 2 ^ 31) : ∃ v, a = nI v ∧ v < P := by
  unfold p_in at h
  have h' := of_decide_eq_true h
  refine ⟨a.toInt.toNat, ?_, by omega⟩
  apply Int32.toInt_inj.mp
  rw [nI_toInt (by omega)]
  omega
theorem k_isPerson {m : lu_M} {w : Nat} {P : Nat} (h : m w 0 = nI P) (hP : P ≤ 1000) (a : Int32) : f10_isPerson w a m = some (p_b (p_in a.toInt 0 ((P : Int) - 1)), m) := by
  unfold f10_isPerson
  rw [h, k_in, p_bi, p_gb, show (1 : Int32) = nI 1 from rfl, pk_sub_toInt (by omega) (by omega)]
  rfl
theorem k_isDeed {m : lu_M} {w : Nat} {P : Nat} (h : m w 2 = nI P) (hP : P ≤ 1000) (a : Int32) : f10_isDeed w a m = some (p_b (p_in a.toInt 0 ((P : Int) - 1)), m) := by
  unfold f10_isDeed
  rw [h, k_in, p_bi, p_gb, show (1 : Int32) = nI 1 from rfl, pk_sub_toInt (by omega) (by omega)]
  rfl
theorem t_isPerson {n : lu_M} {P : Nat} (h : n 1 0 = nI P) (hP : P ≤ 1000) (a : Int32) : f12_isPerson a n = some (p_b (p_in a.toInt 0 ((P : Int) - 1)), n) := by
  unfold f12_isPerson
  rw [h, show (0 : Int64) = (0 : Int32).toInt64 from rfl, t_in32, p_bi, p_gb, show (1 : Int32) = nI 1 from rfl, pk_sub_toInt (by omega) (by omega)]
  rfl
theorem t_isDeed {n : lu_M} {P : Nat} (h : n 1 5 = nI P) (hP : P ≤ 1000) (a : Int32) : f12_isDeed a n = some (p_b (p_in a.toInt 0 ((P : Int) - 1)), n) := by
  unfold f12_isDeed
  rw [h, show (0 : Int64) = (0 : Int32).toInt64 from rfl, t_in32, p_bi, p_gb, show (1 : Int32) = nI 1 from rfl, pk_sub_toInt (by omega) (by omega)]
  rfl
/-- over -/
def s_ov (s : Nat → Int32) : Bool := decide (s_v s 2 ≤ s_v s 3)
theorem t_isOver {n : lu_M} (I : SI (n 1)) : f12_isOver n = some (p_b (s_ov (n 1)), n) := by
  have h1 := I.YE
  have h2 := I.E16
  unfold f12_isOver f12_isOver_b20 s_ov
  rw [I.eY, I.eE, q_lt (by omega) (by omega)]
  by_cases h : s_v (n 1) 3 < s_v (n 1) 2
  · rw [if_pos h, decide_eq_false (p := s_v (n 1) 2 ≤ s_v (n 1) 3) (by omega)]; rfl
  · rw [if_neg h, decide_eq_true (p := s_v (n 1) 2 ≤ s_v (n 1) 3) (by omega)]; rfl
theorem k_isOver {m : lu_M} {w c : Nat} {u : Nat → Int32} (J : SI u) (hw : m w 9 = u 2) (hc : m c 0 = u 3) : f10_isOver w c m = some (p_b (s_ov u), m) := by
  have h1 := J.YE
  have h2 := J.E16
  unfold f10_isOver f10_isOver_b16 s_ov
  rw [hw, hc, J.eY, J.eE, q_lt (by omega) (by omega)]
  by_cases h : s_v u 3 < s_v u 2
  · rw [if_pos h, decide_eq_false (p := s_v u 2 ≤ s_v u 3) (by omega)]; rfl
  · rw [if_neg h, decide_eq_true (p := s_v u 2 ≤ s_v u 3) (by omega)]; rfl
/-- copying rows -/
theorem t_puts (n : lu_M) : ∃ o, f12_puts n = some (p_rw n 3 o) ∧ ∀ k, k < 368 → o k = n 1 k := by
  obtain ⟨o, e, h⟩ := p_loopR (σ := Unit) (fun q i o => f12_puts_b2 f12_puts_b27 q i (p_rw n 3 o)) (fun o => some (p_rw n 3 o)) 368 (fun _ u => u) (fun i o _ => ∀ k, k < i → o k = n 1 k)
    (fun q o _ _ => by
      show f12_puts_b2B _ _ _ _ = _
      unfold f12_puts_b2B f12_puts_b27
      rw [show (368 : Int32) = nI 368 from rfl, if_pos (Int32.le_refl _)])
    (fun q i o _ hi h => by
      refine ⟨upd o i (n 1 i), ?_, fun k hk => ?_⟩
      · show f12_puts_b2B _ _ _ _ = _
        unfold f12_puts_b2B
        rw [show (368 : Int32) = nI 368 from rfl, q_le (by omega) (by omega), if_neg (by omega), p_gd hi (by omega), p_gd hi (by omega), nI_clamp (by omega), p_nm, p_stc, p_next, p_rw_n (by omega)]
      · by_cases hki : k = i
        · subst hki; exact p_us ..
        · rw [upd_ne hki]; exact h k (by omega)) 368 0 lu_fu (n 3) () (by omega) (p_fu (by omega)) (fun k hk => absurd hk (by omega))
  rw [p_rw_id] at e
  exact ⟨o, e, h⟩
theorem t_putsBack {n : lu_M} {s : Nat → Int32} (h1 : ∀ k, k < 368 → n 3 k = s k) (h2 : ∀ k, 368 ≤ k → n 1 k = s k) : f12_putsBack n = some (p_rw n 1 s) := by
  obtain ⟨o, e, h⟩ := p_loopR (σ := Unit) (fun q i o => f12_putsBack_b2 f12_putsBack_b27 q i (p_rw n 1 o)) (fun o => some (p_rw n 1 o)) 368 (fun _ u => u) (fun i o _ => (∀ k, k < i → o k = s k) ∧ ∀ k, 368 ≤ k → o k = s k)
    (fun q o _ _ => by
      show f12_putsBack_b2B _ _ _ _ = _
      unfold f12_putsBack_b2B f12_putsBack_b27
      rw [show (368 : Int32) = nI 368 from rfl, if_pos (Int32.le_refl _)])
    (fun q i o _ hi h => by
      refine ⟨upd o i (s i), ?_, fun k hk => ?_, fun k hk => ?_⟩
      · show f12_putsBack_b2B _ _ _ _ = _
        unfold f12_putsBack_b2B
        rw [show (368 : Int32) = nI 368 from rfl, q_le (by omega) (by omega), if_neg (by omega), p_gd hi (by omega), p_gd hi (by omega), nI_clamp (by omega), p_nm, p_stc, p_next, p_rw_n (by omega), h1 i hi]
      · by_cases hki : k = i
        · subst hki; exact p_us ..
        · rw [upd_ne hki]; exact h.1 k (by omega)
      · rw [upd_ne (by omega)]; exact h.2 k hk) 368 0 lu_fu (n 1) () (by omega) (p_fu (by omega)) ⟨fun k hk => absurd hk (by omega), h2⟩
  rw [p_rw_id] at e
  have ho : o = s := by
    funext k
    rcases Nat.lt_or_ge k 368 with hk | hk
    · exact h.1 k hk
    · exact h.2 k hk
  rw [ho] at e
  exact e
/-- a line that starts as the other stands -/
theorem k_begin (m : lu_M) {c b : Nat} (hcb : c ≠ b) : ∃ x, f1_begin c b m = some (p_rw m c x) ∧ (∀ i, i < 5 → x i = m b i) ∧ x 5 = 0 := by
  refine ⟨upd (upd (upd (upd (upd (upd (upd (m c) 0 (m b 0)) 1 (m b 1)) 2 (m b 2)) 3 (m b 3)) 4 (m b 4)) 5 (m b 5)) 5 0, ?_, fun i hi => ?_, rfl⟩
  · unfold f1_begin f1_copy
    have hb : ∀ x, (p_rw m c x) b = m b := fun x => p_rw_n (fun q => hcb q.symm)
    simp only [p_nm, p_bv, p_st m c, p_stc, hb]
  · have : i = 0 ∨ i = 1 ∨ i = 2 ∨ i = 3 ∨ i = 4 := by omega
    rcases this with e | e | e | e | e <;> subst e <;> rfl
theorem CR.cp {D : Nat} {x y u : Nat → Int32} (h : ∀ i, i < 5 → y i = x i) (C : CR D x u) : CR D y u := by
  refine ⟨(h 0 (by omega)).trans C.1, fun i hi => ?_⟩
  rw [h 1 (by omega), h 2 (by omega), h 3 (by omega), h 4 (by omega)]
  exact C.2 i hi
/-- k years more, as far as there are -/
def s_rest (L : List Ru) (s : Nat → Int32) : Nat → (Nat → Int32)
  | 0 => s
  | k + 1 => if s_ov s then s else s_rest L (s_goes L 0 s) k
def s_restW (L : List Ru) (s : Nat → Int32) : Nat → Int32
  | 0 => 0
  | k + 1 => if s_ov s then 0 else s_w L 0 s + s_restW L (s_goes L 0 s) k
theorem s_ov_f {s : Nat → Int32} (h : s_ov s = false) : s_v s 3 < s_v s 2 := by
  unfold s_ov at h
  have := of_decide_eq_false h
  omega
theorem s_rest_I (L : List Ru) : ∀ (k : Nat) (s : Nat → Int32), SI s → SE s (s_rest L s k) ∧ SI (s_rest L s k)
  | 0, s, I => ⟨SE.rf s, I⟩
  | k + 1, s, I => by
    unfold s_rest
    cases h : s_ov s
    · rw [if_neg (by decide)]
      obtain ⟨e, j⟩ := s_goes_I I L 0 (s_ov_f h)
      obtain ⟨e2, j2⟩ := s_rest_I L k _ j
      exact ⟨e.tr e2, j2⟩
    · rw [if_pos rfl]
      exact ⟨SE.rf s, I⟩
theorem t_restN {L : List Ru} (hL : LV L) (n : lu_M) (N : Nat) (hN : N ≤ 16) : ∀ (j i q : Nat) (s t : Nat → Int32) (v : Int32), i + j = N → j < q → SI s → RS' s L → ∃ t', f12_rest_b4 (f12_rest_b30 (nI N)) (nI N) q v (nI i) (p_rw (p_rw n 1 s) 4 t) = some (v + s_restW L s j, p_rw (p_rw n 1 (s_rest L s j)) 4 t')
  | 0, i, q, s, t, v, h1, h2, I, hr => by
    obtain ⟨q, rfl⟩ : ∃ r, q = r + 1 := ⟨q - 1, by omega⟩
    rw [Nat.add_zero] at h1
    subst h1
    refine ⟨t, ?_⟩
    show f12_rest_b4B _ _ _ _ _ _ = _
    unfold f12_rest_b4B f12_rest_b30 s_restW s_rest
    rw [if_pos (Int32.le_refl _), Int32.add_zero]
  | j + 1, i, q, s, t, v, h1, h2, I, hr => by
    obtain ⟨q, rfl⟩ : ∃ r, q = r + 1 := ⟨q - 1, by omega⟩
    have hr1 : (p_rw (p_rw n 1 s) 4 t) 1 = s := by rw [p_rw_n (by omega), p_rw_s]
    have ho := t_isOver (n := p_rw (p_rw n 1 s) 4 t) (by rw [hr1]; exact I)
    rw [hr1] at ho
    show ∃ t', f12_rest_b4B _ _ _ _ _ _ = _
    unfold f12_rest_b4B f12_rest_b30 s_restW s_rest
    rw [q_le (by omega) (by omega), if_neg (by omega), ho, p_bi, p_if]
    cases h : s_ov s
    · rw [if_neg (by decide), if_neg (by decide), if_neg (by decide)]
      obtain ⟨e, J⟩ := s_goes_I I L 0 (s_ov_f h)
      obtain ⟨t1, e1⟩ := t_goes (n := p_rw n 1 s) (p_rw_s ..) I hL hr 0 t
      obtain ⟨t2, e2⟩ := t_restN hL n N hN j (i + 1) q (s_goes L 0 s) t1 (v + s_w L 0 s) (by omega) (by omega) J (hr.se e hL.1 hL.2.1)
      refine ⟨t2, ?_⟩
      rw [e1, p_bi, p_nm, p_next, p_rw_rw]
      refine e2.trans ?_
      rw [Int32.add_assoc]
    · rw [if_pos rfl, if_pos rfl, if_pos rfl, Int32.add_zero]
      exact ⟨t, rfl⟩
theorem t_rest {L : List Ru} (hL : LV L) {n : lu_M} {s : Nat → Int32} (h : n 1 = s) {N : Nat} (hN : N ≤ 16) (I : SI s) (hr : RS' s L) : ∃ t', f12_rest (nI N) n = some (s_restW L s N, p_rw (p_rw n 1 (s_rest L s N)) 4 t') := by
  obtain ⟨t', e⟩ := t_restN hL n N hN N 0 lu_fu s (n 4) 0 (by omega) (p_fu (by omega)) I hr
  have hn : p_rw (p_rw n 1 s) 4 (n 4) = n := by
    rw [← h, p_rw_id, p_rw_id]
  rw [hn, Int32.zero_add] at e
  exact ⟨t', e⟩
theorem k_restN {m : lu_M} {w c : Nat} {s0 : Nat → Int32} {L : List Ru} (B : RB m w s0) (hc : LN w c) (R : RW m w L) (N : Nat) (hN : N ≤ 16) {β : Type} (F : Nat → Int32 → lu_M → Option β) (K : lu_M → Option β) (hF : ∀ q i z, F (q + 1) (nI i) z = if nI N ≤ nI i then K z else lu_bi (f10_isOver w c z) fun x2 m3 => if x2 = 0 then (lu_bi (f10_pass w c (0 : Int32) m3) fun _ m5 => F q (nI i + 1) m5) else K m3) : ∀ (j i q : Nat) (s f x : Nat → Int32), i + j = N → j < q → SI s0 → SI s → SE s0 s → CR (s_D s) x s → ∃ f' x', F q (nI i) (p_rw (p_rw m (w + 35) f) c x) = K (p_rw (p_rw m (w + 35) f') c x') ∧ CR (s_D s) x' (s_rest L s j) ∧ x' 5 = x 5 + s_restW L s j
  | 0, i, q, s, f, x, h1, h2, I0, I, E, C => by
    obtain ⟨q, rfl⟩ : ∃ r, q = r + 1 := ⟨q - 1, by omega⟩
    rw [Nat.add_zero] at h1
    subst h1
    refine ⟨f, x, ?_, C, (Int32.add_zero _).symm⟩
    rw [hF, if_pos (Int32.le_refl _)]
  | j + 1, i, q, s, f, x, h1, h2, I0, I, E, C => by
    obtain ⟨q, rfl⟩ : ∃ r, q = r + 1 := ⟨q - 1, by omega⟩
    have Bs := B.se I0 E
    have B2 : RB (p_rw (p_rw m (w + 35) f) c x) w s := Bs.tr (((FR.rf w m).fa f).ln hc x)
    unfold s_restW s_rest
    rw [hF, q_le (by omega) (by omega), if_neg (by omega), k_isOver I B2.en (by rw [p_rw_s]; exact C.1), p_bi, p_if]
    cases h : s_ov s
    · rw [if_neg (by decide), if_neg (by decide), if_neg (by decide)]
      obtain ⟨e, J⟩ := s_goes_I I L 0 (s_ov_f h)
      obtain ⟨f1, x1, e1, C1, h5⟩ := k_pass I Bs hc R 0 f C
      obtain ⟨f2, x2, e2, C2, h52⟩ := k_restN B hc R N hN F K hF j (i + 1) q (s_goes L 0 s) f1 x1 (by omega) (by omega) I0 J (E.tr e) (by rw [e.D]; exact C1)
      refine ⟨f2, x2, ?_, by rw [← e.D]; exact C2, ?_⟩
      · rw [e1, p_bi, p_next]
        exact e2
      · rw [h52, h5, Int32.add_assoc]
    · rw [if_pos rfl, if_pos rfl, if_pos rfl, Int32.add_zero]
      exact ⟨f, x, rfl, C, rfl⟩
theorem k_rest {m : lu_M} {w c : Nat} {s : Nat → Int32} {L : List Ru} (I : SI s) (B : RB m w s) (hc : LN w c) (hc2 : c ≠ w + 28) (R : RW m w L) (C : CR (s_D s) (m (w + 28)) s) : ∃ f' x', f10_rest w c m = some (p_rw (p_rw m (w + 35) f') c x') ∧ CR (s_D s) x' (s_rest L s 16) ∧ x' 5 = s_restW L s 16 := by
  obtain ⟨x, e, hx, h5⟩ := k_begin m hc2
  have hc5 := hc.fc.1
  obtain ⟨f2, x2, e2, C2, h52⟩ := k_restN B hc R 16 (by omega) (f10_rest_b10 (f10_rest_b37 w c) w c) (fun z => some z) (fun q i z => rfl) 16 0 lu_fu s (m (w + 35)) x (by omega) (p_fu (by omega)) I I (SE.rf s) (C.cp hx)
  refine ⟨f2, x2, ?_, C2, by rw [h52, h5, Int32.zero_add]⟩
  unfold f10_rest
  rw [e, p_bv]
  rw [p_rw_id] at e2
  exact e2

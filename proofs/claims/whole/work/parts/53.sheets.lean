/-! THE PURE PART: sheets -/
theorem t_isOne (a : Int32) (n : lu_M) : f12_isOne a n = some (p_b (p_in a.toInt 0 3), n) := by
  unfold f12_isOne
  rw [show (0 : Int64) = (0 : Int32).toInt64 from rfl, show (3 : Int64) = (3 : Int32).toInt64 from rfl, t_in32, p_bi, p_gb]
  rfl
theorem k_isOne (a : Int32) (m : lu_M) : f11_isWithin a (0 : Int32) (3 : Int32) m = some (p_b (p_in a.toInt 0 3), m) := by
  rw [k_in]; rfl
theorem RH.so {m n : lu_M} (R : RH m n) {h : Nat} (hh : h < 4) : (m 104 h = -1 ∧ n 12 h = -1) ∨ ∃ v, v ≤ 4 ∧ m 104 h = nI v ∧ n 12 h = nI v := by
  obtain ⟨e1, -, -, e2, -⟩ := R h hh
  rcases e2 with e2 | ⟨e2, -, e3⟩
  · exact Or.inl ⟨e1.trans e2, e2⟩
  · exact Or.inr ⟨_, e3, e1.trans e2, e2⟩
theorem RH.sz {m n : lu_M} (R : RH m n) {h : Nat} (hh : h < 4) : ∃ z, z ≤ 40 ∧ m 105 h = nI z ∧ n 13 h = nI z := by
  obtain ⟨-, e1, ⟨e2, -, e3⟩, -, -⟩ := R h hh
  exact ⟨_, e3, e1.trans e2, e2⟩
theorem p_m1n {v : Nat} (h : v < 2 ^ 31) : ¬ nI v = (-1 : Int32) := p_neg h (by decide)
theorem p_40 (h i : Nat) : ((40 : Int32) * nI h) + nI i = nI (40 * h + i) := by rw [show (40 : Int32) = nI 40 from rfl, pk_mul, nI_add]
theorem p_szI {z : Nat} (hz : z ≤ 40) : (nI z - 1).toInt = (z : Int) - 1 := pk_sub_toInt (b := 1) (by omega) (by omega)
theorem t_whyNot {m n : lu_M} (R : RH m n) {h : Nat} (hh : h < 4) {b : Nat} (hb : b ≤ 4) : f12_whyNot (nI h) (nI b) n = some (if n 12 h = -1 then -11 else if n 12 h = nI b then 0 else -13, n) := by
  unfold f12_whyNot f12_whyNot_b30
  rw [p_gd hh (by omega), p_gd hh (by omega), nI_clamp (by omega)]
  rcases R.so hh with ⟨-, e⟩ | ⟨v, hv, -, e⟩
  · rw [e, if_neg (by decide), if_pos rfl]
  · rw [e, if_pos (nI_pos' (by omega)), if_neg (p_m1n (by omega))]
    split <;> rfl
theorem narrow_eq (m n : lu_M) {s : Nat} (hs : s ≤ 4) (v : Int32) : ∃ x, f11_narrowed (nI s) v m = some (x, m) ∧ f12_narrowed (nI s) v n = some (x, n) := by
  have h : s = 0 ∨ s = 1 ∨ s = 2 ∨ s = 3 ∨ s = 4 := by omega
  rcases h with e | e | e | e | e <;> subst e
  · exact ⟨_, rfl, rfl⟩
  · exact ⟨_, rfl, rfl⟩
  · exact ⟨_, rfl, rfl⟩
  · exact ⟨_, rfl, rfl⟩
  · by_cases h : v = 0
    · exact ⟨0, by subst h; rfl, by subst h; rfl⟩
    · refine ⟨1, ?_, ?_⟩
      · unfold f11_narrowed f11_narrowed_b51
        rw [if_neg (by decide), if_neg (by decide), if_neg (by decide), if_neg (by decide), if_pos (by decide), if_neg h]
      · unfold f12_narrowed f12_narrowed_b37
        rw [if_neg (by decide), if_neg (by decide), if_pos (by decide), if_neg h]
theorem y_item (a b c : Int32) : Me (f11_item a b c) (f12_item a b c) := Me.mk fun m n L R W => by
  unfold f11_item f12_item f11_item_b18 f12_item_b19 f12_item_b73
  rw [k_isOne, t_isOne, p_bi, p_bi, p_if, p_if]
  cases h1 : p_in a.toInt 0 3
  · rw [if_neg p_ff, if_neg p_ff]
    exact ⟨_, _, _, rfl, rfl, R⟩
  rw [if_pos rfl, if_pos rfl, show (0 : Int64) = (0 : Int32).toInt64 from rfl, show (4 : Int64) = (4 : Int32).toInt64 from rfl, k_in, t_in32, p_bi, p_bi, p_if, p_if]
  cases h2 : p_in b.toInt (0 : Int32).toInt (4 : Int32).toInt
  · rw [if_neg p_ff, if_neg p_ff]
    exact ⟨_, _, _, rfl, rfl, R⟩
  rw [if_pos rfl, if_pos rfl]
  obtain ⟨h, rfl, -, hh'⟩ := p_in_ex (lo := 0) (hi := 3) h1 (by omega)
  have hh : h < 4 := by omega
  obtain ⟨s, rfl, -, hs⟩ := p_in_ex (lo := 0) (hi := 4) h2 (by omega)
  obtain ⟨z, hz, mz, nz⟩ := R.2.h.sz hh
  rw [t_whyNot R.2.h hh hs, p_bi, p_gd hh (by omega), p_gd hh (by omega), p_gd hh (by omega), p_gd hh (by omega), nI_clamp (by omega), mz, nz]
  rcases R.2.h.so hh with ⟨e1, e2⟩ | ⟨v, hv, e1, e2⟩
  · rw [e1, e2, if_pos rfl, if_pos rfl, if_neg (by decide)]
    exact ⟨_, _, _, rfl, rfl, R⟩
  · rw [e1, e2, if_neg (p_m1n (by omega)), if_neg (p_m1n (by omega))]
    by_cases e : nI v = nI s
    · rw [if_pos e, if_pos e, if_pos rfl, k_in, t_in32, p_bi, p_bi, p_if, p_if, p_szI hz]
      cases h3 : p_in c.toInt (0 : Int32).toInt ((z : Int) - 1)
      · rw [if_neg p_ff, if_neg p_ff]
        exact ⟨_, _, _, rfl, rfl, R⟩
      rw [if_pos rfl, if_pos rfl]
      obtain ⟨i, rfl, hi⟩ := p_in_m1 h3 (by omega)
      rw [p_40, p_gd hh (by omega), p_gd (by omega) (by omega), p_gd (by omega) (by omega), nI_clamp (by omega), nI_clamp (by omega), (R.2.h h hh).2.2.2.2 i (by omega)]
      exact ⟨_, _, _, rfl, rfl, R⟩
    · rw [if_neg e, if_neg e, if_neg (by decide)]
      exact ⟨_, _, _, rfl, rfl, R⟩
theorem y_write (a b c : Int32) : Me (f11_write a b c) (f12_write a b c) := Me.mk fun m n L R W => by
  unfold f11_write f12_write
  rw [k_isOne, t_isOne, p_bi, p_bi, p_if, p_if]
  cases h1 : p_in a.toInt 0 3
  · rw [if_neg p_ff, if_neg p_ff]
    exact ⟨_, _, _, rfl, rfl, R⟩
  rw [if_pos rfl, if_pos rfl]
  obtain ⟨h, rfl, -, hh'⟩ := p_in_ex (lo := 0) (hi := 3) h1 (by omega)
  have hh : h < 4 := by omega
  obtain ⟨z, hz, mz, nz⟩ := R.2.h.sz hh
  rw [p_gd hh (by omega), p_gd hh (by omega), p_gd hh (by omega), p_gd hh (by omega), nI_clamp (by omega), mz, nz]
  rcases R.2.h.so hh with ⟨e1, e2⟩ | ⟨v, hv, e1, e2⟩
  · rw [e1, e2, if_pos rfl, if_neg (by decide)]
    exact ⟨_, _, _, rfl, rfl, R⟩
  · rw [e1, e2, if_neg (p_m1n (by omega)), if_pos (nI_pos' (by omega)), show (0 : Int64) = (0 : Int32).toInt64 from rfl, k_in, t_in32, p_bi, p_bi, p_if, p_if, p_szI hz]
    cases h3 : p_in b.toInt (0 : Int32).toInt ((z : Int) - 1)
    · rw [if_neg p_ff, if_neg p_ff]
      exact ⟨_, _, _, rfl, rfl, R⟩
    rw [if_pos rfl, if_pos rfl]
    obtain ⟨i, rfl, hi⟩ := p_in_m1 h3 (by omega)
    obtain ⟨x, x1, x2⟩ := narrow_eq m n hv c
    rw [p_40, p_gd hh (by omega), p_gd hh (by omega), p_gd hh (by omega), e1, e2, x1, x2, p_bi, p_bi, p_gd (by omega) (by omega), p_gd (by omega) (by omega), p_nm, p_nm, nI_clamp (by omega), nI_clamp (by omega), p_st, p_st]
    refine ⟨_, _, _, rfl, rfl, R.two W _ _ _ _ (by omega) (by omega) (R.2.r.fr (by rw [p_rw_n (by omega)]) (by rw [p_rw_n (by omega)]) (fun r h1 h2 => p_rw_n (by omega)) (p_rw_n (by omega))) (R.2.t.fr (by rw [p_rw_n (by omega)]) (by rw [p_rw_n (by omega)]) (p_rw_n (by omega)) (p_rw_n (by omega))) ?_ (R.2.f.fr (fun r h1 h2 => p_rw_n (by omega)) (fun r h1 h2 => p_rw_n (by omega))) (R.2.n.fr (by rw [p_rw_n (by omega)]) (p_rw_n (by omega)) (p_rw_n (by omega)))⟩
    intro h' hh2
    obtain ⟨b1, b2, b3, b4, b5⟩ := R.2.h h' hh2
    rw [p_rw_n (a := 104) (by omega), p_rw_n (a := 105) (by omega), p_rw_n (a := 12) (by omega), p_rw_n (a := 13) (by omega), p_rw_s]
    refine ⟨b1, b2, b3, b4, fun k hk => ?_⟩
    by_cases e : h' = h
    · subst e
      rw [p_rw_s]
      by_cases e3 : k = i
      · subst e3; rw [p_us, p_us]
      · rw [upd_ne e3, upd_ne (by omega)]; exact b5 k hk
    · rw [p_rw_n (by omega), upd_ne (by omega)]; exact b5 k hk
/-- rows behind 98 and 9 may be others -/
theorem Rel.far {m m' n n' : lu_M} {L : List Ru} (R : Rel m n) (W : WR m 1 (n 1) L) (F : ∀ a, a < 99 → m' a = m a) (G : ∀ a, a < 10 → n' a = n a) (hr : RR m' n') (ht : RT m' n') (hh : RH m' n') (hf : RF m' n') (hn : RN m' n') : Rel m' n' :=
  ⟨W.tr1 (fun r h1 h2 => F r (by omega)) (G 1 (by omega)), R.2.k.fr (by rw [F 0 (by omega)]) (fun r h1 h2 => F r (by omega)) (by rw [G 0 (by omega)]) (G 2 (by omega)), hr, ht, hh, hf, hn, R.2.g.fr (fun k hk => by rw [F _ (by omega)])⟩
theorem k_sheet {m n : lu_M} {L : List Ru} (R : Rel m n) (W : WR m 1 (n 1) L) {h z : Nat} (hh : h < 4) (hz : z ≤ 40) {a2 a3 : Int32} (hs : a2 = -1 ∨ ∃ s, s ≤ 4 ∧ a2 = nI s) (hzz : (if a2 = -1 then 0 else a3) = nI z) : ∃ a m' n', f11_sheet_b45 (nI h) a2 a3 m = some (a, m') ∧ f12_sheet_b44 (nI h) a2 a3 n = some (a, n') ∧ Rel m' n' := by
  have em : f11_sheet_b45 (nI h) a2 a3 m = f11_sheet_b71 (f11_sheet_b94 (nI h) a2 a3) (nI h) a2 a3 lu_fu 0 (p_rw (p_rw m 104 (upd (m 104) h a2)) 105 (upd (m 105) h (nI z))) := by
    have h67 : ∀ x m, f11_sheet_b67 (nI h) a2 a3 x (nI h) m = f11_sheet_b71 (f11_sheet_b94 (nI h) a2 a3) (nI h) a2 a3 lu_fu 0 (p_rw m 105 (upd (m 105) h x)) := fun x m => by
      unfold f11_sheet_b67
      rw [p_gd hh (by omega), p_nm, nI_clamp (by omega), p_st]
    unfold f11_sheet_b45
    rw [p_gd hh (by omega), p_nm, nI_clamp (by omega), p_st, h67, h67, p_rw_n (by omega)]
    split
    · rename_i e; rw [if_pos e] at hzz; rw [hzz]
    · rename_i e; rw [if_neg e] at hzz; rw [hzz]
  have en : f12_sheet_b44 (nI h) a2 a3 n = f12_sheet_b69 (f12_sheet_b95 (nI h) a2 a3) (nI h) a2 a3 lu_fu 0 (p_rw (p_rw n 12 (upd (n 12) h a2)) 13 (upd (n 13) h (nI z))) := by
    have h65 : ∀ x m, f12_sheet_b65 (nI h) a2 a3 x (nI h) m = f12_sheet_b69 (f12_sheet_b95 (nI h) a2 a3) (nI h) a2 a3 lu_fu 0 (p_rw m 13 (upd (m 13) h x)) := fun x m => by
      unfold f12_sheet_b65
      rw [p_gd hh (by omega), p_nm, nI_clamp (by omega), p_st]
    unfold f12_sheet_b44
    rw [p_gd hh (by omega), p_nm, nI_clamp (by omega), p_st, h65, h65, p_rw_n (by omega)]
    rcases hs with e | ⟨s, hs, e⟩
    · rw [if_pos e] at hzz
      rw [e, if_neg (by decide), ← e, hzz]
    · rw [if_neg (by rw [e]; exact p_m1n (by omega))] at hzz
      rw [if_pos (by rw [e]; exact nI_pos' (by omega)), hzz]
  obtain ⟨y, e1, hy⟩ := p_loopR (σ := Unit) (fun q i (y : Nat → Int32) => f11_sheet_b71 (f11_sheet_b94 (nI h) a2 a3) (nI h) a2 a3 q i (p_rw (p_rw (p_rw m 104 (upd (m 104) h a2)) 105 (upd (m 105) h (nI z))) (106 + 1 + h) y)) (fun y => some ((1 : Int32), p_rw (p_rw (p_rw m 104 (upd (m 104) h a2)) 105 (upd (m 105) h (nI z))) (106 + 1 + h) y)) 40 (fun _ u => u) (fun i y _ => ∀ k, k < i → y k = 0)
    (fun q y _ _ => by
      show f11_sheet_b71B _ _ _ _ _ _ _ = _
      unfold f11_sheet_b71B f11_sheet_b94
      rw [show (40 : Int32) = nI 40 from rfl, if_pos (Int32.le_refl _)])
    (fun q i y _ hi hy => by
      refine ⟨upd y i 0, ?_, fun k hk => ?_⟩
      · show f11_sheet_b71B _ _ _ _ _ _ _ = _
        unfold f11_sheet_b71B
        rw [show (40 : Int32) = nI 40 from rfl, q_le (by omega) (by omega), if_neg (by omega), p_gd hh (by omega), p_gd hi (by omega), p_nm, nI_clamp (by omega), nI_clamp (by omega), p_stc, p_next]
      · by_cases e : k = i
        · subst e; exact p_us ..
        · rw [upd_ne e]; exact hy k (by omega)) 40 0 lu_fu (m (106 + 1 + h)) () (by omega) (p_fu (by omega)) (fun k hk => absurd hk (by omega))
  obtain ⟨w, e2, hw⟩ := p_loopR (σ := Unit) (fun q i (y : Nat → Int32) => f12_sheet_b69 (f12_sheet_b95 (nI h) a2 a3) (nI h) a2 a3 q i (p_rw (p_rw (p_rw n 12 (upd (n 12) h a2)) 13 (upd (n 13) h (nI z))) 14 y)) (fun y => some ((1 : Int32), p_rw (p_rw (p_rw n 12 (upd (n 12) h a2)) 13 (upd (n 13) h (nI z))) 14 y)) 40 (fun _ u => u) (fun i y _ => (∀ k, k < i → y (40 * h + k) = 0) ∧ ∀ k, (k < 40 * h ∨ 40 * h + 40 ≤ k) → y k = n 14 k)
    (fun q y _ _ => by
      show f12_sheet_b69B _ _ _ _ _ _ _ = _
      unfold f12_sheet_b69B f12_sheet_b95
      rw [show (40 : Int32) = nI 40 from rfl, if_pos (Int32.le_refl _)])
    (fun q i y _ hi hy => by
      refine ⟨upd y (40 * h + i) 0, ?_, fun k hk => ?_, fun k hk => ?_⟩
      · show f12_sheet_b69B _ _ _ _ _ _ _ = _
        unfold f12_sheet_b69B
        rw [p_40, show (40 : Int32) = nI 40 from rfl, q_le (by omega) (by omega), if_neg (by omega), p_gd (by omega) (by omega), p_nm, nI_clamp (by omega), p_stc, p_next]
      · by_cases e : k = i
        · subst e; exact p_us ..
        · rw [upd_ne (by omega)]; exact hy.1 k (by omega)
      · rw [upd_ne (by omega)]; exact hy.2 k hk) 40 0 lu_fu (n 14) () (by omega) (p_fu (by omega)) ⟨fun k hk => absurd hk (by omega), fun k _ => rfl⟩
  have i1 : p_rw (p_rw (p_rw m 104 (upd (m 104) h a2)) 105 (upd (m 105) h (nI z))) (106 + 1 + h) (m (106 + 1 + h)) = p_rw (p_rw m 104 (upd (m 104) h a2)) 105 (upd (m 105) h (nI z)) := by
    rw [p_rw_sw (by omega), p_rw_sw (a := 104) (b := 106 + 1 + h) (by omega), p_rw_id]
  have i2 : p_rw (p_rw (p_rw n 12 (upd (n 12) h a2)) 13 (upd (n 13) h (nI z))) 14 (n 14) = p_rw (p_rw n 12 (upd (n 12) h a2)) 13 (upd (n 13) h (nI z)) := by
    rw [p_rw_sw (by omega), p_rw_sw (a := 12) (b := 14) (by omega), p_rw_id]
  rw [i1] at e1
  rw [i2] at e2
  rw [em, en]
  refine ⟨_, _, _, e1, e2, R.far W (fun a ha => by rw [p_rw_n (by omega), p_rw_n (by omega), p_rw_n (by omega)]) (fun a ha => by rw [p_rw_n (by omega), p_rw_n (by omega), p_rw_n (by omega)]) ?_ ?_ ?_ ?_ ?_⟩
  · exact R.2.r.fr (by rw [p_rw_n (by omega), p_rw_n (by omega), p_rw_n (by omega)]) (by rw [p_rw_n (by omega), p_rw_n (by omega), p_rw_n (by omega)]) (fun r h1 h2 => by rw [p_rw_n (by omega), p_rw_n (by omega), p_rw_n (by omega)]) (by rw [p_rw_n (by omega), p_rw_n (by omega), p_rw_n (by omega)])
  · exact R.2.t.fr (by rw [p_rw_n (by omega), p_rw_n (by omega), p_rw_n (by omega)]) (by rw [p_rw_n (by omega), p_rw_n (by omega), p_rw_n (by omega)]) (by rw [p_rw_n (by omega), p_rw_n (by omega), p_rw_n (by omega)]) (by rw [p_rw_n (by omega), p_rw_n (by omega), p_rw_n (by omega)])
  · intro h' hh2
    obtain ⟨b1, b2, b3, b4, b5⟩ := R.2.h h' hh2
    rw [p_rw_n (a := 104) (by omega), p_rw_n (a := 104) (by omega), p_rw_s, p_rw_n (a := 105) (by omega), p_rw_s, p_rw_n (a := 12) (by omega), p_rw_n (a := 12) (by omega), p_rw_s, p_rw_n (a := 13) (by omega), p_rw_s, p_rw_s]
    by_cases e : h' = h
    · subst e
      rw [p_us, p_us, p_us, p_us, p_rw_s]
      refine ⟨rfl, rfl, (s_okn (p_us ..) (by omega) hz (by omega)).1, ?_, fun k hk => by rw [hy k hk, hw.1 k hk]⟩
      rcases hs with e | ⟨s, hs, e⟩
      · exact Or.inl e
      · exact Or.inr (s_okn (by rw [p_us]; exact e) (by omega) hs (by omega)).1
    · rw [upd_ne e, upd_ne e, upd_ne e, upd_ne e, p_rw_n (by omega), p_rw_n (by omega), p_rw_n (by omega)]
      refine ⟨b1, b2, s_ok_of (upd_ne e) b3, b4.elim Or.inl (fun q => Or.inr (s_ok_of (upd_ne e) q)), fun k hk => ?_⟩
      rw [hw.2 _ (by omega)]; exact b5 k hk
  · exact R.2.f.fr (fun r h1 h2 => by rw [p_rw_n (by omega), p_rw_n (by omega), p_rw_n (by omega)]) (fun r h1 h2 => by rw [p_rw_n (by omega), p_rw_n (by omega), p_rw_n (by omega)])
  · exact R.2.n.fr (by rw [p_rw_n (by omega), p_rw_n (by omega), p_rw_n (by omega)]) (by rw [p_rw_n (by omega), p_rw_n (by omega), p_rw_n (by omega)]) (by rw [p_rw_n (by omega), p_rw_n (by omega), p_rw_n (by omega)])
theorem p_in_m1' {a : Int32} (h : p_in a.toInt (-1 : Int32).toInt (4 : Int32).toInt = true) : a = -1 ∨ ∃ s, s ≤ 4 ∧ a = nI s := by
  unfold p_in at h
  have h' := of_decide_eq_true h
  by_cases e : a.toInt = -1
  · exact Or.inl (Int32.toInt_inj.mp e)
  · refine Or.inr ⟨a.toInt.toNat, ?_, ?_⟩
    · have : ((4 : Int32)).toInt = 4 := rfl
      have : ((-1 : Int32)).toInt = -1 := rfl
      omega
    · apply Int32.toInt_inj.mp
      have : ((4 : Int32)).toInt = 4 := rfl
      have : ((-1 : Int32)).toInt = -1 := rfl
      rw [nI_toInt (by omega)]
      omega
theorem y_sheet (a b c : Int32) : Me (f11_sheet a b c) (f12_sheet a b c) := Me.mk fun m n L R W => by
  unfold f11_sheet f12_sheet f11_sheet_b18 f12_sheet_b31 f11_sheet_b33 f12_sheet_b33
  rw [k_isOne, t_isOne, p_bi, p_bi, p_if, p_if]
  cases h1 : p_in a.toInt 0 3
  · rw [if_neg p_ff, if_neg p_ff]
    exact ⟨_, _, _, rfl, rfl, R⟩
  rw [if_pos rfl, if_pos rfl, show (-1 : Int64) = (-1 : Int32).toInt64 from rfl, show (4 : Int64) = (4 : Int32).toInt64 from rfl, k_in, t_in32, p_bi, p_bi, p_if, p_if]
  cases h2 : p_in b.toInt (-1 : Int32).toInt (4 : Int32).toInt
  · rw [if_neg p_ff, if_neg p_ff]
    exact ⟨_, _, _, rfl, rfl, R⟩
  rw [if_pos rfl, if_pos rfl]
  obtain ⟨h, rfl, -, hh'⟩ := p_in_ex (lo := 0) (hi := 3) h1 (by omega)
  rcases p_in_m1' h2 with e | ⟨s, hs, e⟩
  · rw [if_pos e, if_pos e, if_pos (show b < 0 by rw [e]; decide), if_pos (show b < 0 by rw [e]; decide)]
    exact k_sheet R W (z := 0) (by omega) (by omega) (Or.inl e) (by rw [if_pos e]; rfl)
  · have hn : ¬ b = -1 := by rw [e]; exact p_m1n (by omega)
    have hn2 : ¬ b < 0 := by rw [e]; exact nI_pos (by omega)
    rw [if_neg hn, if_neg hn, if_neg hn2, if_neg hn2]
    by_cases h40 : c ≤ 40
    · rw [if_pos h40, if_pos h40]
      by_cases h0 : 0 ≤ c
      · rw [if_pos h0, if_pos h0]
        have q1 := Int32.le_iff_toInt_le.mp h40
        have q2 := Int32.le_iff_toInt_le.mp h0
        have q3 : ((40 : Int32)).toInt = 40 := rfl
        have q4 : ((0 : Int32)).toInt = 0 := rfl
        refine k_sheet R W (z := c.toInt.toNat) (by omega) (by omega) (Or.inr ⟨s, hs, e⟩) ?_
        rw [if_neg hn]
        apply Int32.toInt_inj.mp
        rw [nI_toInt (by omega)]
        omega
      · rw [if_neg h0, if_neg h0]
        exact ⟨_, _, _, rfl, rfl, R⟩
    · rw [if_neg h40, if_neg h40]
      exact ⟨_, _, _, rfl, rfl, R⟩

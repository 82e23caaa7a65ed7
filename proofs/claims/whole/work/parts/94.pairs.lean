/-! THE PURE PART: person, remake -/
theorem lu_hm_rw (m : lu_M) (j : Nat) (k u g w : Int32) : lu_hm m j k u g w = p_rw m j (lu_hv k u g w) := rfl
theorem lu_kd_in : ∀ v, 1 ≤ v → v ≤ 5 → lu_kd (nI v) = nI v := by
  intro v h1 h5
  rcases (show v = 1 ∨ v = 2 ∨ v = 3 ∨ v = 4 ∨ v = 5 by omega) with rfl | rfl | rfl | rfl | rfl <;> decide
theorem t_isKind (a : Int32) (n : lu_M) : f12_isKind a n = some (p_b (p_in a.toInt (1 : Int32).toInt (5 : Int32).toInt), n) := by
  unfold f12_isKind
  rw [show (1 : Int64) = (1 : Int32).toInt64 from rfl, show (5 : Int64) = (5 : Int32).toInt64 from rfl, t_in32, p_bi, p_gb]
/-- one person more -/
def s_pers (s : Nat → Int32) (P k g t : Nat) : Nat → Int32 := upd (upd (upd (upd s (8 + 3 * P) (nI k)) (9 + 3 * P) (nI g)) (10 + 3 * P) (nI t)) 0 (nI (P + 1))
theorem WR.pers {m : lu_M} {s : Nat → Int32} {L : List Ru} (W : WR m 1 s L) {k g t : Nat} (hP : s_P s < 6) (k1 : 1 ≤ k) (k5 : k ≤ 5) (g1 : 1 ≤ g) (g9 : g ≤ 9) (t1 : 1 ≤ t) (t9 : t ≤ 9) : WR (p_rw (p_rw m (2 + 1 + s_P s) (lu_hv (nI k) (nI (s_P s)) (nI g) (nI t))) 1 (upd (m 1) 0 (nI (s_P s + 1)))) 1 (s_pers s (s_P s) k g t) L := by
  have hD := W.i.D10
  have u0 : s_pers s (s_P s) k g t 0 = nI (s_P s + 1) := p_us ..
  have u8 : s_pers s (s_P s) k g t (8 + 3 * s_P s) = nI k := by
    unfold s_pers
    rw [upd_ne (by omega), upd_ne (by omega), upd_ne (by omega), p_us]
  have u9 : s_pers s (s_P s) k g t (9 + 3 * s_P s) = nI g := by
    unfold s_pers
    rw [upd_ne (by omega), upd_ne (by omega), p_us]
  have u10 : s_pers s (s_P s) k g t (10 + 3 * s_P s) = nI t := by
    unfold s_pers
    rw [upd_ne (by omega), p_us]
  have hu : ∀ i, i ≠ 0 → (i < 8 + 3 * s_P s ∨ 11 + 3 * s_P s ≤ i) → s_pers s (s_P s) k g t i = s i := fun i h1 h2 => by
    unfold s_pers
    rw [upd_ne h1, upd_ne (by omega), upd_ne (by omega), upd_ne (by omega)]
  generalize s_pers s (s_P s) k g t = u at *
  obtain ⟨o1, o2⟩ := s_okn (lo := 0) (hi := 6) u0 (by omega) (by omega) (by omega)
  have hPu : s_P u = s_P s + 1 := o2
  have hDu : s_D u = s_D s := s_v_of (hu 5 (by omega) (by omega))
  have hF : ∀ a, a ≠ 1 → a ≠ 2 + 1 + s_P s → (p_rw (p_rw m (2 + 1 + s_P s) (lu_hv (nI k) (nI (s_P s)) (nI g) (nI t))) 1 (upd (m 1) 0 (nI (s_P s + 1)))) a = m a := fun a h1 h2 => by
    rw [p_rw_n h1, p_rw_n h2]
  have h1 : (p_rw (p_rw m (2 + 1 + s_P s) (lu_hv (nI k) (nI (s_P s)) (nI g) (nI t))) 1 (upd (m 1) 0 (nI (s_P s + 1)))) 1 = upd (m 1) 0 (nI (s_P s + 1)) := p_rw_s ..
  have hh : (p_rw (p_rw m (2 + 1 + s_P s) (lu_hv (nI k) (nI (s_P s)) (nI g) (nI t))) 1 (upd (m 1) 0 (nI (s_P s + 1)))) (2 + 1 + s_P s) = lu_hv (nI k) (nI (s_P s)) (nI g) (nI t) := by
    rw [p_rw_n (by omega), p_rw_s]
  generalize (p_rw (p_rw m (2 + 1 + s_P s) (lu_hv (nI k) (nI (s_P s)) (nI g) (nI t))) 1 (upd (m 1) 0 (nI (s_P s + 1)))) = m' at *
  have hde : ∀ d, d < s_D s → s_v u (26 + 5 * d) = s_v s (26 + 5 * d) := fun d _ => s_v_of (hu _ (by omega) (by omega))
  have J : SI u := by
    refine ⟨o1, s_ok_of (hu 5 (by omega) (by omega)) W.i.2.1, s_ok_of (hu 2 (by omega) (by omega)) W.i.2.2.1, s_ok_of (hu 3 (by omega) (by omega)) W.i.2.2.2.1, ?_, fun q hq => ?_, fun d hd => ?_, fun d hd h1 => ?_⟩
    · rw [s_v_of (hu 3 (by omega) (by omega)), s_v_of (hu 2 (by omega) (by omega))]; exact W.i.YE
    · rw [hPu] at hq
      by_cases e : q = s_P s
      · subst e
        exact ⟨(s_okn u8 k1 k5 (by omega)).1, (s_okn u9 g1 g9 (by omega)).1, (s_okn u10 t1 t9 (by omega)).1⟩
      · obtain ⟨a1, a2, a3⟩ := W.i.per (p := q) (by omega)
        exact ⟨s_ok_of (hu _ (by omega) (by omega)) a1, s_ok_of (hu _ (by omega) (by omega)) a2, s_ok_of (hu _ (by omega) (by omega)) a3⟩
    · rw [hDu] at hd
      obtain ⟨a1, a2, a3, a4, a5, a6⟩ := W.i.2.2.2.2.2.2.1 d hd
      refine ⟨s_ok_of (hu _ (by omega) (by omega)) a1, ?_, s_ok_of (hu _ (by omega) (by omega)) a3, s_ok_of (hu _ (by omega) (by omega)) a4, ?_, s_ok_of (hu _ (by omega) (by omega)) a6⟩
      · rw [hde d hd, hPu]; omega
      · rw [hu (29 + 5 * d) (by omega) (by omega), s_v_of (hu (29 + 5 * d) (by omega) (by omega))]; exact a5
    · rw [hDu] at hd
      rw [hu _ (by omega) (by omega)] at h1
      rw [hu (29 + 5 * d) (by omega) (by omega), s_v_of (hu (29 + 5 * d) (by omega) (by omega)), hu _ (by omega) (by omega)]
      exact W.i.cl hd h1
  refine ⟨J, W.l, ⟨by rw [hu 1 (by omega) (by omega)]; exact W.r.1, RLs.fr (fun i h1 _ => hu i (by omega) (by omega)) L 0 0 (by have := W.l.1; omega) (by have := W.l.2.1; omega) W.r.2⟩, ?_, W.w.fr2 (fun a h1 h2 => hF a (by omega) (by omega)), ?_, ?_, ?_⟩
  · refine ⟨?_, ?_, ?_, fun r hr => ?_, fun r h6 hr => ?_, fun d hd => ?_, fun r hr i hi => ?_⟩
    · rw [h1, p_us, u0]
    · rw [h1, upd_ne (by omega), hu 5 (by omega) (by omega)]; exact W.b.ded
    · rw [h1, upd_ne (by omega), hu 2 (by omega) (by omega)]; exact W.b.en
    · by_cases e : r = s_P s
      · subst e
        rw [show 1 + 1 + 1 + s_P s = 2 + 1 + s_P s by omega, hh]
        rfl
      · rw [hF _ (by omega) (by omega)]; exact W.b.num hr
    · rw [hPu] at hr
      by_cases e : r = s_P s
      · subst e
        rw [show 1 + 1 + 1 + s_P s = 2 + 1 + s_P s by omega, hh, u8, u9, u10]
        exact ⟨rfl, rfl, rfl⟩
      · rw [hF _ (by omega) (by omega), hu _ (by omega) (by omega), hu _ (by omega) (by omega), hu _ (by omega) (by omega)]
        exact W.b.per h6 (by omega)
    · rw [hDu] at hd
      obtain ⟨-, l1⟩ := W.i.of hd
      have hdue : s_due u d = s_due s d := by
        unfold s_due
        rw [hde d hd, s_v_of (hu (27 + 5 * d) (by omega) (by omega)), s_v_of (s := s) (u := u) (i := 8 + 3 * s_v s (26 + 5 * d)) (hu _ (by omega) (by omega)), s_v_of (s := s) (u := u) (i := 9 + 3 * s_v s (26 + 5 * d)) (hu _ (by omega) (by omega))]
      rw [hF _ (by omega) (by omega), hF _ (by omega) (by omega), hF _ (by omega) (by omega), hF _ (by omega) (by omega), hF _ (by omega) (by omega), hu _ (by omega) (by omega), hu _ (by omega) (by omega), hu _ (by omega) (by omega), hu _ (by omega) (by omega), hdue]
      exact W.b.dd hd
    · rw [hF _ (by omega) (by omega), hDu, hu _ (by omega) (by omega)]; exact W.b.mi hr hi
  · rw [hF (1 + 28) (by omega) (by omega), hDu]
    refine ⟨by rw [hu 3 (by omega) (by omega)]; exact W.c.1, fun i hi => ?_⟩
    rw [hu (30 + 5 * i) (by omega) (by omega)]; exact W.c.2 i hi
  · rw [hF (1 + 28) (by omega) (by omega), hu 4 (by omega) (by omega)]; exact W.y
  · obtain ⟨a1, a2, a3, a4, a5⟩ := W.x
    refine ⟨?_, ?_, s_ok_of (hu 6 (by omega) (by omega)) a3, fun r h6 hr => ?_, fun p q hp hq => ?_⟩
    · rw [h1, upd_ne (by omega), hu 7 (by omega) (by omega)]; exact a1
    · rw [h1, upd_ne (by omega), hu 6 (by omega) (by omega)]; exact a2
    · rw [s_v_of (hu 6 (by omega) (by omega))] at hr
      obtain ⟨b1, b2, b3, b4, b5⟩ := a4 r h6 hr
      refine ⟨fun k hk => ?_, s_ok_of (hu _ (by omega) (by omega)) b2, s_ok_of (hu _ (by omega) (by omega)) b3, s_ok_of (hu _ (by omega) (by omega)) b4, s_ok_of (hu _ (by omega) (by omega)) b5⟩
      rw [hF _ (by omega) (by omega), hu _ (by omega) (by omega)]; exact b1 k hk
    · obtain ⟨b1, b2, b3⟩ := a5 p q hp hq
      rw [hF _ (by omega) (by omega), hu _ (by omega) (by omega), hPu]
      exact ⟨b1, s_ok_of (hu _ (by omega) (by omega)) b2, fun h => b3 (by omega)⟩
theorem y_person (a b c : Int32) : Me (f11_person a b c) (f12_person a b c) := Me.mk fun m n L R W => by
  have hP := W.i.P6
  unfold f11_person f12_person f12_person_b31
  rw [show (1 : Int64) = (1 : Int32).toInt64 from rfl, show (9 : Int64) = (9 : Int32).toInt64 from rfl, k_in, t_isKind, p_bi, p_bi, p_if, p_if]
  cases h1 : p_in a.toInt (1 : Int32).toInt (5 : Int32).toInt
  · rw [if_neg p_ff, if_neg p_ff]
    exact ⟨_, _, _, rfl, rfl, R⟩
  rw [if_pos rfl, if_pos rfl, k_in, t_in32, p_bi, p_bi, p_if, p_if]
  cases h2 : p_in b.toInt (1 : Int32).toInt (9 : Int32).toInt
  · rw [if_neg p_ff, if_neg p_ff]
    exact ⟨_, _, _, rfl, rfl, R⟩
  rw [if_pos rfl, if_pos rfl, k_in, t_in32, p_bi, p_bi, p_if, p_if]
  cases h3 : p_in c.toInt (1 : Int32).toInt (9 : Int32).toInt
  · rw [if_neg p_ff, if_neg p_ff]
    exact ⟨_, _, _, rfl, rfl, R⟩
  rw [if_pos rfl, if_pos rfl]
  obtain ⟨k, rfl, k1, k5⟩ := p_in_ex (lo := 1) (hi := 5) h1 (by omega)
  obtain ⟨g, rfl, g1, g9⟩ := p_in_ex (lo := 1) (hi := 9) h2 (by omega)
  obtain ⟨t, rfl, t1, t9⟩ := p_in_ex (lo := 1) (hi := 9) h3 (by omega)
  have e10 : m 1 0 = nI (s_P (n 1)) := W.b.cnt.trans W.i.eP
  rw [e10, W.i.eP, show (6 : Int32) = nI 6 from rfl, q_lt (by omega) (by omega), q_eq (by omega) (by omega)]
  by_cases h6 : s_P (n 1) < 6
  · rw [if_pos h6, if_neg (show ¬ s_P (n 1) = 6 by omega), p_nm, p_nm, p_gd h6 (by omega), p_nm, nI_clamp (by omega), lu_kd_in k k1 k5, p_next, p_nm, lu_hm_rw, p_st, p_rw_n (a := 1) (by omega)]
    have en : (lu_bi (f12_at (nI (s_P (n 1))) (0 : Int32) n) fun x8 m9 =>
  lu_gd (lu_ib x8 368) <|
  lu_nm (lu_st m9 1 x8.toNatClampNeg (nI k)) fun m10 =>
  lu_bi (f12_at (nI (s_P (n 1))) (1 : Int32) m10) fun x11 m12 =>
  lu_gd (lu_ib x11 368) <|
  lu_nm (lu_st m12 1 x11.toNatClampNeg (nI g)) fun m13 =>
  lu_bi (f12_at (nI (s_P (n 1))) (2 : Int32) m13) fun x14 m15 =>
  lu_gd (lu_ib x14 368) <|
  lu_nm (lu_st m15 1 x14.toNatClampNeg (nI t)) fun m16 =>
  lu_nm (lu_st m16 1 0 ((m16 1 0) + (1 : Int32))) fun m17 =>
  some (nI (s_P (n 1)), m17)) = some (nI (s_P (n 1)), p_rw n 1 (s_pers (n 1) (s_P (n 1)) k g t)) := by
      unfold s_pers
      rw [show (0 : Int32) = nI 0 from rfl, t_at, p_bi, p_gd (by omega) (by omega), p_nm, nI_clamp (by omega), show (1 : Int32) = nI 1 from rfl, t_at, p_bi, p_gd (by omega) (by omega), p_nm, nI_clamp (by omega), show (2 : Int32) = nI 2 from rfl, t_at, p_bi, p_gd (by omega) (by omega), p_nm, nI_clamp (by omega), p_nm, p_st n, p_stc, p_stc, p_rw_s, p_stc, upd_ne (by omega), upd_ne (by omega), upd_ne (by omega), W.i.eP, nI_add]
      rw [show 8 + 3 * s_P (n 1) + 0 = 8 + 3 * s_P (n 1) by omega, show 8 + 3 * s_P (n 1) + 1 = 9 + 3 * s_P (n 1) by omega, show 8 + 3 * s_P (n 1) + 2 = 10 + 3 * s_P (n 1) by omega]
    rw [en]
    refine ⟨_, _, _, rfl, rfl, R.now (((FM.rf m).rw _ _ (by omega)).rw _ _ (by omega)) ((FN.rf n).rw _ _ (by omega)) (L' := L) ?_⟩
    rw [p_rw_s]
    exact W.pers h6 k1 k5 g1 g9 t1 t9
  · rw [if_neg h6, if_pos (show s_P (n 1) = 6 by omega)]
    exact ⟨_, _, _, rfl, rfl, R⟩

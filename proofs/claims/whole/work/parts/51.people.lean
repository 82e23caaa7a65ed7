/-! THE PURE PART: change, deed -/
theorem WX.ag {m m' : lu_M} {w : Nat} {s u : Nat → Int32} (X : WX m w s) (F : ∀ a, a = w ∨ (w + 14 ≤ a ∧ a < w + 28) → m' a = m a) (h : ∀ i, i = 0 ∨ i = 6 ∨ i = 7 ∨ 76 ≤ i → u i = s i) (h10 : m' w 10 = m w 10) : WX m' w u := by
  obtain ⟨a1, a2, a3, a4, a5⟩ := X
  refine ⟨?_, ?_, s_ok_of (h 6 (by omega)) a3, fun r h6 hr => ?_, fun p q hp hq => ?_⟩
  · rw [h10, h 7 (by omega)]; exact a1
  · rw [F w (by omega), h 6 (by omega)]; exact a2
  · rw [s_v_of (h 6 (by omega))] at hr
    obtain ⟨b1, b2, b3, b4, b5⟩ := a4 r h6 hr
    refine ⟨fun k hk => ?_, s_ok_of (h _ (by omega)) b2, s_ok_of (h _ (by omega)) b3, s_ok_of (h _ (by omega)) b4, s_ok_of (h _ (by omega)) b5⟩
    rw [F (w + 14 + 1 + r) (by omega), h _ (by omega)]; exact b1 k hk
  · obtain ⟨b1, b2, b3⟩ := a5 p q hp hq
    rw [F (w + 21 + 1 + p) (by omega), h _ (by omega), show s_P u = s_P s from s_v_of (h 0 (by omega))]
    exact ⟨b1, s_ok_of (h _ (by omega)) b2, b3⟩
theorem WR.pe {m m' : lu_M} {s u : Nat → Int32} {L : List Ru} (W : WR m 1 s L) (J : SI u) (h : ∀ i, (i < 8 ∨ 26 ≤ i) → u i = s i) (B : RB m' 1 u) (F : ∀ a, a = 1 ∨ (15 ≤ a ∧ a < 36) → m' a = m a) : WR m' 1 u L := by
  have hD : s_D u = s_D s := s_v_of (h 5 (by omega))
  refine ⟨J, W.l, ⟨by rw [h 1 (by omega)]; exact W.r.1, RLs.fr (fun i h1 _ => h i (by omega)) L 0 0 (by have := W.l.1; omega) (by have := W.l.2.1; omega) W.r.2⟩, B, W.w.fr2 (fun a h1 h2 => F a (by omega)), ?_, ?_, W.x.ag (fun a ha => F a (by omega)) (fun i hi => h i (by omega)) (by rw [F 1 (by omega)])⟩
  · rw [F (1 + 28) (by omega), hD]
    refine ⟨by rw [h 3 (by omega)]; exact W.c.1, fun i hi => ?_⟩
    rw [h (30 + 5 * i) (by omega)]; exact W.c.2 i hi
  · rw [F (1 + 28) (by omega), h 4 (by omega)]; exact W.y
theorem RB.z {m : lu_M} {w : Nat} {s : Nat → Int32} (B : RB m w s) : RB0 m w s := ⟨B.1, B.2.1, B.2.2.1, B.2.2.2.1, B.2.2.2.2.1, fun d hd => by
  obtain ⟨a, b, c, d', -⟩ := B.dd hd
  exact ⟨a, b, c, d'⟩⟩
theorem y_change (a b c : Int32) : Me (f11_change a b c) (f12_change a b c) := Me.mk fun m n L R W => by
  have hP := W.i.P6
  have hD := W.i.D10
  unfold f11_change f12_change f11_change_b30 f12_change_b45 f12_change_b46
  rw [show (1 : Int64) = (1 : Int32).toInt64 from rfl, show (9 : Int64) = (9 : Int32).toInt64 from rfl, show (2 : Int64) = (2 : Int32).toInt64 from rfl, k_per W, t_per W, p_bi, p_bi, p_if, p_if]
  cases h1 : p_in a.toInt 0 ((s_P (n 1) : Int) - 1)
  · rw [if_neg p_ff, if_neg p_ff]
    exact ⟨_, _, _, rfl, rfl, R⟩
  rw [if_pos rfl, if_pos rfl, k_in, t_in32, p_bi, p_bi, p_if, p_if]
  cases h2 : p_in b.toInt (1 : Int32).toInt (2 : Int32).toInt
  · rw [if_neg p_ff, if_neg p_ff]
    exact ⟨_, _, _, rfl, rfl, R⟩
  rw [if_pos rfl, if_pos rfl, k_in, t_in32, p_bi, p_bi, p_if, p_if]
  cases h3 : p_in c.toInt (1 : Int32).toInt (9 : Int32).toInt
  · rw [if_neg p_ff, if_neg p_ff]
    exact ⟨_, _, _, rfl, rfl, R⟩
  rw [if_pos rfl, if_pos rfl]
  obtain ⟨p, rfl, hp⟩ := p_in_m1 h1 (by omega)
  obtain ⟨w, rfl, lw, uw⟩ := p_in_ex (lo := 1) (hi := 2) h2 (by omega)
  obtain ⟨v, rfl, lv, uv⟩ := p_in_ex (lo := 1) (hi := 9) h3 (by omega)
  obtain ⟨q0, q2, q3⟩ := W.b.per (by omega) hp
  have q2' : m (2 + 1 + p) 2 = n 1 (9 + 3 * p) := q2
  have q3' : m (2 + 1 + p) 3 = n 1 (10 + 3 * p) := q3
  rw [p_gd (by omega) (by omega), t_at, p_bi, t_becomes _ (by omega), p_bi, nI_clamp (by omega), show (2 : Int32) = nI 2 from rfl, q_eq (by omega) (by omega), q2', q3']
  have hu : ∀ k, 8 ≤ k → k < 26 → ∀ i, (i < 8 ∨ 26 ≤ i) → upd (n 1) k (nI v) i = n 1 i := fun k h1 h2 i hi => upd_ne (by omega)
  by_cases hw : w = 2
  · subst hw
    have hk : 8 + 3 * p + 2 = 10 + 3 * p := by omega
    rw [if_pos rfl, p_nm, p_nm, p_st, hk]
    refine ⟨_, _, _, rfl, rfl, R.now ((FM.rf m).rw _ _ (by omega)) ((FN.rf n).rw _ _ (by omega)) (L' := L) ?_⟩
    rw [p_rw_s]
    have hu' := hu (10 + 3 * p) (by omega) (by omega)
    refine W.pe (W.i.per2 (lo := 0) hp (Or.inr (Or.inr rfl)) lv uv) hu' ?_ (fun a ha => p_rw_n (by omega))
    have hDu : s_D (upd (n 1) (10 + 3 * p) (nI v)) = s_D (n 1) := s_v_of (hu' 5 (by omega))
    have hPu : s_P (upd (n 1) (10 + 3 * p) (nI v)) = s_P (n 1) := s_v_of (hu' 0 (by omega))
    refine ⟨?_, ?_, ?_, fun r hr => ?_, fun r h6 hr => ?_, fun d hd => ?_, fun r hr i hi => ?_⟩
    · rw [p_rw_n (by omega), hu' 0 (by omega)]; exact W.b.cnt
    · rw [p_rw_n (by omega), hu' 5 (by omega)]; exact W.b.ded
    · rw [p_rw_n (by omega), hu' 2 (by omega)]; exact W.b.en
    · by_cases e : r = p
      · subst e
        rw [show 1 + 1 + 1 + r = 2 + 1 + r by omega, p_rw_s, upd_ne (by omega)]; exact W.b.num hr
      · rw [p_rw_n (by omega)]; exact W.b.num hr
    · rw [hPu] at hr
      obtain ⟨r0, r2, r3⟩ := W.b.per h6 hr
      by_cases e : r = p
      · subst e
        rw [show 1 + 1 + 1 + r = 2 + 1 + r by omega, p_rw_s, upd_ne (by omega), upd_ne (by omega), p_us, p_us, upd_ne (by omega), upd_ne (by omega)]
        exact ⟨r0, r2, rfl⟩
      · rw [p_rw_n (by omega), upd_ne (by omega), upd_ne (by omega), upd_ne (by omega)]
        exact ⟨r0, r2, r3⟩
    · rw [hDu] at hd
      obtain ⟨-, l1⟩ := W.i.of hd
      have hdue : s_due (upd (n 1) (10 + 3 * p) (nI v)) d = s_due (n 1) d := by
        unfold s_due
        rw [s_v_of (hu' (26 + 5 * d) (by omega)), s_v_of (hu' (27 + 5 * d) (by omega)), s_v_of (s := n 1) (u := upd (n 1) (10 + 3 * p) (nI v)) (i := 8 + 3 * s_v (n 1) (26 + 5 * d)) (upd_ne (by omega)), s_v_of (s := n 1) (u := upd (n 1) (10 + 3 * p) (nI v)) (i := 9 + 3 * s_v (n 1) (26 + 5 * d)) (upd_ne (by omega))]
      rw [p_rw_n (by omega), p_rw_n (by omega), p_rw_n (by omega), p_rw_n (by omega), p_rw_n (by omega), hu' _ (by omega), hu' _ (by omega), hu' _ (by omega), hu' _ (by omega), hdue]
      exact W.b.dd hd
    · rw [p_rw_n (by omega), hDu, hu' _ (by omega)]; exact W.b.mi hr hi
  · have hw1 : w = 1 := by omega
    subst hw1
    have hk : 8 + 3 * p + 1 = 9 + 3 * p := by omega
    have hu' := hu (9 + 3 * p) (by omega) (by omega)
    have J := W.i.per2 (lo := 0) (k := 9 + 3 * p) (v := v) hp (Or.inr (Or.inl rfl)) lv uv
    have hDu : s_D (upd (n 1) (9 + 3 * p) (nI v)) = s_D (n 1) := s_v_of (hu' 5 (by omega))
    have hPu : s_P (upd (n 1) (9 + 3 * p) (nI v)) = s_P (n 1) := s_v_of (hu' 0 (by omega))
    have B0 : RB0 (p_rw m (2 + 1 + p) (upd (m (2 + 1 + p)) 2 (nI v))) 1 (upd (n 1) (9 + 3 * p) (nI v)) := by
      refine ⟨?_, ?_, ?_, fun r hr => ?_, fun r h6 hr => ?_, fun d hd => ?_⟩
      · rw [p_rw_n (by omega), hu' 0 (by omega)]; exact W.b.cnt
      · rw [p_rw_n (by omega), hu' 5 (by omega)]; exact W.b.ded
      · rw [p_rw_n (by omega), hu' 2 (by omega)]; exact W.b.en
      · by_cases e : r = p
        · subst e
          rw [show 1 + 1 + 1 + r = 2 + 1 + r by omega, p_rw_s, upd_ne (by omega)]; exact W.b.num hr
        · rw [p_rw_n (by omega)]; exact W.b.num hr
      · rw [hPu] at hr
        obtain ⟨r0, r2, r3⟩ := W.b.per h6 hr
        by_cases e : r = p
        · subst e
          rw [show 1 + 1 + 1 + r = 2 + 1 + r by omega, p_rw_s, upd_ne (by omega), p_us, p_us, upd_ne (by omega), upd_ne (by omega), upd_ne (by omega)]
          exact ⟨r0, rfl, r3⟩
        · rw [p_rw_n (by omega), upd_ne (by omega), upd_ne (by omega), upd_ne (by omega)]
          exact ⟨r0, r2, r3⟩
      · rw [hDu] at hd
        rw [p_rw_n (by omega), p_rw_n (by omega), p_rw_n (by omega), p_rw_n (by omega), hu' _ (by omega), hu' _ (by omega), hu' _ (by omega), hu' _ (by omega)]
        obtain ⟨a1, a2, a3, a4, -⟩ := W.b.dd hd
        exact ⟨a1, a2, a3, a4⟩
    obtain ⟨x, y, es, B⟩ := k_settle J B0
    rw [if_neg hw, p_nm, p_nm, p_st, es, p_bv, hk]
    refine ⟨_, _, _, rfl, rfl, R.now ((((FM.rf m).rw _ _ (by omega)).rw _ _ (by omega)).rw _ _ (by omega)) ((FN.rf n).rw _ _ (by omega)) (L' := L) ?_⟩
    rw [p_rw_s]
    exact W.pe J hu' B (fun a ha => by rw [p_rw_n (by omega), p_rw_n (by omega), p_rw_n (by omega)])
/-- one deed more -/
def s_deed (s : Nat → Int32) (D p y w : Nat) (nd : Int32) : Nat → Int32 := upd (upd (upd (upd (upd (upd s (26 + 5 * D) (nI p)) (27 + 5 * D) (nI y)) (28 + 5 * D) (nI w)) (29 + 5 * D) nd) (30 + 5 * D) 0) 5 (nI (D + 1))
theorem SI.deed {s : Nat → Int32} (I : SI s) {p y w : Nat} {nd : Int32} (hD : s_D s < 10) (hp : p < s_P s) (hy : y ≤ 15) (hw1 : 1 ≤ w) (hw : w ≤ 9) (hn : nd = -1 ∨ ∃ e, e < s_D s ∧ nd = nI e) : SI (s_deed s (s_D s) p y w nd) ∧ s_D (s_deed s (s_D s) p y w nd) = s_D s + 1 ∧ (∀ i, i ≠ 5 → (i < 26 + 5 * s_D s ∨ 31 + 5 * s_D s ≤ i) → s_deed s (s_D s) p y w nd i = s i) ∧ s_deed s (s_D s) p y w nd (26 + 5 * s_D s) = nI p ∧ s_deed s (s_D s) p y w nd (27 + 5 * s_D s) = nI y ∧ s_deed s (s_D s) p y w nd (28 + 5 * s_D s) = nI w ∧ s_deed s (s_D s) p y w nd (29 + 5 * s_D s) = nd ∧ s_deed s (s_D s) p y w nd (30 + 5 * s_D s) = 0 ∧ s_deed s (s_D s) p y w nd 5 = nI (s_D s + 1) := by
  have hP := I.P6
  have u5 : s_deed s (s_D s) p y w nd 5 = nI (s_D s + 1) := p_us ..
  have hu : ∀ i, i ≠ 5 → (i < 26 + 5 * s_D s ∨ 31 + 5 * s_D s ≤ i) → s_deed s (s_D s) p y w nd i = s i := fun i h1 h2 => by
    unfold s_deed
    rw [upd_ne h1, upd_ne (by omega), upd_ne (by omega), upd_ne (by omega), upd_ne (by omega), upd_ne (by omega)]
  have u26 : s_deed s (s_D s) p y w nd (26 + 5 * s_D s) = nI p := by
    unfold s_deed
    rw [upd_ne (by omega), upd_ne (by omega), upd_ne (by omega), upd_ne (by omega), upd_ne (by omega), p_us]
  have u27 : s_deed s (s_D s) p y w nd (27 + 5 * s_D s) = nI y := by
    unfold s_deed
    rw [upd_ne (by omega), upd_ne (by omega), upd_ne (by omega), upd_ne (by omega), p_us]
  have u28 : s_deed s (s_D s) p y w nd (28 + 5 * s_D s) = nI w := by
    unfold s_deed
    rw [upd_ne (by omega), upd_ne (by omega), upd_ne (by omega), p_us]
  have u29 : s_deed s (s_D s) p y w nd (29 + 5 * s_D s) = nd := by
    unfold s_deed
    rw [upd_ne (by omega), upd_ne (by omega), p_us]
  have u30 : s_deed s (s_D s) p y w nd (30 + 5 * s_D s) = 0 := by
    unfold s_deed
    rw [upd_ne (by omega), p_us]
  generalize s_deed s (s_D s) p y w nd = u at *
  obtain ⟨o1, o2⟩ := s_okn (lo := 0) (hi := 10) u5 (by omega) (by omega) (by omega)
  have hDu : s_D u = s_D s + 1 := o2
  have hPu : s_P u = s_P s := s_v_of (hu 0 (by omega) (by omega))
  refine ⟨⟨s_ok_of (hu 0 (by omega) (by omega)) I.1, o1, s_ok_of (hu 2 (by omega) (by omega)) I.2.2.1, s_ok_of (hu 3 (by omega) (by omega)) I.2.2.2.1, ?_, fun q hq => ?_, fun d hd => ?_, fun d hd h1 => ?_⟩, hDu, hu, u26, u27, u28, u29, u30, u5⟩
  · rw [s_v_of (hu 3 (by omega) (by omega)), s_v_of (hu 2 (by omega) (by omega))]; exact I.YE
  · rw [hPu] at hq
    obtain ⟨a1, a2, a3⟩ := I.per hq
    exact ⟨s_ok_of (hu _ (by omega) (by omega)) a1, s_ok_of (hu _ (by omega) (by omega)) a2, s_ok_of (hu _ (by omega) (by omega)) a3⟩
  · rw [hDu] at hd
    by_cases e : d = s_D s
    · subst e
      obtain ⟨q1, q2⟩ := s_okn (lo := 0) (hi := 5) u26 (by omega) (by omega) (by omega)
      refine ⟨q1, by rw [q2, hPu]; exact hp, (s_okn u27 (by omega) hy (by omega)).1, (s_okn u28 hw1 hw (by omega)).1, ?_, (s_okn (v := 0) u30 (by omega) (by omega) (by omega)).1⟩
      rw [u29]
      rcases hn with h | ⟨e, h1, h2⟩
      · exact Or.inl h
      · refine Or.inr ?_
        have := (s_okn (lo := 0) (hi := 10) (u29.trans h2) (by omega) (by omega) (by omega)).2
        rw [this]
        exact ⟨h2, h1⟩
    · obtain ⟨a1, a2, a3, a4, a5, a6⟩ := I.2.2.2.2.2.2.1 d (by omega)
      refine ⟨s_ok_of (hu _ (by omega) (by omega)) a1, ?_, s_ok_of (hu _ (by omega) (by omega)) a3, s_ok_of (hu _ (by omega) (by omega)) a4, ?_, s_ok_of (hu _ (by omega) (by omega)) a6⟩
      · rw [s_v_of (hu (26 + 5 * d) (by omega) (by omega)), hPu]; exact a2
      · rw [hu (29 + 5 * d) (by omega) (by omega), s_v_of (hu (29 + 5 * d) (by omega) (by omega))]; exact a5
  · rw [hDu] at hd
    by_cases e : d = s_D s
    · subst e
      rw [u30] at h1
      exact absurd h1 (by decide)
    · rw [hu _ (by omega) (by omega)] at h1
      rw [hu (29 + 5 * d) (by omega) (by omega), s_v_of (hu (29 + 5 * d) (by omega) (by omega))]
      rcases I.nd (d := d) (by omega) with q | ⟨q, q2⟩
      · exact Or.inl q
      · rw [hu _ (by omega) (by omega)]
        exact I.cl (by omega) h1
theorem k_deed {m n : lu_M} {L : List Ru} (R : Rel m n) (W : WR m 1 (n 1) L) {p y w : Nat} {nd : Int32} (hp : p < s_P (n 1)) (hy : y ≤ 15) (hw1 : 1 ≤ w) (hw : w ≤ 9) (hn : nd = -1 ∨ ∃ e, e < s_D (n 1) ∧ nd = nI e) : ∃ a m' n', f11_deed_b53 (nI p) (nI y) (nI w) nd m = some (a, m') ∧ f12_deed_b49 (nI p) (nI y) (nI w) nd n = some (a, n') ∧ Rel m' n' := by
  have hD := W.i.D10
  have hE := W.i.E16
  have hYE := W.i.YE
  have h29 : m 29 0 = n 1 3 := W.c.1
  have h12 : m 1 2 = nI (s_D (n 1)) := W.b.ded.trans W.i.eD
  unfold f11_deed_b53 f12_deed_b49
  rw [h12, h29, W.i.eY, W.i.eD, show (10 : Int32) = nI 10 from rfl, q_lt (by omega) (by omega), q_eq (by omega) (by omega), q_le (by omega) (by omega), q_le (by omega) (by omega)]
  by_cases h10 : s_D (n 1) < 10
  · rw [if_pos h10, if_neg (show ¬ s_D (n 1) = 10 by omega)]
    by_cases hyy : s_v (n 1) 3 ≤ y
    · rw [if_pos hyy, if_pos hyy]
      obtain ⟨J, hDu, hu, u26, u27, u28, u29, u30, u5⟩ := W.i.deed h10 hp hy hw1 hw hn
      have en : (lu_nm (nI (s_D (n 1))) fun x7 =>
  lu_bi (f12_spot x7 (0 : Int32) n) fun x8 m9 =>
  lu_gd (lu_ib x8 368) <|
  lu_nm (lu_st m9 1 x8.toNatClampNeg (nI p)) fun m10 =>
  lu_bi (f12_spot x7 (1 : Int32) m10) fun x11 m12 =>
  lu_gd (lu_ib x11 368) <|
  lu_nm (lu_st m12 1 x11.toNatClampNeg (nI y)) fun m13 =>
  lu_bi (f12_spot x7 (2 : Int32) m13) fun x14 m15 =>
  lu_gd (lu_ib x14 368) <|
  lu_nm (lu_st m15 1 x14.toNatClampNeg (nI w)) fun m16 =>
  lu_bi (f12_spot x7 (3 : Int32) m16) fun x17 m18 =>
  lu_gd (lu_ib x17 368) <|
  lu_nm (lu_st m18 1 x17.toNatClampNeg nd) fun m19 =>
  lu_bi (f12_spot x7 (4 : Int32) m19) fun x20 m21 =>
  lu_gd (lu_ib x20 368) <|
  lu_nm (lu_st m21 1 x20.toNatClampNeg (0 : Int32)) fun m22 =>
  lu_nm (lu_st m22 1 5 ((m22 1 5) + (1 : Int32))) fun m23 =>
  some (x7, m23)) = some (nI (s_D (n 1)), p_rw n 1 (s_deed (n 1) (s_D (n 1)) p y w nd)) := by
        unfold s_deed
        rw [p_nm, show (0 : Int32) = nI 0 from rfl, t_spot, p_bi, p_gd (by omega) (by omega), p_nm, nI_clamp (by omega), show (1 : Int32) = nI 1 from rfl, t_spot, p_bi, p_gd (by omega) (by omega), p_nm, nI_clamp (by omega), show (2 : Int32) = nI 2 from rfl, t_spot, p_bi, p_gd (by omega) (by omega), p_nm, nI_clamp (by omega), show (3 : Int32) = nI 3 from rfl, t_spot, p_bi, p_gd (by omega) (by omega), p_nm, nI_clamp (by omega), show (4 : Int32) = nI 4 from rfl, t_spot, p_bi, p_gd (by omega) (by omega), p_nm, nI_clamp (by omega), p_nm, p_st n, p_stc, p_stc, p_stc, p_stc, p_rw_s, p_stc, upd_ne (by omega), upd_ne (by omega), upd_ne (by omega), upd_ne (by omega), upd_ne (by omega), W.i.eD, nI_add]
        rw [show 26 + 5 * s_D (n 1) + 0 = 26 + 5 * s_D (n 1) by omega, show 26 + 5 * s_D (n 1) + 1 = 27 + 5 * s_D (n 1) by omega, show 26 + 5 * s_D (n 1) + 2 = 28 + 5 * s_D (n 1) by omega, show 26 + 5 * s_D (n 1) + 3 = 29 + 5 * s_D (n 1) by omega, show 26 + 5 * s_D (n 1) + 4 = 30 + 5 * s_D (n 1) by omega]
      generalize s_deed (n 1) (s_D (n 1)) p y w nd = u at *
      have hPu : s_P u = s_P (n 1) := s_v_of (hu 0 (by omega) (by omega))
      have B0 : RB0 (p_rw (p_rw (p_rw (p_rw (p_rw m 9 (upd (m 9) (s_D (n 1)) (nI p))) 10 (upd (m 10) (s_D (n 1)) (nI y))) 11 (upd (m 11) (s_D (n 1)) (nI w))) 12 (upd (m 12) (s_D (n 1)) nd)) 1 (upd (m 1) 2 (nI (s_D (n 1) + 1)))) 1 u := by
        refine ⟨?_, ?_, ?_, fun r hr => ?_, fun r h6 hr => ?_, fun d hd => ?_⟩
        · rw [p_rw_s, upd_ne (by omega), hu 0 (by omega) (by omega)]; exact W.b.cnt
        · rw [p_rw_s, p_us, u5]
        · rw [p_rw_s, upd_ne (by omega), hu 2 (by omega) (by omega)]; exact W.b.en
        · rw [p_rw_n (by omega), p_rw_n (by omega), p_rw_n (by omega), p_rw_n (by omega), p_rw_n (by omega)]; exact W.b.num hr
        · rw [hPu] at hr
          rw [p_rw_n (by omega), p_rw_n (by omega), p_rw_n (by omega), p_rw_n (by omega), p_rw_n (by omega), hu _ (by omega) (by omega), hu _ (by omega) (by omega), hu _ (by omega) (by omega)]
          exact W.b.per h6 hr
        · rw [hDu] at hd
          rw [p_rw_n (a := 1 + 8) (by omega), p_rw_n (a := 1 + 8) (by omega), p_rw_n (a := 1 + 8) (by omega), p_rw_n (a := 1 + 8) (by omega), p_rw_s, p_rw_n (a := 1 + 9) (by omega), p_rw_n (a := 1 + 9) (by omega), p_rw_n (a := 1 + 9) (by omega), p_rw_s, p_rw_n (a := 1 + 10) (by omega), p_rw_n (a := 1 + 10) (by omega), p_rw_s, p_rw_n (a := 1 + 11) (by omega), p_rw_s]
          by_cases e : d = s_D (n 1)
          · rw [e, p_us, p_us, p_us, p_us, u26, u27, u28, u29]
            exact ⟨rfl, rfl, rfl, rfl⟩
          · rw [upd_ne e, upd_ne e, upd_ne e, upd_ne e, hu _ (by omega) (by omega), hu _ (by omega) (by omega), hu _ (by omega) (by omega), hu _ (by omega) (by omega)]
            obtain ⟨a1, a2, a3, a4, -⟩ := W.b.dd (d := d) (by omega)
            exact ⟨a1, a2, a3, a4⟩
      obtain ⟨x, yy, es, B⟩ := k_settle J B0
      have em : (lu_nm (nI (s_D (n 1))) fun x7 =>
  lu_gd (lu_ib x7 10) <|
  lu_nm (lu_st m 9 x7.toNatClampNeg (nI p)) fun m8 =>
  lu_gd (lu_ib x7 10) <|
  lu_nm (lu_st m8 10 x7.toNatClampNeg (nI y)) fun m9 =>
  lu_gd (lu_ib x7 10) <|
  lu_nm (lu_st m9 11 x7.toNatClampNeg (nI w)) fun m10 =>
  lu_gd (lu_ib x7 10) <|
  lu_nm (lu_st m10 12 x7.toNatClampNeg nd) fun m11 =>
  lu_nm (lu_st m11 1 2 (x7 + (1 : Int32))) fun m12 =>
  lu_bv (f10_settle 1 m12) fun m13 =>
  some (x7, m13)) = some (nI (s_D (n 1)), p_rw (p_rw (p_rw (p_rw (p_rw (p_rw (p_rw m 9 (upd (m 9) (s_D (n 1)) (nI p))) 10 (upd (m 10) (s_D (n 1)) (nI y))) 11 (upd (m 11) (s_D (n 1)) (nI w))) 12 (upd (m 12) (s_D (n 1)) nd)) 1 (upd (m 1) 2 (nI (s_D (n 1) + 1)))) (1 + 12) x) (1 + 13) yy) := by
        have c10 : (10 : Nat) < 2 ^ 31 := by omega
        have q : s_D (n 1) < 2 ^ 31 := by omega
        simp only [p_nm, p_gd h10 c10, nI_clamp q, p_next]
        rw [p_st m, p_st (p_rw m 9 _), p_st (p_rw (p_rw m 9 _) 10 _), p_st (p_rw (p_rw (p_rw m 9 _) 10 _) 11 _), p_st (p_rw (p_rw (p_rw (p_rw m 9 _) 10 _) 11 _) 12 _)]
        rw [p_rw_n (a := 10) (by omega), p_rw_n (a := 11) (by omega), p_rw_n (a := 11) (by omega), p_rw_n (a := 12) (by omega), p_rw_n (a := 12) (by omega), p_rw_n (a := 12) (by omega), p_rw_n (a := 1) (by omega), p_rw_n (a := 1) (by omega), p_rw_n (a := 1) (by omega), p_rw_n (a := 1) (by omega), es, p_bv]
      rw [em, en]
      refine ⟨_, _, _, rfl, rfl, R.now ((((((((FM.rf m).rw _ _ (by omega)).rw _ _ (by omega)).rw _ _ (by omega)).rw _ _ (by omega)).rw _ _ (by omega)).rw _ _ (by omega)).rw _ _ (by omega)) ((FN.rf n).rw _ _ (by omega)) (L' := L) ?_⟩
      rw [p_rw_s]
      have hF : ∀ a, (15 ≤ a ∧ a < 36) → (p_rw (p_rw (p_rw (p_rw (p_rw (p_rw (p_rw m 9 (upd (m 9) (s_D (n 1)) (nI p))) 10 (upd (m 10) (s_D (n 1)) (nI y))) 11 (upd (m 11) (s_D (n 1)) (nI w))) 12 (upd (m 12) (s_D (n 1)) nd)) 1 (upd (m 1) 2 (nI (s_D (n 1) + 1)))) (1 + 12) x) (1 + 13) yy) a = m a := fun a ha => by
        rw [p_rw_n (by omega), p_rw_n (by omega), p_rw_n (by omega), p_rw_n (by omega), p_rw_n (by omega), p_rw_n (by omega), p_rw_n (by omega)]
      have hF1 : (p_rw (p_rw (p_rw (p_rw (p_rw (p_rw (p_rw m 9 (upd (m 9) (s_D (n 1)) (nI p))) 10 (upd (m 10) (s_D (n 1)) (nI y))) 11 (upd (m 11) (s_D (n 1)) (nI w))) 12 (upd (m 12) (s_D (n 1)) nd)) 1 (upd (m 1) 2 (nI (s_D (n 1) + 1)))) (1 + 12) x) (1 + 13) yy) 1 = upd (m 1) 2 (nI (s_D (n 1) + 1)) := by
        rw [p_rw_n (by omega), p_rw_n (by omega), p_rw_s]
      generalize (p_rw (p_rw (p_rw (p_rw (p_rw (p_rw (p_rw m 9 (upd (m 9) (s_D (n 1)) (nI p))) 10 (upd (m 10) (s_D (n 1)) (nI y))) 11 (upd (m 11) (s_D (n 1)) (nI w))) 12 (upd (m 12) (s_D (n 1)) nd)) 1 (upd (m 1) 2 (nI (s_D (n 1) + 1)))) (1 + 12) x) (1 + 13) yy) = m' at *
      refine ⟨J, W.l, ⟨by rw [hu 1 (by omega) (by omega)]; exact W.r.1, RLs.fr (fun i h1 _ => hu i (by omega) (by omega)) L 0 0 (by have := W.l.1; omega) (by have := W.l.2.1; omega) W.r.2⟩, B, W.w.fr2 (fun a h1 h2 => hF a (by omega)), ?_, ?_, ?_⟩
      · rw [hF (1 + 28) (by omega), hDu]
        refine ⟨by rw [hu 3 (by omega) (by omega)]; exact W.c.1, fun i hi => ?_⟩
        obtain ⟨c1, c2, c3, c4⟩ := W.c.2 i hi
        rw [show m (1 + 28) = m 29 from rfl] at *
        by_cases e : i = s_D (n 1)
        · rw [e] at c1 c2 c3 c4 ⊢
          rw [decide_eq_false (p := s_D (n 1) < s_D (n 1)) (by omega), Bool.false_and] at c1 c2 c3 c4
          rw [c1, c2, c3, c4, u30]
          exact ⟨by rw [decide_eq_false (p := (0 : Int32) = 1) (by decide), Bool.and_false], by rw [decide_eq_false (p := (0 : Int32) = 2) (by decide), Bool.and_false], by rw [decide_eq_false (p := (0 : Int32) = 3) (by decide), Bool.and_false], by rw [decide_eq_false (p := (0 : Int32) = 4) (by decide), Bool.and_false]⟩
        · rw [hu _ (by omega) (by omega), c1, c2, c3, c4]
          by_cases hl : i < s_D (n 1)
          · rw [decide_eq_true hl, decide_eq_true (p := i < s_D (n 1) + 1) (by omega)]
            exact ⟨rfl, rfl, rfl, rfl⟩
          · rw [decide_eq_false hl, decide_eq_false (p := i < s_D (n 1) + 1) (by omega)]
            exact ⟨rfl, rfl, rfl, rfl⟩
      · rw [hF (1 + 28) (by omega), hu 4 (by omega) (by omega)]; exact W.y
      · obtain ⟨a1, a2, a3, a4, a5⟩ := W.x
        refine ⟨?_, ?_, s_ok_of (hu _ (by omega) (by omega)) a3, fun r h6 hr => ?_, fun p' q' hp' hq' => ?_⟩
        · rw [hF1, upd_ne (by omega), hu 7 (by omega) (by omega)]; exact a1
        · rw [hF1, upd_ne (by omega), hu 6 (by omega) (by omega)]; exact a2
        · rw [s_v_of (hu 6 (by omega) (by omega))] at hr
          obtain ⟨b1, b2, b3, b4, b5⟩ := a4 r h6 hr
          refine ⟨fun k hk => ?_, s_ok_of (hu _ (by omega) (by omega)) b2, s_ok_of (hu _ (by omega) (by omega)) b3, s_ok_of (hu _ (by omega) (by omega)) b4, s_ok_of (hu _ (by omega) (by omega)) b5⟩
          rw [hF _ (by omega), hu _ (by omega) (by omega)]; exact b1 k hk
        · obtain ⟨b1, b2, b3⟩ := a5 p' q' hp' hq'
          rw [hF _ (by omega), hu _ (by omega) (by omega), hPu]
          exact ⟨b1, s_ok_of (hu _ (by omega) (by omega)) b2, b3⟩
    · rw [if_neg hyy, if_neg hyy]
      exact ⟨_, _, _, rfl, rfl, R⟩
  · rw [if_neg h10, if_pos (show s_D (n 1) = 10 by omega)]
    exact ⟨_, _, _, rfl, rfl, R⟩
theorem y_deed (a b c d : Int32) : Me (f11_deed a b c d) (f12_deed a b c d) := Me.mk fun m n L R W => by
  have hP := W.i.P6
  have hD := W.i.D10
  unfold f11_deed f12_deed f11_deed_b31 f12_deed_b47
  rw [show (0 : Int64) = (0 : Int32).toInt64 from rfl, show (1 : Int64) = (1 : Int32).toInt64 from rfl, show (9 : Int64) = (9 : Int32).toInt64 from rfl, show (15 : Int64) = (15 : Int32).toInt64 from rfl, k_per W, t_per W, p_bi, p_bi, p_if, p_if]
  cases h1 : p_in a.toInt 0 ((s_P (n 1) : Int) - 1)
  · rw [if_neg p_ff, if_neg p_ff]
    exact ⟨_, _, _, rfl, rfl, R⟩
  rw [if_pos rfl, if_pos rfl, k_in, t_in32, p_bi, p_bi, p_if, p_if]
  cases h2 : p_in b.toInt (0 : Int32).toInt (15 : Int32).toInt
  · rw [if_neg p_ff, if_neg p_ff]
    exact ⟨_, _, _, rfl, rfl, R⟩
  rw [if_pos rfl, if_pos rfl, k_in, t_in32, p_bi, p_bi, p_if, p_if]
  cases h3 : p_in c.toInt (1 : Int32).toInt (9 : Int32).toInt
  · rw [if_neg p_ff, if_neg p_ff]
    exact ⟨_, _, _, rfl, rfl, R⟩
  rw [if_pos rfl, if_pos rfl]
  obtain ⟨p, rfl, hp⟩ := p_in_m1 h1 (by omega)
  obtain ⟨y, rfl, ly, uy⟩ := p_in_ex (lo := 0) (hi := 15) h2 (by omega)
  obtain ⟨w, rfl, lw, uw⟩ := p_in_ex (lo := 1) (hi := 9) h3 (by omega)
  by_cases h4 : d = -1
  · rw [if_pos h4, if_pos h4]
    exact k_deed R W hp uy lw uw (Or.inl h4)
  · rw [if_neg h4, if_neg h4, k_dee W, t_dee W, p_bi, p_bi, p_if, p_if]
    cases h5 : p_in d.toInt 0 ((s_D (n 1) : Int) - 1)
    · rw [if_neg p_ff, if_neg p_ff]
      exact ⟨_, _, _, rfl, rfl, R⟩
    · rw [if_pos rfl, if_pos rfl]
      obtain ⟨e, he1, he2⟩ := p_in_m1 h5 (by omega)
      exact k_deed R W hp uy lw uw (Or.inr ⟨e, he2, he1⟩)

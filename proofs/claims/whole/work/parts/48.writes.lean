/-! THE PURE PART: calls that write to now: ends, anew, seed, forget, owe, report -/
theorem p_st2 {m : lu_M} {a b : Nat} (h : a ≠ b) (x y : Nat → Int32) (k : Nat) (v : Int32) : lu_st (p_rw (p_rw m a x) b y) a k v = p_rw (p_rw m a (upd x k v)) b y := by
  rw [p_st, p_rw_n h, p_rw_s, p_rw_sw (fun q => h q.symm), p_rw_rw]
/-- now is another: all the rest stays -/
theorem Rel.now {m m' n n' : lu_M} {L' : List Ru} (R : Rel m n) (F : FM m m') (G : FN n n') (W : WR m' 1 (n' 1) L') : Rel m' n' := ⟨⟨L', W⟩, R.2.fr F G⟩
theorem FM.st {m m' : lu_M} (F : FM m m') (r k : Nat) (v : Int32) (h : (1 ≤ r ∧ r < 37) ∨ (72 ≤ r ∧ r < 83) ∨ (85 ≤ r ∧ r ≤ 90) ∨ r = 98) : FM m (lu_st m' r k v) := by
  rw [p_st]; exact F.rw r _ h
theorem t_becomes (n : lu_M) {k : Nat} (h : k < 368) (v : Int32) : f12_becomes (nI k) v n = some (n 1 k, p_rw n 1 (upd (n 1) k v)) := by
  unfold f12_becomes
  rw [p_gd h (by omega), nI_clamp (by omega), p_nm, p_gd h (by omega), p_nm, p_st]
/-- s is another in places that people, deeds, years don't stand in; the World's rows alike -/
theorem WR.ag {m m' : lu_M} {s u : Nat → Int32} {L L' : List Ru} (W : WR m 1 s L) (h : SA s u) (h4 : u 4 = s 4) (hb : RB m' 1 s) (hc : m' 29 = m 29) (hl : LV L') (hr : RS' u L') (hw : RW m' 1 L') (hx : WX m' 1 u) : WR m' 1 u L' :=
  ⟨W.i.ag h, hl, hr, hb.ag W.i h, hw, by rw [show m' (1 + 28) = m 29 from hc]; exact W.c.ag W.i h, by rw [show m' (1 + 28) = m 29 from hc, h4]; exact W.y, hx⟩
/-- only World's own numbers are others -/
theorem RB.own {m : lu_M} {s : Nat → Int32} (B : RB m 1 s) (x : Nat → Int32) (h0 : x 0 = m 1 0) (h2 : x 2 = m 1 2) (h9 : x 9 = m 1 9) : RB (p_rw m 1 x) 1 s := by
  refine ⟨?_, ?_, ?_, fun p hp => ?_, fun p h6 hp => ?_, fun d hd => ?_, fun p hp i hi => ?_⟩
  · rw [p_rw_s, h0]; exact B.cnt
  · rw [p_rw_s, h2]; exact B.ded
  · rw [p_rw_s, h9]; exact B.en
  · rw [p_rw_n (by omega)]; exact B.num hp
  · rw [p_rw_n (by omega)]; exact B.per h6 hp
  · rw [p_rw_n (by omega), p_rw_n (by omega), p_rw_n (by omega), p_rw_n (by omega), p_rw_n (by omega)]; exact B.dd hd
  · rw [p_rw_n (by omega)]; exact B.mi hp hi
theorem RW.own {m : lu_M} {w : Nat} {L : List Ru} (R : RW m w L) (r : Nat) (x : Nat → Int32) (h : r < w + 29 ∨ w + 35 ≤ r) : RW (p_rw m r x) w L :=
  ⟨R.1, by rw [p_rw_n (by omega)]; exact R.2.1, RLc.fr (fun i h1 h2 => p_rw_n (by omega)) L 0 0 R.2.2.1, R.2.2.2.1, R.2.2.2.2.1, by rw [p_rw_n (by omega)]; exact R.2.2.2.2.2⟩
theorem RS'.up {s : Nat → Int32} {L : List Ru} (h : RS' s L) (hl : LV L) {k : Nat} (v : Int32) (h1 : k ≠ 1) (h2 : k < 136) : RS' (upd s k v) L :=
  ⟨by rw [upd_ne (by omega)]; exact h.1, RLs.fr (fun i h3 _ => upd_ne (by omega)) L 0 0 (by have := hl.1; omega) (by have := hl.2.1; omega) h.2⟩
theorem SA.up {s u : Nat → Int32} (h : SA s u) {k : Nat} (v : Int32) (h1 : k = 1 ∨ k = 4 ∨ k = 6 ∨ k = 7 ∨ 76 ≤ k) : SA s (upd u k v) := fun i hi => by
  rw [upd_ne (by omega)]; exact h i hi
theorem SA.rf (s : Nat → Int32) : SA s s := fun _ _ => rfl
/-- z -/
theorem WR.z {m : lu_M} {s : Nat → Int32} {L : List Ru} (W : WR m 1 s L) (v : Int32) : WR (p_rw m 1 (upd (m 1) 10 v)) 1 (upd s 7 v) L := by
  refine W.ag ((SA.rf s).up v (by omega)) (upd_ne (by omega)) (W.b.own _ (upd_ne (by omega)) (upd_ne (by omega)) (upd_ne (by omega))) (p_rw_n (by omega)) W.l (W.r.up W.l v (by omega) (by omega)) (W.w.own 1 _ (by omega)) ?_
  obtain ⟨a1, a2, a3, a4, a5⟩ := W.x
  refine ⟨?_, ?_, s_ok_of (upd_ne (by omega)) a3, fun r h6 hr => ?_, fun p q hp hq => ?_⟩
  · rw [p_rw_s, p_us, p_us]
  · rw [p_rw_s, upd_ne (by omega), upd_ne (by omega)]; exact a2
  · rw [s_v_of (u := upd s 7 v) (s := s) (upd_ne (by omega))] at hr
    obtain ⟨b1, b2, b3, b4, b5⟩ := a4 r h6 hr
    refine ⟨fun k hk => ?_, s_ok_of (upd_ne (by omega)) b2, s_ok_of (upd_ne (by omega)) b3, s_ok_of (upd_ne (by omega)) b4, s_ok_of (upd_ne (by omega)) b5⟩
    rw [p_rw_n (by omega), upd_ne (by omega)]; exact b1 k hk
  · obtain ⟨b1, b2, b3⟩ := a5 p q hp hq
    rw [p_rw_n (by omega), upd_ne (by omega), s_v_of (u := upd s 7 v) (s := s) (i := 0) (upd_ne (by omega)) |> (show s_P (upd s 7 v) = s_P s from ·)]
    exact ⟨b1, s_ok_of (upd_ne (by omega)) b2, b3⟩
theorem y_seed (a : Int32) : Me (f11_seed a) (f12_seed a) := Me.mk fun m n L R W => by
  unfold f11_seed f12_seed
  rw [p_nm, p_nm, show (7 : Int32) = nI 7 from rfl, t_becomes n (by omega), p_bi, p_st, W.x.1]
  refine ⟨_, _, _, rfl, rfl, R.now ((FM.rf m).rw _ _ (by omega)) ((FN.rf n).rw _ _ (by omega)) (L' := L) ?_⟩
  rw [p_rw_s]
  exact W.z a
def s_z (z : Int32) : Int32 := z * 1103515245 + 12345
def s_act (z : Int32) (P : Nat) : Int32 := ((z.toUInt32 >>> ((16 : Int32).toUInt32 &&& Int32.toUInt32 31)).toInt32) - ((z.toUInt32 >>> ((16 : Int32).toUInt32 &&& Int32.toUInt32 31)).toInt32) / (nI P + 1) * (nI P + 1)
theorem k_drawn {m : lu_M} {s : Nat → Int32} {L : List Ru} (W : WR m 1 s L) : f10_drawn 1 m = some (s_act (s_z (s 7)) (s_P s), p_rw m 1 (upd (m 1) 10 (s_z (s 7)))) := by
  have hP := W.i.P6
  have hz : m 1 10 = s 7 := W.x.1
  have h0 : m 1 0 = nI (s_P s) := W.b.cnt.trans W.i.eP
  unfold f10_drawn
  rw [p_nm, p_st, p_rw_s, p_us, upd_ne (by omega), h0, hz]
  have hne : ¬ (nI (s_P s) + 1 = 0) := by rw [p_next]; exact p_ne0 (by omega) (by omega)
  rw [decide_eq_true hne]
  rfl
theorem t_byLot {n : lu_M} {s : Nat → Int32} (hs : n 1 = s) (I : SI s) {L : List Ru} (hL : LV L) (hr : RS' s L) : ∃ t, f12_byLot n = some (s_w L (s_act (s_z (s 7)) (s_P s)) (upd s 7 (s_z (s 7))), p_rw (p_rw n 1 (s_goes L (s_act (s_z (s 7)) (s_P s)) (upd s 7 (s_z (s 7))))) 4 t) := by
  have hP := I.P6
  have hsa : SA s (upd s 7 (s_z (s 7))) := (SA.rf s).up _ (by omega)
  obtain ⟨t, e⟩ := t_goes (n := p_rw n 1 (upd s 7 (s_z (s 7)))) (p_rw_s ..) (I.ag hsa) hL (hr.up hL _ (by omega) (by omega)) (s_act (s_z (s 7)) (s_P s)) (n 4)
  refine ⟨t, ?_⟩
  have hne : ¬ (nI (s_P s) + 1 = 0) := by rw [p_next]; exact p_ne0 (by omega) (by omega)
  unfold f12_byLot
  rw [p_nm, p_st, p_rw_s, p_us, upd_ne (by omega), hs, I.eP]
  have h4 : p_rw (p_rw n 1 (upd s 7 (s_z (s 7)))) 4 (n 4) = p_rw n 1 (upd s 7 (s_z (s 7))) := by
    rw [p_rw_sw (by omega), p_rw_id]
  rw [h4, p_rw_rw] at e
  rw [decide_eq_true hne, p_gt]
  unfold s_act s_z at *
  rw [e, p_bi]
theorem s_goes_4 {s : Nat → Int32} (I : SI s) (L : List Ru) (a : Int32) : s_goes L a s 4 = s 4 + s_w L a s := by
  obtain ⟨d1, d2, d3⟩ := s_do_I I
  have h := (d2.tr (s_pp_I d3 L a).2.1).2
  unfold s_goes
  rw [upd_ne (by omega), p_us, h]
theorem y_lot : Me f11_lot f12_lot := Me.mk fun m n L R W => by
  unfold f11_lot f12_lot f12_lot_b16
  rw [k_isOver W.i W.b.en W.c.1, t_isOver W.i, p_bi, p_bi, p_if, p_if]
  cases h : s_ov (n 1)
  · rw [if_neg (by decide), if_neg (by decide)]
    have W2 := W.z (s_z (n 1 7))
    have hv : s_v (upd (n 1) 7 (s_z (n 1 7))) 3 < s_v (upd (n 1) 7 (s_z (n 1 7))) 2 := by
      rw [s_v_of (u := upd (n 1) 7 (s_z (n 1 7))) (s := n 1) (i := 3) (upd_ne (by omega)), s_v_of (u := upd (n 1) 7 (s_z (n 1 7))) (s := n 1) (i := 2) (upd_ne (by omega))]
      exact s_ov_f h
    obtain ⟨E, J⟩ := s_goes_I W2.i L (s_act (s_z (n 1 7)) (s_P (n 1))) hv
    have hid : ∀ m : lu_M, p_rw (p_rw m (1 + 35) (m (1 + 35))) 29 (m 29) = m := fun m => by rw [p_rw_id, p_rw_id]
    obtain ⟨f, x, e1, C, h5⟩ := k_pass W2.i W2.b LN29 W2.w (s_act (s_z (n 1 7)) (s_P (n 1))) ((p_rw m 1 (upd (m 1) 10 (s_z (n 1 7)))) (1 + 35)) W2.c
    have e1' := e1
    rw [show (p_rw m 1 (upd (m 1) 10 (s_z (n 1 7)))) (1 + 28) = (p_rw m 1 (upd (m 1) 10 (s_z (n 1 7)))) 29 from rfl, hid] at e1'
    obtain ⟨t, e2⟩ := t_byLot (n := n) rfl W.i W.l W.r
    rw [k_drawn W, p_bi, e1', e2, p_bi, p_bi]
    refine ⟨_, _, _, rfl, rfl, R.now ((((FM.rf m).rw _ _ (by omega)).rw _ _ (by omega)).rw _ _ (by omega)) (((FN.rf n).rw _ _ (by omega)).rw _ _ (by omega)) (L' := L) ?_⟩
    rw [p_rw_n (by omega), p_rw_s]
    refine W2.go ((((FR.rf 1 _).fa f)).ln LN29 x) E J (by rw [p_rw_s]; exact C) ?_
    rw [p_rw_s, h5, W2.y, s_goes_4 W2.i]
  · rw [if_pos rfl, if_pos rfl]
    exact ⟨_, _, _, rfl, rfl, R⟩
theorem y_ends (a : Int32) : Me (f11_ends a) (f12_ends a) := Me.mk fun m n L R W => by
  have hE := W.i.E16
  have hYE := W.i.YE
  unfold f11_ends f12_ends f12_ends_b37
  rw [k_in, show (1 : Int64) = (1 : Int32).toInt64 from rfl, show (16 : Int64) = (16 : Int32).toInt64 from rfl, t_in32, p_bi, p_bi, p_if, p_if]
  cases h : p_in a.toInt (1 : Int32).toInt (16 : Int32).toInt
  · rw [if_neg (by decide), if_neg (by decide)]
    exact ⟨_, _, _, rfl, rfl, R⟩
  rw [if_pos rfl, if_pos rfl]
  obtain ⟨v, rfl, hv1, hv⟩ := p_in_ex (lo := 1) (hi := 16) h (by omega)
  have h3 : m 29 0 = n 1 3 := W.c.1
  have h2 : m 1 9 = n 1 2 := W.b.en
  rw [h3, h2, W.i.eY, q_le (by omega) (by omega), q_le (by omega) (by omega)]
  by_cases hy : s_v (n 1) 3 ≤ v
  · rw [if_pos hy, if_pos hy, p_nm, p_nm, show (2 : Int32) = nI 2 from rfl, t_becomes n (by omega), p_bi, p_st]
    refine ⟨_, _, _, rfl, rfl, R.now ((FM.rf m).rw _ _ (by omega)) ((FN.rf n).rw _ _ (by omega)) (L' := L) ?_⟩
    rw [p_rw_s]
    obtain ⟨o1, o2⟩ := s_okn (s := upd (n 1) 2 (nI v)) (i := 2) (lo := 1) (hi := 16) (p_us ..) hv1 hv (by omega)
    have hk : ∀ i, i ≠ 2 → upd (n 1) 2 (nI v) i = n 1 i := fun i hi => upd_ne hi
    have hD : s_D (upd (n 1) 2 (nI v)) = s_D (n 1) := s_v_of (hk 5 (by omega))
    have hP : s_P (upd (n 1) 2 (nI v)) = s_P (n 1) := s_v_of (hk 0 (by omega))
    have hdue : ∀ d, s_due (upd (n 1) 2 (nI v)) d = s_due (n 1) d := fun d => by
      unfold s_due
      rw [s_v_of (hk (26 + 5 * d) (by omega)), s_v_of (hk (27 + 5 * d) (by omega)), s_v_of (hk (8 + 3 * s_v (n 1) (26 + 5 * d)) (by omega)), s_v_of (hk (9 + 3 * s_v (n 1) (26 + 5 * d)) (by omega))]
    refine ⟨?_, W.l, W.r.up W.l _ (by omega) (by omega), ?_, W.w.own 1 _ (by omega), ?_, ?_, ?_⟩
    · refine ⟨s_ok_of (hk 0 (by omega)) W.i.1, s_ok_of (hk 5 (by omega)) W.i.2.1, o1, s_ok_of (hk 3 (by omega)) W.i.2.2.2.1, ?_, fun p hp => ?_, fun d hd => ?_, fun d hd h1 => ?_⟩
      · rw [o2, s_v_of (hk 3 (by omega))]; exact hy
      · rw [hP] at hp
        obtain ⟨a1, a2, a3⟩ := W.i.per hp
        exact ⟨s_ok_of (hk _ (by omega)) a1, s_ok_of (hk _ (by omega)) a2, s_ok_of (hk _ (by omega)) a3⟩
      · rw [hD] at hd
        obtain ⟨a1, a2, a3, a4, a5, a6⟩ := W.i.2.2.2.2.2.2.1 d hd
        refine ⟨s_ok_of (hk _ (by omega)) a1, ?_, s_ok_of (hk _ (by omega)) a3, s_ok_of (hk _ (by omega)) a4, ?_, s_ok_of (hk _ (by omega)) a6⟩
        · rw [s_v_of (hk (26 + 5 * d) (by omega)), hP]; exact a2
        · rw [hk (29 + 5 * d) (by omega), s_v_of (hk (29 + 5 * d) (by omega))]; exact a5
      · rw [hD] at hd
        rw [hk _ (by omega)] at h1
        rw [hk (29 + 5 * d) (by omega), s_v_of (hk (29 + 5 * d) (by omega)), hk _ (by omega)]
        exact W.i.cl hd h1
    · refine ⟨?_, ?_, ?_, fun p hp => ?_, fun p h6 hp => ?_, fun d hd => ?_, fun p hp i hi => ?_⟩
      · rw [p_rw_s, hk 0 (by omega), upd_ne (by omega)]; exact W.b.cnt
      · rw [p_rw_s, hk 5 (by omega), upd_ne (by omega)]; exact W.b.ded
      · rw [p_rw_s, p_us, p_us]
      · rw [p_rw_n (by omega)]; exact W.b.num hp
      · rw [hP] at hp
        rw [p_rw_n (by omega), hk _ (by omega), hk _ (by omega), hk _ (by omega)]; exact W.b.per h6 hp
      · rw [hD] at hd
        rw [p_rw_n (by omega), p_rw_n (by omega), p_rw_n (by omega), p_rw_n (by omega), p_rw_n (by omega), hk _ (by omega), hk _ (by omega), hk _ (by omega), hk _ (by omega), hdue]; exact W.b.dd hd
      · rw [p_rw_n (by omega), hD, hk _ (by omega)]; exact W.b.mi hp hi
    · rw [p_rw_n (by omega), hD]
      refine ⟨by rw [hk 3 (by omega)]; exact W.c.1, fun i hi => ?_⟩
      rw [hk _ (by omega)]; exact W.c.2 i hi
    · rw [p_rw_n (by omega), hk 4 (by omega)]; exact W.y
    · obtain ⟨a1, a2, a3, a4, a5⟩ := W.x
      refine ⟨?_, ?_, s_ok_of (hk _ (by omega)) a3, fun r h6 hr => ?_, fun p q hp hq => ?_⟩
      · rw [p_rw_s, upd_ne (by omega), hk _ (by omega)]; exact a1
      · rw [p_rw_s, upd_ne (by omega), hk _ (by omega)]; exact a2
      · rw [s_v_of (hk 6 (by omega))] at hr
        obtain ⟨b1, b2, b3, b4, b5⟩ := a4 r h6 hr
        refine ⟨fun k hk' => ?_, s_ok_of (hk _ (by omega)) b2, s_ok_of (hk _ (by omega)) b3, s_ok_of (hk _ (by omega)) b4, s_ok_of (hk _ (by omega)) b5⟩
        rw [p_rw_n (by omega), hk _ (by omega)]; exact b1 k hk'
      · obtain ⟨b1, b2, b3⟩ := a5 p q hp hq
        rw [p_rw_n (by omega), hk _ (by omega), hP]
        exact ⟨b1, s_ok_of (hk _ (by omega)) b2, b3⟩
  · rw [if_neg hy, if_neg hy]
    exact ⟨_, _, _, rfl, rfl, R⟩

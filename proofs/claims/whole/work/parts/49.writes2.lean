/-! THE PURE PART: forget, report, owe, anew -/
theorem RB.fr2 {m m' : lu_M} {w : Nat} {s : Nat → Int32} (B : RB m w s) (F : ∀ a, w ≤ a → a < w + 14 → m' a = m a) : RB m' w s := by
  refine ⟨?_, ?_, ?_, fun p hp => ?_, fun p h6 hp => ?_, fun d hd => ?_, fun p hp => ?_⟩
  · rw [F w (by omega) (by omega)]; exact B.cnt
  · rw [F w (by omega) (by omega)]; exact B.ded
  · rw [F w (by omega) (by omega)]; exact B.en
  · rw [F (w + 1 + 1 + p) (by omega) (by omega)]; exact B.num hp
  · rw [F (w + 1 + 1 + p) (by omega) (by omega)]; exact B.per h6 hp
  · rw [F (w + 8) (by omega) (by omega), F (w + 9) (by omega) (by omega), F (w + 10) (by omega) (by omega), F (w + 11) (by omega) (by omega), F (w + 12) (by omega) (by omega)]
    exact B.dd hd
  · rw [F (w + 13) (by omega) (by omega)]
    exact fun i hi => B.mi hp hi
theorem RW.fr2 {m m' : lu_M} {w : Nat} {L : List Ru} (R : RW m w L) (F : ∀ a, w + 29 ≤ a → a < w + 35 → m' a = m a) : RW m' w L :=
  ⟨R.1, by rw [F (w + 29) (by omega) (by omega)]; exact R.2.1, RLc.fr (fun i h1 h2 => F (w + 29 + i) (by omega) (by omega)) L 0 0 R.2.2.1, R.2.2.2.1, R.2.2.2.2.1, by rw [F (w + 29) (by omega) (by omega)]; exact R.2.2.2.2.2⟩
theorem s_P_up {s : Nat → Int32} {k : Nat} (v : Int32) (h : k ≠ 0) : s_P (upd s k v) = s_P s := s_v_of (upd_ne (fun q => h q.symm))
theorem s_D_up {s : Nat → Int32} {k : Nat} (v : Int32) (h : k ≠ 5) : s_D (upd s k v) = s_D s := s_v_of (upd_ne (fun q => h q.symm))
theorem y_forget : Me f11_forget f12_forget := Me.mk fun m n L R W => by
  unfold f11_forget f12_forget
  rw [p_nm, p_nm, show (6 : Int32) = nI 6 from rfl, t_becomes n (by omega), p_bi, p_st, W.x.2.1]
  refine ⟨_, _, _, rfl, rfl, R.now ((FM.rf m).rw _ _ (by omega)) ((FN.rf n).rw _ _ (by omega)) (L' := L) ?_⟩
  rw [p_rw_s]
  refine W.ag ((SA.rf _).up _ (by omega)) (upd_ne (by omega)) (W.b.own _ (upd_ne (by omega)) (upd_ne (by omega)) (upd_ne (by omega))) (p_rw_n (by omega)) W.l (W.r.up W.l _ (by omega) (by omega)) (W.w.own 1 _ (by omega)) ?_
  obtain ⟨a1, a2, a3, a4, a5⟩ := W.x
  obtain ⟨o1, o2⟩ := s_okn (s := upd (n 1) 6 0) (i := 6) (lo := 0) (hi := 6) (v := 0) (p_us ..) (by omega) (by omega) (by omega)
  refine ⟨?_, ?_, o1, fun r h6 hr => ?_, fun p q hp hq => ?_⟩
  · rw [p_rw_s, upd_ne (by omega), upd_ne (by omega)]; exact a1
  · rw [p_rw_s, p_us, p_us]
  · rw [o2] at hr; exact absurd hr (by omega)
  · obtain ⟨b1, b2, b3⟩ := a5 p q hp hq
    rw [p_rw_n (by omega), upd_ne (by omega), s_P_up _ (by omega)]
    exact ⟨b1, s_ok_of (upd_ne (by omega)) b2, b3⟩
theorem p_in_false {a : Int32} {lo hi : Int32} (h : p_in a.toInt lo.toInt hi.toInt = false) (k : Int32) (hk : p_in k.toInt lo.toInt hi.toInt = true) : ¬ a = k := fun q => by rw [q, hk] at h; cases h
theorem y_report (a b c d : Int32) : Me (f11_report a b c d) (f12_report a b c d) := Me.mk fun m n L R W => by
  unfold f11_report f12_report f11_report_b20 f11_report_b42 f12_report_b47
  rw [show (0 : Int64) = (0 : Int32).toInt64 from rfl, show (1 : Int64) = (1 : Int32).toInt64 from rfl, show (9 : Int64) = (9 : Int32).toInt64 from rfl, show (15 : Int64) = (15 : Int32).toInt64 from rfl, show (31 : Int64) = (31 : Int32).toInt64 from rfl]
  rw [k_in, t_in32, p_bi, p_bi, p_if, p_if]
  cases h1 : p_in a.toInt (1 : Int32).toInt (9 : Int32).toInt
  · rw [if_neg p_ff, if_neg p_ff]
    exact ⟨_, _, _, rfl, rfl, R⟩
  rw [if_pos rfl, if_pos rfl, k_in, t_in32, p_bi, p_bi, p_if, p_if]
  cases h2 : p_in b.toInt (0 : Int32).toInt (15 : Int32).toInt
  · rw [if_neg p_ff, if_neg p_ff]
    exact ⟨_, _, _, rfl, rfl, R⟩
  rw [if_pos rfl, if_pos rfl, k_in, t_in32, p_bi, p_bi, p_if, p_if]
  cases h3 : p_in c.toInt (0 : Int32).toInt (31 : Int32).toInt
  · rw [if_neg p_ff, if_neg p_ff]
    exact ⟨_, _, _, rfl, rfl, R⟩
  rw [if_pos rfl, if_pos rfl, k_in, t_in32, p_bi, p_bi, p_if, p_if]
  cases h4 : p_in d.toInt (0 : Int32).toInt (1 : Int32).toInt
  · rw [if_neg p_ff, if_neg p_ff]
    exact ⟨_, _, _, rfl, rfl, R⟩
  rw [if_pos rfl, if_pos rfl]
  obtain ⟨va, rfl, la, ua⟩ := p_in_ex (lo := 1) (hi := 9) h1 (by omega)
  obtain ⟨vb, rfl, lb, ub⟩ := p_in_ex (lo := 0) (hi := 15) h2 (by omega)
  obtain ⟨vc, rfl, lc, uc⟩ := p_in_ex (lo := 0) (hi := 31) h3 (by omega)
  obtain ⟨vd, rfl, ld, ud⟩ := p_in_ex (lo := 0) (hi := 1) h4 (by omega)
  have h11 : m 1 11 = n 1 6 := W.x.2.1
  obtain ⟨e6, -, u6⟩ := W.x.2.2.1
  rw [h11, e6, show (6 : Int32) = nI 6 from rfl, q_lt (by omega) (by omega), q_eq (by omega) (by omega)]
  generalize hr0 : s_v (n 1) 6 = r at *
  by_cases hr : r < 6
  · rw [if_pos hr, if_neg (by omega), show (112 : Int32) = nI 112 from rfl, show (4 : Int32) = nI 4 from rfl, pk_mul, nI_add, p_nm, p_nm]
    have c6 : (6 : Nat) < 2 ^ 31 := by omega
    have c368 : (368 : Nat) < 2 ^ 31 := by omega
    have g0 : 112 + 4 * r < 368 := by omega
    have g1 : 112 + 4 * r + 1 < 368 := by omega
    have g2 : 112 + 4 * r + 2 < 368 := by omega
    have g3 : 112 + 4 * r + 3 < 368 := by omega
    have q : r < 2 ^ 31 := by omega
    have q0 : 112 + 4 * r < 2 ^ 31 := by omega
    have q1 : 112 + 4 * r + 1 < 2 ^ 31 := by omega
    have q2 : 112 + 4 * r + 2 < 2 ^ 31 := by omega
    have q3 : 112 + 4 * r + 3 < 2 ^ 31 := by omega
    have n6 : ∀ k : Nat, (6 : Nat) ≠ 112 + 4 * r + k := fun k => by omega
    have n6' : (6 : Nat) ≠ 112 + 4 * r := by omega
    simp only [show (1 : Int32) = nI 1 from rfl, show (2 : Int32) = nI 2 from rfl, show (3 : Int32) = nI 3 from rfl, nI_add, p_nm, p_gd hr c6, p_gd g0 c368, p_gd g1 c368, p_gd g2 c368, p_gd g3 c368, nI_clamp q, nI_clamp q0, nI_clamp q1, nI_clamp q2, nI_clamp q3]
    have hm : lu_st (lu_st (lu_st (lu_st (lu_st m (15 + 1 + r) 0 (nI va)) (15 + 1 + r) 1 (nI vb)) (15 + 1 + r) 2 (nI vc)) (15 + 1 + r) 3 (nI vd)) 1 11 (nI (r + 1)) = p_rw (p_rw m (15 + 1 + r) (upd (upd (upd (upd (m (15 + 1 + r)) 0 (nI va)) 1 (nI vb)) 2 (nI vc)) 3 (nI vd))) 1 (upd (m 1) 11 (nI (r + 1))) := by
      rw [p_st m, p_stc, p_stc, p_stc, p_st, p_rw_n (by omega)]
    have hn : lu_st (lu_st (lu_st (lu_st n 1 (112 + 4 * r) (nI va)) 1 (112 + 4 * r + 1) (nI vb)) 1 (112 + 4 * r + 2) (nI vc)) 1 (112 + 4 * r + 3) (nI vd) = p_rw n 1 (upd (upd (upd (upd (n 1) (112 + 4 * r) (nI va)) (112 + 4 * r + 1) (nI vb)) (112 + 4 * r + 2) (nI vc)) (112 + 4 * r + 3) (nI vd)) := by
      rw [p_st n, p_stc, p_stc, p_stc]
    rw [hm, hn, p_rw_s, upd_ne (n6 3), upd_ne (n6 2), upd_ne (n6 1), upd_ne n6', e6, nI_add, p_stc, p_rw_s, p_us, pk_sub (by omega), show r + 1 - 1 = r by omega]
    refine ⟨_, _, _, rfl, rfl, R.now (((FM.rf m).rw _ _ (by omega)).rw _ _ (by omega)) ((FN.rf n).rw _ _ (by omega)) (L' := L) ?_⟩
    rw [p_rw_s]
    have hu : ∀ i, i ≠ 6 → (i < 112 + 4 * r ∨ 116 + 4 * r ≤ i) → upd (upd (upd (upd (upd (n 1) (112 + 4 * r) (nI va)) (112 + 4 * r + 1) (nI vb)) (112 + 4 * r + 2) (nI vc)) (112 + 4 * r + 3) (nI vd)) 6 (nI (r + 1)) i = n 1 i := fun i h1 h2 => by
      rw [upd_ne h1, upd_ne (by omega), upd_ne (by omega), upd_ne (by omega), upd_ne (by omega)]
    have u0 : upd (upd (upd (upd (upd (n 1) (112 + 4 * r) (nI va)) (112 + 4 * r + 1) (nI vb)) (112 + 4 * r + 2) (nI vc)) (112 + 4 * r + 3) (nI vd)) 6 (nI (r + 1)) (112 + 4 * r) = nI va := by
      rw [upd_ne (by omega), upd_ne (by omega), upd_ne (by omega), upd_ne (by omega), p_us]
    have u1 : upd (upd (upd (upd (upd (n 1) (112 + 4 * r) (nI va)) (112 + 4 * r + 1) (nI vb)) (112 + 4 * r + 2) (nI vc)) (112 + 4 * r + 3) (nI vd)) 6 (nI (r + 1)) (112 + 4 * r + 1) = nI vb := by
      rw [upd_ne (by omega), upd_ne (by omega), upd_ne (by omega), p_us]
    have u2 : upd (upd (upd (upd (upd (n 1) (112 + 4 * r) (nI va)) (112 + 4 * r + 1) (nI vb)) (112 + 4 * r + 2) (nI vc)) (112 + 4 * r + 3) (nI vd)) 6 (nI (r + 1)) (112 + 4 * r + 2) = nI vc := by
      rw [upd_ne (by omega), upd_ne (by omega), p_us]
    have u3 : upd (upd (upd (upd (upd (n 1) (112 + 4 * r) (nI va)) (112 + 4 * r + 1) (nI vb)) (112 + 4 * r + 2) (nI vc)) (112 + 4 * r + 3) (nI vd)) 6 (nI (r + 1)) (112 + 4 * r + 3) = nI vd := by
      rw [upd_ne (by omega), p_us]
    have u6 : upd (upd (upd (upd (upd (n 1) (112 + 4 * r) (nI va)) (112 + 4 * r + 1) (nI vb)) (112 + 4 * r + 2) (nI vc)) (112 + 4 * r + 3) (nI vd)) 6 (nI (r + 1)) 6 = nI (r + 1) := p_us ..
    generalize upd (upd (upd (upd (upd (n 1) (112 + 4 * r) (nI va)) (112 + 4 * r + 1) (nI vb)) (112 + 4 * r + 2) (nI vc)) (112 + 4 * r + 3) (nI vd)) 6 (nI (r + 1)) = u at *
    have hA : SA (n 1) u := fun i hi => hu i (by omega) (by omega)
    obtain ⟨o1, o2⟩ := s_okn (lo := 0) (hi := 6) u6 (by omega) (by omega) (by omega)
    refine W.ag hA (hu 4 (by omega) (by omega)) ((W.b.fr2 (fun a h1 h2 => p_rw_n (by omega))).own _ ?_ ?_ ?_) (by rw [p_rw_n (by omega), p_rw_n (by omega)]) W.l ?_ (W.w.fr2 (fun a h1 h2 => by rw [p_rw_n (by omega), p_rw_n (by omega)])) ?_
    · rw [p_rw_n (by omega), upd_ne (by omega)]
    · rw [p_rw_n (by omega), upd_ne (by omega)]
    · rw [p_rw_n (by omega), upd_ne (by omega)]
    · exact ⟨by rw [hu 1 (by omega) (by omega)]; exact W.r.1, RLs.fr (fun i h1 _ => hu i (by omega) (by omega)) L 0 0 (by have := W.l.1; omega) (by have := W.l.2.1; omega) W.r.2⟩
    · obtain ⟨a1, a2, a3, a4, a5⟩ := W.x
      refine ⟨?_, ?_, o1, fun r' h6 hr' => ?_, fun p q hp hq => ?_⟩
      · rw [p_rw_s, upd_ne (by omega), hu 7 (by omega) (by omega)]; exact a1
      · rw [p_rw_s, p_us, u6]
      · rw [o2] at hr'
        rw [p_rw_n (by omega)]
        by_cases he : r' = r
        · subst he
          rw [show 1 + 14 + 1 + r' = 15 + 1 + r' by omega, p_rw_s]
          refine ⟨fun k hk => ?_, (s_okn u0 la ua (by omega)).1, (s_okn (i := 113 + 4 * r') (by rw [← u1]; congr 1; omega) lb ub (by omega)).1, (s_okn (i := 114 + 4 * r') (by rw [← u2]; congr 1; omega) lc uc (by omega)).1, (s_okn (i := 115 + 4 * r') (by rw [← u3]; congr 1; omega) ld ud (by omega)).1⟩
          have hk' : k = 0 ∨ k = 1 ∨ k = 2 ∨ k = 3 := by omega
          rcases hk' with e | e | e | e <;> subst e
          · exact u0.symm
          · exact u1.symm
          · exact u2.symm
          · exact u3.symm
        · rw [p_rw_n (by omega)]
          obtain ⟨b1, b2, b3, b4, b5⟩ := a4 r' h6 (by omega)
          refine ⟨fun k hk => ?_, s_ok_of (hu _ (by omega) (by omega)) b2, s_ok_of (hu _ (by omega) (by omega)) b3, s_ok_of (hu _ (by omega) (by omega)) b4, s_ok_of (hu _ (by omega) (by omega)) b5⟩
          rw [hu _ (by omega) (by omega)]; exact b1 k hk
      · obtain ⟨b1, b2, b3⟩ := a5 p q hp hq
        rw [p_rw_n (by omega), p_rw_n (by omega), hu _ (by omega) (by omega), hA.P]
        exact ⟨b1, s_ok_of (hu _ (by omega) (by omega)) b2, b3⟩
  · rw [if_neg hr, if_pos (by omega)]
    exact ⟨_, _, _, rfl, rfl, R⟩
theorem y_owe (a b c : Int32) : Me (f11_owe a b c) (f12_owe a b c) := Me.mk fun m n L R W => by
  have hP := W.i.P6
  unfold f11_owe f12_owe f11_owe_b37 f12_owe_b38 f12_owe_b39
  rw [k_per W, p_bi, k_per W, p_bi, t_areTwo W, p_bi, p_if, p_if, p_if]
  cases h : p_in a.toInt 0 ((s_P (n 1) : Int) - 1)
  · rw [if_neg p_ff, Bool.false_and, if_neg p_ff]
    exact ⟨_, _, _, rfl, rfl, R⟩
  rw [if_pos rfl, Bool.true_and]
  cases h2 : p_in b.toInt 0 ((s_P (n 1) : Int) - 1)
  · rw [if_neg p_ff, Bool.false_and, if_neg p_ff]
    exact ⟨_, _, _, rfl, rfl, R⟩
  rw [if_pos rfl, Bool.true_and]
  by_cases h3 : a = b
  · rw [if_pos h3, decide_eq_true h3, if_neg (by decide)]
    exact ⟨_, _, _, rfl, rfl, R⟩
  rw [if_neg h3, decide_eq_false h3, if_pos (by decide), show (0 : Int64) = (0 : Int32).toInt64 from rfl, show (99 : Int64) = (99 : Int32).toInt64 from rfl, k_in, t_in32, p_bi, p_bi, p_if, p_if]
  cases h4 : p_in c.toInt (0 : Int32).toInt (99 : Int32).toInt
  · rw [if_neg p_ff, if_neg p_ff]
    exact ⟨_, _, _, rfl, rfl, R⟩
  obtain ⟨p, rfl, hp⟩ := p_in_m1 h (by omega)
  obtain ⟨q, rfl, hq⟩ := p_in_m1 h2 (by omega)
  obtain ⟨v, rfl, lv, uv⟩ := p_in_ex (lo := 0) (hi := 99) h4 (by omega)
  have hpq : p ≠ q := fun e => h3 (by rw [e])
  rw [if_pos rfl, if_pos rfl, p_lo, t_becomes n (by omega), p_bi, p_gd (by omega) (by omega), p_gd (by omega) (by omega), p_nm, p_gd (by omega) (by omega), p_gd (by omega) (by omega), p_nm, nI_clamp (by omega), nI_clamp (by omega), p_st, (W.x.lo (p := p) (q := q) (by omega) (by omega)).1]
  refine ⟨_, _, _, rfl, rfl, R.now ((FM.rf m).rw _ _ (by omega)) ((FN.rf n).rw _ _ (by omega)) (L' := L) ?_⟩
  rw [p_rw_s]
  refine W.ag ((SA.rf _).up _ (by omega)) (upd_ne (by omega)) (W.b.fr2 (fun a h1 h2 => p_rw_n (by omega))) (p_rw_n (by omega)) W.l (W.r.up W.l _ (by omega) (by omega)) (W.w.fr2 (fun a h1 h2 => p_rw_n (by omega))) ?_
  obtain ⟨a1, a2, a3, a4, a5⟩ := W.x
  refine ⟨?_, ?_, s_ok_of (upd_ne (by omega)) a3, fun r h6 hr => ?_, fun p' q' hp' hq' => ?_⟩
  · rw [p_rw_n (by omega), upd_ne (by omega)]; exact a1
  · rw [p_rw_n (by omega), upd_ne (by omega)]; exact a2
  · rw [s_v_of (u := upd (n 1) (76 + 6 * p + q) (nI v)) (s := n 1) (upd_ne (by omega))] at hr
    obtain ⟨b1, b2, b3, b4, b5⟩ := a4 r h6 hr
    refine ⟨fun k hk => ?_, s_ok_of (upd_ne (by omega)) b2, s_ok_of (upd_ne (by omega)) b3, s_ok_of (upd_ne (by omega)) b4, s_ok_of (upd_ne (by omega)) b5⟩
    rw [p_rw_n (by omega), upd_ne (by omega)]; exact b1 k hk
  · obtain ⟨b1, b2, b3⟩ := a5 p' q' hp' hq'
    rw [s_P_up _ (by omega)]
    by_cases hpp : p' = p
    · subst hpp
      rw [show 1 + 21 + 1 + p' = 22 + 1 + p' by omega, p_rw_s]
      by_cases hqq : q' = q
      · subst hqq
        refine ⟨by rw [p_us, p_us], (s_okn (p_us ..) lv uv (by omega)).1, fun h => ?_⟩
        exact absurd h (by omega)
      · rw [upd_ne hqq, upd_ne (by omega)]
        exact ⟨b1, s_ok_of (upd_ne (by omega)) b2, b3⟩
    · rw [p_rw_n (by omega), upd_ne (by omega)]
      exact ⟨b1, s_ok_of (upd_ne (by omega)) b2, b3⟩
theorem t_anew {n : lu_M} {s : Nat → Int32} (hs : n 1 = s) (I : SI s) : ∃ u, f12_anew n = some (s 3, p_rw n 1 (upd (upd u 4 0) 3 0)) ∧ SE s u ∧ SK s u ∧ ∀ d, d < s_D s → u (30 + 5 * d) = 0 := by
  have hD := I.D10
  obtain ⟨u, e, h⟩ := p_loopR (σ := Unit) (fun q i (u : Nat → Int32) => f12_anew_b2 f12_anew_b29 q i (p_rw n 1 u)) (fun u => f12_anew_b29 (p_rw n 1 u)) (s_D s) (fun _ u => u) (fun i u _ => SE s u ∧ SK s u ∧ ∀ d, d < i → u (30 + 5 * d) = 0)
    (fun q u _ h => by
      show f12_anew_b2B _ _ _ _ = _
      unfold f12_anew_b2B
      rw [p_rw_s, h.1.lo (by omega) (by omega) (by omega), I.eD, if_pos (Int32.le_refl _)])
    (fun q i u _ hi h => by
      refine ⟨upd u (30 + 5 * i) 0, ?_, h.1.st (by omega) 0, h.2.1.st i 0, fun d hd => ?_⟩
      · show f12_anew_b2B _ _ _ _ = _
        unfold f12_anew_b2B
        rw [p_rw_s, h.1.lo (by omega) (by omega) (by omega), I.eD, q_le (by omega) (by omega), if_neg (by omega), show (4 : Int32) = nI 4 from rfl, t_spot, p_bi, p_gd (by omega) (by omega), nI_clamp (by omega), p_nm, p_stw, p_next, show 26 + 5 * i + 4 = 30 + 5 * i by omega]
      · by_cases hdi : d = i
        · subst hdi; exact p_us ..
        · rw [upd_ne (by omega)]; exact h.2.2 d (by omega)) (s_D s) 0 lu_fu s () (by omega) (p_fu (by omega)) ⟨SE.rf s, SK.rf s, fun d hd => absurd hd (by omega)⟩
  refine ⟨u, ?_, h.1, h.2.1, h.2.2⟩
  have hn : p_rw n 1 s = n := by rw [← hs, p_rw_id]
  rw [hn] at e
  unfold f12_anew
  refine e.trans ?_
  unfold f12_anew_b29
  rw [p_nm, p_stw, show (3 : Int32) = nI 3 from rfl, t_becomes _ (by omega), p_bi, p_rw_s, upd_ne (by omega), h.2.1.1, p_rw_rw]
theorem y_anew : Me f11_anew f12_anew := Me.mk fun m n L R W => by
  have hD := W.i.D10
  obtain ⟨u, e, hE, hK, h0⟩ := t_anew (n := n) rfl W.i
  have hcl : f1_clear 29 m = some (p_rw m 29 (upd (upd (upd (upd (upd (upd (m 29) 0 0) 1 0) 2 0) 3 0) 4 0) 5 0)) := by
    unfold f1_clear
    rw [p_nm, p_st m, p_nm, p_stc, p_nm, p_stc, p_nm, p_stc, p_nm, p_stc, p_nm, p_stc]
  unfold f11_anew
  rw [p_nm, hcl, p_bv, e, show m 29 0 = n 1 3 from W.c.1]
  refine ⟨_, _, _, rfl, rfl, R.now ((FM.rf m).rw _ _ (by omega)) ((FN.rf n).rw _ _ (by omega)) (L' := L) ?_⟩
  rw [p_rw_s]
  have E2 : SE (n 1) (upd (upd u 4 0) 3 0) := fun i a b c => by rw [upd_ne a, upd_ne b]; exact hE i a b c
  have hst : ∀ d, upd (upd u 4 0) 3 0 (30 + 5 * d) = u (30 + 5 * d) := fun d => by rw [upd_ne (by omega), upd_ne (by omega)]
  obtain ⟨o1, o2⟩ := s_okn (s := upd (upd u 4 0) 3 0) (i := 3) (lo := 0) (hi := 16) (v := 0) (p_us ..) (by omega) (by omega) (by omega)
  have J : SI (upd (upd u 4 0) 3 0) := W.i.mk2 E2 o1 (by rw [o2]; omega) (fun d hd => by
    refine (s_okn (v := 0) ?_ (by omega) (by omega) (by omega)).1
    rw [hst, h0 d hd]; rfl) (fun d hd h1 => by
    rw [hst, h0 d hd] at h1
    exact absurd h1 (by decide))
  refine W.go ((FR.rf 1 m).ln LN29 _) E2 J ?_ ?_
  · rw [p_rw_s]
    refine ⟨rfl, fun i hi => ?_⟩
    rw [hst]
    have hb : ∀ k : Nat, k ≠ 0 → k ≤ 4 → (decide (i < s_D (n 1)) && decide (u (30 + 5 * i) = nI k)) = false := fun k hk hk2 => by
      by_cases hi : i < s_D (n 1)
      · rw [h0 i hi, decide_eq_false (p := (0 : Int32) = nI k) (fun q => hk ((nI_eq (a := 0) (by omega) (by omega)).mp q).symm), Bool.and_false]
      · rw [decide_eq_false hi, Bool.false_and]
    exact ⟨(b_0 i).trans (hb 1 (by omega) (by omega)).symm, (b_0 i).trans (hb 2 (by omega) (by omega)).symm, (b_0 i).trans (hb 3 (by omega) (by omega)).symm, (b_0 i).trans (hb 4 (by omega) (by omega)).symm⟩
  · rw [p_rw_s, p_us, upd_ne (by omega), p_us]

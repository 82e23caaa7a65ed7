/-! THE PURE PART: act, to its end -/
theorem Rel.n0 {m n : lu_M} (R : Rel m n) {k : Nat} (hk : k ≠ 3 ∧ k ≠ 21 ∧ k ≠ 23 ∧ k ≠ 37) (v : Int32) : Rel m (lu_st n 0 k v) :=
  R.same (FM.rf m) (fun _ _ _ => rfl) ⟨fun a ha => lu_st_row (by omega), lu_st_ne (by omega), lu_st_ne (by omega), lu_st_ne (by omega), lu_st_ne (by omega)⟩ (lu_st_row (by omega))
theorem Rel.ran0 {m n : lu_M} {L : List Ru} (R : Rel m n) (W : WR m 1 (n 1) L) : Rel (lu_st m 114 0 0) (lu_st n 0 37 0) :=
  ⟨W.tr1 (fun a h1 h2 => lu_st_row (by omega)) (lu_st_row (by omega)), R.2.k.fr (by rw [lu_st_row (by omega)]) (fun a h1 h2 => lu_st_row (by omega)) (lu_st_ne (by omega)) (lu_st_row (by omega)), R.2.r.fr (by rw [lu_st_row (by omega)]) (lu_st_ne (by omega)) (fun a h1 h2 => lu_st_row (by omega)) (lu_st_row (by omega)), R.2.t.fr (by rw [lu_st_row (by omega)]) (lu_st_ne (by omega)) (lu_st_row (by omega)) (lu_st_row (by omega)), R.2.h.fr (fun a h1 h2 => lu_st_row (by omega)) (fun a h1 h2 => lu_st_row (by omega)), R.2.f.fr (fun a h1 h2 => lu_st_row (by omega)) (fun a h1 h2 => lu_st_row (by omega)), ⟨0, by omega, lu_st_self .., lu_st_self .., fun i hi => absurd hi (by omega)⟩, R.2.g.fr (fun k hk => by rw [lu_st_row (by omega)])⟩
theorem AR.rel {m n m' n' : lu_M} {L : List Ru} {p k g b : Nat} {pt : Bool} (R : Rel m n) (W : WR m 1 (n 1) L) (hp : p < 6) (A : AR m n p k g b pt m' n') (hb : b ≤ 1000) : Rel m' n' := by
  have hD := W.i.D10
  obtain ⟨a1, a2, a3, a4, a5, a6, a7, a8, a9, a10, a11, a12⟩ := A
  have hr : ∀ r, r < 6 → ∀ i, i < 4 → m' (1 + 1 + 1 + r) i = m (1 + 1 + 1 + r) i := fun r hr i hi => by
    by_cases e : r = p
    · subst e; exact a2 i (by omega)
    · rw [a1 _ (by omega) (by omega)]
  have hB : RB m' 1 (n 1) := by
    refine ⟨?_, ?_, ?_, fun r h6 => ?_, fun r h6 hr' => ?_, fun d hd => ?_, fun r h6 i hi => ?_⟩
    · rw [a1 1 (by omega) (by omega)]; exact W.b.cnt
    · rw [a1 1 (by omega) (by omega)]; exact W.b.ded
    · rw [a1 1 (by omega) (by omega)]; exact W.b.en
    · rw [hr r h6 1 (by omega)]; exact W.b.num h6
    · rw [hr r h6 0 (by omega), hr r h6 2 (by omega), hr r h6 3 (by omega)]; exact W.b.per h6 hr'
    · rw [a1 (1 + 8) (by omega) (by omega), a1 (1 + 9) (by omega) (by omega), a1 (1 + 10) (by omega) (by omega), a1 (1 + 11) (by omega) (by omega), a1 (1 + 12) (by omega) (by omega)]; exact W.b.dd hd
    · rw [a1 (1 + 13) (by omega) (by omega)]; exact W.b.mi h6 hi
  refine ⟨⟨L, ?_⟩, R.2.k.fr (by rw [a1 0 (by omega) (by omega)]) (fun a h1 h2 => a1 a (by omega) (by omega)) (a5 3 (by omega)) (a4 2 (by omega) (by omega)), R.2.r.fr (by rw [a1 0 (by omega) (by omega)]) (a5 21 (by omega)) (fun a h1 h2 => a1 a (by omega) (by omega)) (a4 10 (by omega) (by omega)), R.2.t.fr (by rw [a1 83 (by omega) (by omega)]) (a5 23 (by omega)) (a1 84 (by omega) (by omega)) (a4 11 (by omega) (by omega)), R.2.h.fr (fun a h1 h2 => a1 a (by omega) (by omega)) (fun a h1 h2 => a4 a (by omega) (by omega)), R.2.f.fr (fun a h1 h2 => a1 a (by omega) (by omega)) (fun a h1 h2 => a4 a (by omega) (by omega)), ⟨b, hb, a6, a11, a12⟩, R.2.g.fr (fun k hk => by rw [a1 _ (by omega) (by omega)])⟩
  rw [a4 1 (by omega) (by omega)]
  exact W.pe W.i (fun _ _ => rfl) hB (fun a ha => a1 a (by omega) (by omega))
theorem y_act (a c x : Int32) : Me (f11_act a c x) (f12_act a c x) := Me.mk fun m0 n0 L0 R0 W0 => by
  have hP := W0.i.P6
  have R1 := (R0.ran0 W0).n0 (k := 41) (by omega) 0
  have hm0 : lu_st m0 114 0 0 114 0 = 0 := lu_st_self ..
  have hn37 : lu_st (lu_st n0 0 37 0) 0 41 0 0 37 = 0 := by rw [lu_st_ne (by omega), lu_st_self]
  have hn41 : lu_st (lu_st n0 0 37 0) 0 41 0 0 41 = 0 := lu_st_self ..
  unfold f11_act f12_act f11_act_b33 f12_act_b38
  rw [p_nm, p_nm, p_nm]
  generalize lu_st m0 114 0 0 = m at *
  generalize lu_st (lu_st n0 0 37 0) 0 41 0 = n at *
  obtain ⟨L, W⟩ := R1.1
  have hP := W.i.P6
  rw [k_isOne, p_bi, p_if]
  cases h1 : p_in a.toInt 0 3
  · have e1 : f12_onShelf a n = some (-1, n) := by
      unfold f12_onShelf
      rw [t_isOne, h1, p_bi, p_if, if_neg p_ff]; rfl
    rw [if_neg p_ff, e1, p_bi, p_nm, lu_st_self, if_pos (by decide)]
    exact ⟨_, _, _, rfl, rfl, R1.n0 (by omega) _⟩
  obtain ⟨h, rfl, -, hh'⟩ := p_in_ex (lo := 0) (hi := 3) h1 (by omega)
  have hh : h < 4 := by omega
  rw [if_pos rfl, show (0 : Int64) = (0 : Int32).toInt64 from rfl, show (3 : Int64) = (3 : Int32).toInt64 from rfl, k_in, p_bi, p_if]
  rcases on_shelf R1 W hh with ⟨e1, e2, -⟩ | ⟨p, hp, q1, q2, q3, q4, e1, e2⟩
  · rw [e2, p_bi, p_nm, lu_st_self, if_pos (show (-1 : Int32) < 0 by decide)]
    cases p_in c.toInt (0 : Int32).toInt (3 : Int32).toInt
    · rw [if_neg p_ff]
      exact ⟨_, _, _, rfl, rfl, R1.n0 (by omega) _⟩
    · rw [if_pos rfl, e1, p_bi, if_pos rfl]
      exact ⟨_, _, _, rfl, rfl, R1.n0 (by omega) _⟩
  rw [e2, p_bi, p_nm, lu_st_self, if_neg (nI_pos (by omega)), t_in32, p_bi, p_if]
  cases h2 : p_in c.toInt (0 : Int32).toInt (3 : Int32).toInt
  · rw [if_neg p_ff, if_neg p_ff]
    exact ⟨_, _, _, rfl, rfl, R1.n0 (by omega) _⟩
  obtain ⟨v, rfl, -, hv⟩ := p_in_ex (lo := 0) (hi := 3) h2 (by omega)
  obtain ⟨⟨k1, kl, k2⟩, ⟨g1, gl, g2⟩, -⟩ := W.i.per hp
  obtain ⟨b0, b2, -⟩ := W.b.per (by omega) hp
  have F : AF m p (s_v (n 1) (8 + 3 * p)) (s_v (n 1) (9 + 3 * p)) := ⟨b0.trans k1, W.b.num (by omega), b2.trans g1⟩
  have h1s : ∀ w, lu_st n 0 38 w 1 = n 1 := fun w => lu_st_row (by omega)
  rw [if_pos rfl, if_pos rfl, e1, p_bi, if_neg (by decide), lu_st_self, t_iGr _ (by omega), p_bi, p_nm, p_nm, lu_st_ne (k := 39) (b := 38) (by omega), lu_st_self, t_iSt _ (by omega), p_bi, p_nm, p_gd hh (by omega), nI_clamp (by omega), q3, p_gd (by omega) (by omega), nI_clamp (by omega), lu_st_row (a := 1) (r := 0) (by omega), lu_st_row (a := 1) (r := 0) (by omega), lu_st_row (a := 1) (r := 0) (by omega), k1, g1]
  generalize s_v (n 1) (8 + 3 * p) = k at *
  generalize s_v (n 1) (9 + 3 * p) = g at *
  have A : AR m n p k g 0 false (lu_st m (2 + 1 + p) 4 0) (lu_st (lu_st (lu_st n 0 38 (nI p)) 0 39 (nI g)) 0 40 (nI k)) := by
    refine ⟨fun a h1 h2 => lu_st_row h2, fun i hi => lu_st_ne hi, lu_st_self .., fun a h1 h2 => ?_, fun i hi => ?_, ?_, ?_, ?_, lu_st_self .., ?_, ?_, fun i hi => absurd hi (by omega)⟩
    · rw [lu_st_row h1, lu_st_row h1, lu_st_row h1]
    · rw [lu_st_ne (by omega), lu_st_ne (by omega), lu_st_ne (by omega)]
    · rw [lu_st_ne (by omega), lu_st_ne (by omega), lu_st_ne (by omega)]; exact hn37
    · rw [lu_st_ne (by omega), lu_st_ne (by omega), lu_st_self]
    · rw [lu_st_ne (by omega), lu_st_self]
    · rw [lu_st_ne (by omega), lu_st_ne (by omega), lu_st_ne (by omega)]; exact hn41
    · rw [lu_st_row (by omega)]; exact hm0
  have fin : ∀ {m' n' : lu_M} {b : Nat} {pt : Bool} (w : Int32), AR m n p k g b pt m' n' → b ≤ 1000 → ∃ a m'' n'', f11_act_b125 (nI h) (nI v) x (2 + 1 + p) w m' = some (a, m'') ∧ f12_act_b109 (nI h) (nI v) x w n' = some (a, n'') ∧ Rel m'' n'' := fun {m' n' b pt} w A hb => by
    unfold f11_act_b125 f12_act_b109 f11_act_b140 f12_act_b125
    rw [A.e4, A.r41, p_if, p_if]
    cases pt
    · rw [if_neg p_ff, if_neg p_ff]
      exact ⟨_, _, _, rfl, rfl, A.rel R1 W (by omega) hb⟩
    · rw [if_pos rfl, if_pos rfl]
      exact ⟨_, _, _, rfl, rfl, A.rel R1 W (by omega) hb⟩
  have hv' : v = 0 ∨ v = 1 ∨ v = 2 ∨ v = 3 := by omega
  rcases hv' with e | e | e | e
  · obtain ⟨w, m1, n1, b1, c1, c2, A1, hb1⟩ := a_gives F (by omega) kl k2 A (by omega) x
    rw [if_pos (by rw [e]; rfl), if_pos (by rw [e]; rfl), c1, c2, p_bi, p_bi]
    exact fin w A1 (by omega)
  · obtain ⟨w, m1, n1, b1, c1, c2, A1, hb1⟩ := a_takes F (by omega) kl k2 A (by omega) x
    rw [if_neg (by rw [e]; decide), if_pos (by rw [e]; rfl), if_neg (by rw [e]; decide), if_pos (by rw [e]; rfl), c1, c2, p_bi, p_bi]
    exact fin w A1 (by omega)
  · obtain ⟨w, m1, n1, b1, pt, c1, c2, A1, hb1⟩ := a_splits F (by omega) kl k2 g2 A (by omega) x
    rw [if_neg (by rw [e]; decide), if_neg (by rw [e]; decide), if_pos (by rw [e]; rfl), if_neg (by rw [e]; decide), if_neg (by rw [e]; decide), if_pos (by rw [e]; rfl), c1, c2, p_bi, p_bi]
    exact fin w A1 (by omega)
  · obtain ⟨w, m1, n1, b1, pt, c1, c2, A1, hb1⟩ := a_swears F (by omega) kl k2 g2 A (by omega) x
    rw [if_neg (by rw [e]; decide), if_neg (by rw [e]; decide), if_neg (by rw [e]; decide), if_neg (by rw [e]; decide), if_neg (by rw [e]; decide), if_neg (by rw [e]; decide), c1, c2, p_bi, p_bi]
    exact fin w A1 (by omega)

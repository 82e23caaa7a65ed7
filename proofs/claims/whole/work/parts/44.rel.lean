/-! THE PURE PART: what holds between the class's memory and the reference's -/
def WX (m : lu_M) (w : Nat) (s : Nat → Int32) : Prop :=
  m w 10 = s 7 ∧ m w 11 = s 6 ∧ s_ok s 6 0 6 ∧
  (∀ r, r < 6 → r < s_v s 6 → (∀ k, k < 4 → m (w + 14 + 1 + r) k = s (112 + 4 * r + k)) ∧ s_ok s (112 + 4 * r) 1 9 ∧ s_ok s (113 + 4 * r) 0 15 ∧ s_ok s (114 + 4 * r) 0 31 ∧ s_ok s (115 + 4 * r) 0 1) ∧
  (∀ p q, p < 6 → q < 6 → m (w + 21 + 1 + p) q = s (76 + 6 * p + q) ∧ s_ok s (76 + 6 * p + q) 0 99 ∧ (s_P s ≤ p ∨ s_P s ≤ q ∨ p = q → s (76 + 6 * p + q) = 0))
def WR (m : lu_M) (w : Nat) (s : Nat → Int32) (L : List Ru) : Prop := SI s ∧ LV L ∧ RS' s L ∧ RB m w s ∧ RW m w L ∧ CR (s_D s) (m (w + 28)) s ∧ m (w + 28) 5 = s 4 ∧ WX m w s
theorem WR.i {m : lu_M} {w : Nat} {s : Nat → Int32} {L : List Ru} (W : WR m w s L) : SI s := W.1
theorem WR.l {m : lu_M} {w : Nat} {s : Nat → Int32} {L : List Ru} (W : WR m w s L) : LV L := W.2.1
theorem WR.r {m : lu_M} {w : Nat} {s : Nat → Int32} {L : List Ru} (W : WR m w s L) : RS' s L := W.2.2.1
theorem WR.b {m : lu_M} {w : Nat} {s : Nat → Int32} {L : List Ru} (W : WR m w s L) : RB m w s := W.2.2.2.1
theorem WR.w {m : lu_M} {w : Nat} {s : Nat → Int32} {L : List Ru} (W : WR m w s L) : RW m w L := W.2.2.2.2.1
theorem WR.c {m : lu_M} {w : Nat} {s : Nat → Int32} {L : List Ru} (W : WR m w s L) : CR (s_D s) (m (w + 28)) s := W.2.2.2.2.2.1
theorem WR.y {m : lu_M} {w : Nat} {s : Nat → Int32} {L : List Ru} (W : WR m w s L) : m (w + 28) 5 = s 4 := W.2.2.2.2.2.2.1
theorem WR.x {m : lu_M} {w : Nat} {s : Nat → Int32} {L : List Ru} (W : WR m w s L) : WX m w s := W.2.2.2.2.2.2.2
theorem WX.fr {m m' : lu_M} {w : Nat} {s : Nat → Int32} (X : WX m w s) (F : FR w m m') : WX m' w s := by
  obtain ⟨a1, a2, a3, a4, a5⟩ := X
  refine ⟨?_, ?_, a3, fun r h6 hr => ?_, fun p q hp hq => ?_⟩
  · rw [F w (by omega) (by omega) (by omega) (by omega)]; exact a1
  · rw [F w (by omega) (by omega) (by omega) (by omega)]; exact a2
  · rw [F (w + 14 + 1 + r) (by omega) (by omega) (by omega) (by omega)]; exact a4 r h6 hr
  · rw [F (w + 21 + 1 + p) (by omega) (by omega) (by omega) (by omega)]; exact a5 p q hp hq
theorem WX.se {m : lu_M} {w : Nat} {s u : Nat → Int32} (X : WX m w s) (E : SE s u) : WX m w u := by
  obtain ⟨a1, a2, a3, a4, a5⟩ := X
  have h76 : ∀ i, 76 ≤ i → u i = s i := fun i hi => E i (by omega) (by omega) (fun d _ => by omega)
  have h6 : u 6 = s 6 := E.lo (by omega) (by omega) (by omega)
  refine ⟨?_, ?_, s_ok_of h6 a3, fun r h6' hr => ?_, fun p q hp hq => ?_⟩
  · rw [E.lo (by omega) (by omega) (by omega)]; exact a1
  · rw [h6]; exact a2
  · rw [s_v_of h6] at hr
    obtain ⟨b1, b2, b3, b4, b5⟩ := a4 r h6' hr
    refine ⟨fun k hk => ?_, s_ok_of (h76 _ (by omega)) b2, s_ok_of (h76 _ (by omega)) b3, s_ok_of (h76 _ (by omega)) b4, s_ok_of (h76 _ (by omega)) b5⟩
    rw [h76 _ (by omega)]; exact b1 k hk
  · obtain ⟨b1, b2, b3⟩ := a5 p q hp hq
    rw [h76 _ (by omega), E.P]
    exact ⟨b1, s_ok_of (h76 _ (by omega)) b2, b3⟩
/-- a World whose facts alone are others -/
theorem WR.tr {m m' : lu_M} {w : Nat} {s : Nat → Int32} {L : List Ru} (W : WR m w s L) (F : ∀ a, w ≤ a → a < w + 35 → m' a = m a) : WR m' w s L := by
  have F' : FR w m m' := fun a h1 h2 h3 h4 => F a h1 (by omega)
  refine ⟨W.i, W.l, W.r, W.b.tr F', W.w.tr F', ?_, ?_, W.x.fr F'⟩
  · rw [F (w + 28) (by omega) (by omega)]; exact W.c
  · rw [F (w + 28) (by omega) (by omega)]; exact W.y
/-- a World whose line goes on -/
theorem WR.go {m m' : lu_M} {w : Nat} {s u : Nat → Int32} {L : List Ru} (W : WR m w s L) (F : FR w m m') (E : SE s u) (J : SI u) (C : CR (s_D s) (m' (w + 28)) u) (h : m' (w + 28) 5 = u 4) : WR m' w u L :=
  ⟨J, W.l, W.r.se E W.l.1 W.l.2.1, (W.b.se W.i E).tr F, W.w.tr F, by rw [E.D]; exact C, h, (W.x.se E).fr F⟩
/-- what is kept, rows, tape, sheets, shelves, trace, strangers -/
def RK (m n : lu_M) : Prop := m 0 2 = n 0 3 ∧ (m 0 2 = 0 ∨ (m 0 2 = 1 ∧ ∃ L, WR m 37 (n 2) L))
def RR (m n : lu_M) : Prop := ∃ c, c ≤ 4 ∧ m 0 9 = nI c ∧ n 0 21 = nI c ∧ ∀ k, k < c → ∀ j, j < 3 → m (99 + 1 + k) j = n 10 (3 * k + j)
def RT (m n : lu_M) : Prop := ∃ l, l ≤ 200 ∧ m 83 1 = nI l ∧ n 0 23 = nI l ∧ ∀ i, i < l → m 84 i = n 11 i ∧ s_ok (n 11) i 0 255
def RH (m n : lu_M) : Prop := ∀ h, h < 4 → m 104 h = n 12 h ∧ m 105 h = n 13 h ∧ s_ok (n 13) h 0 40 ∧ (n 12 h = -1 ∨ s_ok (n 12) h 0 4) ∧ ∀ k, k < 40 → m (106 + 1 + h) k = n 14 (40 * h + k)
def RF (m n : lu_M) : Prop := ∀ i, i < 4 → (m 111 i = 0 ∧ n 15 i = 1 ∧ m 112 i = n 16 i ∧ s_ok (n 16) i 0 5) ∨ (m 111 i = 1 ∧ n 15 i = 2 ∧ m 113 i = n 16 i ∧ m 112 i = n 17 i ∧ s_ok (n 16) i 0 40 ∧ s_ok (n 17) i 0 4) ∨ (m 111 i = 2 ∧ n 15 i = 0)
def RN (m n : lu_M) : Prop := ∃ b, b ≤ 1000 ∧ n 0 37 = nI b ∧ m 114 0 = nI (min b 30) ∧ ∀ i, i < b → i < 30 → m 114 (i + 1) = n 18 i
def RG (m : lu_M) : Prop := ∀ k, k < 6 → m (91 + 1 + k) 0 = nI k
def Re (m n : lu_M) : Prop := RK m n ∧ RR m n ∧ RT m n ∧ RH m n ∧ RF m n ∧ RN m n ∧ RG m
def Rel (m n : lu_M) : Prop := (∃ L, WR m 1 (n 1) L) ∧ Re m n
def FM (m m' : lu_M) : Prop := ∀ a, a = 0 ∨ (37 ≤ a ∧ a < 72) ∨ a = 83 ∨ a = 84 ∨ (91 ≤ a ∧ a ≤ 97) ∨ 99 ≤ a → m' a = m a
def FN (n n' : lu_M) : Prop := (∀ a, a = 2 ∨ 10 ≤ a → n' a = n a) ∧ n' 0 3 = n 0 3 ∧ n' 0 21 = n 0 21 ∧ n' 0 23 = n 0 23 ∧ n' 0 37 = n 0 37
theorem Re.fr {m m' n n' : lu_M} (R : Re m n) (F : FM m m') (G : FN n n') : Re m' n' := by
  obtain ⟨⟨k1, k2⟩, ⟨c, r1, r2, r3, r4⟩, ⟨l, t1, t2, t3, t4⟩, h, f, ⟨b, n1, n2, n3, n4⟩, g⟩ := R
  obtain ⟨g0, g3, g21, g23, g37⟩ := G
  have e0 := F 0 (by omega)
  refine ⟨⟨?_, ?_⟩, ⟨c, r1, ?_, ?_, fun k hk j hj => ?_⟩, ⟨l, t1, ?_, ?_, fun i hi => ?_⟩, fun i hi => ?_, fun i hi => ?_, ⟨b, n1, ?_, ?_, fun i hi hi2 => ?_⟩, fun k hk => ?_⟩
  · rw [e0, g3]; exact k1
  · rw [e0]
    rcases k2 with k2 | ⟨k2, L, k3⟩
    · exact Or.inl k2
    · refine Or.inr ⟨k2, L, ?_⟩
      rw [g0 2 (by omega)]
      exact k3.tr (fun a h1 h2 => F a (by omega))
  · rw [e0]; exact r2
  · rw [g21]; exact r3
  · rw [F (99 + 1 + k) (by omega), g0 10 (by omega)]; exact r4 k hk j hj
  · rw [F 83 (by omega)]; exact t2
  · rw [g23]; exact t3
  · rw [F 84 (by omega), g0 11 (by omega)]; exact t4 i hi
  · rw [F 104 (by omega), F 105 (by omega), F (106 + 1 + i) (by omega), g0 12 (by omega), g0 13 (by omega), g0 14 (by omega)]; exact h i hi
  · rw [F 111 (by omega), F 112 (by omega), F 113 (by omega), g0 15 (by omega), g0 16 (by omega), g0 17 (by omega)]; exact f i hi
  · rw [g37]; exact n2
  · rw [F 114 (by omega)]; exact n3
  · rw [F 114 (by omega), g0 18 (by omega)]; exact n4 i hi hi2
  · rw [F (91 + 1 + k) (by omega)]; exact g k hk
theorem FM.rf (m : lu_M) : FM m m := fun _ _ => rfl
theorem FM.rw {m m' : lu_M} (F : FM m m') (r : Nat) (f : Nat → Int32) (h : (1 ≤ r ∧ r < 37) ∨ (72 ≤ r ∧ r < 83) ∨ (85 ≤ r ∧ r ≤ 90) ∨ r = 98) : FM m (p_rw m' r f) := fun a ha => by
  rw [p_rw_n (by omega)]; exact F a ha
theorem FN.rf (n : lu_M) : FN n n := ⟨fun _ _ => rfl, rfl, rfl, rfl, rfl⟩
theorem FN.rw {n n' : lu_M} (F : FN n n') (r : Nat) (f : Nat → Int32) (h : r = 1 ∨ (3 ≤ r ∧ r < 10)) : FN n (p_rw n' r f) :=
  ⟨fun a ha => by rw [p_rw_n (by omega)]; exact F.1 a ha, by rw [p_rw_n (by omega)]; exact F.2.1, by rw [p_rw_n (by omega)]; exact F.2.2.1, by rw [p_rw_n (by omega)]; exact F.2.2.2.1, by rw [p_rw_n (by omega)]; exact F.2.2.2.2⟩
/-- the two answer alike, and go on alike -/
def Me (f g : lu_M → Option (Int32 × lu_M)) : Prop := ∀ m n, Rel m n → ∃ a m' n', f m = some (a, m') ∧ g n = some (a, n') ∧ Rel m' n'
/-- nothing that counts is another -/
theorem Rel.same {m m' n n' : lu_M} (R : Rel m n) (F : FM m m') (F1 : ∀ a, 1 ≤ a → a < 36 → m' a = m a) (G : FN n n') (G1 : n' 1 = n 1) : Rel m' n' := by
  obtain ⟨⟨L, W⟩, E⟩ := R
  refine ⟨⟨L, ?_⟩, E.fr F G⟩
  rw [G1]
  exact W.tr (fun a h1 h2 => F1 a h1 (by omega))
theorem LN73 : LN 1 73 := Or.inr (Or.inr (by omega))
theorem LN29 : LN 1 29 := Or.inl rfl
/-- the answer for what is out of bounds -/
theorem Me.mk {f g : lu_M → Option (Int32 × lu_M)} (h : ∀ m n L, Rel m n → WR m 1 (n 1) L → ∃ a m' n', f m = some (a, m') ∧ g n = some (a, n') ∧ Rel m' n') : Me f g := fun m n R => by
  obtain ⟨L, W⟩ := R.1
  exact h m n L R W
/-! years -/
theorem y_year : Me f11_year f12_year := Me.mk fun m n L R W => by
  unfold f11_year f12_year f12_year_b17
  rw [k_isOver W.i W.b.en W.c.1, t_isOver W.i, p_bi, p_bi, p_if, p_if]
  cases h : s_ov (n 1)
  · rw [if_neg (by decide), if_neg (by decide)]
    obtain ⟨E, J⟩ := s_goes_I W.i L 0 (s_ov_f h)
    obtain ⟨f, x, e1, C, h5⟩ := k_pass W.i W.b LN29 W.w 0 (m 36) W.c
    have hm : p_rw (p_rw m (1 + 35) (m 36)) 29 (m 29) = m := by
      rw [p_rw_id, p_rw_id]
    obtain ⟨t, e2⟩ := t_goes (n := n) rfl W.i W.l W.r 0 (n 4)
    rw [p_rw_id] at e2
    have e1' : f10_pass 1 29 0 m = some (s_w L 0 (n 1), p_rw (p_rw m (1 + 35) f) 29 x) := by
      have := e1
      rw [hm] at this
      exact this
    rw [e1', e2, p_bi, p_bi]
    refine ⟨_, _, _, rfl, rfl, ⟨L, ?_⟩, R.2.fr (((FM.rf m).rw _ _ (by omega)).rw _ _ (by omega)) (((FN.rf n).rw _ _ (by omega)).rw _ _ (by omega))⟩
    rw [p_rw_n (by omega), p_rw_s]
    refine W.go ((((FR.rf 1 m).fa f)).ln LN29 x) E J (by rw [p_rw_s]; exact C) ?_
    rw [p_rw_s, h5, W.y]
    unfold s_goes
    rw [upd_ne (by omega), p_us]
    obtain ⟨d1, d2, d3⟩ := s_do_I W.i
    have := (d2.tr (s_pp_I d3 L 0).2.1).2
    rw [this]
  · rw [if_pos rfl, if_pos rfl]
    exact ⟨_, _, _, rfl, rfl, R⟩

/-! THE PURE PART: calls that only look -/
theorem Rel.facts {m n : lu_M} (R : Rel m n) (f t : Nat → Int32) : Rel (p_rw m (1 + 35) f) (p_rw n 4 t) :=
  R.same ((FM.rf m).rw _ _ (by omega)) (fun a h1 h2 => by rw [p_rw_n (by omega)]) ((FN.rf n).rw _ _ (by omega)) (p_rw_n (by omega))
theorem p_eqI {a b : Nat} (h : a ≠ b) (ha : a < 2 ^ 31) (hb : b < 2 ^ 31) : ¬ nI a = nI b := fun q => h ((nI_eq ha hb).mp q)
theorem p_ff : ¬ (false = true) := by decide
theorem y_personOf (a b : Int32) : Me (f11_personOf a b) (f12_personOf a b) := Me.mk fun m n L R W => by
  have hP := W.i.P6
  have hYE := W.i.YE
  have hE := W.i.E16
  unfold f11_personOf f12_personOf f12_personOf_b20 f12_personOf_b67
  rw [k_per W, t_per W, p_bi, p_bi, p_if, p_if]
  cases h : p_in a.toInt 0 ((s_P (n 1) : Int) - 1)
  · rw [if_neg (by decide), if_neg (by decide)]
    exact ⟨_, _, _, rfl, rfl, R⟩
  rw [if_pos rfl, if_pos rfl]
  obtain ⟨p, rfl, hp⟩ := p_in_m1 h (by omega)
  rw [show (0 : Int64) = (0 : Int32).toInt64 from rfl, show (5 : Int64) = (5 : Int32).toInt64 from rfl, t_in32, p_bi, p_if]
  cases h2 : p_in b.toInt (0 : Int32).toInt (5 : Int32).toInt
  · rw [if_neg p_ff]
    have hb : ∀ k : Int32, p_in k.toInt (0 : Int32).toInt (5 : Int32).toInt = true → ¬ b = k := fun k hk q => by rw [q, hk] at h2; cases h2
    rw [if_neg (hb 0 (by decide)), if_neg (hb 1 (by decide)), if_neg (hb 2 (by decide)), if_neg (hb 3 (by decide)), if_neg (hb 4 (by decide)), if_neg (hb 5 (by decide))]
    exact ⟨_, _, _, rfl, rfl, R⟩
  rw [if_pos rfl]
  obtain ⟨v, rfl, -, hv⟩ := p_in_ex (lo := 0) (hi := 5) h2 (by omega)
  obtain ⟨q0, q2, q3⟩ := W.b.per (by omega) hp
  obtain ⟨⟨k1, -, k2⟩, -, ⟨g1, -, g2⟩⟩ := W.i.per hp
  have hv' : v = 0 ∨ v = 1 ∨ v = 2 ∨ v = 3 ∨ v = 4 ∨ v = 5 := by omega
  rw [nI_clamp (by omega)]
  rcases hv' with e | e | e | e | e | e <;> subst e
  · rw [if_pos (by decide), p_gd (by omega) (by omega), if_neg (by decide), show nI 0 = (0 : Int32) from rfl, t_iSt _ (by omega), p_bi, ← q0]
    exact ⟨_, _, _, rfl, rfl, R⟩
  · rw [if_neg (by decide), if_pos (by decide), p_gd (by omega) (by omega), if_neg (by decide), show nI 1 = (1 : Int32) from rfl, t_iGr _ (by omega), p_bi, ← q2]
    exact ⟨_, _, _, rfl, rfl, R⟩
  · rw [if_neg (by decide), if_neg (by decide), if_pos (by decide), p_gd (by omega) (by omega), if_neg (by decide), show nI 2 = (2 : Int32) from rfl, t_iSn _ (by omega), p_bi, ← q3]
    exact ⟨_, _, _, rfl, rfl, R⟩
  · rw [if_neg (by decide), if_neg (by decide), if_neg (by decide), if_pos (by decide), if_pos (by decide), if_pos (by decide), k_borne W.i (SE.rf _) W.b W.c (by omega), p_bi, t_standWeight W.i, p_bi]
    exact ⟨_, _, _, rfl, rfl, R⟩
  · rw [if_neg (by decide), if_neg (by decide), if_neg (by decide), if_neg (by decide), if_pos (by decide), if_pos (by decide), if_neg (by decide), if_pos (by decide), p_gd (by omega) (by omega), show m 29 0 = nI (s_v (n 1) 3) from W.c.1.trans W.i.eY, k_pull (2 + 1 + p) m k2 g2 (by omega) (q0.trans k1) (q3.trans g1), p_bi, t_pulls W.i hp, p_bi]
    exact ⟨_, _, _, rfl, rfl, R⟩
  · obtain ⟨f, e1⟩ := k_choice W.i (SE.rf _) W.i W.b LN29 W.c W.w hp
    obtain ⟨t, e2⟩ := t_choice (n := n) W.i hp W.l.1 W.r.1 W.r.2 W.l.2.1 W.l.2.2 (n 4)
    rw [p_rw_id] at e2
    rw [if_neg (by decide), if_neg (by decide), if_neg (by decide), if_neg (by decide), if_neg (by decide), if_pos (by decide), if_pos (by decide), if_neg (by decide), if_neg (by decide), e1, p_bi, e2, p_bi]
    exact ⟨_, _, _, rfl, rfl, R.facts f t⟩
theorem y_deedOf (a b : Int32) : Me (f11_deedOf a b) (f12_deedOf a b) := Me.mk fun m n L R W => by
  have hD := W.i.D10
  unfold f11_deedOf f12_deedOf f12_deedOf_b20 f12_deedOf_b43
  rw [k_dee W, t_dee W, p_bi, p_bi, p_if, p_if]
  cases h : p_in a.toInt 0 ((s_D (n 1) : Int) - 1)
  · rw [if_neg (by decide), if_neg (by decide)]
    exact ⟨_, _, _, rfl, rfl, R⟩
  rw [if_pos rfl, if_pos rfl]
  obtain ⟨d, rfl, hd⟩ := p_in_m1 h (by omega)
  rw [show (0 : Int64) = (0 : Int32).toInt64 from rfl, show (5 : Int64) = (5 : Int32).toInt64 from rfl, t_in32, p_bi, p_if]
  cases h2 : p_in b.toInt (0 : Int32).toInt (5 : Int32).toInt
  · rw [if_neg p_ff]
    have hb : ∀ k : Int32, p_in k.toInt (0 : Int32).toInt (5 : Int32).toInt = true → ¬ b = k := fun k hk q => by rw [q, hk] at h2; cases h2
    rw [if_neg (hb 0 (by decide)), if_neg (hb 1 (by decide)), if_neg (hb 2 (by decide)), if_neg (hb 3 (by decide)), if_neg (hb 4 (by decide)), if_neg (hb 5 (by decide))]
    exact ⟨_, _, _, rfl, rfl, R⟩
  rw [if_pos rfl]
  obtain ⟨v, rfl, -, hv⟩ := p_in_ex (lo := 0) (hi := 5) h2 (by omega)
  obtain ⟨b8, b9, b10, b11, b12⟩ := W.b.dd hd
  have hv' : v = 0 ∨ v = 1 ∨ v = 2 ∨ v = 3 ∨ v = 4 ∨ v = 5 := by omega
  rw [nI_clamp (by omega), p_gd (by omega) (by omega), p_gd (by omega) (by omega), p_gd (by omega) (by omega), p_gd (by omega) (by omega), p_gd (by omega) (by omega)]
  rcases hv' with e | e | e | e | e | e <;> subst e
  · rw [if_pos (by decide), if_neg (by decide), show nI 0 = (0 : Int32) from rfl, t_dOf _ (by omega), p_bi, ← b8]
    exact ⟨_, _, _, rfl, rfl, R⟩
  · rw [if_neg (by decide), if_pos (by decide), if_neg (by decide), show nI 1 = (1 : Int32) from rfl, t_dIn _ (by omega), p_bi, ← b9]
    exact ⟨_, _, _, rfl, rfl, R⟩
  · rw [if_neg (by decide), if_neg (by decide), if_pos (by decide), if_neg (by decide), show nI 2 = (2 : Int32) from rfl, t_dWt _ (by omega), p_bi, ← b10]
    exact ⟨_, _, _, rfl, rfl, R⟩
  · rw [if_neg (by decide), if_neg (by decide), if_neg (by decide), if_pos (by decide), if_neg (by decide), show nI 3 = (3 : Int32) from rfl, t_dNd _ (by omega), p_bi, ← b11]
    exact ⟨_, _, _, rfl, rfl, R⟩
  · rw [if_neg (by decide), if_neg (by decide), if_neg (by decide), if_neg (by decide), if_pos (by decide), if_neg (by decide), k_how W.c W.i.ss hd hD, p_bi, show nI 4 = (4 : Int32) from rfl, t_dSo _ (by omega), p_bi]
    exact ⟨_, _, _, rfl, rfl, R⟩
  · rw [if_neg (by decide), if_neg (by decide), if_neg (by decide), if_neg (by decide), if_neg (by decide), if_pos (by decide), if_pos (by decide), t_due W.i hd, p_bi, ← b12]
    exact ⟨_, _, _, rfl, rfl, R⟩
theorem y_state (a : Int32) : Me (f11_state a) (f12_state a) := Me.mk fun m n L R W => by
  unfold f11_state f12_state f11_state_b84 f12_state_b65
  rw [k_isOver W.i W.b.en W.c.1, t_isOver W.i, p_bi, p_bi, p_if, p_if]
  have h3 : m 29 0 = n 1 3 := W.c.1
  have h2 : m 1 9 = n 1 2 := W.b.en
  have h4 : m 29 5 = n 1 4 := W.y
  rw [h3, h2, h4]
  by_cases e0 : a = 0
  · rw [if_pos e0, if_pos e0]; exact ⟨_, _, _, rfl, rfl, R⟩
  rw [if_neg e0, if_neg e0]
  by_cases e1 : a = 1
  · rw [if_pos e1, if_pos e1]; exact ⟨_, _, _, rfl, rfl, R⟩
  rw [if_neg e1, if_neg e1]
  by_cases e2 : a = 2
  · rw [if_pos e2, if_pos e2]; exact ⟨_, _, _, rfl, rfl, R⟩
  rw [if_neg e2, if_neg e2]
  by_cases e3 : a = 3
  · rw [if_pos e3, if_pos e3]
    cases s_ov (n 1) <;> exact ⟨_, _, _, rfl, rfl, R⟩
  rw [if_neg e3, if_neg e3]
  exact ⟨_, _, _, rfl, rfl, R⟩
theorem y_standing (a : Int32) : Me (f11_standing a) (f12_standing a) := Me.mk fun m n L R W => by
  have hD := W.i.D10
  unfold f11_standing f12_standing f12_standing_b21
  rw [k_in, show (0 : Int64) = (0 : Int32).toInt64 from rfl, show (4 : Int64) = (4 : Int32).toInt64 from rfl, t_in32, p_bi, p_bi, p_if, p_if]
  cases h : p_in a.toInt (0 : Int32).toInt (4 : Int32).toInt
  · rw [if_neg (by decide), if_neg (by decide)]
    exact ⟨_, _, _, rfl, rfl, R⟩
  rw [if_pos rfl, if_pos rfl, t_those W.i, p_bi]
  have hl := (p_loop (fun q i (x : Int32) => f11_standing_b15 (f11_standing_b53 a) a q x i m) (fun x => some (x, m)) (s_D (n 1)) (fun i x => x ||| (if n 1 (30 + 5 * i) = a then (1 : Int32) <<< (nI i &&& 31) else 0)) (fun _ _ => True)
    (fun q x _ => by
      show f11_standing_b15B _ _ _ _ _ _ = _
      unfold f11_standing_b15B f11_standing_b53
      rw [show m 1 2 = nI (s_D (n 1)) from W.b.ded.trans W.i.eD, if_pos (Int32.le_refl _)])
    (fun q i x hi _ => by
      show f11_standing_b15B _ _ _ _ _ _ = _
      unfold f11_standing_b15B f11_standing_b47
      rw [show m 1 2 = nI (s_D (n 1)) from W.b.ded.trans W.i.eD, q_le (by omega) (by omega), if_neg (by omega), k_how W.c W.i.ss hi hD, p_bi, p_nm, p_next]
      by_cases g : n 1 (30 + 5 * i) = a
      · rw [if_pos g, if_pos g]
      · rw [if_neg g, if_neg g, Int32.or_zero])
    (fun _ _ _ _ => trivial) (s_D (n 1)) 0 lu_fu 0 (by omega) (p_fu (by omega)) trivial).1
  exact ⟨_, _, _, hl, rfl, R⟩
/-! loans -/
theorem WX.lo {m : lu_M} {w : Nat} {s : Nat → Int32} (X : WX m w s) {p q : Nat} (hp : p < 6) (hq : q < 6) : m (w + 21 + 1 + p) q = s (76 + 6 * p + q) ∧ s_ok s (76 + 6 * p + q) 0 99 ∧ (s_P s ≤ p ∨ s_P s ≤ q ∨ p = q → s (76 + 6 * p + q) = 0) := X.2.2.2.2 p q hp hq
theorem p_lo (p q : Nat) : ((76 : Int32) + ((6 : Int32) * nI p)) + nI q = nI (76 + 6 * p + q) := by
  rw [show (76 : Int32) = nI 76 from rfl, show (6 : Int32) = nI 6 from rfl, pk_mul, nI_add, nI_add]
/-- one's net: what all owe to one, less what one owes, q of them -/
def s_net (s : Nat → Int32) (p : Nat) (k : Nat) : Int32 := p_it (fun q x => x + (s (76 + 6 * q + p) - s (76 + 6 * p + q))) 0 k 0
theorem t_netOf (n : lu_M) {p : Nat} (hp : p < 6) : f12_netOf (nI p) n = some (s_net (n 1) p 6, n) := by
  have hl := (p_loop (fun q i (x : Int32) => f12_netOf_b4 (f12_netOf_b48 (nI p)) (nI p) q x i n) (fun x => some (x, n)) 6 (fun q x => x + (n 1 (76 + 6 * q + p) - n 1 (76 + 6 * p + q))) (fun _ _ => True)
    (fun q x _ => by
      show f12_netOf_b4B _ _ _ _ _ _ = _
      unfold f12_netOf_b4B f12_netOf_b48
      rw [show (6 : Int32) = nI 6 from rfl, if_pos (Int32.le_refl _)])
    (fun q i x hi _ => by
      show f12_netOf_b4B _ _ _ _ _ _ = _
      unfold f12_netOf_b4B
      rw [p_lo, p_lo, show (6 : Int32) = nI 6 from rfl, q_le (by omega) (by omega), if_neg (by omega), p_gd (by omega) (by omega), p_gd (by omega) (by omega), p_nm, nI_clamp (by omega), nI_clamp (by omega), p_next])
    (fun _ _ _ _ => trivial) 6 0 lu_fu 0 (by omega) (p_fu (by omega)) trivial).1
  exact hl
theorem k_netOf {m : lu_M} {s : Nat → Int32} (I : SI s) (B : RB m 1 s) (X : WX m 1 s) {p : Nat} (hp : p < 6) : f10_netOf 1 (nI p) m = some (s_net s p 6, m) := by
  have hP := I.P6
  have hl := (p_loop (fun q i (x : Int32) => f10_netOf_b4 (f10_netOf_b38 1 (nI p)) 1 (nI p) q x i m) (fun x => some (x, m)) (s_P s) (fun q x => x + (s (76 + 6 * q + p) - s (76 + 6 * p + q))) (fun _ _ => True)
    (fun q x _ => by
      show f10_netOf_b4B _ _ _ _ _ _ _ = _
      unfold f10_netOf_b4B f10_netOf_b38
      rw [B.cnt, I.eP, if_pos (Int32.le_refl _)])
    (fun q i x hi _ => by
      show f10_netOf_b4B _ _ _ _ _ _ _ = _
      unfold f10_netOf_b4B
      rw [B.cnt, I.eP, q_le (by omega) (by omega), if_neg (by omega), p_gd (by omega) (by omega), p_gd (by omega) (by omega), p_gd (by omega) (by omega), p_gd (by omega) (by omega), p_nm, nI_clamp (by omega), nI_clamp (by omega), p_next, (X.lo (p := i) (q := p) (by omega) hp).1, (X.lo (p := p) (q := i) hp (by omega)).1])
    (fun _ _ _ _ => trivial) (s_P s) 0 lu_fu 0 (by omega) (p_fu (by omega)) trivial).1
  have h6 : s_net s p 6 = s_net s p (s_P s) := by
    unfold s_net
    have e := p_it_split (fun q x => x + (s (76 + 6 * q + p) - s (76 + 6 * p + q))) (s_P s) 0 (6 - s_P s) (0 : Int32)
    rw [show s_P s + (6 - s_P s) = 6 by omega, Nat.zero_add] at e
    rw [e]
    exact p_it_inv (f := fun q x => x + (s (76 + 6 * q + p) - s (76 + 6 * p + q))) (I := fun _ x => x = p_it (fun q x => x + (s (76 + 6 * q + p) - s (76 + 6 * p + q))) 0 (s_P s) (0 : Int32)) (6 - s_P s) (s_P s) _ rfl (fun i x h1 h2 h3 => by
      rw [(X.lo (p := i) (q := p) (by omega) hp).2.2 (Or.inl h1), (X.lo (p := p) (q := i) hp (by omega)).2.2 (Or.inr (Or.inl h1)), h3, Int32.sub_self, Int32.add_zero])
  rw [h6]
  exact hl
theorem y_net (a : Int32) : Me (f11_net a) (f12_net a) := Me.mk fun m n L R W => by
  have hP := W.i.P6
  unfold f11_net f12_net f12_net_b21
  rw [k_per W, t_per W, p_bi, p_bi, p_if, p_if]
  cases h : p_in a.toInt 0 ((s_P (n 1) : Int) - 1)
  · rw [if_neg (by decide), if_neg (by decide)]
    exact ⟨_, _, _, rfl, rfl, R⟩
  rw [if_pos rfl, if_pos rfl]
  obtain ⟨p, rfl, hp⟩ := p_in_m1 h (by omega)
  rw [k_netOf W.i W.b W.x (by omega), t_netOf n (by omega), p_bi, p_bi]
  exact ⟨_, _, _, rfl, rfl, R⟩
theorem t_areTwo {m n : lu_M} {L : List Ru} (W : WR m 1 (n 1) L) (a b : Int32) : f12_areTwo a b n = some (p_b (p_in a.toInt 0 ((s_P (n 1) : Int) - 1) && (p_in b.toInt 0 ((s_P (n 1) : Int) - 1) && !decide (a = b))), n) := by
  unfold f12_areTwo f12_areTwo_b25 f12_areTwo_b26
  rw [t_per W, p_bi, t_per W, p_bi, p_if, p_if]
  cases p_in a.toInt 0 ((s_P (n 1) : Int) - 1)
  · rfl
  cases p_in b.toInt 0 ((s_P (n 1) : Int) - 1)
  · rfl
  by_cases h : a = b
  · rw [if_pos rfl, if_pos rfl, if_pos h, decide_eq_true h]; rfl
  · rw [if_pos rfl, if_pos rfl, if_neg h, decide_eq_false h]; rfl
theorem y_owes (a b : Int32) : Me (f11_owes a b) (f12_owes a b) := Me.mk fun m n L R W => by
  have hP := W.i.P6
  unfold f11_owes f12_owes f11_owes_b27 f12_owes_b27
  rw [k_per W, p_bi, k_per W, p_bi, t_areTwo W, p_bi, p_if, p_if, p_if]
  cases h : p_in a.toInt 0 ((s_P (n 1) : Int) - 1)
  · rw [if_neg p_ff, Bool.false_and, if_neg p_ff]
    exact ⟨_, _, _, rfl, rfl, R⟩
  rw [if_pos rfl, Bool.true_and]
  cases h2 : p_in b.toInt 0 ((s_P (n 1) : Int) - 1)
  · rw [if_neg p_ff, Bool.false_and, if_neg p_ff]
    exact ⟨_, _, _, rfl, rfl, R⟩
  rw [if_pos rfl, Bool.true_and]
  by_cases h3 : a = b
  · rw [if_pos h3, decide_eq_true h3, if_neg (by decide)]
    exact ⟨_, _, _, rfl, rfl, R⟩
  rw [if_neg h3, decide_eq_false h3, if_pos (by decide)]
  obtain ⟨p, rfl, hp⟩ := p_in_m1 h (by omega)
  obtain ⟨q, rfl, hq⟩ := p_in_m1 h2 (by omega)
  rw [p_lo, p_gd (by omega) (by omega), p_gd (by omega) (by omega), p_gd (by omega) (by omega), nI_clamp (by omega), nI_clamp (by omega), nI_clamp (by omega), ← (W.x.lo (p := p) (q := q) (by omega) (by omega)).1]
  exact ⟨_, _, _, rfl, rfl, R⟩

/-! THE PURE PART: graceFor -/
theorem s_worth_n {u : Nat → Int32} (I : SI u) (y : Int32) : ∃ k, s_worth y u = nI k ∧ k ≤ 90 := by
  have hD := I.D10
  have e := p_it_inv (f := fun i x => x + (if u (30 + 5 * i) = 1 ∧ ¬ nI (s_due u i) < y then u (28 + 5 * i) else 0)) (I := fun i x => ∃ k, x = nI k ∧ k ≤ 9 * i) (s_D u) 0 0 ⟨0, rfl, by omega⟩ (fun i x h1 h2 ⟨k, hk, hk2⟩ => by
    show ∃ k, x + (if u (30 + 5 * i) = 1 ∧ ¬ nI (s_due u i) < y then u (28 + 5 * i) else 0) = nI k ∧ k ≤ 9 * (i + 1)
    obtain ⟨w1, w2⟩ := s_wt_of I (i := i) (by omega)
    split
    · refine ⟨k + s_v u (28 + 5 * i), ?_, by omega⟩
      rw [hk, w1, nI_add]
    · exact ⟨k, by rw [hk, Int32.add_zero], by omega⟩)
  obtain ⟨k, hk, hk2⟩ := e
  exact ⟨k, hk, by omega⟩
theorem s_w_n {s : Nat → Int32} (I : SI s) (L : List Ru) (a : Int32) : ∃ k, s_w L a s = nI k ∧ k ≤ 90 := by
  obtain ⟨-, -, d3⟩ := s_do_I I
  exact s_worth_n (s_pp_I d3 L a).2.2 _
theorem s_restW_n (L : List Ru) : ∀ (j : Nat) (s : Nat → Int32), SI s → ∃ k, s_restW L s j = nI k ∧ k ≤ 90 * j
  | 0, s, I => ⟨0, rfl, by omega⟩
  | j + 1, s, I => by
    unfold s_restW
    cases h : s_ov s
    · rw [if_neg p_ff]
      obtain ⟨-, J⟩ := s_goes_I I L 0 (s_ov_f h)
      obtain ⟨k1, e1, h1⟩ := s_w_n I L 0
      obtain ⟨k2, e2, h2⟩ := s_restW_n L j _ J
      exact ⟨k1 + k2, by rw [e1, e2, nI_add], by omega⟩
    · rw [if_pos rfl]
      exact ⟨0, rfl, by omega⟩
def gM (m : lu_M) (p : Nat) (y a b f x : Nat → Int32) : lu_M := p_rw (p_rw (p_rw (p_rw (p_rw m (2 + 1 + p) y) (1 + 12) a) (1 + 13) b) (1 + 35) f) 73 x
theorem gM_n (m : lu_M) {p : Nat} (y a b f x : Nat → Int32) {r : Nat} (h1 : r ≠ 2 + 1 + p) (h2 : r ≠ 13) (h3 : r ≠ 14) (h4 : r ≠ 36) (h5 : r ≠ 73) : gM m p y a b f x r = m r := by
  unfold gM
  rw [p_rw_n h5, p_rw_n h4, p_rw_n h3, p_rw_n h2, p_rw_n h1]
theorem gM_p (m : lu_M) {p : Nat} (hp : p < 6) (y a b f x : Nat → Int32) : gM m p y a b f x (2 + 1 + p) = y := by
  unfold gM
  rw [p_rw_n (by omega), p_rw_n (by omega), p_rw_n (by omega), p_rw_n (by omega), p_rw_s]
theorem gM_x (m : lu_M) (p : Nat) (y a b f x : Nat → Int32) : gM m p y a b f x 73 = x := p_rw_s ..
theorem gM_st (m : lu_M) {p : Nat} (hp : p < 6) (y a b f x : Nat → Int32) (v : Int32) : lu_st (gM m p y a b f x) (2 + 1 + p) 2 v = gM m p (upd y 2 v) a b f x := by
  rw [p_st, gM_p m hp]
  unfold gM
  rw [p_rw_sw (a := 73) (by omega), p_rw_sw (a := 1 + 35) (by omega), p_rw_sw (a := 1 + 13) (by omega), p_rw_sw (a := 1 + 12) (by omega), p_rw_rw]
theorem gM_se (m : lu_M) {p : Nat} (y a b f x a' b' : Nat → Int32) : p_rw (p_rw (gM m p y a b f x) (1 + 12) a') (1 + 13) b' = gM m p y a' b' f x := by
  unfold gM
  rw [p_rw_sw (a := 73) (b := 1 + 12) (by omega), p_rw_sw (a := 1 + 35) (b := 1 + 12) (by omega), p_rw_sw (a := 1 + 13) (b := 1 + 12) (by omega), p_rw_rw, p_rw_sw (a := 73) (b := 1 + 13) (by omega), p_rw_sw (a := 1 + 35) (b := 1 + 13) (by omega), p_rw_rw]
theorem gM_li (m : lu_M) {p : Nat} (y a b f x f' x' : Nat → Int32) : p_rw (p_rw (gM m p y a b f x) (1 + 35) f') 73 x' = gM m p y a b f' x' := by
  unfold gM
  rw [p_rw_sw (a := 73) (b := 1 + 35) (by omega), p_rw_rw, p_rw_rw]
/-- one with another GRACE, settled -/
theorem gM_W {m : lu_M} {s : Nat → Int32} {L : List Ru} (W : WR m 1 s L) {p v : Nat} (hp : p < s_P s) (lv : 1 ≤ v) (uv : v ≤ 9) {y : Nat → Int32} (hy : y = upd (m (2 + 1 + p)) 2 (nI v)) (a b f x : Nat → Int32) : ∃ a' b', f10_settle 1 (gM m p y a b f x) = some (gM m p y a' b' f x) ∧ WR (gM m p y a' b' f x) 1 (upd s (9 + 3 * p) (nI v)) L := by
  have hP := W.i.P6
  have hD := W.i.D10
  have hu' : ∀ i, (i < 8 ∨ 26 ≤ i) → upd s (9 + 3 * p) (nI v) i = s i := fun i hi => upd_ne (by omega)
  have J := W.i.per2 (lo := 0) (k := 9 + 3 * p) (v := v) hp (Or.inr (Or.inl rfl)) lv uv
  have hDu : s_D (upd s (9 + 3 * p) (nI v)) = s_D s := s_v_of (hu' 5 (by omega))
  have hPu : s_P (upd s (9 + 3 * p) (nI v)) = s_P s := s_v_of (hu' 0 (by omega))
  have B0 : RB0 (gM m p y a b f x) 1 (upd s (9 + 3 * p) (nI v)) := by
    refine ⟨?_, ?_, ?_, fun r hr => ?_, fun r h6 hr => ?_, fun d hd => ?_⟩
    · rw [gM_n m _ _ _ _ _ (by omega) (by omega) (by omega) (by omega) (by omega), hu' 0 (by omega)]; exact W.b.cnt
    · rw [gM_n m _ _ _ _ _ (by omega) (by omega) (by omega) (by omega) (by omega), hu' 5 (by omega)]; exact W.b.ded
    · rw [gM_n m _ _ _ _ _ (by omega) (by omega) (by omega) (by omega) (by omega), hu' 2 (by omega)]; exact W.b.en
    · by_cases e : r = p
      · subst e
        rw [show 1 + 1 + 1 + r = 2 + 1 + r by omega, gM_p m hr, hy, upd_ne (by omega)]; exact W.b.num hr
      · rw [gM_n m _ _ _ _ _ (by omega) (by omega) (by omega) (by omega) (by omega)]; exact W.b.num hr
    · rw [hPu] at hr
      obtain ⟨r0, r2, r3⟩ := W.b.per h6 hr
      by_cases e : r = p
      · subst e
        rw [show 1 + 1 + 1 + r = 2 + 1 + r by omega, gM_p m h6, hy, upd_ne (by omega), p_us, p_us, upd_ne (by omega), upd_ne (by omega), upd_ne (by omega)]
        exact ⟨r0, rfl, r3⟩
      · rw [gM_n m _ _ _ _ _ (by omega) (by omega) (by omega) (by omega) (by omega), upd_ne (by omega), upd_ne (by omega), upd_ne (by omega)]
        exact ⟨r0, r2, r3⟩
    · rw [hDu] at hd
      rw [gM_n m _ _ _ _ _ (by omega) (by omega) (by omega) (by omega) (by omega), gM_n m _ _ _ _ _ (by omega) (by omega) (by omega) (by omega) (by omega), gM_n m _ _ _ _ _ (by omega) (by omega) (by omega) (by omega) (by omega), gM_n m _ _ _ _ _ (by omega) (by omega) (by omega) (by omega) (by omega), hu' _ (by omega), hu' _ (by omega), hu' _ (by omega), hu' _ (by omega)]
      obtain ⟨a1, a2, a3, a4, -⟩ := W.b.dd hd
      exact ⟨a1, a2, a3, a4⟩
  obtain ⟨a', b', es, B⟩ := k_settle J B0
  rw [gM_se] at es B
  exact ⟨a', b', es, W.pe J hu' B (fun r hr => gM_n m _ _ _ _ _ (by omega) (by omega) (by omega) (by omega) (by omega))⟩
/-- the grace found, from v on, j of them; the most till then -/
def s_gr (L : List Ru) (s : Nat → Int32) (p : Nat) : Nat → Nat → Int32 → Int32 → Int32
  | 0, _, b, _ => b
  | j + 1, v, b, mo => if s_restW L (upd s (9 + 3 * p) (nI v)) 16 ≤ mo then s_gr L s p j (v + 1) b mo else s_gr L s p j (v + 1) (nI v) (s_restW L (upd s (9 + 3 * p) (nI v)) 16)
theorem k_grN {m : lu_M} {s : Nat → Int32} {L : List Ru} (W : WR m 1 s L) {p : Nat} (hp : p < s_P s) (h6 : p < 6) (K : Nat → Int32 → Int32 → lu_M → Option (Int32 × lu_M)) (a1 w0 : Int32) : ∀ (j v q : Nat) (y a b f x : Nat → Int32) (bo mo : Int32), v + j = 10 → 1 ≤ v → j < q → upd y 2 (m (2 + 1 + p) 2) = m (2 + 1 + p) → ∃ y' a' b' f' x', f11_graceFor_b37 K a1 q (2 + 1 + p) w0 bo mo (nI v) (gM m p y a b f x) = K (2 + 1 + p) w0 (s_gr L s p j v bo mo) (gM m p y' a' b' f' x') ∧ upd y' 2 (m (2 + 1 + p) 2) = m (2 + 1 + p)
  | 0, v, q, y, a, b, f, x, bo, mo, h, hv, hq, hy => by
    obtain ⟨q, rfl⟩ : ∃ r, q = r + 1 := ⟨q - 1, by omega⟩
    refine ⟨y, a, b, f, x, ?_, hy⟩
    show f11_graceFor_b37B _ _ _ _ _ _ _ _ _ = _
    unfold f11_graceFor_b37B
    rw [show (9 : Int32) = nI 9 from rfl, q_lt (by omega) (by omega), if_pos (by omega)]
    rfl
  | j + 1, v, q, y, a, b, f, x, bo, mo, h, hv, hq, hy => by
    obtain ⟨q, rfl⟩ : ∃ r, q = r + 1 := ⟨q - 1, by omega⟩
    have hyv : upd y 2 (nI v) = upd (m (2 + 1 + p)) 2 (nI v) := by rw [← hy, upd_upd]
    obtain ⟨a1', b1', es, W2⟩ := gM_W W hp hv (show v ≤ 9 by omega) hyv a b f x
    obtain ⟨f2, x2, er, -, h5⟩ := k_rest W2.i W2.b LN73 (by omega) W2.w W2.c
    rw [gM_li] at er
    have hy2 : upd (upd y 2 (nI v)) 2 (m (2 + 1 + p) 2) = m (2 + 1 + p) := by rw [upd_upd]; exact hy
    show ∃ y' a' b' f' x', f11_graceFor_b37B _ _ _ _ _ _ _ _ _ = _ ∧ _
    unfold f11_graceFor_b37B f11_graceFor_b93 s_gr
    rw [show (9 : Int32) = nI 9 from rfl, q_lt (by omega) (by omega), if_neg (by omega), p_nm, gM_st m h6, es, p_bv, er, p_bv, gM_x, h5, p_nm, p_next]
    by_cases hc : s_restW L (upd s (9 + 3 * p) (nI v)) 16 ≤ mo
    · rw [if_pos hc, if_pos hc]
      exact k_grN W hp h6 K a1 w0 j (v + 1) q _ _ _ _ _ _ _ (by omega) (by omega) (by omega) hy2
    · rw [if_neg hc, if_neg hc]
      exact k_grN W hp h6 K a1 w0 j (v + 1) q _ _ _ _ _ _ _ (by omega) (by omega) (by omega) hy2
theorem t_grN {n : lu_M} {L : List Ru} {s : Nat → Int32} (I : SI s) (hL : LV L) (hr : RS' s L) {p : Nat} (hp : p < s_P s) (h6 : p < 6) (a1 : Int32) (ha : a1 = nI p) : ∀ (j v q : Nat) (o u t : Nat → Int32) (bo mo : Int32), v + j = 10 → 1 ≤ v → j < q → ∃ o' u' t', f12_graceFor_b17 (f12_graceFor_b84 a1) a1 q bo mo (nI v) (p_rw (p_rw (p_rw (p_rw n 3 o) 1 u) 4 t) 1 s) = some (s_gr L s p j v bo mo, p_rw (p_rw (p_rw (p_rw n 3 o') 1 u') 4 t') 1 s)
  | 0, v, q, o, u, t, bo, mo, h, hv, hq => by
    obtain ⟨q, rfl⟩ : ∃ r, q = r + 1 := ⟨q - 1, by omega⟩
    refine ⟨o, u, t, ?_⟩
    show f12_graceFor_b17B _ _ _ _ _ _ _ = _
    unfold f12_graceFor_b17B f12_graceFor_b84
    rw [show (10 : Int32) = nI 10 from rfl, q_le (by omega) (by omega), if_pos (by omega)]
    rfl
  | j + 1, v, q, o, u, t, bo, mo, h, hv, hq => by
    subst ha
    obtain ⟨q, rfl⟩ : ∃ r, q = r + 1 := ⟨q - 1, by omega⟩
    have J := I.per2 (lo := 0) (k := 9 + 3 * p) (v := v) hp (Or.inr (Or.inl rfl)) hv (by omega)
    obtain ⟨o1, eo, ho⟩ := t_puts (p_rw (p_rw (p_rw (p_rw n 3 o) 1 u) 4 t) 1 s)
    have ho' : ∀ k, k < 368 → o1 k = s k := fun k hk => by rw [ho k hk, p_rw_s]
    have hm : p_rw (p_rw (p_rw (p_rw (p_rw n 3 o) 1 u) 4 t) 1 s) 3 o1 = p_rw (p_rw (p_rw n 3 o1) 1 s) 4 t := by
      rw [p_rw_sw (a := 1) (b := 3) (by omega), p_rw_sw (a := 4) (b := 3) (by omega), p_rw_sw (a := 1) (b := 3) (by omega), p_rw_rw, p_rw_sw (a := 4) (b := 1) (by omega), p_rw_rw]
    rw [hm] at eo
    have hst : lu_st (p_rw (p_rw (p_rw n 3 o1) 1 s) 4 t) 1 (9 + 3 * p) (nI v) = p_rw (p_rw (p_rw n 3 o1) 1 (upd s (9 + 3 * p) (nI v))) 4 t := p_st2 (by omega) s t _ _
    obtain ⟨t2, e2⟩ := t_rest hL (n := p_rw (p_rw (p_rw n 3 o1) 1 (upd s (9 + 3 * p) (nI v))) 4 t) (s := upd s (9 + 3 * p) (nI v)) (by rw [p_rw_n (by omega), p_rw_s]) (N := 16) (by omega) J (hr.up hL _ (by omega) (by omega))
    obtain ⟨E, J2⟩ := s_rest_I L 16 _ J
    have hm2 : p_rw (p_rw (p_rw (p_rw (p_rw n 3 o1) 1 (upd s (9 + 3 * p) (nI v))) 4 t) 1 (s_rest L (upd s (9 + 3 * p) (nI v)) 16)) 4 t2 = p_rw (p_rw (p_rw n 3 o1) 1 (s_rest L (upd s (9 + 3 * p) (nI v)) 16)) 4 t2 := by
      rw [p_rw_sw (a := 4) (b := 1) (by omega), p_rw_rw, p_rw_rw]
    rw [hm2] at e2
    have h1 : (p_rw (p_rw (p_rw n 3 o1) 1 (s_rest L (upd s (9 + 3 * p) (nI v)) 16)) 4 t2) 1 = s_rest L (upd s (9 + 3 * p) (nI v)) 16 := by rw [p_rw_n (by omega), p_rw_s]
    have hb : f12_putsBack (p_rw (p_rw (p_rw n 3 o1) 1 (s_rest L (upd s (9 + 3 * p) (nI v)) 16)) 4 t2) = some (p_rw (p_rw (p_rw (p_rw n 3 o1) 1 (s_rest L (upd s (9 + 3 * p) (nI v)) 16)) 4 t2) 1 s) :=
      t_putsBack (fun k hk => by rw [p_rw_n (by omega), p_rw_n (by omega), p_rw_s]; exact ho' k hk) (fun k hk => by rw [h1, E.hi (by omega), upd_ne (by omega)])
    show ∃ o' u' t', f12_graceFor_b17B _ _ _ _ _ _ _ = _
    unfold f12_graceFor_b17B f12_graceFor_b60 f12_graceFor_b73 s_gr
    rw [show (10 : Int32) = nI 10 from rfl, q_le (by omega) (by omega), if_neg (by omega), eo, p_bv, show (1 : Int32) = nI 1 from rfl, t_at, p_bi, p_gd (by omega) (by omega), p_nm, nI_clamp (by omega), show 8 + 3 * p + 1 = 9 + 3 * p by omega, hst, show (16 : Int32) = nI 16 from rfl, e2, p_bi, hb, p_bv, p_bv, show nI v + nI 1 = nI (v + 1) from p_next v]
    by_cases hc : s_restW L (upd s (9 + 3 * p) (nI v)) 16 ≤ mo
    · rw [if_pos hc, if_pos hc, if_pos hc]
      exact t_grN I hL hr hp h6 _ rfl j (v + 1) q o1 _ t2 _ _ (by omega) (by omega) (by omega)
    · rw [if_neg hc, if_neg hc, if_neg hc]
      exact t_grN I hL hr hp h6 _ rfl j (v + 1) q o1 _ t2 _ _ (by omega) (by omega) (by omega)
theorem y_graceFor (a : Int32) : Me (f11_graceFor a) (f12_graceFor a) := Me.mk fun m n L R W => by
  have hP := W.i.P6
  unfold f11_graceFor f12_graceFor
  rw [k_per W, t_per W, p_bi, p_bi, p_if, p_if]
  cases h : p_in a.toInt 0 ((s_P (n 1) : Int) - 1)
  · rw [if_neg p_ff, if_neg p_ff]
    exact ⟨_, _, _, rfl, rfl, R⟩
  rw [if_pos rfl, if_pos rfl]
  obtain ⟨p, rfl, hp⟩ := p_in_m1 h (by omega)
  rw [p_gd (by omega) (by omega), p_nm, nI_clamp (by omega)]
  have h6 : p < 6 := by omega
  obtain ⟨y, a', b', f, x, e1, hy⟩ := k_grN W hp h6 (f11_graceFor_b99 (nI p)) (nI p) (m (2 + 1 + p) 2) 9 1 lu_fu (m (2 + 1 + p)) (m (1 + 12)) (m (1 + 13)) (m (1 + 35)) (m 73) 1 (-1) (by omega) (by omega) (p_fu (by omega)) (p_uid _ _)
  have hm : gM m p (m (2 + 1 + p)) (m (1 + 12)) (m (1 + 13)) (m (1 + 35)) (m 73) = m := by
    unfold gM
    rw [p_rw_id, p_rw_id, p_rw_id, p_rw_id, p_rw_id]
  rw [hm] at e1
  obtain ⟨⟨-, -, -⟩, ⟨g1, gl, gu⟩, -⟩ := W.i.per hp
  obtain ⟨r0, r2, r3⟩ := W.b.per h6 hp
  have hg : m (2 + 1 + p) 2 = nI (s_v (n 1) (9 + 3 * p)) := r2.trans g1
  have hy3 : upd y 2 (m (2 + 1 + p) 2) = upd (m (2 + 1 + p)) 2 (nI (s_v (n 1) (9 + 3 * p))) := by rw [hy, ← hg, p_uid]
  obtain ⟨a2, b2, es, W2⟩ := gM_W W hp gl gu hy3 a' b' f x
  obtain ⟨o, u, t, e2⟩ := t_grN (n := n) W.i W.l W.r hp h6 (nI p) rfl 9 1 lu_fu (n 3) (n 1) (n 4) 0 (-1) (by omega) (by omega) (p_fu (by omega))
  rw [p_rw_id, p_rw_id, p_rw_id, p_rw_id] at e2
  have hfirst : s_gr L (n 1) p 9 1 1 (-1) = s_gr L (n 1) p 9 1 0 (-1) := by
    obtain ⟨k, hk, hk2⟩ := s_restW_n L 16 _ (W.i.per2 (lo := 0) (k := 9 + 3 * p) (v := 1) hp (Or.inr (Or.inl rfl)) (by omega) (by omega))
    have hn : ¬ s_restW L (upd (n 1) (9 + 3 * p) (nI 1)) 16 ≤ -1 := by
      rw [hk]
      intro q
      exact nI_pos (show k < 2 ^ 31 by omega) (Int32.lt_of_le_of_lt q (by decide))
    unfold s_gr
    rw [if_neg hn, if_neg hn]
  rw [hfirst] at e1
  have e3 : f11_graceFor_b99 (nI p) (2 + 1 + p) (m (2 + 1 + p) 2) (s_gr L (n 1) p 9 1 0 (-1)) (gM m p y a' b' f x) = some (s_gr L (n 1) p 9 1 0 (-1), gM m p (upd y 2 (m (2 + 1 + p) 2)) a2 b2 f x) := by
    unfold f11_graceFor_b99
    rw [p_nm, gM_st m h6, es, p_bv]
  refine ⟨_, _, _, e1.trans e3, e2, R.now (fun r hr => gM_n m _ _ _ _ _ (by omega) (by omega) (by omega) (by omega) (by omega)) (((((FN.rf n).rw _ _ (by omega)).rw _ _ (by omega)).rw _ _ (by omega)).rw _ _ (by omega)) (L' := L) ?_⟩
  rw [p_rw_s]
  have hs : upd (n 1) (9 + 3 * p) (nI (s_v (n 1) (9 + 3 * p))) = n 1 := by rw [← g1, p_uid]
  rw [hs] at W2
  exact W2

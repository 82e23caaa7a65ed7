/-! THE PURE PART: plans, a leaf, saves and takesBack -/
def s_cnt (f : Nat → Int32) (d : Nat) : Int32 := p_it (fun k x => x + (if f k ≤ 0 then 0 else 1)) 0 d 0
theorem s_cnt_s (f : Nat → Int32) (d : Nat) : s_cnt f (d + 1) = s_cnt f d + (if f d ≤ 0 then 0 else 1) := by
  unfold s_cnt
  rw [p_it_split (fun k x => x + (if f k ≤ 0 then 0 else 1)) d 0 1 0, Nat.zero_add]
  rfl
theorem s_cnt_c {f g : Nat → Int32} {d : Nat} (h : ∀ k, k < d → f k = g k) : s_cnt f d = s_cnt g d :=
  p_it_eq d 0 0 (fun i x _ h2 => by
    show x + _ = x + _
    rw [h i (by omega)])
def qM (m : lu_M) (y z : Nat → Int32) : lu_M := p_rw (p_rw m 74 y) 82 z
theorem qM_st (m : lu_M) (y z : Nat → Int32) (k : Nat) (v : Int32) : lu_st (qM m y z) 74 k v = qM m (upd y k v) z := p_st2 (by omega) y z k v
theorem qM_st2 (m : lu_M) (y z : Nat → Int32) (k : Nat) (v : Int32) : lu_st (qM m y z) 82 k v = qM m y (upd z k v) := p_stc ..
theorem qM74 (m : lu_M) (y z : Nat → Int32) : qM m y z 74 = y := by unfold qM; rw [p_rw_n (by omega), p_rw_s]
theorem qM_n (m : lu_M) (y z : Nat → Int32) {r : Nat} (h1 : r ≠ 74) (h2 : r ≠ 82) : qM m y z r = m r := by unfold qM; rw [p_rw_n h2, p_rw_n h1]
theorem qM82 (m : lu_M) (y z : Nat → Int32) : qM m y z 82 = z := p_rw_s ..
theorem qM_id (m : lu_M) : qM m (m 74) (m 82) = m := by unfold qM; rw [p_rw_id, p_rw_id]
theorem k_weigh {m : lu_M} {len : Nat} (hl : len ≤ 4) (h4 : m 74 4 = nI len) (held : Int32) : ∃ y z, f5_weigh (75 + 1 + len) held m = some (qM m y z) ∧ y 3 = m 74 3 ∧ y 4 = m 74 4 ∧ y 9 = (m 74 9 ||| m (75 + 1 + len) 1) ∧ y 8 = (if (m (75 + 1 + len) 1 &&& m 74 3) = m 74 3 then (if held < m 74 8 then held else m 74 8) else m 74 8) ∧ y 5 = (if m (75 + 1 + len) 5 ≤ m 74 5 then m 74 5 else m (75 + 1 + len) 5) ∧ y 6 = (if m (75 + 1 + len) 5 ≤ m 74 5 then (if m (75 + 1 + len) 5 = m 74 5 then m 74 6 + 1 else m 74 6) else 1) ∧ (if m (75 + 1 + len) 5 ≤ m 74 5 then z = m 82 else ∀ k, k < len → z k = m 81 k) := by
  have h93 : ∀ y z, f5_weigh_b93 (75 + 1 + len) held (qM m y z) = some (qM m (if m (75 + 1 + len) 5 = y 5 then upd y 6 (y 6 + 1) else y) z) := fun y z => by
    unfold f5_weigh_b93 f5_weigh_b114
    rw [qM_n m y z (by omega) (by omega), qM74]
    by_cases h : m (75 + 1 + len) 5 = y 5
    · rw [if_pos h, if_pos h, p_nm, qM_st]
    · rw [if_neg h, if_neg h]
  have h67 : ∀ y z, y 4 = nI len → ∃ z', f5_weigh_b67 (f5_weigh_b93 (75 + 1 + len) held) (75 + 1 + len) held lu_fu 0 (qM m y z) = f5_weigh_b93 (75 + 1 + len) held (qM m y z') ∧ ∀ k, k < len → z' k = m 81 k := fun y z hy =>
    p_loopR (σ := Unit) (fun q i z => f5_weigh_b67 (f5_weigh_b93 (75 + 1 + len) held) (75 + 1 + len) held q i (qM m y z)) (fun z => f5_weigh_b93 (75 + 1 + len) held (qM m y z)) len (fun _ u => u) (fun i z _ => ∀ k, k < i → z k = m 81 k)
      (fun q z _ _ => by
        show f5_weigh_b67B _ _ _ _ _ _ = _
        unfold f5_weigh_b67B
        rw [qM74, hy, if_pos (Int32.le_refl _)])
      (fun q i z _ hi h => by
        refine ⟨upd z i (m 81 i), ?_, fun k hk => ?_⟩
        · show f5_weigh_b67B _ _ _ _ _ _ = _
          unfold f5_weigh_b67B
          rw [qM74, hy, q_le (by omega) (by omega), if_neg (by omega), p_gd (by omega) (by omega), p_gd (by omega) (by omega), p_nm, nI_clamp (by omega), qM_n m y z (by omega) (by omega), qM_st2, p_next]
        · by_cases e : k = i
          · subst e; exact p_us ..
          · rw [upd_ne e]; exact h k (by omega)) len 0 lu_fu z () (by omega) (p_fu (by omega)) (fun k hk => absurd hk (by omega))
  have h41 : ∀ y, y 4 = nI len → ∃ y' z', f5_weigh_b41 (75 + 1 + len) held (qM m y (m 82)) = some (qM m y' z') ∧ y' 3 = y 3 ∧ y' 4 = y 4 ∧ y' 9 = y 9 ∧ y' 8 = y 8 ∧ y' 5 = (if m (75 + 1 + len) 5 ≤ y 5 then y 5 else m (75 + 1 + len) 5) ∧ y' 6 = (if m (75 + 1 + len) 5 ≤ y 5 then (if m (75 + 1 + len) 5 = y 5 then y 6 + 1 else y 6) else 1) ∧ (if m (75 + 1 + len) 5 ≤ y 5 then z' = m 82 else ∀ k, k < len → z' k = m 81 k) := fun y hy => by
    unfold f5_weigh_b41
    rw [qM_n m y _ (by omega) (by omega), qM74]
    by_cases h : m (75 + 1 + len) 5 ≤ y 5
    · rw [if_pos h, h93]
      refine ⟨_, _, rfl, ?_⟩
      rw [if_pos h, if_pos h, if_pos h]
      by_cases h2 : m (75 + 1 + len) 5 = y 5
      · rw [if_pos h2, if_pos h2]
        exact ⟨rfl, rfl, rfl, rfl, rfl, rfl, rfl⟩
      · rw [if_neg h2, if_neg h2]
        exact ⟨rfl, rfl, rfl, rfl, rfl, rfl, rfl⟩
    · rw [if_neg h, p_nm, p_nm, qM_st, qM_st]
      obtain ⟨z', e, hz⟩ := h67 (upd (upd y 5 (m (75 + 1 + len) 5)) 6 0) (m 82) hy
      rw [e, h93]
      refine ⟨_, _, rfl, ?_⟩
      rw [if_neg h, if_neg h, if_neg h, if_pos (show m (75 + 1 + len) 5 = upd (upd y 5 (m (75 + 1 + len) 5)) 6 0 5 from rfl)]
      exact ⟨rfl, rfl, rfl, rfl, rfl, rfl, hz⟩
  unfold f5_weigh
  have e1 : lu_st m 74 9 (m 74 9 ||| m (75 + 1 + len) 1) = qM m (upd (m 74) 9 (m 74 9 ||| m (75 + 1 + len) 1)) (m 82) := by
    have := qM_st m (m 74) (m 82) 9 (m 74 9 ||| m (75 + 1 + len) 1)
    rw [qM_id] at this
    exact this
  rw [p_nm, e1, qM_n m _ _ (by omega) (by omega), qM74]
  by_cases h : (m (75 + 1 + len) 1 &&& m 74 3) = m 74 3
  · rw [if_pos (show (m (75 + 1 + len) 1 &&& upd (m 74) 9 (m 74 9 ||| m (75 + 1 + len) 1) 3) = upd (m 74) 9 (m 74 9 ||| m (75 + 1 + len) 1) 3 from h), p_nm, qM_st]
    obtain ⟨y', z', e, a1, a2, a3, a4, a5, a6, a7⟩ := h41 (upd (upd (m 74) 9 (m 74 9 ||| m (75 + 1 + len) 1)) 8 (if held < upd (m 74) 9 (m 74 9 ||| m (75 + 1 + len) 1) 8 then held else upd (m 74) 9 (m 74 9 ||| m (75 + 1 + len) 1) 8)) h4
    refine ⟨y', z', e, a1, a2, a3, ?_, a5, a6, a7⟩
    rw [if_pos h]
    exact a4
  · rw [if_neg (show ¬ (m (75 + 1 + len) 1 &&& upd (m 74) 9 (m 74 9 ||| m (75 + 1 + len) 1) 3) = upd (m 74) 9 (m 74 9 ||| m (75 + 1 + len) 1) 3 from h)]
    obtain ⟨y', z', e, a1, a2, a3, a4, a5, a6, a7⟩ := h41 (upd (m 74) 9 (m 74 9 ||| m (75 + 1 + len) 1)) h4
    refine ⟨y', z', e, a1, a2, a3, ?_, a5, a6, a7⟩
    rw [if_neg h]
    exact a4
def rM (n : lu_M) (y z : Nat → Int32) : lu_M := p_rw (p_rw n 0 y) 9 z
theorem rM_st (m : lu_M) (y z : Nat → Int32) (k : Nat) (v : Int32) : lu_st (rM m y z) 0 k v = rM m (upd y k v) z := p_st2 (by omega) y z k v
theorem rM_st2 (m : lu_M) (y z : Nat → Int32) (k : Nat) (v : Int32) : lu_st (rM m y z) 9 k v = rM m y (upd z k v) := p_stc ..
theorem rM0 (m : lu_M) (y z : Nat → Int32) : rM m y z 0 = y := by unfold rM; rw [p_rw_n (by omega), p_rw_s]
theorem rM9 (m : lu_M) (y z : Nat → Int32) : rM m y z 9 = z := p_rw_s ..
theorem rM_n (m : lu_M) (y z : Nat → Int32) {r : Nat} (h1 : r ≠ 0) (h2 : r ≠ 9) : rM m y z r = m r := by unfold rM; rw [p_rw_n h2, p_rw_n h1]
theorem rM_id (m : lu_M) : rM m (m 0) (m 9) = m := by unfold rM; rw [p_rw_id, p_rw_id]
theorem t_ended {n : lu_M} {len : Nat} (hl : len ≤ 4) (J : SI (n 1)) (w : Int32) : ∃ y z, f12_ended (nI len) w n = some (rM n y z) ∧ (∀ i, i < 10 ∨ 13 < i → y i = n 0 i) ∧ y 13 = (n 0 13 ||| s_those (n 1) 1) ∧ y 12 = (if (n 0 14 &&& (s_those (n 1) 1 ^^^ (-1 : Int32))) = 0 then (if n 0 12 ≤ s_cnt (n 8) len then n 0 12 else s_cnt (n 8) len) else n 0 12) ∧ y 10 = (if w ≤ n 0 10 then n 0 10 else w) ∧ y 11 = (if w ≤ n 0 10 then (if w = n 0 10 then n 0 11 + 1 else n 0 11) else 1) ∧ (if w ≤ n 0 10 then z = n 9 else ∀ k, k < len → z k = n 8 k) := by
  have h100 : ∀ y z, ∃ y', f12_ended_b100 (nI len) w (s_cnt (n 8) len) (rM n y z) = some (rM n y' z) ∧ (∀ i, i < 12 ∨ 13 < i → y' i = y i) ∧ y' 13 = (y 13 ||| s_those (n 1) 1) ∧ y' 12 = (if (y 14 &&& (s_those (n 1) 1 ^^^ (-1 : Int32))) = 0 then (if y 12 ≤ s_cnt (n 8) len then y 12 else s_cnt (n 8) len) else y 12) := fun y z => by
    have et := t_those (n := rM n y z) (by rw [rM_n n y z (by omega) (by omega)]; exact J) 1
    rw [rM_n n y z (by omega) (by omega)] at et
    unfold f12_ended_b100 f12_ended_b143 f12_ended_b147
    rw [et, p_bi, p_nm, rM0, rM_st, rM0]
    by_cases h : (y 14 &&& (s_those (n 1) 1 ^^^ (-1 : Int32))) = 0
    · rw [if_pos (show (upd y 13 (y 13 ||| s_those (n 1) 1) 14 &&& (s_those (n 1) 1 ^^^ (-1 : Int32))) = 0 from h)]
      by_cases h2 : y 12 ≤ s_cnt (n 8) len
      · rw [if_pos (show upd y 13 (y 13 ||| s_those (n 1) 1) 12 ≤ s_cnt (n 8) len from h2), p_nm, rM_st]
        refine ⟨_, rfl, fun i hi => ?_, rfl, ?_⟩
        · rw [upd_ne (by omega), upd_ne (by omega)]
        · rw [if_pos h, if_pos h2]; rfl
      · rw [if_neg (show ¬ upd y 13 (y 13 ||| s_those (n 1) 1) 12 ≤ s_cnt (n 8) len from h2), p_nm, rM_st]
        refine ⟨_, rfl, fun i hi => ?_, rfl, ?_⟩
        · rw [upd_ne (by omega), upd_ne (by omega)]
        · rw [if_pos h, if_neg h2]; rfl
    · rw [if_neg (show ¬ (upd y 13 (y 13 ||| s_those (n 1) 1) 14 &&& (s_those (n 1) 1 ^^^ (-1 : Int32))) = 0 from h), p_nm, rM_st]
      refine ⟨_, rfl, fun i hi => ?_, rfl, ?_⟩
      · rw [upd_ne (by omega), upd_ne (by omega)]
      · rw [if_neg h]; rfl
  have h70 : ∀ y z, f12_ended_b70 (f12_ended_b100 (nI len) w) (nI len) w lu_fu 0 0 (rM n y z) = f12_ended_b100 (nI len) w (s_cnt (n 8) len) (rM n y z) := fun y z =>
    (p_loop (fun q i (x : Int32) => f12_ended_b70 (f12_ended_b100 (nI len) w) (nI len) w q x i (rM n y z)) (fun x => f12_ended_b100 (nI len) w x (rM n y z)) len (fun k x => x + (if n 8 k ≤ 0 then 0 else 1)) (fun _ _ => True)
      (fun q x _ => by
        show f12_ended_b70B _ _ _ _ _ _ _ = _
        unfold f12_ended_b70B
        rw [if_pos (Int32.le_refl _)])
      (fun q i x hi _ => by
        show f12_ended_b70B _ _ _ _ _ _ _ = _
        unfold f12_ended_b70B f12_ended_b92
        rw [q_le (by omega) (by omega), if_neg (by omega), p_gd (by omega) (by omega), nI_clamp (by omega), rM_n n y z (by omega) (by omega), p_nm, p_nm, p_next]
        by_cases h : n 8 i ≤ 0
        · rw [if_pos h, if_pos h]
        · rw [if_neg h, if_neg h])
      (fun _ _ _ _ => trivial) len 0 lu_fu 0 (by omega) (p_fu (by omega)) trivial).1
  have h43 : ∀ y z, f12_ended_b43 (nI len) w (rM n y z) = f12_ended_b100 (nI len) w (s_cnt (n 8) len) (rM n (upd y 11 (if w = y 10 then y 11 + 1 else y 11)) z) := fun y z => by
    unfold f12_ended_b43 f12_ended_b61
    rw [rM0, p_nm, p_nm, rM_st, rM_st, h70, h70]
    by_cases h : w = y 10
    · rw [if_pos h, if_pos h]
    · rw [if_neg h, if_neg h, Int32.add_zero]
  have h20 : ∀ y z, ∃ z', f12_ended_b20 (f12_ended_b43 (nI len) w) (nI len) w lu_fu 0 (rM n y z) = f12_ended_b43 (nI len) w (rM n y z') ∧ ∀ k, k < len → z' k = n 8 k := fun y z =>
    p_loopR (σ := Unit) (fun q i z => f12_ended_b20 (f12_ended_b43 (nI len) w) (nI len) w q i (rM n y z)) (fun z => f12_ended_b43 (nI len) w (rM n y z)) len (fun _ u => u) (fun i z _ => ∀ k, k < i → z k = n 8 k)
      (fun q z _ _ => by
        show f12_ended_b20B _ _ _ _ _ _ = _
        unfold f12_ended_b20B
        rw [if_pos (Int32.le_refl _)])
      (fun q i z _ hi h => by
        refine ⟨upd z i (n 8 i), ?_, fun k hk => ?_⟩
        · show f12_ended_b20B _ _ _ _ _ _ = _
          unfold f12_ended_b20B
          rw [q_le (by omega) (by omega), if_neg (by omega), p_gd (by omega) (by omega), p_gd (by omega) (by omega), p_nm, nI_clamp (by omega), rM_n n y z (by omega) (by omega), rM_st2, p_next]
        · by_cases e : k = i
          · subst e; exact p_us ..
          · rw [upd_ne e]; exact h k (by omega)) len 0 lu_fu z () (by omega) (p_fu (by omega)) (fun k hk => absurd hk (by omega))
  have hn := rM_id n
  unfold f12_ended
  by_cases h : w ≤ n 0 10
  · rw [if_pos h]
    have e := h43 (n 0) (n 9)
    rw [hn] at e
    obtain ⟨y', e2, b1, b2, b3⟩ := h100 (upd (n 0) 11 (if w = n 0 10 then n 0 11 + 1 else n 0 11)) (n 9)
    refine ⟨y', n 9, e.trans e2, fun i hi => ?_, b2, b3, ?_, ?_, ?_⟩
    · rw [b1 i (by omega), upd_ne (by omega)]
    · rw [if_pos h, b1 10 (by omega)]; rfl
    · rw [if_pos h, b1 11 (by omega)]; rfl
    · rw [if_pos h]
  · rw [if_neg h, p_nm, p_nm]
    have e0 : lu_st (lu_st n 0 10 w) 0 11 0 = rM n (upd (upd (n 0) 10 w) 11 0) (n 9) := by
      have h1 := rM_st n (n 0) (n 9) 10 w
      rw [hn] at h1
      rw [h1, rM_st]
    rw [e0]
    obtain ⟨z', e1, hz⟩ := h20 (upd (upd (n 0) 10 w) 11 0) (n 9)
    rw [e1, h43]
    obtain ⟨y', e2, b1, b2, b3⟩ := h100 (upd (upd (upd (n 0) 10 w) 11 0) 11 (if w = upd (upd (n 0) 10 w) 11 0 10 then upd (upd (n 0) 10 w) 11 0 11 + 1 else upd (upd (n 0) 10 w) 11 0 11)) z'
    refine ⟨y', z', e2, fun i hi => ?_, b2, b3, ?_, ?_, ?_⟩
    · rw [b1 i (by omega), upd_ne (by omega), upd_ne (by omega), upd_ne (by omega)]
    · rw [if_neg h, b1 10 (by omega)]; rfl
    · rw [if_neg h, b1 11 (by omega), p_us, if_pos (show w = upd (upd (n 0) 10 w) 11 0 10 from rfl)]; rfl
    · rw [if_neg h]; exact hz
theorem p_12 (d i : Nat) : ((12 : Int32) * nI d) + nI i = nI (12 * d + i) := by rw [show (12 : Int32) = nI 12 from rfl, pk_mul, nI_add]
theorem t_saves (n : lu_M) {d : Nat} (hd : d ≤ 4) : ∃ g, f12_saves (nI d) n = some (p_rw n 7 g) ∧ (∀ e, e < 10 → g (12 * d + e) = n 1 (30 + 5 * e)) ∧ g (12 * d + 10) = n 1 3 ∧ g (12 * d + 11) = n 1 4 ∧ ∀ i, i < 12 * d → g i = n 7 i := by
  obtain ⟨g, e, h, h2⟩ := p_loopR (σ := Unit) (fun q i g => f12_saves_b2 (f12_saves_b31 (nI d)) (nI d) q i (p_rw n 7 g)) (fun g => f12_saves_b31 (nI d) (p_rw n 7 g)) 10 (fun _ u => u) (fun i g _ => (∀ e, e < i → g (12 * d + e) = n 1 (30 + 5 * e)) ∧ ∀ i, i < 12 * d → g i = n 7 i)
    (fun q g _ _ => by
      show f12_saves_b2B _ _ _ _ _ = _
      unfold f12_saves_b2B
      rw [show (10 : Int32) = nI 10 from rfl, if_pos (Int32.le_refl _)])
    (fun q i g _ hi h => by
      refine ⟨upd g (12 * d + i) (n 1 (30 + 5 * i)), ?_, fun k hk => ?_, fun k hk => ?_⟩
      · show f12_saves_b2B _ _ _ _ _ = _
        unfold f12_saves_b2B
        rw [show (10 : Int32) = nI 10 from rfl, q_le (by omega) (by omega), if_neg (by omega), show (4 : Int32) = nI 4 from rfl, t_deedIs _ (by omega) (by omega), p_bi, p_12, p_gd (by omega) (by omega), p_nm, nI_clamp (by omega), p_rw_n (by omega), p_stc, p_next, show 26 + 5 * i + 4 = 30 + 5 * i by omega]
      · by_cases e : k = i
        · subst e; exact p_us ..
        · rw [upd_ne (by omega)]; exact h.1 k (by omega)
      · rw [upd_ne (by omega)]; exact h.2 k hk) 10 0 lu_fu (n 7) () (by omega) (p_fu (by omega)) ⟨fun k hk => absurd hk (by omega), fun k hk => rfl⟩
  rw [p_rw_id] at e
  refine ⟨upd (upd g (12 * d + 10) (n 1 3)) (12 * d + 11) (n 1 4), ?_, fun k hk => ?_, ?_, p_us .., fun k hk => ?_⟩
  · unfold f12_saves
    refine e.trans ?_
    unfold f12_saves_b31
    rw [show (10 : Int32) = nI 10 from rfl, show (11 : Int32) = nI 11 from rfl, p_12, p_12, p_gd (by omega) (by omega), p_nm, p_gd (by omega) (by omega), p_nm, nI_clamp (by omega), nI_clamp (by omega), p_stc, p_stc, p_rw_n (by omega), p_rw_n (by omega)]
  · rw [upd_ne (by omega), upd_ne (by omega)]; exact h k hk
  · rw [upd_ne (by omega), p_us]
  · rw [upd_ne (by omega), upd_ne (by omega)]; exact h2 k hk
theorem t_takesBack {n : lu_M} {d : Nat} (hd : d ≤ 4) {u : Nat → Int32} (E : SE u (n 1)) (hs : ∀ e, e < 10 → n 7 (12 * d + e) = u (30 + 5 * e)) (h3 : n 7 (12 * d + 10) = u 3) (h4 : n 7 (12 * d + 11) = u 4) : f12_takesBack (nI d) n = some (p_rw n 1 u) := by
  obtain ⟨x, e, h, h2⟩ := p_loopR (σ := Unit) (fun q i x => f12_takesBack_b2 (f12_takesBack_b35 (nI d)) (nI d) q i (p_rw n 1 x)) (fun x => f12_takesBack_b35 (nI d) (p_rw n 1 x)) 10 (fun _ u => u) (fun i x _ => SE u x ∧ ∀ e, e < i → x (30 + 5 * e) = u (30 + 5 * e))
    (fun q g _ _ => by
      show f12_takesBack_b2B _ _ _ _ _ = _
      unfold f12_takesBack_b2B
      rw [show (10 : Int32) = nI 10 from rfl, if_pos (Int32.le_refl _)])
    (fun q i x _ hi h => by
      refine ⟨upd x (30 + 5 * i) (u (30 + 5 * i)), ?_, h.1.st (by omega) _, fun k hk => ?_⟩
      · show f12_takesBack_b2B _ _ _ _ _ = _
        unfold f12_takesBack_b2B
        rw [show (10 : Int32) = nI 10 from rfl, q_le (by omega) (by omega), if_neg (by omega), show (4 : Int32) = nI 4 from rfl, t_spot, p_bi, p_12, p_gd (by omega) (by omega), p_gd (by omega) (by omega), p_nm, nI_clamp (by omega), nI_clamp (by omega), p_rw_n (by omega), p_stc, p_next, show 26 + 5 * i + 4 = 30 + 5 * i by omega, hs i hi]
      · by_cases e : k = i
        · subst e; exact p_us ..
        · rw [upd_ne (by omega)]; exact h.2 k (by omega)) 10 0 lu_fu (n 1) () (by omega) (p_fu (by omega)) ⟨E, fun k hk => absurd hk (by omega)⟩
  rw [p_rw_id] at e
  unfold f12_takesBack
  refine e.trans ?_
  unfold f12_takesBack_b35
  rw [show (10 : Int32) = nI 10 from rfl, show (11 : Int32) = nI 11 from rfl, p_12, p_12, p_gd (by omega) (by omega), p_nm, p_gd (by omega) (by omega), p_nm, nI_clamp (by omega), nI_clamp (by omega), p_stc, p_stc, p_rw_n (by omega), p_rw_n (by omega), h3, h4]
  congr 2
  funext i
  by_cases e4 : i = 4
  · subst e4; exact p_us ..
  rw [upd_ne e4]
  by_cases e3 : i = 3
  · subst e3; exact p_us ..
  rw [upd_ne e3]
  by_cases he : ∃ k, k < 10 ∧ i = 30 + 5 * k
  · obtain ⟨k, hk, rfl⟩ := he
    exact h2 k hk
  · exact h i e3 e4 (fun k hk q => he ⟨k, hk, q⟩)
theorem p_sub_iff (x w : Int32) : ((x &&& w) = w) ↔ ((w &&& (x ^^^ (-1 : Int32))) = 0) := by
  constructor
  · intro h
    apply b_ext
    intro i hi
    have := congrArg (fun y => bt y i) h
    simp only [b_and] at this
    rw [b_and, b_xor, b_m1 i hi, b_0]
    cases h1 : bt x i <;> cases h2 : bt w i <;> simp_all
  · intro h
    apply b_ext
    intro i hi
    have := congrArg (fun y => bt y i) h
    simp only [b_and, b_xor, b_m1 i hi, b_0] at this
    rw [b_and]
    cases h1 : bt x i <;> cases h2 : bt w i <;> simp_all
theorem p_minmax (a f : Int32) : (if a < f then a else f) = (if f ≤ a then f else a) := by
  by_cases h : f ≤ a
  · rw [if_pos h, if_neg (Int32.not_lt.mpr h)]
  · rw [if_neg h, if_pos (Int32.not_le.mp h)]

/-! THE PURE PART: the tape's tokens in the reference; words -/
def TPn (b : Nat → Nat) (len : Nat) (N : lu_M) : Prop := len ≤ 200 ∧ N 0 23 = nI len ∧ (∀ i, i < len → N 11 i = nI (b i)) ∧ ∀ i, i < len → b i ≤ 255
theorem TPn.rw {b : Nat → Nat} {len : Nat} {N : lu_M} (T : TPn b len N) {y : Nat → Int32} (h : y 23 = N 0 23) : TPn b len (p_rw N 0 y) :=
  ⟨T.1, by rw [p_rw_s, h]; exact T.2.1, fun i hi => by rw [p_rw_n (by omega)]; exact T.2.2.1 i hi, T.2.2.2⟩
def g_by (b : Nat → Nat) (len a : Nat) : Int32 := if a < len then nI (b a) else -1
theorem t_byteAt {b : Nat → Nat} {len : Nat} {N : lu_M} (T : TPn b len N) {a : Nat} (ha : a ≤ 300) : f12_byteAt (nI a) N = some (g_by b len a, N) := by
  obtain ⟨hl, h1, h2, h3⟩ := T
  unfold f12_byteAt f12_byteAt_b18 g_by
  rw [h1, q_le (by omega) (by omega)]
  by_cases h : len ≤ a
  · rw [if_pos h, if_neg (by omega)]
  · rw [if_neg h, if_pos (by omega), p_gd (by omega) (by omega), nI_clamp (by omega), h2 a (by omega)]
theorem g_by_in {b : Nat → Nat} {len a : Nat} (hb : ∀ i, i < len → b i ≤ 255) {lo hi : Nat} (h1 : hi < 300) : p_in (g_by b len a).toInt lo hi = (decide (a < len) && decide (lo ≤ b a ∧ b a ≤ hi)) := by
  unfold g_by p_in
  by_cases h : a < len
  · have := hb a h
    rw [if_pos h, nI_toInt (by omega), decide_eq_true h, Bool.true_and]
    exact decide_eq_decide.mpr ⟨fun q => by omega, fun q => by omega⟩
  · rw [if_neg h, decide_eq_false h, Bool.false_and]
    exact decide_eq_false (fun q => by
      have h3 : ((-1 : Int32).toInt : Int) = -1 := by decide
      rw [h3] at q
      omega)
theorem t_isLetter {b : Nat → Nat} {len : Nat} {N : lu_M} (hb : ∀ i, i < len → b i ≤ 255) (a : Nat) : f12_isLetter (g_by b len a) N = some (p_b (g_L b len a), N) := by
  unfold f12_isLetter
  rw [show (97 : Int64) = (97 : Int32).toInt64 from rfl, show (122 : Int64) = (122 : Int32).toInt64 from rfl, t_in32, p_bi, p_gb]
  have := g_by_in (b := b) (len := len) (a := a) hb (lo := 97) (hi := 122) (by omega)
  unfold g_L
  rw [← this]
  rfl
theorem t_isDigit {b : Nat → Nat} {len : Nat} {N : lu_M} (hb : ∀ i, i < len → b i ≤ 255) (a : Nat) : f12_isDigit (g_by b len a) N = some (p_b (g_D b len a), N) := by
  unfold f12_isDigit
  rw [show (48 : Int64) = (48 : Int32).toInt64 from rfl, show (57 : Int64) = (57 : Int32).toInt64 from rfl, t_in32, p_bi, p_gb]
  have := g_by_in (b := b) (len := len) (a := a) hb (lo := 48) (hi := 57) (by omega)
  unfold g_D
  rw [← this]
  rfl
theorem g_by_32 {b : Nat → Nat} {len a : Nat} (hb : ∀ i, i < len → b i ≤ 255) (c : Nat) (hc : c < 300) : (g_by b len a = nI c) ↔ (a < len ∧ b a = c) := by
  unfold g_by
  by_cases h : a < len
  · have := hb a h
    rw [if_pos h, nI_eq (by omega) (by omega)]
    exact ⟨fun q => ⟨h, q⟩, fun q => q.2⟩
  · rw [if_neg h]
    exact ⟨fun q => absurd q.symm (p_neg (by omega) (by decide)), fun q => absurd q.1 h⟩
theorem t_skip {b : Nat → Nat} {len : Nat} {N : lu_M} (T : TPn b len N) (K : lu_M → Option lu_M) : ∀ (j i q : Nat) (y : Nat → Int32), i + j = 201 → j < q → y 23 = N 0 23 → y 24 = nI i → f12_token_b8 K q (p_rw N 0 y) = K (p_rw N 0 (upd y 24 (nI (g_rn (g_B b len) j i))))
  | j, i, q, y, h, hq, h23, h24 => by
    have hl := T.1
    obtain ⟨q, rfl⟩ : ∃ r, q = r + 1 := ⟨q - 1, by omega⟩
    have hno : g_B b len i = false → g_rn (g_B b len) j i = i := fun hb => by
      cases j with
      | zero => rfl
      | succ j => show (if g_B b len i then _ else i) = i; rw [hb, if_neg p_ff]
    have hid : p_rw N 0 y = p_rw N 0 (upd y 24 (nI i)) := by rw [← h24, p_uid]
    show f12_token_b8B _ _ _ = _
    unfold f12_token_b8B
    rw [p_rw_s, h24, t_byteAt (T.rw h23) (by omega), p_bi]
    cases hb : g_B b len i
    · have hne : ¬ g_by b len i = (32 : Int32) := fun q => by
        obtain ⟨q1, q2⟩ := (g_by_32 T.2.2.2 32 (by omega)).mp q
        unfold g_B at hb
        rw [decide_eq_true q1, decide_eq_true (show 32 ≤ b i ∧ b i ≤ 32 by omega)] at hb
        cases hb
      rw [if_neg hne, hno hb, ← hid]
    · have hil := g_lt (b := b) hb
      obtain ⟨j, rfl⟩ : ∃ r, j = r + 1 := ⟨j - 1, by omega⟩
      have e : g_rn (g_B b len) (j + 1) i = g_rn (g_B b len) j (i + 1) := by
        show (if g_B b len i then _ else i) = _
        rw [hb, if_pos rfl]
      have heq : g_by b len i = (32 : Int32) := (g_by_32 T.2.2.2 32 (by omega)).mpr ⟨hil.1, by omega⟩
      rw [if_pos heq, p_nm, p_rw_s, h24, p_next, p_stc, e]
      rw [t_skip T K j (i + 1) q (upd y 24 (nI (i + 1))) (by omega) (by omega) (by rw [upd_ne (by omega)]; exact h23) (p_us ..), upd_upd]
/-- to the end of letters, or of digits -/
theorem t_run {b : Nat → Nat} {len : Nat} {N : lu_M} (T : TPn b len N) (w d : Bool) (hwd : w = false ∨ d = false) (K : lu_M → Option lu_M) : ∀ (j i q : Nat) (y : Nat → Int32), i + j = 201 → j < q → y 23 = N 0 23 → y 25 = nI i → f12_token_b86 K q (p_b w) (p_b d) (p_rw N 0 y) = K (p_rw N 0 (upd y 25 (nI (g_rn (fun i => (w && g_L b len i) || (d && g_D b len i)) j i))))
  | j, i, q, y, h, hq, h23, h25 => by
    have hl := T.1
    obtain ⟨q, rfl⟩ : ∃ r, q = r + 1 := ⟨q - 1, by omega⟩
    have hid : p_rw N 0 y = p_rw N 0 (upd y 25 (nI i)) := by rw [← h25, p_uid]
    have hno : ((w && g_L b len i) || (d && g_D b len i)) = false → g_rn (fun i => (w && g_L b len i) || (d && g_D b len i)) j i = i := fun hb => by
      cases j with
      | zero => rfl
      | succ j => show (if ((w && g_L b len i) || (d && g_D b len i)) then _ else i) = i; rw [hb, if_neg p_ff]
    have hyes : ((w && g_L b len i) || (d && g_D b len i)) = true → f12_token_b86 K q (p_b w) (p_b d) (p_rw N 0 (upd y 25 (nI (i + 1)))) = K (p_rw N 0 (upd y 25 (nI (g_rn (fun i => (w && g_L b len i) || (d && g_D b len i)) j i)))) := fun hb => by
      have hil : i < len := by
        rw [Bool.or_eq_true, Bool.and_eq_true, Bool.and_eq_true] at hb
        rcases hb with hb | hb
        · exact g_Ll b len i hb.2
        · exact g_Dl b len i hb.2
      obtain ⟨j, rfl⟩ : ∃ r, j = r + 1 := ⟨j - 1, by omega⟩
      have e : g_rn (fun i => (w && g_L b len i) || (d && g_D b len i)) (j + 1) i = g_rn (fun i => (w && g_L b len i) || (d && g_D b len i)) j (i + 1) := by
        show (if ((w && g_L b len i) || (d && g_D b len i)) then _ else i) = _
        rw [hb, if_pos rfl]
      rw [t_run T w d hwd K j (i + 1) q (upd y 25 (nI (i + 1))) (by omega) (by omega) (by rw [upd_ne (by omega)]; exact h23) (p_us ..), upd_upd, e]
    have hL := t_isLetter (N := p_rw N 0 y) T.2.2.2 i
    have hD := t_isDigit (N := p_rw N 0 y) T.2.2.2 i
    have hB := t_byteAt (T.rw h23) (a := i) (by omega)
    show f12_token_b86B _ _ _ _ _ = _
    unfold f12_token_b86B
    cases w
    · rw [if_pos (show p_b false = 0 from rfl)]
      unfold f12_token_b104 f12_token_b122
      cases d
      · rw [if_pos (show p_b false = 0 from rfl), hno rfl, ← hid]
      · rw [if_neg (show ¬ p_b true = 0 by decide), p_rw_s, h25, hB, p_bi, hD, p_bi, p_if]
        cases hd : g_D b len i
        · rw [if_neg p_ff, hno (by rw [hd]; rfl), ← hid]
        · rw [if_pos rfl, p_nm, p_rw_s, h25, p_next, p_stc]
          exact hyes (by rw [hd]; rfl)
    · have hd : d = false := hwd.resolve_left (fun q => by cases q)
      subst hd
      rw [if_neg (show ¬ p_b true = 0 by decide), p_rw_s, h25, hB, p_bi, hL, p_bi, p_if]
      unfold f12_token_b104 f12_token_b122
      cases hw : g_L b len i
      · rw [if_neg p_ff, if_pos (show p_b false = 0 from rfl), hno (by rw [hw]; rfl), ← hid]
      · rw [if_pos rfl, p_nm, p_rw_s, h25, p_next, p_stc]
        exact hyes (by rw [hw]; rfl)
theorem g_rn_c {p r : Nat → Bool} (h : ∀ i, p i = r i) : ∀ (j i : Nat), g_rn p j i = g_rn r j i
  | 0, _ => rfl
  | j + 1, i => by
    unfold g_rn
    rw [h i, g_rn_c h j (i + 1)]
theorem g_LD (b : Nat → Nat) (len i : Nat) (h : g_L b len i = true) : g_D b len i = false := by
  have := g_lt (b := b) h
  unfold g_D
  rw [decide_eq_false (show ¬ (48 ≤ b i ∧ b i ≤ 57) by omega), Bool.and_false]
theorem t_tok {b : Nat → Nat} {len : Nat} {N : lu_M} (T : TPn b len N) {e : Nat} (he : N 0 25 = nI e) (hel : e ≤ len) : ∃ y, f12_token N = some (p_rw N 0 y) ∧ (∀ i, i ≠ 24 → i ≠ 25 → y i = N 0 i) ∧ y 24 = nI (g_to (g_B b len) e) ∧ y 25 = nI (g_nx b len (g_to (g_B b len) e)) := by
  have hl := T.1
  obtain ⟨p1, p2, -, -⟩ := g_to_p (g_Bl b len) hl (i := e) (by omega)
  have hfl := p2 hel
  have e0 := t_skip T f12_token_b34 (201 - e) e lu_fu (upd (N 0) 24 (nI e)) (by omega) (p_fu (by omega)) (upd_ne (by omega)) (p_us ..)
  have e0' : f12_token N = f12_token_b34 (p_rw N 0 (upd (N 0) 24 (nI (g_to (g_B b len) e)))) := by
    unfold f12_token
    rw [p_nm, p_st, he]
    refine e0.trans ?_
    rw [upd_upd]
    rfl
  rw [e0']
  generalize g_to (g_B b len) e = f at *
  have T1 : TPn b len (p_rw N 0 (upd (N 0) 24 (nI f))) := T.rw (upd_ne (by omega))
  unfold f12_token_b34
  rw [p_rw_s, p_us, t_byteAt T1 (by omega), p_bi, t_isLetter T.2.2.2, p_bi, p_rw_s, p_us, t_byteAt T1 (by omega), p_bi, t_isDigit T.2.2.2, p_bi, p_rw_s, p_us, upd_ne (show (23 : Nat) ≠ 24 by omega), T.2.1, q_le (by omega) (by omega), p_next]
  have hrun : ∀ (z : Nat), z ≤ 201 → f12_token_b83 (p_b (g_L b len f)) (p_b (g_D b len f)) (nI z) (p_rw N 0 (upd (N 0) 24 (nI f))) = some (p_rw N 0 (upd (upd (N 0) 24 (nI f)) 25 (nI (g_rn (fun i => (g_L b len f && g_L b len i) || (g_D b len f && g_D b len i)) (201 - z) z)))) := fun z hz => by
    unfold f12_token_b83
    rw [p_nm, p_stc, t_run T (g_L b len f) (g_D b len f) (by
      cases hL : g_L b len f
      · exact Or.inl rfl
      · exact Or.inr (g_LD b len f hL)) f12_token_b135 (201 - z) z lu_fu (upd (upd (N 0) 24 (nI f)) 25 (nI z)) (by omega) (p_fu (by omega)) (by rw [upd_ne (by omega), upd_ne (by omega)]) (p_us ..), upd_upd]
    rfl
  have fin : ∀ v : Nat, v = g_nx b len f → ∃ y, some (p_rw N 0 (upd (upd (N 0) 24 (nI f)) 25 (nI v))) = some (p_rw N 0 y) ∧ (∀ i, i ≠ 24 → i ≠ 25 → y i = N 0 i) ∧ y 24 = nI f ∧ y 25 = nI (g_nx b len f) := fun v hv => ⟨_, rfl, fun i h1 h2 => by rw [upd_ne h2, upd_ne h1], by rw [upd_ne (by omega), p_us], by rw [p_us, hv]⟩
  by_cases h : len ≤ f
  · rw [if_pos h, hrun f (by omega)]
    refine fin _ ?_
    have e1 : g_L b len f = false := Bool.eq_false_iff.mpr (fun q => by have := g_Ll b len f q; omega)
    have e2 : g_D b len f = false := Bool.eq_false_iff.mpr (fun q => by have := g_Dl b len f q; omega)
    rw [e1, e2]
    unfold g_nx
    rw [if_pos h, g_rn_c (p := fun i => false && g_L b len i || false && g_D b len i) (r := fun _ => false) (fun i => rfl)]
    obtain ⟨j, hj⟩ : ∃ j, 201 - f = j + 1 := ⟨200 - f, by omega⟩
    rw [hj]
    rfl
  · rw [if_neg h, hrun (f + 1) (by omega)]
    refine fin _ ?_
    unfold g_nx
    rw [if_neg h]
    cases hL : g_L b len f
    · rw [if_neg p_ff]
      cases hD : g_D b len f
      · rw [if_neg p_ff, g_rn_c (p := fun i => false && g_L b len i || false && g_D b len i) (r := fun _ => false) (fun i => rfl)]
        obtain ⟨j, hj⟩ : ∃ j, 201 - (f + 1) = j + 1 := ⟨199 - f, by omega⟩
        rw [hj]
        rfl
      · rw [if_pos rfl, g_rn_c (r := g_D b len) (fun i => by rw [Bool.false_and, Bool.false_or, Bool.true_and])]
        rfl
    · rw [if_pos rfl, g_LD b len f hL, g_rn_c (r := g_L b len) (fun i => by rw [Bool.false_and, Bool.or_false, Bool.true_and])]
      rfl

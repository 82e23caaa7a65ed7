/-! THE PURE PART: span -/
def TM (m M : lu_M) : Prop := (∀ r, r < 92 ∨ 97 < r → M r = m r) ∧ ∀ k, k < 6 → M (91 + 1 + k) 0 = nI k
def FNN (n N : lu_M) : Prop := (∀ r, r ≠ 0 → N r = n r) ∧ ∀ i, i < 16 ∨ 19 < i → N 0 i = n 0 i
theorem Rel.str {m n M N : lu_M} {L : List Ru} (R : Rel m n) (W : WR m 1 (n 1) L) (T : TM m M) (F : FNN n N) : Rel M N :=
  ⟨⟨L, by rw [F.1 1 (by omega)]; exact W.tr (fun a h1 h2 => T.1 a (by omega))⟩, R.2.k.fr (by rw [T.1 0 (by omega)]) (fun a h1 h2 => T.1 a (by omega)) (F.2 3 (by omega)) (F.1 2 (by omega)), R.2.r.fr (by rw [T.1 0 (by omega)]) (F.2 21 (by omega)) (fun a h1 h2 => T.1 a (by omega)) (F.1 10 (by omega)), R.2.t.fr (by rw [T.1 83 (by omega)]) (F.2 23 (by omega)) (T.1 84 (by omega)) (F.1 11 (by omega)), R.2.h.fr (fun a h1 h2 => T.1 a (by omega)) (fun a h1 h2 => F.1 a (by omega)), R.2.f.fr (fun a h1 h2 => T.1 a (by omega)) (fun a h1 h2 => F.1 a (by omega)), R.2.n.fr (F.2 37 (by omega)) (T.1 114 (by omega)) (F.1 18 (by omega)), T.2⟩
theorem k_stranger {m M : lu_M} (T : TM m M) {i : Nat} (hi : i < 405) : ∃ M', f11_stranger (nI i) M = some (91 + 1 + (i / 81 + 1), M') ∧ TM m M' ∧ M' (91 + 1 + (i / 81 + 1)) 0 = nI (i / 81 + 1) ∧ M' (91 + 1 + (i / 81 + 1)) 2 = nI (i / 9 % 9 + 1) ∧ M' (91 + 1 + (i / 81 + 1)) 3 = nI (i % 9 + 1) := by
  have hin : p_in (nI (i / 81 + 1)).toInt (1 : Int32).toInt (5 : Int32).toInt = true := by
    unfold p_in
    rw [nI_toInt (by omega)]
    exact decide_eq_true (show ((1 : Int) ≤ ((i / 81 + 1 : Nat) : Int) ∧ ((i / 81 + 1 : Nat) : Int) ≤ 5) by omega)
  refine ⟨lu_st (lu_st M (91 + 1 + (i / 81 + 1)) 2 (nI (i / 9 % 9 + 1))) (91 + 1 + (i / 81 + 1)) 3 (nI (i % 9 + 1)), ?_, ⟨fun r hr => ?_, fun k hk => ?_⟩, ?_, ?_, ?_⟩
  · unfold f11_stranger f11_stranger_b25
    rw [show (81 : Int32) = nI 81 from rfl, show (9 : Int32) = nI 9 from rfl, pk_div (by omega) (by omega) (by omega), pk_div (by omega) (by omega) (by omega), p_next, p_nm, k_in, hin, p_bi, p_if, if_pos rfl, p_gd (by omega) (by omega), p_nm, p_nm, nI_clamp (by omega), pk_rem (by omega) (by omega) (by omega)]
    rw [show nI i - nI (i / 9) * nI 9 = nI (i % 9) by rw [← pk_div (a := i) (d := 9) (by omega) (by omega) (by omega)]; exact pk_rem (by omega) (by omega) (by omega), p_next, p_next]
  · rw [lu_st_row (by omega), lu_st_row (by omega)]; exact T.1 r hr
  · by_cases e : k = i / 81 + 1
    · subst e
      rw [lu_st_ne (by omega), lu_st_ne (by omega)]; exact T.2 _ hk
    · rw [lu_st_row (by omega), lu_st_row (by omega)]; exact T.2 _ hk
  · rw [lu_st_ne (by omega), lu_st_ne (by omega)]; exact T.2 _ (by omega)
  · rw [lu_st_ne (by omega), lu_st_self]
  · rw [lu_st_self]
theorem p_isT : ∀ k, 1 ≤ k → k ≤ 5 → decide (lu_TC.2 (91 + 1 + k) = (10, 0, 0) ∧ 91 + 1 + k < lu_TC.1) = true := by
  intro k h1 h5
  rcases k5 h1 h5 with e | e | e | e | e <;> subst e <;> exact decide_eq_true ⟨rfl, by decide⟩
def s_cb (b : Nat → Bool) : Nat → Nat
  | 0 => 0
  | i + 1 => s_cb b i + (if b i then 1 else 0)
theorem s_cb_le (b : Nat → Bool) : ∀ i, s_cb b i ≤ i
  | 0 => Nat.le_refl _
  | i + 1 => by
    have := s_cb_le b i
    unfold s_cb
    split <;> omega
theorem s_cb_0 (b : Nat → Bool) : ∀ i, s_cb b i = 0 ↔ ∀ e, e < i → b e = false
  | 0 => ⟨fun _ e h => absurd h (by omega), fun _ => rfl⟩
  | i + 1 => by
    unfold s_cb
    have ih := s_cb_0 b i
    constructor
    · intro h e he
      cases hb : b i
      · rw [hb, if_neg p_ff] at h
        by_cases e1 : e = i
        · subst e1; exact hb
        · exact ih.mp h e (by omega)
      · rw [hb, if_pos rfl] at h
        omega
    · intro h
      rw [ih.mpr (fun e he => h e (by omega)), h i (by omega), if_neg p_ff]
/-- who fits -/
def s_ft (s : Nat → Int32) (but : Int32) (i : Nat) : Bool := s_fit s but (i / 81 + 1) (i / 9 % 9 + 1) (i % 9 + 1) 0 (s_v s 6)
def s_w1 (s : Nat → Int32) (i : Nat) : Int32 := s_wr s (i / 81 + 1) (i / 9 % 9 + 1) (i % 9 + 1) (s_v s 6)
theorem w1_bit (s : Nat → Int32) (hR : s_v s 6 ≤ 6) (e : Nat) {i : Nat} (hi : i < 32) : bt (s_w1 s e) i = (decide (i < s_v s 6) && !s_true s (e / 81 + 1) (e / 9 % 9 + 1) (e % 9 + 1) i) := wr_bit s _ _ _ hR hi
theorem ft_iff (s : Nat → Int32) (but : Int32) (e : Nat) : s_ft s but e = true ↔ ∀ i, i < s_v s 6 → nI i = but ∨ s_true s (e / 81 + 1) (e / 9 % 9 + 1) (e % 9 + 1) i = true := by
  unfold s_ft
  rw [s_fit_iff]
  exact ⟨fun h i hi => h i (by omega) (by omega), fun h i _ hi => h i (by omega)⟩
theorem ft_0 (s : Nat → Int32) (hR : s_v s 6 ≤ 6) (e : Nat) : s_w1 s e = 0 ↔ s_ft s (-1) e = true := by
  rw [ft_iff]
  constructor
  · intro h i hi
    have hb := w1_bit s hR e (i := i) (by omega)
    rw [h, b_0, decide_eq_true hi, Bool.true_and] at hb
    refine Or.inr ?_
    cases ht : s_true s (e / 81 + 1) (e / 9 % 9 + 1) (e % 9 + 1) i
    · rw [ht] at hb; exact absurd hb (by decide)
    · rfl
  · intro h
    apply b_ext
    intro i hi
    rw [w1_bit s hR e hi, b_0]
    by_cases hl : i < s_v s 6
    · rcases h i hl with h1 | h1
      · exact absurd h1 (p_neg (by omega) (by decide))
      · rw [h1, decide_eq_true hl]; rfl
    · rw [decide_eq_false hl]; rfl
theorem t_find {m n : lu_M} (X : WX m 1 (n 1)) (but : Int32) : ∃ N, f12_findFits but n = some N ∧ FNN n N ∧ N 0 16 = nI (s_cb (s_ft (n 1) but) 405) ∧ ∀ f, f < 405 → s_ft (n 1) but f = true → (∀ e, e < f → s_ft (n 1) but e = false) → N 0 17 = nI (f / 81 + 1) ∧ N 0 18 = nI (f / 9 % 9 + 1) ∧ N 0 19 = nI (f % 9 + 1) := by
  obtain ⟨N, e, h1, h2, h3⟩ := p_loopR (σ := Unit) (fun q i x => f12_findFits_b7 (f12_findFits_b128 but) but q i x) (fun x => some x) 405 (fun _ u => u) (fun i x _ => FNN n x ∧ x 0 16 = nI (s_cb (s_ft (n 1) but) i) ∧ ∀ f, f < i → s_ft (n 1) but f = true → (∀ e, e < f → s_ft (n 1) but e = false) → x 0 17 = nI (f / 81 + 1) ∧ x 0 18 = nI (f / 9 % 9 + 1) ∧ x 0 19 = nI (f % 9 + 1))
    (fun q x _ _ => by
      show f12_findFits_b7B _ _ _ _ _ = _
      unfold f12_findFits_b7B f12_findFits_b128
      rw [show (405 : Int32) = nI 405 from rfl, if_pos (Int32.le_refl _)])
    (fun q i x _ hi ⟨F, hc, hf⟩ => by
      have hx1 : x 1 = n 1 := F.1 1 (by omega)
      have ef := t_isFit (n := x) (m := m) (by rw [hx1]; exact X) (k := i / 81 + 1) (g := i / 9 % 9 + 1) (t := i % 9 + 1) but (by omega) (by omega) (by omega) (by omega)
      rw [hx1] at ef
      have hle := s_cb_le (s_ft (n 1) but) i
      have hcs : s_cb (s_ft (n 1) but) (i + 1) = s_cb (s_ft (n 1) but) i + (if s_ft (n 1) but i then 1 else 0) := rfl
      have hbody : f12_findFits_b7B (f12_findFits_b128 but) (f12_findFits_b7 (f12_findFits_b128 but) but q) but (nI i) x = (if s_ft (n 1) but i = true then (if x 0 16 = 0 then f12_findFits_b69 (f12_findFits_b7 (f12_findFits_b128 but) but q) (f12_findFits_b128 but) but (nI i) (nI (i / 9 % 9 + 1)) (nI (i % 9 + 1)) (nI (i / 81 + 1)) x else f12_findFits_b69 (f12_findFits_b7 (f12_findFits_b128 but) but q) (f12_findFits_b128 but) but (nI i) (nI (i / 9 % 9 + 1)) (nI (i % 9 + 1)) (x 0 17) x) else f12_findFits_b7 (f12_findFits_b128 but) but q (nI (i + 1)) x) := by
        unfold f12_findFits_b7B f12_findFits_b122
        rw [show (405 : Int32) = nI 405 from rfl, q_le (by omega) (by omega), if_neg (by omega), show (1 : Int32) = nI 1 from rfl, show (81 : Int32) = nI 81 from rfl, show (9 : Int32) = nI 9 from rfl, pk_rem (a := i) (by omega) (by omega) (by omega), pk_div (a := i) (d := 81) (by omega) (by omega) (by omega), pk_div (a := i) (d := 9) (by omega) (by omega) (by omega), pk_rem (a := i / 9) (by omega) (by omega) (by omega), nI_add, nI_add, nI_add, p_nm, p_nm, p_nm, Nat.add_comm 1, Nat.add_comm 1, Nat.add_comm 1, ef, p_bi, p_if, nI_add]
        rfl
      refine ⟨if s_ft (n 1) but i = true then (if x 0 16 = 0 then lu_st (lu_st (lu_st (lu_st x 0 17 (nI (i / 81 + 1))) 0 18 (nI (i / 9 % 9 + 1))) 0 19 (nI (i % 9 + 1))) 0 16 (nI (s_cb (s_ft (n 1) but) i + 1)) else lu_st (lu_st (lu_st (lu_st x 0 17 (x 0 17)) 0 18 (x 0 18)) 0 19 (x 0 19)) 0 16 (nI (s_cb (s_ft (n 1) but) i + 1))) else x, ?_, ?_⟩
      · show f12_findFits_b7B _ _ _ _ _ = _
        rw [hbody]
        cases hb : s_ft (n 1) but i
        · rw [if_neg p_ff, if_neg p_ff]
        · rw [if_pos rfl, if_pos rfl]
          unfold f12_findFits_b69 f12_findFits_b89 f12_findFits_b109 f12_findFits_b122
          by_cases h0 : x 0 16 = 0
          · rw [if_pos h0, if_pos h0, p_nm, lu_st_ne (by omega), if_pos h0, p_nm, lu_st_ne (by omega), lu_st_ne (by omega), if_pos h0, p_nm, p_nm, p_next, lu_st_ne (by omega), lu_st_ne (by omega), lu_st_ne (by omega), hc, p_next]
          · rw [if_neg h0, if_neg h0, p_nm, lu_st_ne (k := 17) (b := 16) (by omega), if_neg h0, lu_st_ne (k := 17) (b := 18) (by omega), p_nm, lu_st_ne (k := 18) (b := 16) (by omega), lu_st_ne (k := 17) (b := 16) (by omega), if_neg h0, lu_st_ne (k := 18) (b := 19) (by omega), lu_st_ne (k := 17) (b := 19) (by omega), p_nm, p_nm, p_next, lu_st_ne (k := 19) (b := 16) (by omega), lu_st_ne (k := 18) (b := 16) (by omega), lu_st_ne (k := 17) (b := 16) (by omega), hc, p_next]
      · cases hb : s_ft (n 1) but i
        · rw [if_neg p_ff]
          rw [hb, if_neg p_ff] at hcs
          refine ⟨F, by rw [hcs]; exact hc, fun f hf1 hf2 hf3 => ?_⟩
          by_cases e : f = i
          · subst e; rw [hb] at hf2; exact absurd hf2 p_ff
          · exact hf f (by omega) hf2 hf3
        · rw [if_pos rfl]
          rw [hb, if_pos rfl] at hcs
          have hF : ∀ a b c d, FNN n (lu_st (lu_st (lu_st (lu_st x 0 17 a) 0 18 b) 0 19 c) 0 16 d) := fun a b c d => ⟨fun r hr => by rw [lu_st_row hr, lu_st_row hr, lu_st_row hr, lu_st_row hr]; exact F.1 r hr, fun j hj => by rw [lu_st_ne (by omega), lu_st_ne (by omega), lu_st_ne (by omega), lu_st_ne (by omega)]; exact F.2 j hj⟩
          have h17 : ∀ a b c d, lu_st (lu_st (lu_st (lu_st x 0 17 a) 0 18 b) 0 19 c) 0 16 d 0 17 = a := fun a b c d => by rw [lu_st_ne (by omega), lu_st_ne (by omega), lu_st_ne (by omega), lu_st_self]
          have h18 : ∀ a b c d, lu_st (lu_st (lu_st (lu_st x 0 17 a) 0 18 b) 0 19 c) 0 16 d 0 18 = b := fun a b c d => by rw [lu_st_ne (by omega), lu_st_ne (by omega), lu_st_self]
          have h19 : ∀ a b c d, lu_st (lu_st (lu_st (lu_st x 0 17 a) 0 18 b) 0 19 c) 0 16 d 0 19 = c := fun a b c d => by rw [lu_st_ne (by omega), lu_st_self]
          by_cases h0 : x 0 16 = 0
          · rw [if_pos h0]
            refine ⟨hF _ _ _ _, by rw [lu_st_self, hcs], fun f hf1 hf2 hf3 => ?_⟩
            have hz : s_cb (s_ft (n 1) but) i = 0 := by
              rw [hc] at h0
              exact (nI_eq (b := 0) (by omega) (by omega)).mp h0
            have e : f = i := by
              by_cases e : f = i
              · exact e
              · have := (s_cb_0 _ i).mp hz f (by omega)
                rw [this] at hf2; exact absurd hf2 p_ff
            subst e
            rw [h17, h18, h19]
            exact ⟨rfl, rfl, rfl⟩
          · rw [if_neg h0]
            refine ⟨hF _ _ _ _, by rw [lu_st_self, hcs], fun f hf1 hf2 hf3 => ?_⟩
            rw [h17, h18, h19]
            by_cases e : f = i
            · subst e
              exfalso
              have := (s_cb_0 (s_ft (n 1) but) f).mpr hf3
              rw [hc, this] at h0
              exact h0 rfl
            · exact hf f (by omega) hf2 hf3) 405 0 lu_fu (lu_st n 0 16 0) () (by omega) (p_fu (by omega)) ⟨⟨fun r hr => lu_st_row hr, fun i hi => lu_st_ne (by omega)⟩, lu_st_self .., fun f hf => absurd hf (by omega)⟩
  refine ⟨N, ?_, h1, h2, h3⟩
  unfold f12_findFits
  rw [p_nm]
  exact e
theorem k_spanS {m M : lu_M} {s : Nat → Int32} (X : WX m 1 s) (T : TM m M) (a1 : Int32) {i : Nat} (hi : i < 405) (q : Nat) (v : Int32) : ∃ M', TM m M' ∧ M' (91 + 1 + (i / 81 + 1)) 0 = nI (i / 81 + 1) ∧ M' (91 + 1 + (i / 81 + 1)) 2 = nI (i / 9 % 9 + 1) ∧ M' (91 + 1 + (i / 81 + 1)) 3 = nI (i % 9 + 1) ∧ f11_span_b15 (f11_span_b49 a1) (f11_span_b60 a1) (f11_span_b71 a1) (f11_span_b86 a1) a1 (q + 1) v (nI i) M = (if s_ft s (-1) i = true then (if a1 = (1 : Int32) then some (nI (i / 81 + 1), M') else if a1 = (2 : Int32) then some (nI (i / 9 % 9 + 1), M') else if a1 = (3 : Int32) then some (nI (i % 9 + 1), M') else f11_span_b15 (f11_span_b49 a1) (f11_span_b60 a1) (f11_span_b71 a1) (f11_span_b86 a1) a1 q (v + 1) (nI (i + 1)) M') else f11_span_b15 (f11_span_b49 a1) (f11_span_b60 a1) (f11_span_b71 a1) (f11_span_b86 a1) a1 q v (nI (i + 1)) M') := by
  have hR := X.2.2.1.2.2
  obtain ⟨M', e1, T', c0, c2, c3⟩ := k_stranger T hi
  refine ⟨M', T', c0, c2, c3, ?_⟩
  have X' : WX M' 1 s := X.fr (fun a h1 h2 h3 h4 => T'.1 a (by omega))
  have ew := k_wrong X' (ro := 91 + 1 + (i / 81 + 1)) (k := i / 81 + 1) (g := i / 9 % 9 + 1) (t := i % 9 + 1) (by omega) (by omega) (by omega) (by omega) c0 c2 c3
  show f11_span_b15B _ _ _ _ _ _ _ _ _ = _
  unfold f11_span_b15B f11_span_b80
  rw [show (405 : Int32) = nI 405 from rfl, q_le (by omega) (by omega), if_neg (by omega), e1, p_bi, p_isT _ (by omega) (by omega), p_gt, ew, p_bi, p_next]
  show (if s_w1 s i = 0 then _ else _) = _
  by_cases h : s_w1 s i = 0
  · rw [if_pos h, if_pos ((ft_0 s hR i).mp h)]
    show (if a1 = 1 then some (M' (91 + 1 + (i / 81 + 1)) 0, M') else if a1 = 2 then some (M' (91 + 1 + (i / 81 + 1)) 2, M') else if a1 = 3 then some (M' (91 + 1 + (i / 81 + 1)) 3, M') else _) = _
    rw [c0, c2, c3]
  · rw [if_neg h, if_neg (fun q => h ((ft_0 s hR i).mpr q))]
theorem k_spanN {m : lu_M} {s : Nat → Int32} (X : WX m 1 s) : ∀ (j i q : Nat) (M : lu_M), i + j = 405 → j < q → TM m M → ∃ M', TM m M' ∧ f11_span_b15 (f11_span_b49 0) (f11_span_b60 0) (f11_span_b71 0) (f11_span_b86 0) 0 q (nI (s_cb (s_ft s (-1)) i)) (nI i) M = some (nI (s_cb (s_ft s (-1)) 405), M')
  | 0, i, q, M, h, hq, T => by
    obtain ⟨q, rfl⟩ : ∃ r, q = r + 1 := ⟨q - 1, by omega⟩
    rw [Nat.add_zero] at h
    subst h
    refine ⟨M, T, ?_⟩
    show f11_span_b15B _ _ _ _ _ _ _ _ _ = _
    unfold f11_span_b15B f11_span_b86 f11_span_b96
    rw [show (405 : Int32) = nI 405 from rfl, if_pos (Int32.le_refl _), if_pos rfl]
  | j + 1, i, q, M, h, hq, T => by
    obtain ⟨q, rfl⟩ : ∃ r, q = r + 1 := ⟨q - 1, by omega⟩
    obtain ⟨M1, T1, -, -, -, e⟩ := k_spanS X T 0 (i := i) (by omega) q (nI (s_cb (s_ft s (-1)) i))
    obtain ⟨M2, T2, e2⟩ := k_spanN X j (i + 1) q M1 (by omega) (by omega) T1
    refine ⟨M2, T2, ?_⟩
    rw [e, ← e2]
    have hcs : s_cb (s_ft s (-1)) (i + 1) = s_cb (s_ft s (-1)) i + (if s_ft s (-1) i then 1 else 0) := rfl
    cases hb : s_ft s (-1) i
    · rw [hb, if_neg p_ff] at hcs
      rw [if_neg p_ff, hcs]; rfl
    · rw [hb, if_pos rfl] at hcs
      rw [if_pos rfl, if_neg (by decide), if_neg (by decide), if_neg (by decide), hcs, p_next]
/-- the first that fits, what of it -/
theorem k_spanF {m : lu_M} {s : Nat → Int32} (X : WX m 1 s) {c : Nat} (hc : c = 1 ∨ c = 2 ∨ c = 3) (v : Int32) : ∀ (j i q : Nat) (M : lu_M), i + j = 405 → j < q → TM m M → (∀ e, e < i → s_ft s (-1) e = false) → ∃ M', TM m M' ∧ ((∀ e, e < 405 → s_ft s (-1) e = false) ∧ f11_span_b15 (f11_span_b49 (nI c)) (f11_span_b60 (nI c)) (f11_span_b71 (nI c)) (f11_span_b86 (nI c)) (nI c) q v (nI i) M = some (-3, M') ∨ ∃ f, f < 405 ∧ s_ft s (-1) f = true ∧ (∀ e, e < f → s_ft s (-1) e = false) ∧ f11_span_b15 (f11_span_b49 (nI c)) (f11_span_b60 (nI c)) (f11_span_b71 (nI c)) (f11_span_b86 (nI c)) (nI c) q v (nI i) M = some (if c = 1 then nI (f / 81 + 1) else if c = 2 then nI (f / 9 % 9 + 1) else nI (f % 9 + 1), M'))
  | 0, i, q, M, h, hq, T, hn => by
    obtain ⟨q, rfl⟩ : ∃ r, q = r + 1 := ⟨q - 1, by omega⟩
    rw [Nat.add_zero] at h
    subst h
    refine ⟨M, T, Or.inl ⟨hn, ?_⟩⟩
    show f11_span_b15B _ _ _ _ _ _ _ _ _ = _
    unfold f11_span_b15B f11_span_b86 f11_span_b96
    rw [show (405 : Int32) = nI 405 from rfl, if_pos (Int32.le_refl _), if_neg (p_ne0 (by omega) (by omega))]
  | j + 1, i, q, M, h, hq, T, hn => by
    obtain ⟨q, rfl⟩ : ∃ r, q = r + 1 := ⟨q - 1, by omega⟩
    obtain ⟨M1, T1, -, -, -, e⟩ := k_spanS X T (nI c) (i := i) (by omega) q v
    cases hb : s_ft s (-1) i
    · rw [hb, if_neg p_ff] at e
      obtain ⟨M2, T2, r⟩ := k_spanF X hc v j (i + 1) q M1 (by omega) (by omega) T1 (fun e he => by
        by_cases e1 : e = i
        · subst e1; exact hb
        · exact hn e (by omega))
      refine ⟨M2, T2, ?_⟩
      rw [e]
      exact r
    · rw [hb, if_pos rfl] at e
      refine ⟨M1, T1, Or.inr ⟨i, by omega, hb, hn, ?_⟩⟩
      rw [e]
      rcases hc with e | e | e <;> subst e <;> rfl
theorem TM.rf {m : lu_M} (G : RG m) : TM m m := ⟨fun _ _ => rfl, G⟩
theorem y_span (a : Int32) : Me (f11_span a) (f12_span a) := Me.mk fun m n L R W => by
  unfold f11_span f12_span f12_span_b30 f12_span_b43 f12_span_b72
  rw [show (0 : Int64) = (0 : Int32).toInt64 from rfl, show (3 : Int64) = (3 : Int32).toInt64 from rfl, k_in, t_in32, p_bi, p_bi, p_if, p_if]
  cases h : p_in a.toInt (0 : Int32).toInt (3 : Int32).toInt
  · rw [if_neg p_ff, if_neg p_ff]
    exact ⟨_, _, _, rfl, rfl, R⟩
  obtain ⟨c, rfl, -, hc⟩ := p_in_ex (lo := 0) (hi := 3) h (by omega)
  obtain ⟨N, e2, F, h16, hf⟩ := t_find W.x (-1)
  have hle := s_cb_le (s_ft (n 1) (-1)) 405
  rw [if_pos rfl, if_pos rfl, e2, p_bv]
  have hc' : c = 0 ∨ (c = 1 ∨ c = 2 ∨ c = 3) := by omega
  rcases hc' with hc0 | hc1
  · subst hc0
    obtain ⟨M, T, e1⟩ := k_spanN W.x 405 0 lu_fu m (by omega) (p_fu (by omega)) (TM.rf R.2.g)
    rw [if_pos (show nI 0 = (0 : Int32) from rfl), if_pos (show nI 0 = (0 : Int32) from rfl), h16]
    exact ⟨_, _, _, e1, rfl, R.str W T F⟩
  · obtain ⟨M, T, r⟩ := k_spanF W.x hc1 0 405 0 lu_fu m (by omega) (p_fu (by omega)) (TM.rf R.2.g) (fun e he => absurd he (by omega))
    rw [if_neg (p_ne0 (by omega) (by omega)), if_neg (p_ne0 (by omega) (by omega))]
    rcases r with ⟨hn, e1⟩ | ⟨f, hf1, hf2, hf3, e1⟩
    · rw [h16, (s_cb_0 _ 405).mpr hn, if_pos (show nI 0 = (0 : Int32) from rfl)]
      exact ⟨_, _, _, e1, rfl, R.str W T F⟩
    · have hne : ¬ N 0 16 = 0 := by
        rw [h16]
        intro q
        have := (s_cb_0 _ 405).mp ((nI_eq (b := 0) (by omega) (by omega)).mp q) f hf1
        rw [this] at hf2; exact p_ff hf2
      obtain ⟨g1, g2, g3⟩ := hf f hf1 hf2 hf3
      rw [if_neg hne, g1, g2, g3]
      refine ⟨_, _, _, e1, ?_, R.str W T F⟩
      rcases hc1 with e | e | e <;> subst e <;> rfl

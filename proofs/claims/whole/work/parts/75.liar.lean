/-! THE PURE PART: liar -/
def s_bi (r : Nat) : Int32 := (1 : Int32) <<< (nI r &&& 31)
theorem s_bi_bit {r i : Nat} (hr : r < 32) (hi : i < 32) : bt (s_bi r) i = decide (i = r) := p_one r hr i hi
def s_lr (w : Int32) : Nat → Nat → Nat
  | r, 0 => r
  | r, j + 1 => if w = s_bi r then r else s_lr w (r + 1) j
theorem s_lr_p (w : Int32) : ∀ (j r : Nat), r ≤ s_lr w r j ∧ s_lr w r j ≤ r + j ∧ (s_lr w r j < r + j → w = s_bi (s_lr w r j)) ∧ ∀ i, r ≤ i → i < s_lr w r j → w ≠ s_bi i
  | 0, r => ⟨Nat.le_refl _, Nat.le_refl _, fun h => absurd h (Nat.lt_irrefl _), fun i h1 h2 => absurd h2 (Nat.not_lt.mpr h1)⟩
  | j + 1, r => by
    unfold s_lr
    by_cases h : w = s_bi r
    · rw [if_pos h]
      exact ⟨Nat.le_refl _, by omega, fun _ => h, fun i h1 h2 => by omega⟩
    · rw [if_neg h]
      obtain ⟨a1, a2, a3, a4⟩ := s_lr_p w j (r + 1)
      refine ⟨by omega, by omega, fun q => a3 (by omega), fun i h1 h2 => ?_⟩
      by_cases e : i = r
      · subst e; exact h
      · exact a4 i (by omega) h2
theorem k_lr (K : Int32 → Int32 → lu_M → Option (Int32 × lu_M)) (v2 w : Int32) (m : lu_M) : ∀ (j r q F : Nat), r + j = F → F ≤ 6 → j + 1 < q → f11_liar_b35 K q (nI F) v2 w (nI r) m = K (nI (s_lr w r j)) v2 m
  | 0, r, q, F, h, hF, hq => by
    obtain ⟨q, rfl⟩ : ∃ r, q = r + 1 := ⟨q - 1, by omega⟩
    show f11_liar_b35B _ _ _ _ _ _ _ = _
    unfold f11_liar_b35B s_lr
    rw [q_le (by omega) (by omega), if_pos (by omega), show F = r by omega]
  | j + 1, r, q, F, h, hF, hq => by
    obtain ⟨q, rfl⟩ : ∃ r, q = r + 1 := ⟨q - 1, by omega⟩
    have ih := k_lr K v2 w m j (r + 1) q F (by omega) hF (by omega)
    show f11_liar_b35B _ _ _ _ _ _ _ = _
    unfold f11_liar_b35B f11_liar_b52 s_lr
    rw [q_le (by omega) (by omega), if_neg (by omega), p_next, ih]
    show (if w = s_bi r then _ else _) = _
    by_cases hw : w = s_bi r
    · rw [if_pos hw, if_pos hw]
      obtain ⟨q, rfl⟩ : ∃ r, q = r + 1 := ⟨q - 1, by omega⟩
      show f11_liar_b35B _ _ _ _ _ _ _ = _
      unfold f11_liar_b35B
      rw [q_le (by omega) (by omega), if_pos (by omega)]
    · rw [if_neg hw, if_neg hw]
theorem k_liarN {m : lu_M} {s : Nat → Int32} (X : WX m 1 s) : ∀ (j i q F : Nat) (M : lu_M), i + j = 405 → j < q → TM m M → F ≤ 6 → (∀ r, r < F → ∀ e, e < i → s_w1 s e ≠ s_bi r) → (F < 6 → ∃ e, e < i ∧ s_w1 s e = s_bi F) → ∃ M', TM m M' ∧ ((∃ e, i ≤ e ∧ e < 405 ∧ s_w1 s e = 0) ∧ f11_liar_b5 f11_liar_b29 f11_liar_b64 q (nI F) (nI i) M = some (-3, M') ∨ (∀ e, i ≤ e → e < 405 → s_w1 s e ≠ 0) ∧ ∃ F', F' ≤ 6 ∧ (∀ r, r < F' → ∀ e, e < 405 → s_w1 s e ≠ s_bi r) ∧ (F' < 6 → ∃ e, e < 405 ∧ s_w1 s e = s_bi F') ∧ f11_liar_b5 f11_liar_b29 f11_liar_b64 q (nI F) (nI i) M = some (if F' < 6 then nI F' else -3, M'))
  | 0, i, q, F, M, h, hq, T, hF, g1, g2 => by
    obtain ⟨q, rfl⟩ : ∃ r, q = r + 1 := ⟨q - 1, by omega⟩
    rw [Nat.add_zero] at h
    subst h
    refine ⟨M, T, Or.inr ⟨fun e h1 h2 => by omega, F, hF, g1, g2, ?_⟩⟩
    show f11_liar_b5B _ _ _ _ _ _ = _
    unfold f11_liar_b5B f11_liar_b64 f11_liar_b76
    rw [show (405 : Int32) = nI 405 from rfl, if_pos (Int32.le_refl _), show (6 : Int32) = nI 6 from rfl, q_le (by omega) (by omega)]
    by_cases h6 : F < 6
    · rw [if_neg (by omega), if_pos h6]
    · rw [if_pos (by omega), if_neg h6]
  | j + 1, i, q, F, M, h, hq, T, hF, g1, g2 => by
    obtain ⟨q, rfl⟩ : ∃ r, q = r + 1 := ⟨q - 1, by omega⟩
    have hR := X.2.2.1.2.2
    obtain ⟨M', e1, T', c0, c2, c3⟩ := k_stranger T (i := i) (by omega)
    have X' : WX M' 1 s := X.fr (fun a h1 h2 h3 h4 => T'.1 a (by omega))
    have ew : f10_wrongReports 1 (91 + 1 + (i / 81 + 1)) M' = some (s_w1 s i, M') := k_wrong X' (ro := 91 + 1 + (i / 81 + 1)) (k := i / 81 + 1) (g := i / 9 % 9 + 1) (t := i % 9 + 1) (by omega) (by omega) (by omega) (by omega) c0 c2 c3
    have hstep : f11_liar_b5 f11_liar_b29 f11_liar_b64 (q + 1) (nI F) (nI i) M = (if s_w1 s i = 0 then some (-3, M') else f11_liar_b5 f11_liar_b29 f11_liar_b64 q (nI (s_lr (s_w1 s i) 0 F)) (nI (i + 1)) M') := by
      show f11_liar_b5B _ _ _ _ _ _ = _
      unfold f11_liar_b5B f11_liar_b29
      rw [show (405 : Int32) = nI 405 from rfl, q_le (by omega) (by omega), if_neg (by omega), e1, p_bi, p_isT _ (by omega) (by omega), p_gt, ew, p_bi, show (0 : Int32) = nI 0 from rfl, k_lr _ _ _ _ F 0 lu_fu F (by omega) hF (p_fu (by omega))]
      unfold f11_liar_b58
      rw [p_next]
    by_cases hw : s_w1 s i = 0
    · refine ⟨M', T', Or.inl ⟨⟨i, Nat.le_refl _, by omega, hw⟩, ?_⟩⟩
      rw [hstep, if_pos hw]
    · obtain ⟨a1, a2, a3, a4⟩ := s_lr_p (s_w1 s i) F 0
      rw [Nat.zero_add] at a2 a3
      obtain ⟨M2, T2, r⟩ := k_liarN X j (i + 1) q (s_lr (s_w1 s i) 0 F) M' (by omega) (by omega) T' (by omega) (fun r hr e he => by
        by_cases e1 : e = i
        · subst e1; exact a4 r (by omega) hr
        · exact g1 r (by omega) e (by omega)) (fun h6 => by
        by_cases hl : s_lr (s_w1 s i) 0 F < F
        · exact ⟨i, by omega, a3 hl⟩
        · have e1 : s_lr (s_w1 s i) 0 F = F := by omega
          rw [e1] at h6 ⊢
          obtain ⟨e, he, he2⟩ := g2 h6
          exact ⟨e, by omega, he2⟩)
      refine ⟨M2, T2, ?_⟩
      rw [hstep, if_neg hw]
      rcases r with ⟨⟨e, h1, h2, h3⟩, r⟩ | ⟨h1, r⟩
      · exact Or.inl ⟨⟨e, by omega, h2, h3⟩, r⟩
      · refine Or.inr ⟨fun e h2 h3 => ?_, r⟩
        by_cases e1 : e = i
        · subst e1; exact hw
        · exact h1 e (by omega) h3
/-! the reference -/
def s_bb (s : Nat → Int32) (r : Nat) : Bool := decide (0 < s_cb (s_ft s (nI r)) 405)
theorem FNN.rf (n : lu_M) : FNN n n := ⟨fun _ _ => rfl, fun _ _ => rfl⟩
theorem FNN.tr {n N N' : lu_M} (F : FNN n N) (G : FNN N N') : FNN n N' := ⟨fun r hr => (G.1 r hr).trans (F.1 r hr), fun i hi => (G.2 i hi).trans (F.2 i hi)⟩
theorem t_liarN {m n : lu_M} (X : WX m 1 (n 1)) : ∀ (j r q : Nat) (N : lu_M), r + j = s_v (n 1) 6 → j < q → FNN n N → ∃ N', FNN n N' ∧ f12_liar_b20 f12_liar_b47 f12_liar_b55 q 1 (nI r) N = some (s_fst (s_bb (n 1)) r j, N')
  | 0, r, q, N, h, hq, F => by
    obtain ⟨q, rfl⟩ : ∃ r, q = r + 1 := ⟨q - 1, by omega⟩
    have hR := X.2.2.1.2.2
    refine ⟨N, F, ?_⟩
    show f12_liar_b20B _ _ _ _ _ _ = _
    unfold f12_liar_b20B f12_liar_b55
    rw [F.1 1 (by omega), X.2.2.1.1, q_le (by omega) (by omega), if_pos (by omega)]
    rfl
  | j + 1, r, q, N, h, hq, F => by
    obtain ⟨q, rfl⟩ : ∃ r, q = r + 1 := ⟨q - 1, by omega⟩
    have hR := X.2.2.1.2.2
    have h1 : N 1 = n 1 := F.1 1 (by omega)
    obtain ⟨N1, e1, F1, h16, -⟩ := t_find (n := N) (m := m) (by rw [h1]; exact X) (nI r)
    rw [h1] at h16
    have hle := s_cb_le (s_ft (n 1) (nI r)) 405
    obtain ⟨N2, F2, e2⟩ := t_liarN X j (r + 1) q N1 (by omega) (by omega) (F.tr F1)
    have hst : f12_liar_b20 f12_liar_b47 f12_liar_b55 (q + 1) 1 (nI r) N = (if s_cb (s_ft (n 1) (nI r)) 405 ≤ 0 then some (s_fst (s_bb (n 1)) (r + 1) j, N2) else some (nI r, N1)) := by
      show f12_liar_b20B _ _ _ _ _ _ = _
      unfold f12_liar_b20B f12_liar_b47
      rw [h1, X.2.2.1.1, q_le (by omega) (by omega), if_neg (by omega), if_neg (by decide), e1, p_bv, h16, p_next, ← e2, show (0 : Int32) = nI 0 from rfl, q_le (by omega) (by omega)]
      rfl
    have hs1 : s_fst (s_bb (n 1)) r (j + 1) = (if s_bb (n 1) r then nI r else s_fst (s_bb (n 1)) (r + 1) j) := rfl
    rw [hst, hs1]
    by_cases hc : s_cb (s_ft (n 1) (nI r)) 405 ≤ 0
    · refine ⟨N2, F2, ?_⟩
      rw [if_pos hc, show s_bb (n 1) r = false from decide_eq_false (show ¬ 0 < s_cb (s_ft (n 1) (nI r)) 405 by omega), if_neg p_ff]
    · refine ⟨N1, F.tr F1, ?_⟩
      rw [if_neg hc, show s_bb (n 1) r = true from decide_eq_true (show 0 < s_cb (s_ft (n 1) (nI r)) 405 by omega), if_pos rfl]
theorem s_fst_at (b : Nat → Bool) : ∀ (j k f : Nat), k ≤ f → f < k + j → b f = true → (∀ e, k ≤ e → e < f → b e = false) → s_fst b k j = nI f
  | 0, k, f, h1, h2, _, _ => absurd h2 (by omega)
  | j + 1, k, f, h1, h2, h3, h4 => by
    unfold s_fst
    by_cases e : k = f
    · subst e; rw [h3, if_pos rfl]
    · rw [h4 k (Nat.le_refl _) (by omega), if_neg p_ff]
      exact s_fst_at b j (k + 1) f (by omega) (by omega) h3 (fun e h5 h6 => h4 e (by omega) h6)
theorem ft_r {s : Nat → Int32} (hR : s_v s 6 ≤ 6) (e : Nat) {r : Nat} (hr : r < s_v s 6) : s_ft s (nI r) e = true ↔ s_w1 s e = 0 ∨ s_w1 s e = s_bi r := by
  rw [ft_iff]
  have hb : ∀ i, i < 32 → bt (s_w1 s e) i = (decide (i < s_v s 6) && !s_true s (e / 81 + 1) (e / 9 % 9 + 1) (e % 9 + 1) i) := fun i hi => w1_bit s hR e hi
  constructor
  · intro h
    have h' : ∀ i, i < s_v s 6 → i ≠ r → s_true s (e / 81 + 1) (e / 9 % 9 + 1) (e % 9 + 1) i = true := fun i hi hne => (h i hi).resolve_left (fun q => hne ((nI_eq (by omega) (by omega)).mp q))
    cases ht : s_true s (e / 81 + 1) (e / 9 % 9 + 1) (e % 9 + 1) r
    · refine Or.inr (b_ext fun i hi => ?_)
      rw [hb i hi, s_bi_bit (by omega) hi]
      by_cases e1 : i = r
      · subst e1; rw [ht, decide_eq_true hr, decide_eq_true rfl]; rfl
      · rw [decide_eq_false e1]
        by_cases hl : i < s_v s 6
        · rw [h' i hl e1, decide_eq_true hl]; rfl
        · rw [decide_eq_false hl]; rfl
    · refine Or.inl (b_ext fun i hi => ?_)
      rw [hb i hi, b_0]
      by_cases hl : i < s_v s 6
      · by_cases e1 : i = r
        · subst e1; rw [ht, decide_eq_true hl]; rfl
        · rw [h' i hl e1, decide_eq_true hl]; rfl
      · rw [decide_eq_false hl]; rfl
  · intro h i hi
    by_cases e1 : i = r
    · subst e1; exact Or.inl rfl
    · refine Or.inr ?_
      have h2 := hb i (by omega)
      have h3 : bt (s_w1 s e) i = false := by
        rcases h with h | h
        · rw [h, b_0]
        · rw [h, s_bi_bit (by omega) (by omega), decide_eq_false e1]
      rw [h3, decide_eq_true hi, Bool.true_and] at h2
      cases ht : s_true s (e / 81 + 1) (e / 9 % 9 + 1) (e % 9 + 1) i
      · rw [ht] at h2; exact absurd h2 (by decide)
      · rfl
theorem bb_iff (s : Nat → Int32) (r : Nat) : s_bb s r = true ↔ ∃ e, e < 405 ∧ s_ft s (nI r) e = true := by
  unfold s_bb
  rw [decide_eq_true_eq]
  have h0 := s_cb_0 (s_ft s (nI r)) 405
  constructor
  · intro h
    refine Decidable.byContradiction (fun hc => ?_)
    have : s_cb (s_ft s (nI r)) 405 = 0 := h0.mpr (fun e he => by
      cases hb : s_ft s (nI r) e
      · rfl
      · exact absurd ⟨e, he, hb⟩ hc)
    omega
  · rintro ⟨e, he, hb⟩
    refine Nat.pos_of_ne_zero (fun hz => ?_)
    have := h0.mp hz e he
    rw [hb] at this
    cases this
theorem y_liar : Me f11_liar f12_liar := Me.mk fun m n L R W => by
  have hR := W.x.2.2.1.2.2
  obtain ⟨N, e2, F, h16, -⟩ := t_find W.x (-1)
  have hle := s_cb_le (s_ft (n 1) (-1)) 405
  obtain ⟨M, T, r⟩ := k_liarN W.x 405 0 lu_fu 6 m (by omega) (p_fu (by omega)) (TM.rf R.2.g) (Nat.le_refl _) (fun r _ e he => absurd he (by omega)) (fun h => absurd h (by omega))
  unfold f11_liar f12_liar f12_liar_b17
  rw [e2, p_bv, h16]
  rcases r with ⟨⟨e, -, he, hw⟩, e1⟩ | ⟨hw, F', hF, g1, g2, e1⟩
  · have hne : ¬ nI (s_cb (s_ft (n 1) (-1)) 405) = 0 := by
      intro q
      have := (s_cb_0 _ 405).mp ((nI_eq (b := 0) (by omega) (by omega)).mp q) e he
      rw [(ft_0 (n 1) hR e).mp hw] at this
      cases this
    rw [if_neg hne]
    refine ⟨_, _, _, e1, ?_, R.str W T F⟩
    show f12_liar_b20B _ _ _ _ _ _ = _
    unfold f12_liar_b20B f12_liar_b55
    rw [if_pos (show (0 : Int32) = 0 from rfl)]
    split <;> rfl
  · have hz : s_cb (s_ft (n 1) (-1)) 405 = 0 := (s_cb_0 _ 405).mpr (fun e he => by
      cases hb : s_ft (n 1) (-1) e
      · rfl
      · exact absurd ((ft_0 (n 1) hR e).mpr hb) (hw e (by omega) he))
    rw [hz, if_pos (show nI 0 = (0 : Int32) from rfl)]
    obtain ⟨N2, F2, e3⟩ := t_liarN W.x (s_v (n 1) 6) 0 lu_fu N (by omega) (p_fu (by omega)) F
    have hno : ∀ r, r < s_v (n 1) 6 → r < F' → s_bb (n 1) r = false := fun r hr hrF => by
      cases hb : s_bb (n 1) r
      · rfl
      · obtain ⟨e, he, hf⟩ := (bb_iff (n 1) r).mp hb
        rcases (ft_r hR e hr).mp hf with h | h
        · exact absurd h (hw e (by omega) he)
        · exact absurd h (g1 r hrF e he)
    have hv : s_fst (s_bb (n 1)) 0 (s_v (n 1) 6) = (if F' < 6 then nI F' else -3) := by
      by_cases h6 : F' < 6
      · rw [if_pos h6]
        obtain ⟨e, he, hwe⟩ := g2 h6
        have hFR : F' < s_v (n 1) 6 := by
          have hb := w1_bit (n 1) hR e (i := F') (by omega)
          rw [hwe, s_bi_bit (by omega) (by omega), decide_eq_true rfl] at hb
          by_cases hl : F' < s_v (n 1) 6
          · exact hl
          · rw [decide_eq_false hl, Bool.false_and] at hb; cases hb
        exact s_fst_at _ _ _ F' (by omega) (by omega) ((bb_iff (n 1) F').mpr ⟨e, he, (ft_r hR e hFR).mpr (Or.inr hwe)⟩) (fun r _ hr => hno r (by omega) hr)
      · rw [if_neg h6]
        exact s_fst_no _ _ _ (fun r _ hr => hno r (by omega) (by omega))
    rw [hv] at e3
    exact ⟨_, _, _, e1, e3, R.str W T F2⟩

/-! THE PURE PART, the reference: a year's deeds, what undoing leaves, what always holds -/
theorem upd_ne {f : Nat → Int32} {k j : Nat} {x : Int32} (h : j ≠ k) : upd f k x j = f j := if_neg h
theorem s_ok_of {s u : Nat → Int32} {i lo hi : Nat} (e : u i = s i) (h : s_ok s i lo hi) : s_ok u i lo hi := by
  unfold s_ok s_v at *
  rw [e]
  exact h
theorem s_v_of {s u : Nat → Int32} {i : Nat} (e : u i = s i) : s_v u i = s_v s i := by unfold s_v; rw [e]
theorem s_okn {s : Nat → Int32} {i lo hi v : Nat} (e : s i = nI v) (h1 : lo ≤ v) (h2 : v ≤ hi) (h3 : v < 2 ^ 31) : s_ok s i lo hi ∧ s_v s i = v := by
  have h : s_v s i = v := by unfold s_v; rw [e, nI_clamp h3]
  unfold s_ok
  rw [h]
  exact ⟨⟨e, h1, h2⟩, rfl⟩
/-- what holds of the states alone -/
def SS (D : Nat) (u : Nat → Int32) : Prop := ∀ d, d < D → s_ok u (30 + 5 * d) 0 4
def SC (k : Nat) (u : Nat → Int32) : Prop := ∀ d, d < k → u (30 + 5 * d) = 1 → u (29 + 5 * d) < 0 ∨ (u (30 + 5 * s_ndI u d) ≠ 2 ∧ u (30 + 5 * s_ndI u d) ≠ 3)
theorem SI.ss {s : Nat → Int32} (I : SI s) : SS (s_D s) s := fun d h => ⟨(I.st h).1, Nat.zero_le _, (I.st h).2⟩
theorem SI.sc {s : Nat → Int32} (I : SI s) : SC (s_D s) s := fun d h h1 => (I.cl h h1).elim (fun e => Or.inl (by rw [e]; exact m1_neg)) Or.inr
theorem SI.mk2 {s u : Nat → Int32} (I : SI s) (E : SE s u) (hy : s_ok u 3 0 16) (hy2 : s_v u 3 ≤ s_v s 2) (hs : SS (s_D s) u) (hc : SC (s_D s) u) : SI u := by
  have hD := I.D10
  have eD := E.D
  have eP := E.P
  refine ⟨s_ok_of (E.lo (by omega) (by omega) (by omega)) I.1, s_ok_of (E.lo (by omega) (by omega) (by omega)) I.2.1, s_ok_of (E.lo (by omega) (by omega) (by omega)) I.2.2.1, hy, ?_, ?_, ?_, ?_⟩
  · rw [s_v_of (u := u) (s := s) (i := 2) (E.lo (by omega) (by omega) (by omega))]; exact hy2
  · intro p hp
    rw [eP] at hp
    have hP := I.P6
    obtain ⟨h1, h2, h3⟩ := I.per hp
    exact ⟨s_ok_of (E.lo (by omega) (by omega) (by omega)) h1, s_ok_of (E.lo (by omega) (by omega) (by omega)) h2, s_ok_of (E.lo (by omega) (by omega) (by omega)) h3⟩
  · intro d hd
    rw [eD] at hd
    have h26 : u (26 + 5 * d) = s (26 + 5 * d) := E.de (w := 0) (by omega)
    have h27 : u (27 + 5 * d) = s (27 + 5 * d) := E.de (w := 1) (by omega)
    have h28 : u (28 + 5 * d) = s (28 + 5 * d) := E.de (w := 2) (by omega)
    have h29 : u (29 + 5 * d) = s (29 + 5 * d) := E.de (w := 3) (by omega)
    obtain ⟨a1, a2, a3, a4, a5, -⟩ := I.2.2.2.2.2.2.1 d hd
    refine ⟨s_ok_of h26 a1, ?_, s_ok_of h27 a3, s_ok_of h28 a4, ?_, hs d hd⟩
    · rw [s_v_of h26, eP]; exact a2
    · rw [h29, s_v_of h29]; exact a5
  · intro d hd h1
    rw [eD] at hd
    have h29 : u (29 + 5 * d) = s (29 + 5 * d) := E.de (w := 3) (by omega)
    rcases hc d hd h1 with h | h
    · rcases I.nd hd with h2 | ⟨h2, h3⟩
      · exact Or.inl (h29.trans h2)
      · exfalso
        rw [h29, h2] at h
        exact nI_pos (by omega) h
    · exact Or.inr h
theorem SE.v3 {s u : Nat → Int32} (h : s 3 = u 3) : s_v u 3 = s_v s 3 := by unfold s_v; rw [h]
/-- a state anew keeps YEAR and SCORE -/
def SK (s u : Nat → Int32) : Prop := u 3 = s 3 ∧ u 4 = s 4
theorem SK.rf (s : Nat → Int32) : SK s s := ⟨rfl, rfl⟩
theorem SK.st {s u : Nat → Int32} (h : SK s u) (d : Nat) (v : Int32) : SK s (upd u (30 + 5 * d) v) := ⟨(upd_ne (by omega)).trans h.1, (upd_ne (by omega)).trans h.2⟩
theorem SK.tr {s u w : Nat → Int32} (h : SK s u) (h2 : SK u w) : SK s w := ⟨h2.1.trans h.1, h2.2.trans h.2⟩
theorem SI.mk3 {s u : Nat → Int32} (I : SI s) (E : SE s u) (K : SK s u) (hs : SS (s_D s) u) (hc : SC (s_D s) u) : SI u :=
  I.mk2 E (s_ok_of K.1 I.2.2.2.1) (by rw [s_v_of K.1]; exact I.YE) hs hc
theorem SS.st {D : Nat} {u : Nat → Int32} (h : SS D u) (d v : Nat) (hv : v ≤ 4) : SS D (upd u (30 + 5 * d) (nI v)) := fun e he => by
  by_cases h1 : 30 + 5 * e = 30 + 5 * d
  · rw [h1]
    exact (s_okn (p_us _ _ _) (Nat.zero_le _) hv (by omega)).1
  · exact s_ok_of (upd_ne h1) (h e he)
theorem SS.st3 {D : Nat} {u : Nat → Int32} (h : SS D u) (d : Nat) (b : Bool) : SS D (upd u (30 + 5 * d) (if b then 3 else u (30 + 5 * d))) := by
  cases b
  · rw [if_neg (by decide), p_uid]; exact h
  · exact h.st d 3 (by omega)
/-- what a sweep leaves: nothing stands behind what is gone -/
theorem s_ndI_of {s u : Nat → Int32} (E : SE s u) (i : Nat) : s_ndI u i = s_ndI s i := s_v_of (E.de (w := 3) (by omega))
theorem SE.n29 {s u : Nat → Int32} (E : SE s u) (i : Nat) : u (29 + 5 * i) = s (29 + 5 * i) := E.de (w := 3) (by omega)
theorem SI.ndl {s : Nat → Int32} (I : SI s) {i : Nat} (h : i < s_D s) : s (29 + 5 * i) < 0 ∨ (s (29 + 5 * i) = nI (s_ndI s i) ∧ s_ndI s i < i) := (I.nd h).elim (fun e => Or.inl (by rw [e]; exact m1_neg)) Or.inr
theorem s_sweep {s u : Nat → Int32} (I : SI s) (E : SE s u) (K : SK s u) (hs : SS (s_D s) u) (k : Nat) (hk : k ≤ s_D s) (hc : SC k u) : SE s (p_it s_fstep k (s_D s - k) u) ∧ SK s (p_it s_fstep k (s_D s - k) u) ∧ SS (s_D s) (p_it s_fstep k (s_D s - k) u) ∧ SC (s_D s) (p_it s_fstep k (s_D s - k) u) := by
  have hD := I.D10
  have e := p_it_inv (f := s_fstep) (I := fun i x => SE s x ∧ SK s x ∧ SS (s_D s) x ∧ SC i x) (s_D s - k) k u ⟨E, K, hs, hc⟩ (fun i x h1 h2 ⟨a1, a2, a3, a4⟩ => by
    refine ⟨s_fstep_E a1 i (by omega), a2.st i _, a3.st3 i _, ?_⟩
    intro d hd h1'
    have n1 : s_fstep i x (29 + 5 * d) = x (29 + 5 * d) := upd_ne (by omega)
    have n2 : s_ndI (s_fstep i x) d = s_ndI x d := s_v_of n1
    rw [n1, n2]
    rcases I.ndl (i := d) (by omega) with hn | ⟨-, hn⟩
    · exact Or.inl (by rw [a1.n29]; exact hn)
    have hn' : s_ndI x d < d := by rw [s_ndI_of a1]; exact hn
    have n3 : s_fstep i x (30 + 5 * s_ndI x d) = x (30 + 5 * s_ndI x d) := upd_ne (by omega)
    rw [n3]
    rcases Nat.lt_or_ge d i with h3 | h3
    · have n4 : s_fstep i x (30 + 5 * d) = x (30 + 5 * d) := upd_ne (by omega)
      rw [n4] at h1'
      exact a4 d h3 h1'
    · have h4 : d = i := by omega
      subst h4
      have n5 : s_fstep d x (30 + 5 * d) = if s_fall x d then 3 else x (30 + 5 * d) := p_us _ _ _
      rw [n5] at h1'
      have h5 : s_fall x d = false := by
        cases hb : s_fall x d
        · rfl
        · rw [hb, if_pos rfl] at h1'; exact absurd h1' (by decide)
      rw [h5] at h1'
      have h6 : x (30 + 5 * d) = 1 := h1'
      unfold s_fall at h5
      rw [decide_eq_true h6, Bool.true_and] at h5
      by_cases h7 : x (29 + 5 * d) < 0
      · exact Or.inl h7
      · refine Or.inr ⟨fun h8 => ?_, fun h8 => ?_⟩
        · rw [decide_eq_false h7, h8] at h5; exact absurd h5 (by decide)
        · rw [decide_eq_false h7, h8] at h5; exact absurd h5 (by decide))
  rw [show k + (s_D s - k) = s_D s by omega] at e
  exact e
theorem p_it_split {σ : Type} (f : Nat → σ → σ) : ∀ (a k b : Nat) (x : σ), p_it f k (a + b) x = p_it f (k + a) b (p_it f k a x)
  | 0, k, b, x => by rw [Nat.zero_add, Nat.add_zero]; rfl
  | a + 1, k, b, x => by
    rw [show a + 1 + b = (a + b) + 1 by omega, show k + (a + 1) = k + 1 + a by omega]
    exact p_it_split f a (k + 1) b (f k x)
/-- undoing d: nothing ahead of it and not itself falls -/
theorem s_undo_from {s : Nat → Int32} (I : SI s) {d : Nat} (h : d < s_D s) : p_it s_fstep 0 (d + 1) (upd s (30 + 5 * d) 2) = upd s (30 + 5 * d) 2 ∧ SC (d + 1) (upd s (30 + 5 * d) 2) := by
  have hD := I.D10
  have hc : SC (d + 1) (upd s (30 + 5 * d) 2) := by
    intro i hi h1
    have n1 : upd s (30 + 5 * d) 2 (29 + 5 * i) = s (29 + 5 * i) := upd_ne (by omega)
    have n2 : s_ndI (upd s (30 + 5 * d) 2) i = s_ndI s i := s_v_of n1
    rw [n1, n2]
    by_cases hid : i = d
    · subst hid
      rw [p_us] at h1
      exact absurd h1 (by decide)
    rw [upd_ne (by omega)] at h1
    rcases I.ndl (i := i) (by omega) with hn | ⟨-, hn⟩
    · exact Or.inl hn
    rw [upd_ne (by omega)]
    exact I.sc i (by omega) h1
  refine ⟨?_, hc⟩
  have hi : ∀ i, i < d + 1 → s_fstep i (upd s (30 + 5 * d) 2) = upd s (30 + 5 * d) 2 := by
    intro i hi
    have hf : s_fall (upd s (30 + 5 * d) 2) i = false := by
      unfold s_fall
      by_cases h1 : upd s (30 + 5 * d) 2 (30 + 5 * i) = 1
      · rcases hc i hi h1 with h2 | ⟨h2, h3⟩
        · rw [decide_eq_true h2]; simp
        · rw [decide_eq_false h2, decide_eq_false h3]; simp
      · rw [decide_eq_false h1]; rfl
    unfold s_fstep
    rw [hf, if_neg (by decide), p_uid]
  have := p_it_inv (f := s_fstep) (I := fun _ x => x = upd s (30 + 5 * d) 2) (d + 1) 0 _ rfl (fun i x _ h2 h3 => by rw [h3]; exact hi i (by omega))
  exact this
theorem s_undo_eq {s : Nat → Int32} (I : SI s) {d : Nat} (h : d < s_D s) : s_undo s d = p_it s_fstep (d + 1) (s_D s - (d + 1)) (upd s (30 + 5 * d) 2) := by
  unfold s_undo
  have e := p_it_split s_fstep (d + 1) 0 (s_D s - (d + 1)) (upd s (30 + 5 * d) 2)
  rw [show d + 1 + (s_D s - (d + 1)) = s_D s by omega, (s_undo_from I h).1, Nat.zero_add] at e
  exact e
theorem s_undo_I {s : Nat → Int32} (I : SI s) {d : Nat} (h : d < s_D s) : SE s (s_undo s d) ∧ SK s (s_undo s d) ∧ SI (s_undo s d) := by
  have hD := I.D10
  rw [s_undo_eq I h]
  obtain ⟨h1, h2, h3, h4⟩ := s_sweep I ((SE.rf s).st (d := d) (by omega) 2) ((SK.rf s).st d 2) (I.ss.st d 2 (by omega)) (d + 1) (by omega) (s_undo_from I h).2
  exact ⟨h1, h2, I.mk3 h1 h2 h3 h4⟩
/-! the deeds of a year -/
def s_dstep (y : Int32) (i : Nat) (u : Nat → Int32) : Nat → Int32 := if u (27 + 5 * i) = y ∧ u (30 + 5 * i) = 0 then upd u (30 + 5 * i) (if u (29 + 5 * i) < 0 ∨ u (30 + 5 * s_ndI u i) = 1 then 1 else 4) else u
def s_do (s : Nat → Int32) : Nat → Int32 := p_it (s_dstep (s 3)) 0 (s_D s) s
theorem s_dstep_I {s : Nat → Int32} (I : SI s) (y : Int32) {i : Nat} (h : i < s_D s) : SE s (s_dstep y i s) ∧ SK s (s_dstep y i s) ∧ SI (s_dstep y i s) := by
  have hD := I.D10
  unfold s_dstep
  by_cases hc : s (27 + 5 * i) = y ∧ s (30 + 5 * i) = 0
  · rw [if_pos hc]
    have hcl : ∀ v : Nat, v ≤ 4 → v ≠ 2 → v ≠ 3 → (v = 1 → s (29 + 5 * i) < 0 ∨ s (30 + 5 * s_ndI s i) = 1) → SE s (upd s (30 + 5 * i) (nI v)) ∧ SK s (upd s (30 + 5 * i) (nI v)) ∧ SI (upd s (30 + 5 * i) (nI v)) := by
      intro v h4 hv2 hv3 hv1
      have E := (SE.rf s).st (d := i) (by omega) (nI v)
      have K := (SK.rf s).st i (nI v)
      refine ⟨E, K, I.mk3 E K (I.ss.st i v h4) ?_⟩
      intro d hd h1
      have n1 : upd s (30 + 5 * i) (nI v) (29 + 5 * d) = s (29 + 5 * d) := upd_ne (by omega)
      have n2 : s_ndI (upd s (30 + 5 * i) (nI v)) d = s_ndI s d := s_v_of n1
      rw [n1, n2]
      by_cases h0 : s (29 + 5 * d) < 0
      · exact Or.inl h0
      have hst : s (30 + 5 * d) = 1 → s (30 + 5 * s_ndI s d) ≠ 2 ∧ s (30 + 5 * s_ndI s d) ≠ 3 := fun q => (I.sc d hd q).resolve_left h0
      have hv' : ∀ j, s (30 + 5 * j) ≠ 2 ∧ s (30 + 5 * j) ≠ 3 → upd s (30 + 5 * i) (nI v) (30 + 5 * j) ≠ 2 ∧ upd s (30 + 5 * i) (nI v) (30 + 5 * j) ≠ 3 := by
        intro j hj
        by_cases hji : j = i
        · subst hji
          rw [p_us]
          exact ⟨fun q => hv2 ((nI_eq (by omega) (by omega)).mp q), fun q => hv3 ((nI_eq (by omega) (by omega)).mp q)⟩
        · rw [upd_ne (by omega)]
          exact hj
      refine Or.inr (hv' _ ?_)
      by_cases hdi : d = i
      · subst hdi
        rw [p_us] at h1
        have := (hv1 ((nI_eq (b := 1) (by omega) (by omega)).mp h1)).resolve_left h0
        rw [this]
        decide
      · rw [upd_ne (by omega)] at h1
        exact hst h1
    by_cases h2 : s (29 + 5 * i) < 0 ∨ s (30 + 5 * s_ndI s i) = 1
    · rw [if_pos h2]
      exact hcl 1 (by omega) (by omega) (by omega) (fun _ => h2)
    · rw [if_neg h2]
      exact hcl 4 (by omega) (by omega) (by omega) (fun q => absurd q (by omega))
  · rw [if_neg hc]
    exact ⟨SE.rf s, SK.rf s, I⟩
theorem s_do_I {s : Nat → Int32} (I : SI s) : SE s (s_do s) ∧ SK s (s_do s) ∧ SI (s_do s) :=
  p_it_inv (I := fun _ x => SE s x ∧ SK s x ∧ SI x) (s_D s) 0 s ⟨SE.rf s, SK.rf s, I⟩ (fun i x _ h2 ⟨a1, a2, a3⟩ => by
    obtain ⟨b1, b2, b3⟩ := s_dstep_I a3 (s 3) (i := i) (by rw [a1.D]; omega)
    exact ⟨a1.tr b1, a2.tr b2, b3⟩)
theorem t_do {n : lu_M} {s : Nat → Int32} (I : SI s) (a : Int32) : f12_goes a (p_rw n 1 s) = f12_goes_b83 a (s 3) (p_rw n 1 (s_do s)) := by
  have hD := I.D10
  have hl := (p_loop (fun q i (x : Nat → Int32) => f12_goes_b9 (f12_goes_b83 a) a q (s 3) i (p_rw n 1 x)) (fun x => f12_goes_b83 a (s 3) (p_rw n 1 x)) (s_D s) (s_dstep (s 3)) (fun _ x => SE s x ∧ SI x)
    (fun q x hx => by
      show f12_goes_b9B _ _ _ _ _ _ = _
      unfold f12_goes_b9B
      rw [p_rw_s, hx.1.lo (by omega) (by omega) (by omega), I.eD, if_pos (Int32.le_refl _)])
    (fun q i x hi ⟨E, J⟩ => by
      have e5 : (p_rw n 1 x) 1 5 = nI (s_D s) := by rw [p_rw_s, E.lo (by omega) (by omega) (by omega), I.eD]
      have hs4 : f12_spot (nI i) (4 : Int32) (p_rw n 1 x) = some (nI (30 + 5 * i), p_rw n 1 x) := by
        rw [show (4 : Int32) = nI 4 from rfl, t_spot, show 26 + 5 * i + 4 = 30 + 5 * i by omega]
      have h76 : ∀ v : Int32, f12_goes_b76 (f12_goes_b9 (f12_goes_b83 a) a q) (f12_goes_b83 a) a (s 3) (nI i) v (nI (30 + 5 * i)) (p_rw n 1 x) = f12_goes_b9 (f12_goes_b83 a) a q (s 3) (nI (i + 1)) (p_rw n 1 (upd x (30 + 5 * i) v)) := fun v => by
        unfold f12_goes_b76 f12_goes_b77
        rw [p_gd (by omega) (by omega), nI_clamp (by omega), p_nm, p_stw, p_next]
      show f12_goes_b9B _ _ _ _ _ _ = f12_goes_b9 _ _ _ _ _ (p_rw n 1 (s_dstep (s 3) i x))
      unfold f12_goes_b9B s_dstep
      rw [e5, q_le (by omega) (by omega), if_neg (by omega), t_dIn _ (by omega), p_bi, p_rw_s]
      by_cases h1 : x (27 + 5 * i) = s 3
      · rw [if_pos h1, t_dSo _ (by omega), p_bi, p_rw_s]
        by_cases h2 : x (30 + 5 * i) = 0
        · rw [if_pos h2, if_pos (show x (27 + 5 * i) = s 3 ∧ x (30 + 5 * i) = 0 from ⟨h1, h2⟩), t_dNd _ (by omega), p_bi, hs4, p_bi, p_rw_s]
          rcases J.need (SE.rf x) (i := i) (by rw [E.D]; exact hi) with hn | ⟨hn, e, hlt⟩
          · rw [if_pos hn, if_pos (Or.inl hn)]
            exact h76 1
          · rw [if_neg hn, e, t_dSo _ (by omega), p_bi, p_rw_s]
            rw [← e]
            by_cases h3 : x (30 + 5 * s_ndI x i) = 1
            · rw [if_pos h3, if_pos (Or.inr h3)]
              exact h76 1
            · rw [if_neg h3, if_neg (fun q => q.elim hn h3)]
              exact h76 4
        · rw [if_neg h2, if_neg (fun q => h2 q.2)]
          unfold f12_goes_b77
          rw [p_next]
      · rw [if_neg h1, if_neg (fun q => h1 q.1)]
        unfold f12_goes_b77
        rw [p_next])
    (fun i x hi ⟨E, J⟩ => by
      obtain ⟨b1, -, b3⟩ := s_dstep_I J (s 3) (i := i) (by rw [E.D]; exact hi)
      exact ⟨E.tr b1, b3⟩) (s_D s) 0 lu_fu s (by omega) (p_fu (by omega)) ⟨SE.rf s, I⟩).1
  unfold f12_goes
  rw [p_nm, p_rw_s]
  exact hl

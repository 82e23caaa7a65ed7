/-! THE PURE PART, the class: deeds of a year, undoing, sums -/
theorem p_stc (m : lu_M) (c : Nat) (x : Nat → Int32) (k : Nat) (v : Int32) : lu_st (p_rw m c x) c k v = p_rw m c (upd x k v) := by
  rw [p_st, p_rw_s, p_rw_rw]
theorem k_do {m : lu_M} {w c : Nat} {s : Nat → Int32} (I : SI s) (B : RB m w s) (hc : LN w c) {x : Nat → Int32} (C : CR (s_D s) x s) : ∃ x', f10_doDeeds w c (p_rw m c x) = some (p_rw m c x') ∧ CR (s_D s) x' (s_do s) ∧ x' 5 = x 5 := by
  have hD := I.D10
  obtain ⟨x', e, -, -, -, h4, h5⟩ := p_loopR (fun q i y => f10_doDeeds_b2 (f10_doDeeds_b90 w c) w c q i (p_rw m c y)) (fun y => some (p_rw m c y)) (s_D s) (s_dstep (s 3)) (fun _ y u => SE s u ∧ SK s u ∧ SI u ∧ CR (s_D s) y u ∧ y 5 = x 5)
    (fun q y u h => by
      have B' := B.tr ((FR.rf w m).ln hc y)
      show f10_doDeeds_b2B _ _ _ _ _ _ = _
      unfold f10_doDeeds_b2B f10_doDeeds_b90
      rw [B'.ded, I.eD, if_pos (Int32.le_refl _)])
    (fun q i y u hi ⟨E, K, J, CU, h5⟩ => by
      have B' := B.tr ((FR.rf w m).ln hc y)
      have C' : CR (s_D s) ((p_rw m c y) c) u := by rw [p_rw_s]; exact CU
      obtain ⟨-, b9, -, b11, -⟩ := B'.dd hi
      have h27 : u (27 + 5 * i) = s (27 + 5 * i) := E.de (w := 1) (by omega)
      have h29 := E.n29 i
      have hst : ∀ k : Nat, (k = 1 ∨ k = 4) → u (30 + 5 * i) = 0 → f10_doDeeds_b84 (f10_doDeeds_b2 (f10_doDeeds_b90 w c) w c q) (f10_doDeeds_b90 w c) w c (nI i) (lu_st (p_rw m c y) c k ((p_rw m c y) c k ||| ((1 : Int32) <<< (nI i &&& 31)))) = f10_doDeeds_b2 (f10_doDeeds_b90 w c) w c q (nI (i + 1)) (p_rw m c (upd y k (y k ||| ((1 : Int32) <<< (nI i &&& 31))))) := fun k _ _ => by
        unfold f10_doDeeds_b84
        rw [p_rw_s, p_stc, p_next]
      have hC : ∀ k : Nat, (k = 1 ∨ k = 4) → u (30 + 5 * i) = 0 → CR (s_D s) (upd y k (y k ||| ((1 : Int32) <<< (nI i &&& 31)))) (upd u (30 + 5 * i) (nI k)) ∧ upd y k (y k ||| ((1 : Int32) <<< (nI i &&& 31))) 5 = x 5 := fun k hk h0 => ⟨CU.set hi hD k hk h0, by rw [upd_ne (by omega)]; exact h5⟩
      obtain ⟨d1, d2, d3⟩ := s_dstep_I J (s 3) (i := i) (by rw [E.D]; exact hi)
      have hE : SE s (s_dstep (s 3) i u) ∧ SK s (s_dstep (s 3) i u) ∧ SI (s_dstep (s 3) i u) := ⟨E.tr d1, K.tr d2, d3⟩
      show ∃ y', f10_doDeeds_b2B _ _ _ _ _ _ = f10_doDeeds_b2 _ _ _ _ _ (p_rw m c y') ∧ _
      have hskip : f10_doDeeds_b84 (f10_doDeeds_b2 (f10_doDeeds_b90 w c) w c q) (f10_doDeeds_b90 w c) w c (nI i) (p_rw m c y) = f10_doDeeds_b2 (f10_doDeeds_b90 w c) w c q (nI (i + 1)) (p_rw m c y) := by
        unfold f10_doDeeds_b84
        rw [p_next]
      unfold f10_doDeeds_b2B f10_doDeeds_b57
      rw [B'.ded, I.eD, q_le (by omega) (by omega), if_neg (by omega), p_gd (by omega) (by omega), nI_clamp (by omega), b9, C'.1, K.1, k_how C' (by have := J.ss; rw [E.D] at this; exact this) hi hD, p_bi, p_gd (by omega) (by omega), p_gd (by omega) (by omega), b11]
      by_cases h1 : s (27 + 5 * i) = s 3
      · rw [if_pos h1]
        by_cases h2 : u (30 + 5 * i) = 0
        · rw [if_pos h2]
          rcases J.ndl (i := i) (by rw [E.D]; exact hi) with hn | ⟨e, hlt⟩
          · have hm : s (29 + 5 * i) = -1 := by
              rcases J.nd (d := i) (by rw [E.D]; exact hi) with h | ⟨h, h'⟩
              · rw [← h29]; exact h
              · rw [h] at hn; exact absurd hn (nI_pos (by omega))
            have hf : s_dstep (s 3) i u = upd u (30 + 5 * i) (nI 1) := by
              unfold s_dstep
              rw [if_pos ⟨h27.trans h1, h2⟩, if_pos (Or.inl hn)]; rfl
            rw [if_pos hm, p_nm, hst 1 (Or.inl rfl) h2]
            refine ⟨_, rfl, hE.1, hE.2.1, hE.2.2, ?_⟩
            rw [hf]
            exact hC 1 (Or.inl rfl) h2
          · have hn : ¬ u (29 + 5 * i) < 0 := by rw [e]; exact nI_pos (by omega)
            have hm : ¬ s (29 + 5 * i) = -1 := by rw [← h29]; intro q; rw [q] at hn; exact hn m1_neg
            rw [if_neg hm, ← h29, e, k_isStanding C' (d := s_ndI u i) (by omega) hD, p_bi, p_if]
            by_cases h3 : u (30 + 5 * s_ndI u i) = 1
            · have hf : s_dstep (s 3) i u = upd u (30 + 5 * i) (nI 1) := by
                unfold s_dstep
                rw [if_pos ⟨h27.trans h1, h2⟩, if_pos (Or.inr h3)]; rfl
              rw [decide_eq_true h3, if_pos rfl, p_nm, hst 1 (Or.inl rfl) h2]
              refine ⟨_, rfl, hE.1, hE.2.1, hE.2.2, ?_⟩
              rw [hf]
              exact hC 1 (Or.inl rfl) h2
            · have hf : s_dstep (s 3) i u = upd u (30 + 5 * i) (nI 4) := by
                unfold s_dstep
                rw [if_pos ⟨h27.trans h1, h2⟩, if_neg (fun q => q.elim hn h3)]; rfl
              rw [decide_eq_false h3, if_neg (by decide), p_nm, hst 4 (Or.inr rfl) h2]
              refine ⟨_, rfl, hE.1, hE.2.1, hE.2.2, ?_⟩
              rw [hf]
              exact hC 4 (Or.inr rfl) h2
        · have hf : s_dstep (s 3) i u = u := by
            unfold s_dstep
            rw [if_neg (fun q => h2 q.2)]
          rw [if_neg h2, hskip, hf]
          exact ⟨y, rfl, E, K, J, CU, h5⟩
      · have hf : s_dstep (s 3) i u = u := by
          unfold s_dstep
          rw [if_neg (fun q => h1 (h27.symm.trans q.1))]
        rw [if_neg h1, hskip, hf]
        exact ⟨y, rfl, E, K, J, CU, h5⟩) (s_D s) 0 lu_fu x s (by omega) (p_fu (by omega)) ⟨SE.rf s, SK.rf s, I, C, rfl⟩
  exact ⟨x', e, h4, h5⟩
theorem s_fstep_n {u : Nat → Int32} {i : Nat} (h : s_fall u i = false) : s_fstep i u = u := by
  unfold s_fstep
  rw [h, if_neg (by decide), p_uid]
theorem s_fstep_y {u : Nat → Int32} {i : Nat} (h : s_fall u i = true) : s_fstep i u = upd u (30 + 5 * i) (nI 3) := by
  unfold s_fstep
  rw [h, if_pos rfl]; rfl
theorem k_undo {m : lu_M} {w c : Nat} {s : Nat → Int32} (I : SI s) (B : RB m w s) (hc : LN w c) {x : Nat → Int32} (C : CR (s_D s) x s) {d : Nat} (hd : d < s_D s) (h1 : s (30 + 5 * d) = 1) : ∃ x', f10_undo w c (nI d) (p_rw m c x) = some (p_rw m c x') ∧ CR (s_D s) x' (s_undo s d) ∧ x' 5 = x 5 := by
  have hD := I.D10
  obtain ⟨x', e, -, -, h4, h5⟩ := p_loopR (fun q i y => f10_undo_b30 (f10_undo_b104 w c (nI d)) w c (nI d) q i (p_rw m c y)) (fun y => some (p_rw m c y)) (s_D s) s_fstep (fun _ y u => SE s u ∧ SS (s_D s) u ∧ CR (s_D s) y u ∧ y 5 = x 5)
    (fun q y u h => by
      have B' := B.tr ((FR.rf w m).ln hc y)
      show f10_undo_b30B _ _ _ _ _ _ _ = _
      unfold f10_undo_b30B f10_undo_b104
      rw [B'.ded, I.eD, if_pos (Int32.le_refl _)])
    (fun q i y u hi ⟨E, hs, CU, h5⟩ => by
      have B' := B.tr ((FR.rf w m).ln hc y)
      have C' : CR (s_D s) ((p_rw m c y) c) u := by rw [p_rw_s]; exact CU
      obtain ⟨-, -, -, b11, -⟩ := B'.dd hi
      have h29 := E.n29 i
      show ∃ y', f10_undo_b30B _ _ _ _ _ _ _ = f10_undo_b30 _ _ _ _ _ _ (p_rw m c y') ∧ _
      have hskip : f10_undo_b98 (f10_undo_b30 (f10_undo_b104 w c (nI d)) w c (nI d) q) (f10_undo_b104 w c (nI d)) w c (nI d) (nI i) (p_rw m c y) = f10_undo_b30 (f10_undo_b104 w c (nI d)) w c (nI d) q (nI (i + 1)) (p_rw m c y) := by
        unfold f10_undo_b98
        rw [p_next]
      have hno : s_fall u i = false → ∃ y', f10_undo_b30 (f10_undo_b104 w c (nI d)) w c (nI d) q (nI (i + 1)) (p_rw m c y) = f10_undo_b30 (f10_undo_b104 w c (nI d)) w c (nI d) q (nI (i + 1)) (p_rw m c y') ∧ SE s (s_fstep i u) ∧ SS (s_D s) (s_fstep i u) ∧ CR (s_D s) y' (s_fstep i u) ∧ y' 5 = x 5 := fun h => by
        rw [s_fstep_n h]
        exact ⟨y, rfl, E, hs, CU, h5⟩
      unfold f10_undo_b30B
      rw [B'.ded, I.eD, q_le (by omega) (by omega), if_neg (by omega), k_isStanding C' hi hD, p_bi, p_if, p_gd (by omega) (by omega), p_gd (by omega) (by omega), nI_clamp (by omega), b11, hskip]
      by_cases g1 : u (30 + 5 * i) = 1
      · rw [decide_eq_true g1, if_pos rfl]
        rcases I.ndl hi with hn | ⟨e, hlt⟩
        · have hm : s (29 + 5 * i) = -1 := by
            rcases I.nd hi with h | ⟨h, h'⟩
            · exact h
            · rw [h] at hn; exact absurd hn (nI_pos (by omega))
          rw [if_pos hm]
          apply hno
          unfold s_fall
          rw [h29, decide_eq_true hn]; simp
        · have hn : ¬ s (29 + 5 * i) < 0 := by rw [e]; exact nI_pos (by omega)
          have hm : ¬ s (29 + 5 * i) = -1 := by intro q; rw [q] at hn; exact hn m1_neg
          have hd' : s_ndI u i = s_ndI s i := s_ndI_of E i
          have hf : s_fall u i = (decide (u (30 + 5 * s_ndI s i) = 2) || decide (u (30 + 5 * s_ndI s i) = 3)) := by
            unfold s_fall
            rw [h29, decide_eq_false hn, decide_eq_true g1, hd']; rfl
          rw [if_neg hm, e, k_isGone C' (d := s_ndI s i) (by omega) hD, p_bi, p_if, ← hf]
          cases hg : s_fall u i
          · rw [if_neg (by decide), hskip]
            exact hno hg
          · rw [if_pos rfl, p_nm, p_nm, s_fstep_y hg, p_rw_s, p_stc, p_rw_s, p_stc]
            unfold f10_undo_b98
            rw [p_next, upd_ne (f := y) (by omega)]
            refine ⟨_, rfl, E.st (by omega) _, hs.st i 3 (by omega), CU.mov hi hD 3 (Or.inr rfl) g1, ?_⟩
            rw [upd_ne (by omega), upd_ne (by omega)]
            exact h5
      · rw [decide_eq_false g1, if_neg (by decide)]
        apply hno
        unfold s_fall
        rw [decide_eq_false g1]; rfl) (s_D s - (d + 1)) (d + 1) lu_fu (upd (upd x 1 (x 1 &&& (((1 : Int32) <<< (nI d &&& 31)) ^^^ (-1 : Int32)))) 2 (x 2 ||| ((1 : Int32) <<< (nI d &&& 31)))) (upd s (30 + 5 * d) 2) (by omega) (p_fu (by omega)) ⟨(SE.rf s).st (by omega) _, I.ss.st d 2 (by omega), C.mov hd hD 2 (Or.inl rfl) h1, by rw [upd_ne (by omega), upd_ne (by omega)]⟩
  refine ⟨x', ?_, ?_, h5⟩
  · unfold f10_undo
    rw [p_nm, p_nm, p_nm, p_rw_s, p_stc, p_rw_s, p_stc, p_next, upd_ne (f := x) (by omega)]
    exact e
  · rw [s_undo_eq I hd]
    exact h4
theorem k_borne {m : lu_M} {w c : Nat} {s u : Nat → Int32} (I : SI s) (E : SE s u) (B : RB m w s) (C : CR (s_D s) (m c) u) {p : Nat} (hp : p < 6) : f10_borne w (nI p) c m = some (s_sw u (nI p), m) := by
  have hD := I.D10
  have hb : ∀ i, i < s_D s → bt (m (w + 13) p &&& m c 1) i = decide (u (30 + 5 * i) = 1 ∧ (nI p < 0 ∨ u (26 + 5 * i) = nI p)) := fun i hi => by
    have h26 : u (26 + 5 * i) = s (26 + 5 * i) := E.de (w := 0) (by omega)
    rw [b_and, B.mi hp (by omega), (C.2 i (by omega)).1, decide_eq_true hi, Bool.true_and, Bool.true_and, h26]
    have hn := nI_pos (n := p) (by omega)
    by_cases g1 : s (26 + 5 * i) = nI p
    · by_cases g2 : u (30 + 5 * i) = 1 <;> simp [g1, g2]
    · simp [g1, hn]
  have hl := (p_loop (fun q i (x : Int32) => f10_borne_b18 (f10_borne_b55 w (nI p) c) w (nI p) c q (m (w + 13) p &&& m c 1) x i m) (fun x => some (x, m)) (s_D s) (fun i x => x + (if u (30 + 5 * i) = 1 ∧ (nI p < 0 ∨ u (26 + 5 * i) = nI p) then u (28 + 5 * i) else 0)) (fun _ _ => True)
    (fun q x _ => by
      show f10_borne_b18B _ _ _ _ _ _ _ _ _ = _
      unfold f10_borne_b18B f10_borne_b55
      rw [B.ded, I.eD, if_pos (Int32.le_refl _)])
    (fun q i x hi _ => by
      have h28 : u (28 + 5 * i) = s (28 + 5 * i) := E.de (w := 2) (by omega)
      show f10_borne_b18B _ _ _ _ _ _ _ _ _ = _
      unfold f10_borne_b18B f10_borne_b49
      rw [B.ded, I.eD, q_le (by omega) (by omega), if_neg (by omega), p_bit _ (by omega), p_if1, hb i hi, p_gd (by omega) (by omega), p_nm, nI_clamp (by omega), (B.dd hi).2.2.1, p_next, ← h28]
      by_cases g : u (30 + 5 * i) = 1 ∧ (nI p < 0 ∨ u (26 + 5 * i) = nI p)
      · rw [decide_eq_true g, if_pos rfl, if_pos g]
      · rw [decide_eq_false g, if_neg (by decide), if_neg g, Int32.add_zero])
    (fun _ _ _ _ => trivial) (s_D s) 0 lu_fu 0 (by omega) (p_fu (by omega)) trivial).1
  unfold f10_borne s_sw
  rw [p_gd hp (by omega), p_nm, nI_clamp (by omega), E.D]
  exact hl
/-- what a year is worth -/
def s_worth (y : Int32) (u : Nat → Int32) : Int32 := p_it (fun i x => x + (if u (30 + 5 * i) = 1 ∧ ¬ nI (s_due u i) < y then u (28 + 5 * i) else 0)) 0 (s_D u) 0
theorem k_worth {m : lu_M} {w c : Nat} {s u : Nat → Int32} (I : SI s) (E : SE s u) (B : RB m w s) (C : CR (s_D s) (m c) u) (a : Int32) : f10_pass_b53 w c a m = f10_pass_b106 w c a (s_worth (u 3) u) m := by
  have hD := I.D10
  have hl := (p_loop (fun q i (x : Int32) => f10_pass_b58 (f10_pass_b106 w c a) w c a q x i m) (fun x => f10_pass_b106 w c a x m) (s_D s) (fun i x => x + (if u (30 + 5 * i) = 1 ∧ ¬ nI (s_due u i) < u 3 then u (28 + 5 * i) else 0)) (fun _ _ => True)
    (fun q x _ => by
      show f10_pass_b58B _ _ _ _ _ _ _ _ = _
      unfold f10_pass_b58B
      rw [B.ded, I.eD, if_pos (Int32.le_refl _)])
    (fun q i x hi _ => by
      have h28 : u (28 + 5 * i) = s (28 + 5 * i) := E.de (w := 2) (by omega)
      show f10_pass_b58B _ _ _ _ _ _ _ _ = _
      unfold f10_pass_b58B f10_pass_b100
      rw [B.ded, I.eD, q_le (by omega) (by omega), if_neg (by omega), k_isStanding C hi hD, p_bi, p_if, p_gd (by omega) (by omega), p_gd (by omega) (by omega), p_nm, nI_clamp (by omega), (B.dd hi).2.2.1, (B.dd hi).2.2.2.2, C.1, p_next, ← h28, s_due_of I E hi]
      by_cases g : u (30 + 5 * i) = 1
      · rw [decide_eq_true g, if_pos rfl]
        by_cases g2 : nI (s_due s i) < u 3
        · rw [if_pos g2, if_neg (fun q => q.2 g2), Int32.add_zero]
        · rw [if_neg g2, if_pos ⟨g, g2⟩]
      · rw [decide_eq_false g, if_neg (by decide), if_neg (fun q => g q.1), Int32.add_zero])
    (fun _ _ _ _ => trivial) (s_D s) 0 lu_fu 0 (by omega) (p_fu (by omega)) trivial).1
  unfold f10_pass_b53 s_worth
  rw [E.D]
  exact hl
theorem t_worth {n : lu_M} {s u : Nat → Int32} (I : SI u) (h : n 1 = u) (a y : Int32) : f12_goes_b133 a y n = f12_goes_b190 a (s_worth y u) n := by
  have hD := I.D10
  have I' : SI (n 1) := by rw [h]; exact I
  have hl := (p_loop (fun q i (x : Int32) => f12_goes_b138 (f12_goes_b190 a) a q y x i n) (fun x => f12_goes_b190 a x n) (s_D u) (fun i x => x + (if u (30 + 5 * i) = 1 ∧ ¬ nI (s_due u i) < y then u (28 + 5 * i) else 0)) (fun _ _ => True)
    (fun q x _ => by
      show f12_goes_b138B _ _ _ _ _ _ _ = _
      unfold f12_goes_b138B
      rw [h, I.eD, if_pos (Int32.le_refl _)])
    (fun q i x hi _ => by
      show f12_goes_b138B _ _ _ _ _ _ _ = _
      unfold f12_goes_b138B f12_goes_b181 f12_goes_b182
      rw [h, I.eD, q_le (by omega) (by omega), if_neg (by omega), t_dSo _ (by omega), p_bi, t_due I' (by rw [h]; exact hi), p_bi, t_dWt _ (by omega), p_bi, p_nm, p_nm, p_next, h]
      by_cases g : u (30 + 5 * i) = 1
      · rw [if_pos g]
        by_cases g2 : nI (s_due u i) < y
        · rw [if_pos g2, if_neg (fun q => q.2 g2)]
        · rw [if_neg g2, if_pos ⟨g, g2⟩]
      · rw [if_neg g, if_neg (fun q => g q.1)])
    (fun _ _ _ _ => trivial) (s_D u) 0 lu_fu 0 (by omega) (p_fu (by omega)) trivial).1
  unfold f12_goes_b133 s_worth
  exact hl

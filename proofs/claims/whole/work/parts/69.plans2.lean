/-! THE PURE PART: plans, the tree -/
def PS (m n : lu_M) (len : Nat) (M N : lu_M) : Prop :=
  (∀ r, r ≠ 36 → r ≠ 74 → (r < 76 ∨ 82 < r) → M r = m r) ∧
  (∀ r, r ≠ 0 → r ≠ 1 → r ≠ 4 → (r < 7 ∨ 9 < r) → N r = n r) ∧
  (∀ i, i < 10 ∨ 14 < i → N 0 i = n 0 i) ∧
  M 74 4 = nI len ∧ M 74 3 = N 0 14 ∧ M 74 5 = N 0 10 ∧ M 74 6 = N 0 11 ∧ M 74 8 = N 0 12 ∧ M 74 9 = N 0 13
def PF (len : Nat) (M N : lu_M) : Prop := ∀ k, k < len → M 82 k = N 9 k
theorem pl_leaf {m n M N : lu_M} {len : Nat} (hl : len ≤ 4) (S : PS m n len M N) (F : N 0 10 = -1 ∨ PF len M N) (J : SI (N 1)) (C : CR (s_D (N 1)) (M (75 + 1 + len)) (N 1)) {w : Int32} (hw : M (75 + 1 + len) 5 = w) (hk : ∃ k, w = nI k ∧ k ≤ 1000) (hL : ∀ k, k < len → M 81 k = N 8 k) {held : Int32} (hh : held = s_cnt (N 8) len) : ∃ M' N', f5_weigh (75 + 1 + len) held M = some M' ∧ f12_ended (nI len) w N = some N' ∧ PS m n len M' N' ∧ PF len M' N' ∧ (∀ r, r ≠ 74 → r ≠ 82 → M' r = M r) ∧ (∀ r, r ≠ 0 → r ≠ 9 → N' r = N r) := by
  obtain ⟨s1, s2, s3, s4, s5, s6, s7, s8, s9⟩ := S
  have hD := J.D10
  obtain ⟨y, z, e1, a3, a4, a9, a8, a5, a6, a82⟩ := k_weigh hl s4 held
  obtain ⟨y', z', e2, b0, b13, b12, b10, b11, b9⟩ := t_ended (n := N) hl J w
  have hth := (C.th rfl hD).1
  rw [hw, s6, s7] at a6
  rw [hw, s6] at a5
  rw [hw, s6] at a82
  rw [hth, s5, s8] at a8
  rw [hth, s9] at a9
  have h8 : y 8 = y' 12 := by
    rw [a8, b12, p_minmax, hh]
    by_cases h : (s_those (N 1) 1 &&& N 0 14) = N 0 14
    · rw [if_pos h, if_pos ((p_sub_iff _ _).mp h)]
    · rw [if_neg h, if_neg (fun q => h ((p_sub_iff _ _).mpr q))]
  refine ⟨_, _, e1, e2, ⟨fun r h1 h2 h3 => ?_, fun r h1 h2 h3 h4 => ?_, fun i hi => ?_, ?_, ?_, ?_, ?_, ?_, ?_⟩, ?_, fun r h1 h2 => qM_n M y z h1 h2, fun r h1 h2 => rM_n N y' z' h1 h2⟩
  · rw [qM_n M y z h2 (by omega)]; exact s1 r h1 h2 h3
  · rw [rM_n N y' z' h1 (by omega)]; exact s2 r h1 h2 h3 h4
  · rw [rM0, b0 i (by omega)]; exact s3 i hi
  · rw [qM74, a4, s4]
  · rw [qM74, rM0, a3, b0 14 (by omega), s5]
  · rw [qM74, rM0, a5, b10]
  · rw [qM74, rM0, a6, b11]
  · rw [qM74, rM0, h8]
  · rw [qM74, rM0, a9, b13]
  · intro k hk'
    rw [qM82, rM9]
    by_cases h : w ≤ N 0 10
    · rw [if_pos h] at a82 b9
      rw [a82, b9]
      rcases F with F | F
      · exfalso
        obtain ⟨k, e, hk2⟩ := hk
        rw [F, e] at h
        exact nI_pos (show k < 2 ^ 31 by omega) (Int32.lt_of_le_of_lt h (by decide))
      · exact F k hk'
    · rw [if_neg h] at a82 b9
      rw [a82 k hk', b9 k hk']
      exact hL k hk'
theorem k_copy (m : lu_M) {c b : Nat} (hcb : c ≠ b) : ∃ x, f1_copy c b m = some (p_rw m c x) ∧ ∀ i, i < 6 → x i = m b i := by
  refine ⟨upd (upd (upd (upd (upd (upd (m c) 0 (m b 0)) 1 (m b 1)) 2 (m b 2)) 3 (m b 3)) 4 (m b 4)) 5 (m b 5), ?_, fun i hi => ?_⟩
  · unfold f1_copy
    have hb : ∀ x, (p_rw m c x) b = m b := fun x => p_rw_n (fun q => hcb q.symm)
    simp only [p_nm, p_st m c, p_stc, hb]
  · have : i = 0 ∨ i = 1 ∨ i = 2 ∨ i = 3 ∨ i = 4 ∨ i = 5 := by omega
    rcases this with e | e | e | e | e | e <;> subst e <;> rfl
theorem LNc (c : Nat) (h : 37 ≤ c) : LN 1 c := Or.inr (Or.inr (by omega))
/-- one YEAR on a line behind another one, in both -/
theorem pl_step {m n M0 N : lu_M} {L : List Ru} (W : WR m 1 (n 1) L) {d : Nat} (hd : d < 4) (F0 : ∀ r, 1 ≤ r → r < 36 → M0 r = m r) {u : Nat → Int32} (E : SE (n 1) u) (J : SI u) (h1 : N 1 = u) (C : CR (s_D (n 1)) (M0 (75 + 1 + d)) u) (hy : s_v u 3 < s_v u 2) (a : Int32) : ∃ f x x0 t, f1_copy (75 + 1 + (d + 1)) (75 + 1 + d) M0 = some (p_rw M0 (75 + 1 + (d + 1)) x0) ∧ f10_pass 1 (75 + 1 + (d + 1)) a (p_rw M0 (75 + 1 + (d + 1)) x0) = some (s_w L a u, p_rw (p_rw M0 (1 + 35) f) (75 + 1 + (d + 1)) x) ∧ CR (s_D (n 1)) x (s_goes L a u) ∧ x 5 = M0 (75 + 1 + d) 5 + s_w L a u ∧ f12_goes a N = some (s_w L a u, p_rw (p_rw N 1 (s_goes L a u)) 4 t) ∧ SE (n 1) (s_goes L a u) ∧ SE u (s_goes L a u) ∧ SI (s_goes L a u) := by
  obtain ⟨x0, e0, hx0⟩ := k_copy M0 (c := 75 + 1 + (d + 1)) (b := 75 + 1 + d) (by omega)
  have FF : FR 1 m M0 := fun r h1 h2 h3 h4 => F0 r h1 (by omega)
  obtain ⟨e, J2⟩ := s_goes_I J L a hy
  have C0 : CR (s_D u) x0 u := by rw [E.D]; exact C.cp (fun i hi => hx0 i (by omega))
  obtain ⟨f, x, e1, C1, h5⟩ := k_pass J ((W.b.se W.i E).tr FF) (LNc (75 + 1 + (d + 1)) (by omega)) (W.w.tr FF) a (M0 (1 + 35)) C0
  rw [p_rw_id] at e1
  obtain ⟨t, e2⟩ := t_goes (n := N) h1 J W.l (W.r.se E W.l.1 W.l.2.1) a (N 4)
  rw [p_rw_id] at e2
  exact ⟨f, x, x0, t, e0, e1, by rw [← E.D]; exact C1, by rw [h5, hx0 5 (by omega)], e2, E.tr e, e, J2⟩
theorem pl_run {m n : lu_M} {L : List Ru} (W : WR m 1 (n 1) L) {len : Nat} (hl : len ≤ 4) : ∀ (j d e : Nat) (M N : lu_M) (u : Nat → Int32) (held w : Int32), d + j = len → j < e → PS m n len M N → (N 0 10 = -1 ∨ PF len M N) → SE (n 1) u → SI u → N 1 = u → CR (s_D (n 1)) (M (75 + 1 + d)) u → M (75 + 1 + d) 5 = w → (∃ k, w = nI k ∧ k ≤ 90 * d) → (∀ k, k < d → M 81 k = N 8 k) → held = s_cnt (N 8) d → s_v u 3 + j ≤ s_v u 2 → ∃ M' N', f5_tryFrom e (nI d) held M = some M' ∧ f12_plans e (nI d) (nI len) w N = some N' ∧ PS m n len M' N' ∧ PF len M' N' ∧ N' 1 = u ∧ (∀ r, 76 ≤ r → r ≤ 76 + d → M' r = M r) ∧ (∀ k, k < d → M' 81 k = M 81 k) ∧ (∀ k, k < d → N' 8 k = N 8 k) ∧ (∀ i, i < 12 * d → N' 7 i = N 7 i)
  | 0, d, e, M, N, u, held, w, hj, he, S, F, E, J, h1, C, hw, hk, hL, hh, hy => by
    obtain ⟨e, rfl⟩ : ∃ r, e = r + 1 := ⟨e - 1, by omega⟩
    rw [Nat.add_zero] at hj
    subst hj
    obtain ⟨k, ek, hk⟩ := hk
    obtain ⟨M', N', e1, e2, S', F', g1, g2⟩ := pl_leaf hl S F (by rw [h1]; exact J) (by rw [h1, E.D]; exact C) hw ⟨k, ek, by omega⟩ hL hh
    refine ⟨M', N', ?_, ?_, S', F', (g2 1 (by omega) (by omega)).trans h1, fun r h1 h2 => g1 r (by omega) (by omega), fun k _ => by rw [g1 81 (by omega) (by omega)], fun k _ => by rw [g2 8 (by omega) (by omega)], fun k _ => by rw [g2 7 (by omega) (by omega)]⟩
    · show f5_tryFromO _ _ _ _ = _
      unfold f5_tryFromO
      rw [S.2.2.2.1, q_lt (by omega) (by omega), if_neg (by omega), p_gd (by omega) (by omega), nI_clamp (by omega), e1, p_bv]
    · show f12_plansO _ _ _ _ _ = _
      unfold f12_plansO
      rw [if_pos rfl, e2, p_bv]
  | j + 1, d, e, M, N, u, held, w, hj, he, S, F, E, J, h1, C, hw, hk, hL, hh, hy => by
    obtain ⟨e, rfl⟩ : ∃ r, e = r + 1 := ⟨e - 1, by omega⟩
    have hP := W.i.P6
    have hP0 : u 0 = nI (s_P (n 1)) := (E.lo (by omega) (by omega) (by omega)).trans W.i.eP
    have inner : ∀ (i a q : Nat) (M N : lu_M), a + i = s_P (n 1) + 1 → i < q → PS m n len M N → (N 0 10 = -1 ∨ PF len M N) → (i = 0 → PF len M N) → N 1 = u → CR (s_D (n 1)) (M (75 + 1 + d)) u → M (75 + 1 + d) 5 = w → (∀ k, k < d → M 81 k = N 8 k) → held = s_cnt (N 8) d → ∃ M' N', f5_tryFrom_b25 (f5_tryFrom_b101 (f5_tryFrom e) (nI d) held) (f5_tryFrom e) (nI d) held q (nI a) M = some M' ∧ f12_plans_b15 (f12_plans_b66 (f12_plans e) (nI d) (nI len) w) (f12_plans e) (nI d) (nI len) w q (nI a) N = some N' ∧ PS m n len M' N' ∧ PF len M' N' ∧ N' 1 = u ∧ (∀ r, 76 ≤ r → r ≤ 76 + d → M' r = M r) ∧ (∀ k, k < d → M' 81 k = M 81 k) ∧ (∀ k, k < d → N' 8 k = N 8 k) ∧ (∀ i, i < 12 * d → N' 7 i = N 7 i) := by
      intro i
      induction i with
      | zero =>
        intro a q M N ha hq S F F0 h1 C hw hL hh
        obtain ⟨q, rfl⟩ : ∃ r, q = r + 1 := ⟨q - 1, by omega⟩
        have hM0 : M 1 0 = nI (s_P (n 1)) := by rw [S.1 1 (by omega) (by omega) (by omega)]; exact W.b.cnt.trans W.i.eP
        refine ⟨M, N, ?_, ?_, S, F0 rfl, h1, fun _ _ _ => rfl, fun _ _ => rfl, fun _ _ => rfl, fun _ _ => rfl⟩
        · show f5_tryFrom_b25B _ _ _ _ _ _ _ = _
          unfold f5_tryFrom_b25B f5_tryFrom_b101
          rw [hM0, q_lt (by omega) (by omega), if_pos (by omega)]
        · show f12_plans_b15B _ _ _ _ _ _ _ _ = _
          unfold f12_plans_b15B f12_plans_b66
          rw [h1, hP0, q_lt (by omega) (by omega), if_pos (by omega)]
      | succ i ih =>
        intro a q M N ha hq S F F0 h1 C hw hL hh
        obtain ⟨q, rfl⟩ : ∃ r, q = r + 1 := ⟨q - 1, by omega⟩
        have hM0 : M 1 0 = nI (s_P (n 1)) := by rw [S.1 1 (by omega) (by omega) (by omega)]; exact W.b.cnt.trans W.i.eP
        obtain ⟨g, eg, hg, hg10, hg11, hg0⟩ := t_saves N (d := d) (by omega)
        have hlt : s_v u 3 < s_v u 2 := by omega
        have F0' : ∀ r, 1 ≤ r → r < 36 → lu_st M 81 d (nI a) r = m r := fun r h1 h2 => by rw [lu_st_row (by omega)]; exact S.1 r (by omega) (by omega) (by omega)
        have h1' : lu_st (p_rw N 7 g) 8 d (nI a) 1 = u := by rw [lu_st_row (by omega), p_rw_n (by omega)]; exact h1
        have C' : CR (s_D (n 1)) (lu_st M 81 d (nI a) (75 + 1 + d)) u := by rw [lu_st_row (by omega)]; exact C
        obtain ⟨f, x, x0, t, e0, e1, C1, h5, e2, E2, E2', J2⟩ := pl_step W (by omega) F0' E J h1' C' hlt (nI a)
        rw [lu_st_row (show 75 + 1 + d ≠ 81 by omega), hw] at h5
        obtain ⟨g3, g2, -⟩ := s_goes_23 J L (nI a) hlt
        obtain ⟨k, ek, hk⟩ := hk
        obtain ⟨k1, ek1, hk1⟩ := s_w_n J L (nI a)
        have hx81 : ∀ k, p_rw (p_rw (lu_st M 81 d (nI a)) (1 + 35) f) (75 + 1 + (d + 1)) x 81 k = lu_st M 81 d (nI a) 81 k := fun k => by rw [p_rw_n (by omega), p_rw_n (by omega)]
        have hx8 : ∀ k, p_rw (p_rw (lu_st (p_rw N 7 g) 8 d (nI a)) 1 (s_goes L (nI a) u)) 4 t 8 k = lu_st (p_rw N 7 g) 8 d (nI a) 8 k := fun k => by rw [p_rw_n (by omega), p_rw_n (by omega)]
        have hL2 : ∀ k, k < d + 1 → p_rw (p_rw (lu_st M 81 d (nI a)) (1 + 35) f) (75 + 1 + (d + 1)) x 81 k = p_rw (p_rw (lu_st (p_rw N 7 g) 8 d (nI a)) 1 (s_goes L (nI a) u)) 4 t 8 k := fun k hk => by
          rw [hx81, hx8]
          by_cases e : k = d
          · subst e; rw [lu_st_self, lu_st_self]
          · rw [lu_st_ne e, lu_st_ne e, p_rw_n (by omega)]; exact hL k (by omega)
        have hcnt : (if nI a = (0 : Int32) then held else held + 1) = s_cnt (p_rw (p_rw (lu_st (p_rw N 7 g) 8 d (nI a)) 1 (s_goes L (nI a) u)) 4 t 8) (d + 1) := by
          rw [s_cnt_s, hx8, lu_st_self, s_cnt_c (g := N 8) (d := d) (fun k hk => by rw [hx8, lu_st_ne (by omega), p_rw_n (by omega)]), ← hh]
          by_cases e : a = 0
          · subst e
            rw [if_pos (show nI 0 = (0 : Int32) from rfl), if_pos (by decide), Int32.add_zero]
          · rw [if_neg (p_ne0 (by omega) (by omega)), if_neg (fun q => by
              have := (nI_leI (b := 0) (show a < 2 ^ 31 by omega) (by omega)).mp q; omega)]
        have S2 : PS m n len (p_rw (p_rw (lu_st M 81 d (nI a)) (1 + 35) f) (75 + 1 + (d + 1)) x) (p_rw (p_rw (lu_st (p_rw N 7 g) 8 d (nI a)) 1 (s_goes L (nI a) u)) 4 t) := by
          obtain ⟨s1, s2, s3, s4, s5, s6, s7, s8, s9⟩ := S
          have h74 : p_rw (p_rw (lu_st M 81 d (nI a)) (1 + 35) f) (75 + 1 + (d + 1)) x 74 = M 74 := by rw [p_rw_n (by omega), p_rw_n (by omega), lu_st_row (by omega)]
          have h0 : p_rw (p_rw (lu_st (p_rw N 7 g) 8 d (nI a)) 1 (s_goes L (nI a) u)) 4 t 0 = N 0 := by rw [p_rw_n (by omega), p_rw_n (by omega), lu_st_row (by omega), p_rw_n (by omega)]
          refine ⟨fun r h1 h2 h3 => ?_, fun r h1 h2 h3 h4 => ?_, fun i hi => ?_, ?_, ?_, ?_, ?_, ?_, ?_⟩
          · rw [p_rw_n (by omega), p_rw_n (by omega), lu_st_row (by omega)]; exact s1 r h1 h2 h3
          · rw [p_rw_n h3, p_rw_n h2, lu_st_row (by omega), p_rw_n (by omega)]; exact s2 r h1 h2 h3 h4
          · rw [h0]; exact s3 i hi
          · rw [h74]; exact s4
          · rw [h74, h0]; exact s5
          · rw [h74, h0]; exact s6
          · rw [h74, h0]; exact s7
          · rw [h74, h0]; exact s8
          · rw [h74, h0]; exact s9
        have F2 : p_rw (p_rw (lu_st (p_rw N 7 g) 8 d (nI a)) 1 (s_goes L (nI a) u)) 4 t 0 10 = -1 ∨ PF len (p_rw (p_rw (lu_st M 81 d (nI a)) (1 + 35) f) (75 + 1 + (d + 1)) x) (p_rw (p_rw (lu_st (p_rw N 7 g) 8 d (nI a)) 1 (s_goes L (nI a) u)) 4 t) := by
          rcases F with F | F
          · refine Or.inl ?_
            rw [p_rw_n (by omega), p_rw_n (by omega), lu_st_row (by omega), p_rw_n (by omega)]; exact F
          · refine Or.inr (fun k hk => ?_)
            rw [p_rw_n (by omega), p_rw_n (by omega), lu_st_row (by omega), p_rw_n (by omega), p_rw_n (by omega), lu_st_row (by omega), p_rw_n (by omega)]; exact F k hk
        obtain ⟨M3, N4, c1, c2, S3, F3, h31, r1, r2, r3, r4⟩ := pl_run W hl j (d + 1) e _ _ (s_goes L (nI a) u) (if nI a = (0 : Int32) then held else held + 1) (w + s_w L (nI a) u) (by omega) (by omega) S2 F2 E2 J2 (by rw [p_rw_n (by omega), p_rw_s]) (by rw [p_rw_s]; exact C1) (by rw [p_rw_s]; exact h5) ⟨k + k1, by rw [ek, ek1, nI_add], by omega⟩ hL2 hcnt (by omega)
        have eb : f12_takesBack (nI d) N4 = some (p_rw N4 1 u) := by
          refine t_takesBack (by omega) (by rw [h31]; exact E2') (fun e he => ?_) ?_ ?_
          · rw [r4 _ (by omega), p_rw_n (by omega), p_rw_n (by omega), lu_st_row (by omega), p_rw_s, hg e he, h1]
          · rw [r4 _ (by omega), p_rw_n (by omega), p_rw_n (by omega), lu_st_row (by omega), p_rw_s, hg10, h1]
          · rw [r4 _ (by omega), p_rw_n (by omega), p_rw_n (by omega), lu_st_row (by omega), p_rw_s, hg11, h1]
        have q1 : ∀ r, 76 ≤ r → r ≤ 76 + d → M3 r = M r := fun r h1 h2 => by
          rw [r1 r h1 (by omega), p_rw_n (by omega), p_rw_n (by omega), lu_st_row (by omega)]
        have q2 : ∀ k, k < d → M3 81 k = M 81 k := fun k hk => by
          rw [r2 k (by omega), hx81, lu_st_ne (by omega)]
        have q3 : ∀ k, k < d → p_rw N4 1 u 8 k = N 8 k := fun k hk => by
          rw [p_rw_n (by omega), r3 k (by omega), hx8, lu_st_ne (by omega), p_rw_n (by omega)]
        have q4 : ∀ i, i < 12 * d → p_rw N4 1 u 7 i = N 7 i := fun i hi => by
          rw [p_rw_n (by omega), r4 i (by omega), p_rw_n (by omega), p_rw_n (by omega), lu_st_row (by omega), p_rw_s, hg0 i hi]
        have S4 : PS m n len M3 (p_rw N4 1 u) := by
          obtain ⟨s1, s2, s3, s4, s5, s6, s7, s8, s9⟩ := S3
          have h0 : p_rw N4 1 u 0 = N4 0 := p_rw_n (by omega)
          refine ⟨s1, fun r h1 h2 h3 h4 => ?_, fun i hi => ?_, s4, ?_, ?_, ?_, ?_, ?_⟩
          · rw [p_rw_n h2]; exact s2 r h1 h2 h3 h4
          · rw [h0]; exact s3 i hi
          · rw [h0]; exact s5
          · rw [h0]; exact s6
          · rw [h0]; exact s7
          · rw [h0]; exact s8
          · rw [h0]; exact s9
        have F4 : PF len M3 (p_rw N4 1 u) := fun k hk => by rw [p_rw_n (by omega)]; exact F3 k hk
        obtain ⟨M5, N5, d1, d2, S5, F5, h51, v1, v2, v3, v4⟩ := ih (a + 1) q M3 (p_rw N4 1 u) (by omega) (by omega) S4 (Or.inr F4) (fun _ => F4) (p_rw_s ..) (by rw [q1 _ (by omega) (by omega)]; exact C) (by rw [q1 _ (by omega) (by omega)]; exact hw) (fun k hk => by rw [q2 k hk, q3 k hk]; exact hL k hk) (by rw [hh]; exact s_cnt_c (fun k hk => (q3 k hk).symm))
        refine ⟨M5, N5, ?_, ?_, S5, F5, h51, fun r h1 h2 => (v1 r h1 h2).trans (q1 r h1 h2), fun k hk => (v2 k hk).trans (q2 k hk), fun k hk => (v3 k hk).trans (q3 k hk), fun k hk => (v4 k hk).trans (q4 k hk)⟩
        · show f5_tryFrom_b25B _ _ _ _ _ _ _ = _
          unfold f5_tryFrom_b25B f5_tryFrom_b92
          rw [hM0, q_lt (by omega) (by omega), if_neg (by omega), p_gd (by omega) (by omega), p_nm, p_next, p_gd (by omega) (by omega), p_gd (by omega) (by omega), nI_clamp (by omega), nI_clamp (by omega), e0, p_bv, p_gd (by omega) (by omega), e1, p_bi, p_next]
          by_cases ea : nI a = (0 : Int32)
          · rw [if_pos ea] at c1
            rw [if_pos ea, c1, p_bv]
            exact d1
          · rw [if_neg ea] at c1
            rw [if_neg ea, c1, p_bv]
            exact d1
        · show f12_plans_b15B _ _ _ _ _ _ _ _ = _
          unfold f12_plans_b15B
          rw [h1, hP0, q_lt (by omega) (by omega), if_neg (by omega), eg, p_bv, p_gd (by omega) (by omega), p_nm, nI_clamp (by omega), e2, p_bi, p_next, c2, p_bv, eb, p_bv, p_next]
          exact d2
    obtain ⟨M', N', c1, c2, r⟩ := inner (s_P (n 1) + 1) 0 lu_fu M N (by omega) (p_fu (by omega)) S F (fun q => by omega) h1 C hw hL hh
    refine ⟨M', N', ?_, ?_, r⟩
    · show f5_tryFromO _ _ _ _ = _
      unfold f5_tryFromO
      rw [S.2.2.2.1, q_lt (by omega) (by omega), if_pos (by omega)]
      exact c1
    · show f12_plansO _ _ _ _ _ = _
      unfold f12_plansO
      rw [if_neg (p_eqI (by omega) (by omega) (by omega))]
      exact c2

/-! THE PURE PART: the game -/
def GS (m n : lu_M) (len : Nat) (M N : lu_M) : Prop :=
  (∀ r, r ≠ 36 → r ≠ 74 → (r < 76 ∨ 80 < r) → M r = m r) ∧
  (∀ r, r ≠ 0 → r ≠ 1 → r ≠ 4 → r ≠ 7 → N r = n r) ∧
  (∀ i, i ≠ 15 → N 0 i = n 0 i) ∧ M 74 4 = nI len
theorem p_odd (d : Nat) (hd : d < 100) : (nI d - nI d / (2 : Int32) * (2 : Int32) = 0) = (d % 2 = 0) := by
  rw [show (2 : Int32) = nI 2 from rfl, pk_rem (by omega) (by omega) (by omega), show (0 : Int32) = nI 0 from rfl, p_eq (by omega) (by omega)]
theorem ga_run {m n : lu_M} {L : List Ru} (W : WR m 1 (n 1) L) {len : Nat} (hl : len ≤ 4) : ∀ (j d e : Nat) (M N : lu_M) (u : Nat → Int32) (w : Nat), d + j = len → j < e → GS m n len M N → SE (n 1) u → SI u → N 1 = u → CR (s_D (n 1)) (M (75 + 1 + d)) u → M (75 + 1 + d) 5 = nI w → w ≤ 90 * d → s_v u 3 + j ≤ s_v u 2 → ∃ M' N' v, f5_valueFrom e (nI d) M = some (nI (w + v), M') ∧ f12_played e (nI d) (nI len) (p_b (decide (d % 2 = 0))) N = some (nI v, N') ∧ v ≤ 90 * j ∧ GS m n len M' N' ∧ N' 1 = u ∧ (∀ r, 76 ≤ r → r ≤ 76 + d → M' r = M r) ∧ (∀ i, i < 12 * d → N' 7 i = N 7 i) ∧ (d = 0 → 0 < j → M' 74 10 = N' 0 15) ∧ (0 < d → M' 74 10 = M 74 10)
  | 0, d, e, M, N, u, w, hj, he, S, E, J, h1, C, hw, hk, hy => by
    obtain ⟨e, rfl⟩ : ∃ r, e = r + 1 := ⟨e - 1, by omega⟩
    rw [Nat.add_zero] at hj
    subst hj
    refine ⟨M, N, 0, ?_, ?_, by omega, S, h1, fun _ _ _ => rfl, fun _ _ => rfl, fun _ h => absurd h (by omega), fun _ => rfl⟩
    · show f5_valueFromO _ _ _ = _
      unfold f5_valueFromO
      rw [S.2.2.2, q_lt (by omega) (by omega), if_neg (by omega), p_gd (by omega) (by omega), nI_clamp (by omega), hw, Nat.add_zero]
    · show f12_playedO _ _ _ _ _ = _
      unfold f12_playedO
      rw [if_pos rfl]
      rfl
  | j + 1, d, e, M, N, u, w, hj, he, S, E, J, h1, C, hw, hk, hy => by
    obtain ⟨e, rfl⟩ : ∃ r, e = r + 1 := ⟨e - 1, by omega⟩
    have hP := W.i.P6
    have hP0 : u 0 = nI (s_P (n 1)) := (E.lo (by omega) (by omega) (by omega)).trans W.i.eP
    have inner : ∀ (i a q : Nat) (M N : lu_M) (va be by' : Int32), a + i = s_P (n 1) + 1 → i < q → ((a = 0 ∧ va = 0 ∧ be = 0 ∧ by' = -1) ∨ (0 < a ∧ ∃ v b, va = nI (w + v) ∧ be = nI v ∧ by' = nI b ∧ b < 100 ∧ v ≤ 90 * (j + 1) ∧ (d = 0 → M 74 10 = nI b))) → GS m n len M N → N 1 = u → CR (s_D (n 1)) (M (75 + 1 + d)) u → M (75 + 1 + d) 5 = nI w → ∃ M' N' v, f5_valueFrom_b25 (f5_valueFrom_b125 (f5_valueFrom e) (nI d)) (f5_valueFrom e) (nI d) q va (nI a) M = some (nI (w + v), M') ∧ f12_played_b16 (f12_played_b134 (f12_played e) (nI d) (nI len) (p_b (decide (d % 2 = 0)))) (f12_played e) (nI d) (nI len) (p_b (decide (d % 2 = 0))) q be by' (nI a) N = some (nI v, N') ∧ v ≤ 90 * (j + 1) ∧ GS m n len M' N' ∧ N' 1 = u ∧ (∀ r, 76 ≤ r → r ≤ 76 + d → M' r = M r) ∧ (∀ i, i < 12 * d → N' 7 i = N 7 i) ∧ (d = 0 → M' 74 10 = N' 0 15) ∧ (0 < d → M' 74 10 = M 74 10) := by
      intro i
      induction i with
      | zero =>
        intro a q M N va be by' ha hq hv S h1 C hw
        obtain ⟨q, rfl⟩ : ∃ r, q = r + 1 := ⟨q - 1, by omega⟩
        have hM0 : M 1 0 = nI (s_P (n 1)) := by rw [S.1 1 (by omega) (by omega) (by omega)]; exact W.b.cnt.trans W.i.eP
        rcases hv with ⟨ha0, -⟩ | ⟨ha0, v, b, rfl, rfl, rfl, hb, hv2, hd⟩
        · omega
        refine ⟨M, lu_st N 0 15 (nI b), v, ?_, ?_, hv2, ⟨S.1, fun r h1 h2 h3 h4 => by rw [lu_st_row h1]; exact S.2.1 r h1 h2 h3 h4, fun i hi => by rw [lu_st_ne hi]; exact S.2.2.1 i hi, S.2.2.2⟩, (lu_st_row (by omega)).trans h1, fun _ _ _ => rfl, fun _ _ => by rw [lu_st_row (by omega)], fun h => by rw [lu_st_self]; exact hd h, fun _ => rfl⟩
        · show f5_valueFrom_b25B _ _ _ _ _ _ _ = _
          unfold f5_valueFrom_b25B f5_valueFrom_b125
          rw [hM0, q_lt (by omega) (by omega), if_pos (by omega)]
        · show f12_played_b16B _ _ _ _ _ _ _ _ _ _ = _
          unfold f12_played_b16B f12_played_b134
          rw [h1, hP0, q_lt (by omega) (by omega), if_pos (by omega), p_nm]
      | succ i ih =>
        intro a q M N va be by' ha hq hv S h1 C hw
        obtain ⟨q, rfl⟩ : ∃ r, q = r + 1 := ⟨q - 1, by omega⟩
        have hM0 : M 1 0 = nI (s_P (n 1)) := by rw [S.1 1 (by omega) (by omega) (by omega)]; exact W.b.cnt.trans W.i.eP
        obtain ⟨g, eg, hg, hg10, hg11, hg0⟩ := t_saves N (d := d) (by omega)
        have hlt : s_v u 3 < s_v u 2 := by omega
        have h1' : p_rw N 7 g 1 = u := by rw [p_rw_n (by omega)]; exact h1
        obtain ⟨f, x, x0, t, e0, e1, C1, h5, e2, E2, E2', J2⟩ := pl_step W (by omega) (fun r h1 h2 => S.1 r (by omega) (by omega) (by omega)) E J h1' C hlt (nI a)
        rw [hw] at h5
        obtain ⟨g3, g2, -⟩ := s_goes_23 J L (nI a) hlt
        obtain ⟨k1, ek1, hk1⟩ := s_w_n J L (nI a)
        rw [ek1, nI_add] at h5
        have S2 : GS m n len (p_rw (p_rw M (1 + 35) f) (75 + 1 + (d + 1)) x) (p_rw (p_rw (p_rw N 7 g) 1 (s_goes L (nI a) u)) 4 t) := by
          obtain ⟨s1, s2, s3, s4⟩ := S
          refine ⟨fun r h1 h2 h3 => ?_, fun r h1 h2 h3 h4 => ?_, fun i hi => ?_, ?_⟩
          · rw [p_rw_n (by omega), p_rw_n (by omega)]; exact s1 r h1 h2 h3
          · rw [p_rw_n h3, p_rw_n h2, p_rw_n h4]; exact s2 r h1 h2 h3 h4
          · rw [p_rw_n (by omega), p_rw_n (by omega), p_rw_n (by omega)]; exact s3 i hi
          · rw [p_rw_n (by omega), p_rw_n (by omega)]; exact s4
        obtain ⟨M3, N4, v', c1, c2, hv3, S3, h31, r1, r4, -, r10⟩ := ga_run W hl j (d + 1) e _ _ (s_goes L (nI a) u) (w + k1) (by omega) (by omega) S2 E2 J2 (by rw [p_rw_n (by omega), p_rw_s]) (by rw [p_rw_s]; exact C1) (by rw [p_rw_s]; exact h5) (by omega) (by omega)
        have eb : f12_takesBack (nI d) N4 = some (p_rw N4 1 u) := by
          refine t_takesBack (by omega) (by rw [h31]; exact E2') (fun e he => ?_) ?_ ?_
          · rw [r4 _ (by omega), p_rw_n (by omega), p_rw_n (by omega), p_rw_s, hg e he, h1]
          · rw [r4 _ (by omega), p_rw_n (by omega), p_rw_n (by omega), p_rw_s, hg10, h1]
          · rw [r4 _ (by omega), p_rw_n (by omega), p_rw_n (by omega), p_rw_s, hg11, h1]
        have q1 : ∀ r, 76 ≤ r → r ≤ 76 + d → M3 r = M r := fun r h1 h2 => by
          rw [r1 r h1 (by omega), p_rw_n (by omega), p_rw_n (by omega)]
        have q4 : ∀ i, i < 12 * d → p_rw N4 1 u 7 i = N 7 i := fun i hi => by
          rw [p_rw_n (by omega), r4 i (by omega), p_rw_n (by omega), p_rw_n (by omega), p_rw_s, hg0 i hi]
        have q10 : M3 74 10 = M 74 10 := by rw [r10 (by omega), p_rw_n (by omega), p_rw_n (by omega)]
        have S4 : GS m n len M3 (p_rw N4 1 u) := ⟨S3.1, fun r h1 h2 h3 h4 => by rw [p_rw_n h2]; exact S3.2.1 r h1 h2 h3 h4, fun i hi => by rw [p_rw_n (by omega)]; exact S3.2.2.1 i hi, S3.2.2.2⟩
        have hcl : f5_valueFrom_b25 (f5_valueFrom_b125 (f5_valueFrom e) (nI d)) (f5_valueFrom e) (nI d) (q + 1) va (nI a) M = (if nI a ≤ 0 then (f5_valueFrom_b107 (f5_valueFrom_b25 (f5_valueFrom_b125 (f5_valueFrom e) (nI d)) (f5_valueFrom e) (nI d) q) (f5_valueFrom_b125 (f5_valueFrom e) (nI d)) (f5_valueFrom e) (nI d) (nI a) (nI (w + k1 + v')) M3)
            else (if d % 2 = 0 then (if va < nI (w + k1 + v') then (f5_valueFrom_b107 (f5_valueFrom_b25 (f5_valueFrom_b125 (f5_valueFrom e) (nI d)) (f5_valueFrom e) (nI d) q) (f5_valueFrom_b125 (f5_valueFrom e) (nI d)) (f5_valueFrom e) (nI d) (nI a) (nI (w + k1 + v')) M3)
            else (f5_valueFrom_b119 (f5_valueFrom_b25 (f5_valueFrom_b125 (f5_valueFrom e) (nI d)) (f5_valueFrom e) (nI d) q) (f5_valueFrom_b125 (f5_valueFrom e) (nI d)) (f5_valueFrom e) (nI d) va (nI a) M3))
            else (if nI (w + k1 + v') < va then (f5_valueFrom_b107 (f5_valueFrom_b25 (f5_valueFrom_b125 (f5_valueFrom e) (nI d)) (f5_valueFrom e) (nI d) q) (f5_valueFrom_b125 (f5_valueFrom e) (nI d)) (f5_valueFrom e) (nI d) (nI a) (nI (w + k1 + v')) M3)
            else (f5_valueFrom_b119 (f5_valueFrom_b25 (f5_valueFrom_b125 (f5_valueFrom e) (nI d)) (f5_valueFrom e) (nI d) q) (f5_valueFrom_b125 (f5_valueFrom e) (nI d)) (f5_valueFrom e) (nI d) va (nI a) M3)))) := by
          show f5_valueFrom_b25B _ _ _ _ _ _ _ = _
          unfold f5_valueFrom_b25B
          rw [hM0, q_lt (by omega) (by omega), if_neg (by omega), p_next, p_gd (by omega) (by omega), p_gd (by omega) (by omega), nI_clamp (by omega), nI_clamp (by omega), e0, p_bv, p_gd (by omega) (by omega), e1, p_bi, c1, p_bi]
          simp only [p_odd d (by omega)]
        have hpb : (if p_b (decide (d % 2 = 0)) = 0 then (1 : Int32) else 0) = p_b (decide ((d + 1) % 2 = 0)) := by
          by_cases hd : d % 2 = 0
          · rw [decide_eq_true hd, decide_eq_false (show ¬ (d + 1) % 2 = 0 by omega)]; rfl
          · rw [decide_eq_false hd, decide_eq_true (show (d + 1) % 2 = 0 by omega)]; rfl
        have h56 : ∀ s0 : Int32, s0 = p_b (decide ((d + 1) % 2 = 0)) → f12_played_b56 (f12_played_b16 (f12_played_b134 (f12_played e) (nI d) (nI len) (p_b (decide (d % 2 = 0)))) (f12_played e) (nI d) (nI len) (p_b (decide (d % 2 = 0))) q) (f12_played_b134 (f12_played e) (nI d) (nI len) (p_b (decide (d % 2 = 0)))) (f12_played e) (nI d) (nI len) (p_b (decide (d % 2 = 0))) be by' (nI a) s0 (nI len) (nI (d + 1)) (nI k1) (p_rw (p_rw (p_rw N 7 g) 1 (s_goes L (nI a) u)) 4 t) = (if by' < 0 then f12_played_b16 (f12_played_b134 (f12_played e) (nI d) (nI len) (p_b (decide (d % 2 = 0)))) (f12_played e) (nI d) (nI len) (p_b (decide (d % 2 = 0))) q (nI (k1 + v')) (nI a) (nI (a + 1)) (p_rw N4 1 u)
            else if d % 2 = 0 then (if nI (k1 + v') ≤ be then f12_played_b16 (f12_played_b134 (f12_played e) (nI d) (nI len) (p_b (decide (d % 2 = 0)))) (f12_played e) (nI d) (nI len) (p_b (decide (d % 2 = 0))) q be by' (nI (a + 1)) (p_rw N4 1 u) else f12_played_b16 (f12_played_b134 (f12_played e) (nI d) (nI len) (p_b (decide (d % 2 = 0)))) (f12_played e) (nI d) (nI len) (p_b (decide (d % 2 = 0))) q (nI (k1 + v')) (nI a) (nI (a + 1)) (p_rw N4 1 u))
            else (if be ≤ nI (k1 + v') then f12_played_b16 (f12_played_b134 (f12_played e) (nI d) (nI len) (p_b (decide (d % 2 = 0)))) (f12_played e) (nI d) (nI len) (p_b (decide (d % 2 = 0))) q be by' (nI (a + 1)) (p_rw N4 1 u) else f12_played_b16 (f12_played_b134 (f12_played e) (nI d) (nI len) (p_b (decide (d % 2 = 0)))) (f12_played e) (nI d) (nI len) (p_b (decide (d % 2 = 0))) q (nI (k1 + v')) (nI a) (nI (a + 1)) (p_rw N4 1 u))) := fun s0 hs0 => by
          subst hs0
          unfold f12_played_b56 f12_played_b93 f12_played_b97 f12_played_b98 f12_played_b112 f12_played_b126
          rw [c2, p_bi, nI_add, p_nm, eb, p_bv, p_if, p_next, if_pos (show (0 : Int32) = 0 from rfl), if_pos (show (0 : Int32) = 0 from rfl), if_neg (show ¬ (1 : Int32) = 0 by decide), if_neg (show ¬ (1 : Int32) = 0 by decide)]
          by_cases hd : d % 2 = 0
          · rw [decide_eq_true hd, if_pos rfl, if_pos hd]
          · rw [decide_eq_false hd, if_neg p_ff, if_neg hd]
        have hre : f12_played_b16 (f12_played_b134 (f12_played e) (nI d) (nI len) (p_b (decide (d % 2 = 0)))) (f12_played e) (nI d) (nI len) (p_b (decide (d % 2 = 0))) (q + 1) be by' (nI a) N = (if by' < 0 then f12_played_b16 (f12_played_b134 (f12_played e) (nI d) (nI len) (p_b (decide (d % 2 = 0)))) (f12_played e) (nI d) (nI len) (p_b (decide (d % 2 = 0))) q (nI (k1 + v')) (nI a) (nI (a + 1)) (p_rw N4 1 u)
            else if d % 2 = 0 then (if nI (k1 + v') ≤ be then f12_played_b16 (f12_played_b134 (f12_played e) (nI d) (nI len) (p_b (decide (d % 2 = 0)))) (f12_played e) (nI d) (nI len) (p_b (decide (d % 2 = 0))) q be by' (nI (a + 1)) (p_rw N4 1 u) else f12_played_b16 (f12_played_b134 (f12_played e) (nI d) (nI len) (p_b (decide (d % 2 = 0)))) (f12_played e) (nI d) (nI len) (p_b (decide (d % 2 = 0))) q (nI (k1 + v')) (nI a) (nI (a + 1)) (p_rw N4 1 u))
            else (if be ≤ nI (k1 + v') then f12_played_b16 (f12_played_b134 (f12_played e) (nI d) (nI len) (p_b (decide (d % 2 = 0)))) (f12_played e) (nI d) (nI len) (p_b (decide (d % 2 = 0))) q be by' (nI (a + 1)) (p_rw N4 1 u) else f12_played_b16 (f12_played_b134 (f12_played e) (nI d) (nI len) (p_b (decide (d % 2 = 0)))) (f12_played e) (nI d) (nI len) (p_b (decide (d % 2 = 0))) q (nI (k1 + v')) (nI a) (nI (a + 1)) (p_rw N4 1 u))) := by
          show f12_played_b16B _ _ _ _ _ _ _ _ _ _ = _
          unfold f12_played_b16B
          rw [h1, hP0, q_lt (by omega) (by omega), if_neg (by omega), eg, p_bv, e2, p_bi, p_next, ek1]
          by_cases hc : p_b (decide (d % 2 = 0)) = 0
          · rw [if_pos hc] at hpb
            rw [if_pos hc]; exact h56 1 hpb
          · rw [if_neg hc] at hpb
            rw [if_neg hc]; exact h56 0 hpb
        have taken : ∃ M' N' v, f5_valueFrom_b107 (f5_valueFrom_b25 (f5_valueFrom_b125 (f5_valueFrom e) (nI d)) (f5_valueFrom e) (nI d) q) (f5_valueFrom_b125 (f5_valueFrom e) (nI d)) (f5_valueFrom e) (nI d) (nI a) (nI (w + k1 + v')) M3 = some (nI (w + v), M') ∧ f12_played_b16 (f12_played_b134 (f12_played e) (nI d) (nI len) (p_b (decide (d % 2 = 0)))) (f12_played e) (nI d) (nI len) (p_b (decide (d % 2 = 0))) q (nI (k1 + v')) (nI a) (nI (a + 1)) (p_rw N4 1 u) = some (nI v, N') ∧ v ≤ 90 * (j + 1) ∧ GS m n len M' N' ∧ N' 1 = u ∧ (∀ r, 76 ≤ r → r ≤ 76 + d → M' r = M r) ∧ (∀ i, i < 12 * d → N' 7 i = N 7 i) ∧ (d = 0 → M' 74 10 = N' 0 15) ∧ (0 < d → M' 74 10 = M 74 10) := by
          unfold f5_valueFrom_b107 f5_valueFrom_b119
          rw [p_next]
          by_cases hd : d = 0
          · subst hd
            rw [if_pos (show nI 0 = (0 : Int32) from rfl), p_nm]
            have S5 : GS m n len (lu_st M3 74 10 (nI a)) (p_rw N4 1 u) := ⟨fun r h1 h2 h3 => by rw [lu_st_row h2]; exact S4.1 r h1 h2 h3, S4.2.1, S4.2.2.1, by rw [lu_st_ne (by omega)]; exact S4.2.2.2⟩
            obtain ⟨M', N', v, d1, d2, d3, d4, d5, d6, d7, d8, d9⟩ := ih (a + 1) q (lu_st M3 74 10 (nI a)) (p_rw N4 1 u) (nI (w + k1 + v')) (nI (k1 + v')) (nI a) (by omega) (by omega) (Or.inr ⟨by omega, k1 + v', a, by rw [Nat.add_assoc], rfl, rfl, by omega, by omega, fun _ => lu_st_self ..⟩) S5 (p_rw_s ..) (by rw [lu_st_row (by omega), q1 _ (by omega) (by omega)]; exact C) (by rw [lu_st_row (by omega), q1 _ (by omega) (by omega)]; exact hw)
            exact ⟨M', N', v, d1, d2, d3, d4, d5, fun r h1 h2 => by rw [d6 r h1 h2, lu_st_row (by omega), q1 r h1 h2], fun i hi => absurd hi (by omega), d8, fun h => absurd h (by omega)⟩
          · rw [if_neg (p_ne0 (by omega) (by omega))]
            obtain ⟨M', N', v, d1, d2, d3, d4, d5, d6, d7, d8, d9⟩ := ih (a + 1) q M3 (p_rw N4 1 u) (nI (w + k1 + v')) (nI (k1 + v')) (nI a) (by omega) (by omega) (Or.inr ⟨by omega, k1 + v', a, by rw [Nat.add_assoc], rfl, rfl, by omega, by omega, fun h => absurd h hd⟩) S4 (p_rw_s ..) (by rw [q1 _ (by omega) (by omega)]; exact C) (by rw [q1 _ (by omega) (by omega)]; exact hw)
            exact ⟨M', N', v, d1, d2, d3, d4, d5, fun r h1 h2 => by rw [d6 r h1 h2, q1 r h1 h2], fun i hi => by rw [d7 i hi, q4 i hi], d8, fun h => by rw [d9 h, q10]⟩
        rw [hcl, hre]
        rcases hv with ⟨ha0, hva, hbe, hby⟩ | ⟨ha0, v, b, hva, hbe, hby, hb, hv2, hd2⟩
        · subst ha0
          rw [if_pos (show nI 0 ≤ (0 : Int32) by decide), hby, if_pos (show (-1 : Int32) < 0 by decide)]
          exact taken
        have nott : ∃ M' N' v, f5_valueFrom_b119 (f5_valueFrom_b25 (f5_valueFrom_b125 (f5_valueFrom e) (nI d)) (f5_valueFrom e) (nI d) q) (f5_valueFrom_b125 (f5_valueFrom e) (nI d)) (f5_valueFrom e) (nI d) va (nI a) M3 = some (nI (w + v), M') ∧ f12_played_b16 (f12_played_b134 (f12_played e) (nI d) (nI len) (p_b (decide (d % 2 = 0)))) (f12_played e) (nI d) (nI len) (p_b (decide (d % 2 = 0))) q be by' (nI (a + 1)) (p_rw N4 1 u) = some (nI v, N') ∧ v ≤ 90 * (j + 1) ∧ GS m n len M' N' ∧ N' 1 = u ∧ (∀ r, 76 ≤ r → r ≤ 76 + d → M' r = M r) ∧ (∀ i, i < 12 * d → N' 7 i = N 7 i) ∧ (d = 0 → M' 74 10 = N' 0 15) ∧ (0 < d → M' 74 10 = M 74 10) := by
          unfold f5_valueFrom_b119
          rw [p_next]
          obtain ⟨M', N', v, d1, d2, d3, d4, d5, d6, d7, d8, d9⟩ := ih (a + 1) q M3 (p_rw N4 1 u) va be by' (by omega) (by omega) (Or.inr ⟨by omega, v, b, hva, hbe, hby, hb, hv2, fun h => by rw [q10]; exact hd2 h⟩) S4 (p_rw_s ..) (by rw [q1 _ (by omega) (by omega)]; exact C) (by rw [q1 _ (by omega) (by omega)]; exact hw)
          exact ⟨M', N', v, d1, d2, d3, d4, d5, fun r h1 h2 => by rw [d6 r h1 h2, q1 r h1 h2], fun i hi => by rw [d7 i hi, q4 i hi], d8, fun h => by rw [d9 h, q10]⟩
        rw [if_neg (nI_nle ha0 (by omega)), hby, if_neg (nI_pos (by omega)), ← hby]
        by_cases hd : d % 2 = 0
        · rw [if_pos hd, if_pos hd]
          by_cases hc : k1 + v' ≤ v
          · rw [if_neg (by rw [hva, p_lt (by omega) (by omega)]; omega), if_pos (by rw [hbe, p_le (by omega) (by omega)]; omega)]
            exact nott
          · rw [if_pos (by rw [hva, p_lt (by omega) (by omega)]; omega), if_neg (by rw [hbe, p_le (by omega) (by omega)]; omega)]
            exact taken
        · rw [if_neg hd, if_neg hd]
          by_cases hc : v ≤ k1 + v'
          · rw [if_neg (by rw [hva, p_lt (by omega) (by omega)]; omega), if_pos (by rw [hbe, p_le (by omega) (by omega)]; omega)]
            exact nott
          · rw [if_pos (by rw [hva, p_lt (by omega) (by omega)]; omega), if_neg (by rw [hbe, p_le (by omega) (by omega)]; omega)]
            exact taken
    obtain ⟨M', N', v, c1, c2, c3, c4, c5, c6, c7, c8, c9⟩ := inner (s_P (n 1) + 1) 0 lu_fu M N 0 0 (-1) (by omega) (p_fu (by omega)) (Or.inl ⟨rfl, rfl, rfl, rfl⟩) S h1 C hw
    refine ⟨M', N', v, ?_, ?_, c3, c4, c5, c6, c7, fun h _ => c8 h, c9⟩
    · show f5_valueFromO _ _ _ = _
      unfold f5_valueFromO
      rw [S.2.2.2, q_lt (by omega) (by omega), if_pos (by omega)]
      exact c1
    · show f12_playedO _ _ _ _ _ = _
      unfold f12_playedO
      rw [if_neg (p_eqI (by omega) (by omega) (by omega))]
      exact c2
theorem game_all {m n : lu_M} {L : List Ru} (R : Rel m n) (W : WR m 1 (n 1) L) {K : Nat} (hK : K ≤ 4) : ∃ M N v, f5_playedOut (nI K) m = some (nI v, M) ∧ f12_yearsOf (nI K) n = some (nI (min (s_v (n 1) 2 - s_v (n 1) 3) K), n) ∧ f12_played 6 (0 : Int32) (nI (min (s_v (n 1) 2 - s_v (n 1) 3) K)) (1 : Int32) n = some (nI v, N) ∧ Rel M N ∧ (0 < min (s_v (n 1) 2 - s_v (n 1) 3) K → M 74 10 = N 0 15) := by
  have hE := W.i.E16
  have hY := W.i.YE
  obtain ⟨x, e1, hx, h5⟩ := k_start W hK
  have e2 := t_yearsOf W.i hK
  generalize hlen : min (s_v (n 1) 2 - s_v (n 1) 3) K = len at *
  have hl : len ≤ 4 := by omega
  have hx76 : lu_st (p_rw (lu_st m 74 4 (nI len)) (75 + 1 + 0) x) 74 10 0 (75 + 1 + 0) = x := by rw [lu_st_row (by omega), p_rw_s]
  have S : GS m n len (lu_st (p_rw (lu_st m 74 4 (nI len)) (75 + 1 + 0) x) 74 10 0) n :=
    ⟨fun r h1 h2 h3 => by rw [lu_st_row h2, p_rw_n (by omega), lu_st_row h2], fun _ _ _ _ _ => rfl, fun _ _ => rfl, by rw [lu_st_ne (by omega), p_rw_n (by omega), lu_st_self]⟩
  obtain ⟨M, N, v, c1, c2, -, S', h1, -, -, c8, -⟩ := ga_run W hl len 0 6 _ n (n 1) 0 (by omega) (by omega) S (SE.rf _) W.i rfl (by rw [hx76]; exact W.c.cp hx) (by rw [hx76]; exact h5) (by omega) (by omega)
  rw [Nat.zero_add] at c1
  refine ⟨M, N, v, ?_, e2, c2, ?_, c8 rfl⟩
  · unfold f5_playedOut
    rw [e1, p_bv, p_nm, show f5_valueFrom 6 (0 : Int32) _ = some (nI v, M) from c1, p_bi]
  · obtain ⟨s1, s2, s3, -⟩ := S'
    exact R.same (fun a ha => s1 a (by omega) (by omega) (by omega)) (fun a h1 h2 => s1 a (by omega) (by omega) (by omega)) ⟨fun a ha => s2 a (by omega) (by omega) (by omega) (by omega), s3 3 (by omega), s3 21 (by omega), s3 23 (by omega), s3 37 (by omega)⟩ h1
theorem y_game (a : Int32) : Me (f11_game a) (f12_game a) := Me.mk fun m n L R W => by
  unfold f11_game f12_game f12_game_b27
  rw [show (1 : Int64) = (1 : Int32).toInt64 from rfl, show (4 : Int64) = (4 : Int32).toInt64 from rfl, k_in, t_in32, p_bi, p_bi, p_if, p_if]
  cases h : p_in a.toInt (1 : Int32).toInt (4 : Int32).toInt
  · rw [if_neg p_ff, if_neg p_ff]
    exact ⟨_, _, _, rfl, rfl, R⟩
  obtain ⟨K, rfl, -, hK⟩ := p_in_ex (lo := 1) (hi := 4) h (by omega)
  obtain ⟨M, N, v, e1, e2, e3, R', -⟩ := game_all R W hK
  rw [if_pos rfl, if_pos rfl, e1, e2, p_bi, p_bi, e3, p_bi]
  exact ⟨_, _, _, rfl, rfl, R'⟩
theorem y_play (a : Int32) : Me (f11_play a) (f12_play a) := Me.mk fun m n L R W => by
  unfold f11_play f12_play
  rw [show (1 : Int64) = (1 : Int32).toInt64 from rfl, show (4 : Int64) = (4 : Int32).toInt64 from rfl, k_in, t_in32, p_bi, p_bi, p_if, p_if]
  cases h : p_in a.toInt (1 : Int32).toInt (4 : Int32).toInt
  · rw [if_neg p_ff, if_neg p_ff]
    exact ⟨_, _, _, rfl, rfl, R⟩
  obtain ⟨K, rfl, hK1, hK⟩ := p_in_ex (lo := 1) (hi := 4) h (by omega)
  rw [if_pos rfl, if_pos rfl, k_isOver W.i W.b.en W.c.1, t_isOver W.i, p_bi, p_bi, p_if, p_if]
  cases h2 : s_ov (n 1)
  · obtain ⟨M, N, v, e1, e2, e3, R', h10⟩ := game_all R W hK
    have := s_ov_f h2
    rw [if_neg p_ff, if_neg p_ff, e1, e2, p_bi, p_bi, e3, p_bi, h10 (by omega)]
    exact ⟨_, _, _, rfl, rfl, R'⟩
  · rw [if_pos rfl, if_pos rfl]
    exact ⟨_, _, _, rfl, rfl, R⟩

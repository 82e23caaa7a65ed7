/-! THE PURE PART: prove -/
theorem zM_st (m : lu_M) (f x : Nat → Int32) {r : Nat} (k : Nat) (v : Int32) (h1 : r ≠ 36) (h2 : r ≠ 73) : lu_st (zM m f x) r k v = zM (lu_st m r k v) f x := by
  unfold zM
  rw [p_st, p_rw_n h2, p_rw_n (show r ≠ 1 + 35 by omega), p_rw_sw (a := 73) (b := r) (by omega), p_rw_sw (a := 1 + 35) (b := r) (by omega), ← p_st]
theorem zN_st (n : lu_M) (o u t : Nat → Int32) {r : Nat} (k : Nat) (v : Int32) (h1 : r ≠ 1) (h2 : r ≠ 3) (h3 : r ≠ 4) : lu_st (zN n o u t) r k v = zN (lu_st n r k v) o u t := by
  unfold zN
  rw [p_st, p_rw_n h3, p_rw_n h1, p_rw_n h2, p_rw_sw (a := 4) (b := r) (by omega), p_rw_sw (a := 1) (b := r) (by omega), p_rw_sw (a := 3) (b := r) (by omega), ← p_st]
theorem prove_run {m n : lu_M} {L : List Ru} (W : WR m 1 (n 1) L) {len : Nat} (hl : len ≤ 4) (h4 : m 74 4 = nI len) (h21 : n 0 21 = nI len) (F : PF len m n) (a1 : Int32) (o : Nat → Int32) : ∀ (j k q : Nat) (M N : lu_M) (f x u t : Nat → Int32), k + j = len → j < q → (∀ r, (r < 100 ∨ 104 ≤ r) → M r = m r) → (∀ r, r ≠ 10 → N r = n r) → (∀ i, i < k → ∀ c, c < 3 → M (99 + 1 + i) c = N 10 (3 * i + c)) → s_v u 3 + j ≤ s_v u 2 → SE (n 1) u → SI u → CR (s_D (n 1)) x u → ∃ M' N' f' x' u' t', f11_prove_b36 (f11_prove_b113 a1) a1 q (nI k) (zM M f x) = f11_prove_b113 a1 (zM M' f' x') ∧ f12_prove_b25 (f12_prove_b88 a1) a1 q (nI k) (zN N o u t) = f12_prove_b88 a1 (zN N' o u' t') ∧ (∀ r, (r < 100 ∨ 104 ≤ r) → M' r = m r) ∧ (∀ r, r ≠ 10 → N' r = n r) ∧ (∀ i, i < len → ∀ c, c < 3 → M' (99 + 1 + i) c = N' 10 (3 * i + c)) ∧ SE (n 1) u'
  | 0, k, q, M, N, f, x, u, t, h1, h2, hM, hN, hI, hy, E, J, C => by
    obtain ⟨q, rfl⟩ : ∃ r, q = r + 1 := ⟨q - 1, by omega⟩
    rw [Nat.add_zero] at h1
    subst h1
    refine ⟨M, N, f, x, u, t, ?_, ?_, hM, hN, hI, E⟩
    · show f11_prove_b36B _ _ _ _ _ = _
      unfold f11_prove_b36B
      rw [zM_n M f x (a := 74) (by omega) (by omega), hM 74 (by omega), h4, if_pos (Int32.le_refl _)]
    · show f12_prove_b25B _ _ _ _ _ = _
      unfold f12_prove_b25B
      rw [zN_n N o u t (a := 0) (by omega) (by omega) (by omega), hN 0 (by omega), h21, if_pos (Int32.le_refl _)]
  | j + 1, k, q, M, N, f, x, u, t, h1, h2, hM, hN, hI, hy, E, J, C => by
    obtain ⟨q, rfl⟩ : ∃ r, q = r + 1 := ⟨q - 1, by omega⟩
    have hD := W.i.D10
    have e3 : ∀ i, ((3 : Int32) * nI k) + nI i = nI (3 * k + i) := fun i => by rw [show (3 : Int32) = nI 3 from rfl, pk_mul, nI_add]
    have e30 : (3 : Int32) * nI k = nI (3 * k) := by rw [show (3 : Int32) = nI 3 from rfl, pk_mul]
    have hMk := F k (by omega)
    generalize ha : n 9 k = a at *
    have W1 : WR (lu_st M (99 + 1 + k) 0 a) 1 (lu_st N 10 (3 * k) a 1) L := by
      rw [lu_st_row (a := 1) (by omega), hN 1 (by omega)]
      exact W.tr (fun r h1 h2 => by rw [lu_st_row (by omega)]; exact hM r (by omega))
    have h1' : lu_st N 10 (3 * k) a 1 = n 1 := by rw [lu_st_row (by omega), hN 1 (by omega)]
    have hlt : s_v u 3 < s_v u 2 := by omega
    have hov : s_ov u = false := by
      unfold s_ov
      exact decide_eq_false (by omega)
    obtain ⟨f', x', t', g1, g2, E', J', C', hx5⟩ := line_go (m := lu_st M (99 + 1 + k) 0 a) (n := lu_st N 10 (3 * k) a) W1 f o t (by rw [h1']; exact E) J (by rw [h1']; exact C) a hov
    rw [h1'] at E' C'
    obtain ⟨y3, y2, -⟩ := s_goes_23 J L a hlt
    have ht := t_those (n := zN (lu_st (lu_st N 10 (3 * k) a) 10 (3 * k + 1) (s_w L a u)) o (s_goes L a u) t') (by rw [zN1]; exact J') 1
    rw [zN1] at ht
    have hth := (C'.th E'.D hD).1
    obtain ⟨M', N', f2, x2, u2, t2, c1, c2, r⟩ := prove_run W hl h4 h21 F a1 o j (k + 1) q (lu_st (lu_st (lu_st M (99 + 1 + k) 0 a) (99 + 1 + k) 1 (s_w L a u)) (99 + 1 + k) 2 (s_those (s_goes L a u) 1)) (lu_st (lu_st (lu_st N 10 (3 * k) a) 10 (3 * k + 1) (s_w L a u)) 10 (3 * k + 2) (s_those (s_goes L a u) 1)) f' x' (s_goes L a u) t' (by omega) (by omega) (fun r hr => by
        rw [lu_st_row (by omega), lu_st_row (by omega), lu_st_row (by omega)]; exact hM r hr) (fun r hr => by
        rw [lu_st_row hr, lu_st_row hr, lu_st_row hr]; exact hN r hr) (fun i hi c hc => by
        by_cases e : i = k
        · subst e
          have hc' : c = 0 ∨ c = 1 ∨ c = 2 := by omega
          rcases hc' with e | e | e <;> subst e
          · rw [lu_st_ne (by omega), lu_st_ne (by omega), lu_st_self, lu_st_ne (by omega), lu_st_ne (by omega), show 3 * i + 0 = 3 * i by omega, lu_st_self]
          · rw [lu_st_ne (by omega), lu_st_self, lu_st_ne (by omega), lu_st_self]
          · rw [lu_st_self, lu_st_self]
        · rw [lu_st_row (by omega), lu_st_row (by omega), lu_st_row (by omega), lu_st_ne (by omega), lu_st_ne (by omega), lu_st_ne (by omega)]
          exact hI i (by omega) c hc) (by omega) E' J' C'
    refine ⟨M', N', f2, x2, u2, t2, ?_, ?_, r⟩
    · show f11_prove_b36B _ _ _ _ _ = _
      unfold f11_prove_b36B
      rw [zM_n M f x (a := 74) (by omega) (by omega), hM 74 (by omega), h4, q_le (by omega) (by omega), if_neg (by omega), p_gd (by omega) (by omega), p_gd (by omega) (by omega), p_nm, nI_clamp (by omega), zM_n M f x (a := 82) (by omega) (by omega), hM 82 (by omega), hMk, zM_st M f x 0 _ (by omega) (by omega), p_gd (by omega) (by omega), p_gd (by omega) (by omega), zM_n _ f x (a := 82) (by omega) (by omega), lu_st_row (a := 82) (by omega), hM 82 (by omega), hMk, g1, p_bi, p_nm, zM_st _ f' x' 1 _ (by omega) (by omega), p_gd (by omega) (by omega), p_nm, zM73, hth, zM_st _ f' x' 2 _ (by omega) (by omega), p_next]
      exact c1
    · show f12_prove_b25B _ _ _ _ _ = _
      unfold f12_prove_b25B
      rw [zN_n N o u t (a := 0) (by omega) (by omega) (by omega), hN 0 (by omega), h21, q_le (by omega) (by omega), if_neg (by omega), p_gd (by omega) (by omega), show (1 : Int32) = nI 1 from rfl, show (2 : Int32) = nI 2 from rfl, e3, e3, e30, p_gd (by omega) (by omega), p_nm, nI_clamp (by omega), nI_clamp (by omega), zN_n N o u t (a := 9) (by omega) (by omega) (by omega), hN 9 (by omega), ha, zN_st N o u t _ _ (by omega) (by omega) (by omega), p_gd (by omega) (by omega), zN_n _ o u t (a := 9) (by omega) (by omega) (by omega), lu_st_row (a := 9) (by omega), hN 9 (by omega), ha, g2, p_bi, p_gd (by omega) (by omega), p_nm, nI_clamp (by omega), zN_st _ o _ t' _ _ (by omega) (by omega) (by omega), show nI 1 = (1 : Int32) from rfl, ht, p_bi, p_gd (by omega) (by omega), p_nm, nI_clamp (by omega), zN_st _ o _ t' _ _ (by omega) (by omega) (by omega), p_next]
      exact c2
theorem y_prove (a : Int32) : Me (f11_prove a) (f12_prove a) := Me.mk fun m n L R W => by
  have hE := W.i.E16
  have hY := W.i.YE
  unfold f11_prove f12_prove
  rw [k_long, t_isLong, p_bi, p_bi, p_if, p_if]
  cases h : p_in a.toInt 0 4
  · rw [if_neg p_ff, if_neg p_ff]
    exact ⟨_, _, _, rfl, rfl, R⟩
  obtain ⟨K, rfl, -, hK⟩ := p_in_ex (lo := 0) (hi := 4) h (by omega)
  obtain ⟨M, N, e1, e2, S, F, h1, R'⟩ := plans_all R W hK 0
  rw [if_pos rfl, if_pos rfl, e1, e2, p_bv, p_bi, p_nm]
  generalize hlen : min (s_v (n 1) 2 - s_v (n 1) 3) K = len at *
  have hl : len ≤ 4 := by omega
  have W0 : WR M 1 (n 1) L := W.tr (fun r h1 h2 => S.1 r (by omega) (by omega) (by omega))
  obtain ⟨x0, e0, hx0, h50⟩ := k_begin M (c := 73) (b := 29) (by omega)
  obtain ⟨o, eo, ho⟩ := t_puts (lu_st N 0 21 (nI len))
  have h1' : lu_st N 0 21 (nI len) 1 = n 1 := by rw [lu_st_row (by omega)]; exact h1
  rw [h1'] at ho
  rw [e0, p_bv, eo, p_bv, ← zN_start, ← zM_start, h1']
  obtain ⟨M', N', f', x', u', t', c1, c2, g1, g2, g3, E'⟩ := prove_run (m := M) (n := lu_st N 0 21 (nI len)) (by rw [h1']; exact W0) hl S.2.2.2.1 (lu_st_self ..) (fun k hk => by rw [lu_st_row (by omega)]; exact F k hk) (nI K) o len 0 lu_fu M (lu_st N 0 21 (nI len)) (M 36) x0 (n 1) (lu_st N 0 21 (nI len) 4) (by omega) (p_fu (by omega)) (fun _ _ => rfl) (fun _ _ => rfl) (fun i hi => absurd hi (by omega)) (by omega) (by rw [h1']; exact SE.rf _) W.i (by rw [h1']; exact W0.c.cp hx0)
  rw [h1'] at E'
  have eb : f12_putsBack (zN N' o u' t') = some (p_rw (zN N' o u' t') 1 (n 1)) := t_back E' ho
  have m0 : zM M' f' x' 74 4 = nI len := by rw [zM_n _ _ _ (by omega) (by omega), g1 74 (by omega)]; exact S.2.2.2.1
  have z0 : ∀ r, r ≠ 1 → r ≠ 3 → r ≠ 4 → r ≠ 10 → p_rw (zN N' o u' t') 1 (n 1) r = lu_st N 0 21 (nI len) r := fun r h1 h2 h3 h4 => by
    rw [p_rw_n h1, zN_n _ _ _ _ h1 h2 h3, g2 r h4]
  have z10 : p_rw (zN N' o u' t') 1 (n 1) 10 = N' 10 := by rw [p_rw_n (by omega), zN_n _ _ _ _ (by omega) (by omega) (by omega)]
  have y0 : ∀ r, r ≠ 0 → r ≠ 36 → r ≠ 73 → (r < 100 ∨ 104 ≤ r) → lu_st (zM M' f' x') 0 9 (nI len) r = M r := fun r h1 h2 h3 h4 => by
    rw [lu_st_row h1, zM_n _ _ _ h2 h3, g1 r h4]
  have y00 : ∀ i, i ≠ 9 → lu_st (zM M' f' x') 0 9 (nI len) 0 i = M 0 i := fun i hi => by
    rw [lu_st_ne hi, zM_n _ _ _ (by omega) (by omega), g1 0 (by omega)]
  refine ⟨nI len, lu_st (zM M' f' x') 0 9 (nI len), p_rw (zN N' o u' t') 1 (n 1), ?_, ?_, ?_⟩
  · refine c1.trans ?_
    unfold f11_prove_b113
    rw [m0, p_nm, lu_st_self]
  · refine c2.trans ?_
    unfold f12_prove_b88
    rw [eb, p_bv, z0 0 (by omega) (by omega) (by omega) (by omega), lu_st_self]
  · refine ⟨⟨L, ?_⟩, R'.2.k.fr (y00 2 (by omega)) (fun r h1 h2 => y0 r (by omega) (by omega) (by omega) (by omega)) (by rw [z0 0 (by omega) (by omega) (by omega) (by omega), lu_st_ne (by omega)]) (by rw [z0 2 (by omega) (by omega) (by omega) (by omega), lu_st_row (by omega)]), ⟨len, hl, lu_st_self .., by rw [z0 0 (by omega) (by omega) (by omega) (by omega), lu_st_self], fun k hk c hc => ?_⟩, R'.2.t.fr (by rw [y0 83 (by omega) (by omega) (by omega) (by omega)]) (by rw [z0 0 (by omega) (by omega) (by omega) (by omega), lu_st_ne (by omega)]) (y0 84 (by omega) (by omega) (by omega) (by omega)) (by rw [z0 11 (by omega) (by omega) (by omega) (by omega), lu_st_row (by omega)]), R'.2.h.fr (fun r h1 h2 => y0 r (by omega) (by omega) (by omega) (by omega)) (fun r h1 h2 => by rw [z0 r (by omega) (by omega) (by omega) (by omega), lu_st_row (by omega)]), R'.2.f.fr (fun r h1 h2 => y0 r (by omega) (by omega) (by omega) (by omega)) (fun r h1 h2 => by rw [z0 r (by omega) (by omega) (by omega) (by omega), lu_st_row (by omega)]), R'.2.n.fr (by rw [z0 0 (by omega) (by omega) (by omega) (by omega), lu_st_ne (by omega)]) (y0 114 (by omega) (by omega) (by omega) (by omega)) (by rw [z0 18 (by omega) (by omega) (by omega) (by omega), lu_st_row (by omega)]), R'.2.g.fr (fun k hk => by rw [y0 _ (by omega) (by omega) (by omega) (by omega)])⟩
    · rw [p_rw_s]
      exact W0.tr (fun r h1 h2 => y0 r (by omega) (by omega) (by omega) (by omega))
    · rw [lu_st_row (by omega), zM_n _ _ _ (by omega) (by omega), z10]
      exact g3 k hk c hc

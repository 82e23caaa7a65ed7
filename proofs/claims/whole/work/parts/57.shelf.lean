/-! THE PURE PART: shelves -/
def sM (m : lu_M) (h : Nat) (A B C : Int32) : lu_M := p_rw (p_rw (p_rw m 111 (upd (m 111) h A)) 112 (upd (m 112) h B)) 113 (upd (m 113) h C)
def sN (n : lu_M) (h : Nat) (A B C : Int32) : lu_M := p_rw (p_rw (p_rw n 15 (upd (n 15) h A)) 16 (upd (n 16) h B)) 17 (upd (n 17) h C)
theorem sM_st (m : lu_M) (h : Nat) (A B C : Int32) : lu_st (lu_st (lu_st m 111 h A) 112 h B) 113 h C = sM m h A B C := by
  unfold sM
  rw [p_st m, p_st (p_rw m 111 _), p_st (p_rw (p_rw m 111 _) 112 _), p_rw_n (a := 112) (by omega), p_rw_n (a := 113) (by omega), p_rw_n (a := 113) (by omega)]
theorem sN_st (m : lu_M) (h : Nat) (A B C : Int32) : lu_st (lu_st (lu_st m 15 h A) 16 h B) 17 h C = sN m h A B C := by
  unfold sN
  rw [p_st m, p_st (p_rw m 15 _), p_st (p_rw (p_rw m 15 _) 16 _), p_rw_n (a := 16) (by omega), p_rw_n (a := 17) (by omega), p_rw_n (a := 17) (by omega)]
theorem sM_n (m : lu_M) (h : Nat) (A B C : Int32) {a : Nat} (ha : a < 111 ∨ 114 ≤ a) : sM m h A B C a = m a := by
  unfold sM; rw [p_rw_n (by omega), p_rw_n (by omega), p_rw_n (by omega)]
theorem sN_n (n : lu_M) (h : Nat) (A B C : Int32) {a : Nat} (ha : a < 15 ∨ 18 ≤ a) : sN n h A B C a = n a := by
  unfold sN; rw [p_rw_n (by omega), p_rw_n (by omega), p_rw_n (by omega)]
theorem Rel.shelf {m n : lu_M} {L : List Ru} (R : Rel m n) (W : WR m 1 (n 1) L) {h : Nat} {A B C A' B' C' : Int32} (hf : (A = 0 ∧ A' = 1 ∧ B = B' ∧ ∃ p, p ≤ 5 ∧ B' = nI p) ∨ (A = 1 ∧ A' = 2 ∧ C = B' ∧ B = C' ∧ (∃ p, p ≤ 40 ∧ B' = nI p) ∧ (∃ p, p ≤ 4 ∧ C' = nI p)) ∨ (A = 2 ∧ A' = 0)) : Rel (sM m h A B C) (sN n h A' B' C') := by
  refine R.far W (fun a ha => sM_n m h A B C (by omega)) (fun a ha => sN_n n h A' B' C' (by omega)) ?_ ?_ ?_ ?_ ?_
  · exact R.2.r.fr (by rw [sM_n _ _ _ _ _ (by omega)]) (by rw [sN_n _ _ _ _ _ (by omega)]) (fun r h1 h2 => sM_n _ _ _ _ _ (by omega)) (sN_n _ _ _ _ _ (by omega))
  · exact R.2.t.fr (by rw [sM_n _ _ _ _ _ (by omega)]) (by rw [sN_n _ _ _ _ _ (by omega)]) (sM_n _ _ _ _ _ (by omega)) (sN_n _ _ _ _ _ (by omega))
  · exact R.2.h.fr (fun r h1 h2 => sM_n _ _ _ _ _ (by omega)) (fun r h1 h2 => sN_n _ _ _ _ _ (by omega))
  · intro i hi
    have e1 : sM m h A B C 111 = upd (m 111) h A := by unfold sM; rw [p_rw_n (by omega), p_rw_n (by omega), p_rw_s]
    have e2 : sM m h A B C 112 = upd (m 112) h B := by unfold sM; rw [p_rw_n (by omega), p_rw_s]
    have e3 : sM m h A B C 113 = upd (m 113) h C := by unfold sM; rw [p_rw_s]
    have g1 : sN n h A' B' C' 15 = upd (n 15) h A' := by unfold sN; rw [p_rw_n (by omega), p_rw_n (by omega), p_rw_s]
    have g2 : sN n h A' B' C' 16 = upd (n 16) h B' := by unfold sN; rw [p_rw_n (by omega), p_rw_s]
    have g3 : sN n h A' B' C' 17 = upd (n 17) h C' := by unfold sN; rw [p_rw_s]
    rw [e1, e2, e3, g1, g2, g3]
    by_cases e : i = h
    · subst e
      rw [p_us, p_us, p_us, p_us, p_us]
      rcases hf with ⟨q1, q2, q3, p, q4, q5⟩ | ⟨q1, q2, q3, q4, ⟨p, q5, q6⟩, ⟨p', q7, q8⟩⟩ | ⟨q1, q2⟩
      · exact Or.inl ⟨q1, q2, q3, (s_okn (by rw [p_us]; exact q5) (by omega) q4 (by omega)).1⟩
      · exact Or.inr (Or.inl ⟨q1, q2, q3, by rw [p_us]; exact q4, (s_okn (by rw [p_us]; exact q6) (by omega) q5 (by omega)).1, (s_okn (by rw [p_us]; exact q8) (by omega) q7 (by omega)).1⟩)
      · exact Or.inr (Or.inr ⟨q1, q2⟩)
    · rw [upd_ne e, upd_ne e, upd_ne e, upd_ne e, upd_ne e, upd_ne e]
      rcases R.2.f i hi with ⟨q1, q2, q3, q4⟩ | ⟨q1, q2, q3, q4, q5, q6⟩ | ⟨q1, q2⟩
      · exact Or.inl ⟨q1, q2, q3, s_ok_of (upd_ne e) q4⟩
      · exact Or.inr (Or.inl ⟨q1, q2, q3, q4, s_ok_of (upd_ne e) q5, s_ok_of (upd_ne e) q6⟩)
      · exact Or.inr (Or.inr ⟨q1, q2⟩)
  · exact R.2.n.fr (by rw [sN_n _ _ _ _ _ (by omega)]) (sM_n _ _ _ _ _ (by omega)) (sN_n _ _ _ _ _ (by omega))
theorem y_shelf (a b c : Int32) : Me (f11_shelf a b c) (f12_shelf a b c) := Me.mk fun m n L R W => by
  have hP := W.i.P6
  unfold f11_shelf f12_shelf f11_shelf_b18 f12_shelf_b43
  rw [k_isOne, t_isOne, p_bi, p_bi, p_if, p_if]
  cases h1 : p_in a.toInt 0 3
  · rw [if_neg p_ff, if_neg p_ff]
    exact ⟨_, _, _, rfl, rfl, R⟩
  rw [if_pos rfl, if_pos rfl, show (0 : Int64) = (0 : Int32).toInt64 from rfl, show (2 : Int64) = (2 : Int32).toInt64 from rfl, k_in, t_in32, p_bi, p_bi, p_if, p_if]
  cases h2 : p_in b.toInt (0 : Int32).toInt (2 : Int32).toInt
  · rw [if_neg p_ff, if_neg p_ff]
    exact ⟨_, _, _, rfl, rfl, R⟩
  rw [if_pos rfl, if_pos rfl]
  obtain ⟨h, rfl, -, hh'⟩ := p_in_ex (lo := 0) (hi := 3) h1 (by omega)
  have hh : h < 4 := by omega
  obtain ⟨v, rfl, -, hv⟩ := p_in_ex (lo := 0) (hi := 2) h2 (by omega)
  have g4 : (4 : Nat) < 2 ^ 31 := by omega
  have qh : h < 2 ^ 31 := by omega
  have hv' : v = 0 ∨ v = 1 ∨ v = 2 := by omega
  rcases hv' with e | e | e <;> subst e
  · rw [if_pos (show nI 0 = (0 : Int32) from rfl), if_pos (show nI 0 = (0 : Int32) from rfl), k_per W, t_per W, p_bi, p_bi, p_if, p_if]
    cases h3 : p_in c.toInt 0 ((s_P (n 1) : Int) - 1)
    · rw [if_neg p_ff, if_neg p_ff]
      exact ⟨_, _, _, rfl, rfl, R⟩
    rw [if_pos rfl, if_pos rfl]
    obtain ⟨p, rfl, hp⟩ := p_in_m1 h3 (by omega)
    refine ⟨1, sM m h 0 (nI p) 0, sN n h 1 (nI p) 0, ?_, ?_, R.shelf W (Or.inl ⟨rfl, rfl, rfl, p, by omega, rfl⟩)⟩
    · unfold f11_shelf_b37 f11_shelf_b53 f11_shelf_b127
      simp only [p_gd hh g4, p_nm, nI_clamp qh, if_neg (show ¬ nI 0 = (1 : Int32) by decide), sM_st]
      rfl
    · unfold f12_shelf_b31 f12_shelf_b45 f12_shelf_b77 f12_shelf_b106 f12_shelf_b127
      simp only [p_gd hh g4, p_nm, nI_clamp qh, if_neg (show ¬ nI 0 = (1 : Int32) by decide), if_pos (show nI 0 = (0 : Int32) from rfl), sN_st]
  · rw [if_neg (by decide), if_neg (by decide)]
    unfold f11_shelf_b37 f12_shelf_b31 f12_shelf_b43
    rw [if_pos (by decide), if_pos (by decide), k_isOne, t_isOne, p_bi, p_bi, p_if, p_if]
    cases h3 : p_in c.toInt 0 3
    · rw [if_neg p_ff, if_neg p_ff]
      exact ⟨_, _, _, rfl, rfl, R⟩
    rw [if_pos rfl, if_pos rfl]
    obtain ⟨i, rfl, -, hi'⟩ := p_in_ex (lo := 0) (hi := 3) h3 (by omega)
    have hi : i < 4 := by omega
    have qi : i < 2 ^ 31 := by omega
    obtain ⟨z, hz, mz, nz⟩ := R.2.h.sz hi
    have em : ∀ s0 : Int32, f11_shelf_b78 (nI h) (nI 1) (nI i) s0 (nI h) m = some (1, sM m h s0 (m 104 i) (nI z)) := fun s0 => by
      unfold f11_shelf_b78 f11_shelf_b127
      simp only [p_gd hh g4, p_gd hi g4, p_nm, nI_clamp qh, nI_clamp qi, lu_st_row (show (104 : Nat) ≠ 111 by decide), lu_st_row (show (105 : Nat) ≠ 111 by decide), lu_st_row (show (105 : Nat) ≠ 112 by decide), mz, sM_st]
    have en : ∀ s0 : Int32, f12_shelf_b77 (nI h) (nI 1) (nI i) s0 (nI h) n = some (1, sN n h s0 (nI z) (n 12 i)) := fun s0 => by
      unfold f12_shelf_b77 f12_shelf_b106 f12_shelf_b127
      simp only [p_gd hh g4, p_gd hi g4, p_nm, nI_clamp qh, nI_clamp qi, if_neg (show ¬ nI 1 = (0 : Int32) by decide), if_pos (show nI 1 = (1 : Int32) from rfl), lu_st_row (show (13 : Nat) ≠ 15 by decide), lu_st_row (show (12 : Nat) ≠ 15 by decide), lu_st_row (show (12 : Nat) ≠ 16 by decide), nz, sN_st]
    unfold f11_shelf_b53 f12_shelf_b45 f12_shelf_b76
    simp only [if_pos (show nI 1 = (1 : Int32) from rfl), if_neg (show ¬ nI 1 = (0 : Int32) by decide), p_gd hi g4, nI_clamp qi, em, en]
    rcases R.2.h.so hi with ⟨e1, e2⟩ | ⟨s, hs, e1, e2⟩
    · rw [e1, e2, if_pos rfl, if_pos (by decide)]
      exact ⟨_, _, _, rfl, rfl, R.shelf W (Or.inr (Or.inr ⟨rfl, rfl⟩))⟩
    · rw [e1, e2, if_neg (p_m1n (by omega)), if_neg (nI_pos (by omega))]
      exact ⟨_, _, _, rfl, rfl, R.shelf W (Or.inr (Or.inl ⟨rfl, rfl, rfl, rfl, ⟨z, hz, rfl⟩, ⟨s, hs, rfl⟩⟩))⟩
  · rw [if_neg (by decide), if_neg (by decide)]
    refine ⟨1, sM m h 2 c 0, sN n h 0 0 0, ?_, ?_, R.shelf W (Or.inr (Or.inr ⟨rfl, rfl⟩))⟩
    · unfold f11_shelf_b37 f11_shelf_b53 f11_shelf_b127
      simp only [p_gd hh g4, p_nm, nI_clamp qh, if_neg (show ¬ nI 2 = (1 : Int32) by decide), sM_st]
      rfl
    · unfold f12_shelf_b31 f12_shelf_b45 f12_shelf_b76 f12_shelf_b77 f12_shelf_b106 f12_shelf_b127
      simp only [p_gd hh g4, p_nm, nI_clamp qh, if_neg (show ¬ nI 2 = (1 : Int32) by decide), if_neg (show ¬ nI 2 = (0 : Int32) by decide), sN_st]
/-- whose number a shelf holds -/
theorem on_shelf {m n : lu_M} {L : List Ru} (R : Rel m n) (W : WR m 1 (n 1) L) {h : Nat} (hh : h < 4) : (f11_holdsPerson (nI h) m = some (0, m) ∧ f12_onShelf (nI h) n = some (-1, n) ∧ ((m 111 h = 1 ∧ n 15 h = 2) ∨ (m 111 h ≠ 1 ∧ (n 15 h = 0 ∨ n 15 h = 1)))) ∨ ∃ p, p < s_P (n 1) ∧ m 111 h = 0 ∧ n 15 h = 1 ∧ m 112 h = nI p ∧ n 16 h = nI p ∧ f11_holdsPerson (nI h) m = some (1, m) ∧ f12_onShelf (nI h) n = some (nI p, n) := by
  have hP := W.i.P6
  have h3 : p_in (nI h).toInt 0 3 = true := by
    unfold p_in
    rw [nI_toInt (by omega)]
    exact decide_eq_true (by omega)
  unfold f11_holdsPerson f11_holdsPerson_b29 f11_holdsPerson_b30 f12_onShelf f12_onShelf_b39 f12_onShelf_b40
  rw [t_isOne, h3, p_bi, p_if, if_pos rfl, p_gd hh (by omega), p_gd hh (by omega), p_gd hh (by omega), p_gd hh (by omega), nI_clamp (by omega)]
  rcases R.2.f h hh with ⟨q1, q2, q3, q4⟩ | ⟨q1, q2, q3, q4, q5, q6⟩ | ⟨q1, q2⟩
  · rw [q1, q2, if_pos rfl, if_pos rfl, q3, k_per W, t_per W, p_bi, p_bi, p_if, p_if]
    cases h4 : p_in (n 16 h).toInt 0 ((s_P (n 1) : Int) - 1)
    · exact Or.inl ⟨rfl, rfl, Or.inr ⟨by decide, Or.inr rfl⟩⟩
    · obtain ⟨p, e, hp⟩ := p_in_m1 h4 (by omega)
      refine Or.inr ⟨p, hp, rfl, rfl, e, e, rfl, ?_⟩
      rw [if_pos rfl, p_gd hh (by omega), e]
  · rw [q1, q2]
    exact Or.inl ⟨rfl, rfl, Or.inl ⟨rfl, rfl⟩⟩
  · rw [q1, q2]
    exact Or.inl ⟨rfl, rfl, Or.inr ⟨by decide, Or.inl rfl⟩⟩
theorem un10 (m : lu_M) {k a : Nat} (hk : k ≤ 5) (ha : 10 ≤ a) (ha2 : a ≤ 14) : f11_isUnder (nI k) (nI a) m = some (0, m) := by
  have h1 : k = 0 ∨ k = 1 ∨ k = 2 ∨ k = 3 ∨ k = 4 ∨ k = 5 := by omega
  have h2 : a = 10 ∨ a = 11 ∨ a = 12 ∨ a = 13 ∨ a = 14 := by omega
  rcases h1 with e | e | e | e | e | e <;> subst e <;> rcases h2 with e | e | e | e | e <;> subst e <;> rfl
theorem k_taken {m n : lu_M} {L : List Ru} (R : Rel m n) (W : WR m 1 (n 1) L) {h v : Nat} (hh : h < 4) (hv : v ≤ 5 ∨ (10 ≤ v ∧ v ≤ 14)) : ∃ a m' n', f11_taken_b33 (nI h) (nI v) m = some (a, m') ∧ f12_taken_b35 (nI h) (nI v) n = some (a, n') ∧ Rel m' n' := by
  have hP := W.i.P6
  unfold f11_taken_b33 f12_taken_b35 f11_taken_b67 f11_taken_b111
  rw [p_gd hh (by omega), p_gd hh (by omega), p_gd hh (by omega), nI_clamp (by omega)]
  rcases on_shelf R W hh with ⟨e1, e2, ⟨q1, q2⟩ | ⟨q1, q2⟩⟩ | ⟨p, hp, q1, q2, q3, q4, e1, e2⟩
  · rw [e2, p_bi, q1, if_pos rfl, if_neg (show ¬ (0 : Int32) ≤ -1 by decide), p_gd hh (by omega), q2, if_pos (show (2 : Int32) ≤ 2 by decide)]
    rcases R.2.f h hh with ⟨z1, -⟩ | ⟨-, -, z3, z4, -, -⟩ | ⟨z1, -⟩
    · rw [z1] at q1; exact absurd q1 (by decide)
    · unfold f12_taken_b58 f12_taken_b107 f12_taken_b125
      rw [if_pos (show (-1 : Int32) < 0 by decide), p_gd hh (by omega), nI_clamp (by omega), z3, z4, if_neg (show ¬ (1 : Int32) = 0 by decide), p_gd hh (by omega), if_pos (show (0 : Int32) = 0 from rfl)]
      by_cases g : nI v - 10 = n 17 h
      · rw [if_pos g, if_pos g]; exact ⟨_, _, _, rfl, rfl, R⟩
      · rw [if_neg g, if_neg g]; exact ⟨_, _, _, rfl, rfl, R⟩
    · rw [z1] at q1; exact absurd q1 (by decide)
  · rw [e1, e2, p_bi, p_bi, if_neg q1, if_pos rfl, if_neg (by decide), p_gd hh (by omega)]
    rcases q2 with q2 | q2 <;> rw [q2, if_neg (by decide)] <;> exact ⟨_, _, _, rfl, rfl, R⟩
  · obtain ⟨⟨k1, -, k2⟩, -, -⟩ := W.i.per hp
    obtain ⟨r0, -, -⟩ := W.b.per (by omega) hp
    have r0' : m (2 + 1 + p) 0 = nI (s_v (n 1) (8 + 3 * p)) := r0.trans k1
    rw [e1, e2, p_bi, p_bi, q1, if_neg (by decide), if_neg (by decide), p_gd hh (by omega), if_pos (nI_pos' (by omega)), q3, p_nm, p_gd (by omega) (by omega), nI_clamp (by omega), r0']
    unfold f12_taken_b58 f12_taken_b85 f12_taken_b107 f12_taken_b125
    rw [if_neg (nI_pos (by omega)), show (6 : Int32) = nI 6 from rfl, q_le (by omega) (by omega), t_iSt _ (by omega), p_bi, k1]
    rcases hv with hv | hv
    · rw [if_neg (by omega), k_under m k2 hv, t_under n k2 hv, p_bi, p_bi, p_if, p_if]
      cases r_un (s_v (n 1) (8 + 3 * p)) v
      · rw [if_neg p_ff, if_neg p_ff, if_pos rfl]
        exact ⟨_, _, _, rfl, rfl, R⟩
      · rw [if_pos rfl, if_pos rfl, if_neg (by decide), p_gd hh (by omega), nI_clamp (by omega), q4]
        exact ⟨_, _, _, rfl, rfl, R⟩
    · rw [if_pos (by omega), un10 m k2 hv.1 hv.2, p_bi, if_pos rfl, if_pos rfl]
      exact ⟨_, _, _, rfl, rfl, R⟩
theorem y_taken (a b : Int32) : Me (f11_taken a b) (f12_taken a b) := Me.mk fun m n L R W => by
  unfold f11_taken f12_taken f12_taken_b33
  rw [k_isOne, t_isOne, p_bi, p_bi, p_if, p_if]
  cases h1 : p_in a.toInt 0 3
  · rw [if_neg p_ff, if_neg p_ff]
    exact ⟨_, _, _, rfl, rfl, R⟩
  obtain ⟨h, rfl, -, hh'⟩ := p_in_ex (lo := 0) (hi := 3) h1 (by omega)
  rw [if_pos rfl, if_pos rfl, show (0 : Int64) = (0 : Int32).toInt64 from rfl, show (5 : Int64) = (5 : Int32).toInt64 from rfl, show (10 : Int64) = (10 : Int32).toInt64 from rfl, show (14 : Int64) = (14 : Int32).toInt64 from rfl, k_in, t_in32, p_bi, p_bi, p_if, p_if]
  cases h2 : p_in b.toInt (0 : Int32).toInt (5 : Int32).toInt
  · rw [if_neg p_ff, if_neg p_ff, k_in, t_in32, p_bi, p_bi, p_if, p_if]
    cases h3 : p_in b.toInt (10 : Int32).toInt (14 : Int32).toInt
    · rw [if_neg p_ff, if_neg p_ff]
      exact ⟨_, _, _, rfl, rfl, R⟩
    obtain ⟨v, rfl, v1, v2⟩ := p_in_ex (lo := 10) (hi := 14) h3 (by omega)
    rw [if_pos rfl, if_pos rfl]
    exact k_taken R W (by omega) (Or.inr ⟨v1, v2⟩)
  · obtain ⟨v, rfl, v1, v2⟩ := p_in_ex (lo := 0) (hi := 5) h2 (by omega)
    rw [if_pos rfl, if_pos rfl]
    exact k_taken R W (by omega) (Or.inl v2)

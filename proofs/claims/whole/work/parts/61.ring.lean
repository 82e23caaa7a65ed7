/-! THE PURE PART: ring -/
def s_set (s : Nat → Int32) (p : Nat) : Nat → Int32
  | 0 => (1 : Int32) <<< (nI p &&& 31)
  | n + 1 => p_it (s_ow s (s_set s p n)) 0 36 0
theorem set_bit (s : Nat → Int32) {p : Nat} (hp : p < 6) : ∀ (n q : Nat), q < 6 → (bt (s_set s p n) q = true ↔ w_k (s_A s) p n q)
  | 0, q, hq => by
    show bt ((1 : Int32) <<< (nI p &&& 31)) q = true ↔ _
    rw [p_one p (by omega) q (by omega), decide_eq_true_eq]
    constructor
    · intro e; exact ⟨fun _ => p, rfl, e.symm, fun i hi => absurd hi (by omega)⟩
    · rintro ⟨f, h0, h1, -⟩; exact h1.symm.trans h0
  | n + 1, q, hq => by
    show bt (p_it (s_ow s (s_set s p n)) 0 36 0) q = true ↔ _
    rw [ow_bit s _ hq]
    constructor
    · rintro ⟨r, h1, h2⟩
      obtain ⟨f, f0, f1, f2⟩ := (set_bit s hp n r h2.1).mp h1
      refine ⟨fun i => if i ≤ n then f i else q, ?_, ?_, fun i hi => ?_⟩
      · show (if 0 ≤ n then f 0 else q) = p
        rw [if_pos (by omega)]; exact f0
      · show (if n + 1 ≤ n then f (n + 1) else q) = q
        rw [if_neg (by omega)]
      · show s_A s (if i ≤ n then f i else q) (if i + 1 ≤ n then f (i + 1) else q)
        by_cases e : i = n
        · subst e
          rw [if_pos (by omega), if_neg (by omega), f1]; exact h2
        · rw [if_pos (by omega), if_pos (by omega)]; exact f2 i (by omega)
    · rintro ⟨f, f0, f1, f2⟩
      have hA := f2 n (by omega)
      rw [f1] at hA
      exact ⟨f n, (set_bit s hp n (f n) hA.1).mpr ⟨f, f0, rfl, fun i hi => f2 i (by omega)⟩, hA⟩
theorem t_ringN (n : lu_M) {p : Nat} (hp : p < 6) : ∀ (j k q : Nat), k + j = 7 → 1 ≤ k → j < q → f12_ring_b16 (f12_ring_b37 (nI p)) (f12_ring_b45 (nI p)) (nI p) q (s_set (n 1) p (k - 1)) (nI k) n = some (s_fst (fun i => bt (s_set (n 1) p i) p) k j, n)
  | 0, k, q, h, hk, hq => by
    obtain ⟨q, rfl⟩ : ∃ r, q = r + 1 := ⟨q - 1, by omega⟩
    show f12_ring_b16B _ _ _ _ _ _ _ = _
    unfold f12_ring_b16B f12_ring_b45
    rw [show (6 : Int32) = nI 6 from rfl, q_lt (by omega) (by omega), if_pos (by omega)]
    rfl
  | j + 1, k, q, h, hk, hq => by
    obtain ⟨q, rfl⟩ : ∃ r, q = r + 1 := ⟨q - 1, by omega⟩
    have ih := t_ringN n hp j (k + 1) q (by omega) (by omega) (by omega)
    show f12_ring_b16B _ _ _ _ _ _ _ = _
    unfold f12_ring_b16B f12_ring_b37 s_fst
    have e : p_it (s_ow (n 1) (s_set (n 1) p (k - 1))) 0 36 0 = s_set (n 1) p k := by
      obtain ⟨k, rfl⟩ : ∃ r, k = r + 1 := ⟨k - 1, by omega⟩
      rfl
    rw [show (6 : Int32) = nI 6 from rfl, q_lt (by omega) (by omega), if_neg (by omega), t_owedBy, p_bi, e, p_bit _ (by omega), p_if1, p_next]
    rw [show k + 1 - 1 = k by omega] at ih
    cases hb : bt (s_set (n 1) p k) p
    · rw [if_neg p_ff, if_neg p_ff]; exact ih
    · rw [if_pos rfl, if_pos rfl]
theorem k_ringN {m : lu_M} {s : Nat → Int32} (I : SI s) (B : RB m 1 s) (X : WX m 1 s) {p : Nat} (hp : p < 6) : ∀ (j k q : Nat), k + j = s_P s + 1 → 1 ≤ k → j < q → f11_ring_b19 (f11_ring_b48 (nI p)) (f11_ring_b56 (nI p)) (nI p) q (s_set s p (k - 1)) (nI k) m = some (s_fst (fun i => bt (s_set s p i) p) k j, m)
  | 0, k, q, h, hk, hq => by
    have hP := I.P6
    obtain ⟨q, rfl⟩ : ∃ r, q = r + 1 := ⟨q - 1, by omega⟩
    show f11_ring_b19B _ _ _ _ _ _ _ = _
    unfold f11_ring_b19B f11_ring_b56
    rw [B.cnt, I.eP, q_lt (by omega) (by omega), if_pos (by omega)]
    rfl
  | j + 1, k, q, h, hk, hq => by
    have hP := I.P6
    obtain ⟨q, rfl⟩ : ∃ r, q = r + 1 := ⟨q - 1, by omega⟩
    have ih := k_ringN I B X hp j (k + 1) q (by omega) (by omega) (by omega)
    show f11_ring_b19B _ _ _ _ _ _ _ = _
    unfold f11_ring_b19B f11_ring_b48 s_fst
    have e : p_it (s_ow s (s_set s p (k - 1))) 0 36 0 = s_set s p k := by
      obtain ⟨k, rfl⟩ : ∃ r, k = r + 1 := ⟨k - 1, by omega⟩
      rfl
    rw [B.cnt, I.eP, q_lt (by omega) (by omega), if_neg (by omega), k_owedBy I B X, p_bi, e, p_bit _ (by omega), p_if1, p_next]
    rw [show k + 1 - 1 = k by omega] at ih
    cases hb : bt (s_set s p k) p
    · rw [if_neg p_ff, if_neg p_ff]; exact ih
    · rw [if_pos rfl, if_pos rfl]
theorem y_ring (a : Int32) : Me (f11_ring a) (f12_ring a) := Me.mk fun m n L R W => by
  have hP := W.i.P6
  unfold f11_ring f12_ring
  rw [k_per W, t_per W, p_bi, p_bi, p_if, p_if]
  cases h : p_in a.toInt 0 ((s_P (n 1) : Int) - 1)
  · rw [if_neg p_ff, if_neg p_ff]
    exact ⟨_, _, _, rfl, rfl, R⟩
  rw [if_pos rfl, if_pos rfl]
  obtain ⟨p, rfl, hp⟩ := p_in_m1 h (by omega)
  have hA : ∀ x y, s_A (n 1) x y → x < s_P (n 1) ∧ y < s_P (n 1) := fun x y ⟨h1, h2, h3⟩ => by
    have hz := (W.x.lo (p := x) (q := y) h1 h2).2.2
    by_cases e : s_P (n 1) ≤ x ∨ s_P (n 1) ≤ y
    · rw [hz (by omega)] at h3; exact absurd (by decide) h3
    · omega
  have e1 := k_ringN W.i W.b W.x (p := p) (by omega) (s_P (n 1)) 1 lu_fu (by omega) (by omega) (p_fu (by omega))
  have e2 := t_ringN n (p := p) (by omega) 6 1 lu_fu (by omega) (by omega) (p_fu (by omega))
  have e3 : s_fst (fun i => bt (s_set (n 1) p i) p) 1 6 = s_fst (fun i => bt (s_set (n 1) p i) p) 1 (s_P (n 1)) := by
    have := s_fst_eq (fun i => bt (s_set (n 1) p i) p) (s_P (n 1)) (6 - s_P (n 1)) 1 (fun k h1 h2 h3 => by
      obtain ⟨m', m1, m2, m3⟩ := w_short hA k k (Nat.le_refl _) (by omega) ((set_bit (n 1) (by omega) k p (by omega)).mp h3)
      exact ⟨m', m1, by omega, (set_bit (n 1) (by omega) m' p (by omega)).mpr m3⟩)
    rw [show s_P (n 1) + (6 - s_P (n 1)) = 6 by omega] at this
    exact this
  rw [e3] at e2
  rw [p_nm, p_nm]
  exact ⟨_, _, _, e1, e2, R⟩

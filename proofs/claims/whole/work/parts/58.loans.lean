/-! THE PURE PART: loans counted -/
theorem p_six {σ : Type} (f : Nat → σ → σ) (p : Nat) (x : σ) : p_it f (6 * p) 6 x = p_it (fun q => f (6 * p + q)) 0 6 x := rfl
theorem p_36 {σ : Type} (f : Nat → σ → σ) (x : σ) : p_it f 0 36 x = p_it (fun p y => p_it (fun q => f (6 * p + q)) 0 6 y) 0 6 x := by
  have h : ∀ (j k : Nat) (x : σ), p_it f (6 * k) (6 * j) x = p_it (fun p y => p_it (fun q => f (6 * p + q)) 0 6 y) k j x := by
    intro j
    induction j with
    | zero => intro k x; rfl
    | succ j ih =>
      intro k x
      rw [show 6 * (j + 1) = 6 + 6 * j by omega, p_it_split, p_six, show 6 * k + 6 = 6 * (k + 1) by omega, ih]
      rfl
  exact h 6 0 x
theorem p_it_cut {σ : Type} {f : Nat → σ → σ} {n N : Nat} (h : n ≤ N) (x : σ) (hf : ∀ i y, n ≤ i → i < N → f i y = y) : p_it f 0 N x = p_it f 0 n x := by
  have e := p_it_split f n 0 (N - n) x
  rw [show n + (N - n) = N by omega, Nat.zero_add] at e
  rw [e]
  exact p_it_inv (f := f) (I := fun _ y => y = p_it f 0 n x) (N - n) n _ rfl (fun i y h1 h2 h3 => by rw [hf i y h1 (by omega)]; exact h3)
def s_loan (s : Nat → Int32) (k : Nat) (x : Int32) : Int32 := x + (if s (76 + k) ≤ 0 then 0 else 1)
theorem t_loans (n : lu_M) : f12_loans n = some (p_it (s_loan (n 1)) 0 36 0, n) := by
  have hl := (p_loop (fun q i (x : Int32) => f12_loans_b4 f12_loans_b36 q x i n) (fun x => some (x, n)) 36 (s_loan (n 1)) (fun _ _ => True)
    (fun q x _ => by
      show f12_loans_b4B _ _ _ _ _ = _
      unfold f12_loans_b4B f12_loans_b36
      rw [show (36 : Int32) = nI 36 from rfl, if_pos (Int32.le_refl _)])
    (fun q i x hi _ => by
      show f12_loans_b4B _ _ _ _ _ = _
      unfold f12_loans_b4B f12_loans_b28 s_loan
      rw [show (36 : Int32) = nI 36 from rfl, q_le (by omega) (by omega), if_neg (by omega), show (76 : Int32) = nI 76 from rfl, nI_add, p_gd (by omega) (by omega), nI_clamp (by omega), p_nm, p_nm, p_next]
      by_cases g : n 1 (76 + i) ≤ 0
      · rw [if_pos g, if_pos g]
      · rw [if_neg g, if_neg g])
    (fun _ _ _ _ => trivial) 36 0 lu_fu 0 (by omega) (p_fu (by omega)) trivial).1
  exact hl
theorem k_loans {m : lu_M} {s : Nat → Int32} (I : SI s) (B : RB m 1 s) (X : WX m 1 s) : f10_loansGiven 1 m = some (p_it (s_loan s) 0 36 0, m) := by
  have hP := I.P6
  have hz : ∀ p q x, p < 6 → q < 6 → (s_P s ≤ p ∨ s_P s ≤ q) → s_loan s (6 * p + q) x = x := fun p q x hp hq h => by
    unfold s_loan
    rw [show 76 + (6 * p + q) = 76 + 6 * p + q by omega, (X.lo hp hq).2.2 (by omega), if_pos (by decide), Int32.add_zero]
  have hin : ∀ p, p < 6 → ∀ x, p_it (fun q => s_loan s (6 * p + q)) 0 6 x = p_it (fun q => s_loan s (6 * p + q)) 0 (s_P s) x := fun p hp x => p_it_cut hP x (fun i y h1 h2 => hz p i y hp h2 (Or.inr h1))
  have hrow : ∀ (K42 : Int32 → Int32 → lu_M → Option (Int32 × lu_M)) (p : Nat) (v : Int32), p < s_P s → f10_loansGiven_b14 K42 1 lu_fu v (nI p) 0 m = K42 (p_it (fun q => s_loan s (6 * p + q)) 0 6 v) (nI p) m := fun K42 p v hp => by
    rw [hin p (by omega)]
    exact (p_loop (fun q i (x : Int32) => f10_loansGiven_b14 K42 1 q x (nI p) i m) (fun x => K42 x (nI p) m) (s_P s) (fun q => s_loan s (6 * p + q)) (fun _ _ => True)
      (fun q x _ => by
        show f10_loansGiven_b14B _ _ _ _ _ _ _ = _
        unfold f10_loansGiven_b14B
        rw [B.cnt, I.eP, if_pos (Int32.le_refl _)])
      (fun q i x hi _ => by
        show f10_loansGiven_b14B _ _ _ _ _ _ _ = _
        unfold f10_loansGiven_b14B f10_loansGiven_b36 s_loan
        rw [B.cnt, I.eP, q_le (by omega) (by omega), if_neg (by omega), p_gd (by omega) (by omega), p_gd (by omega) (by omega), nI_clamp (by omega), nI_clamp (by omega), (X.lo (p := p) (q := i) (by omega) (by omega)).1, show 76 + (6 * p + i) = 76 + 6 * p + i by omega, p_next]
        by_cases g : s (76 + 6 * p + i) ≤ 0
        · rw [if_pos g, if_pos g, Int32.add_zero]
        · rw [if_neg g, if_neg g])
      (fun _ _ _ _ => trivial) (s_P s) 0 lu_fu v (by omega) (p_fu (by omega)) trivial).1
  have hl := (p_loop (fun q i (x : Int32) => f10_loansGiven_b4 (f10_loansGiven_b48 1) 1 q x i m) (fun x => some (x, m)) (s_P s) (fun p y => p_it (fun q => s_loan s (6 * p + q)) 0 6 y) (fun _ _ => True)
    (fun q x _ => by
      show f10_loansGiven_b4B _ _ _ _ _ _ = _
      unfold f10_loansGiven_b4B f10_loansGiven_b48
      rw [B.cnt, I.eP, if_pos (Int32.le_refl _)])
    (fun q i x hi _ => by
      show f10_loansGiven_b4B _ _ _ _ _ _ = _
      unfold f10_loansGiven_b4B
      rw [B.cnt, I.eP, q_le (by omega) (by omega), if_neg (by omega), hrow _ i x hi]
      unfold f10_loansGiven_b42
      rw [p_next])
    (fun _ _ _ _ => trivial) (s_P s) 0 lu_fu 0 (by omega) (p_fu (by omega)) trivial).1
  rw [p_36, p_it_cut hP (0 : Int32) (fun i y h1 h2 => by
    rw [hin i h2]
    exact p_it_inv (f := fun q => s_loan s (6 * i + q)) (I := fun _ z => z = y) (s_P s) 0 y rfl (fun q z h3 h4 h5 => by rw [h5]; exact hz i q y h2 (by omega) (Or.inl h1)))]
  exact hl
theorem y_many (a : Int32) : Me (f11_many a) (f12_many a) := Me.mk fun m n L R W => by
  obtain ⟨c, c4, mr, nr, -⟩ := R.2.r
  obtain ⟨l, l2, ml, nl, -⟩ := R.2.t
  obtain ⟨b, b1, nb, mb, -⟩ := R.2.n
  have ht : f12_traced n = some (nI (min b 30), n) := by
    unfold f12_traced f12_traced_b18
    rw [nb, show (30 : Int32) = nI 30 from rfl, q_le (by omega) (by omega)]
    by_cases h : 30 ≤ b
    · rw [if_pos h, Nat.min_eq_right h]
    · rw [if_neg h, Nat.min_eq_left (by omega)]
  have h30 : m 30 0 = n 1 1 := W.w.2.1.trans W.r.1.symm
  have h10 : m 1 0 = n 1 0 := W.b.cnt
  have h12 : m 1 2 = n 1 5 := W.b.ded
  have h11 : m 1 11 = n 1 6 := W.x.2.1
  unfold f11_many f12_many
  rw [h30, h10, h12, h11, mr, nr, ml, nl, mb, ht, p_bi, k_loans W.i W.b W.x, p_bi, t_loans, p_bi]
  by_cases e0 : a = 0
  · rw [if_pos e0, if_pos e0]; exact ⟨_, _, _, rfl, rfl, R⟩
  rw [if_neg e0, if_neg e0]
  by_cases e1 : a = 1
  · rw [if_pos e1, if_pos e1]; exact ⟨_, _, _, rfl, rfl, R⟩
  rw [if_neg e1, if_neg e1]
  by_cases e2 : a = 2
  · rw [if_pos e2, if_pos e2]; exact ⟨_, _, _, rfl, rfl, R⟩
  rw [if_neg e2, if_neg e2]
  by_cases e3 : a = 3
  · rw [if_pos e3, if_pos e3]; exact ⟨_, _, _, rfl, rfl, R⟩
  rw [if_neg e3, if_neg e3]
  by_cases e4 : a = 4
  · rw [if_pos e4, if_pos e4]; exact ⟨_, _, _, rfl, rfl, R⟩
  rw [if_neg e4, if_neg e4]
  by_cases e5 : a = 5
  · rw [if_pos e5, if_pos e5]; exact ⟨_, _, _, rfl, rfl, R⟩
  rw [if_neg e5, if_neg e5]
  by_cases e6 : a = 6
  · rw [if_pos e6, if_pos e6]; exact ⟨_, _, _, rfl, rfl, R⟩
  rw [if_neg e6, if_neg e6]
  by_cases e7 : a = 7
  · rw [if_pos e7, if_pos e7]; exact ⟨_, _, _, rfl, rfl, R⟩
  rw [if_neg e7, if_neg e7]
  exact ⟨_, _, _, rfl, rfl, R⟩

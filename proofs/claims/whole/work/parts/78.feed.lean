/-! THE PURE PART: feed -/
theorem fd1 : ∀ k, k < 8 → ((((8 : Int32) * nI k).toInt64 &&& 63).toBitVec.smod 64).toNat = 8 * k := by decide +kernel
theorem fd2 : ∀ k, k < 8 → ((((8 : Int32) * nI k).toInt64.toUInt64 &&& Int64.toUInt64 63).toBitVec % 64).toNat = 8 * k := by decide +kernel
theorem fd3 : ∀ i, i < 32 → (255 : Int64).toBitVec.getLsbD i = decide (i < 8) := by decide +kernel
def fd_b (a : Int64) (k : Nat) : Int32 := ((a >>> (((8 : Int32) * nI k).toInt64 &&& 63)) &&& (255 : Int64)).toInt32
theorem fd_32 (x : Int64) {i : Nat} (hi : i < 32) : bt x.toInt32 i = x.toBitVec.getLsbD i := by
  unfold bt
  rw [Int64.toBitVec_toInt32, BitVec.getLsbD_signExtend]
  simp [hi]
  intro h
  omega
theorem fd_eq (a : Int64) {k : Nat} (hk : k < 8) : ((((a.toUInt64 >>> (((8 : Int32) * nI k).toInt64.toUInt64 &&& Int64.toUInt64 63)).toInt64).toInt32) &&& (255 : Int32)) = fd_b a k := by
  apply b_ext
  intro i hi
  unfold fd_b
  rw [b_and, b_255, fd_32 _ hi, fd_32 _ hi, Int64.toBitVec_and, BitVec.getLsbD_and, fd3 i hi]
  by_cases h8 : i < 8
  · rw [decide_eq_true h8, Bool.and_true, Bool.and_true]
    have e1 : (a.toUInt64 >>> (((8 : Int32) * nI k).toInt64.toUInt64 &&& Int64.toUInt64 63)).toInt64.toBitVec.getLsbD i = a.toBitVec.getLsbD (8 * k + i) := by
      show (a.toUInt64 >>> (((8 : Int32) * nI k).toInt64.toUInt64 &&& Int64.toUInt64 63)).toBitVec.getLsbD i = a.toUInt64.toBitVec.getLsbD (8 * k + i)
      rw [UInt64.toBitVec_shiftRight]
      show (a.toUInt64.toBitVec >>> ((((8 : Int32) * nI k).toInt64.toUInt64 &&& Int64.toUInt64 63).toBitVec % 64).toNat).getLsbD i = _
      rw [fd2 k hk, BitVec.getLsbD_ushiftRight]
    have e2 : (a >>> (((8 : Int32) * nI k).toInt64 &&& 63)).toBitVec.getLsbD i = a.toBitVec.getLsbD (8 * k + i) := by
      rw [Int64.toBitVec_shiftRight]
      show (a.toBitVec.sshiftRight ((((8 : Int32) * nI k).toInt64 &&& 63).toBitVec.smod 64).toNat).getLsbD i = _
      rw [fd1 k hk, BitVec.getLsbD_sshiftRight, if_pos (by omega)]
      simp
      intro h
      omega
    rw [e1, e2]
  · rw [decide_eq_false h8, Bool.and_false, Bool.and_false]
theorem fd_ok (a : Int64) {k : Nat} (hk : k < 8) : ∃ b, b ≤ 255 ∧ fd_b a k = nI b := by
  rw [← fd_eq a hk]
  obtain ⟨j, h1, h2⟩ := pk_andE ((a.toUInt64 >>> (((8 : Int32) * nI k).toInt64.toUInt64 &&& Int64.toUInt64 63)).toInt64.toInt32) (m := 255) 8 rfl
  exact ⟨j, by omega, h2⟩
theorem y_feed (a : Int64) (c : Int32) : Me (f11_feed a c) (f12_feed a c) := Me.mk fun m n L R W => by
  obtain ⟨l, hl, hm, hn, ht⟩ := R.2.t
  unfold f11_feed f12_feed
  rw [show (1 : Int64) = (1 : Int32).toInt64 from rfl, show (8 : Int64) = (8 : Int32).toInt64 from rfl, k_in, t_in32, p_bi, p_bi, p_if, p_if]
  cases h : p_in c.toInt (1 : Int32).toInt (8 : Int32).toInt
  · rw [if_neg p_ff, if_neg p_ff]
    exact ⟨_, _, _, rfl, rfl, R⟩
  obtain ⟨c, rfl, lc, hc⟩ := p_in_ex (lo := 1) (hi := 8) h (by omega)
  rw [if_pos rfl, if_pos rfl, hm, hn, nI_add, show (200 : Int32) = nI 200 from rfl, q_le (by omega) (by omega), q_le (by omega) (by omega)]
  by_cases hf : l + c ≤ 200
  · rw [if_pos hf, if_pos hf]
    obtain ⟨x, e1, hx, hx2⟩ := p_loopR (σ := Unit) (fun q i x => f11_feed_b33 (f11_feed_b75 a (nI c)) a (nI c) q i (p_rw m 84 x)) (fun x => f11_feed_b75 a (nI c) (p_rw m 84 x)) c (fun _ u => u) (fun i x _ => (∀ r, r < l → x r = m 84 r) ∧ ∀ t, t < i → x (l + t) = fd_b a t)
      (fun q x _ _ => by
        show f11_feed_b33B _ _ _ _ _ _ = _
        unfold f11_feed_b33B
        rw [if_pos (Int32.le_refl _)])
      (fun q i x _ hi hx => by
        refine ⟨upd x (l + i) (fd_b a i), ?_, fun r hr => ?_, fun t ht => ?_⟩
        · show f11_feed_b33B _ _ _ _ _ _ = _
          unfold f11_feed_b33B
          rw [q_le (by omega) (by omega), if_neg (by omega), p_rw_n (by omega), hm, nI_add, p_gd (by omega) (by omega), p_nm, nI_clamp (by omega), fd_eq a (by omega), p_stc, p_next]
        · rw [upd_ne (by omega)]; exact hx.1 r hr
        · by_cases e : t = i
          · subst e; exact p_us ..
          · rw [upd_ne (by omega)]; exact hx.2 t (by omega)) c 0 lu_fu (m 84) () (by omega) (p_fu (by omega)) ⟨fun _ _ => rfl, fun t ht => absurd ht (by omega)⟩
    rw [p_rw_id] at e1
    obtain ⟨⟨y, z⟩, e2, hy, hy2, hz, hz2⟩ := p_loopR (σ := Unit) (fun q i (w : (Nat → Int32) × (Nat → Int32)) => f12_feed_b32 (f12_feed_b75 a (nI c)) a (nI c) q i (p_rw (p_rw n 0 w.1) 11 w.2)) (fun w => f12_feed_b75 a (nI c) (p_rw (p_rw n 0 w.1) 11 w.2)) c (fun _ u => u) (fun i w _ => w.1 23 = nI (l + i) ∧ (∀ r, r ≠ 23 → w.1 r = n 0 r) ∧ (∀ r, r < l → w.2 r = n 11 r) ∧ ∀ t, t < i → w.2 (l + t) = fd_b a t)
      (fun q w _ _ => by
        show f12_feed_b32B _ _ _ _ _ _ = _
        unfold f12_feed_b32B
        rw [if_pos (Int32.le_refl _)])
      (fun q i w _ hi ⟨w1, w2, w3, w4⟩ => by
        obtain ⟨y, z⟩ := w
        refine ⟨(upd y 23 (nI (l + i + 1)), upd z (l + i) (fd_b a i)), ?_, ?_, fun r hr => ?_, fun r hr => ?_, fun t ht => ?_⟩
        · show f12_feed_b32B _ _ _ _ _ (p_rw (p_rw n 0 y) 11 z) = _
          have w1' : y 23 = nI (l + i) := w1
          have e0 : p_rw (p_rw n 0 y) 11 z 0 23 = nI (l + i) := by rw [p_rw_n (by omega), p_rw_s]; exact w1'
          have e3 : ∀ z', p_rw (p_rw n 0 y) 11 z' 0 23 = nI (l + i) := fun z' => by rw [p_rw_n (by omega), p_rw_s]; exact w1'
          unfold f12_feed_b32B
          rw [q_le (by omega) (by omega), if_neg (by omega), e0, p_gd (by omega) (by omega), p_nm, nI_clamp (by omega), p_stc, e3, p_next, p_nm, p_st2 (by omega), p_next]
          rfl
        · show upd y 23 (nI (l + i + 1)) 23 = nI (l + (i + 1))
          rw [p_us, Nat.add_assoc]
        · show upd y 23 _ r = _
          rw [upd_ne hr]; exact w2 r hr
        · show upd z (l + i) _ r = _
          rw [upd_ne (by omega)]; exact w3 r hr
        · show upd z (l + i) _ (l + t) = _
          by_cases e : t = i
          · subst e; exact p_us ..
          · rw [upd_ne (by omega)]; exact w4 t (by omega)) c 0 lu_fu (n 0, n 11) () (by omega) (p_fu (by omega)) ⟨hn, fun _ _ => rfl, fun _ _ => rfl, fun t ht => absurd ht (by omega)⟩
    have hn0 : p_rw (p_rw n 0 (n 0)) 11 (n 11) = n := by rw [p_rw_id, p_rw_id]
    have e2' : f12_feed_b32 (f12_feed_b75 a (nI c)) a (nI c) lu_fu 0 (p_rw (p_rw n 0 (n 0)) 11 (n 11)) = f12_feed_b75 a (nI c) (p_rw (p_rw n 0 y) 11 z) := e2
    rw [hn0] at e2'
    have hy' : y 23 = nI (l + c) := hy
    have hy2' : ∀ r, r ≠ 23 → y r = n 0 r := hy2
    have hz' : ∀ r, r < l → z r = n 11 r := hz
    have hz2' : ∀ t, t < c → z (l + t) = fd_b a t := hz2
    have hN0 : p_rw (p_rw n 0 y) 11 z 0 = y := by rw [p_rw_n (by omega), p_rw_s]
    have hNr : ∀ r, r ≠ 0 → r ≠ 11 → p_rw (p_rw n 0 y) 11 z r = n r := fun r h1 h2 => by rw [p_rw_n h2, p_rw_n h1]
    have hMr : ∀ r, r ≠ 83 → r ≠ 84 → lu_st (p_rw m 84 x) 83 1 (nI (l + c)) r = m r := fun r h1 h2 => by rw [lu_st_row h1, p_rw_n h2]
    refine ⟨nI (l + c), lu_st (p_rw m 84 x) 83 1 (nI (l + c)), p_rw (p_rw n 0 y) 11 z, ?_, ?_, ⟨L, ?_⟩, R.2.k.fr (by rw [hMr 0 (by omega) (by omega)]) (fun r h1 h2 => hMr r (by omega) (by omega)) (by rw [hN0]; exact hy2' 3 (by omega)) (hNr 2 (by omega) (by omega)), R.2.r.fr (by rw [hMr 0 (by omega) (by omega)]) (by rw [hN0]; exact hy2' 21 (by omega)) (fun r h1 h2 => hMr r (by omega) (by omega)) (hNr 10 (by omega) (by omega)), ⟨l + c, by omega, lu_st_self .., by rw [hN0]; exact hy', fun i hi => ?_⟩, R.2.h.fr (fun r h1 h2 => hMr r (by omega) (by omega)) (fun r h1 h2 => hNr r (by omega) (by omega)), R.2.f.fr (fun r h1 h2 => hMr r (by omega) (by omega)) (fun r h1 h2 => hNr r (by omega) (by omega)), R.2.n.fr (by rw [hN0]; exact hy2' 37 (by omega)) (hMr 114 (by omega) (by omega)) (hNr 18 (by omega) (by omega)), R.2.g.fr (fun k hk => by rw [hMr _ (by omega) (by omega)])⟩
    · refine e1.trans ?_
      unfold f11_feed_b75
      rw [p_rw_n (by omega), hm, nI_add, p_nm, lu_st_self]
    · refine e2'.trans ?_
      unfold f12_feed_b75
      rw [hN0, hy']
    · rw [hNr 1 (by omega) (by omega)]
      exact W.tr (fun r h1 h2 => hMr r (by omega) (by omega))
    · rw [lu_st_row (by omega), p_rw_s, p_rw_s]
      by_cases h1 : i < l
      · obtain ⟨q1, q2⟩ := ht i h1
        exact ⟨by rw [hx i h1, hz' i h1]; exact q1, s_ok_of (hz' i h1) q2⟩
      · obtain ⟨t, rfl⟩ : ∃ t, i = l + t := ⟨i - l, by omega⟩
        obtain ⟨b, hb, eb⟩ := fd_ok a (k := t) (by omega)
        exact ⟨by rw [hx2 t (by omega), hz2' t (by omega)], (s_okn (by rw [hz2' t (by omega)]; exact eb) (by omega) hb (by omega)).1⟩
  · rw [if_neg hf, if_neg hf]
    exact ⟨_, _, _, rfl, rfl, R⟩

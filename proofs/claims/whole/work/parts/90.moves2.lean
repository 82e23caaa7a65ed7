/-! a new hand takes an old one's place -/
abbrev lu_hE (kd u g w : Int32) (rr : Nat) : va_E := .inr (lu_hk kd, lu_hnew (lu_kd kd) u g w rr)
abbrev lu_pE (cA : ClassId) (N : Nat) (ρ : Nat → Nat) (r ix a : Nat) : va_E := .inl (cA, N, .inr (.inr (.inr (.inr (va_up (fun i => some (ρ (r + 1 + i))) ix (some a))))))
section LUM2
variable {β : Type} {T : lu_T} {G : lu_G} {Q : β → State → Prop} {o : Option β} {pc pc2 : Nat} {lv : List (Nat × Value)} {st : List Value} {ρ : Nat → Nat} {k n : Nat} {ex : va_W} {m : lu_M} {own : String} {cc : ByteArray} {nL fr lo : Nat}
theorem lu_aastP {D : va_G} {cs : Nat → ClassId} {H : Heap} {r N i0 a ix : Nat} {ex0 : va_W} {kd u g w : Int32} (hT : T.2 r = (1, N, i0)) (hr : r < T.1) (hN : r + 1 + N ≤ T.1) (h10 : ∀ p, p < N → ∃ x, T.2 (r + 1 + p) = (10, x)) (hits : ∀ p, p < N → ∀ k, k < T.1 → k ≠ r → lu_hits T k (r + 1 + p) = false) (h114 : ¬ (r + 1 ≤ 114 ∧ 114 < r + 1 + N)) (hix : ix < N) (A : Nat → Prop)
    (hP : va_P D lu_cl ((lu_W T cs ρ m ++ (ex0 ++ [(a, lu_hE kd u g w (ρ 114))])).set r (ρ r, lu_pE (cs 1) N ρ r ix a)) H) (hD : va_D A ((lu_W T cs ρ m ++ (ex0 ++ [(a, lu_hE kd u g w (ρ 114))])).set r (ρ r, lu_pE (cs 1) N ρ r ix a))) :
    ∃ ρ' : Nat → Nat, (∀ q, q ≠ r + 1 + ix → ρ' q = ρ q) ∧ va_P D lu_cl (lu_W T cs ρ' (lu_hm m (r + 1 + ix) (lu_kd kd) u g w) ++ (ex0 ++ [(ρ (r + 1 + ix), lu_cell T cs ρ m (r + 1 + ix))])) H ∧ va_D A (lu_W T cs ρ' (lu_hm m (r + 1 + ix) (lu_kd kd) u g w) ++ (ex0 ++ [(ρ (r + 1 + ix), lu_cell T cs ρ m (r + 1 + ix))])) := by
  refine ⟨fun q => if q = r + 1 + ix then a else ρ q, fun q hq => if_neg hq, ?_⟩
  generalize hw2 : (lu_W T cs ρ m ++ (ex0 ++ [(a, lu_hE kd u g w (ρ 114))])).set r (ρ r, lu_pE (cs 1) N ρ r ix a) = w2 at hP hD
  generalize hρ : (fun q => if q = r + 1 + ix then a else ρ q) = ρ'
  have e1 : ρ' (r + 1 + ix) = a := by rw [← hρ]; exact if_pos rfl
  have e2 : ∀ q, q ≠ r + 1 + ix → ρ' q = ρ q := fun q hq => by rw [← hρ]; exact if_neg hq
  generalize hm : lu_hm m (r + 1 + ix) (lu_kd kd) u g w = m'
  have e3 : m' (r + 1 + ix) = lu_hv (lu_kd kd) u g w := by rw [← hm]; exact lu_hm_at ..
  have e4 : ∀ q, q ≠ r + 1 + ix → m' q = m q := fun q hq => by rw [← hm]; exact lu_hm_ne hq
  generalize hz : T.1 + ex0.length = z
  have hlen : (lu_W T cs ρ' m' ++ (ex0 ++ [(ρ (r + 1 + ix), lu_cell T cs ρ m (r + 1 + ix))])).length = z + 1 := by
    rw [List.length_append, List.length_append, lu_W_len, List.length_singleton]
    omega
  have w2at : ∀ q, q ≠ r → w2[q]? = (lu_W T cs ρ m ++ (ex0 ++ [(a, lu_hE kd u g w (ρ 114))]))[q]? := fun q hq => by
    rw [← hw2, List.getElem?_set_ne (Ne.symm hq)]
  have w2r : w2[r]? = some (ρ r, lu_pE (cs 1) N ρ r ix a) := by
    rw [← hw2, List.getElem?_set_self (by rw [List.length_append, lu_W_len]; omega)]
  have key := lu_perm (D := D) (cl := lu_cl) (w := w2) (w' := lu_W T cs ρ' m' ++ (ex0 ++ [(ρ (r + 1 + ix), lu_cell T cs ρ m (r + 1 + ix))])) (H := H) (fun q => if q = r + 1 + ix then z else if q = z then r + 1 + ix else q) (fun i j hi hj h => by
    rw [hlen] at hi hj
    split at h <;> split at h <;> (try split at h) <;> (try split at h) <;> omega) (fun q x hx => by
    have hq := (List.getElem?_eq_some_iff.mp hx).1
    rw [hlen] at hq
    by_cases h1 : q = r + 1 + ix
    · subst h1
      rw [if_pos rfl]
      rw [List.getElem?_append_left (by rw [lu_W_len]; omega), lu_W_at (by omega)] at hx
      have hx := Option.some.inj hx
      subst hx
      refine ⟨(a, lu_hE kd u g w (ρ 114)), ?_, e1.symm, fun hat => ?_⟩
      · rw [w2at z (by omega), List.getElem?_append_right (by rw [lu_W_len]; omega), lu_W_len, List.getElem?_append_right (by omega), show z - T.1 - ex0.length = 0 by omega]
        rfl
      · obtain ⟨x, hTx⟩ := h10 ix hix
        rw [lu_cell_obj hTx (by omega), e1, e3]
        have e5 : lu_ci 10 (lu_hv (lu_kd kd) u g w 0) = lu_hk kd := lu_hk_kd kd
        rw [e5]
        have e6 : lu_fs ρ' m' (r + 1 + ix) (lu_F 10) 0 = lu_hnew (lu_kd kd) u g w (ρ 114) := by
          show [Value.int (m' (r + 1 + ix) 0), .int (m' (r + 1 + ix) 1), .int (m' (r + 1 + ix) 2), .int (m' (r + 1 + ix) 3), .int (m' (r + 1 + ix) 4), .ref (ρ' 114)] = _
          rw [e3, e2 114 (by omega)]
          rfl
        rw [e6]
        exact hat
    rw [if_neg h1]
    by_cases h2 : q = z
    · subst h2
      rw [if_pos rfl]
      rw [List.getElem?_append_right (by rw [lu_W_len]; omega), lu_W_len, List.getElem?_append_right (by omega), show q - T.1 - ex0.length = 0 by omega] at hx
      have hx := Option.some.inj hx
      subst hx
      refine ⟨(ρ (r + 1 + ix), lu_cell T cs ρ m (r + 1 + ix)), ?_, rfl, id⟩
      rw [w2at _ (by omega), List.getElem?_append_left (by rw [lu_W_len]; omega), lu_W_at (by omega)]
    rw [if_neg h2]
    by_cases h3 : q = r
    · subst h3
      rw [List.getElem?_append_left (by rw [lu_W_len]; omega), lu_W_at hr] at hx
      have hx := Option.some.inj hx
      subst hx
      refine ⟨_, w2r, (e2 q (by omega)).symm, fun hat => ?_⟩
      rw [lu_cell_ref hT (by omega) (by omega), e2 q (by omega)]
      refine lu_at_arr (fun i hi => ?_) hat
      by_cases h4 : i = ix
      · subst h4
        rw [e1]
        simp [va_up]
      · rw [e2 _ (by omega)]
        simp [va_up, h4]
    rw [w2at q h3]
    by_cases h4 : q < T.1
    · rw [List.getElem?_append_left (by rw [lu_W_len]; omega), lu_W_at h4] at hx
      have hx := Option.some.inj hx
      subst hx
      refine ⟨(ρ q, lu_cell T cs ρ m q), ?_, (e2 q h1).symm, fun hat => ?_⟩
      · rw [List.getElem?_append_left (by rw [lu_W_len]; omega), lu_W_at h4]
      · rw [e2 q h1]
        refine lu_at_move (e4 q h1) (fun j hj => e2 j (fun e => ?_)) hat
        rw [e, hits ix hix q h4 h3] at hj
        cases hj
    · rw [List.getElem?_append_right (by rw [lu_W_len]; omega), lu_W_len, List.getElem?_append_left (by omega)] at hx
      refine ⟨x, ?_, rfl, id⟩
      rw [List.getElem?_append_right (by rw [lu_W_len]; omega), lu_W_len, List.getElem?_append_left (by omega), hx])
  exact ⟨key.1 hP, key.2 A hD⟩
theorem lu_cast_ok {G : lu_G} {own : String} {cc : ByteArray} {nL fr lo : Nat} (X : lu_X G own cc nL fr lo) (kd : Int32) : ∃ q, lu_cl[lu_hk kd]? = some q ∧ va_Nw (.castable q.1 RX3) (lu_s G) ∨ lu_cl[lu_hk kd]? = some q ∧ q.1 = RX3 := by
  unfold lu_hk
  by_cases h1 : kd = 1
  · exact ⟨(RX0, TX0, 6), Or.inl ⟨by rw [if_pos h1]; rfl, X.hN.2.1 (RX0, RX3) (by decide)⟩⟩
  rw [if_neg h1]
  by_cases h2 : kd = 2
  · exact ⟨(RX2, TX2, 6), Or.inl ⟨by rw [if_pos h2]; rfl, X.hN.2.1 (RX2, RX3) (by decide)⟩⟩
  rw [if_neg h2]
  by_cases h3 : kd = 3
  · exact ⟨(RX9, TX9, 6), Or.inl ⟨by rw [if_pos h3]; rfl, X.hN.2.1 (RX9, RX3) (by decide)⟩⟩
  rw [if_neg h3]
  by_cases h4 : kd = 4
  · exact ⟨(RX7, TX7, 6), Or.inl ⟨by rw [if_pos h4]; rfl, X.hN.2.1 (RX7, RX3) (by decide)⟩⟩
  rw [if_neg h4]
  by_cases h5 : kd = 5
  · exact ⟨(RX4, TX4, 6), Or.inl ⟨by rw [if_pos h5]; rfl, X.hN.2.1 (RX4, RX3) (by decide)⟩⟩
  · exact ⟨(RX3, TX3, 6), Or.inr ⟨by rw [if_neg h5]; rfl, rfl⟩⟩
theorem lu_aast (X : lu_X G own cc nL fr lo) {r N i0 a : Nat} {ex0 : va_W} {kd u g w i : Int32} (hT : T.2 r = (1, N, i0)) (hr : r < T.1) (hN : r + 1 + N ≤ T.1) (h10 : ∀ p, p < N → ∃ x, T.2 (r + 1 + p) = (10, x)) (hits : ∀ p, p < N → ∀ k, k < T.1 → k ≠ r → lu_hits T k (r + 1 + p) = false) (h114 : ¬ (r + 1 ≤ 114 ∧ 114 < r + 1 + N)) (d : decode cc pc = .ok (.aastore, 1)) (hp : pc + 1 = pc2) (hex : ex = ex0 ++ [(a, lu_hE kd u g w (ρ 114))])
    (kk : ∀ ρ' : Nat → Nat, (∀ q, q ≠ r + 1 + i.toNatClampNeg → ρ' q = ρ q) → lu_ib i N = true → lu_Ab T G Q o pc2 lv st ρ' k n (ex0 ++ [(ρ (r + 1 + i.toNatClampNeg), lu_cell T (lu_cs G) ρ m (r + 1 + i.toNatClampNeg))]) (lu_hm m (r + 1 + i.toNatClampNeg) (lu_kd kd) u g w)) : lu_Ab T G Q (lu_gd (lu_ib i N) o) pc lv (.ref a :: .int i :: .ref (ρ r) :: st) ρ k n ex m := by
  subst hp
  subst hex
  refine lu_gdr (fun gi => ?_)
  intro b hb H locs ls hl hP hD hS
  have he := lu_W_at2 (T := T) (cs := lu_cs G) (ρ := ρ) (m := m) (ex := ex0 ++ [(a, lu_hE kd u g w (ρ 114))]) hr
  rw [lu_cell_ref hT (by omega) (by omega)] at he
  have hv : (lu_W T (lu_cs G) ρ m ++ (ex0 ++ [(a, lu_hE kd u g w (ρ 114))]))[T.1 + ex0.length]? = some (a, lu_hE kd u g w (ρ 114)) := by
    rw [List.getElem?_append_right (by rw [lu_W_len]; omega), lu_W_len, List.getElem?_append_right (by omega), show T.1 + ex0.length - T.1 - ex0.length = 0 by omega]
    rfl
  have fin : ∀ (H1 : Heap) (locs1 : List Loc), va_P (lu_D G) lu_cl ((lu_W T (lu_cs G) ρ m ++ (ex0 ++ [(a, lu_hE kd u g w (ρ 114))])).set r (ρ r, lu_pE (lu_cs G 1) N ρ r i.toNatClampNeg a)) H1 → va_D (lu_A G) ((lu_W T (lu_cs G) ρ m ++ (ex0 ++ [(a, lu_hE kd u g w (ρ 114))])).set r (ρ r, lu_pE (lu_cs G 1) N ρ r i.toNatClampNeg a)) → va_S (lu_A G) (lu_s G).heap H1 locs1 → W (lu_p G) (lu_l G) (lu_e G) (lu_R G) (lu_s G) (lu_m G) (lu_a G) (lu_b G) (lu_me G) (lu_c G) H1 locs1 k n (Q b) (F0 (lu_m G) (pc + 1) ls st) := by
    intro H1 locs1 hP hD hS
    obtain ⟨ρ', h1, h2, h3⟩ := lu_aastP hT hr hN h10 hits h114 (lu_ib_lt gi) _ hP hD
    exact kk ρ' h1 gi b hb H1 locs1 ls hl h2 h3 hS
  obtain ⟨q, ⟨hc, hca⟩ | ⟨hc, hq⟩⟩ := lu_cast_ok X kd
  · exact va_astqO X.hx X.hb X.hK hP hD hS r 1 (T.1 + ex0.length) (lu_hk kd) he rfl hca hv hc (lu_ib_in gi) d fin
  · exact va_astq X.hx X.hb X.hK hP hD hS r 1 (T.1 + ex0.length) (lu_hk kd) he (by rw [hq]; rfl) hv hc (lu_ib_in gi) d fin
end LUM2

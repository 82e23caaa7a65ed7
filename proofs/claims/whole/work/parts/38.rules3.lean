/-! THE PURE PART: a rule's condition in the reference; the rules as a list -/
theorem g_push {n : lu_M} (I : SI (n 1)) {e p : Nat} (hp : p < 6) (he2 : e ≤ 200) (a1 : Int32) (K : Int32 → lu_M → Option (Int32 × lu_M)) {i q d a : Nat} (t : Nat → Int32) (hi : i < e) (hd : d < 200) (ha : a < 10005) (hs : n 1 (168 + i) = e_o a) : f12_isSo_b6 K a1 (nI e) (nI p) (q + 1) (nI d) (nI i) (p_rw n 4 t) = f12_isSo_b6 K a1 (nI e) (nI p) q (nI (d + 1)) (nI (i + 1)) (p_rw n 4 (upd t d (o_v (fv (n 1) p) a))) := by
  have h1 : (p_rw n 4 t) 1 = n 1 := p_rw_n (by omega)
  have I' : SI ((p_rw n 4 t) 1) := by rw [h1]; exact I
  show f12_isSo_b6B _ _ _ _ _ _ _ _ = _
  unfold f12_isSo_b6B f12_isSo_b123
  rw [q_le (by omega) (by omega), if_neg (by omega), show (168 : Int32) = nI 168 from rfl, nI_add, p_gd (by omega) (by omega), nI_clamp (by omega), h1, hs, p_nm, if_neg (e_o_gt ha), t_fact I' hp ha, p_bi, p_gd (by omega) (by omega), nI_clamp (by omega), p_nm, p_stc, p_next, p_next, h1]
theorem g_run {n : lu_M} (I : SI (n 1)) {e p : Nat} (hp : p < 6) (he2 : e ≤ 200) (a1 : Int32) (K : Int32 → lu_M → Option (Int32 × lu_M)) : ∀ (l : List Tk) (i q : Nat) (t : Nat → Int32) (st : List Bool) (h : Nat), seg (n 1) (168 + i) (e_Ms l) → i + (e_Ms l).length = e → (e_Ms l).length < q → o_hs l st.length = some h → st.length ≤ 12 → RS t st → (∀ t ∈ l, o_ok t) → ∃ t', f12_isSo_b6 K a1 (nI e) (nI p) q (nI st.length) (nI i) (p_rw n 4 t) = K (nI (o_run (fv (n 1) p) l st).length) (p_rw n 4 t') ∧ RS t' (o_run (fv (n 1) p) l st)
  | [], i, q, t, st, h, hs, hi, hn, hh, hl, hT, ho => by
    have hl0 : (e_Ms []).length = 0 := rfl
    obtain ⟨q, rfl⟩ : ∃ r, q = r + 1 := ⟨q - 1, by omega⟩
    have hi' : i = e := by omega
    subst hi'
    refine ⟨t, ?_, hT⟩
    show f12_isSo_b6B _ _ _ _ _ _ _ _ = _
    unfold f12_isSo_b6B
    rw [if_pos (Int32.le_refl _)]
    rfl
  | x :: l, i, q, t, st, h, hs, hi, hn, hh, hl, hT, ho => by
    have hto := ho x (List.mem_cons_self ..)
    have hlen : (e_Ms (x :: l)).length = (e_M x).length + (e_Ms l).length := List.length_append ..
    obtain ⟨hs1, hs2⟩ := (seg_app (n 1) (e_M x) (e_Ms l) (168 + i)).mp hs
    cases hh1 : o_h x st.length with
    | none =>
      have : o_hs (x :: l) st.length = (o_h x st.length).bind (o_hs l) := rfl
      rw [this, hh1] at hh
      cases hh
    | some h1 =>
    have hh2 : o_hs l h1 = some h := by
      have : o_hs (x :: l) st.length = (o_h x st.length).bind (o_hs l) := rfl
      rw [this, hh1] at hh
      exact hh
    have hl1 := o_1_len (fv (n 1) p) x st hh1
    have hh12 : h1 ≤ 12 := by
      unfold o_h at hh1
      split at hh1
      · split at hh1
        · injection hh1 with hh1; omega
        · cases hh1
      · split at hh1
        · split at hh1
          · injection hh1 with hh1; omega
          · cases hh1
        · split at hh1
          · injection hh1 with hh1; omega
          · cases hh1
    obtain ⟨q, rfl⟩ : ∃ r, q = r + (e_M x).length := ⟨q - (e_M x).length, by omega⟩
    suffices hst : ∃ t', f12_isSo_b6 K a1 (nI e) (nI p) (q + (e_M x).length) (nI st.length) (nI i) (p_rw n 4 t) = f12_isSo_b6 K a1 (nI e) (nI p) q (nI (o_1 (fv (n 1) p) x st).length) (nI (i + (e_M x).length)) (p_rw n 4 t') ∧ RS t' (o_1 (fv (n 1) p) x st) by
      obtain ⟨t', e1, hT'⟩ := hst
      obtain ⟨t2, e2, h2⟩ := g_run I hp he2 a1 K l (i + (e_M x).length) q t' (o_1 (fv (n 1) p) x st) h (by rw [← Nat.add_assoc]; exact hs2) (by omega) (by omega) (by rw [hl1]; exact hh2) (by omega) hT' (fun a ha => ho a (List.mem_cons_of_mem _ ha))
      exact ⟨t2, by rw [e1]; exact e2, h2⟩
    rw [hl1]
    have hr1 : ∀ t, (p_rw n 4 t) 1 = n 1 := fun t => p_rw_n (by omega)
    have hr4 : ∀ t, (p_rw n 4 t) 4 = t := fun t => p_rw_s ..
    unfold o_h at hh1
    unfold o_1
    by_cases h0 : x.1 = 0
    · rw [if_pos h0] at hh1
      rw [if_pos h0]
      obtain ⟨hg1, hg2, ha, hb⟩ := hto.2 h0
      have eM : e_M x = [e_o x.2.2.1, e_o x.2.2.2, if x.2.1 = 1 then -11 else if x.2.1 = 2 then -12 else -13] := if_pos h0
      rw [eM] at hs1 hlen ⊢
      have hl3 : ∀ a b c : Int32, [a, b, c].length = 3 := fun _ _ _ => rfl
      rw [hl3] at hlen ⊢
      obtain ⟨s1, s2, s3, -⟩ := hs1
      have hst : st.length < 12 ∧ h1 = st.length + 1 := by
        split at hh1
        · injection hh1 with hh1; omega
        · cases hh1
      have hx3 : ∀ g : Nat, (if g = 1 then (-11 : Int32) else if g = 2 then -12 else -13) ≤ (-10 : Int32) ∧ ¬ (if g = 1 then (-11 : Int32) else if g = 2 then -12 else -13) = -20 := fun g => by
        split
        · decide
        · split <;> decide
      rw [show q + 3 = (q + 1 + 1) + 1 by omega, g_push I hp he2 a1 K t (by omega) (by omega) ha s1, g_push I hp he2 a1 K _ (by omega) (by omega) hb (by rw [← s2]; rfl)]
      refine ⟨upd (upd (upd t st.length (o_v (fv (n 1) p) x.2.2.1)) (st.length + 1) (o_v (fv (n 1) p) x.2.2.2)) st.length (p_b (o_c (fv (n 1) p) x)), ?_, p_us .., RS_upd _ (by omega) (RS_upd _ (by omega) (RS_upd _ (by omega) hT))⟩
      show f12_isSo_b6B _ _ _ _ _ _ _ _ = _
      unfold f12_isSo_b6B f12_isSo_b122 f12_isSo_b123
      rw [q_le (by omega) (by omega), if_neg (by omega), show (168 : Int32) = nI 168 from rfl, nI_add, p_gd (by omega) (by omega), nI_clamp (by omega), hr1, show 168 + (i + 1 + 1) = 168 + i + 1 + 1 by omega, s3, p_nm, if_pos (hx3 _).1, if_neg (hx3 _).2, pk_m1, nI_pred, p_gd (by omega) (by omega), p_gd (by omega) (by omega), nI_clamp (by omega), nI_clamp (by omega), hr4, p_us, upd_ne (by omega), p_us, t_holdN _ _ _ _ ⟨hg1, hg2⟩, p_bi, p_if, p_gd (by omega) (by omega), p_nm, p_stc, p_next, p_gd (by omega) (by omega), p_nm, p_stc, hst.2]
      have : (if x.2.1 = 1 then decide (¬ o_v (fv (n 1) p) x.2.2.2 ≤ o_v (fv (n 1) p) x.2.2.1) else if x.2.1 = 2 then decide (o_v (fv (n 1) p) x.2.2.1 = o_v (fv (n 1) p) x.2.2.2) else decide (¬ o_v (fv (n 1) p) x.2.2.1 ≤ o_v (fv (n 1) p) x.2.2.2)) = o_c (fv (n 1) p) x := rfl
      rw [this]
      cases o_c (fv (n 1) p) x <;> rfl
    rw [if_neg h0] at hh1
    rw [if_neg h0]
    by_cases h1' : x.1 = 1
    · rw [if_pos h1'] at hh1
      rw [if_pos h1']
      have eM : e_M x = [-20] := by unfold e_M; rw [if_neg h0, if_pos h1']
      rw [eM] at hs1 hlen ⊢
      have hl3 : ∀ a : Int32, [a].length = 1 := fun _ => rfl
      rw [hl3] at hlen ⊢
      have s1 : n 1 (168 + i) = -20 := hs1.1
      have hst : 1 ≤ st.length ∧ h1 = st.length := by
        split at hh1
        · injection hh1 with hh1; omega
        · cases hh1
      obtain ⟨d, hd⟩ : ∃ d, st.length = d + 1 := ⟨st.length - 1, by omega⟩
      have hc := o_cons hst.1
      have hd2 : st.tail.length = d := by rw [List.length_tail]; omega
      have htop : t d = p_b (o_top st) ∧ RS t st.tail := by
        rw [hc] at hT
        rw [← hd2]
        exact hT
      refine ⟨upd t d (p_b (!o_top st)), ?_, ?_⟩
      · show f12_isSo_b6B _ _ _ _ _ _ _ _ = _
        unfold f12_isSo_b6B f12_isSo_b123
        rw [q_le (by omega) (by omega), if_neg (by omega), show (168 : Int32) = nI 168 from rfl, nI_add, p_gd (by omega) (by omega), nI_clamp (by omega), hr1, s1, p_nm, if_pos (by decide), if_pos rfl, hd, nI_pred, p_gd (by omega) (by omega), p_gd (by omega) (by omega), nI_clamp (by omega), hr4, p_nm, p_stc, p_next, hst.2, hd, htop.1]
        cases o_top st <;> rfl
      · refine ⟨?_, RS_upd _ (by omega) htop.2⟩
        rw [hd2, p_us]
    rw [if_neg h1'] at hh1
    rw [if_neg h1']
    have hst : 2 ≤ st.length ∧ h1 = st.length - 1 := by
      split at hh1
      · injection hh1 with hh1; omega
      · cases hh1
    obtain ⟨d, hd⟩ : ∃ d, st.length = d + 1 + 1 := ⟨st.length - 2, by omega⟩
    have hc : st = o_top st :: o_top st.tail :: st.tail.tail := by
      have e1 := o_cons (st := st) (by omega)
      have e2 := o_cons (st := st.tail) (by rw [List.length_tail]; omega)
      rw [← e2]
      exact e1
    have hd2 : st.tail.tail.length = d := by rw [List.length_tail, List.length_tail]; omega
    have htop : t (d + 1) = p_b (o_top st) ∧ t d = p_b (o_top st.tail) ∧ RS t st.tail.tail := by
      rw [hc] at hT
      rw [← hd2]
      exact hT
    have go : ∀ (code : Int32) (v : Bool), n 1 (168 + i) = code → code ≤ (-10 : Int32) → ¬ code = -20 → (∀ m, f12_isHolding code (p_b (o_top st.tail)) (p_b (o_top st)) m = some (p_b v, m)) → ∃ t', f12_isSo_b6 K a1 (nI e) (nI p) (q + 1) (nI st.length) (nI i) (p_rw n 4 t) = f12_isSo_b6 K a1 (nI e) (nI p) q (nI h1) (nI (i + 1)) (p_rw n 4 t') ∧ RS t' (v :: st.tail.tail) := by
      intro code v s1 c1 c2 hv
      have hie : i < e := by
        have : 1 ≤ (e_M x).length := by
          unfold e_M
          rw [if_neg h0, if_neg h1']
          split <;> decide
        omega
      refine ⟨upd t d (p_b v), ?_, ?_, RS_upd _ (by omega) htop.2.2⟩
      · show f12_isSo_b6B _ _ _ _ _ _ _ _ = _
        unfold f12_isSo_b6B f12_isSo_b122 f12_isSo_b123
        rw [q_le (by omega) (by omega), if_neg (by omega), show (168 : Int32) = nI 168 from rfl, nI_add, p_gd (by omega) (by omega), nI_clamp (by omega), hr1, s1, p_nm, if_pos c1, if_neg c2, hd, pk_m1, nI_pred, p_gd (by omega) (by omega), p_gd (by omega) (by omega), nI_clamp (by omega), nI_clamp (by omega), hr4, htop.1, htop.2.1, hv, p_bi, p_if, p_gd (by omega) (by omega), p_nm, p_stc, p_next, p_gd (by omega) (by omega), p_nm, p_stc, hst.2, hd, show d + 1 + 1 - 1 = d + 1 by omega]
        cases v <;> rfl
      · rw [hd2, p_us]
    by_cases h2' : x.1 = 2
    · rw [if_pos h2']
      have eM : e_M x = [-21] := by unfold e_M; rw [if_neg h0, if_neg h1', if_pos h2']
      rw [eM] at hs1 ⊢
      exact go (-21) _ hs1.1 (by decide) (by decide) (fun m => t_holdA _ _ m)
    · rw [if_neg h2']
      have eM : e_M x = [-22] := by unfold e_M; rw [if_neg h0, if_neg h1', if_neg h2']
      rw [eM] at hs1 ⊢
      exact go (-22) _ hs1.1 (by decide) (by decide) (fun m => t_holdO _ _ m)
theorem t_isSo {n : lu_M} (I : SI (n 1)) {b p : Nat} {l : List Tk} (hp : p < 6) (he2 : b + (e_Ms l).length ≤ 200) (hs : seg (n 1) (168 + b) (e_Ms l)) (hh : l = [] ∨ o_hs l 0 = some 1) (ho : ∀ t ∈ l, o_ok t) (t : Nat → Int32) : ∃ t', f12_isSo (nI b) (nI (b + (e_Ms l).length)) (nI p) (p_rw n 4 t) = some (p_b (o_top (o_run (fv (n 1) p) l [])), p_rw n 4 t') := by
  have hh' : ∃ h, o_hs l 0 = some h ∧ (l = [] ∨ h = 1) := by
    rcases hh with h | h
    · subst h; exact ⟨0, rfl, Or.inl rfl⟩
    · exact ⟨1, h, Or.inr rfl⟩
  obtain ⟨h, hh1, hh2⟩ := hh'
  obtain ⟨t', e, hT⟩ := g_run I hp he2 (nI b) (f12_isSo_b129 (nI b) (nI (b + (e_Ms l).length)) (nI p)) l b lu_fu t [] h hs rfl (p_fu (by omega)) hh1 (by decide) trivial ho
  have hlen : ∀ (l : List Tk) (st : List Bool) (h : Nat), o_hs l st.length = some h → (o_run (fv (n 1) p) l st).length = h := by
    intro l
    induction l with
    | nil => intro st h e; injection e
    | cons x l ih =>
      intro st h e
      have e' : (o_h x st.length).bind (o_hs l) = some h := e
      cases hx : o_h x st.length with
      | none => rw [hx] at e'; cases e'
      | some g =>
        rw [hx] at e'
        have := o_1_len (fv (n 1) p) x st hx
        exact ih _ h (by rw [this]; exact e')
  have hl := hlen l [] h hh1
  refine ⟨t', ?_⟩
  unfold f12_isSo
  refine e.trans ?_
  rw [hl]
  unfold f12_isSo_b129 f12_isSo_b144 f12_isSo_b149
  rcases hh2 with q | q
  · subst q
    injection hh1 with hh1
    subst hh1
    rfl
  · subst q
    rw [if_neg (p_ne0 (by omega) (by omega)), p_rw_s]
    cases hr : o_run (fv (n 1) p) l [] with
    | nil => rw [hr] at hl; cases hl
    | cons b r =>
      rw [hr] at hl hT
      have hr0 : r = [] := List.eq_nil_of_length_eq_zero (by have : (b :: r).length = r.length + 1 := rfl; omega)
      subst hr0
      have : t' 0 = p_b b := hT.1
      rw [this, p_if1]
      cases b <;> rfl

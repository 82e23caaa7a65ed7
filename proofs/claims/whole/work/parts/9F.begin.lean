/-! THE START: what was made is the world in its places -/

def lu_ce (e e' : va_E) : Prop := ∀ (D : va_G) (a : Nat) (H : Heap), va_at D lu_cl (a, e) H → va_at D lu_cl (a, e') H
theorem lu_ce.of {e e' : va_E} (h : e = e') : lu_ce e e' := fun _ _ _ hv => h ▸ hv
theorem lu_ce.q {cA : ClassId} {n : Nat} {f f' : Nat → Option Nat} (h : ∀ i, i < n → f' i = f i) : lu_ce (.inl (cA, n, .inr (.inr (.inr (.inr f))))) (.inl (cA, n, .inr (.inr (.inr (.inr f'))))) := fun _ _ _ hv => lu_at_arr h hv
theorem lu_ce.i {cA : ClassId} {n : Nat} {f f' : Nat → Int32} (h : ∀ i, i < n → f' i = f i) : lu_ce (.inl (cA, n, .inl f)) (.inl (cA, n, .inl f')) := fun D a H hv => by
  have hv : H[a]? = some (vp_cell cA (n, .inl f)) := hv
  show H[a]? = some (vp_cell cA (n, .inl f'))
  rw [hv, vp_cell_i, vp_cell_i]
  exact congrArg some (lu_arrV fun i hi => by rw [h i hi])
/-- a run of cells is what the world has from place b on -/
def lu_blk (T : lu_T) (cs ρ : Nat → Nat) (m : lu_M) : Nat → va_W → Prop
  | _, [] => True
  | b, q :: l => q.1 = ρ b ∧ lu_ce q.2 (lu_cell T cs ρ m b) ∧ lu_blk T cs ρ m (b + 1) l
theorem lu_blk.app {T : lu_T} {cs ρ : Nat → Nat} {m : lu_M} : ∀ {l l' : va_W} {b b' : Nat}, lu_blk T cs ρ m b l → lu_blk T cs ρ m b' l' → b' = b + l.length → lu_blk T cs ρ m b (l ++ l')
  | [], l', b, b', _, h', e => by
    have e : b' = b := e
    subst e
    exact h'
  | q :: l, l', b, b', h, h', e => ⟨h.1, h.2.1, lu_blk.app h.2.2 h' (by rw [e, List.length_cons]; omega)⟩
theorem lu_blk.at {T : lu_T} {cs ρ : Nat → Nat} {m : lu_M} : ∀ {l : va_W} {b k : Nat} {q : Nat × va_E}, lu_blk T cs ρ m b l → l[k]? = some q → q.1 = ρ (b + k) ∧ lu_ce q.2 (lu_cell T cs ρ m (b + k))
  | [], _, _, _, _, h => by simp at h
  | x :: l, b, 0, q, h, hk => by
    have hk : some x = some q := hk
    cases hk
    exact ⟨h.1, h.2.1⟩
  | x :: l, b, k + 1, q, h, hk => by
    have e := lu_blk.at (k := k) h.2.2 hk
    rw [show b + (k + 1) = b + 1 + k by omega]
    exact e
theorem lu_blk.W {T : lu_T} {cs ρ : Nat → Nat} {m : lu_M} {ws : va_W} (h : lu_blk T cs ρ m 0 ws) (hl : ws.length = T.1) : (∀ (D : va_G) (H : Heap), va_P D lu_cl ws H → va_P D lu_cl (lu_W T cs ρ m) H) ∧ ∀ A : Nat → Prop, va_D A ws → va_D A (lu_W T cs ρ m) := by
  have key := fun (D : va_G) (H : Heap) => lu_perm (D := D) (cl := lu_cl) (w := ws) (w' := lu_W T cs ρ m) (H := H) (fun k => k) (fun i j _ _ e => e) (fun k q hk => by
    have hk1 := (List.getElem?_eq_some_iff.mp hk).1
    rw [lu_W_len] at hk1
    rw [lu_W_at hk1] at hk
    cases hk
    have hk2 : k < ws.length := by omega
    obtain ⟨g1, g2⟩ := lu_blk.at h (List.getElem?_eq_getElem hk2)
    rw [Nat.zero_add] at g1 g2
    exact ⟨ws[k], List.getElem?_eq_getElem hk2, g1, fun hv => by
      have hv : va_at D lu_cl ((ws[k]).1, (ws[k]).2) H := hv
      rw [g1] at hv
      exact g2 D _ H hv⟩)
  exact ⟨fun D H => (key D H).1, fun A => (key (fun _ => 0, fun _ _ => 0) #[]).2 A⟩
theorem lu_rot {D : va_G} {x y : Nat × va_E} {R : va_W} : (∀ H : Heap, va_P D lu_cl (x :: y :: R) H → va_P D lu_cl (x :: (R ++ [y])) H) ∧ ∀ A : Nat → Prop, va_D A (x :: y :: R) → va_D A (x :: (R ++ [y])) := by
  have key := fun (H : Heap) => lu_perm (D := D) (cl := lu_cl) (w := x :: y :: R) (w' := x :: (R ++ [y])) (H := H) (fun k => if k = 0 then 0 else if k = R.length + 1 then 1 else k + 1) (fun i j hi hj e => by
    simp only [List.length_cons, List.length_append, List.length_nil] at hi hj
    split at e <;> split at e <;> (try split at e) <;> (try split at e) <;> omega) (fun k q hk => by
    have hk1 := (List.getElem?_eq_some_iff.mp hk).1
    simp only [List.length_cons, List.length_append, List.length_nil] at hk1
    refine ⟨q, ?_, rfl, id⟩
    rcases k with - | k
    · exact hk
    · have hk : (R ++ [y])[k]? = some q := hk
      rw [if_neg (Nat.succ_ne_zero _)]
      by_cases h2 : k = R.length
      · subst h2
        rw [if_pos rfl]
        rw [List.getElem?_append_right (Nat.le_refl _), Nat.sub_self] at hk
        exact hk
      · rw [if_neg (by omega)]
        rw [List.getElem?_append_left (by omega)] at hk
        exact hk)
  exact ⟨fun H => (key H).1, fun A => (key #[]).2 A⟩
/-- the class's memory at the start -/
def lu_m0 : lu_M := fun r k =>
  if r = 1 ∨ r = 37 then (if k = 9 then 12 else if k = 10 then 1 else 0)
  else if 3 ≤ r ∧ r ≤ 8 then lu_hv 0 (nI (r - 3)) 1 1 k
  else if 39 ≤ r ∧ r ≤ 44 then lu_hv 0 (nI (r - 39)) 1 1 k
  else if 92 ≤ r ∧ r ≤ 97 then lu_hv (nI (r - 92)) 0 1 1 k
  else if r = 104 then -1
  else if r = 111 then 2
  else 0
/-- the reference's memory at the start -/
def lu_n0 : lu_M := fun r k => if r = 1 then (if k = 7 then 1 else if k = 2 then 12 else 0) else if r = 12 then -1 else 0
def lu_wA (h0 pe co ru fa : Nat) (k a t r : Nat → Nat) : Nat → Nat := fun j => if j = 0 then h0 else if j = 1 then pe else if j < 8 then k (j - 2) else if j < 14 then a (j - 8) else if j < 21 then t 0 + (j - 14) else if j < 28 then t 1 + (j - 21) else if j = 28 then co else if j = 29 then ru else if j < 35 then r (j - 30) else fa
def lu_pA (h0 ln ac fi : Nat) (k : Nat → Nat) : Nat → Nat := fun j => if j = 0 then h0 else if j = 1 then ln else if j < 7 then k (j - 2) else if j = 7 then ac else fi
def lu_tA (h0 tp dr : Nat) (r : Nat → Nat) : Nat → Nat := fun j => if j = 0 then h0 else if j = 1 then tp else if j = 2 then dr else r (j - 3)

set_option maxHeartbeats 4000000 in
theorem lu_bw1 {cs ρ : Nat → Nat} {h0 rr pe co ru fa : Nat} {k a t r : Nat → Nat} (hρ : ∀ j, j < 36 → ρ (1 + j) = lu_wA h0 pe co ru fa k a t r j) (hrr : ρ 114 = rr) : lu_blk lu_TC cs ρ lu_m0 1 ([(h0, .inr (10, [.int 0, .ref pe, .int 0, .ref (a 0), .ref (a 1), .ref (a 2), .ref (a 3), .ref (a 4), .ref (a 5), .int 12, .int 1, .int 0, .ref (t 0), .ref (t 1), .ref co, .ref ru, .ref fa])), (pe, .inl (cs 1, 6, .inr (.inr (.inr (.inr (lu_up6 (k 0) (k 1) (k 2) (k 3) (k 4) (k 5))))))), (k 0, lu_ha 0 rr), (k 1, lu_ha 1 rr), (k 2, lu_ha 2 rr), (k 3, lu_ha 3 rr), (k 4, lu_ha 4 rr), (k 5, lu_ha 5 rr), (a 0, lu_ia cs 10), (a 1, lu_ia cs 10), (a 2, lu_ia cs 10), (a 3, lu_ia cs 10), (a 4, lu_ia cs 10), (a 5, lu_ia cs 6)] ++ lu_gr cs (t 0) 6 4 ++ lu_gr cs (t 1) 6 6 ++ [(co, .inr (1, lu_craw))] ++ lu_rW cs ru (r 0) (r 1) (r 2) (r 3) (r 4) ++ [(fa, lu_ia cs 5)]) := by
  have e1 : ρ 1 = h0 := hρ 0 (by decide)
  have e2 : ρ 2 = pe := hρ 1 (by decide)
  have e3 : ρ 3 = (k 0) := hρ 2 (by decide)
  have e4 : ρ 4 = (k 1) := hρ 3 (by decide)
  have e5 : ρ 5 = (k 2) := hρ 4 (by decide)
  have e6 : ρ 6 = (k 3) := hρ 5 (by decide)
  have e7 : ρ 7 = (k 4) := hρ 6 (by decide)
  have e8 : ρ 8 = (k 5) := hρ 7 (by decide)
  have e9 : ρ 9 = (a 0) := hρ 8 (by decide)
  have e10 : ρ 10 = (a 1) := hρ 9 (by decide)
  have e11 : ρ 11 = (a 2) := hρ 10 (by decide)
  have e12 : ρ 12 = (a 3) := hρ 11 (by decide)
  have e13 : ρ 13 = (a 4) := hρ 12 (by decide)
  have e14 : ρ 14 = (a 5) := hρ 13 (by decide)
  have e15 : ρ 15 = (t 0) := hρ 14 (by decide)
  have e16 : ρ 16 = (t 0 + 1 + 0) := (hρ 15 (by decide)).trans (show t 0 + 1 = t 0 + 1 + 0 by omega)
  have e17 : ρ 17 = (t 0 + 1 + 1) := (hρ 16 (by decide)).trans (show t 0 + 2 = t 0 + 1 + 1 by omega)
  have e18 : ρ 18 = (t 0 + 1 + 2) := (hρ 17 (by decide)).trans (show t 0 + 3 = t 0 + 1 + 2 by omega)
  have e19 : ρ 19 = (t 0 + 1 + 3) := (hρ 18 (by decide)).trans (show t 0 + 4 = t 0 + 1 + 3 by omega)
  have e20 : ρ 20 = (t 0 + 1 + 4) := (hρ 19 (by decide)).trans (show t 0 + 5 = t 0 + 1 + 4 by omega)
  have e21 : ρ 21 = (t 0 + 1 + 5) := (hρ 20 (by decide)).trans (show t 0 + 6 = t 0 + 1 + 5 by omega)
  have e22 : ρ 22 = (t 1) := hρ 21 (by decide)
  have e23 : ρ 23 = (t 1 + 1 + 0) := (hρ 22 (by decide)).trans (show t 1 + 1 = t 1 + 1 + 0 by omega)
  have e24 : ρ 24 = (t 1 + 1 + 1) := (hρ 23 (by decide)).trans (show t 1 + 2 = t 1 + 1 + 1 by omega)
  have e25 : ρ 25 = (t 1 + 1 + 2) := (hρ 24 (by decide)).trans (show t 1 + 3 = t 1 + 1 + 2 by omega)
  have e26 : ρ 26 = (t 1 + 1 + 3) := (hρ 25 (by decide)).trans (show t 1 + 4 = t 1 + 1 + 3 by omega)
  have e27 : ρ 27 = (t 1 + 1 + 4) := (hρ 26 (by decide)).trans (show t 1 + 5 = t 1 + 1 + 4 by omega)
  have e28 : ρ 28 = (t 1 + 1 + 5) := (hρ 27 (by decide)).trans (show t 1 + 6 = t 1 + 1 + 5 by omega)
  have e29 : ρ 29 = co := hρ 28 (by decide)
  have e30 : ρ 30 = ru := hρ 29 (by decide)
  have e31 : ρ 31 = (r 0) := hρ 30 (by decide)
  have e32 : ρ 32 = (r 1) := hρ 31 (by decide)
  have e33 : ρ 33 = (r 2) := hρ 32 (by decide)
  have e34 : ρ 34 = (r 3) := hρ 33 (by decide)
  have e35 : ρ 35 = (r 4) := hρ 34 (by decide)
  have e36 : ρ 36 = fa := hρ 35 (by decide)
  have e114 : ρ 114 = rr := hrr
  show lu_blk lu_TC cs ρ lu_m0 1 [(h0, .inr (10, [.int 0, .ref pe, .int 0, .ref (a 0), .ref (a 1), .ref (a 2), .ref (a 3), .ref (a 4), .ref (a 5), .int 12, .int 1, .int 0, .ref (t 0), .ref (t 1), .ref co, .ref ru, .ref fa])), (pe, .inl (cs 1, 6, .inr (.inr (.inr (.inr (lu_up6 (k 0) (k 1) (k 2) (k 3) (k 4) (k 5))))))), ((k 0), .inr (3, [.int 0, .int 0, .int 1, .int 1, .int 0, .ref rr])), ((k 1), .inr (3, [.int 0, .int 1, .int 1, .int 1, .int 0, .ref rr])), ((k 2), .inr (3, [.int 0, .int 2, .int 1, .int 1, .int 0, .ref rr])), ((k 3), .inr (3, [.int 0, .int 3, .int 1, .int 1, .int 0, .ref rr])), ((k 4), .inr (3, [.int 0, .int 4, .int 1, .int 1, .int 0, .ref rr])), ((k 5), .inr (3, [.int 0, .int 5, .int 1, .int 1, .int 0, .ref rr])), ((a 0), lu_ia cs 10), ((a 1), lu_ia cs 10), ((a 2), lu_ia cs 10), ((a 3), lu_ia cs 10), ((a 4), lu_ia cs 10), ((a 5), lu_ia cs 6), ((t 0), .inl (cs 3, 6, .inr (.inr (.inr (.inr (fun i => some (t 0 + 1 + i))))))), ((t 0 + 1 + 0), lu_ia cs 4), ((t 0 + 1 + 1), lu_ia cs 4), ((t 0 + 1 + 2), lu_ia cs 4), ((t 0 + 1 + 3), lu_ia cs 4), ((t 0 + 1 + 4), lu_ia cs 4), ((t 0 + 1 + 5), lu_ia cs 4), ((t 1), .inl (cs 3, 6, .inr (.inr (.inr (.inr (fun i => some (t 1 + 1 + i))))))), ((t 1 + 1 + 0), lu_ia cs 6), ((t 1 + 1 + 1), lu_ia cs 6), ((t 1 + 1 + 2), lu_ia cs 6), ((t 1 + 1 + 3), lu_ia cs 6), ((t 1 + 1 + 4), lu_ia cs 6), ((t 1 + 1 + 5), lu_ia cs 6), (co, .inr (1, [.int 0, .int 0, .int 0, .int 0, .int 0, .int 0])), (ru, .inr (6, [.int 0, .ref (r 0), .ref (r 1), .ref (r 2), .ref (r 3), .ref (r 4), .int 0])), ((r 0), lu_ia cs 8), ((r 1), lu_ia cs 8), ((r 2), lu_ia cs 8), ((r 3), lu_ia cs 8), ((r 4), lu_ia cs 200), (fa, lu_ia cs 5)]
  exact ⟨
    e1.symm, (lu_ce.of (by
      rw [lu_cell_obj (show lu_TC.2 1 = (5, 0, 0) from rfl) (by decide)]
      refine Eq.trans ?_ (show (.inr (10, [.int 0, .ref (ρ 2), .int 0, .ref (ρ 9), .ref (ρ 10), .ref (ρ 11), .ref (ρ 12), .ref (ρ 13), .ref (ρ 14), .int 12, .int 1, .int 0, .ref (ρ 15), .ref (ρ 22), .ref (ρ 29), .ref (ρ 30), .ref (ρ 36)]) : va_E) = .inr (lu_ci 5 (lu_m0 1 0), lu_fs ρ lu_m0 1 (lu_F 5) 0) from rfl)
      rw [e2, e9, e10, e11, e12, e13, e14, e15, e22, e29, e30, e36]; )),
    e2.symm, (by
      rw [lu_cell_ref (show lu_TC.2 2 = (1, 6, 0) from rfl) (by decide) (by decide)]
      refine lu_ce.q fun i hi => ?_
      rcases (show i = 0 ∨ i = 1 ∨ i = 2 ∨ i = 3 ∨ i = 4 ∨ i = 5 by omega) with rfl | rfl | rfl | rfl | rfl | rfl
      · show some (ρ 3) = _
        rw [e3]
        try rfl
      · show some (ρ 4) = _
        rw [e4]
        try rfl
      · show some (ρ 5) = _
        rw [e5]
        try rfl
      · show some (ρ 6) = _
        rw [e6]
        try rfl
      · show some (ρ 7) = _
        rw [e7]
        try rfl
      · show some (ρ 8) = _
        rw [e8]
        try rfl),
    e3.symm, (lu_ce.of (by
      rw [lu_cell_obj (show lu_TC.2 3 = (10, 0, 0) from rfl) (by decide)]
      refine Eq.trans ?_ (show (.inr (3, [.int 0, .int 0, .int 1, .int 1, .int 0, .ref (ρ 114)]) : va_E) = .inr (lu_ci 10 (lu_m0 3 0), lu_fs ρ lu_m0 3 (lu_F 10) 0) from rfl)
      rw [e114]; )),
    e4.symm, (lu_ce.of (by
      rw [lu_cell_obj (show lu_TC.2 4 = (10, 0, 0) from rfl) (by decide)]
      refine Eq.trans ?_ (show (.inr (3, [.int 0, .int 1, .int 1, .int 1, .int 0, .ref (ρ 114)]) : va_E) = .inr (lu_ci 10 (lu_m0 4 0), lu_fs ρ lu_m0 4 (lu_F 10) 0) from rfl)
      rw [e114]; )),
    e5.symm, (lu_ce.of (by
      rw [lu_cell_obj (show lu_TC.2 5 = (10, 0, 0) from rfl) (by decide)]
      refine Eq.trans ?_ (show (.inr (3, [.int 0, .int 2, .int 1, .int 1, .int 0, .ref (ρ 114)]) : va_E) = .inr (lu_ci 10 (lu_m0 5 0), lu_fs ρ lu_m0 5 (lu_F 10) 0) from rfl)
      rw [e114]; )),
    e6.symm, (lu_ce.of (by
      rw [lu_cell_obj (show lu_TC.2 6 = (10, 0, 0) from rfl) (by decide)]
      refine Eq.trans ?_ (show (.inr (3, [.int 0, .int 3, .int 1, .int 1, .int 0, .ref (ρ 114)]) : va_E) = .inr (lu_ci 10 (lu_m0 6 0), lu_fs ρ lu_m0 6 (lu_F 10) 0) from rfl)
      rw [e114]; )),
    e7.symm, (lu_ce.of (by
      rw [lu_cell_obj (show lu_TC.2 7 = (10, 0, 0) from rfl) (by decide)]
      refine Eq.trans ?_ (show (.inr (3, [.int 0, .int 4, .int 1, .int 1, .int 0, .ref (ρ 114)]) : va_E) = .inr (lu_ci 10 (lu_m0 7 0), lu_fs ρ lu_m0 7 (lu_F 10) 0) from rfl)
      rw [e114]; )),
    e8.symm, (lu_ce.of (by
      rw [lu_cell_obj (show lu_TC.2 8 = (10, 0, 0) from rfl) (by decide)]
      refine Eq.trans ?_ (show (.inr (3, [.int 0, .int 5, .int 1, .int 1, .int 0, .ref (ρ 114)]) : va_E) = .inr (lu_ci 10 (lu_m0 8 0), lu_fs ρ lu_m0 8 (lu_F 10) 0) from rfl)
      rw [e114]; )),
    e9.symm, (lu_ce.of (by
      rw [lu_cell_int (show lu_TC.2 9 = (0, 10, 0) from rfl)]
      rfl)),
    e10.symm, (lu_ce.of (by
      rw [lu_cell_int (show lu_TC.2 10 = (0, 10, 0) from rfl)]
      rfl)),
    e11.symm, (lu_ce.of (by
      rw [lu_cell_int (show lu_TC.2 11 = (0, 10, 0) from rfl)]
      rfl)),
    e12.symm, (lu_ce.of (by
      rw [lu_cell_int (show lu_TC.2 12 = (0, 10, 0) from rfl)]
      rfl)),
    e13.symm, (lu_ce.of (by
      rw [lu_cell_int (show lu_TC.2 13 = (0, 10, 0) from rfl)]
      rfl)),
    e14.symm, (lu_ce.of (by
      rw [lu_cell_int (show lu_TC.2 14 = (0, 6, 0) from rfl)]
      rfl)),
    e15.symm, (by
      rw [lu_cell_ref (show lu_TC.2 15 = (3, 6, 4) from rfl) (by decide) (by decide)]
      refine lu_ce.q fun i hi => ?_
      rcases (show i = 0 ∨ i = 1 ∨ i = 2 ∨ i = 3 ∨ i = 4 ∨ i = 5 by omega) with rfl | rfl | rfl | rfl | rfl | rfl
      · show some (ρ 16) = _
        rw [e16]
        try rfl
      · show some (ρ 17) = _
        rw [e17]
        try rfl
      · show some (ρ 18) = _
        rw [e18]
        try rfl
      · show some (ρ 19) = _
        rw [e19]
        try rfl
      · show some (ρ 20) = _
        rw [e20]
        try rfl
      · show some (ρ 21) = _
        rw [e21]
        try rfl),
    e16.symm, (lu_ce.of (by
      rw [lu_cell_int (show lu_TC.2 16 = (0, 4, 0) from rfl)]
      rfl)),
    e17.symm, (lu_ce.of (by
      rw [lu_cell_int (show lu_TC.2 17 = (0, 4, 0) from rfl)]
      rfl)),
    e18.symm, (lu_ce.of (by
      rw [lu_cell_int (show lu_TC.2 18 = (0, 4, 0) from rfl)]
      rfl)),
    e19.symm, (lu_ce.of (by
      rw [lu_cell_int (show lu_TC.2 19 = (0, 4, 0) from rfl)]
      rfl)),
    e20.symm, (lu_ce.of (by
      rw [lu_cell_int (show lu_TC.2 20 = (0, 4, 0) from rfl)]
      rfl)),
    e21.symm, (lu_ce.of (by
      rw [lu_cell_int (show lu_TC.2 21 = (0, 4, 0) from rfl)]
      rfl)),
    e22.symm, (by
      rw [lu_cell_ref (show lu_TC.2 22 = (3, 6, 6) from rfl) (by decide) (by decide)]
      refine lu_ce.q fun i hi => ?_
      rcases (show i = 0 ∨ i = 1 ∨ i = 2 ∨ i = 3 ∨ i = 4 ∨ i = 5 by omega) with rfl | rfl | rfl | rfl | rfl | rfl
      · show some (ρ 23) = _
        rw [e23]
        try rfl
      · show some (ρ 24) = _
        rw [e24]
        try rfl
      · show some (ρ 25) = _
        rw [e25]
        try rfl
      · show some (ρ 26) = _
        rw [e26]
        try rfl
      · show some (ρ 27) = _
        rw [e27]
        try rfl
      · show some (ρ 28) = _
        rw [e28]
        try rfl),
    e23.symm, (lu_ce.of (by
      rw [lu_cell_int (show lu_TC.2 23 = (0, 6, 0) from rfl)]
      rfl)),
    e24.symm, (lu_ce.of (by
      rw [lu_cell_int (show lu_TC.2 24 = (0, 6, 0) from rfl)]
      rfl)),
    e25.symm, (lu_ce.of (by
      rw [lu_cell_int (show lu_TC.2 25 = (0, 6, 0) from rfl)]
      rfl)),
    e26.symm, (lu_ce.of (by
      rw [lu_cell_int (show lu_TC.2 26 = (0, 6, 0) from rfl)]
      rfl)),
    e27.symm, (lu_ce.of (by
      rw [lu_cell_int (show lu_TC.2 27 = (0, 6, 0) from rfl)]
      rfl)),
    e28.symm, (lu_ce.of (by
      rw [lu_cell_int (show lu_TC.2 28 = (0, 6, 0) from rfl)]
      rfl)),
    e29.symm, (lu_ce.of (by
      rw [lu_cell_obj (show lu_TC.2 29 = (6, 0, 0) from rfl) (by decide)]
      refine Eq.trans ?_ (show (.inr (1, [.int 0, .int 0, .int 0, .int 0, .int 0, .int 0]) : va_E) = .inr (lu_ci 6 (lu_m0 29 0), lu_fs ρ lu_m0 29 (lu_F 6) 0) from rfl)
      rfl)),
    e30.symm, (lu_ce.of (by
      rw [lu_cell_obj (show lu_TC.2 30 = (7, 0, 0) from rfl) (by decide)]
      refine Eq.trans ?_ (show (.inr (6, [.int 0, .ref (ρ 31), .ref (ρ 32), .ref (ρ 33), .ref (ρ 34), .ref (ρ 35), .int 0]) : va_E) = .inr (lu_ci 7 (lu_m0 30 0), lu_fs ρ lu_m0 30 (lu_F 7) 0) from rfl)
      rw [e31, e32, e33, e34, e35]; )),
    e31.symm, (lu_ce.of (by
      rw [lu_cell_int (show lu_TC.2 31 = (0, 8, 0) from rfl)]
      rfl)),
    e32.symm, (lu_ce.of (by
      rw [lu_cell_int (show lu_TC.2 32 = (0, 8, 0) from rfl)]
      rfl)),
    e33.symm, (lu_ce.of (by
      rw [lu_cell_int (show lu_TC.2 33 = (0, 8, 0) from rfl)]
      rfl)),
    e34.symm, (lu_ce.of (by
      rw [lu_cell_int (show lu_TC.2 34 = (0, 8, 0) from rfl)]
      rfl)),
    e35.symm, (lu_ce.of (by
      rw [lu_cell_int (show lu_TC.2 35 = (0, 200, 0) from rfl)]
      rfl)),
    e36.symm, (lu_ce.of (by
      rw [lu_cell_int (show lu_TC.2 36 = (0, 5, 0) from rfl)]
      rfl)),
    trivial⟩
set_option maxHeartbeats 4000000 in
theorem lu_bw37 {cs ρ : Nat → Nat} {h0 rr pe co ru fa : Nat} {k a t r : Nat → Nat} (hρ : ∀ j, j < 36 → ρ (37 + j) = lu_wA h0 pe co ru fa k a t r j) (hrr : ρ 114 = rr) : lu_blk lu_TC cs ρ lu_m0 37 ([(h0, .inr (10, [.int 0, .ref pe, .int 0, .ref (a 0), .ref (a 1), .ref (a 2), .ref (a 3), .ref (a 4), .ref (a 5), .int 12, .int 1, .int 0, .ref (t 0), .ref (t 1), .ref co, .ref ru, .ref fa])), (pe, .inl (cs 1, 6, .inr (.inr (.inr (.inr (lu_up6 (k 0) (k 1) (k 2) (k 3) (k 4) (k 5))))))), (k 0, lu_ha 0 rr), (k 1, lu_ha 1 rr), (k 2, lu_ha 2 rr), (k 3, lu_ha 3 rr), (k 4, lu_ha 4 rr), (k 5, lu_ha 5 rr), (a 0, lu_ia cs 10), (a 1, lu_ia cs 10), (a 2, lu_ia cs 10), (a 3, lu_ia cs 10), (a 4, lu_ia cs 10), (a 5, lu_ia cs 6)] ++ lu_gr cs (t 0) 6 4 ++ lu_gr cs (t 1) 6 6 ++ [(co, .inr (1, lu_craw))] ++ lu_rW cs ru (r 0) (r 1) (r 2) (r 3) (r 4) ++ [(fa, lu_ia cs 5)]) := by
  have e37 : ρ 37 = h0 := hρ 0 (by decide)
  have e38 : ρ 38 = pe := hρ 1 (by decide)
  have e39 : ρ 39 = (k 0) := hρ 2 (by decide)
  have e40 : ρ 40 = (k 1) := hρ 3 (by decide)
  have e41 : ρ 41 = (k 2) := hρ 4 (by decide)
  have e42 : ρ 42 = (k 3) := hρ 5 (by decide)
  have e43 : ρ 43 = (k 4) := hρ 6 (by decide)
  have e44 : ρ 44 = (k 5) := hρ 7 (by decide)
  have e45 : ρ 45 = (a 0) := hρ 8 (by decide)
  have e46 : ρ 46 = (a 1) := hρ 9 (by decide)
  have e47 : ρ 47 = (a 2) := hρ 10 (by decide)
  have e48 : ρ 48 = (a 3) := hρ 11 (by decide)
  have e49 : ρ 49 = (a 4) := hρ 12 (by decide)
  have e50 : ρ 50 = (a 5) := hρ 13 (by decide)
  have e51 : ρ 51 = (t 0) := hρ 14 (by decide)
  have e52 : ρ 52 = (t 0 + 1 + 0) := (hρ 15 (by decide)).trans (show t 0 + 1 = t 0 + 1 + 0 by omega)
  have e53 : ρ 53 = (t 0 + 1 + 1) := (hρ 16 (by decide)).trans (show t 0 + 2 = t 0 + 1 + 1 by omega)
  have e54 : ρ 54 = (t 0 + 1 + 2) := (hρ 17 (by decide)).trans (show t 0 + 3 = t 0 + 1 + 2 by omega)
  have e55 : ρ 55 = (t 0 + 1 + 3) := (hρ 18 (by decide)).trans (show t 0 + 4 = t 0 + 1 + 3 by omega)
  have e56 : ρ 56 = (t 0 + 1 + 4) := (hρ 19 (by decide)).trans (show t 0 + 5 = t 0 + 1 + 4 by omega)
  have e57 : ρ 57 = (t 0 + 1 + 5) := (hρ 20 (by decide)).trans (show t 0 + 6 = t 0 + 1 + 5 by omega)
  have e58 : ρ 58 = (t 1) := hρ 21 (by decide)
  have e59 : ρ 59 = (t 1 + 1 + 0) := (hρ 22 (by decide)).trans (show t 1 + 1 = t 1 + 1 + 0 by omega)
  have e60 : ρ 60 = (t 1 + 1 + 1) := (hρ 23 (by decide)).trans (show t 1 + 2 = t 1 + 1 + 1 by omega)
  have e61 : ρ 61 = (t 1 + 1 + 2) := (hρ 24 (by decide)).trans (show t 1 + 3 = t 1 + 1 + 2 by omega)
  have e62 : ρ 62 = (t 1 + 1 + 3) := (hρ 25 (by decide)).trans (show t 1 + 4 = t 1 + 1 + 3 by omega)
  have e63 : ρ 63 = (t 1 + 1 + 4) := (hρ 26 (by decide)).trans (show t 1 + 5 = t 1 + 1 + 4 by omega)
  have e64 : ρ 64 = (t 1 + 1 + 5) := (hρ 27 (by decide)).trans (show t 1 + 6 = t 1 + 1 + 5 by omega)
  have e65 : ρ 65 = co := hρ 28 (by decide)
  have e66 : ρ 66 = ru := hρ 29 (by decide)
  have e67 : ρ 67 = (r 0) := hρ 30 (by decide)
  have e68 : ρ 68 = (r 1) := hρ 31 (by decide)
  have e69 : ρ 69 = (r 2) := hρ 32 (by decide)
  have e70 : ρ 70 = (r 3) := hρ 33 (by decide)
  have e71 : ρ 71 = (r 4) := hρ 34 (by decide)
  have e72 : ρ 72 = fa := hρ 35 (by decide)
  have e114 : ρ 114 = rr := hrr
  show lu_blk lu_TC cs ρ lu_m0 37 [(h0, .inr (10, [.int 0, .ref pe, .int 0, .ref (a 0), .ref (a 1), .ref (a 2), .ref (a 3), .ref (a 4), .ref (a 5), .int 12, .int 1, .int 0, .ref (t 0), .ref (t 1), .ref co, .ref ru, .ref fa])), (pe, .inl (cs 1, 6, .inr (.inr (.inr (.inr (lu_up6 (k 0) (k 1) (k 2) (k 3) (k 4) (k 5))))))), ((k 0), .inr (3, [.int 0, .int 0, .int 1, .int 1, .int 0, .ref rr])), ((k 1), .inr (3, [.int 0, .int 1, .int 1, .int 1, .int 0, .ref rr])), ((k 2), .inr (3, [.int 0, .int 2, .int 1, .int 1, .int 0, .ref rr])), ((k 3), .inr (3, [.int 0, .int 3, .int 1, .int 1, .int 0, .ref rr])), ((k 4), .inr (3, [.int 0, .int 4, .int 1, .int 1, .int 0, .ref rr])), ((k 5), .inr (3, [.int 0, .int 5, .int 1, .int 1, .int 0, .ref rr])), ((a 0), lu_ia cs 10), ((a 1), lu_ia cs 10), ((a 2), lu_ia cs 10), ((a 3), lu_ia cs 10), ((a 4), lu_ia cs 10), ((a 5), lu_ia cs 6), ((t 0), .inl (cs 3, 6, .inr (.inr (.inr (.inr (fun i => some (t 0 + 1 + i))))))), ((t 0 + 1 + 0), lu_ia cs 4), ((t 0 + 1 + 1), lu_ia cs 4), ((t 0 + 1 + 2), lu_ia cs 4), ((t 0 + 1 + 3), lu_ia cs 4), ((t 0 + 1 + 4), lu_ia cs 4), ((t 0 + 1 + 5), lu_ia cs 4), ((t 1), .inl (cs 3, 6, .inr (.inr (.inr (.inr (fun i => some (t 1 + 1 + i))))))), ((t 1 + 1 + 0), lu_ia cs 6), ((t 1 + 1 + 1), lu_ia cs 6), ((t 1 + 1 + 2), lu_ia cs 6), ((t 1 + 1 + 3), lu_ia cs 6), ((t 1 + 1 + 4), lu_ia cs 6), ((t 1 + 1 + 5), lu_ia cs 6), (co, .inr (1, [.int 0, .int 0, .int 0, .int 0, .int 0, .int 0])), (ru, .inr (6, [.int 0, .ref (r 0), .ref (r 1), .ref (r 2), .ref (r 3), .ref (r 4), .int 0])), ((r 0), lu_ia cs 8), ((r 1), lu_ia cs 8), ((r 2), lu_ia cs 8), ((r 3), lu_ia cs 8), ((r 4), lu_ia cs 200), (fa, lu_ia cs 5)]
  exact ⟨
    e37.symm, (lu_ce.of (by
      rw [lu_cell_obj (show lu_TC.2 37 = (5, 0, 0) from rfl) (by decide)]
      refine Eq.trans ?_ (show (.inr (10, [.int 0, .ref (ρ 38), .int 0, .ref (ρ 45), .ref (ρ 46), .ref (ρ 47), .ref (ρ 48), .ref (ρ 49), .ref (ρ 50), .int 12, .int 1, .int 0, .ref (ρ 51), .ref (ρ 58), .ref (ρ 65), .ref (ρ 66), .ref (ρ 72)]) : va_E) = .inr (lu_ci 5 (lu_m0 37 0), lu_fs ρ lu_m0 37 (lu_F 5) 0) from rfl)
      rw [e38, e45, e46, e47, e48, e49, e50, e51, e58, e65, e66, e72]; )),
    e38.symm, (by
      rw [lu_cell_ref (show lu_TC.2 38 = (1, 6, 0) from rfl) (by decide) (by decide)]
      refine lu_ce.q fun i hi => ?_
      rcases (show i = 0 ∨ i = 1 ∨ i = 2 ∨ i = 3 ∨ i = 4 ∨ i = 5 by omega) with rfl | rfl | rfl | rfl | rfl | rfl
      · show some (ρ 39) = _
        rw [e39]
        try rfl
      · show some (ρ 40) = _
        rw [e40]
        try rfl
      · show some (ρ 41) = _
        rw [e41]
        try rfl
      · show some (ρ 42) = _
        rw [e42]
        try rfl
      · show some (ρ 43) = _
        rw [e43]
        try rfl
      · show some (ρ 44) = _
        rw [e44]
        try rfl),
    e39.symm, (lu_ce.of (by
      rw [lu_cell_obj (show lu_TC.2 39 = (10, 0, 0) from rfl) (by decide)]
      refine Eq.trans ?_ (show (.inr (3, [.int 0, .int 0, .int 1, .int 1, .int 0, .ref (ρ 114)]) : va_E) = .inr (lu_ci 10 (lu_m0 39 0), lu_fs ρ lu_m0 39 (lu_F 10) 0) from rfl)
      rw [e114]; )),
    e40.symm, (lu_ce.of (by
      rw [lu_cell_obj (show lu_TC.2 40 = (10, 0, 0) from rfl) (by decide)]
      refine Eq.trans ?_ (show (.inr (3, [.int 0, .int 1, .int 1, .int 1, .int 0, .ref (ρ 114)]) : va_E) = .inr (lu_ci 10 (lu_m0 40 0), lu_fs ρ lu_m0 40 (lu_F 10) 0) from rfl)
      rw [e114]; )),
    e41.symm, (lu_ce.of (by
      rw [lu_cell_obj (show lu_TC.2 41 = (10, 0, 0) from rfl) (by decide)]
      refine Eq.trans ?_ (show (.inr (3, [.int 0, .int 2, .int 1, .int 1, .int 0, .ref (ρ 114)]) : va_E) = .inr (lu_ci 10 (lu_m0 41 0), lu_fs ρ lu_m0 41 (lu_F 10) 0) from rfl)
      rw [e114]; )),
    e42.symm, (lu_ce.of (by
      rw [lu_cell_obj (show lu_TC.2 42 = (10, 0, 0) from rfl) (by decide)]
      refine Eq.trans ?_ (show (.inr (3, [.int 0, .int 3, .int 1, .int 1, .int 0, .ref (ρ 114)]) : va_E) = .inr (lu_ci 10 (lu_m0 42 0), lu_fs ρ lu_m0 42 (lu_F 10) 0) from rfl)
      rw [e114]; )),
    e43.symm, (lu_ce.of (by
      rw [lu_cell_obj (show lu_TC.2 43 = (10, 0, 0) from rfl) (by decide)]
      refine Eq.trans ?_ (show (.inr (3, [.int 0, .int 4, .int 1, .int 1, .int 0, .ref (ρ 114)]) : va_E) = .inr (lu_ci 10 (lu_m0 43 0), lu_fs ρ lu_m0 43 (lu_F 10) 0) from rfl)
      rw [e114]; )),
    e44.symm, (lu_ce.of (by
      rw [lu_cell_obj (show lu_TC.2 44 = (10, 0, 0) from rfl) (by decide)]
      refine Eq.trans ?_ (show (.inr (3, [.int 0, .int 5, .int 1, .int 1, .int 0, .ref (ρ 114)]) : va_E) = .inr (lu_ci 10 (lu_m0 44 0), lu_fs ρ lu_m0 44 (lu_F 10) 0) from rfl)
      rw [e114]; )),
    e45.symm, (lu_ce.of (by
      rw [lu_cell_int (show lu_TC.2 45 = (0, 10, 0) from rfl)]
      rfl)),
    e46.symm, (lu_ce.of (by
      rw [lu_cell_int (show lu_TC.2 46 = (0, 10, 0) from rfl)]
      rfl)),
    e47.symm, (lu_ce.of (by
      rw [lu_cell_int (show lu_TC.2 47 = (0, 10, 0) from rfl)]
      rfl)),
    e48.symm, (lu_ce.of (by
      rw [lu_cell_int (show lu_TC.2 48 = (0, 10, 0) from rfl)]
      rfl)),
    e49.symm, (lu_ce.of (by
      rw [lu_cell_int (show lu_TC.2 49 = (0, 10, 0) from rfl)]
      rfl)),
    e50.symm, (lu_ce.of (by
      rw [lu_cell_int (show lu_TC.2 50 = (0, 6, 0) from rfl)]
      rfl)),
    e51.symm, (by
      rw [lu_cell_ref (show lu_TC.2 51 = (3, 6, 4) from rfl) (by decide) (by decide)]
      refine lu_ce.q fun i hi => ?_
      rcases (show i = 0 ∨ i = 1 ∨ i = 2 ∨ i = 3 ∨ i = 4 ∨ i = 5 by omega) with rfl | rfl | rfl | rfl | rfl | rfl
      · show some (ρ 52) = _
        rw [e52]
        try rfl
      · show some (ρ 53) = _
        rw [e53]
        try rfl
      · show some (ρ 54) = _
        rw [e54]
        try rfl
      · show some (ρ 55) = _
        rw [e55]
        try rfl
      · show some (ρ 56) = _
        rw [e56]
        try rfl
      · show some (ρ 57) = _
        rw [e57]
        try rfl),
    e52.symm, (lu_ce.of (by
      rw [lu_cell_int (show lu_TC.2 52 = (0, 4, 0) from rfl)]
      rfl)),
    e53.symm, (lu_ce.of (by
      rw [lu_cell_int (show lu_TC.2 53 = (0, 4, 0) from rfl)]
      rfl)),
    e54.symm, (lu_ce.of (by
      rw [lu_cell_int (show lu_TC.2 54 = (0, 4, 0) from rfl)]
      rfl)),
    e55.symm, (lu_ce.of (by
      rw [lu_cell_int (show lu_TC.2 55 = (0, 4, 0) from rfl)]
      rfl)),
    e56.symm, (lu_ce.of (by
      rw [lu_cell_int (show lu_TC.2 56 = (0, 4, 0) from rfl)]
      rfl)),
    e57.symm, (lu_ce.of (by
      rw [lu_cell_int (show lu_TC.2 57 = (0, 4, 0) from rfl)]
      rfl)),
    e58.symm, (by
      rw [lu_cell_ref (show lu_TC.2 58 = (3, 6, 6) from rfl) (by decide) (by decide)]
      refine lu_ce.q fun i hi => ?_
      rcases (show i = 0 ∨ i = 1 ∨ i = 2 ∨ i = 3 ∨ i = 4 ∨ i = 5 by omega) with rfl | rfl | rfl | rfl | rfl | rfl
      · show some (ρ 59) = _
        rw [e59]
        try rfl
      · show some (ρ 60) = _
        rw [e60]
        try rfl
      · show some (ρ 61) = _
        rw [e61]
        try rfl
      · show some (ρ 62) = _
        rw [e62]
        try rfl
      · show some (ρ 63) = _
        rw [e63]
        try rfl
      · show some (ρ 64) = _
        rw [e64]
        try rfl),
    e59.symm, (lu_ce.of (by
      rw [lu_cell_int (show lu_TC.2 59 = (0, 6, 0) from rfl)]
      rfl)),
    e60.symm, (lu_ce.of (by
      rw [lu_cell_int (show lu_TC.2 60 = (0, 6, 0) from rfl)]
      rfl)),
    e61.symm, (lu_ce.of (by
      rw [lu_cell_int (show lu_TC.2 61 = (0, 6, 0) from rfl)]
      rfl)),
    e62.symm, (lu_ce.of (by
      rw [lu_cell_int (show lu_TC.2 62 = (0, 6, 0) from rfl)]
      rfl)),
    e63.symm, (lu_ce.of (by
      rw [lu_cell_int (show lu_TC.2 63 = (0, 6, 0) from rfl)]
      rfl)),
    e64.symm, (lu_ce.of (by
      rw [lu_cell_int (show lu_TC.2 64 = (0, 6, 0) from rfl)]
      rfl)),
    e65.symm, (lu_ce.of (by
      rw [lu_cell_obj (show lu_TC.2 65 = (6, 0, 0) from rfl) (by decide)]
      refine Eq.trans ?_ (show (.inr (1, [.int 0, .int 0, .int 0, .int 0, .int 0, .int 0]) : va_E) = .inr (lu_ci 6 (lu_m0 65 0), lu_fs ρ lu_m0 65 (lu_F 6) 0) from rfl)
      rfl)),
    e66.symm, (lu_ce.of (by
      rw [lu_cell_obj (show lu_TC.2 66 = (7, 0, 0) from rfl) (by decide)]
      refine Eq.trans ?_ (show (.inr (6, [.int 0, .ref (ρ 67), .ref (ρ 68), .ref (ρ 69), .ref (ρ 70), .ref (ρ 71), .int 0]) : va_E) = .inr (lu_ci 7 (lu_m0 66 0), lu_fs ρ lu_m0 66 (lu_F 7) 0) from rfl)
      rw [e67, e68, e69, e70, e71]; )),
    e67.symm, (lu_ce.of (by
      rw [lu_cell_int (show lu_TC.2 67 = (0, 8, 0) from rfl)]
      rfl)),
    e68.symm, (lu_ce.of (by
      rw [lu_cell_int (show lu_TC.2 68 = (0, 8, 0) from rfl)]
      rfl)),
    e69.symm, (lu_ce.of (by
      rw [lu_cell_int (show lu_TC.2 69 = (0, 8, 0) from rfl)]
      rfl)),
    e70.symm, (lu_ce.of (by
      rw [lu_cell_int (show lu_TC.2 70 = (0, 8, 0) from rfl)]
      rfl)),
    e71.symm, (lu_ce.of (by
      rw [lu_cell_int (show lu_TC.2 71 = (0, 200, 0) from rfl)]
      rfl)),
    e72.symm, (lu_ce.of (by
      rw [lu_cell_int (show lu_TC.2 72 = (0, 5, 0) from rfl)]
      rfl)),
    trivial⟩
set_option maxHeartbeats 4000000 in
theorem lu_bp {cs ρ : Nat → Nat} {h0 wr ln ac fi : Nat} {k : Nat → Nat} (hρ : ∀ j, j < 9 → ρ (74 + j) = lu_pA h0 ln ac fi k j) (hrr : ρ 1 = wr) : lu_blk lu_TC cs ρ lu_m0 74 ([(h0, .inr (5, [.ref wr, .ref ln, .ref ac, .int 0, .int 0, .int 0, .int 0, .ref fi, .int 0, .int 0, .int 0])), (ln, .inl (cs 2, 5, .inr (.inr (.inr (.inr (lu_up5 (k 0) (k 1) (k 2) (k 3) (k 4)))))))] ++ [(k 0, .inr (1, lu_craw)), (k 1, .inr (1, lu_craw)), (k 2, .inr (1, lu_craw)), (k 3, .inr (1, lu_craw)), (k 4, .inr (1, lu_craw)), (ac, .inl (cs 0, 4, .inl (fun _ => 0))), (fi, .inl (cs 0, 4, .inl (fun _ => 0)))]) := by
  have e74 : ρ 74 = h0 := hρ 0 (by decide)
  have e75 : ρ 75 = ln := hρ 1 (by decide)
  have e76 : ρ 76 = (k 0) := hρ 2 (by decide)
  have e77 : ρ 77 = (k 1) := hρ 3 (by decide)
  have e78 : ρ 78 = (k 2) := hρ 4 (by decide)
  have e79 : ρ 79 = (k 3) := hρ 5 (by decide)
  have e80 : ρ 80 = (k 4) := hρ 6 (by decide)
  have e81 : ρ 81 = ac := hρ 7 (by decide)
  have e82 : ρ 82 = fi := hρ 8 (by decide)
  have e1 : ρ 1 = wr := hrr
  show lu_blk lu_TC cs ρ lu_m0 74 [(h0, .inr (5, [.ref wr, .ref ln, .ref ac, .int 0, .int 0, .int 0, .int 0, .ref fi, .int 0, .int 0, .int 0])), (ln, .inl (cs 2, 5, .inr (.inr (.inr (.inr (lu_up5 (k 0) (k 1) (k 2) (k 3) (k 4))))))), ((k 0), .inr (1, [.int 0, .int 0, .int 0, .int 0, .int 0, .int 0])), ((k 1), .inr (1, [.int 0, .int 0, .int 0, .int 0, .int 0, .int 0])), ((k 2), .inr (1, [.int 0, .int 0, .int 0, .int 0, .int 0, .int 0])), ((k 3), .inr (1, [.int 0, .int 0, .int 0, .int 0, .int 0, .int 0])), ((k 4), .inr (1, [.int 0, .int 0, .int 0, .int 0, .int 0, .int 0])), (ac, lu_ia cs 4), (fi, lu_ia cs 4)]
  exact ⟨
    e74.symm, (lu_ce.of (by
      rw [lu_cell_obj (show lu_TC.2 74 = (8, 0, 0) from rfl) (by decide)]
      refine Eq.trans ?_ (show (.inr (5, [.ref (ρ 1), .ref (ρ 75), .ref (ρ 81), .int 0, .int 0, .int 0, .int 0, .ref (ρ 82), .int 0, .int 0, .int 0]) : va_E) = .inr (lu_ci 8 (lu_m0 74 0), lu_fs ρ lu_m0 74 (lu_F 8) 0) from rfl)
      rw [e1, e75, e81, e82]; )),
    e75.symm, (by
      rw [lu_cell_ref (show lu_TC.2 75 = (2, 5, 0) from rfl) (by decide) (by decide)]
      refine lu_ce.q fun i hi => ?_
      rcases (show i = 0 ∨ i = 1 ∨ i = 2 ∨ i = 3 ∨ i = 4 by omega) with rfl | rfl | rfl | rfl | rfl
      · show some (ρ 76) = _
        rw [e76]
        try rfl
      · show some (ρ 77) = _
        rw [e77]
        try rfl
      · show some (ρ 78) = _
        rw [e78]
        try rfl
      · show some (ρ 79) = _
        rw [e79]
        try rfl
      · show some (ρ 80) = _
        rw [e80]
        try rfl),
    e76.symm, (lu_ce.of (by
      rw [lu_cell_obj (show lu_TC.2 76 = (6, 0, 0) from rfl) (by decide)]
      refine Eq.trans ?_ (show (.inr (1, [.int 0, .int 0, .int 0, .int 0, .int 0, .int 0]) : va_E) = .inr (lu_ci 6 (lu_m0 76 0), lu_fs ρ lu_m0 76 (lu_F 6) 0) from rfl)
      rfl)),
    e77.symm, (lu_ce.of (by
      rw [lu_cell_obj (show lu_TC.2 77 = (6, 0, 0) from rfl) (by decide)]
      refine Eq.trans ?_ (show (.inr (1, [.int 0, .int 0, .int 0, .int 0, .int 0, .int 0]) : va_E) = .inr (lu_ci 6 (lu_m0 77 0), lu_fs ρ lu_m0 77 (lu_F 6) 0) from rfl)
      rfl)),
    e78.symm, (lu_ce.of (by
      rw [lu_cell_obj (show lu_TC.2 78 = (6, 0, 0) from rfl) (by decide)]
      refine Eq.trans ?_ (show (.inr (1, [.int 0, .int 0, .int 0, .int 0, .int 0, .int 0]) : va_E) = .inr (lu_ci 6 (lu_m0 78 0), lu_fs ρ lu_m0 78 (lu_F 6) 0) from rfl)
      rfl)),
    e79.symm, (lu_ce.of (by
      rw [lu_cell_obj (show lu_TC.2 79 = (6, 0, 0) from rfl) (by decide)]
      refine Eq.trans ?_ (show (.inr (1, [.int 0, .int 0, .int 0, .int 0, .int 0, .int 0]) : va_E) = .inr (lu_ci 6 (lu_m0 79 0), lu_fs ρ lu_m0 79 (lu_F 6) 0) from rfl)
      rfl)),
    e80.symm, (lu_ce.of (by
      rw [lu_cell_obj (show lu_TC.2 80 = (6, 0, 0) from rfl) (by decide)]
      refine Eq.trans ?_ (show (.inr (1, [.int 0, .int 0, .int 0, .int 0, .int 0, .int 0]) : va_E) = .inr (lu_ci 6 (lu_m0 80 0), lu_fs ρ lu_m0 80 (lu_F 6) 0) from rfl)
      rfl)),
    e81.symm, (lu_ce.of (by
      rw [lu_cell_int (show lu_TC.2 81 = (0, 4, 0) from rfl)]
      rfl)),
    e82.symm, (lu_ce.of (by
      rw [lu_cell_int (show lu_TC.2 82 = (0, 4, 0) from rfl)]
      rfl)),
    trivial⟩
set_option maxHeartbeats 4000000 in
theorem lu_bt {cs ρ : Nat → Nat} {h0 tp dr : Nat} {r : Nat → Nat} (hρ : ∀ j, j < 8 → ρ (83 + j) = lu_tA h0 tp dr r j) : lu_blk lu_TC cs ρ lu_m0 83 ([(h0, .inr (8, [.ref tp, .int 0, .ref dr, .int 0, .int 0, .int 0, .int 0])), (tp, .inl (cs 0, 200, .inl (fun _ => 0)))] ++ lu_rW cs dr (r 0) (r 1) (r 2) (r 3) (r 4)) := by
  have e83 : ρ 83 = h0 := hρ 0 (by decide)
  have e84 : ρ 84 = tp := hρ 1 (by decide)
  have e85 : ρ 85 = dr := hρ 2 (by decide)
  have e86 : ρ 86 = (r 0) := hρ 3 (by decide)
  have e87 : ρ 87 = (r 1) := hρ 4 (by decide)
  have e88 : ρ 88 = (r 2) := hρ 5 (by decide)
  have e89 : ρ 89 = (r 3) := hρ 6 (by decide)
  have e90 : ρ 90 = (r 4) := hρ 7 (by decide)
  show lu_blk lu_TC cs ρ lu_m0 83 [(h0, .inr (8, [.ref tp, .int 0, .ref dr, .int 0, .int 0, .int 0, .int 0])), (tp, lu_ia cs 200), (dr, .inr (6, [.int 0, .ref (r 0), .ref (r 1), .ref (r 2), .ref (r 3), .ref (r 4), .int 0])), ((r 0), lu_ia cs 8), ((r 1), lu_ia cs 8), ((r 2), lu_ia cs 8), ((r 3), lu_ia cs 8), ((r 4), lu_ia cs 200)]
  exact ⟨
    e83.symm, (lu_ce.of (by
      rw [lu_cell_obj (show lu_TC.2 83 = (9, 0, 0) from rfl) (by decide)]
      refine Eq.trans ?_ (show (.inr (8, [.ref (ρ 84), .int 0, .ref (ρ 85), .int 0, .int 0, .int 0, .int 0]) : va_E) = .inr (lu_ci 9 (lu_m0 83 0), lu_fs ρ lu_m0 83 (lu_F 9) 0) from rfl)
      rw [e84, e85]; )),
    e84.symm, (lu_ce.of (by
      rw [lu_cell_int (show lu_TC.2 84 = (0, 200, 0) from rfl)]
      rfl)),
    e85.symm, (lu_ce.of (by
      rw [lu_cell_obj (show lu_TC.2 85 = (7, 0, 0) from rfl) (by decide)]
      refine Eq.trans ?_ (show (.inr (6, [.int 0, .ref (ρ 86), .ref (ρ 87), .ref (ρ 88), .ref (ρ 89), .ref (ρ 90), .int 0]) : va_E) = .inr (lu_ci 7 (lu_m0 85 0), lu_fs ρ lu_m0 85 (lu_F 7) 0) from rfl)
      rw [e86, e87, e88, e89, e90]; )),
    e86.symm, (lu_ce.of (by
      rw [lu_cell_int (show lu_TC.2 86 = (0, 8, 0) from rfl)]
      rfl)),
    e87.symm, (lu_ce.of (by
      rw [lu_cell_int (show lu_TC.2 87 = (0, 8, 0) from rfl)]
      rfl)),
    e88.symm, (lu_ce.of (by
      rw [lu_cell_int (show lu_TC.2 88 = (0, 8, 0) from rfl)]
      rfl)),
    e89.symm, (lu_ce.of (by
      rw [lu_cell_int (show lu_TC.2 89 = (0, 8, 0) from rfl)]
      rfl)),
    e90.symm, (lu_ce.of (by
      rw [lu_cell_int (show lu_TC.2 90 = (0, 200, 0) from rfl)]
      rfl)),
    trivial⟩
set_option maxHeartbeats 4000000 in
theorem lu_br {cs ρ : Nat → Nat} {st gr ro so sz it ho th si rr : Nat} {k : Nat → Nat} (e91 : ρ 91 = st) (e92 : ρ 92 = (k 0)) (e93 : ρ 93 = (k 1)) (e94 : ρ 94 = (k 2)) (e95 : ρ 95 = (k 3)) (e96 : ρ 96 = (k 4)) (e97 : ρ 97 = (k 5)) (e98 : ρ 98 = gr) (e99 : ρ 99 = ro) (e100 : ρ 100 = (ro + 1 + 0)) (e101 : ρ 101 = (ro + 1 + 1)) (e102 : ρ 102 = (ro + 1 + 2)) (e103 : ρ 103 = (ro + 1 + 3)) (e104 : ρ 104 = so) (e105 : ρ 105 = sz) (e106 : ρ 106 = it) (e107 : ρ 107 = (it + 1 + 0)) (e108 : ρ 108 = (it + 1 + 1)) (e109 : ρ 109 = (it + 1 + 2)) (e110 : ρ 110 = (it + 1 + 3)) (e111 : ρ 111 = ho) (e112 : ρ 112 = th) (e113 : ρ 113 = si) (e114 : ρ 114 = rr) : lu_blk lu_TC cs ρ lu_m0 91 (([(st, lu_qa cs k)] ++ lu_hs rr k) ++ [(gr, lu_ia cs 64)] ++ lu_gr cs ro 4 3 ++ [(so, .inl (cs 0, 4, .inl (lu_q4 (-1))))] ++ ([(sz, lu_ia cs 4)] ++ lu_gr cs it 4 40) ++ [(ho, .inl (cs 0, 4, .inl (lu_q4 2)))] ++ ([(th, lu_ia cs 4)] ++ [(si, lu_ia cs 4)]) ++ [(rr, lu_ia cs 31)]) := by

  show lu_blk lu_TC cs ρ lu_m0 91 [(st, lu_qa cs k), ((k 0), .inr (3, [.int 0, .int 0, .int 1, .int 1, .int 0, .ref rr])), ((k 1), .inr (0, [.int 1, .int 0, .int 1, .int 1, .int 0, .ref rr])), ((k 2), .inr (2, [.int 2, .int 0, .int 1, .int 1, .int 0, .ref rr])), ((k 3), .inr (9, [.int 3, .int 0, .int 1, .int 1, .int 0, .ref rr])), ((k 4), .inr (7, [.int 4, .int 0, .int 1, .int 1, .int 0, .ref rr])), ((k 5), .inr (4, [.int 5, .int 0, .int 1, .int 1, .int 0, .ref rr])), (gr, lu_ia cs 64), (ro, .inl (cs 3, 4, .inr (.inr (.inr (.inr (fun i => some (ro + 1 + i))))))), ((ro + 1 + 0), lu_ia cs 3), ((ro + 1 + 1), lu_ia cs 3), ((ro + 1 + 2), lu_ia cs 3), ((ro + 1 + 3), lu_ia cs 3), (so, .inl (cs 0, 4, .inl (lu_q4 (-1)))), (sz, lu_ia cs 4), (it, .inl (cs 3, 4, .inr (.inr (.inr (.inr (fun i => some (it + 1 + i))))))), ((it + 1 + 0), lu_ia cs 40), ((it + 1 + 1), lu_ia cs 40), ((it + 1 + 2), lu_ia cs 40), ((it + 1 + 3), lu_ia cs 40), (ho, .inl (cs 0, 4, .inl (lu_q4 2))), (th, lu_ia cs 4), (si, lu_ia cs 4), (rr, lu_ia cs 31)]
  exact ⟨
    e91.symm, (by
      rw [lu_cell_ref (show lu_TC.2 91 = (1, 6, 0) from rfl) (by decide) (by decide)]
      refine lu_ce.q fun i hi => ?_
      rcases (show i = 0 ∨ i = 1 ∨ i = 2 ∨ i = 3 ∨ i = 4 ∨ i = 5 by omega) with rfl | rfl | rfl | rfl | rfl | rfl
      · show some (ρ 92) = _
        rw [e92]
        try rfl
      · show some (ρ 93) = _
        rw [e93]
        try rfl
      · show some (ρ 94) = _
        rw [e94]
        try rfl
      · show some (ρ 95) = _
        rw [e95]
        try rfl
      · show some (ρ 96) = _
        rw [e96]
        try rfl
      · show some (ρ 97) = _
        rw [e97]
        try rfl),
    e92.symm, (lu_ce.of (by
      rw [lu_cell_obj (show lu_TC.2 92 = (10, 0, 0) from rfl) (by decide)]
      refine Eq.trans ?_ (show (.inr (3, [.int 0, .int 0, .int 1, .int 1, .int 0, .ref (ρ 114)]) : va_E) = .inr (lu_ci 10 (lu_m0 92 0), lu_fs ρ lu_m0 92 (lu_F 10) 0) from rfl)
      rw [e114]; )),
    e93.symm, (lu_ce.of (by
      rw [lu_cell_obj (show lu_TC.2 93 = (10, 0, 0) from rfl) (by decide)]
      refine Eq.trans ?_ (show (.inr (0, [.int 1, .int 0, .int 1, .int 1, .int 0, .ref (ρ 114)]) : va_E) = .inr (lu_ci 10 (lu_m0 93 0), lu_fs ρ lu_m0 93 (lu_F 10) 0) from rfl)
      rw [e114]; )),
    e94.symm, (lu_ce.of (by
      rw [lu_cell_obj (show lu_TC.2 94 = (10, 0, 0) from rfl) (by decide)]
      refine Eq.trans ?_ (show (.inr (2, [.int 2, .int 0, .int 1, .int 1, .int 0, .ref (ρ 114)]) : va_E) = .inr (lu_ci 10 (lu_m0 94 0), lu_fs ρ lu_m0 94 (lu_F 10) 0) from rfl)
      rw [e114]; )),
    e95.symm, (lu_ce.of (by
      rw [lu_cell_obj (show lu_TC.2 95 = (10, 0, 0) from rfl) (by decide)]
      refine Eq.trans ?_ (show (.inr (9, [.int 3, .int 0, .int 1, .int 1, .int 0, .ref (ρ 114)]) : va_E) = .inr (lu_ci 10 (lu_m0 95 0), lu_fs ρ lu_m0 95 (lu_F 10) 0) from rfl)
      rw [e114]; )),
    e96.symm, (lu_ce.of (by
      rw [lu_cell_obj (show lu_TC.2 96 = (10, 0, 0) from rfl) (by decide)]
      refine Eq.trans ?_ (show (.inr (7, [.int 4, .int 0, .int 1, .int 1, .int 0, .ref (ρ 114)]) : va_E) = .inr (lu_ci 10 (lu_m0 96 0), lu_fs ρ lu_m0 96 (lu_F 10) 0) from rfl)
      rw [e114]; )),
    e97.symm, (lu_ce.of (by
      rw [lu_cell_obj (show lu_TC.2 97 = (10, 0, 0) from rfl) (by decide)]
      refine Eq.trans ?_ (show (.inr (4, [.int 5, .int 0, .int 1, .int 1, .int 0, .ref (ρ 114)]) : va_E) = .inr (lu_ci 10 (lu_m0 97 0), lu_fs ρ lu_m0 97 (lu_F 10) 0) from rfl)
      rw [e114]; )),
    e98.symm, (lu_ce.of (by
      rw [lu_cell_int (show lu_TC.2 98 = (0, 64, 0) from rfl)]
      rfl)),
    e99.symm, (by
      rw [lu_cell_ref (show lu_TC.2 99 = (3, 4, 3) from rfl) (by decide) (by decide)]
      refine lu_ce.q fun i hi => ?_
      rcases (show i = 0 ∨ i = 1 ∨ i = 2 ∨ i = 3 by omega) with rfl | rfl | rfl | rfl
      · show some (ρ 100) = _
        rw [e100]
        try rfl
      · show some (ρ 101) = _
        rw [e101]
        try rfl
      · show some (ρ 102) = _
        rw [e102]
        try rfl
      · show some (ρ 103) = _
        rw [e103]
        try rfl),
    e100.symm, (lu_ce.of (by
      rw [lu_cell_int (show lu_TC.2 100 = (0, 3, 0) from rfl)]
      rfl)),
    e101.symm, (lu_ce.of (by
      rw [lu_cell_int (show lu_TC.2 101 = (0, 3, 0) from rfl)]
      rfl)),
    e102.symm, (lu_ce.of (by
      rw [lu_cell_int (show lu_TC.2 102 = (0, 3, 0) from rfl)]
      rfl)),
    e103.symm, (lu_ce.of (by
      rw [lu_cell_int (show lu_TC.2 103 = (0, 3, 0) from rfl)]
      rfl)),
    e104.symm, (by
      rw [lu_cell_int (show lu_TC.2 104 = (0, 4, 0) from rfl)]
      refine lu_ce.i fun i hi => ?_
      rcases (show i = 0 ∨ i = 1 ∨ i = 2 ∨ i = 3 by omega) with rfl | rfl | rfl | rfl <;> rfl),
    e105.symm, (lu_ce.of (by
      rw [lu_cell_int (show lu_TC.2 105 = (0, 4, 0) from rfl)]
      rfl)),
    e106.symm, (by
      rw [lu_cell_ref (show lu_TC.2 106 = (3, 4, 40) from rfl) (by decide) (by decide)]
      refine lu_ce.q fun i hi => ?_
      rcases (show i = 0 ∨ i = 1 ∨ i = 2 ∨ i = 3 by omega) with rfl | rfl | rfl | rfl
      · show some (ρ 107) = _
        rw [e107]
        try rfl
      · show some (ρ 108) = _
        rw [e108]
        try rfl
      · show some (ρ 109) = _
        rw [e109]
        try rfl
      · show some (ρ 110) = _
        rw [e110]
        try rfl),
    e107.symm, (lu_ce.of (by
      rw [lu_cell_int (show lu_TC.2 107 = (0, 40, 0) from rfl)]
      rfl)),
    e108.symm, (lu_ce.of (by
      rw [lu_cell_int (show lu_TC.2 108 = (0, 40, 0) from rfl)]
      rfl)),
    e109.symm, (lu_ce.of (by
      rw [lu_cell_int (show lu_TC.2 109 = (0, 40, 0) from rfl)]
      rfl)),
    e110.symm, (lu_ce.of (by
      rw [lu_cell_int (show lu_TC.2 110 = (0, 40, 0) from rfl)]
      rfl)),
    e111.symm, (by
      rw [lu_cell_int (show lu_TC.2 111 = (0, 4, 0) from rfl)]
      refine lu_ce.i fun i hi => ?_
      rcases (show i = 0 ∨ i = 1 ∨ i = 2 ∨ i = 3 by omega) with rfl | rfl | rfl | rfl <;> rfl),
    e112.symm, (lu_ce.of (by
      rw [lu_cell_int (show lu_TC.2 112 = (0, 4, 0) from rfl)]
      rfl)),
    e113.symm, (lu_ce.of (by
      rw [lu_cell_int (show lu_TC.2 113 = (0, 4, 0) from rfl)]
      rfl)),
    e114.symm, (lu_ce.of (by
      rw [lu_cell_int (show lu_TC.2 114 = (0, 31, 0) from rfl)]
      rfl)),
    trivial⟩
set_option maxHeartbeats 4000000 in
theorem lu_bo {cs ρ : Nat → Nat} {h0 w1 w2 li pl te st gr ro so sz it ho th si rr : Nat} (e0 : ρ 0 = h0) (e1 : ρ 1 = w1) (e37 : ρ 37 = w2) (e73 : ρ 73 = li) (e74 : ρ 74 = pl) (e83 : ρ 83 = te) (e91 : ρ 91 = st) (e98 : ρ 98 = gr) (e99 : ρ 99 = ro) (e104 : ρ 104 = so) (e105 : ρ 105 = sz) (e106 : ρ 106 = it) (e111 : ρ 111 = ho) (e112 : ρ 112 = th) (e113 : ρ 113 = si) (e114 : ρ 114 = rr) : lu_blk lu_TC cs ρ lu_m0 0 ([(h0, .inr (11, [.ref w1, .ref w2, .int 0, .ref li, .ref pl, .ref te, .ref st, .ref gr, .ref ro, .int 0, .ref so, .ref sz, .ref it, .ref ho, .ref th, .ref si, .ref rr]))]) := by

  show lu_blk lu_TC cs ρ lu_m0 0 [(h0, .inr (11, [.ref w1, .ref w2, .int 0, .ref li, .ref pl, .ref te, .ref st, .ref gr, .ref ro, .int 0, .ref so, .ref sz, .ref it, .ref ho, .ref th, .ref si, .ref rr]))]
  exact ⟨
    e0.symm, (lu_ce.of (by
      rw [lu_cell_obj (show lu_TC.2 0 = (4, 0, 0) from rfl) (by decide)]
      refine Eq.trans ?_ (show (.inr (11, [.ref (ρ 1), .ref (ρ 37), .int 0, .ref (ρ 73), .ref (ρ 74), .ref (ρ 83), .ref (ρ 91), .ref (ρ 98), .ref (ρ 99), .int 0, .ref (ρ 104), .ref (ρ 105), .ref (ρ 106), .ref (ρ 111), .ref (ρ 112), .ref (ρ 113), .ref (ρ 114)]) : va_E) = .inr (lu_ci 4 (lu_m0 0 0), lu_fs ρ lu_m0 0 (lu_F 4) 0) from rfl)
      rw [e1, e37, e73, e74, e83, e91, e98, e99, e104, e105, e106, e111, e112, e113, e114]; )),
    trivial⟩
set_option maxHeartbeats 4000000 in
theorem lu_bl {cs ρ : Nat → Nat} {li : Nat} (e73 : ρ 73 = li) : lu_blk lu_TC cs ρ lu_m0 73 ([(li, .inr (1, lu_craw))]) := by

  show lu_blk lu_TC cs ρ lu_m0 73 [(li, .inr (1, [.int 0, .int 0, .int 0, .int 0, .int 0, .int 0]))]
  exact ⟨
    e73.symm, (lu_ce.of (by
      rw [lu_cell_obj (show lu_TC.2 73 = (6, 0, 0) from rfl) (by decide)]
      refine Eq.trans ?_ (show (.inr (1, [.int 0, .int 0, .int 0, .int 0, .int 0, .int 0]) : va_E) = .inr (lu_ci 6 (lu_m0 73 0), lu_fs ρ lu_m0 73 (lu_F 6) 0) from rfl)
      rfl)),
    trivial⟩
theorem lu_asm {o rr li st gr so ho th si sz : Nat × va_E} {n1 n2 pn tn hs g1 g2 R : va_W} (hR : R = ([st] ++ hs) ++ [gr] ++ g1 ++ [so] ++ ([sz] ++ g2) ++ [ho] ++ ([th] ++ [si]) ++ [rr]) : o :: ((((((((([] ++ n1) ++ n2) ++ [li]) ++ pn) ++ tn) ++ [st]) ++ hs) ++ [gr] ++ g1 ++ [so] ++ ([sz] ++ g2) ++ [ho] ++ ([th] ++ [si])) ++ [rr]) = ((((([o] ++ n1) ++ n2) ++ [li]) ++ pn) ++ tn) ++ R := by
  subst hR
  simp
set_option maxHeartbeats 4000000 in
/-- what LeftUndoes's constructor made is the world at lu_m0 -/
theorem lu_uN.W {cs : Nat → Nat} {h0 : Nat} {wn : va_W} (h : lu_uN cs h0 wn) : ∃ ρ : Nat → Nat, ρ 0 = h0 ∧ (∀ (D : va_G) (H : Heap), va_P D lu_cl wn H → va_P D lu_cl (lu_W lu_TC cs ρ lu_m0) H) ∧ ∀ A : Nat → Prop, va_D A wn → va_D A (lu_W lu_TC cs ρ lu_m0) := by
  obtain ⟨rr, w1, w2, li, pl, te, st, gr, ro, so, sz, it, ho, th, si, k, n1, n2, pn, tn, ⟨pe1, k1, a1, t1, co1, ru1, fa1, r1, hn1⟩, ⟨pe2, k2, a2, t2, co2, ru2, fa2, r2, hn2⟩, ⟨ln, x0, x1, x2, x3, x4, ac, fi, hpn⟩, ⟨tp, dr, y0, y1, y2, y3, y4, htn⟩, hwn⟩ := h
  subst hwn
  have key : ∃ ρ : Nat → Nat, ρ = fun q => if q = 0 then h0 else if q < 37 then lu_wA w1 pe1 co1 ru1 fa1 k1 a1 t1 r1 (q - 1) else if q < 73 then lu_wA w2 pe2 co2 ru2 fa2 k2 a2 t2 r2 (q - 37) else if q = 73 then li else if q < 83 then lu_pA pl ln ac fi (lu_at6 x0 x1 x2 x3 x4 0) (q - 74) else if q < 91 then lu_tA te tp dr (lu_at6 y0 y1 y2 y3 y4 0) (q - 83) else if q = 91 then st else if q < 98 then k (q - 92) else if q = 98 then gr else if q < 104 then ro + (q - 99) else if q = 104 then so else if q = 105 then sz else if q < 111 then it + (q - 106) else if q = 111 then ho else if q = 112 then th else if q = 113 then si else rr := ⟨_, rfl⟩
  obtain ⟨ρ, hρ⟩ := key
  have f1 : ∀ j, j < 36 → ρ (1 + j) = lu_wA w1 pe1 co1 ru1 fa1 k1 a1 t1 r1 j := fun j hj => by
    rw [hρ]
    show (if 1 + j = 0 then _ else if 1 + j < 37 then _ else _) = _
    rw [if_neg (by omega), if_pos (by omega), Nat.add_sub_cancel_left]
  have f2 : ∀ j, j < 36 → ρ (37 + j) = lu_wA w2 pe2 co2 ru2 fa2 k2 a2 t2 r2 j := fun j hj => by
    rw [hρ]
    show (if 37 + j = 0 then _ else if 37 + j < 37 then _ else if 37 + j < 73 then _ else _) = _
    rw [if_neg (by omega), if_neg (by omega), if_pos (by omega), Nat.add_sub_cancel_left]
  have f3 : ∀ j, j < 9 → ρ (74 + j) = lu_pA pl ln ac fi (lu_at6 x0 x1 x2 x3 x4 0) j := fun j hj => by
    rw [hρ]
    show (if 74 + j = 0 then _ else if 74 + j < 37 then _ else if 74 + j < 73 then _ else if 74 + j = 73 then _ else if 74 + j < 83 then _ else _) = _
    rw [if_neg (by omega), if_neg (by omega), if_neg (by omega), if_neg (by omega), if_pos (by omega), Nat.add_sub_cancel_left]
  have f4 : ∀ j, j < 8 → ρ (83 + j) = lu_tA te tp dr (lu_at6 y0 y1 y2 y3 y4 0) j := fun j hj => by
    rw [hρ]
    show (if 83 + j = 0 then _ else if 83 + j < 37 then _ else if 83 + j < 73 then _ else if 83 + j = 73 then _ else if 83 + j < 83 then _ else if 83 + j < 91 then _ else _) = _
    rw [if_neg (by omega), if_neg (by omega), if_neg (by omega), if_neg (by omega), if_neg (by omega), if_pos (by omega), Nat.add_sub_cancel_left]
  have e0 : ρ 0 = h0 := by rw [hρ]; exact rfl
  have e1 : ρ 1 = w1 := by rw [hρ]; exact rfl
  have e37 : ρ 37 = w2 := by rw [hρ]; exact rfl
  have e73 : ρ 73 = li := by rw [hρ]; exact rfl
  have e74 : ρ 74 = pl := by rw [hρ]; exact rfl
  have e83 : ρ 83 = te := by rw [hρ]; exact rfl
  have e91 : ρ 91 = st := by rw [hρ]; exact rfl
  have e92 : ρ 92 = k 0 := by rw [hρ]; exact rfl
  have e93 : ρ 93 = k 1 := by rw [hρ]; exact rfl
  have e94 : ρ 94 = k 2 := by rw [hρ]; exact rfl
  have e95 : ρ 95 = k 3 := by rw [hρ]; exact rfl
  have e96 : ρ 96 = k 4 := by rw [hρ]; exact rfl
  have e97 : ρ 97 = k 5 := by rw [hρ]; exact rfl
  have e98 : ρ 98 = gr := by rw [hρ]; exact rfl
  have e99 : ρ 99 = ro := by rw [hρ]; exact rfl
  have e100 : ρ 100 = ro + 1 + 0 := by rw [hρ]; exact (show ro + 1 = ro + 1 + 0 by omega)
  have e101 : ρ 101 = ro + 1 + 1 := by rw [hρ]; exact (show ro + 2 = ro + 1 + 1 by omega)
  have e102 : ρ 102 = ro + 1 + 2 := by rw [hρ]; exact (show ro + 3 = ro + 1 + 2 by omega)
  have e103 : ρ 103 = ro + 1 + 3 := by rw [hρ]; exact (show ro + 4 = ro + 1 + 3 by omega)
  have e104 : ρ 104 = so := by rw [hρ]; exact rfl
  have e105 : ρ 105 = sz := by rw [hρ]; exact rfl
  have e106 : ρ 106 = it := by rw [hρ]; exact rfl
  have e107 : ρ 107 = it + 1 + 0 := by rw [hρ]; exact (show it + 1 = it + 1 + 0 by omega)
  have e108 : ρ 108 = it + 1 + 1 := by rw [hρ]; exact (show it + 2 = it + 1 + 1 by omega)
  have e109 : ρ 109 = it + 1 + 2 := by rw [hρ]; exact (show it + 3 = it + 1 + 2 by omega)
  have e110 : ρ 110 = it + 1 + 3 := by rw [hρ]; exact (show it + 4 = it + 1 + 3 by omega)
  have e111 : ρ 111 = ho := by rw [hρ]; exact rfl
  have e112 : ρ 112 = th := by rw [hρ]; exact rfl
  have e113 : ρ 113 = si := by rw [hρ]; exact rfl
  have e114 : ρ 114 = rr := by rw [hρ]; exact rfl
  refine ⟨ρ, e0, ?_⟩
  clear hρ
  have b0 := lu_bo (cs := cs) e0 e1 e37 e73 e74 e83 e91 e98 e99 e104 e105 e106 e111 e112 e113 e114
  have b1 : lu_blk lu_TC cs ρ lu_m0 1 n1 := by rw [hn1]; exact lu_bw1 (cs := cs) f1 e114
  have l1 : n1.length = 36 := by rw [hn1]; rfl
  have b2 : lu_blk lu_TC cs ρ lu_m0 37 n2 := by rw [hn2]; exact lu_bw37 (cs := cs) f2 e114
  have l2 : n2.length = 36 := by rw [hn2]; rfl
  have b3 := lu_bl (cs := cs) e73
  have b4 : lu_blk lu_TC cs ρ lu_m0 74 pn := by rw [hpn]; exact lu_bp (cs := cs) f3 e1
  have l4 : pn.length = 9 := by rw [hpn]; rfl
  have b5 : lu_blk lu_TC cs ρ lu_m0 83 tn := by rw [htn]; exact lu_bt (cs := cs) f4
  have l5 : tn.length = 8 := by rw [htn]; rfl
  obtain ⟨R, hR⟩ : ∃ R : va_W, R = ([(st, lu_qa cs k)] ++ lu_hs rr k) ++ [(gr, lu_ia cs 64)] ++ lu_gr cs ro 4 3 ++ [(so, .inl (cs 0, 4, .inl (lu_q4 (-1))))] ++ ([(sz, lu_ia cs 4)] ++ lu_gr cs it 4 40) ++ [(ho, .inl (cs 0, 4, .inl (lu_q4 2)))] ++ ([(th, lu_ia cs 4)] ++ [(si, lu_ia cs 4)]) ++ [(rr, lu_ia cs 31)] := ⟨_, rfl⟩
  have b6 : lu_blk lu_TC cs ρ lu_m0 91 R := by rw [hR]; exact lu_br (cs := cs) e91 e92 e93 e94 e95 e96 e97 e98 e99 e100 e101 e102 e103 e104 e105 e106 e107 e108 e109 e110 e111 e112 e113 e114
  have l6 : R.length = 24 := by rw [hR]; rfl
  have all := (((((b0.app b1 rfl).app b2 (by simp [l1])).app b3 (by simp [l1, l2])).app b4 (by simp [l1, l2])).app b5 (by simp [l1, l2, l4])).app b6 (by simp [l1, l2, l4, l5])
  have w := all.W (by simp [l1, l2, l4, l5, l6]; rfl)
  rw [← lu_asm hR] at w
  exact ⟨fun D H hP => w.1 D H (lu_rot.1 H hP), fun A hD => w.2 A ((lu_rot (D := (fun _ => 0, fun _ _ => 0))).2 A hD)⟩
set_option maxHeartbeats 4000000 in
theorem lu_bm {cs ρ : Nat → Nat} {h0 s0 kp ot sk ne pa sv li fi ro tp so sz it le ln lt ra : Nat} (e0 : ρ 0 = h0) (e1 : ρ 1 = s0) (e2 : ρ 2 = kp) (e3 : ρ 3 = ot) (e4 : ρ 4 = sk) (e5 : ρ 5 = ne) (e6 : ρ 6 = pa) (e7 : ρ 7 = sv) (e8 : ρ 8 = li) (e9 : ρ 9 = fi) (e10 : ρ 10 = ro) (e11 : ρ 11 = tp) (e12 : ρ 12 = so) (e13 : ρ 13 = sz) (e14 : ρ 14 = it) (e15 : ρ 15 = le) (e16 : ρ 16 = ln) (e17 : ρ 17 = lt) (e18 : ρ 18 = ra) : lu_blk lu_TM cs ρ lu_n0 0 ([(h0, .inr (12, [.ref s0, .ref kp, .ref ot, .int 0, .ref sk, .ref ne, .ref pa, .ref sv, .ref li, .ref fi, .int 0, .int 0, .int 0, .int 0, .int 0, .int 0, .int 0, .int 0, .int 0, .int 0, .ref ro, .int 0, .ref tp, .int 0, .int 0, .int 0, .int 0, .int 0, .int 0, .int 0, .ref so, .ref sz, .ref it, .ref le, .ref ln, .ref lt, .ref ra, .int 0, .int 0, .int 0, .int 0, .int 0])), (s0, .inl (cs 0, 368, .inl (upd (upd (fun _ => 0) (7 : Int32).toNatClampNeg 1) (2 : Int32).toNatClampNeg 12))), (kp, lu_ia cs 368), (ot, lu_ia cs 368), (sk, lu_ia cs 200), (ne, lu_ia cs 64), (pa, lu_ia cs 64), (sv, lu_ia cs 60), (li, lu_ia cs 4), (fi, lu_ia cs 4), (ro, lu_ia cs 12), (tp, lu_ia cs 200), (so, .inl (cs 0, 4, .inl (lu_q4 (-1)))), (sz, lu_ia cs 4), (it, lu_ia cs 160), (le, lu_ia cs 4), (ln, lu_ia cs 4), (lt, lu_ia cs 4), (ra, lu_ia cs 30)]) := by

  show lu_blk lu_TM cs ρ lu_n0 0 [(h0, .inr (12, [.ref s0, .ref kp, .ref ot, .int 0, .ref sk, .ref ne, .ref pa, .ref sv, .ref li, .ref fi, .int 0, .int 0, .int 0, .int 0, .int 0, .int 0, .int 0, .int 0, .int 0, .int 0, .ref ro, .int 0, .ref tp, .int 0, .int 0, .int 0, .int 0, .int 0, .int 0, .int 0, .ref so, .ref sz, .ref it, .ref le, .ref ln, .ref lt, .ref ra, .int 0, .int 0, .int 0, .int 0, .int 0])), (s0, .inl (cs 0, 368, .inl (upd (upd (fun _ => 0) (7 : Int32).toNatClampNeg 1) (2 : Int32).toNatClampNeg 12))), (kp, lu_ia cs 368), (ot, lu_ia cs 368), (sk, lu_ia cs 200), (ne, lu_ia cs 64), (pa, lu_ia cs 64), (sv, lu_ia cs 60), (li, lu_ia cs 4), (fi, lu_ia cs 4), (ro, lu_ia cs 12), (tp, lu_ia cs 200), (so, .inl (cs 0, 4, .inl (lu_q4 (-1)))), (sz, lu_ia cs 4), (it, lu_ia cs 160), (le, lu_ia cs 4), (ln, lu_ia cs 4), (lt, lu_ia cs 4), (ra, lu_ia cs 30)]
  exact ⟨
    e0.symm, (lu_ce.of (by
      rw [lu_cell_obj (show lu_TM.2 0 = (11, 0, 0) from rfl) (by decide)]
      refine Eq.trans ?_ (show (.inr (12, [.ref (ρ 1), .ref (ρ 2), .ref (ρ 3), .int 0, .ref (ρ 4), .ref (ρ 5), .ref (ρ 6), .ref (ρ 7), .ref (ρ 8), .ref (ρ 9), .int 0, .int 0, .int 0, .int 0, .int 0, .int 0, .int 0, .int 0, .int 0, .int 0, .ref (ρ 10), .int 0, .ref (ρ 11), .int 0, .int 0, .int 0, .int 0, .int 0, .int 0, .int 0, .ref (ρ 12), .ref (ρ 13), .ref (ρ 14), .ref (ρ 15), .ref (ρ 16), .ref (ρ 17), .ref (ρ 18), .int 0, .int 0, .int 0, .int 0, .int 0]) : va_E) = .inr (lu_ci 11 (lu_n0 0 0), lu_fs ρ lu_n0 0 (lu_F 11) 0) from rfl)
      rw [e1, e2, e3, e4, e5, e6, e7, e8, e9, e10, e11, e12, e13, e14, e15, e16, e17, e18]; )),
    e1.symm, (by
      rw [lu_cell_int (show lu_TM.2 1 = (0, 368, 0) from rfl)]
      refine lu_ce.i fun i hi => ?_
      show (if i = 7 then (1 : Int32) else if i = 2 then 12 else 0) = upd (upd (fun _ => 0) 7 1) 2 12 i
      unfold upd
      by_cases h7 : i = 7
      · subst h7; rfl
      · by_cases h2 : i = 2
        · subst h2; rfl
        · simp [h7, h2]),
    e2.symm, (lu_ce.of (by
      rw [lu_cell_int (show lu_TM.2 2 = (0, 368, 0) from rfl)]
      rfl)),
    e3.symm, (lu_ce.of (by
      rw [lu_cell_int (show lu_TM.2 3 = (0, 368, 0) from rfl)]
      rfl)),
    e4.symm, (lu_ce.of (by
      rw [lu_cell_int (show lu_TM.2 4 = (0, 200, 0) from rfl)]
      rfl)),
    e5.symm, (lu_ce.of (by
      rw [lu_cell_int (show lu_TM.2 5 = (0, 64, 0) from rfl)]
      rfl)),
    e6.symm, (lu_ce.of (by
      rw [lu_cell_int (show lu_TM.2 6 = (0, 64, 0) from rfl)]
      rfl)),
    e7.symm, (lu_ce.of (by
      rw [lu_cell_int (show lu_TM.2 7 = (0, 60, 0) from rfl)]
      rfl)),
    e8.symm, (lu_ce.of (by
      rw [lu_cell_int (show lu_TM.2 8 = (0, 4, 0) from rfl)]
      rfl)),
    e9.symm, (lu_ce.of (by
      rw [lu_cell_int (show lu_TM.2 9 = (0, 4, 0) from rfl)]
      rfl)),
    e10.symm, (lu_ce.of (by
      rw [lu_cell_int (show lu_TM.2 10 = (0, 12, 0) from rfl)]
      rfl)),
    e11.symm, (lu_ce.of (by
      rw [lu_cell_int (show lu_TM.2 11 = (0, 200, 0) from rfl)]
      rfl)),
    e12.symm, (by
      rw [lu_cell_int (show lu_TM.2 12 = (0, 4, 0) from rfl)]
      refine lu_ce.i fun i hi => ?_
      rcases (show i = 0 ∨ i = 1 ∨ i = 2 ∨ i = 3 by omega) with rfl | rfl | rfl | rfl <;> rfl),
    e13.symm, (lu_ce.of (by
      rw [lu_cell_int (show lu_TM.2 13 = (0, 4, 0) from rfl)]
      rfl)),
    e14.symm, (lu_ce.of (by
      rw [lu_cell_int (show lu_TM.2 14 = (0, 160, 0) from rfl)]
      rfl)),
    e15.symm, (lu_ce.of (by
      rw [lu_cell_int (show lu_TM.2 15 = (0, 4, 0) from rfl)]
      rfl)),
    e16.symm, (lu_ce.of (by
      rw [lu_cell_int (show lu_TM.2 16 = (0, 4, 0) from rfl)]
      rfl)),
    e17.symm, (lu_ce.of (by
      rw [lu_cell_int (show lu_TM.2 17 = (0, 4, 0) from rfl)]
      rfl)),
    e18.symm, (lu_ce.of (by
      rw [lu_cell_int (show lu_TM.2 18 = (0, 30, 0) from rfl)]
      rfl)),
    trivial⟩
/-- what the reference's constructor made is its world at lu_n0 -/
theorem lu_mN.W {cs : Nat → Nat} {h0 : Nat} {wn : va_W} (h : lu_mN cs h0 wn) : ∃ ρ : Nat → Nat, ρ 0 = h0 ∧ (∀ (D : va_G) (H : Heap), va_P D lu_cl wn H → va_P D lu_cl (lu_W lu_TM cs ρ lu_n0) H) ∧ ∀ A : Nat → Prop, va_D A wn → va_D A (lu_W lu_TM cs ρ lu_n0) := by
  obtain ⟨s0, kp, ot, sk, ne, pa, sv, li, fi, ro, tp, so, sz, it, le, ln, lt, ra, rfl⟩ := h
  refine ⟨fun q => ([h0, s0, kp, ot, sk, ne, pa, sv, li, fi, ro, tp, so, sz, it, le, ln, lt, ra] : List Nat).getD q 0, rfl, ?_⟩
  have b := lu_bm (cs := cs) (ρ := fun q => ([h0, s0, kp, ot, sk, ne, pa, sv, li, fi, ro, tp, so, sz, it, le, ln, lt, ra] : List Nat).getD q 0)  rfl rfl rfl rfl rfl rfl rfl rfl rfl rfl rfl rfl rfl rfl rfl rfl rfl rfl rfl
  exact ⟨fun D H hP => (b.W rfl).1 D H hP, fun A hD => (b.W rfl).2 A hD⟩

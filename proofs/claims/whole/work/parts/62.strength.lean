/-! THE PURE PART: strengthFor -/
theorem WR.st {m : lu_M} {s : Nat → Int32} {L : List Ru} (W : WR m 1 s L) {p v : Nat} (hp : p < s_P s) (lv : 1 ≤ v) (uv : v ≤ 9) : WR (p_rw m (2 + 1 + p) (upd (m (2 + 1 + p)) 3 (nI v))) 1 (upd s (10 + 3 * p) (nI v)) L := by
  have hP := W.i.P6
  have hD := W.i.D10
  have hu' : ∀ i, (i < 8 ∨ 26 ≤ i) → upd s (10 + 3 * p) (nI v) i = s i := fun i hi => upd_ne (by omega)
  refine W.pe (W.i.per2 (lo := 0) hp (Or.inr (Or.inr rfl)) lv uv) hu' ?_ (fun a ha => p_rw_n (by omega))
  have hDu : s_D (upd s (10 + 3 * p) (nI v)) = s_D s := s_v_of (hu' 5 (by omega))
  have hPu : s_P (upd s (10 + 3 * p) (nI v)) = s_P s := s_v_of (hu' 0 (by omega))
  refine ⟨?_, ?_, ?_, fun r hr => ?_, fun r h6 hr => ?_, fun d hd => ?_, fun r hr i hi => ?_⟩
  · rw [p_rw_n (by omega), hu' 0 (by omega)]; exact W.b.cnt
  · rw [p_rw_n (by omega), hu' 5 (by omega)]; exact W.b.ded
  · rw [p_rw_n (by omega), hu' 2 (by omega)]; exact W.b.en
  · by_cases e : r = p
    · subst e
      rw [show 1 + 1 + 1 + r = 2 + 1 + r by omega, p_rw_s, upd_ne (by omega)]; exact W.b.num hr
    · rw [p_rw_n (by omega)]; exact W.b.num hr
  · rw [hPu] at hr
    obtain ⟨r0, r2, r3⟩ := W.b.per h6 hr
    by_cases e : r = p
    · subst e
      rw [show 1 + 1 + 1 + r = 2 + 1 + r by omega, p_rw_s, upd_ne (by omega), upd_ne (by omega), p_us, p_us, upd_ne (by omega), upd_ne (by omega)]
      exact ⟨r0, r2, rfl⟩
    · rw [p_rw_n (by omega), upd_ne (by omega), upd_ne (by omega), upd_ne (by omega)]
      exact ⟨r0, r2, r3⟩
  · rw [hDu] at hd
    obtain ⟨-, l1⟩ := W.i.of hd
    have hdue : s_due (upd s (10 + 3 * p) (nI v)) d = s_due s d := by
      unfold s_due
      rw [s_v_of (hu' (26 + 5 * d) (by omega)), s_v_of (hu' (27 + 5 * d) (by omega)), s_v_of (s := s) (u := upd s (10 + 3 * p) (nI v)) (i := 8 + 3 * s_v s (26 + 5 * d)) (upd_ne (by omega)), s_v_of (s := s) (u := upd s (10 + 3 * p) (nI v)) (i := 9 + 3 * s_v s (26 + 5 * d)) (upd_ne (by omega))]
    rw [p_rw_n (by omega), p_rw_n (by omega), p_rw_n (by omega), p_rw_n (by omega), p_rw_n (by omega), hu' _ (by omega), hu' _ (by omega), hu' _ (by omega), hu' _ (by omega), hdue]
    exact W.b.dd hd
  · rw [p_rw_n (by omega), hDu, hu' _ (by omega)]; exact W.b.mi hr hi
theorem upd_upd (f : Nat → Int32) (k : Nat) (x y : Int32) : upd (upd f k x) k y = upd f k y := by
  funext i
  by_cases h : i = k
  · subst h; rw [p_us, p_us]
  · rw [upd_ne h, upd_ne h, upd_ne h]
/-- whether one is overdue in the end, with that strength -/
def s_late1 (L : List Ru) (s : Nat → Int32) (p v : Nat) : Bool := bt (s_late (s_rest L (upd s (10 + 3 * p) (nI v)) 16)) p
def s_str (L : List Ru) (s : Nat → Int32) (p : Nat) : Nat → Nat → Int32
  | _, 0 => -3
  | v, j + 1 => if s_late1 L s p v then s_str L s p (v + 1) j else nI v
theorem k_strN {m n : lu_M} {L : List Ru} (W : WR m 1 (n 1) L) {p : Nat} (hp : p < s_P (n 1)) (h6 : p < 6) : ∀ (j v q : Nat) (y f x : Nat → Int32), v + j = 10 → 1 ≤ v → j + 1 < q → upd y 3 (m (2 + 1 + p) 3) = m (2 + 1 + p) → ∃ f' x', f11_strengthFor_b35 (f11_strengthFor_b83 (nI p)) (nI p) q (2 + 1 + p) (m (2 + 1 + p) 3) (-3) (nI v) (p_rw (p_rw (p_rw m (2 + 1 + p) y) (1 + 35) f) 73 x) = some (s_str L (n 1) p v j, p_rw (p_rw m (1 + 35) f') 73 x')
  | j, v, q, y, f, x, h, hv, hq, hy => by
    have hback : ∀ (y f x : Nat → Int32), upd y 3 (m (2 + 1 + p) 3) = m (2 + 1 + p) → lu_st (p_rw (p_rw (p_rw m (2 + 1 + p) y) (1 + 35) f) 73 x) (2 + 1 + p) 3 (m (2 + 1 + p) 3) = p_rw (p_rw m (1 + 35) f) 73 x := fun y f x hy => by
      rw [p_st, p_rw_n (by omega), p_rw_n (by omega), p_rw_s, p_rw_sw (a := 73) (by omega), p_rw_sw (a := 1 + 35) (by omega), p_rw_rw, hy, p_rw_id]
    have hst : ∀ (y f x : Nat → Int32) (v : Int32), lu_st (p_rw (p_rw (p_rw m (2 + 1 + p) y) (1 + 35) f) 73 x) (2 + 1 + p) 3 v = p_rw (p_rw (p_rw m (2 + 1 + p) (upd y 3 v)) (1 + 35) f) 73 x := fun y f x v => by
      rw [p_st, p_rw_n (by omega), p_rw_n (by omega), p_rw_s, p_rw_sw (a := 73) (by omega), p_rw_sw (a := 1 + 35) (by omega), p_rw_rw]
    have h83 : ∀ (a : Int32) (y f x : Nat → Int32), upd y 3 (m (2 + 1 + p) 3) = m (2 + 1 + p) → f11_strengthFor_b83 (nI p) (2 + 1 + p) (m (2 + 1 + p) 3) a (p_rw (p_rw (p_rw m (2 + 1 + p) y) (1 + 35) f) 73 x) = some (a, p_rw (p_rw m (1 + 35) f) 73 x) := fun a y f x hy => by
      unfold f11_strengthFor_b83
      rw [p_nm, hback y f x hy]
    obtain ⟨q, rfl⟩ : ∃ r, q = r + 1 := ⟨q - 1, by omega⟩
    show ∃ f' x', f11_strengthFor_b35B _ _ _ _ _ _ _ _ = _
    unfold f11_strengthFor_b35B f11_strengthFor_b77
    rw [show (9 : Int32) = nI 9 from rfl, q_lt (by omega) (by omega)]
    cases j with
    | zero =>
      rw [if_pos (by omega), h83 _ y f x hy]
      exact ⟨f, x, rfl⟩
    | succ j =>
      rw [if_neg (by omega), if_pos rfl, p_nm, hst]
      have hyv : upd y 3 (nI v) = upd (m (2 + 1 + p)) 3 (nI v) := by rw [← hy, upd_upd]
      have W2 := W.st hp hv (by omega : v ≤ 9)
      have W3 : WR (p_rw (p_rw (p_rw m (2 + 1 + p) (upd y 3 (nI v))) (1 + 35) f) 73 x) 1 (upd (n 1) (10 + 3 * p) (nI v)) L := by
        rw [hyv]
        exact W2.tr (fun a h1 h2 => by rw [p_rw_n (by omega), p_rw_n (by omega)])
      obtain ⟨f1, x1, e1⟩ := k_late W3.i W3.b LN73 (by omega) W3.w W3.c
      have e1' : f10_overdueInTheEnd 1 73 (p_rw (p_rw (p_rw m (2 + 1 + p) (upd y 3 (nI v))) (1 + 35) f) 73 x) = some (s_late (s_rest L (upd (n 1) (10 + 3 * p) (nI v)) 16), p_rw (p_rw (p_rw m (2 + 1 + p) (upd y 3 (nI v))) (1 + 35) f1) 73 x1) := by
        refine e1.trans ?_
        rw [p_rw_sw (a := 73) (by omega), p_rw_rw, p_rw_rw]
      rw [e1', p_bi, p_bit _ (by omega), p_if, p_next]
      unfold s_str
      show ∃ f' x', (if s_late1 L (n 1) p v = true then _ else _) = _
      have hy2 : upd (upd y 3 (nI v)) 3 (m (2 + 1 + p) 3) = m (2 + 1 + p) := by rw [upd_upd]; exact hy
      cases hb : s_late1 L (n 1) p v
      · rw [if_neg p_ff, if_neg p_ff]
        obtain ⟨q, rfl⟩ : ∃ r, q = r + 1 := ⟨q - 1, by omega⟩
        refine ⟨f1, x1, ?_⟩
        show f11_strengthFor_b35B _ _ _ _ _ _ _ _ = _
        unfold f11_strengthFor_b35B
        rw [h83 _ _ f1 x1 hy2, if_neg (p_neg (by omega) (by decide))]
        split <;> rfl
      · rw [if_pos rfl, if_pos rfl]
        exact k_strN W hp h6 j (v + 1) q (upd y 3 (nI v)) f1 x1 (by omega) (by omega) (by omega) hy2

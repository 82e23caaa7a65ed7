/-! THE PURE PART: keep, again: what World.copy leaves -/
theorem cpL_row (w v p : Nat) : ∀ (c : Nat) (m : lu_M) (a : Nat), a ≠ w + 21 + 1 + p → cpL w v p c m a = m a
  | 0, _, _, _ => rfl
  | c + 1, m, a, h => by
    unfold cpL
    rw [cpL_row w v p c _ a h, lu_st_row h]

/-! ===== the mean of the moves ===== -/
theorem f_mean {row : Nat → Int32} (hb : PB row) : fX9_mean row = some (FP.ddiv (FP.i2d (nI (mcN row 0 + mcN row 1))) 4611686018427387904) := by
  have h0 := mcN_le row 0
  have h1 := mcN_le row 1
  unfold fX9_mean
  rw [f_moveCount _ hb.pos, Option.bind_some, f_moveCount _ hb.pos, Option.bind_some, nI_add, (mean_bits _ (by omega)).1, grd_t]
theorem f_meanMoves (f : Nat → Int32) : fX8_meanMoves f = some (FP.ddiv (FP.i2d (nI (mcN f 0 + mcN f 1))) 4611686018427387904) := by
  have h0 := mcN_le f 0
  have h1 := mcN_le f 1
  unfold fX8_meanMoves fX8_movesOfBoth
  rw [f_countMoves, Option.bind_some, f_countMoves, Option.bind_some, nI_add, Option.bind_some, (mean_bits _ (by omega)).1, grd_t]

/-! ===== pure part Z: the set-up board ===== -/
theorem f_placeAll (f : Nat → Int32) : ∃ f', AG f' fPI ∧ fX1_placeAll f = some (f', 24) := ⟨va_cpy fPI f 0 0 49, fun s hs => by
  unfold va_cpy
  rw [if_pos ⟨Nat.zero_le _, by omega⟩]
  congr 1
  omega, rfl⟩
theorem set_PB : PB fPI := by
  unfold PB
  decide +kernel
theorem set_UK : UK fPI := by
  unfold UK
  decide +kernel
theorem set_KO : KO fPI := by
  unfold KO
  decide +kernel
theorem set_king : kingN fPI = some 24 := by decide +kernel
/-- the reference's row while the pieces are set -/
def suR (row : Nat → Int32) : Nat → (Nat → Int32)
  | 0 => upd (fun k => if k < 49 then 0 else row k) 24 3
  | 1 => upd (upd (upd (suR row 0) 17 2) 10 1) 3 1
  | 2 => upd (upd (upd (suR row 1) 25 2) 26 1) 27 1
  | 3 => upd (upd (upd (suR row 2) 31 2) 38 1) 45 1
  | _ + 4 => upd (upd (upd (suR row 3) 23 2) 22 1) 21 1
theorem su_hi (row : Nat → Int32) {k : Nat} (hk : 49 ≤ k) : suR row 4 k = row k := by
  simp only [suR, upd]
  rw [if_neg (by omega), if_neg (by omega), if_neg (by omega), if_neg (by omega), if_neg (by omega), if_neg (by omega), if_neg (by omega), if_neg (by omega), if_neg (by omega), if_neg (by omega), if_neg (by omega), if_neg (by omega), if_neg (by omega), if_neg (by omega)]
theorem su_lo (row : Nat → Int32) : AG (suR row 4) fPI := by
  intro k hk
  have h : ∀ k, k < 49 → suR (fun _ => 0) 4 k = fPI k := by decide +kernel
  rw [← h k hk]
  simp only [suR, upd]
  rw [if_pos hk]
  simp only [ite_self]

/-! ===== pure part Z: the set-up board ===== -/
theorem f_placeAll (f : Nat → Int32) : ∃ f', AG f' fPI ∧ fX1_placeAll f = some (f', 24) := ⟨va_cpy fPI f 0 0 49, fun s hs => by
  unfold va_cpy
  rw [if_pos ⟨Nat.zero_le _, by omega⟩]
  congr 1
  omega, rfl⟩
theorem set_PB : PB fPI := by
  unfold PB
  decide +kernel
theorem set_UK : UK fPI := by
  unfold UK
  decide +kernel
theorem set_KO : KO fPI := by
  unfold KO
  decide +kernel
theorem set_king : kingN fPI = some 24 := by decide +kernel
/-- the reference's row while the pieces are set -/
def su0 (row : Nat → Int32) : Nat → Int32 := upd (fun k => if k < 49 then 0 else row k) 24 3
def su1 (row : Nat → Int32) : Nat → Int32 := upd (upd (upd (su0 row) 17 2) 10 1) 3 1
def su2 (row : Nat → Int32) : Nat → Int32 := upd (upd (upd (su1 row) 25 2) 26 1) 27 1
def su3 (row : Nat → Int32) : Nat → Int32 := upd (upd (upd (su2 row) 31 2) 38 1) 45 1
def su4 (row : Nat → Int32) : Nat → Int32 := upd (upd (upd (su3 row) 23 2) 22 1) 21 1
theorem su_hi (row : Nat → Int32) {k : Nat} (hk : 49 ≤ k) : su4 row k = row k := by
  simp only [su4, su3, su2, su1, su0, upd]
  rw [if_neg (by omega), if_neg (by omega), if_neg (by omega), if_neg (by omega), if_neg (by omega), if_neg (by omega), if_neg (by omega), if_neg (by omega), if_neg (by omega), if_neg (by omega), if_neg (by omega), if_neg (by omega), if_neg (by omega), if_neg (by omega)]
theorem su_lo (row : Nat → Int32) : AG (su4 row) fPI := by
  intro k hk
  have h : ∀ k, k < 49 → su4 (fun _ => 0) k = fPI k := by decide +kernel
  rw [← h k hk]
  simp only [su4, su3, su2, su1, su0, upd]
  rw [if_pos hk]
  simp only [ite_self]

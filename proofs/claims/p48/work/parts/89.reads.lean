/-! ===== calls that only read ===== -/
def AN (k q : Int32) (fo : Nat → Int64) (b : Int32) : Prop := q = k ∧ (k = 0 → fo 0 = b.toInt64)
theorem i32_le {a b : Int32} : (a ≤ b) = ¬ (b < a) := by
  rw [eq_iff_iff, Int32.le_iff_toInt_le, Int32.lt_iff_toInt_lt]
  omega
theorem i32_S {a b c : Int32} (h : b.toInt = c.toInt + 1) : (b ≤ a) = (c < a) := by
  rw [eq_iff_iff, Int32.le_iff_toInt_le, Int32.lt_iff_toInt_lt]
  omega
theorem i32_L {a b c : Int32} (h : b.toInt = c.toInt + 1) : (a < b) = ¬ (c < a) := by
  rw [eq_iff_iff, Int32.lt_iff_toInt_lt, Int32.lt_iff_toInt_lt]
  omega
theorem inC_num {a : Int32} {m : Nat} (hm : m < 1000) (h : inC a 0 (nI m) = true) : ∃ k, k ≤ m ∧ a = nI k := by
  unfold inC at h
  rw [Bool.and_eq_true, Bool.not_eq_true', Bool.not_eq_true', decide_eq_false_iff_not, decide_eq_false_iff_not, Int32.lt_iff_toInt_lt, Int32.lt_iff_toInt_lt, nI_toInt (by omega)] at h
  have h0 : (0 : Int32).toInt = 0 := by decide
  rw [h0] at h
  refine ⟨a.toInt.toNat, by omega, Int32.toInt_inj.mp ?_⟩
  rw [nI_toInt (by omega)]
  omega
theorem f_needSquare (a1 a2 : Int32) : fX8_needSquare a1 a2 = some (if inC a1 0 6 && inC a2 0 6 then 0 else 1) := by
  unfold fX8_needSquare inC
  simp only [jn_eq, i32_S (a := a1) (b := 7) (c := 6) (by decide), i32_L (a := a2) (b := 7) (c := 6) (by decide)]
  by_cases e1 : a1 < 0 <;> by_cases e2 : 6 < a1 <;> by_cases e3 : a2 < 0 <;> by_cases e4 : 6 < a2 <;> simp [e1, e2, e3, e4]
theorem f_needSquares (a1 a2 : Int32) : fX8_needSquares a1 a2 = some (if inC a1 0 48 && inC a2 0 48 then 0 else 1) := by
  unfold fX8_needSquares inC
  simp only [jn_eq, i32_S (a := a1) (b := 49) (c := 48) (by decide), i32_L (a := a2) (b := 49) (c := 48) (by decide)]
  by_cases e1 : a1 < 0 <;> by_cases e2 : 48 < a1 <;> by_cases e3 : a2 < 0 <;> by_cases e4 : 48 < a2 <;> simp [e1, e2, e3, e4]
theorem f_needSide (a1 : Int32) : fX8_needSide a1 = some (if inC a1 0 1 then 0 else 1) := by
  unfold fX8_needSide inC
  simp only [jn_eq, i32_le (a := a1) (b := 1)]
  by_cases e1 : a1 < 0 <;> by_cases e2 : 1 < a1 <;> simp [e1, e2]
theorem f_needSlot (a1 : Int32) : fX8_needSlot a1 = some (if inC a1 0 1 then 0 else 2) := by
  unfold fX8_needSlot inC
  simp only [jn_eq, i32_L (a := a1) (b := 2) (c := 1) (by decide)]
  by_cases e1 : a1 < 0 <;> by_cases e2 : 1 < a1 <;> simp [e1, e2]
theorem sq7 : ∀ r, r < 7 → ∀ c, c < 7 → 7 * nI r + nI c = nI (7 * r + c) := by decide +kernel
theorem cellC (a1 a2 : Int32) : ((inC a1 0 6 && inC a2 0 6) = true ∧ ∃ s, s < 49 ∧ 7 * a1 + a2 = nI s) ∨ (inC a1 0 6 && inC a2 0 6) = false := by
  cases e : (inC a1 0 6 && inC a2 0 6) with
  | false => exact Or.inr rfl
  | true =>
    rw [Bool.and_eq_true] at e
    obtain ⟨r, hr, rfl⟩ := inC_num (m := 6) (by decide) e.1
    obtain ⟨c, hc, rfl⟩ := inC_num (m := 6) (by decide) e.2
    exact Or.inl ⟨rfl, 7 * r + c, by omega, sq7 r (by omega) c (by omega)⟩
theorem sqsC (a1 a2 : Int32) : ((inC a1 0 48 && inC a2 0 48) = true ∧ ∃ x y, x < 49 ∧ y < 49 ∧ a1 = nI x ∧ a2 = nI y) ∨ (inC a1 0 48 && inC a2 0 48) = false := by
  cases e : (inC a1 0 48 && inC a2 0 48) with
  | false => exact Or.inr rfl
  | true =>
    rw [Bool.and_eq_true] at e
    obtain ⟨x, hx, rfl⟩ := inC_num (m := 48) (by decide) e.1
    obtain ⟨y, hy, rfl⟩ := inC_num (m := 48) (by decide) e.2
    exact Or.inl ⟨rfl, x, y, by omega, by omega, rfl, rfl⟩
theorem sideC (a : Int32) : (inC a 0 1 = true ∧ isD a) ∨ inC a 0 1 = false := by
  cases e : inC a 0 1 with
  | false => exact Or.inr rfl
  | true =>
    obtain ⟨k, hk, rfl⟩ := inC_num (m := 1) (by decide) e
    rcases (by omega : k = 0 ∨ k = 1) with h | h <;> subst h
    · exact Or.inl ⟨rfl, Or.inl rfl⟩
    · exact Or.inl ⟨rfl, Or.inr rfl⟩
theorem f_needPossible {f : Nat → Int32} (a1 a2 : Int32) : ((inC a1 0 48 && inC a2 0 48) = false ∧ fX8_needPossible f a1 a2 = some 1) ∨ (∃ x y, x < 49 ∧ y < 49 ∧ a1 = nI x ∧ a2 = nI y ∧ (inC a1 0 48 && inC a2 0 48) = true ∧ fX8_needPossible f a1 a2 = some (if reason f x y = 0 then 0 else 3)) := by
  unfold fX8_needPossible
  rw [f_needSquares, Option.bind_some]
  rcases sqsC a1 a2 with ⟨hc, x, y, hx, hy, rfl, rfl⟩ | hc
  · refine Or.inr ⟨x, y, hx, hy, rfl, rfl, hc, ?_⟩
    rw [hc]
    show (fX1_obstacle f (nI x) (nI y)).bind _ = _
    rw [f_obstacle hx hy, Option.bind_some]
    split <;> rfl
  · refine Or.inl ⟨hc, ?_⟩
    rw [hc]
    rfl
theorem reason_pos (b : Nat → Int32) (x y : Nat) : (reason b x y ≤ 0) = (reason b x y = 0) := by
  have h : reason b x y = 0 ∨ reason b x y = 1 ∨ reason b x y = 2 ∨ reason b x y = 3 ∨ reason b x y = 4 := by
    unfold reason
    split
    · simp
    · split
      · simp
      · split
        · split <;> simp
        · simp
  rcases h with h | h | h | h | h <;> rw [h] <;> simp <;> decide
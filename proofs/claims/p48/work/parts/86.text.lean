/-! ===== the reference reads the text ===== -/
def okF (tf : Nat → Int32) (n : Nat) : Prop := ∀ i, i < n → fitB (tf i) (i % 5) = true
theorem erF_ok {tf : Nat → Int32} : ∀ (m i p : Nat), i ≤ p → p ≤ i + m → (∀ j, i ≤ j → j < p → fitB (tf j) (j % 5) = true) → (p < i + m → fitB (tf p) (p % 5) = false) → erF tf m i = p
  | 0, i, p, h1, h2, _, _ => by
    have : i = p := by omega
    exact this
  | m + 1, i, p, h1, h2, h3, h4 => by
    unfold erF
    by_cases e : i = p
    · subst e
      rw [h4 (by omega), if_neg (by decide)]
    · rw [h3 i (Nat.le_refl _) (by omega), if_pos rfl]
      exact erF_ok m (i + 1) p (by omega) (by omega) (fun j a b => h3 j (by omega) b) (fun q => h4 (by omega))
theorem erN_ok {tf : Nat → Int32} {len p : Nat} (h : okF tf p) (hp : p ≤ len) (h4 : p < len → fitB (tf p) (p % 5) = false) : erN tf len = p := erF_ok len 0 p (Nat.zero_le _) (by omega) (fun j _ hj => h j hj) (fun q => h4 (by omega))
/-- the reading has stopped at p -/
def bad (tf : Nat → Int32) (len p : Nat) : Prop := p ≤ len ∧ erN tf len = p ∧ tellB tf len = false
theorem bad_of {tf : Nat → Int32} {len p : Nat} (h : okF tf p) (hp : p ≤ len) (h4 : p < len → fitB (tf p) (p % 5) = false) (h5 : p = len → len % 5 ≠ 4) : bad tf len p := by
  have e := erN_ok h hp h4
  refine ⟨hp, e, ?_⟩
  unfold tellB
  rw [e]
  by_cases q : p = len
  · rw [decide_eq_false (h5 q)]
    rfl
  · rw [decide_eq_false q, Bool.and_false]
theorem tell_of {tf : Nat → Int32} {len : Nat} (h : okF tf len) (h4 : len % 5 = 4) : tellB tf len = true := by
  unfold tellB
  rw [erN_ok h (Nat.le_refl _) (fun q => absurd q (by omega)), decide_eq_true h4, decide_eq_true rfl]
  rfl
theorem tell_ok {tf : Nat → Int32} {len : Nat} (h : tellB tf len = true) : len % 5 = 4 ∧ okF tf len := by
  unfold tellB at h
  rw [Bool.and_eq_true, decide_eq_true_eq, decide_eq_true_eq] at h
  refine ⟨h.1, ?_⟩
  have key : ∀ (m i : Nat), erF tf m i = i + m → ∀ j, i ≤ j → j < i + m → fitB (tf j) (j % 5) = true := by
    intro m
    induction m with
    | zero => intro i _ j a b; omega
    | succ m ih =>
      intro i hi j a b
      unfold erF at hi
      by_cases e : fitB (tf i) (i % 5) = true
      · rw [if_pos e] at hi
        by_cases e2 : j = i
        · rw [e2]; exact e
        · exact ih (i + 1) (by omega) j (by omega) (by omega)
      · rw [if_neg e] at hi
        omega
  exact fun i hi => key len 0 (by rw [Nat.zero_add]; exact h.2) i (Nat.zero_le _) (by omega)
theorem okF_S {tf : Nat → Int32} {p : Nat} (h : okF tf p) (h2 : fitB (tf p) (p % 5) = true) : okF tf (p + 1) := by
  intro i hi
  by_cases e : i = p
  · rw [e]; exact h2
  · exact h i (by omega)
def tkS (tf : Nat → Int32) (len pos : Nat) : Bool := decide (pos < len) && fitB (tf pos) (pos % 5)
theorem inC_m1 {lo hi : Int32} (h : (-1 : Int32) < lo) : inC (-1) lo hi = false := by
  unfold inC
  rw [decide_eq_true h]
  rfl
theorem tk_in {tf : Nat → Int32} {len pos : Nat} {lo hi : Int32} (hlo : (-1 : Int32) < lo) (hf : inC (tf pos) lo hi = fitB (tf pos) (pos % 5)) : inC (hereN tf len pos) lo hi = tkS tf len pos := by
  unfold hereN tkS
  by_cases e : len ≤ pos
  · rw [if_pos e, inC_m1 hlo, decide_eq_false (by omega)]
    rfl
  · rw [if_neg e, decide_eq_true (by omega), hf]
    rfl
theorem fit_a (c : Int32) {m : Nat} (h : m = 0 ∨ m = 2) : inC c 97 103 = fitB c m := by
  unfold fitB
  rw [if_pos h]
  rfl
theorem fit_1 (c : Int32) {m : Nat} (h : m = 1 ∨ m = 3) : inC c 49 55 = fitB c m := by
  unfold fitB
  rw [if_neg (by omega), if_pos h]
  rfl
theorem fit_s (c : Int32) : inC c 59 59 = fitB c 4 := by
  unfold fitB inC
  rw [if_neg (by omega), if_neg (by omega)]
  by_cases e : c = 59
  · subst e
    rfl
  · rw [decide_eq_false e]
    by_cases e1 : c < 59
    · rw [decide_eq_true e1]
      rfl
    · have e2 : (59 : Int32) < c := by
        rw [Int32.lt_iff_toInt_lt] at e1 ⊢
        have : c.toInt ≠ (59 : Int32).toInt := fun q => e (Int32.toInt_inj.mp q)
        omega
      rw [decide_eq_true e2, Bool.not_true, Bool.and_false]
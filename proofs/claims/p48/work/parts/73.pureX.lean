/-! ===== pure part X: the text (the class) ===== -/
def fitB (c : Int32) (m : Nat) : Bool := if m = 0 ∨ m = 2 then !decide (c < 97) && !decide (103 < c) else if m = 1 ∨ m = 3 then !decide (c < 49) && !decide (55 < c) else decide (c = 59)
theorem f_fits (c : Int32) {m : Nat} (hm : m < 5) : fX4_fits c (nI m) = some (b01 (fitB c m)) := by
  unfold fX4_fits fitB
  have key : ∀ (p q : Prop) [Decidable p] [Decidable q], (if p then (some 0) else if q then some 0 else some 1 : Option Int32) = some (b01 (!decide p && !decide q)) := fun p q _ _ => by
    by_cases hp : p
    · simp [hp, b01]
    · by_cases hq : q
      · simp [hp, hq, b01]
      · simp [hp, hq, b01]
  rcases (by omega : m = 0 ∨ m = 1 ∨ m = 2 ∨ m = 3 ∨ m = 4) with h | h | h | h | h <;> subst h
  · exact key (c < 97) (103 < c)
  · exact key (c < 49) (55 < c)
  · exact key (c < 97) (103 < c)
  · exact key (c < 49) (55 < c)
  · show (if c = 59 then some 1 else some 0) = some (b01 (decide (c = 59)))
    by_cases h : c = 59
    · simp [h, b01]
    · simp [h, b01]
theorem mod5 : ∀ i, i < 61 → nI i - nI i / 5 * 5 = nI (i % 5) := by decide +kernel
/-- the first place that does not fit; the length if all fit -/
def erF (tf : Nat → Int32) : Nat → Nat → Nat
  | 0, i => i
  | m + 1, i => if fitB (tf i) (i % 5) then erF tf m (i + 1) else i
def erN (tf : Nat → Int32) (len : Nat) : Nat := erF tf len 0
theorem f_tcodeAt {tf : Nat → Int32} {len i : Nat} (hl : len ≤ 60) (hi : i < len) : fX4_codeAt (nI len) tf (nI i) = some (tf i) := by
  unfold fX4_codeAt
  rw [if_neg (nlt0 (by omega)), if_pos (nI_lt hi (by omega)), inB_t (by omega) (by decide), grd_t, nI_clamp (by omega)]
theorem f_errorIndex (tf : Nat → Int32) {len : Nat} (hl : len ≤ 60) : fX4_errorIndex (nI len) tf = some (nI (erN tf len)) := by
  have key : ∀ (m i : Nat), i + m = len → Runs (fX4_errorIndex_L2_B (nI len) tf) (m + 1) (nI i) (some (nI (erF tf m i))) := by
    intro m
    induction m with
    | zero =>
      intro i hi
      refine Runs.stop (fun self => ?_)
      unfold fX4_errorIndex_L2_B
      rw [if_pos (nI_le (by omega) (by omega)), show len = i by omega]
      rfl
    | succ m ih =>
      intro i hi
      unfold erF
      by_cases h : fitB (tf i) (i % 5) = true
      · rw [if_pos h]
        refine Runs.step (fun self => ?_) (ih (i + 1) (by omega))
        unfold fX4_errorIndex_L2_B
        rw [if_neg (nI_ge (by omega) (by omega)), f_tcodeAt hl (by omega), Option.bind_some, mod5 i (by omega), f_fits _ (Nat.mod_lt _ (by decide)), Option.bind_some, h, if_neg (by decide), nI_1]
      · rw [if_neg h]
        refine Runs.more (k := 1) (Runs.stop (fun self => ?_)) (by omega)
        unfold fX4_errorIndex_L2_B
        rw [if_neg (nI_ge (by omega) (by omega)), f_tcodeAt hl (by omega), Option.bind_some, mod5 i (by omega), f_fits _ (Nat.mod_lt _ (by decide)), Option.bind_some, ite_b01, if_neg h]
  exact key len 0 (by omega) 64 (by omega)
theorem erF_le (tf : Nat → Int32) : ∀ m i, i ≤ erF tf m i ∧ erF tf m i ≤ i + m
  | 0, i => ⟨Nat.le_refl _, Nat.le_refl _⟩
  | m + 1, i => by
    have := erF_le tf m (i + 1)
    unfold erF
    split
    · exact ⟨by omega, by omega⟩
    · exact ⟨by omega, by omega⟩
theorem erN_le (tf : Nat → Int32) (len : Nat) : erN tf len ≤ len := by
  have := (erF_le tf len 0).2
  unfold erN
  omega
def tellB (tf : Nat → Int32) (len : Nat) : Bool := decide (len % 5 = 4) && decide (erN tf len = len)
theorem f_tellsMoves (tf : Nat → Int32) {len : Nat} (hl : len ≤ 60) : fX4_tellsMoves (nI len) tf = some (b01 (tellB tf len)) := by
  have he := erN_le tf len
  unfold fX4_tellsMoves tellB
  rw [mod5 len (by omega), f_errorIndex tf hl, Option.bind_some]
  have e1 : (nI (len % 5) = 4) = (len % 5 = 4) := nI_inj (b := 4) (by omega) (by decide)
  simp only [e1, nI_inj (show erN tf len < 2 ^ 31 by omega) (show len < 2 ^ 31 by omega)]
  by_cases h1 : len % 5 = 4
  · by_cases h2 : erN tf len = len
    · simp [h1, h2, b01]
    · simp [h1, h2, b01]
  · simp [h1, b01]

/-! ===== pure part F, second: the reference's step ===== -/
def gone (c : Nat → Bool) (y : Nat) : Nat → Int64
  | 0 => 0
  | i + 1 => gone c y i ||| bt (c i) (enc (nx y i))
theorem gone_4 (c : Nat → Bool) (y : Nat) : gone c y 4 = goneG y (c 0) (c 1) (c 2) (c 3) := rfl
theorem caught_some {b : Nat → Int32} {g : Bool} {m : Int32} {y w : Nat} (h : caught b g m y w = true) : ∃ t, nx y w = some t ∧ b t ≠ 0 ∧ sd (b t) ≠ m := by
  unfold caught at h
  cases hn : nx y w with
  | none => rw [hn] at h; cases h
  | some t =>
    rw [hn] at h
    simp only [Bool.and_eq_true, Bool.not_eq_true', decide_eq_false_iff_not] at h
    exact ⟨t, rfl, h.1.1, h.1.2⟩
theorem gone_count {b : Nat → Int32} {g : Bool} {m : Int32} {y : Nat} (hy : y < 49) : sumN (fun s => if inG (caught b g m y) y s then 1 else 0) 49 = nT (caught b g m y) := by
  refine gone_sum y hy _ _ _ _ ?_
  have q : ∀ w, (caught b g m y w && (nx y w).isNone) = false := by
    intro w
    cases hc : caught b g m y w with
    | false => rfl
    | true =>
      obtain ⟨t, ht, -⟩ := caught_some hc
      rw [ht]
      rfl
  rw [q, q, q, q]
  rfl
theorem inG_some {c : Nat → Bool} {y s : Nat} (h : inG c y s = true) : ∃ w, w < 4 ∧ c w = true ∧ nx y w = some s := by
  unfold inG at h
  simp only [Bool.or_eq_true, Bool.and_eq_true, beq_iff_eq] at h
  rcases h with ((h | h) | h) | h
  · exact ⟨0, by decide, h⟩
  · exact ⟨1, by decide, h⟩
  · exact ⟨2, by decide, h⟩
  · exact ⟨3, by decide, h⟩
theorem inG_of {c : Nat → Bool} {y s w : Nat} (hw : w < 4) (h1 : c w = true) (h2 : nx y w = some s) : inG c y s = true := by
  unfold inG
  rcases (by omega : w = 0 ∨ w = 1 ∨ w = 2 ∨ w = 3) with rfl | rfl | rfl | rfl <;> rw [h1, h2] <;> simp
theorem PB.mv {b : Nat → Int32} (h : PB b) {x y : Nat} (hx : x < 49) : PB (mvB b x y) := by
  intro s hs
  unfold mvB upd
  split
  · exact Or.inl rfl
  split
  · exact h x hx
  · exact h s hs
theorem PB.tk {b : Nat → Int32} (h : PB b) {c : Nat → Bool} {y : Nat} : PB (tkB b c y) := by
  intro s hs
  unfold tkB
  split
  · exact Or.inl rfl
  · exact h s hs
theorem sd_D {p : Int32} (h : p ≠ 0) : isD (sd p) := by
  unfold sd
  rw [if_neg h]
  split
  · exact Or.inl rfl
  · exact Or.inr rfl
/-- the reference's row behind the move: the board, and the count of what was taken -/
def stR (row : Nat → Int32) (x y : Nat) : Nat → Int32 :=
  let b := mvB row x y
  let c := caught b (decide (row 52 = 1)) (sd (row x)) y
  fun k => if inG c y k then 0 else if k = 58 ∧ sd (row x) = 1 ∨ k = 59 ∧ sd (row x) = 0 then row k + nI (nT c) else b k
def stN (row : Nat → Int32) (x y : Nat) : Nat := nT (caught (mvB row x y) (decide (row 52 = 1)) (sd (row x)) y)
theorem or_z (v : Int64) : v ||| 0 = v := by
  apply Int64.toBitVec_inj.mp
  rw [Int64.toBitVec_or]
  simp
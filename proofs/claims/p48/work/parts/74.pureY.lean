/-! ===== pure part Y: what is in its bounds (the reference) ===== -/
theorem lg_lt0 {a b : Int64} : (lg_cmp a b < 0) = (a < b) := by
  unfold lg_cmp
  rw [eq_iff_iff]
  by_cases h1 : a > b
  · rw [if_pos h1]
    refine ⟨fun h => absurd h (by decide), fun h => ?_⟩
    rw [Int64.lt_iff_toInt_lt] at h
    have h1 : b < a := h1
    rw [Int64.lt_iff_toInt_lt] at h1
    omega
  · rw [if_neg h1]
    by_cases h2 : a = b
    · rw [if_pos h2, h2]
      refine ⟨fun h => absurd h (by decide), fun h => ?_⟩
      rw [Int64.lt_iff_toInt_lt] at h
      omega
    · rw [if_neg h2]
      refine ⟨fun _ => ?_, fun _ => by decide⟩
      rw [Int64.lt_iff_toInt_lt]
      have h1 : ¬ b < a := h1
      rw [Int64.lt_iff_toInt_lt] at h1
      have h3 : a.toInt ≠ b.toInt := fun e => h2 (Int64.toInt_inj.mp e)
      omega
theorem lg_gt0 {a b : Int64} : (0 < lg_cmp a b) = (b < a) := by
  unfold lg_cmp
  rw [eq_iff_iff]
  by_cases h1 : a > b
  · rw [if_pos h1]
    exact ⟨fun _ => h1, fun _ => by decide⟩
  · rw [if_neg h1]
    refine ⟨fun h => ?_, fun h => absurd h h1⟩
    split at h
    · exact absurd h (by decide)
    · exact absurd h (by decide)
theorem l64_lt {a b : Int32} : (a.toInt64 < b.toInt64) = (a < b) := by
  rw [eq_iff_iff, Int64.lt_iff_toInt_lt, Int32.lt_iff_toInt_lt, Int32.toInt_toInt64, Int32.toInt_toInt64]
def inC (v lo hi : Int32) : Bool := !decide (v < lo) && !decide (hi < v)
/-! the reference reads one sign -/
def hereN (tf : Nat → Int32) (len pos : Nat) : Int32 := if len ≤ pos then -1 else tf pos
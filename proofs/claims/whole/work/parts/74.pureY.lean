/-! ===== pure part Y: what is in its bounds (the reference) ===== -/
theorem lg_lt0 {a b : Int64} : (lg_cmp a b < 0) = (a < b) := by
  unfold lg_cmp
  rw [eq_iff_iff]
  by_cases h1 : a > b
  · rw [if_pos h1]
    refine ⟨fun h => absurd h (by decide), fun h => ?_⟩
    rw [Int64.lt_iff_toInt_lt] at h
    have h1 : b < a := h1
    rw [Int64.lt_iff_toInt_lt] at h1
    omega
  · rw [if_neg h1]
    by_cases h2 : a = b
    · rw [if_pos h2, h2]
      refine ⟨fun h => absurd h (by decide), fun h => ?_⟩
      rw [Int64.lt_iff_toInt_lt] at h
      omega
    · rw [if_neg h2]
      refine ⟨fun _ => ?_, fun _ => by decide⟩
      rw [Int64.lt_iff_toInt_lt]
      have h1 : ¬ b < a := h1
      rw [Int64.lt_iff_toInt_lt] at h1
      have h3 : a.toInt ≠ b.toInt := fun e => h2 (Int64.toInt_inj.mp e)
      omega
theorem lg_gt0 {a b : Int64} : (0 < lg_cmp a b) = (b < a) := by
  unfold lg_cmp
  rw [eq_iff_iff]
  by_cases h1 : a > b
  · rw [if_pos h1]
    exact ⟨fun _ => h1, fun _ => by decide⟩
  · rw [if_neg h1]
    refine ⟨fun h => ?_, fun h => absurd h h1⟩
    split at h
    · exact absurd h (by decide)
    · exact absurd h (by decide)
theorem l64_lt {a b : Int32} : (a.toInt64 < b.toInt64) = (a < b) := by
  rw [eq_iff_iff, Int64.lt_iff_toInt_lt, Int32.lt_iff_toInt_lt, Int32.toInt_toInt64, Int32.toInt_toInt64]
theorem f_in (v lo hi : Int32) : fX9_in v.toInt64 lo.toInt64 hi.toInt64 = some (b01 (!decide (v < lo) && !decide (hi < v))) := by
  unfold fX9_in
  simp only [lg_lt0, lg_gt0, l64_lt]
  by_cases h1 : v < lo
  · simp [h1, b01]
  · by_cases h2 : hi < v
    · simp [h1, h2, b01]
    · simp [h1, h2, b01]
def inC (v lo hi : Int32) : Bool := !decide (v < lo) && !decide (hi < v)
theorem f_isSquare (v : Int32) : fX9_isSquare v = some (b01 (inC v 0 48)) := by
  unfold fX9_isSquare
  rw [show fX9_in v.toInt64 0 48 = some (b01 (inC v 0 48)) from f_in v 0 48, Option.bind_some, is01_b01, grd_t]
theorem f_isSide (v : Int32) : fX9_isSide v = some (b01 (inC v 0 1)) := by
  unfold fX9_isSide
  rw [show fX9_in v.toInt64 0 1 = some (b01 (inC v 0 1)) from f_in v 0 1, Option.bind_some, is01_b01, grd_t]
theorem f_isSlot (v : Int32) : fX9_isSlot v = some (b01 (inC v 0 1)) := by
  unfold fX9_isSlot
  rw [show fX9_in v.toInt64 0 1 = some (b01 (inC v 0 1)) from f_in v 0 1, Option.bind_some, is01_b01, grd_t]
theorem f_isCell (v w : Int32) : fX9_isCell v w = some (b01 (inC v 0 6 && inC w 0 6)) := by
  unfold fX9_isCell
  rw [show fX9_in v.toInt64 0 6 = some (b01 (inC v 0 6)) from f_in v 0 6, show fX9_in w.toInt64 0 6 = some (b01 (inC w 0 6)) from f_in w 0 6, Option.bind_some, Option.bind_some]
  cases inC v 0 6 <;> cases inC w 0 6 <;> rfl
/-! the reference reads one sign -/
def hereN (tf : Nat → Int32) (len pos : Nat) : Int32 := if len ≤ pos then -1 else tf pos
theorem f_here (tf : Nat → Int32) {len pos : Nat} (hl : len ≤ 60) (hp : pos ≤ len) : fX9_here (nI len) (nI pos) tf = some (hereN tf len pos) := by
  unfold fX9_here hereN
  by_cases h : len ≤ pos
  · rw [if_pos (nI_le h (by omega)), if_pos h]
  · rw [if_neg (nI_ge (by omega) (by omega)), if_neg h, inB_t (by omega) (by decide), grd_t, nI_clamp (by omega)]
theorem f_take (tf : Nat → Int32) {len pos : Nat} (hl : len ≤ 60) (hp : pos ≤ len) (gd : Bool) (lo hi : Int32) : fX9_take (nI len) (nI pos) (b01 gd) tf lo hi = some (if gd && inC (hereN tf len pos) lo hi then hereN tf len pos - lo else 0, b01 (gd && inC (hereN tf len pos) lo hi), nI (pos + (if gd && inC (hereN tf len pos) lo hi then 1 else 0))) := by
  unfold fX9_take
  rw [f_here tf hl hp, Option.bind_some, show fX9_in (hereN tf len pos).toInt64 lo.toInt64 hi.toInt64 = some (b01 (inC (hereN tf len pos) lo hi)) from f_in _ _ _]
  simp only [jn_eq, Option.bind_some, ite_b01]
  cases gd with
  | false => simp [b01, is01, grd]
  | true =>
    cases inC (hereN tf len pos) lo hi with
    | false => simp [b01, is01, grd]
    | true => simp [b01, is01, grd, nI_1]

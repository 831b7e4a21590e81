/-! ===== calls that read, with rows of their own to try on ===== -/
theorem AN_yes {fo : Nat → Int64} {b : Int32} : AN 0 0 (vp_updL fo 0 b.toInt64) b := ⟨rfl, fun _ => updL_eq⟩
theorem AN_no {k : Int32} {fo : Nat → Int64} {b : Int32} (h : k ≠ 0) : AN k k fo b := ⟨rfl, fun e => absurd e h⟩
theorem nI_prI : ∀ n, n < 589 → (nI n).toInt = (nI n - 1).toInt + 1 := by decide +kernel
/-! ===== the reference tidies, B (N): the whole of it ===== -/
def HM (mv : Nat → Int32) (k : Int32) : Prop := k = -1 ∨ ∃ i, i < 4096 ∧ k = nI i ∧ mv i = 0
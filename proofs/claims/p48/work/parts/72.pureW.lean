/-! ===== pure part W: the reference marks the nodes that are live ===== -/
/-- what is marked is closed, but for nodes that wait for K -/
def ClK (B : Nat → Int32) (C : Nat → Prop) (mv : Nat → Int32) (K : Int32) : Prop := ∀ i, C i → mv i = 0 → B i = -1 ∨ B i = K ∨ ∃ j, C j ∧ B i = nI j ∧ mv j = 0
/-- marks are 0, all else -1, and only live nodes are marked -/
def MkC (C : Nat → Prop) (mv : Nat → Int32) : Prop := ∀ i, i < 4096 → mv i = -1 ∨ (mv i = 0 ∧ C i)
def MkK (C : Nat → Prop) (mv : Nat → Int32) (k : Int32) : Prop := k = -1 ∨ ∃ i, C i ∧ k = nI i ∧ mv i = 0
/-! ===== groups of states, rows of references that stay, fields that may be null ===== -/
abbrev SV : Type := (Nat → Int32) × Int32 × Int32 × Int32 × Int32 × Int32 × Option Nat × Int32 × Int32 × Int32 × Int32 × Int32 × Int32
def s6 {α : Type} (a b c d e f : α) (k : Nat) : α := match k with
  | 0 => a
  | 1 => b
  | 2 => c
  | 3 => d
  | 4 => e
  | _ => f
def s2 {α : Type} (a b : α) (k : Nat) : α := match k with
  | 0 => a
  | _ => b
def al (L : List Nat) (k : Nat) : Option Nat := L[k]?
theorem nar_rf {C : String} {x : Option Nat} : narrow (.object C) (va_rf x) = va_rf x := by
  cases x <;> rfl
theorem fit_rf {C : String} {x : Option Nat} : fits (.object C) (va_rf x) = true := by
  cases x <;> rfl
section BASE5
variable {p : Program} {l : Launch} {e : Env} {R : Room} {s : State} {m : MethodId} {args : Array Value} {below : List Frame} {meth : Method} {c : Code} {H : Heap} {locs : List Loc} {cells slots : Nat} {Q : State → Prop} {pc : Nat} {ls : Array Slot} {rest : List Value}
theorem lv_eqv {z : Value} (x : Value) (h : z = x) (k : W p l e R s m args below meth c H locs cells slots Q (F0 m pc ls (x :: rest))) : W p l e R s m args below meth c H locs cells slots Q (F0 m pc ls (z :: rest)) := h ▸ k
end BASE5

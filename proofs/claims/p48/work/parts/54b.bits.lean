/-! ===== pure part F: a move is made, what it takes (the reference) ===== -/
/-- the board with the piece moved -/
def mvB (b : Nat → Int32) (x y : Nat) : Nat → Int32 := upd (upd b y (b x)) x 0
/-- is the piece beside y, on the way w, taken (of the board with the piece moved; m: the mover's side; g: the king is strong) -/
def caught (b : Nat → Int32) (g : Bool) (m : Int32) (y w : Nat) : Bool := match nx y w with
  | none => false
  | some t => !decide (b t = 0) && !decide (sd (b t) = m) && (if decide (b t = 3) && (g || nearT t) then shutB b t else match nx t w with
    | none => false
    | some q => host b q (sd (b t)))
def inG (c : Nat → Bool) (y s : Nat) : Bool := (c 0 && nx y 0 == some s) || (c 1 && nx y 1 == some s) || (c 2 && nx y 2 == some s) || (c 3 && nx y 3 == some s)
def nT (c : Nat → Bool) : Nat := (c 0).toNat + (c 1).toNat + (c 2).toNat + (c 3).toNat
/-- the board with the taken pieces away -/
def tkB (b : Nat → Int32) (c : Nat → Bool) (y : Nat) : Nat → Int32 := fun s => if inG c y s then 0 else b s
def bt (c : Bool) (s : Int32) : Int64 := if c then (1 : Int64) <<< (s.toInt64 &&& 63) else 0
def goneG (y : Nat) (c0 c1 c2 c3 : Bool) : Int64 := (((0 ||| bt c0 (enc (nx y 0))) ||| bt c1 (enc (nx y 1))) ||| bt c2 (enc (nx y 2))) ||| bt c3 (enc (nx y 3))
theorem gone_bits : ∀ y, y < 49 → ∀ c0 c1 c2 c3 : Bool, ∀ s, s < 49 → decide (lg_cmp ((goneG y c0 c1 c2 c3 >>> ((nI s).toInt64 &&& 63)) &&& 1) 1 = 0) = ((c0 && nx y 0 == some s) || (c1 && nx y 1 == some s) || (c2 && nx y 2 == some s) || (c3 && nx y 3 == some s)) := by decide +kernel
theorem gone_sum : ∀ y, y < 49 → ∀ c0 c1 c2 c3 : Bool, ((c0 && (nx y 0).isNone) || (c1 && (nx y 1).isNone) || (c2 && (nx y 2).isNone) || (c3 && (nx y 3).isNone)) = false → sumN (fun s => if ((c0 && nx y 0 == some s) || (c1 && nx y 1 == some s) || (c2 && nx y 2 == some s) || (c3 && nx y 3 == some s)) then 1 else 0) 49 = c0.toNat + c1.toNat + c2.toNat + c3.toNat := by decide +kernel

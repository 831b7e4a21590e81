/-! ===== pure part L: the reference's walks over the moves ===== -/
theorem tlF_yes {b : Nat → Int32} {x n y : Nat} (h : reason b x y = 0) : tlF b x (n + 1) y = y :: tlF b x n (y + 1) := by
  show (if _ then _ else _) = _
  rw [if_pos h]
theorem tlF_no {b : Nat → Int32} {x n y : Nat} (h : ¬ reason b x y = 0) : tlF b x (n + 1) y = tlF b x n (y + 1) := by
  show (if _ then _ else _) = _
  rw [if_neg h]
theorem mlF_yes {b : Nat → Int32} {d : Int32} {n x : Nat} (h : sd (b x) = d) : mlF b d (n + 1) x = cds x (tlF b x 49 0) ++ mlF b d n (x + 1) := by
  show (if _ then _ else _) ++ _ = _
  rw [if_pos h]
  rfl
theorem mlF_no {b : Nat → Int32} {d : Int32} {n x : Nat} (h : ¬ sd (b x) = d) : mlF b d (n + 1) x = mlF b d n (x + 1) := by
  show (if _ then _ else _) ++ _ = _
  rw [if_neg h]
  rfl
theorem cds_cons (x y : Nat) (l : List Nat) : cds x (y :: l) = (49 * x + y) :: cds x l := rfl
theorem cd_div {x y : Nat} (hy : y < 49) : (49 * x + y) / 49 = x := by omega
theorem cd_mod {x y : Nat} (hy : y < 49) : (49 * x + y) % 49 = y := by omega
/-! which move stands at a place -/
def omK (self3 : Option Int32) (l : List Nat) (i c : Nat) : Option Int32 := match l[i - c]? with
  | some k => some (nI k)
  | none => self3
/-! how many moves win -/
/-! what a move is worth -/
def worN (b : Nat → Int32) (g : Bool) (x y : Nat) : Int32 := if winB b g x y then 1000 else 20 * nI (takN b g x y) - 100 * nI (WN (mov b g x y) g (1 - sd (b x)))
theorem AG_worN {b c : Nat → Int32} (h : AG b c) {x y : Nat} (hx : x < 49) (hy : y < 49) (g : Bool) : worN b g x y = worN c g x y := by
  unfold worN
  rw [AG_winB h hx hy, AG_takN h hx hy, AG_WN (AG_mov h hx hy g), h x hx]
theorem wor_fin : ∀ t, t < 5 → ∀ n, n < 589 → ¬ (20 * nI t - 100 * nI n ≤ (-99999 : Int32)) := by decide +kernel
theorem isD_opp {d : Int32} (h : isD d) : isD (1 - d) := by
  rcases h with h | h <;> rw [h]
  · exact Or.inr rfl
  · exact Or.inl rfl
theorem worN_lo {b : Nat → Int32} {g : Bool} {x y : Nat} (h0 : b x ≠ 0) : ¬ worN b g x y ≤ (-99999 : Int32) := by
  unfold worN
  split
  · decide
  · have h1 := takN_le b g x y
    have h2 := WN_le (b := mov b g x y) (g := g) (isD_opp (sd_D h0))
    exact wor_fin _ (by omega) _ (by omega)
theorem st_52 {row : Nat → Int32} {x y : Nat} (hx : x < 49) (hy : y < 49) : stR row x y 52 = row 52 := by
  have hn : inG (caught (mvB row x y) (decide (row 52 = 1)) (sd (row x)) y) y 52 = false := by
    cases e : inG (caught (mvB row x y) (decide (row 52 = 1)) (sd (row x)) y) y 52 with
    | false => rfl
    | true =>
      obtain ⟨w, hw, _, h3⟩ := inG_some e
      exact absurd (nx_lt y hy w hw 52 h3) (by decide)
  unfold stR
  rw [hn, if_neg (by decide), if_neg (by omega)]
  unfold mvB upd
  rw [if_neg (by omega), if_neg (by omega)]
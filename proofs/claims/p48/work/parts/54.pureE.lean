/-! ===== pure part E: why a piece cannot be moved so ===== -/
theorem div7 : ∀ a, a < 49 → nI a / 7 = nI (a / 7) := by decide +kernel
theorem mod7 : ∀ a, a < 49 → nI a - nI a / 7 * 7 = nI (a % 7) := by decide +kernel
/-- the way of a straight move -/
def wayOf (a b : Nat) : Option Nat := if a = b then none else if a / 7 = b / 7 then (if b ≤ a then some 3 else some 1) else if a % 7 = b % 7 then (if b ≤ a then some 0 else some 2) else none
/-- the squares behind a, up to b -/
def segOf (a b : Nat) : List Nat := match wayOf a b with
  | none => []
  | some w => (ray a w).take (if a / 7 = b / 7 then (b - a) + (a - b) else ((b - a) + (a - b)) / 7)
def sgB (w to : Nat) : Nat → List Nat → Bool
  | _, [] => false
  | p, t :: l => (nx p w == some t) && (!(nx to w == some t)) && (match l with
    | [] => t == to
    | _ :: _ => !(t == to) && sgB w to t l)
theorem seg_ok : ∀ a, a < 49 → ∀ b, b < 49 → ∀ w, w < 4 → wayOf a b = some w → sgB w b a (segOf a b) = true := by decide +kernel
theorem seg_len : ∀ a, a < 49 → ∀ b, b < 49 → (segOf a b).length ≤ 6 := by decide +kernel
theorem way_lt : ∀ a b w, wayOf a b = some w → w < 4 := by
  intro a b w h
  unfold wayOf at h
  split at h
  · cases h
  split at h
  · split at h <;> cases h <;> decide
  split at h
  · split at h <;> cases h <;> decide
  · cases h
def reason (b : Nat → Int32) (x y : Nat) : Int32 := if b x = 0 then 1 else match wayOf x y with
  | none => 2
  | some _ => if (segOf x y).all (fun t => decide (b t = 0)) then (if rst (b x) y then 0 else 4) else 3
theorem sgB_1 {w to p t : Nat} {l : List Nat} (h : sgB w to p (t :: l) = true) : nx p w = some t ∧ nx to w ≠ some t := by
  unfold sgB at h
  simp only [Bool.and_eq_true, beq_iff_eq, Bool.not_eq_true', beq_eq_false_iff_ne] at h
  exact h.1
theorem sgB_e {w to p t : Nat} (h : sgB w to p [t] = true) : t = to := by
  unfold sgB at h
  simp only [Bool.and_eq_true, beq_iff_eq] at h
  exact h.2
theorem sgB_n {w to p t t2 : Nat} {l : List Nat} (h : sgB w to p (t :: t2 :: l) = true) : t ≠ to ∧ sgB w to t (t2 :: l) = true := by
  rw [sgB] at h
  simp only [Bool.and_eq_true, Bool.not_eq_true', beq_eq_false_iff_ne] at h
  exact h.2
/-! the class -/
def dw (w : Nat) : Nat := if w = 0 then 0 else if w = 1 then 2 else if w = 2 then 3 else 1
theorem cw_dw : ∀ w, w < 4 → cw (dw w) = w := by decide +kernel
theorem dw_lt : ∀ w, w < 4 → dw w < 4 := by decide +kernel
theorem f_directionOf : ∀ a, a < 49 → ∀ y, y < 49 → fX8_directionOf (nI a) (nI y) = some (enc ((wayOf a y).map dw)) := by decide +kernel
theorem if_loop {f : Nat → Int32} {y d : Nat} (hy : y < 49) (hd : d < 4) : ∀ (l : List Nat) (p st : Nat), p < 49 → sgB (cw d) y p l = true → st + l.length ≤ 7 → Runs (fun (zf : Int32 × Int32 → Option Int32) z => fX1_isFreeTo_L6_B f (nI y) (nI d) (fun v4 v5 => zf (v4, v5)) z.1 z.2) (l.length + 1) (nI p, nI st) (some (b01 (l.all (fun t => decide (f t = 0)))))
  | [], _, _, _, h, _ => by cases h
  | t :: l, p, st, hpp, h, hst => by
    have h1 := sgB_1 h
    have ht : t < 49 := nx_lt p hpp _ (cw_lt d) t h1.1
    have hlen : st + (l.length + 1) ≤ 7 := hst
    have hB : ∀ self : Int32 → Int32 → Option Int32, fX1_isFreeTo_L6_B f (nI y) (nI d) self (nI p) (nI st) = if f t = 0 then (if t = y then some 1 else self (nI t) (nI (st + 1))) else some 0 := by
      intro self
      unfold fX1_isFreeTo_L6_B
      rw [if_neg (nle (c := 7) (by omega) (by decide)), f_beside p hpp d hd, Option.bind_some, h1.1]
      show (if nI t < 0 then some 0 else (fX1_at f (nI t)).bind _) = _
      rw [if_neg (nlt0 (by omega)), f_at ht, Option.bind_some]
      have e3 : (nI t = nI y) = (t = y) := nI_inj (by omega) (by omega)
      simp only [enc, e3, nI_1]
    by_cases h0 : f t = 0
    · cases l with
      | nil =>
        have e := sgB_e h
        refine Runs.more (k := 1) (Runs.stop (fun self => ?_)) (by omega)
        show fX1_isFreeTo_L6_B f (nI y) (nI d) _ (nI p) (nI st) = _
        rw [hB, if_pos h0, if_pos e]
        simp [h0, b01]
      | cons t2 l =>
        have hn := sgB_n h
        have := if_loop (f := f) hy hd (t2 :: l) t (st + 1) ht hn.2 (by have : st + (l.length + 1 + 1) ≤ 7 := hst; show st + 1 + (l.length + 1) ≤ 7; omega)
        refine Runs.step (z' := (nI t, nI (st + 1))) (fun self => ?_) ?_
        · show fX1_isFreeTo_L6_B f (nI y) (nI d) _ (nI p) (nI st) = _
          rw [hB, if_pos h0, if_neg hn.1]
        · rw [List.all_cons, h0]
          exact this
    · refine Runs.more (k := 1) (Runs.stop (fun self => ?_)) (by omega)
      show fX1_isFreeTo_L6_B f (nI y) (nI d) _ (nI p) (nI st) = _
      rw [hB, if_neg h0, List.all_cons, decide_eq_false h0]
      rfl
theorem f_obstacle {f : Nat → Int32} {a y : Nat} (ha : a < 49) (hy : y < 49) : fX1_obstacle f (nI a) (nI y) = some (reason f a y) := by
  unfold fX1_obstacle reason
  rw [f_at ha, Option.bind_some]
  by_cases h0 : f a = 0
  · rw [if_pos h0, if_pos h0]
  rw [if_neg h0, if_neg h0, f_directionOf a ha y hy, Option.bind_some]
  cases hw : wayOf a y with
  | none => rfl
  | some w =>
    have hw4 := way_lt a y w hw
    have hd := dw_lt w hw4
    show (if (0 : Int32) ≤ nI (dw w) then (fX1_isFreeTo f (nI a) (nI y) (nI (dw w))).bind _ else some 2) = _
    rw [if_pos (nI_pos' (by omega))]
    have h1 : fX1_isFreeTo f (nI a) (nI y) (nI (dw w)) = some (b01 ((segOf a y).all (fun t => decide (f t = 0)))) := by
      unfold fX1_isFreeTo fX1_isFreeTo_L6
      exact if_loop hy hd (segOf a y) a 1 ha (by rw [cw_dw w hw4]; exact seg_ok a ha y hy w hw4 hw) (by have := seg_len a ha y hy; omega) 64 (by have := seg_len a ha y hy; omega)
    rw [h1, Option.bind_some, ite_b01, f_mayStop _ y hy, Option.bind_some, ite_b01]
    cases (segOf a y).all (fun t => decide (f t = 0)) <;> cases rst (f a) y <;> rfl

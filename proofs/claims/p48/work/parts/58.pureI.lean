/-! ===== pure part I: has it won (the reference); the moves in order ===== -/
theorem st_lt {row : Nat → Int32} {x y k : Nat} (hk : k < 49) : stR row x y k = mov row (decide (row 52 = 1)) x y k := by
  unfold stR mov tkB
  split
  · rfl
  · rw [if_neg (by omega)]
theorem AG_st {row : Nat → Int32} {x y : Nat} : AG (stR row x y) (mov row (decide (row 52 = 1)) x y) := fun _ hk => st_lt hk
def cpy (row rowb : Nat → Int32) : Nat → Int32 := fun k => if k < 61 then row k else rowb k
theorem cpy_lt {row rowb : Nat → Int32} {k : Nat} (hk : k < 61) : cpy row rowb k = row k := if_pos hk
theorem AG_cpy (row rowb : Nat → Int32) : AG (cpy row rowb) row := fun _ hk => cpy_lt (by omega)
theorem sd_lit {b : Nat → Int32} {x : Nat} (h0 : b x ≠ 0) : sd (b x) = 0 ∨ sd (b x) = 1 := sd_D h0
theorem b01_or (a b : Bool) : (if a = true then (1 : Int32) else b01 b) = b01 (a || b) := by cases a <;> rfl
/-! the moves in order -/
def tlF (b : Nat → Int32) (x : Nat) : Nat → Nat → List Nat
  | 0, _ => []
  | n + 1, y => if reason b x y = 0 then y :: tlF b x n (y + 1) else tlF b x n (y + 1)
def mlF (b : Nat → Int32) (d : Int32) : Nat → Nat → List Nat
  | 0, _ => []
  | n + 1, x => (if sd (b x) = d then (tlF b x 49 0).map (fun y => 49 * x + y) else []) ++ mlF b d n (x + 1)
def LMv (b : Nat → Int32) (d : Int32) : List Nat := mlF b d 49 0
def TL (b : Nat → Int32) (x : Nat) : List Nat := ((fre b x 0).reverse.filter (rst (b x)) ++ (fre b x 3).reverse.filter (rst (b x))) ++ ((fre b x 1).filter (rst (b x)) ++ (fre b x 2).filter (rst (b x)))
theorem tlF_eq (b : Nat → Int32) (x : Nat) : ∀ n y, tlF b x n y = (List.range' y n).filter (fun y => decide (reason b x y = 0))
  | 0, _ => rfl
  | n + 1, y => by
    unfold tlF
    rw [List.range'_succ, List.filter_cons, tlF_eq b x n (y + 1)]
    by_cases e : reason b x y = 0 <;> simp [e]
theorem filt (F R P : Nat → Bool) : ∀ (l : List Nat) (ok : Bool), (∀ i (h : i < l.length), P l[i] = (ok && (l.take (i + 1)).all F && R l[i])) → l.filter P = if ok then (l.takeWhile F).filter R else []
  | [], ok, _ => by cases ok <;> rfl
  | t :: l, ok, h => by
    have h0 := h 0 (by simp)
    have h1 := filt F R P l (ok && F t) (fun i hi => by
      have := h (i + 1) (by simpa using hi)
      simpa [Bool.and_assoc] using this)
    have h0 : P t = (ok && F t && R t) := by simpa using h0
    rw [List.filter_cons, h1, h0, List.takeWhile_cons]
    cases ok <;> cases F t <;> cases hr : R t <;> simp [hr]
theorem ord_ray : ∀ x, x < 49 → (List.range' 0 49).filter (fun y => (wayOf x y).isSome) = ((ray x 0).reverse ++ (ray x 3).reverse) ++ (ray x 1 ++ ray x 2) := by decide +kernel
theorem seg_ray : ∀ x, x < 49 → ∀ w, w < 4 → ∀ i (h : i < (ray x w).length), wayOf x (ray x w)[i] = some w ∧ segOf x (ray x w)[i] = (ray x w).take (i + 1) := by decide +kernel
theorem reason_al {b : Nat → Int32} {x y : Nat} (h : reason b x y = 0) : (wayOf x y).isSome = true := by
  unfold reason at h
  split at h
  · exact absurd h (by decide)
  · cases e : wayOf x y with
    | none =>
      rw [e] at h
      exact absurd (show (2 : Int32) = 0 from h) (by decide)
    | some w => rfl
theorem reason_w {b : Nat → Int32} {x y w : Nat} (h0 : b x ≠ 0) (hw : wayOf x y = some w) : decide (reason b x y = 0) = ((segOf x y).all (fun t => decide (b t = 0)) && rst (b x) y) := by
  unfold reason
  rw [if_neg h0, hw]
  show decide ((if _ then (if _ then (0 : Int32) else 4) else 3) = 0) = _
  cases (segOf x y).all (fun t => decide (b t = 0)) <;> cases rst (b x) y <;> simp
theorem tl_TL {b : Nat → Int32} {x : Nat} (hx : x < 49) (h0 : b x ≠ 0) : tlF b x 49 0 = TL b x := by
  rw [tlF_eq]
  have e1 : (List.range' 0 49).filter (fun y => decide (reason b x y = 0)) = ((List.range' 0 49).filter (fun y => (wayOf x y).isSome)).filter (fun y => decide (reason b x y = 0)) := by
    rw [List.filter_filter]
    refine List.filter_congr (fun y _ => ?_)
    by_cases e : reason b x y = 0
    · simp [e, reason_al e]
    · simp [e]
  rw [e1, ord_ray x hx]
  have key : ∀ w, w < 4 → (ray x w).filter (fun y => decide (reason b x y = 0)) = (fre b x w).filter (rst (b x)) := fun w hw => by
    have := filt (fun t => decide (b t = 0)) (rst (b x)) (fun y => decide (reason b x y = 0)) (ray x w) true (fun i hi => by
      obtain ⟨h1, h2⟩ := seg_ray x hx w hw i hi
      show decide (reason b x (ray x w)[i] = 0) = _
      rw [reason_w h0 h1, h2, Bool.true_and])
    rw [this]
    rfl
  unfold TL
  rw [List.filter_append, List.filter_append, List.filter_append, List.filter_reverse, List.filter_reverse, List.filter_reverse, List.filter_reverse, key 0 (by decide), key 1 (by decide), key 2 (by decide), key 3 (by decide)]
theorem TL_len {b : Nat → Int32} {x : Nat} (h0 : b x ≠ 0) : (TL b x).length = goN b x := by
  unfold TL goN gl cnt
  rw [if_neg h0]
  simp only [List.length_append, List.filter_reverse, List.length_reverse]
  omega

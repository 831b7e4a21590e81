/-! ===== calls that only read ===== -/
def AN (k q : Int32) (fo : Nat → Int64) (b : Int32) : Prop := q = k ∧ (k = 0 → fo 0 = b.toInt64)
theorem i32_le {a b : Int32} : (a ≤ b) = ¬ (b < a) := by
  rw [eq_iff_iff, Int32.le_iff_toInt_le, Int32.lt_iff_toInt_lt]
  omega
theorem i32_S {a b c : Int32} (h : b.toInt = c.toInt + 1) : (b ≤ a) = (c < a) := by
  rw [eq_iff_iff, Int32.le_iff_toInt_le, Int32.lt_iff_toInt_lt]
  omega
theorem i32_L {a b c : Int32} (h : b.toInt = c.toInt + 1) : (a < b) = ¬ (c < a) := by
  rw [eq_iff_iff, Int32.lt_iff_toInt_lt, Int32.lt_iff_toInt_lt]
  omega
theorem inC_num {a : Int32} {m : Nat} (hm : m < 1000) (h : inC a 0 (nI m) = true) : ∃ k, k ≤ m ∧ a = nI k := by
  unfold inC at h
  rw [Bool.and_eq_true, Bool.not_eq_true', Bool.not_eq_true', decide_eq_false_iff_not, decide_eq_false_iff_not, Int32.lt_iff_toInt_lt, Int32.lt_iff_toInt_lt, nI_toInt (by omega)] at h
  have h0 : (0 : Int32).toInt = 0 := by decide
  rw [h0] at h
  refine ⟨a.toInt.toNat, by omega, Int32.toInt_inj.mp ?_⟩
  rw [nI_toInt (by omega)]
  omega
theorem f_needSquare (a1 a2 : Int32) : fX8_needSquare a1 a2 = some (if inC a1 0 6 && inC a2 0 6 then 0 else 1) := by
  unfold fX8_needSquare inC
  simp only [jn_eq, i32_S (a := a1) (b := 7) (c := 6) (by decide), i32_L (a := a2) (b := 7) (c := 6) (by decide)]
  by_cases e1 : a1 < 0 <;> by_cases e2 : 6 < a1 <;> by_cases e3 : a2 < 0 <;> by_cases e4 : 6 < a2 <;> simp [e1, e2, e3, e4]
theorem f_needSquares (a1 a2 : Int32) : fX8_needSquares a1 a2 = some (if inC a1 0 48 && inC a2 0 48 then 0 else 1) := by
  unfold fX8_needSquares inC
  simp only [jn_eq, i32_S (a := a1) (b := 49) (c := 48) (by decide), i32_L (a := a2) (b := 49) (c := 48) (by decide)]
  by_cases e1 : a1 < 0 <;> by_cases e2 : 48 < a1 <;> by_cases e3 : a2 < 0 <;> by_cases e4 : 48 < a2 <;> simp [e1, e2, e3, e4]
theorem f_needSide (a1 : Int32) : fX8_needSide a1 = some (if inC a1 0 1 then 0 else 1) := by
  unfold fX8_needSide inC
  simp only [jn_eq, i32_le (a := a1) (b := 1)]
  by_cases e1 : a1 < 0 <;> by_cases e2 : 1 < a1 <;> simp [e1, e2]
theorem f_needSlot (a1 : Int32) : fX8_needSlot a1 = some (if inC a1 0 1 then 0 else 2) := by
  unfold fX8_needSlot inC
  simp only [jn_eq, i32_L (a := a1) (b := 2) (c := 1) (by decide)]
  by_cases e1 : a1 < 0 <;> by_cases e2 : 1 < a1 <;> simp [e1, e2]
theorem f_noSide (a1 : Int32) : fX9_noSide a1 = some (b01 (!inC a1 0 1), b01 (!inC a1 0 1)) := by
  unfold fX9_noSide
  rw [f_isSide, Option.bind_some]
  cases inC a1 0 1 <;> rfl
theorem f_noSquares (a1 a2 : Int32) : fX9_noSquares a1 a2 = some (b01 (!(inC a1 0 48 && inC a2 0 48)), b01 (!(inC a1 0 48 && inC a2 0 48))) := by
  unfold fX9_noSquares
  rw [f_isSquare, Option.bind_some, f_isSquare]
  cases inC a1 0 48 <;> cases inC a2 0 48 <;> rfl
theorem sq7 : ∀ r, r < 7 → ∀ c, c < 7 → 7 * nI r + nI c = nI (7 * r + c) := by decide +kernel
theorem cellC (a1 a2 : Int32) : ((inC a1 0 6 && inC a2 0 6) = true ∧ ∃ s, s < 49 ∧ 7 * a1 + a2 = nI s) ∨ (inC a1 0 6 && inC a2 0 6) = false := by
  cases e : (inC a1 0 6 && inC a2 0 6) with
  | false => exact Or.inr rfl
  | true =>
    rw [Bool.and_eq_true] at e
    obtain ⟨r, hr, rfl⟩ := inC_num (m := 6) (by decide) e.1
    obtain ⟨c, hc, rfl⟩ := inC_num (m := 6) (by decide) e.2
    exact Or.inl ⟨rfl, 7 * r + c, by omega, sq7 r (by omega) c (by omega)⟩
theorem sqsC (a1 a2 : Int32) : ((inC a1 0 48 && inC a2 0 48) = true ∧ ∃ x y, x < 49 ∧ y < 49 ∧ a1 = nI x ∧ a2 = nI y) ∨ (inC a1 0 48 && inC a2 0 48) = false := by
  cases e : (inC a1 0 48 && inC a2 0 48) with
  | false => exact Or.inr rfl
  | true =>
    rw [Bool.and_eq_true] at e
    obtain ⟨x, hx, rfl⟩ := inC_num (m := 48) (by decide) e.1
    obtain ⟨y, hy, rfl⟩ := inC_num (m := 48) (by decide) e.2
    exact Or.inl ⟨rfl, x, y, by omega, by omega, rfl, rfl⟩
theorem sideC (a : Int32) : (inC a 0 1 = true ∧ isD a) ∨ inC a 0 1 = false := by
  cases e : inC a 0 1 with
  | false => exact Or.inr rfl
  | true =>
    obtain ⟨k, hk, rfl⟩ := inC_num (m := 1) (by decide) e
    rcases (by omega : k = 0 ∨ k = 1) with h | h <;> subst h
    · exact Or.inl ⟨rfl, Or.inl rfl⟩
    · exact Or.inl ⟨rfl, Or.inr rfl⟩
theorem f_needPossible {f : Nat → Int32} (a1 a2 : Int32) : ((inC a1 0 48 && inC a2 0 48) = false ∧ fX8_needPossible f a1 a2 = some 1) ∨ (∃ x y, x < 49 ∧ y < 49 ∧ a1 = nI x ∧ a2 = nI y ∧ (inC a1 0 48 && inC a2 0 48) = true ∧ fX8_needPossible f a1 a2 = some (if reason f x y = 0 then 0 else 3)) := by
  unfold fX8_needPossible
  rw [f_needSquares, Option.bind_some]
  rcases sqsC a1 a2 with ⟨hc, x, y, hx, hy, rfl, rfl⟩ | hc
  · refine Or.inr ⟨x, y, hx, hy, rfl, rfl, hc, ?_⟩
    rw [hc]
    show (fX1_obstacle f (nI x) (nI y)).bind _ = _
    rw [f_obstacle hx hy, Option.bind_some]
    split <;> rfl
  · refine Or.inl ⟨hc, ?_⟩
    rw [hc]
    rfl
theorem reason_pos (b : Nat → Int32) (x y : Nat) : (reason b x y ≤ 0) = (reason b x y = 0) := by
  have h : reason b x y = 0 ∨ reason b x y = 1 ∨ reason b x y = 2 ∨ reason b x y = 3 ∨ reason b x y = 4 := by
    unfold reason
    split
    · simp
    · split
      · simp
      · split
        · split <;> simp
        · simp
  rcases h with h | h | h | h | h <;> rw [h] <;> simp <;> decide
theorem f_noWay {row : Nat → Int32} (hp : ∀ s, s < 49 → 0 ≤ row s) (a1 a2 : Int32) : ((inC a1 0 48 && inC a2 0 48) = false → fX9_noWay row a1 a2 = some (1, 1)) ∧ ∀ x y, x < 49 → y < 49 → a1 = nI x → a2 = nI y → (inC a1 0 48 && inC a2 0 48) = true → fX9_noWay row a1 a2 = some (if reason row x y = 0 then 0 else 1, if reason row x y = 0 then 0 else 2) := by
  unfold fX9_noWay
  rw [f_isSquare, Option.bind_some, f_isSquare]
  constructor
  · intro h
    cases h1 : inC a1 0 48 with
    | false => rfl
    | true =>
      rw [h1, Bool.true_and] at h
      rw [h]
      rfl
  · rintro x y hx hy rfl rfl h
    rw [Bool.and_eq_true] at h
    rw [h.1, h.2]
    show (fX9_against row (nI x) (nI y)).bind _ = _
    rw [f_against hp hx hy, Option.bind_some, ]
    simp only [reason_pos]
    split <;> rfl

theorem r_piecesOf {f : Nat → Int32} {kk sg sn mv gm w1 w2 dg t1 t2 am : Int32} {now : Nat → Int32} {h : List HP} (hr : RP f kk sg sn mv gm w1 w2 dg t1 t2 am now h) (fo : Nat → Int64) (a1 : Int32) : ∃ k fo' b q, fL_piecesOf f fo a1 = some (k, fo') ∧ fX9_piecesOf now a1 = some (b, q) ∧ AN k q fo' b := by
  obtain ⟨ag, pb, uk, ko, rfl, hsg, h52, h50, h49, hdm, h51, h53, h54, h55, h56, h57, h58, h59, h0, hok, hrun⟩ := hr
  have pbn : PB now := AG_PB ag pb
  rcases sideC a1 with ⟨hc, hd⟩ | hc
  · refine ⟨0, vp_updL fo 0 (nI (cpN f a1)).toInt64, nI (cpN f a1), 0, ?_, ?_, rfl, fun _ => updL_eq⟩
    · unfold fL_piecesOf fX8_piecesOf
      rw [f_needSide, hc, Option.bind_some, if_pos rfl, if_pos rfl, f_countPieces]
      rfl
    · unfold fX9_piecesOf
      rw [f_noSide, hc, Option.bind_some]
      rw [if_pos (show b01 (!true) = 0 from rfl), f_count, ← AG_cpN ag]
      rfl
  · refine ⟨1, fo, 0, 1, ?_, ?_, rfl, fun h => absurd h (by decide)⟩
    · unfold fL_piecesOf fX8_piecesOf
      rw [f_needSide, hc]
      rfl
    · unfold fX9_piecesOf
      rw [f_noSide, hc]
      rfl
theorem r_movesByPieces {f : Nat → Int32} {kk sg sn mv gm w1 w2 dg t1 t2 am : Int32} {now : Nat → Int32} {h : List HP} (hr : RP f kk sg sn mv gm w1 w2 dg t1 t2 am now h) (fo : Nat → Int64) (a1 : Int32) : ∃ k fo' b q, fL_movesByPieces f fo a1 = some (k, fo') ∧ fX9_movesByPieces now a1 = some (b, q) ∧ AN k q fo' b := by
  obtain ⟨ag, pb, uk, ko, rfl, hsg, h52, h50, h49, hdm, h51, h53, h54, h55, h56, h57, h58, h59, h0, hok, hrun⟩ := hr
  have pbn : PB now := AG_PB ag pb
  rcases sideC a1 with ⟨hc, hd⟩ | hc
  · refine ⟨0, vp_updL fo 0 (nI (mcN f a1)).toInt64, nI (mcN f a1), 0, ?_, ?_, rfl, fun _ => updL_eq⟩
    · unfold fL_movesByPieces fX8_movesByPieces
      rw [f_needSide, hc, Option.bind_some, if_pos rfl, if_pos rfl, f_countMoves]
      rfl
    · unfold fX9_movesByPieces
      rw [f_noSide, hc, Option.bind_some]
      rw [if_pos (show b01 (!true) = 0 from rfl), f_moveCount _ pbn.pos, ← AG_mcN ag]
      rfl
  · refine ⟨1, fo, 0, 1, ?_, ?_, rfl, fun h => absurd h (by decide)⟩
    · unfold fL_movesByPieces fX8_movesByPieces
      rw [f_needSide, hc]
      rfl
    · unfold fX9_movesByPieces
      rw [f_noSide, hc]
      rfl
theorem r_movesBySquares {f : Nat → Int32} {kk sg sn mv gm w1 w2 dg t1 t2 am : Int32} {now : Nat → Int32} {h : List HP} (hr : RP f kk sg sn mv gm w1 w2 dg t1 t2 am now h) (fo : Nat → Int64) (a1 : Int32) : ∃ k fo' b q, fL_movesBySquares f fo a1 = some (k, fo') ∧ fX9_movesBySquares now a1 = some (b, q) ∧ AN k q fo' b := by
  obtain ⟨ag, pb, uk, ko, rfl, hsg, h52, h50, h49, hdm, h51, h53, h54, h55, h56, h57, h58, h59, h0, hok, hrun⟩ := hr
  have pbn : PB now := AG_PB ag pb
  rcases sideC a1 with ⟨hc, hd⟩ | hc
  · refine ⟨0, vp_updL fo 0 (nI (mcN f a1)).toInt64, nI (mcN f a1), 0, ?_, ?_, rfl, fun _ => updL_eq⟩
    · unfold fL_movesBySquares fX8_movesBySquares
      rw [f_needSide, hc, Option.bind_some, if_pos rfl, if_pos rfl, f_countArrivals f hd]
      rfl
    · unfold fX9_movesBySquares
      rw [f_noSide, hc, Option.bind_some]
      rw [if_pos (show b01 (!true) = 0 from rfl), f_moveCount _ pbn.pos, ← AG_mcN ag]
      rfl
  · refine ⟨1, fo, 0, 1, ?_, ?_, rfl, fun h => absurd h (by decide)⟩
    · unfold fL_movesBySquares fX8_movesBySquares
      rw [f_needSide, hc]
      rfl
    · unfold fX9_movesBySquares
      rw [f_noSide, hc]
      rfl
theorem r_pieceAt {f : Nat → Int32} {kk sg sn mv gm w1 w2 dg t1 t2 am : Int32} {now : Nat → Int32} {h : List HP} (hr : RP f kk sg sn mv gm w1 w2 dg t1 t2 am now h) (fo : Nat → Int64) (a1 a2 : Int32) : ∃ k fo' b q, fL_pieceAt f fo a1 a2 = some (k, fo') ∧ fX9_pieceAt now a1 a2 = some (b, q) ∧ AN k q fo' b := by
  obtain ⟨ag, pb, uk, ko, rfl, hsg, h52, h50, h49, hdm, h51, h53, h54, h55, h56, h57, h58, h59, h0, hok, hrun⟩ := hr
  have pbn : PB now := AG_PB ag pb
  rcases cellC a1 a2 with ⟨hc, s, hs, e⟩ | hc
  · refine ⟨0, vp_updL fo 0 (f s).toInt64, f s, 0, ?_, ?_, rfl, fun _ => updL_eq⟩
    · unfold fL_pieceAt fX8_pieceAt
      rw [f_needSquare, hc, Option.bind_some, if_pos rfl, if_pos rfl, e, f_at hs]
      rfl
    · unfold fX9_pieceAt
      rw [f_isCell, hc, Option.bind_some, e]
      show grd (inB (nI s) 61) (some (now (nI s).toNatClampNeg, 0)) = _
      rw [inB_t (by omega) (by decide), grd_t, nI_clamp (by omega), ag s hs]
  · refine ⟨1, fo, 0, 1, ?_, ?_, rfl, fun h => absurd h (by decide)⟩
    · unfold fL_pieceAt fX8_pieceAt
      rw [f_needSquare, hc]
      rfl
    · unfold fX9_pieceAt
      rw [f_isCell, hc]
      rfl
theorem r_movesFrom {f : Nat → Int32} {kk sg sn mv gm w1 w2 dg t1 t2 am : Int32} {now : Nat → Int32} {h : List HP} (hr : RP f kk sg sn mv gm w1 w2 dg t1 t2 am now h) (fo : Nat → Int64) (a1 a2 : Int32) : ∃ k fo' b q, fL_movesFrom f fo a1 a2 = some (k, fo') ∧ fX9_movesFrom now a1 a2 = some (b, q) ∧ AN k q fo' b := by
  obtain ⟨ag, pb, uk, ko, rfl, hsg, h52, h50, h49, hdm, h51, h53, h54, h55, h56, h57, h58, h59, h0, hok, hrun⟩ := hr
  have pbn : PB now := AG_PB ag pb
  rcases cellC a1 a2 with ⟨hc, s, hs, e⟩ | hc
  · refine ⟨0, vp_updL fo 0 (nI (goN f s)).toInt64, nI (goN f s), 0, ?_, ?_, rfl, fun _ => updL_eq⟩
    · unfold fL_movesFrom fX8_movesFrom
      rw [f_needSquare, hc, Option.bind_some, if_pos rfl, if_pos rfl, e, f_countFrom f s hs]
      rfl
    · unfold fX9_movesFrom
      rw [f_isCell, hc, Option.bind_some, e]
      show (fX9_goals now (nI s)).bind _ = _
      rw [f_goals now pbn.pos s hs, ← AG_goN ag hs]
      rfl
  · refine ⟨1, fo, 0, 1, ?_, ?_, rfl, fun h => absurd h (by decide)⟩
    · unfold fL_movesFrom fX8_movesFrom
      rw [f_needSquare, hc]
      rfl
    · unfold fX9_movesFrom
      rw [f_isCell, hc]
      rfl
theorem r_reasonAgainst {f : Nat → Int32} {kk sg sn mv gm w1 w2 dg t1 t2 am : Int32} {now : Nat → Int32} {h : List HP} (hr : RP f kk sg sn mv gm w1 w2 dg t1 t2 am now h) (fo : Nat → Int64) (a1 a2 : Int32) : ∃ k fo' b q, fL_reasonAgainst f fo a1 a2 = some (k, fo') ∧ fX9_reasonAgainst now a1 a2 = some (b, q) ∧ AN k q fo' b := by
  obtain ⟨ag, pb, uk, ko, rfl, hsg, h52, h50, h49, hdm, h51, h53, h54, h55, h56, h57, h58, h59, h0, hok, hrun⟩ := hr
  have pbn : PB now := AG_PB ag pb
  rcases sqsC a1 a2 with ⟨hc, x, y, hx, hy, rfl, rfl⟩ | hc
  · have hrs := AG_rsn ag hx hy
    refine ⟨0, vp_updL fo 0 (reason f x y).toInt64, reason f x y, 0, ?_, ?_, ⟨rfl, fun _ => updL_eq⟩⟩
    · unfold fL_reasonAgainst fX8_reasonAgainst
      rw [f_needSquares, hc, Option.bind_some, if_pos rfl, if_pos rfl, f_obstacle hx hy]
      rfl
    · unfold fX9_reasonAgainst
      rw [f_noSquares, hc, Option.bind_some]
      rw [if_pos (show b01 (!true) = 0 from rfl), f_against pbn.pos hx hy, ← hrs]
      rfl
  · refine ⟨1, fo, 0, 1, ?_, ?_, ⟨rfl, fun h => absurd h (by decide)⟩⟩
    · unfold fL_reasonAgainst fX8_reasonAgainst
      rw [f_needSquares, hc]
      rfl
    · unfold fX9_reasonAgainst
      rw [f_noSquares, hc]
      rfl
theorem r_canMove {f : Nat → Int32} {kk sg sn mv gm w1 w2 dg t1 t2 am : Int32} {now : Nat → Int32} {h : List HP} (hr : RP f kk sg sn mv gm w1 w2 dg t1 t2 am now h) (fo : Nat → Int64) (a1 a2 : Int32) : ∃ k fo' b q, fL_canMove f fo a1 a2 = some (k, fo') ∧ fX9_canMove now a1 a2 = some (b, q) ∧ AN k q fo' b ∧ is01 b = true := by
  obtain ⟨ag, pb, uk, ko, rfl, hsg, h52, h50, h49, hdm, h51, h53, h54, h55, h56, h57, h58, h59, h0, hok, hrun⟩ := hr
  have pbn : PB now := AG_PB ag pb
  rcases sqsC a1 a2 with ⟨hc, x, y, hx, hy, rfl, rfl⟩ | hc
  · have hrs := AG_rsn ag hx hy
    refine ⟨0, vp_updL fo 0 (b01 (decide (reason f x y = 0))).toInt64, b01 (decide (reason f x y = 0)), 0, ?_, ?_, ⟨rfl, fun _ => updL_eq⟩, is01_b01 _⟩
    · unfold fL_canMove fX8_canMove
      rw [f_needSquares, hc, Option.bind_some, if_pos rfl, if_pos rfl, f_obstacle hx hy]
      rw [Option.bind_some]
      by_cases e : reason f x y = 0
      · rw [if_pos e, decide_eq_true e]
        rfl
      · rw [if_neg e, decide_eq_false e]
        rfl
    · unfold fX9_canMove
      rw [f_noSquares, hc, Option.bind_some]
      rw [if_pos (show b01 (!true) = 0 from rfl), f_against pbn.pos hx hy, ← hrs]
      rw [Option.bind_some]
      by_cases e : reason f x y = 0
      · rw [if_pos e, decide_eq_true e]
        rfl
      · rw [if_neg e, decide_eq_false e]
        rfl
  · refine ⟨1, fo, 0, 1, ?_, ?_, ⟨rfl, fun h => absurd h (by decide)⟩, rfl⟩
    · unfold fL_canMove fX8_canMove
      rw [f_needSquares, hc]
      rfl
    · unfold fX9_canMove
      rw [f_noSquares, hc]
      rfl
theorem r_isHostile {f : Nat → Int32} {kk sg sn mv gm w1 w2 dg t1 t2 am : Int32} {now : Nat → Int32} {h : List HP} (hr : RP f kk sg sn mv gm w1 w2 dg t1 t2 am now h) (fo : Nat → Int64) (a1 a2 a3 : Int32) : ∃ k fo' b q, fL_isHostile f fo a1 a2 a3 = some (k, fo') ∧ fX9_isHostile now a1 a2 a3 = some (b, q) ∧ AN k q fo' b ∧ is01 b = true := by
  obtain ⟨ag, pb, uk, ko, rfl, hsg, h52, h50, h49, hdm, h51, h53, h54, h55, h56, h57, h58, h59, h0, hok, hrun⟩ := hr
  have pbn : PB now := AG_PB ag pb
  unfold fL_isHostile fX8_isHostile fX9_isHostile
  rw [f_needSquare, f_needSide, f_isCell, f_isSide]
  rcases cellC a1 a2 with ⟨hc, s, hs, e⟩ | hc
  · rcases sideC a3 with ⟨hc3, hd⟩ | hc3
    · refine ⟨0, vp_updL fo 0 (b01 (host f s a3)).toInt64, b01 (host f s a3), 0, ?_, ?_, ⟨rfl, fun _ => updL_eq⟩, is01_b01 _⟩
      · rw [hc, hc3]
        show (((fX1_hostileTo f a3 (7 * a1 + a2)).bind fun r_5 => grd (is01 r_5) (some ((0 : Nat), r_5))).bind _) = _
        rw [e, f_hostileTo pb hd hs]
        cases host f s a3 <;> rfl
      · rw [hc, hc3, Option.bind_some, e, AG_host ag hs]
        show (fX9_hostile now (nI s) a3).bind _ = _
        rw [f_hostile pbn hs]
        cases host now s a3 <;> rfl
    · refine ⟨1, fo, 0, 1, ?_, ?_, ⟨rfl, fun h => absurd h (by decide)⟩, rfl⟩
      · rw [hc, hc3]
        rfl
      · rw [hc, hc3]
        rfl
  · refine ⟨1, fo, 0, 1, ?_, ?_, ⟨rfl, fun h => absurd h (by decide)⟩, rfl⟩
    · rw [hc]
      rfl
    · rw [hc]
      rfl
theorem r_kingAt {f : Nat → Int32} {kk sg sn mv gm w1 w2 dg t1 t2 am : Int32} {now : Nat → Int32} {h : List HP} (hr : RP f kk sg sn mv gm w1 w2 dg t1 t2 am now h) (fo : Nat → Int64) : ∃ k fo' b q, fL_kingAt kk fo = some (k, fo') ∧ fX9_kingAt now = some (b, q) ∧ AN k q fo' b := by
  obtain ⟨ag, pb, uk, ko, rfl, hsg, h52, h50, h49, hdm, h51, h53, h54, h55, h56, h57, h58, h59, h0, hok, hrun⟩ := hr
  have pbn : PB now := AG_PB ag pb
  unfold fL_kingAt fX8_kingAt fX8_needKing fX9_kingAt
  rw [f_king, ← AG_kingN ag]
  simp only [enc_neg king_lt, Option.bind_some, enc_none king_lt, jn_eq]
  cases e : kingN f with
  | none => exact ⟨1, fo, 0, 1, rfl, rfl, rfl, fun h => absurd h (by decide)⟩
  | some k =>
    refine ⟨0, vp_updL fo 0 (nI k).toInt64, nI k, 0, ?_, ?_, rfl, fun _ => updL_eq⟩
    · rw [if_pos nofun]
      rfl
    · rw [if_neg nofun]
      rfl
theorem r_kingPressure {f : Nat → Int32} {kk sg sn mv gm w1 w2 dg t1 t2 am : Int32} {now : Nat → Int32} {h : List HP} (hr : RP f kk sg sn mv gm w1 w2 dg t1 t2 am now h) (fo : Nat → Int64) : ∃ k fo' b q, fL_kingPressure kk f fo = some (k, fo') ∧ fX9_kingPressure now = some (b, q) ∧ AN k q fo' b := by
  obtain ⟨ag, pb, uk, ko, rfl, hsg, h52, h50, h49, hdm, h51, h53, h54, h55, h56, h57, h58, h59, h0, hok, hrun⟩ := hr
  have pbn : PB now := AG_PB ag pb
  unfold fL_kingPressure fX8_kingPressure fX8_needKing fX9_kingPressure
  rw [f_king, ← AG_kingN ag]
  simp only [enc_neg king_lt, Option.bind_some, enc_none king_lt, jn_eq]
  cases e : kingN f with
  | none => exact ⟨1, fo, 0, 1, rfl, rfl, rfl, fun h => absurd h (by decide)⟩
  | some k =>
    have hk := king_lt _ e
    refine ⟨0, vp_updL fo 0 (nI (prN f k)).toInt64, nI (prN f k), 0, ?_, ?_, rfl, fun _ => updL_eq⟩
    · rw [if_pos nofun, Option.bind_some, if_pos rfl, show enc (some k) = nI k from rfl, f_countHostile pb hk]
      rfl
    · rw [if_neg nofun]
      show (fX9_pressure now).bind _ = _
      rw [f_pressure pbn (k := k) (by rw [← AG_kingN ag, e]), AG_prN ag hk]
      rfl
theorem r_turn {f : Nat → Int32} {kk sg sn mv gm w1 w2 dg t1 t2 am : Int32} {now : Nat → Int32} {h : List HP} (hr : RP f kk sg sn mv gm w1 w2 dg t1 t2 am now h) (fo : Nat → Int64) : ∃ k fo' b q, fL_turn sn mv fo = some (k, fo') ∧ fX9_turn now = some (b, q) ∧ AN k q fo' b := by
  obtain ⟨ag, pb, uk, ko, rfl, hsg, h52, h50, h49, hdm, h51, h53, h54, h55, h56, h57, h58, h59, h0, hok, hrun⟩ := hr
  have pbn : PB now := AG_PB ag pb
  unfold fL_turn fX8_turn fX9_turn
  rw [show inB 50 61 = true from rfl, grd_t, show inB 49 61 = true from rfl, show (50 : Int32).toNatClampNeg = 50 from rfl, show (49 : Int32).toNatClampNeg = 49 from rfl, h50, h49]
  simp only [jn_eq]
  by_cases e : sn = 1
  · rw [if_pos e, if_pos e]
    exact ⟨0, vp_updL fo 0 mv.toInt64, mv, 0, rfl, rfl, rfl, fun _ => updL_eq⟩
  · rw [if_neg e, if_neg e]
    exact ⟨1, fo, 0, 1, rfl, rfl, rfl, fun h => absurd h (by decide)⟩
theorem r_wins {f : Nat → Int32} {kk sg sn mv gm w1 w2 dg t1 t2 am : Int32} {now : Nat → Int32} {h : List HP} (hr : RP f kk sg sn mv gm w1 w2 dg t1 t2 am now h) (fo : Nat → Int64) (a1 : Int32) : ∃ k fo' b q, fL_wins w1 w2 fo a1 = some (k, fo') ∧ fX9_wins now a1 = some (b, q) ∧ AN k q fo' b := by
  obtain ⟨ag, pb, uk, ko, rfl, hsg, h52, h50, h49, hdm, h51, h53, h54, h55, h56, h57, h58, h59, h0, hok, hrun⟩ := hr
  have pbn : PB now := AG_PB ag pb
  unfold fL_wins fX8_wins fX9_wins
  rw [f_needSide, f_noSide]
  rcases sideC a1 with ⟨hc, hd⟩ | hc
  · rcases hd with rfl | rfl
    · refine ⟨0, vp_updL fo 0 w1.toInt64, w1, 0, rfl, ?_, rfl, fun _ => updL_eq⟩
      rw [← h55]
      rfl
    · refine ⟨0, vp_updL fo 0 w2.toInt64, w2, 0, rfl, ?_, rfl, fun _ => updL_eq⟩
      rw [← h56]
      rfl
  · rw [hc]
    exact ⟨1, fo, 0, 1, rfl, rfl, rfl, fun h => absurd h (by decide)⟩
theorem r_takenOf {f : Nat → Int32} {kk sg sn mv gm w1 w2 dg t1 t2 am : Int32} {now : Nat → Int32} {h : List HP} (hr : RP f kk sg sn mv gm w1 w2 dg t1 t2 am now h) (fo : Nat → Int64) (a1 : Int32) : ∃ k fo' b q, fL_takenOf t1 t2 fo a1 = some (k, fo') ∧ fX9_takenOf now a1 = some (b, q) ∧ AN k q fo' b := by
  obtain ⟨ag, pb, uk, ko, rfl, hsg, h52, h50, h49, hdm, h51, h53, h54, h55, h56, h57, h58, h59, h0, hok, hrun⟩ := hr
  have pbn : PB now := AG_PB ag pb
  unfold fL_takenOf fX8_takenOf fX9_takenOf
  rw [f_needSide, f_noSide]
  rcases sideC a1 with ⟨hc, hd⟩ | hc
  · rcases hd with rfl | rfl
    · refine ⟨0, vp_updL fo 0 t1.toInt64, t1, 0, rfl, ?_, rfl, fun _ => updL_eq⟩
      rw [← h58]
      rfl
    · refine ⟨0, vp_updL fo 0 t2.toInt64, t2, 0, rfl, ?_, rfl, fun _ => updL_eq⟩
      rw [← h59]
      rfl
  · rw [hc]
    exact ⟨1, fo, 0, 1, rfl, rfl, rfl, fun h => absurd h (by decide)⟩
theorem r_isStrong {f : Nat → Int32} {kk sg sn mv gm w1 w2 dg t1 t2 am : Int32} {now : Nat → Int32} {h : List HP} (hr : RP f kk sg sn mv gm w1 w2 dg t1 t2 am now h) : ∃ b, fX8_isStrong sg = some b ∧ fX9_isStrong now = some (b, 0) := by
  obtain ⟨ag, pb, uk, ko, rfl, hsg, h52, h50, h49, hdm, h51, h53, h54, h55, h56, h57, h58, h59, h0, hok, hrun⟩ := hr
  have pbn : PB now := AG_PB ag pb
  unfold fX8_isStrong fX9_isStrong fX9_tell
  rw [hsg, is01_b01, grd_t]
  refine ⟨_, rfl, ?_⟩
  show (if now 52 = 1 then some ((1 : Int32), (0 : Int32)) else some (0, 0)) = _
  by_cases e : now 52 = 1
  · rw [if_pos e, decide_eq_true e]
    rfl
  · rw [if_neg e, decide_eq_false e]
    rfl
theorem r_standing {f : Nat → Int32} {kk sg sn mv gm w1 w2 dg t1 t2 am : Int32} {now : Nat → Int32} {h : List HP} (hr : RP f kk sg sn mv gm w1 w2 dg t1 t2 am now h) : fX8_standing sn = some sn ∧ fX9_standing now = some (sn, 0) := by
  obtain ⟨ag, pb, uk, ko, rfl, hsg, h52, h50, h49, hdm, h51, h53, h54, h55, h56, h57, h58, h59, h0, hok, hrun⟩ := hr
  have pbn : PB now := AG_PB ag pb
  exact ⟨rfl, by rw [← h50]; rfl⟩
theorem r_moves {f : Nat → Int32} {kk sg sn mv gm w1 w2 dg t1 t2 am : Int32} {now : Nat → Int32} {h : List HP} (hr : RP f kk sg sn mv gm w1 w2 dg t1 t2 am now h) : fX8_moves gm = some gm ∧ fX9_moves now = some (gm, 0) := by
  obtain ⟨ag, pb, uk, ko, rfl, hsg, h52, h50, h49, hdm, h51, h53, h54, h55, h56, h57, h58, h59, h0, hok, hrun⟩ := hr
  have pbn : PB now := AG_PB ag pb
  exact ⟨rfl, by rw [← h53]; rfl⟩
theorem r_draws {f : Nat → Int32} {kk sg sn mv gm w1 w2 dg t1 t2 am : Int32} {now : Nat → Int32} {h : List HP} (hr : RP f kk sg sn mv gm w1 w2 dg t1 t2 am now h) : fX8_draws dg = some dg ∧ fX9_draws now = some (dg, 0) := by
  obtain ⟨ag, pb, uk, ko, rfl, hsg, h52, h50, h49, hdm, h51, h53, h54, h55, h56, h57, h58, h59, h0, hok, hrun⟩ := hr
  have pbn : PB now := AG_PB ag pb
  exact ⟨rfl, by rw [← h57]; rfl⟩
theorem r_allMoves {f : Nat → Int32} {kk sg sn mv gm w1 w2 dg t1 t2 am : Int32} {now : Nat → Int32} {h : List HP} (hr : RP f kk sg sn mv gm w1 w2 dg t1 t2 am now h) : fX8_allMoves am = some am ∧ fX9_allMoves now = some (am, 0) := by
  obtain ⟨ag, pb, uk, ko, rfl, hsg, h52, h50, h49, hdm, h51, h53, h54, h55, h56, h57, h58, h59, h0, hok, hrun⟩ := hr
  have pbn : PB now := AG_PB ag pb
  exact ⟨rfl, by rw [← h54]; rfl⟩
theorem r_meanMoves {f : Nat → Int32} {kk sg sn mv gm w1 w2 dg t1 t2 am : Int32} {now : Nat → Int32} {h : List HP} (hr : RP f kk sg sn mv gm w1 w2 dg t1 t2 am now h) : ∃ v, fX8_meanMoves f = some v ∧ fX9_meanMoves now = some (v, 0) ∧ n64b v = true := by
  obtain ⟨ag, pb, uk, ko, rfl, hsg, h52, h50, h49, hdm, h51, h53, h54, h55, h56, h57, h58, h59, h0, hok, hrun⟩ := hr
  have pbn : PB now := AG_PB ag pb
  have m0 := mcN_le f 0
  have m1 := mcN_le f 1
  refine ⟨_, f_meanMoves f, ?_, (mean_bits _ (by omega)).1⟩
  unfold fX9_meanMoves
  rw [f_mean pbn, AG_mcN ag, AG_mcN ag]
  rfl
theorem r_timesSeenN {f : Nat → Int32} {kk sg sn mv gm w1 w2 dg t1 t2 am : Int32} {now : Nat → Int32} {h : List HP} (hr : RP f kk sg sn mv gm w1 w2 dg t1 t2 am now h) (h1 : h = []) (fo : Nat → Int64) : ∃ k fo' b q, fL_timesSeenN sn fo = some (k, fo') ∧ (∀ F L B, fX9_timesSeen now F L B = some (b, q)) ∧ AN k q fo' b := by
  obtain ⟨ag, pb, uk, ko, rfl, hsg, h52, h50, h49, hdm, h51, h53, h54, h55, h56, h57, h58, h59, h0, hok, hrun⟩ := hr
  have pbn : PB now := AG_PB ag pb
  have e : sn = 0 := h0.mpr h1
  unfold fL_timesSeenN fX8_timesSeenN fX9_timesSeen
  rw [if_pos e]
  refine ⟨1, fo, 0, 1, rfl, fun F L B => ?_, rfl, fun h => absurd h (by decide)⟩
  rw [show inB 50 61 = true from rfl, grd_t, show (50 : Int32).toNatClampNeg = 50 from rfl, h50]
  simp only [jn_eq]
  rw [if_pos e]
  rfl
theorem r_timesSeenS {p : HP} {t : List HP} {f : Nat → Int32} {kk sg sn mv gm w1 w2 dg t1 t2 am : Int32} {now : Nat → Int32} (hr : RP f kk sg sn mv gm w1 w2 dg t1 t2 am now (p :: t)) (hl : t.length < 3999) {F L : Nat → Int64} {B : Nat → Int32} {C : List Nat} {nn : Nat} (hC : LV B C nn) (hnn : nn ≤ 4096) (hn : ND F L B (fun i => i ∈ C) (now 60) (p :: t)) (fo : Nat → Int64) : ∃ k fo' b q, fL_timesSeenS sn fo (newPC p t) = some (k, fo') ∧ fX9_timesSeen now F L B = some (b, q) ∧ AN k q fo' b := by
  obtain ⟨ag, pb, uk, ko, rfl, hsg, h52, h50, h49, hdm, h51, h53, h54, h55, h56, h57, h58, h59, h0, hok, hrun⟩ := hr
  have pbn : PB now := AG_PB ag pb
  have e : ¬ sn = 0 := fun q => nomatch h0.mp q
  have hs := f_seen (C := fun i => i ∈ C) (fun i hi => by have := (hC i hi).1; omega) hok (by omega) hn
  unfold fL_timesSeenS fX8_timesSeenS fX9_timesSeen
  rw [if_neg e]
  refine ⟨0, vp_updL fo 0 (nI (1 + occ p t)).toInt64, nI (1 + occ p t), 0, rfl, ?_, rfl, fun _ => updL_eq⟩
  rw [show inB 50 61 = true from rfl, grd_t, show (50 : Int32).toNatClampNeg = 50 from rfl, h50]
  simp only [jn_eq]
  rw [if_neg e]
  show (fX9_seen F L B now).bind _ = _
  rw [hs]
  rfl

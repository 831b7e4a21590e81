/-! ===== a state of the class, as a value; what calls answer of it ===== -/
abbrev AS : Type := (Nat → Int32) × Int32 × Int32 × Int32 × Int32 × Int32 × List HP × Int32 × Int32 × Int32 × Int32 × Int32 × Int32
abbrev PS : Type := AS × List AS × (Nat → Option AS) × Nat × (Nat → Int32)
def aF (a : AS) : Nat → Int32 := a.1
def aG (a : AS) : Bool := decide (a.2.2.1 = 1)
def aS (a : AS) : Int32 := a.2.2.2.1
def aM (a : AS) : Int32 := a.2.2.2.2.1
def aN (a : AS) : Int32 := a.2.2.2.2.2.1
def aH (a : AS) : List HP := a.2.2.2.2.2.2.1
def aW1 (a : AS) : Int32 := a.2.2.2.2.2.2.2.1
def aW2 (a : AS) : Int32 := a.2.2.2.2.2.2.2.2.1
def aDg (a : AS) : Int32 := a.2.2.2.2.2.2.2.2.2.1
def aT1 (a : AS) : Int32 := a.2.2.2.2.2.2.2.2.2.2.1
def aT2 (a : AS) : Int32 := a.2.2.2.2.2.2.2.2.2.2.2.1
def aAm (a : AS) : Int32 := a.2.2.2.2.2.2.2.2.2.2.2.2
def XI : Int64 := -9000000000000000001
def XA : Int64 := -9000000000000000002
def XS : Int64 := -9000000000000000003
def cellB (a1 a2 : Int32) : Bool := inC a1 0 6 && inC a2 0 6
def sqB (a1 a2 : Int32) : Bool := inC a1 0 48 && inC a2 0 48
def cellN (a1 a2 : Int32) : Nat := (7 * a1 + a2).toNatClampNeg
def iN (a : Int32) : Nat := a.toNatClampNeg
def v_pieceAt (f : Nat → Int32) (a1 a2 : Int32) : Int64 := if cellB a1 a2 then (f (cellN a1 a2)).toInt64 else XI
def v_piecesOf (f : Nat → Int32) (d : Int32) : Int64 := if inC d 0 1 then (nI (cpN f d)).toInt64 else XI
def v_kingAt (f : Nat → Int32) : Int64 := match kingN f with
  | none => XS
  | some k => (nI k).toInt64
def v_hostile (f : Nat → Int32) (a1 a2 d : Int32) : Int64 := if cellB a1 a2 then (if inC d 0 1 then bL (host f (cellN a1 a2) d) else XI) else XI
def v_turn (sn mv : Int32) : Int64 := if sn = 1 then mv.toInt64 else XS
def seenI (h : List HP) : Int32 := match h with
  | [] => 0
  | p :: t => nI (1 + occ p t)
def v_timesSeen (h : List HP) : Int64 := match h with
  | [] => XS
  | p :: t => (nI (1 + occ p t)).toInt64
def v_against (f : Nat → Int32) (x y : Int32) : Int64 := if sqB x y then (reason f (iN x) (iN y)).toInt64 else XI
def v_canMove (f : Nat → Int32) (x y : Int32) : Int64 := if sqB x y then bL (decide (reason f (iN x) (iN y) = 0)) else XI
def v_movesFrom (f : Nat → Int32) (a1 a2 : Int32) : Int64 := if cellB a1 a2 then (nI (goN f (cellN a1 a2))).toInt64 else XI
def v_byPieces (f : Nat → Int32) (d : Int32) : Int64 := if inC d 0 1 then (nI (mcN f d)).toInt64 else XI
def v_wouldTake (f : Nat → Int32) (g : Bool) (x y : Int32) : Int64 := if sqB x y then (if reason f (iN x) (iN y) = 0 then (nI (takN f g (iN x) (iN y))).toInt64 else XS) else XI
def v_wouldWin (f : Nat → Int32) (g : Bool) (x y : Int32) : Int64 := if sqB x y then (if reason f (iN x) (iN y) = 0 then bL (winB f g (iN x) (iN y)) else XS) else XI
def v_winning (f : Nat → Int32) (g : Bool) (d : Int32) : Int64 := if inC d 0 1 then (nI (WN f g d)).toInt64 else XI
def v_moveAt (f : Nat → Int32) (d k : Int32) : Int64 := if inC d 0 1 then (if k < 0 then XI else if k < nI (LMv f d).length then (nI ((LMv f d).getD (iN k) 0)).toInt64 else XI) else XI
noncomputable def v_byRounds (f : Nat → Int32) : Int64 := match kmF (qA f) 49 with
  | none => XS
  | some n => (nI n).toInt64
def v_pressure (f : Nat → Int32) : Int64 := match kingN f with
  | none => XS
  | some k => (nI (prN f k)).toInt64
def v_worthOf (f : Nat → Int32) (g : Bool) (x y : Int32) : Int64 := if sqB x y then (if reason f (iN x) (iN y) = 0 then (worN f g (iN x) (iN y)).toInt64 else XS) else XI
def v_bestMove (f : Nat → Int32) (g : Bool) (d : Int32) : Int64 := if inC d 0 1 then (if mcN f d = 0 then XS else (BM f g d).toInt64) else XI
def v_ofSide (x y d : Int32) : Int64 := if inC d 0 1 then (if d = 0 then x else y).toInt64 else XI
/-! helpers that only look -/
theorem cellC2 (a1 a2 : Int32) : (cellB a1 a2 = true ∧ (inC a1 0 6 && inC a2 0 6) = true ∧ ∃ s, s < 49 ∧ 7 * a1 + a2 = nI s ∧ cellN a1 a2 = s) ∨ (cellB a1 a2 = false ∧ (inC a1 0 6 && inC a2 0 6) = false) := by
  rcases cellC a1 a2 with ⟨hc, s, hs, e⟩ | hc
  · refine Or.inl ⟨hc, hc, s, hs, e, ?_⟩
    unfold cellN
    rw [e, nI_clamp (by omega)]
  · exact Or.inr ⟨hc, hc⟩
theorem q_pieceAt {f f0 : Nat → Int32} (ag : AG f f0) (a1 a2 : Int32) : ∃ k, fL_pieceAt f a1 a2 = some (k, v_pieceAt f0 a1 a2) := by
  unfold v_pieceAt fL_pieceAt fX8_pieceAt
  rw [f_needSquare]
  rcases cellC2 a1 a2 with ⟨hb, hc, s, hs, e, e2⟩ | ⟨hb, hc⟩
  · refine ⟨0, ?_⟩
    rw [hb, hc, Option.bind_some, if_pos rfl, if_pos rfl, if_pos rfl, e, f_at hs, e2, ag s hs]
    rfl
  · refine ⟨1, ?_⟩
    rw [hb, hc]
    rfl
theorem q_movesFrom {f f0 : Nat → Int32} (ag : AG f f0) (a1 a2 : Int32) : ∃ k, fL_movesFrom f a1 a2 = some (k, v_movesFrom f0 a1 a2) := by
  unfold v_movesFrom fL_movesFrom fX8_movesFrom
  rw [f_needSquare]
  rcases cellC2 a1 a2 with ⟨hb, hc, s, hs, e, e2⟩ | ⟨hb, hc⟩
  · refine ⟨0, ?_⟩
    rw [hb, hc, Option.bind_some, if_pos rfl, if_pos rfl, if_pos rfl, e, f_countFrom f s hs, e2, AG_goN ag hs]
    rfl
  · refine ⟨1, ?_⟩
    rw [hb, hc]
    rfl
theorem q_piecesOf {f f0 : Nat → Int32} (ag : AG f f0) (a1 : Int32) : ∃ k, fL_piecesOf f a1 = some (k, v_piecesOf f0 a1) := by
  unfold v_piecesOf fL_piecesOf fX8_piecesOf
  rw [f_needSide]
  rcases sideC a1 with ⟨hc, hd⟩ | hc
  · refine ⟨0, ?_⟩
    rw [hc, Option.bind_some, if_pos rfl, if_pos rfl, if_pos rfl, f_countPieces, AG_cpN ag]
    rfl
  · refine ⟨1, ?_⟩
    rw [hc]
    rfl
theorem q_byPieces {f f0 : Nat → Int32} (ag : AG f f0) (a1 : Int32) : ∃ k, fL_byPieces f a1 = some (k, v_byPieces f0 a1) := by
  unfold v_byPieces fL_byPieces fX8_movesByPieces
  rw [f_needSide]
  rcases sideC a1 with ⟨hc, hd⟩ | hc
  · refine ⟨0, ?_⟩
    rw [hc, Option.bind_some, if_pos rfl, if_pos rfl, if_pos rfl, f_countMoves, AG_mcN ag]
    rfl
  · refine ⟨1, ?_⟩
    rw [hc]
    rfl
theorem q_bySquares {f f0 : Nat → Int32} (ag : AG f f0) (a1 : Int32) : ∃ k, fL_bySquares f a1 = some (k, v_byPieces f0 a1) := by
  unfold v_byPieces fL_bySquares fX8_movesBySquares
  rw [f_needSide]
  rcases sideC a1 with ⟨hc, hd⟩ | hc
  · refine ⟨0, ?_⟩
    rw [hc, Option.bind_some, if_pos rfl, if_pos rfl, if_pos rfl, f_countArrivals f hd, AG_mcN ag]
    rfl
  · refine ⟨1, ?_⟩
    rw [hc]
    rfl
theorem q_kingAt {f f0 : Nat → Int32} (ag : AG f f0) : ∃ k, fL_kingAt (enc (kingN f)) = some (k, v_kingAt f0) := by
  unfold v_kingAt fL_kingAt fX8_kingAt fX8_needKing
  rw [← AG_kingN ag]
  simp only [enc_neg king_lt]
  cases e : kingN f with
  | none => exact ⟨3, rfl⟩
  | some k =>
    refine ⟨0, ?_⟩
    rw [if_pos nofun]
    rfl
theorem q_pressure {f f0 : Nat → Int32} (ag : AG f f0) (pb : PB f) : ∃ k, fL_pressure (enc (kingN f)) f = some (k, v_pressure f0) := by
  unfold v_pressure fL_pressure fX8_kingPressure fX8_needKing
  rw [← AG_kingN ag]
  simp only [enc_neg king_lt]
  cases e : kingN f with
  | none => exact ⟨3, rfl⟩
  | some k =>
    have hk := king_lt _ e
    refine ⟨0, ?_⟩
    rw [if_pos nofun, Option.bind_some, if_pos rfl, show enc (some k) = nI k from rfl, f_countHostile pb hk, AG_prN ag hk]
    rfl
theorem q_hostile {f f0 : Nat → Int32} (ag : AG f f0) (pb : PB f) (a1 a2 a3 : Int32) : ∃ k, fL_hostile f a1 a2 a3 = some (k, v_hostile f0 a1 a2 a3) := by
  unfold v_hostile fL_hostile fX8_isHostile
  rw [f_needSquare, f_needSide]
  rcases cellC2 a1 a2 with ⟨hb, hc, s, hs, e, e2⟩ | ⟨hb, hc⟩
  · rcases sideC a3 with ⟨hc3, hd⟩ | hc3
    · refine ⟨0, ?_⟩
      rw [hb, hc, hc3, e2, ← AG_host ag hs]
      show (((fX1_hostileTo f a3 (7 * a1 + a2)).bind fun r_5 => grd (is01 r_5) (some ((0 : Nat), r_5))).bind _) = _
      rw [e, f_hostileTo pb hd hs]
      cases host f s a3 <;> rfl
    · refine ⟨1, ?_⟩
      rw [hb, hc, hc3]
      rfl
  · refine ⟨1, ?_⟩
    rw [hb, hc]
    rfl
theorem q_turn (sn mv : Int32) : ∃ k, fL_turn sn mv = some (k, v_turn sn mv) := by
  unfold v_turn fL_turn fX8_turn
  by_cases e : sn = 1
  · rw [if_pos e, if_pos e]
    exact ⟨0, rfl⟩
  · rw [if_neg e, if_neg e]
    exact ⟨3, rfl⟩
theorem q_timesSeenN {sn : Int32} (e : sn = 0) : ∃ k, fL_timesSeenN sn = some (k, v_timesSeen []) := by
  unfold fL_timesSeenN fX8_timesSeenN
  rw [if_pos e]
  exact ⟨3, rfl⟩
theorem q_timesSeenS {sn : Int32} (e : ¬ sn = 0) (p : HP) (t : List HP) : ∃ k, fL_timesSeenS sn (newPC p t) = some (k, v_timesSeen (p :: t)) := by
  unfold fL_timesSeenS fX8_timesSeenS
  rw [if_neg e]
  exact ⟨0, rfl⟩
theorem sqsC2 (a1 a2 : Int32) : (sqB a1 a2 = true ∧ (inC a1 0 48 && inC a2 0 48) = true ∧ ∃ x y, x < 49 ∧ y < 49 ∧ a1 = nI x ∧ a2 = nI y ∧ iN a1 = x ∧ iN a2 = y) ∨ (sqB a1 a2 = false ∧ (inC a1 0 48 && inC a2 0 48) = false) := by
  rcases sqsC a1 a2 with ⟨hc, x, y, hx, hy, rfl, rfl⟩ | hc
  · exact Or.inl ⟨hc, hc, x, y, hx, hy, rfl, rfl, nI_clamp (by omega), nI_clamp (by omega)⟩
  · exact Or.inr ⟨hc, hc⟩
theorem q_against {f f0 : Nat → Int32} (ag : AG f f0) (a1 a2 : Int32) : ∃ k, fL_against f a1 a2 = some (k, v_against f0 a1 a2) := by
  unfold v_against fL_against fX8_reasonAgainst
  rw [f_needSquares]
  rcases sqsC2 a1 a2 with ⟨hb, hc, x, y, hx, hy, e1, e2, e3, e4⟩ | ⟨hb, hc⟩
  · refine ⟨0, ?_⟩
    rw [hb, hc, e3, e4, e1, e2, Option.bind_some, if_pos rfl, if_pos rfl, if_pos rfl, f_obstacle hx hy, AG_rsn ag hx hy]
    rfl
  · refine ⟨1, ?_⟩
    rw [hb, hc]
    rfl
theorem q_canMove {f f0 : Nat → Int32} (ag : AG f f0) (a1 a2 : Int32) : ∃ k, fL_canMove f a1 a2 = some (k, v_canMove f0 a1 a2) := by
  unfold v_canMove fL_canMove fX8_canMove
  rw [f_needSquares]
  rcases sqsC2 a1 a2 with ⟨hb, hc, x, y, hx, hy, e1, e2, e3, e4⟩ | ⟨hb, hc⟩
  · refine ⟨0, ?_⟩
    rw [hb, hc, e3, e4, e1, e2, Option.bind_some, if_pos rfl, if_pos rfl, if_pos rfl, f_obstacle hx hy, Option.bind_some, AG_rsn ag hx hy]
    by_cases e : reason f0 x y = 0
    · rw [if_pos e, decide_eq_true e]
      rfl
    · rw [if_neg e, decide_eq_false e]
      rfl
  · refine ⟨1, ?_⟩
    rw [hb, hc]
    rfl
theorem q_wins (w1 w2 a1 : Int32) : ∃ k, fL_wins w1 w2 a1 = some (k, v_ofSide w1 w2 a1) := by
  unfold v_ofSide fL_wins fX8_wins
  rw [f_needSide]
  rcases sideC a1 with ⟨hc, hd⟩ | hc
  · rcases hd with rfl | rfl
    · exact ⟨0, rfl⟩
    · exact ⟨0, rfl⟩
  · rw [hc]
    exact ⟨1, rfl⟩
theorem q_takenOf (w1 w2 a1 : Int32) : ∃ k, fL_takenOf w1 w2 a1 = some (k, v_ofSide w1 w2 a1) := by
  unfold v_ofSide fL_takenOf fX8_takenOf
  rw [f_needSide]
  rcases sideC a1 with ⟨hc, hd⟩ | hc
  · rcases hd with rfl | rfl
    · exact ⟨0, rfl⟩
    · exact ⟨0, rfl⟩
  · rw [hc]
    exact ⟨1, rfl⟩
/-! with boards of their own to try on -/
theorem g01 {sg : Int32} (h : ∃ g, sg = b01 g) : sg = b01 (decide (sg = 1)) := by
  obtain ⟨g, rfl⟩ := h
  cases g <;> rfl
theorem q_wouldTake {f f0 : Nat → Int32} (ag : AG f f0) (pb : PB f) (uk : UK f) (g : Bool) (bk bs : Int32) (bf : Nat → Int32) (a1 a2 : Int32) : ∃ k bf' bk' bs', fL_wouldTake (enc (kingN f)) (b01 g) f bk bs bf a1 a2 = some (k, v_wouldTake f0 g a1 a2, bf', bk', bs') := by
  unfold v_wouldTake fL_wouldTake fX8_wouldTake
  rcases f_needPossible (f := f) a1 a2 with ⟨hc, hp⟩ | ⟨x, y, hx, hy, rfl, rfl, hc, hp⟩
  · refine ⟨1, bf, bk, bs, ?_⟩
    rw [hp, show sqB a1 a2 = false from hc]
    rfl
  · rw [hp, show sqB (nI x) (nI y) = true from hc, show iN (nI x) = x from nI_clamp (by omega), show iN (nI y) = y from nI_clamp (by omega), AG_rsn ag hx hy, if_pos (show true = true from rfl)]
    by_cases e : reason f0 x y = 0
    · have hm : MV f x y := reason_MV hx hy (by rw [AG_rsn ag hx hy]; exact e)
      refine ⟨0, mov (cpb f bf) g x y, enc (kingN (mov f g x y)), b01 g, ?_⟩
      rw [if_pos e, if_pos e, Option.bind_some, if_pos rfl, f_takes bf pb uk hm, Option.bind_some, AG_takN ag hx hy]
      rfl
    · refine ⟨3, bf, bk, bs, ?_⟩
      rw [if_neg e, if_neg e]
      rfl
theorem q_wouldWin {f f0 : Nat → Int32} (ag : AG f f0) (pb : PB f) (uk : UK f) (g : Bool) (rk rs : Int32) (rf : Nat → Int32) (a1 a2 : Int32) : ∃ k rf' rk' rs', fL_wouldWin (enc (kingN f)) (b01 g) f rk rs rf a1 a2 = some (k, v_wouldWin f0 g a1 a2, rf', rk', rs') := by
  unfold v_wouldWin fL_wouldWin fX8_wouldWin
  rcases f_needPossible (f := f) a1 a2 with ⟨hc, hp⟩ | ⟨x, y, hx, hy, rfl, rfl, hc, hp⟩
  · refine ⟨1, rf, rk, rs, ?_⟩
    rw [hp, show sqB a1 a2 = false from hc]
    rfl
  · rw [hp, show sqB (nI x) (nI y) = true from hc, show iN (nI x) = x from nI_clamp (by omega), show iN (nI y) = y from nI_clamp (by omega), AG_rsn ag hx hy, if_pos (show true = true from rfl)]
    by_cases e : reason f0 x y = 0
    · have hm : MV f x y := reason_MV hx hy (by rw [AG_rsn ag hx hy]; exact e)
      refine ⟨0, mov (cpb f rf) g x y, enc (kingN (mov f g x y)), b01 g, ?_⟩
      rw [if_pos e, if_pos e, Option.bind_some, if_pos rfl, f_isWinning rf pb uk hm, Option.bind_some, ← AG_winB ag hx hy]
      cases winB f g x y <;> rfl
    · refine ⟨3, rf, rk, rs, ?_⟩
      rw [if_neg e, if_neg e]
      rfl
theorem q_winning {f f0 : Nat → Int32} (ag : AG f f0) (pb : PB f) (uk : UK f) (g : Bool) (rk rs rn : Int32) (rf rmf : Nat → Int32) (a1 : Int32) : ∃ k rf' rk' rs' rmf' rn', fL_winning (enc (kingN f)) (b01 g) f rk rs rf rn rmf a1 = some (k, v_winning f0 g a1, rf', rk', rs', rmf', rn') := by
  unfold v_winning fL_winning fX8_winningMoves
  rw [f_needSide]
  rcases sideC a1 with ⟨hc, hd⟩ | hc
  · obtain ⟨rf', rk', rs', e⟩ := f_countWinning rk rs rf rmf pb uk g hd
    refine ⟨0, rf', rk', rs', ap rmf 0 (LMv f a1), nI (LMv f a1).length, ?_⟩
    rw [hc, Option.bind_some, if_pos rfl, if_pos rfl, if_pos rfl, e, AG_WN ag]
    rfl
  · refine ⟨1, rf, rk, rs, rmf, rn, ?_⟩
    rw [hc]
    rfl
theorem q_worthOf {f f0 : Nat → Int32} (ag : AG f f0) (pb : PB f) (uk : UK f) (g : Bool) (bk bs : Int32) (bf : Nat → Int32) (rk rs : Int32) (rf : Nat → Int32) (rn : Int32) (rmf : Nat → Int32) (a1 a2 : Int32) : ∃ k bf' bk' bs' rf' rk' rs' rmf' rn', fL_worthOf (enc (kingN f)) (b01 g) f bk bs bf rk rs rf rn rmf a1 a2 = some (k, v_worthOf f0 g a1 a2, bf', bk', bs', rf', rk', rs', rmf', rn') := by
  unfold v_worthOf fL_worthOf fX8_worthOf
  rcases f_needPossible (f := f) a1 a2 with ⟨hc, hp⟩ | ⟨x, y, hx, hy, rfl, rfl, hc, hp⟩
  · refine ⟨1, bf, bk, bs, rf, rk, rs, rmf, rn, ?_⟩
    rw [hp, show sqB a1 a2 = false from hc]
    rfl
  · rw [hp, show sqB (nI x) (nI y) = true from hc, show iN (nI x) = x from nI_clamp (by omega), show iN (nI y) = y from nI_clamp (by omega), AG_rsn ag hx hy, if_pos (show true = true from rfl)]
    by_cases e : reason f0 x y = 0
    · have hm : MV f x y := reason_MV hx hy (by rw [AG_rsn ag hx hy]; exact e)
      obtain ⟨bf', bk', rf', rk', rs', rmf', rn', e8⟩ := f_worth8 bf rf rmf rk rs rn pb uk (g := g) hm
      refine ⟨0, bf', bk', b01 g, rf', rk', rs', rmf', rn', ?_⟩
      rw [if_pos e, if_pos e, Option.bind_some, if_pos rfl, e8, Option.bind_some, AG_worN ag hx hy]
      rfl
    · refine ⟨3, bf, bk, bs, rf, rk, rs, rmf, rn, ?_⟩
      rw [if_neg e, if_neg e]
      rfl
theorem q_moveAt {f f0 : Nat → Int32} (ag : AG f f0) (cnt : Int32) (mf : Nat → Int32) (a1 a2 : Int32) : ∃ k mf' cnt', fL_moveAt f cnt mf a1 a2 = some (k, v_moveAt f0 a1 a2, mf', cnt') := by
  unfold v_moveAt fL_moveAt fX8_moveAt
  rw [f_needSide, ← AG_LMv ag]
  rcases sideC a1 with ⟨hc, hd⟩ | hc
  · have hlen := LMv_len (b := f) hd
    have hmc := mcN_le f a1
    rw [hc, Option.bind_some, if_pos rfl, if_pos rfl, if_pos rfl, f_listMoves mf hd, Option.bind_some]
    by_cases e1 : a2 < 0
    · refine ⟨1, ap mf 0 (LMv f a1), nI (LMv f a1).length, ?_⟩
      rw [if_pos e1]
      simp only [jn_eq]
      rw [if_pos e1]
      rfl
    · by_cases e2 : a2 < nI (LMv f a1).length
      · obtain ⟨k, hk, rfl⟩ : ∃ k, k < (LMv f a1).length ∧ a2 = nI k := by
          rw [Int32.lt_iff_toInt_lt, nI_toInt (by omega)] at e2
          rw [Int32.lt_iff_toInt_lt] at e1
          have h0 : (0 : Int32).toInt = 0 := by decide
          rw [h0] at e1
          refine ⟨a2.toInt.toNat, by omega, Int32.toInt_inj.mp ?_⟩
          rw [nI_toInt (by omega)]
          omega
        refine ⟨0, ap mf 0 (LMv f a1), nI (LMv f a1).length, ?_⟩
        rw [if_neg e1, if_pos e2, show iN (nI k) = k from nI_clamp (by omega)]
        simp only [jn_eq]
        rw [if_neg e1]
        show ((if nI k < nI (LMv f a1).length then (fX3_codeAt (nI (LMv f a1).length) (ap mf 0 (LMv f a1)) (nI k)).bind _ else _) : Option (Nat × Int32 × (Nat → Int32) × Int32)).bind _ = _
        rw [if_pos e2, f_codeAt (by omega) hk, List.getD_eq_getElem?_getD, List.getElem?_eq_getElem hk]
        rfl
      · refine ⟨1, ap mf 0 (LMv f a1), nI (LMv f a1).length, ?_⟩
        rw [if_neg e1, if_neg e2]
        simp only [jn_eq]
        rw [if_neg e1]
        show ((if a2 < nI (LMv f a1).length then (fX3_codeAt (nI (LMv f a1).length) (ap mf 0 (LMv f a1)) a2).bind _ else _) : Option (Nat × Int32 × (Nat → Int32) × Int32)).bind _ = _
        rw [if_neg e2]
        rfl
  · rw [hc]
    exact ⟨1, mf, cnt, rfl⟩
theorem q_bestMove {f f0 : Nat → Int32} (ag : AG f f0) (pb : PB f) (uk : UK f) (g : Bool) (bk bs : Int32) (bf : Nat → Int32) (rk rs : Int32) (rf : Nat → Int32) (rn : Int32) (rmf : Nat → Int32) (cnt : Int32) (mf : Nat → Int32) (a1 : Int32) : ∃ k bf' bk' bs' rf' rk' rs' rmf' rn' mf' cnt', fL_bestMove (enc (kingN f)) (b01 g) f bk bs bf rk rs rf rn rmf cnt mf a1 = some (k, v_bestMove f0 g a1, bf', bk', bs', rf', rk', rs', rmf', rn', mf', cnt') := by
  unfold v_bestMove
  rcases sideC a1 with ⟨hc, hd⟩ | hc
  · obtain ⟨bf', bk', bs', rf', rk', rs', rmf', rn', mf', cnt', e8⟩ := f_bestMove8 bf rf rmf mf bk bs rk rs rn cnt pb uk g hd
    have eB : BM f g a1 = BM f0 g a1 := by
      unfold BM
      rw [← AG_LMv ag]
      rw [AG_bfo ag _ _ _ (fun x hx => LMv_lt hx)]
    unfold fL_bestMove
    rw [e8, hc, if_pos rfl, ← AG_mcN ag, ← eB]
    by_cases e : mcN f a1 = 0
    · refine ⟨3, bf', bk', bs', rf', rk', rs', rmf', rn', mf', cnt', ?_⟩
      rw [if_pos e, if_pos e, if_pos e]
      rfl
    · refine ⟨0, bf', bk', bs', rf', rk', rs', rmf', rn', mf', cnt', ?_⟩
      rw [if_neg e, if_neg e, if_neg e]
      rfl
  · unfold fL_bestMove fX8_bestMove
    rw [f_needSide, hc]
    exact ⟨1, bf, bk, bs, rf, rk, rs, rmf, rn, mf, cnt, rfl⟩
theorem q_byRounds {f f0 : Nat → Int32} (ag : AG f f0) (krf kqf : Nat → Int32) : ∃ k k1 k2 k3, fL_byRounds (enc (kingN f)) f krf kqf = some (k, v_byRounds f0, k1, k2, k3) := by
  obtain ⟨k1, k2, k3, e8⟩ := k_rounds krf kqf ag
  have hlt := kmF_lt (qA_MD f0) 49
  unfold v_byRounds fL_byRounds fX8_kingMovesByRounds
  rw [e8, Option.bind_some]
  simp only [enc_neg hlt]
  cases e : kmF (qA f0) 49 with
  | none => exact ⟨3, k1, k2, k3, rfl⟩
  | some t =>
    refine ⟨0, k1, k2, k3, ?_⟩
    rw [if_pos nofun]
    rfl
theorem q_byCorners {f f0 : Nat → Int32} (ag : AG f f0) (ko : KO f) (uk : UK f) (kc : Int32) (krf kqf : Nat → Int32) : ∃ k k1 k2 k3, fL_byCorners (enc (kingN f)) f kc krf kqf = some (k, v_byRounds f0, k1, k2, k3) := by
  obtain ⟨k1, k2, k3, e8⟩ := k_corners krf kqf kc ag ko uk
  have hlt := kmF_lt (qA_MD f0) 49
  unfold v_byRounds fL_byCorners fX8_kingMovesByCorners
  rw [e8, Option.bind_some]
  simp only [enc_neg hlt]
  cases e : kmF (qA f0) 49 with
  | none => exact ⟨3, k1, k2, k3, rfl⟩
  | some t =>
    refine ⟨0, k1, k2, k3, ?_⟩
    rw [if_pos nofun]
    rfl
theorem q_openCorners {f f0 : Nat → Int32} (ag : AG f f0) : fX8_openCorners (enc (kingN f)) f = some (nI (coN (qA f0))) := by
  unfold fX8_openCorners
  rw [k_open ag]
  rfl
theorem q_kingReach {f f0 : Nat → Int32} (ag : AG f f0) (krf kqf : Nat → Int32) : ∃ k1 k2 k3, fX8_kingReach (enc (kingN f)) f krf kqf = some (nI (reN (qA f0)), k1, k2, k3) := by
  obtain ⟨k1, k2, k3, e8⟩ := k_reach krf kqf ag
  refine ⟨k1, k2, k3, ?_⟩
  unfold fX8_kingReach
  rw [e8]
  rfl

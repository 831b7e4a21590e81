/-! ===== what a call answers, said of the cells and the state ===== -/
section DLEM
variable {K : List HP → Option Nat → Prop} {f : Nat → Int32} {kk : Int32} {sg : Int32} {sd : Int32} {mv : Int32} {gm : Int32} {lt : Option Nat} {w1 : Int32} {w2 : Int32} {dg : Int32} {t1 : Int32} {t2 : Int32} {am : Int32} {fT : Nat → Int32} {kkT : Int32} {sgT : Int32} {sdT : Int32} {mvT : Int32} {gmT : Int32} {ltT : Option Nat} {w1T : Int32} {w2T : Int32} {dgT : Int32} {t1T : Int32} {t2T : Int32} {amT : Int32} {so : Int32} {sc : Int32} {sx : Nat → SV} {skf : Nat → Int32} {qx : Nat → SV} {tl : Int32} {tf : Nat → Int32} {cnt : Int32} {mf : Nat → Int32} {bk : Int32} {bs : Int32} {bf : Nat → Int32} {rk : Int32} {rs : Int32} {rf : Nat → Int32} {rn : Int32} {rmf : Nat → Int32} {kc : Int32} {krf : Nat → Int32} {kqf : Nat → Int32} {st : PS}
theorem dq_pieceAt (hR : OR K (f, kk, sg, sd, mv, gm, lt, w1, w2, dg, t1, t2, am) so sc sx skf qx tl tf st) (hG : GD st) (a1 : Int32) (a2 : Int32) : ∃ k, fL_pieceAt f a1 a2 = some (k, v_pieceAt (aF st.1) a1 a2) := by
  obtain ⟨f0, hh, l, sl, t, tx, s, rfl, ag, hK, rfl, hs, rfl, hl, hB, hS, rfl, ht, htx⟩ := OR_e hR
  obtain ⟨pb, uk, ko, hkk, hg, hdm, h0, hok, hrun⟩ := IA_e hG.1.1
  have ekf : kk = enc (kingN f) := by
    rw [AG_kingN ag]
    exact hkk
  have esg := g01 hg
  have ag' := AG_symm ag
  have e := q_pieceAt ag a1 a2
  try rw [← ekf] at e
  try rw [← esg] at e
  exact e
theorem dq_piecesOf (hR : OR K (f, kk, sg, sd, mv, gm, lt, w1, w2, dg, t1, t2, am) so sc sx skf qx tl tf st) (hG : GD st) (a1 : Int32) : ∃ k, fL_piecesOf f a1 = some (k, v_piecesOf (aF st.1) a1) := by
  obtain ⟨f0, hh, l, sl, t, tx, s, rfl, ag, hK, rfl, hs, rfl, hl, hB, hS, rfl, ht, htx⟩ := OR_e hR
  obtain ⟨pb, uk, ko, hkk, hg, hdm, h0, hok, hrun⟩ := IA_e hG.1.1
  have ekf : kk = enc (kingN f) := by
    rw [AG_kingN ag]
    exact hkk
  have esg := g01 hg
  have ag' := AG_symm ag
  have e := q_piecesOf ag a1
  try rw [← ekf] at e
  try rw [← esg] at e
  exact e
theorem dq_kingAt (hR : OR K (f, kk, sg, sd, mv, gm, lt, w1, w2, dg, t1, t2, am) so sc sx skf qx tl tf st) (hG : GD st) : ∃ k, fL_kingAt kk = some (k, v_kingAt (aF st.1)) := by
  obtain ⟨f0, hh, l, sl, t, tx, s, rfl, ag, hK, rfl, hs, rfl, hl, hB, hS, rfl, ht, htx⟩ := OR_e hR
  obtain ⟨pb, uk, ko, hkk, hg, hdm, h0, hok, hrun⟩ := IA_e hG.1.1
  have ekf : kk = enc (kingN f) := by
    rw [AG_kingN ag]
    exact hkk
  have esg := g01 hg
  have ag' := AG_symm ag
  have e := q_kingAt ag
  try rw [← ekf] at e
  try rw [← esg] at e
  exact e
theorem dq_hostile (hR : OR K (f, kk, sg, sd, mv, gm, lt, w1, w2, dg, t1, t2, am) so sc sx skf qx tl tf st) (hG : GD st) (a1 : Int32) (a2 : Int32) (a3 : Int32) : ∃ k, fL_hostile f a1 a2 a3 = some (k, v_hostile (aF st.1) a1 a2 a3) := by
  obtain ⟨f0, hh, l, sl, t, tx, s, rfl, ag, hK, rfl, hs, rfl, hl, hB, hS, rfl, ht, htx⟩ := OR_e hR
  obtain ⟨pb, uk, ko, hkk, hg, hdm, h0, hok, hrun⟩ := IA_e hG.1.1
  have ekf : kk = enc (kingN f) := by
    rw [AG_kingN ag]
    exact hkk
  have esg := g01 hg
  have ag' := AG_symm ag
  have e := q_hostile ag (AG_PB ag' pb) a1 a2 a3
  try rw [← ekf] at e
  try rw [← esg] at e
  exact e
theorem dq_turn (hR : OR K (f, kk, sg, sd, mv, gm, lt, w1, w2, dg, t1, t2, am) so sc sx skf qx tl tf st) (hG : GD st) : ∃ k, fL_turn sd mv = some (k, v_turn (aS st.1) (aM st.1)) := by
  obtain ⟨f0, hh, l, sl, t, tx, s, rfl, ag, hK, rfl, hs, rfl, hl, hB, hS, rfl, ht, htx⟩ := OR_e hR
  obtain ⟨pb, uk, ko, hkk, hg, hdm, h0, hok, hrun⟩ := IA_e hG.1.1
  have ekf : kk = enc (kingN f) := by
    rw [AG_kingN ag]
    exact hkk
  have esg := g01 hg
  have ag' := AG_symm ag
  have e := q_turn sd mv
  try rw [← ekf] at e
  try rw [← esg] at e
  exact e
theorem dq_canMove (hR : OR K (f, kk, sg, sd, mv, gm, lt, w1, w2, dg, t1, t2, am) so sc sx skf qx tl tf st) (hG : GD st) (a1 : Int32) (a2 : Int32) : ∃ k, fL_canMove f a1 a2 = some (k, v_canMove (aF st.1) a1 a2) := by
  obtain ⟨f0, hh, l, sl, t, tx, s, rfl, ag, hK, rfl, hs, rfl, hl, hB, hS, rfl, ht, htx⟩ := OR_e hR
  obtain ⟨pb, uk, ko, hkk, hg, hdm, h0, hok, hrun⟩ := IA_e hG.1.1
  have ekf : kk = enc (kingN f) := by
    rw [AG_kingN ag]
    exact hkk
  have esg := g01 hg
  have ag' := AG_symm ag
  have e := q_canMove ag a1 a2
  try rw [← ekf] at e
  try rw [← esg] at e
  exact e
theorem dq_against (hR : OR K (f, kk, sg, sd, mv, gm, lt, w1, w2, dg, t1, t2, am) so sc sx skf qx tl tf st) (hG : GD st) (a1 : Int32) (a2 : Int32) : ∃ k, fL_against f a1 a2 = some (k, v_against (aF st.1) a1 a2) := by
  obtain ⟨f0, hh, l, sl, t, tx, s, rfl, ag, hK, rfl, hs, rfl, hl, hB, hS, rfl, ht, htx⟩ := OR_e hR
  obtain ⟨pb, uk, ko, hkk, hg, hdm, h0, hok, hrun⟩ := IA_e hG.1.1
  have ekf : kk = enc (kingN f) := by
    rw [AG_kingN ag]
    exact hkk
  have esg := g01 hg
  have ag' := AG_symm ag
  have e := q_against ag a1 a2
  try rw [← ekf] at e
  try rw [← esg] at e
  exact e
theorem dq_movesFrom (hR : OR K (f, kk, sg, sd, mv, gm, lt, w1, w2, dg, t1, t2, am) so sc sx skf qx tl tf st) (hG : GD st) (a1 : Int32) (a2 : Int32) : ∃ k, fL_movesFrom f a1 a2 = some (k, v_movesFrom (aF st.1) a1 a2) := by
  obtain ⟨f0, hh, l, sl, t, tx, s, rfl, ag, hK, rfl, hs, rfl, hl, hB, hS, rfl, ht, htx⟩ := OR_e hR
  obtain ⟨pb, uk, ko, hkk, hg, hdm, h0, hok, hrun⟩ := IA_e hG.1.1
  have ekf : kk = enc (kingN f) := by
    rw [AG_kingN ag]
    exact hkk
  have esg := g01 hg
  have ag' := AG_symm ag
  have e := q_movesFrom ag a1 a2
  try rw [← ekf] at e
  try rw [← esg] at e
  exact e
theorem dq_byPieces (hR : OR K (f, kk, sg, sd, mv, gm, lt, w1, w2, dg, t1, t2, am) so sc sx skf qx tl tf st) (hG : GD st) (a1 : Int32) : ∃ k, fL_byPieces f a1 = some (k, v_byPieces (aF st.1) a1) := by
  obtain ⟨f0, hh, l, sl, t, tx, s, rfl, ag, hK, rfl, hs, rfl, hl, hB, hS, rfl, ht, htx⟩ := OR_e hR
  obtain ⟨pb, uk, ko, hkk, hg, hdm, h0, hok, hrun⟩ := IA_e hG.1.1
  have ekf : kk = enc (kingN f) := by
    rw [AG_kingN ag]
    exact hkk
  have esg := g01 hg
  have ag' := AG_symm ag
  have e := q_byPieces ag a1
  try rw [← ekf] at e
  try rw [← esg] at e
  exact e
theorem dq_bySquares (hR : OR K (f, kk, sg, sd, mv, gm, lt, w1, w2, dg, t1, t2, am) so sc sx skf qx tl tf st) (hG : GD st) (a1 : Int32) : ∃ k, fL_bySquares f a1 = some (k, v_byPieces (aF st.1) a1) := by
  obtain ⟨f0, hh, l, sl, t, tx, s, rfl, ag, hK, rfl, hs, rfl, hl, hB, hS, rfl, ht, htx⟩ := OR_e hR
  obtain ⟨pb, uk, ko, hkk, hg, hdm, h0, hok, hrun⟩ := IA_e hG.1.1
  have ekf : kk = enc (kingN f) := by
    rw [AG_kingN ag]
    exact hkk
  have esg := g01 hg
  have ag' := AG_symm ag
  have e := q_bySquares ag a1
  try rw [← ekf] at e
  try rw [← esg] at e
  exact e
theorem dq_wouldTake (hR : OR K (f, kk, sg, sd, mv, gm, lt, w1, w2, dg, t1, t2, am) so sc sx skf qx tl tf st) (hG : GD st) (a1 : Int32) (a2 : Int32) : ∃ k bf' bk' bs', fL_wouldTake kk sg f bk bs bf a1 a2 = some (k, v_wouldTake (aF st.1) (aG st.1) a1 a2, bf', bk', bs') := by
  obtain ⟨f0, hh, l, sl, t, tx, s, rfl, ag, hK, rfl, hs, rfl, hl, hB, hS, rfl, ht, htx⟩ := OR_e hR
  obtain ⟨pb, uk, ko, hkk, hg, hdm, h0, hok, hrun⟩ := IA_e hG.1.1
  have ekf : kk = enc (kingN f) := by
    rw [AG_kingN ag]
    exact hkk
  have esg := g01 hg
  have ag' := AG_symm ag
  have e := q_wouldTake ag (AG_PB ag' pb) (AG_UK ag' uk) (decide (sg = 1)) bk bs bf a1 a2
  try rw [← ekf] at e
  try rw [← esg] at e
  exact e
theorem dq_wouldWin (hR : OR K (f, kk, sg, sd, mv, gm, lt, w1, w2, dg, t1, t2, am) so sc sx skf qx tl tf st) (hG : GD st) (a1 : Int32) (a2 : Int32) : ∃ k rf' rk' rs', fL_wouldWin kk sg f rk rs rf a1 a2 = some (k, v_wouldWin (aF st.1) (aG st.1) a1 a2, rf', rk', rs') := by
  obtain ⟨f0, hh, l, sl, t, tx, s, rfl, ag, hK, rfl, hs, rfl, hl, hB, hS, rfl, ht, htx⟩ := OR_e hR
  obtain ⟨pb, uk, ko, hkk, hg, hdm, h0, hok, hrun⟩ := IA_e hG.1.1
  have ekf : kk = enc (kingN f) := by
    rw [AG_kingN ag]
    exact hkk
  have esg := g01 hg
  have ag' := AG_symm ag
  have e := q_wouldWin ag (AG_PB ag' pb) (AG_UK ag' uk) (decide (sg = 1)) rk rs rf a1 a2
  try rw [← ekf] at e
  try rw [← esg] at e
  exact e
theorem dq_winning (hR : OR K (f, kk, sg, sd, mv, gm, lt, w1, w2, dg, t1, t2, am) so sc sx skf qx tl tf st) (hG : GD st) (a1 : Int32) : ∃ k rf' rk' rs' rmf' rn', fL_winning kk sg f rk rs rf rn rmf a1 = some (k, v_winning (aF st.1) (aG st.1) a1, rf', rk', rs', rmf', rn') := by
  obtain ⟨f0, hh, l, sl, t, tx, s, rfl, ag, hK, rfl, hs, rfl, hl, hB, hS, rfl, ht, htx⟩ := OR_e hR
  obtain ⟨pb, uk, ko, hkk, hg, hdm, h0, hok, hrun⟩ := IA_e hG.1.1
  have ekf : kk = enc (kingN f) := by
    rw [AG_kingN ag]
    exact hkk
  have esg := g01 hg
  have ag' := AG_symm ag
  have e := q_winning ag (AG_PB ag' pb) (AG_UK ag' uk) (decide (sg = 1)) rk rs rn rf rmf a1
  try rw [← ekf] at e
  try rw [← esg] at e
  exact e
theorem dq_moveAt (hR : OR K (f, kk, sg, sd, mv, gm, lt, w1, w2, dg, t1, t2, am) so sc sx skf qx tl tf st) (hG : GD st) (a1 : Int32) (a2 : Int32) : ∃ k mf' cnt', fL_moveAt f cnt mf a1 a2 = some (k, v_moveAt (aF st.1) a1 a2, mf', cnt') := by
  obtain ⟨f0, hh, l, sl, t, tx, s, rfl, ag, hK, rfl, hs, rfl, hl, hB, hS, rfl, ht, htx⟩ := OR_e hR
  obtain ⟨pb, uk, ko, hkk, hg, hdm, h0, hok, hrun⟩ := IA_e hG.1.1
  have ekf : kk = enc (kingN f) := by
    rw [AG_kingN ag]
    exact hkk
  have esg := g01 hg
  have ag' := AG_symm ag
  have e := q_moveAt ag cnt mf a1 a2
  try rw [← ekf] at e
  try rw [← esg] at e
  exact e
theorem dq_byRounds (hR : OR K (f, kk, sg, sd, mv, gm, lt, w1, w2, dg, t1, t2, am) so sc sx skf qx tl tf st) (hG : GD st) : ∃ k krf' kqf' kc', fL_byRounds kk f krf kqf = some (k, v_byRounds (aF st.1), krf', kqf', kc') := by
  obtain ⟨f0, hh, l, sl, t, tx, s, rfl, ag, hK, rfl, hs, rfl, hl, hB, hS, rfl, ht, htx⟩ := OR_e hR
  obtain ⟨pb, uk, ko, hkk, hg, hdm, h0, hok, hrun⟩ := IA_e hG.1.1
  have ekf : kk = enc (kingN f) := by
    rw [AG_kingN ag]
    exact hkk
  have esg := g01 hg
  have ag' := AG_symm ag
  have e := q_byRounds ag krf kqf
  try rw [← ekf] at e
  try rw [← esg] at e
  exact e
theorem dq_byCorners (hR : OR K (f, kk, sg, sd, mv, gm, lt, w1, w2, dg, t1, t2, am) so sc sx skf qx tl tf st) (hG : GD st) : ∃ k krf' kqf' kc', fL_byCorners kk f kc krf kqf = some (k, v_byRounds (aF st.1), krf', kqf', kc') := by
  obtain ⟨f0, hh, l, sl, t, tx, s, rfl, ag, hK, rfl, hs, rfl, hl, hB, hS, rfl, ht, htx⟩ := OR_e hR
  obtain ⟨pb, uk, ko, hkk, hg, hdm, h0, hok, hrun⟩ := IA_e hG.1.1
  have ekf : kk = enc (kingN f) := by
    rw [AG_kingN ag]
    exact hkk
  have esg := g01 hg
  have ag' := AG_symm ag
  have e := q_byCorners ag (AG_KO ag' ko) (AG_UK ag' uk) kc krf kqf
  try rw [← ekf] at e
  try rw [← esg] at e
  exact e
theorem dq_pressure (hR : OR K (f, kk, sg, sd, mv, gm, lt, w1, w2, dg, t1, t2, am) so sc sx skf qx tl tf st) (hG : GD st) : ∃ k, fL_pressure kk f = some (k, v_pressure (aF st.1)) := by
  obtain ⟨f0, hh, l, sl, t, tx, s, rfl, ag, hK, rfl, hs, rfl, hl, hB, hS, rfl, ht, htx⟩ := OR_e hR
  obtain ⟨pb, uk, ko, hkk, hg, hdm, h0, hok, hrun⟩ := IA_e hG.1.1
  have ekf : kk = enc (kingN f) := by
    rw [AG_kingN ag]
    exact hkk
  have esg := g01 hg
  have ag' := AG_symm ag
  have e := q_pressure ag (AG_PB ag' pb)
  try rw [← ekf] at e
  try rw [← esg] at e
  exact e
theorem dq_worthOf (hR : OR K (f, kk, sg, sd, mv, gm, lt, w1, w2, dg, t1, t2, am) so sc sx skf qx tl tf st) (hG : GD st) (a1 : Int32) (a2 : Int32) : ∃ k bf' bk' bs' rf' rk' rs' rmf' rn', fL_worthOf kk sg f bk bs bf rk rs rf rn rmf a1 a2 = some (k, v_worthOf (aF st.1) (aG st.1) a1 a2, bf', bk', bs', rf', rk', rs', rmf', rn') := by
  obtain ⟨f0, hh, l, sl, t, tx, s, rfl, ag, hK, rfl, hs, rfl, hl, hB, hS, rfl, ht, htx⟩ := OR_e hR
  obtain ⟨pb, uk, ko, hkk, hg, hdm, h0, hok, hrun⟩ := IA_e hG.1.1
  have ekf : kk = enc (kingN f) := by
    rw [AG_kingN ag]
    exact hkk
  have esg := g01 hg
  have ag' := AG_symm ag
  have e := q_worthOf ag (AG_PB ag' pb) (AG_UK ag' uk) (decide (sg = 1)) bk bs bf rk rs rf rn rmf a1 a2
  try rw [← ekf] at e
  try rw [← esg] at e
  exact e
theorem dq_bestMove (hR : OR K (f, kk, sg, sd, mv, gm, lt, w1, w2, dg, t1, t2, am) so sc sx skf qx tl tf st) (hG : GD st) (a1 : Int32) : ∃ k bf' bk' bs' rf' rk' rs' rmf' rn' mf' cnt', fL_bestMove kk sg f bk bs bf rk rs rf rn rmf cnt mf a1 = some (k, v_bestMove (aF st.1) (aG st.1) a1, bf', bk', bs', rf', rk', rs', rmf', rn', mf', cnt') := by
  obtain ⟨f0, hh, l, sl, t, tx, s, rfl, ag, hK, rfl, hs, rfl, hl, hB, hS, rfl, ht, htx⟩ := OR_e hR
  obtain ⟨pb, uk, ko, hkk, hg, hdm, h0, hok, hrun⟩ := IA_e hG.1.1
  have ekf : kk = enc (kingN f) := by
    rw [AG_kingN ag]
    exact hkk
  have esg := g01 hg
  have ag' := AG_symm ag
  have e := q_bestMove ag (AG_PB ag' pb) (AG_UK ag' uk) (decide (sg = 1)) bk bs bf rk rs rf rn rmf cnt mf a1
  try rw [← ekf] at e
  try rw [← esg] at e
  exact e
theorem dq_wins (hR : OR K (f, kk, sg, sd, mv, gm, lt, w1, w2, dg, t1, t2, am) so sc sx skf qx tl tf st) (hG : GD st) (a1 : Int32) : ∃ k, fL_wins w1 w2 a1 = some (k, v_ofSide (aW1 st.1) (aW2 st.1) a1) := by
  obtain ⟨f0, hh, l, sl, t, tx, s, rfl, ag, hK, rfl, hs, rfl, hl, hB, hS, rfl, ht, htx⟩ := OR_e hR
  obtain ⟨pb, uk, ko, hkk, hg, hdm, h0, hok, hrun⟩ := IA_e hG.1.1
  have ekf : kk = enc (kingN f) := by
    rw [AG_kingN ag]
    exact hkk
  have esg := g01 hg
  have ag' := AG_symm ag
  have e := q_wins w1 w2 a1
  try rw [← ekf] at e
  try rw [← esg] at e
  exact e
theorem dq_takenOf (hR : OR K (f, kk, sg, sd, mv, gm, lt, w1, w2, dg, t1, t2, am) so sc sx skf qx tl tf st) (hG : GD st) (a1 : Int32) : ∃ k, fL_takenOf t1 t2 a1 = some (k, v_ofSide (aT1 st.1) (aT2 st.1) a1) := by
  obtain ⟨f0, hh, l, sl, t, tx, s, rfl, ag, hK, rfl, hs, rfl, hl, hB, hS, rfl, ht, htx⟩ := OR_e hR
  obtain ⟨pb, uk, ko, hkk, hg, hdm, h0, hok, hrun⟩ := IA_e hG.1.1
  have ekf : kk = enc (kingN f) := by
    rw [AG_kingN ag]
    exact hkk
  have esg := g01 hg
  have ag' := AG_symm ag
  have e := q_takenOf t1 t2 a1
  try rw [← ekf] at e
  try rw [← esg] at e
  exact e
theorem dq_standing (hR : OR K (f, kk, sg, sd, mv, gm, lt, w1, w2, dg, t1, t2, am) so sc sx skf qx tl tf st) (hG : GD st) : fX8_standing sd = some (aS st.1) := by
  have hR0 := hR
  obtain ⟨f0, hh, l, sl, t, tx, s, rfl, ag, hK, rfl, hs, rfl, hl, hB, hS, rfl, ht, htx⟩ := OR_e hR
  obtain ⟨pb, uk, ko, hkk, hg, hdm, h0, hok, hrun⟩ := IA_e hG.1.1
  have ekf : kk = enc (kingN f) := by
    rw [AG_kingN ag]
    exact hkk
  have esg := g01 hg
  have ag' := AG_symm ag
  exact rfl
theorem dq_moves (hR : OR K (f, kk, sg, sd, mv, gm, lt, w1, w2, dg, t1, t2, am) so sc sx skf qx tl tf st) (hG : GD st) : fX8_moves gm = some (aN st.1) := by
  have hR0 := hR
  obtain ⟨f0, hh, l, sl, t, tx, s, rfl, ag, hK, rfl, hs, rfl, hl, hB, hS, rfl, ht, htx⟩ := OR_e hR
  obtain ⟨pb, uk, ko, hkk, hg, hdm, h0, hok, hrun⟩ := IA_e hG.1.1
  have ekf : kk = enc (kingN f) := by
    rw [AG_kingN ag]
    exact hkk
  have esg := g01 hg
  have ag' := AG_symm ag
  exact rfl
theorem dq_allMoves (hR : OR K (f, kk, sg, sd, mv, gm, lt, w1, w2, dg, t1, t2, am) so sc sx skf qx tl tf st) (hG : GD st) : fX8_allMoves am = some (aAm st.1) := by
  have hR0 := hR
  obtain ⟨f0, hh, l, sl, t, tx, s, rfl, ag, hK, rfl, hs, rfl, hl, hB, hS, rfl, ht, htx⟩ := OR_e hR
  obtain ⟨pb, uk, ko, hkk, hg, hdm, h0, hok, hrun⟩ := IA_e hG.1.1
  have ekf : kk = enc (kingN f) := by
    rw [AG_kingN ag]
    exact hkk
  have esg := g01 hg
  have ag' := AG_symm ag
  exact rfl
theorem dq_isStrong (hR : OR K (f, kk, sg, sd, mv, gm, lt, w1, w2, dg, t1, t2, am) so sc sx skf qx tl tf st) (hG : GD st) : fX8_isStrong sg = some (b01 (aG st.1)) := by
  have hR0 := hR
  obtain ⟨f0, hh, l, sl, t, tx, s, rfl, ag, hK, rfl, hs, rfl, hl, hB, hS, rfl, ht, htx⟩ := OR_e hR
  obtain ⟨pb, uk, ko, hkk, hg, hdm, h0, hok, hrun⟩ := IA_e hG.1.1
  have ekf : kk = enc (kingN f) := by
    rw [AG_kingN ag]
    exact hkk
  have esg := g01 hg
  have ag' := AG_symm ag
  obtain ⟨g, rfl⟩ := hg
  cases g <;> rfl
theorem dq_savedStates (hR : OR K (f, kk, sg, sd, mv, gm, lt, w1, w2, dg, t1, t2, am) so sc sx skf qx tl tf st) (hG : GD st) : fX8_savedStates sc = some (nI st.2.1.length) := by
  have hR0 := hR
  obtain ⟨f0, hh, l, sl, t, tx, s, rfl, ag, hK, rfl, hs, rfl, hl, hB, hS, rfl, ht, htx⟩ := OR_e hR
  obtain ⟨pb, uk, ko, hkk, hg, hdm, h0, hok, hrun⟩ := IA_e hG.1.1
  have ekf : kk = enc (kingN f) := by
    rw [AG_kingN ag]
    exact hkk
  have esg := g01 hg
  have ag' := AG_symm ag
  exact rfl
theorem dq_firstError (hR : OR K (f, kk, sg, sd, mv, gm, lt, w1, w2, dg, t1, t2, am) so sc sx skf qx tl tf st) (hG : GD st) : fX8_firstError tl tf = some (v_firstError st) := by
  have hR0 := hR
  obtain ⟨f0, hh, l, sl, t, tx, s, rfl, ag, hK, rfl, hs, rfl, hl, hB, hS, rfl, ht, htx⟩ := OR_e hR
  obtain ⟨pb, uk, ko, hkk, hg, hdm, h0, hok, hrun⟩ := IA_e hG.1.1
  have ekf : kk = enc (kingN f) := by
    rw [AG_kingN ag]
    exact hkk
  have esg := g01 hg
  have ag' := AG_symm ag
  exact c_firstError hR0
theorem dq_openCorners (hR : OR K (f, kk, sg, sd, mv, gm, lt, w1, w2, dg, t1, t2, am) so sc sx skf qx tl tf st) (hG : GD st) : fX8_openCorners kk f = some (nI (coN (qA (aF st.1)))) := by
  have hR0 := hR
  obtain ⟨f0, hh, l, sl, t, tx, s, rfl, ag, hK, rfl, hs, rfl, hl, hB, hS, rfl, ht, htx⟩ := OR_e hR
  obtain ⟨pb, uk, ko, hkk, hg, hdm, h0, hok, hrun⟩ := IA_e hG.1.1
  have ekf : kk = enc (kingN f) := by
    rw [AG_kingN ag]
    exact hkk
  have esg := g01 hg
  have ag' := AG_symm ag
  have e := q_openCorners ag
  rw [← ekf] at e
  exact e
theorem dq_kingReach (hR : OR K (f, kk, sg, sd, mv, gm, lt, w1, w2, dg, t1, t2, am) so sc sx skf qx tl tf st) (hG : GD st) : ∃ krf' kqf' kc', fX8_kingReach kk f krf kqf = some (nI (reN (qA (aF st.1))), krf', kqf', kc') := by
  have hR0 := hR
  obtain ⟨f0, hh, l, sl, t, tx, s, rfl, ag, hK, rfl, hs, rfl, hl, hB, hS, rfl, ht, htx⟩ := OR_e hR
  obtain ⟨pb, uk, ko, hkk, hg, hdm, h0, hok, hrun⟩ := IA_e hG.1.1
  have ekf : kk = enc (kingN f) := by
    rw [AG_kingN ag]
    exact hkk
  have esg := g01 hg
  have ag' := AG_symm ag
  have e := q_kingReach ag krf kqf
  rw [← ekf] at e
  exact e
end DLEM

/-! ===== the law asks for what must fail: all fails, nothing changes ===== -/
theorem jn_p {α β : Type} (x : α) (k : α → β) : jn x k = k x := by
  have h : jn x k = k x := rfl
  exact h
theorem bnd_p {α β : Type} (x : α) (k : α → Option β) : bnd x k = k x := by
  have h : bnd x k = k x := rfl
  exact h
theorem bind_p {α β : Type} (x : α) (k : α → Option β) : (some x).bind k = k x := by
  have h : (some x).bind k = k x := rfl
  exact h
theorem e_put1 (st : PS) : o_put st 7 0 0 = (XI, st) := by
  unfold o_put
  rw [if_neg (show ¬ cellB 7 0 = true by decide)]
theorem e_put2 (st : PS) : o_put st 0 (-1) 9 = (XI, st) := by
  unfold o_put
  rw [if_neg (show ¬ cellB 0 (-1) = true by decide)]
theorem e_put3 (st : PS) : o_put st 0 0 4 = (XA, st) := by
  unfold o_put
  rw [if_pos (show cellB 0 0 = true by decide), if_neg (show ¬ inC 4 0 3 = true by decide)]
theorem e_put4 {st : PS} (h : ¬ aS st.1 = 0) : o_put st 3 1 1 = (XS, st) := by
  unfold o_put
  rw [if_pos (show cellB 3 1 = true by decide), if_pos (show inC 1 0 3 = true by decide), decide_eq_false h, Bool.false_and, if_neg (show ¬ false = true by decide)]
theorem e_start2 (st : PS) : o_start st 2 = (XI, st) := by
  unfold o_start
  rw [if_neg (show ¬ inC 2 0 1 = true by decide)]
theorem e_start0 {st : PS} (h : ¬ aS st.1 = 0) : o_start st 0 = (XS, st) := by
  unfold o_start canS
  rw [if_pos (show inC 0 0 1 = true by decide), decide_eq_false h, Bool.false_and, if_neg (show ¬ false = true by decide)]
theorem e_mv1 {st : PS} (h : (aH st.1).length < 900) : o_move st 49 0 = some (XI, st) := by
  unfold o_move
  rw [if_pos h, if_neg (show ¬ sqB 49 0 = true by decide)]
theorem e_mv2 {st : PS} (h : (aH st.1).length < 900) : o_move st 0 (-1) = some (XI, st) := by
  unfold o_move
  rw [if_pos h, if_neg (show ¬ sqB 0 (-1) = true by decide)]
theorem alA_no {a : AS} {x y : Nat} (h : ¬ reason (aF a) x y = 0) : ¬ alA a x y = true := fun e => h (alB_e e).2.2
theorem reason_xx (f : Nat → Int32) {x : Nat} (hx : x < 49) : ¬ reason f x x = 0 := fun e => (reason_MV hx hx e).2.2.1 rfl
theorem e_mvN {st : PS} (h : (aH st.1).length < 900) {x y : Nat} (hx : x < 49) (hy : y < 49) (hr : ¬ reason (aF st.1) x y = 0) : o_move st (nI x) (nI y) = some (XS, st) := by
  unfold o_move
  rw [if_pos h, sqB_nI x hx y hy, if_pos (show true = true from rfl), iN_nI (by omega), iN_nI (by omega), if_neg (alA_no hr)]
theorem e_mv3 {st : PS} (h : (aH st.1).length < 900) : o_move st 9 9 = some (XS, st) := e_mvN (x := 9) (y := 9) h (by decide) (by decide) (reason_xx _ (by decide))
theorem e_mv4 {st : PS} (h : (aH st.1).length < 900) (hs : ¬ aS st.1 = 1) : o_move st 3 4 = some (XS, st) := by
  unfold o_move
  rw [if_pos h, if_pos (show sqB 3 4 = true by decide), if_neg (show ¬ alA st.1 (iN 3) (iN 4) = true from fun e => hs (alB_e e).1)]
theorem e_app (st : PS) : o_append st 127 = (XA, st) := by
  unfold o_append
  rw [if_neg (show ¬ inC 127 33 126 = true by decide)]
theorem e_kp (st : PS) : o_keep st 2 = (XA, st) := by
  unfold o_keep
  rw [if_neg (show ¬ inC 2 0 1 = true by decide)]
theorem e_gb (st : PS) : o_goBack st (-1) = (XA, st) := by
  unfold o_goBack
  rw [if_neg (show ¬ inC (-1) 0 1 = true by decide)]
theorem e_p1 (f : Nat → Int32) : v_pieceAt f (-1) 0 = XI := if_neg (show ¬ cellB (-1) 0 = true by decide)
theorem e_p2 (f : Nat → Int32) : v_piecesOf f 2 = XI := if_neg (show ¬ inC 2 0 1 = true by decide)
theorem e_p3 (f : Nat → Int32) : v_hostile f 0 7 0 = XI := if_neg (show ¬ cellB 0 7 = true by decide)
theorem e_p4 (f : Nat → Int32) : v_hostile f 0 0 (-1) = XI := by
  unfold v_hostile
  rw [if_pos (show cellB 0 0 = true by decide), if_neg (show ¬ inC (-1) 0 1 = true by decide)]
theorem e_p5 (f : Nat → Int32) : v_canMove f 49 0 = XI := if_neg (show ¬ sqB 49 0 = true by decide)
theorem e_p6 (f : Nat → Int32) : v_against f 0 49 = XI := if_neg (show ¬ sqB 0 49 = true by decide)
theorem e_p7 (f : Nat → Int32) : v_movesFrom f 7 7 = XI := if_neg (show ¬ cellB 7 7 = true by decide)
theorem e_p8 (f : Nat → Int32) : v_byPieces f (-1) = XI := if_neg (show ¬ inC (-1) 0 1 = true by decide)
theorem e_p9 (f : Nat → Int32) : v_byPieces f 2 = XI := if_neg (show ¬ inC 2 0 1 = true by decide)
theorem e_q1 (f : Nat → Int32) (g : Bool) : v_wouldTake f g (-1) 0 = XI := if_neg (show ¬ sqB (-1) 0 = true by decide)
theorem e_q2 (f : Nat → Int32) (g : Bool) : v_wouldTake f g 3 3 = XS := va_takeX (x := 3) (y := 3) (by decide) (by decide) (reason_xx f (by decide))
theorem e_q3 (f : Nat → Int32) (g : Bool) : v_wouldWin f g 5 5 = XS := va_winX (x := 5) (y := 5) (by decide) (by decide) (reason_xx f (by decide))
theorem e_q4 (f : Nat → Int32) (g : Bool) : v_worthOf f g 24 24 = XS := va_worthX (x := 24) (y := 24) (by decide) (by decide) (reason_xx f (by decide))
theorem e_q5 (f : Nat → Int32) (g : Bool) : v_winning f g 2 = XI := if_neg (show ¬ inC 2 0 1 = true by decide)
theorem e_q6 (f : Nat → Int32) : v_moveAt f 0 (v_byPieces f 0).toInt32 = XI := va_moveX (Or.inl rfl)
theorem e_q7 (f : Nat → Int32) : v_moveAt f 2 0 = XI := if_neg (show ¬ inC 2 0 1 = true by decide)
theorem e_q8 (f : Nat → Int32) (g : Bool) : v_bestMove f g (-1) = XI := if_neg (show ¬ inC (-1) 0 1 = true by decide)
theorem e_q9 (x y : Int32) : v_ofSide x y 2 = XI := if_neg (show ¬ inC 2 0 1 = true by decide)
theorem e_r1 (x y : Int32) : v_ofSide x y (-1) = XI := if_neg (show ¬ inC (-1) 0 1 = true by decide)
theorem e_turn {sn mv : Int32} (h : ¬ sn = 1) : v_turn sn mv = XS := if_neg h
theorem aH_nil {a : AS} (ha : IA a) (h : aS a = 0) : aH a = [] := ha.2.2.2.2.2.2.1.mp h
theorem e_seen {a : AS} (ha : IA a) (h : aS a = 0) : v_timesSeen (aH a) = XS := by
  rw [aH_nil ha h]
  rfl
theorem k_at {f : Nat → Int32} (h : kingN f = none) : v_kingAt f = XS := by
  unfold v_kingAt
  rw [h]
theorem k_pr {f : Nat → Int32} (h : kingN f = none) : v_pressure f = XS := by
  unfold v_pressure
  rw [h]
theorem k_by {f : Nat → Int32} (h : kingN f = none) : v_byRounds f = XS := by
  unfold v_byRounds
  rw [kmQ_none h]
theorem k_is {f : Nat → Int32} {k : Nat} (h : kingN f = some k) : v_kingAt f = (nI k).toInt64 := by
  unfold v_kingAt
  rw [h]
theorem k_ne {f : Nat → Int32} {k : Nat} (h : kingN f = some k) : ¬ v_kingAt f = XS := by
  rw [k_is h]
  exact L_XS (by have := king_lt k h; omega)
theorem er_step {st : PS} (h : (aH st.1).length < 900) {i : Nat} (hi : i < 49) (self : Int32 → Int32 → PS → Option (Int32 × PS)) : fL_errors_L537_B st self 1 (nI i) st = self 1 (nI (i + 1)) st := by
  unfold fL_errors_L537_B
  simp only [jn_eq]
  rw [if_neg (show ¬ (49 : Int32) ≤ nI i from nle hi (by decide)), if_neg (show ¬ (1 : Int32) = 0 by decide), nI_1]
  rw [show v_against (aF st.1) (nI i) 30 = (reason (aF st.1) i 30).toInt64 from va_against hi (show 30 < 49 by decide)]
  by_cases e : reason (aF st.1) i 30 = 0
  · rw [e, if_pos (show lg_cmp ((0 : Int32).toInt64) 0 = 0 by decide)]
  · rw [if_neg (show ¬ lg_cmp (reason (aF st.1) i 30).toInt64 0 = 0 by rw [lg_eq]; exact fun q => e (L_inj.mp (show (reason (aF st.1) i 30).toInt64 = (0 : Int32).toInt64 from q)))]
    rw [show o_move st (nI i) 30 = some (XS, st) from e_mvN h hi (show 30 < 49 by decide) e, Option.bind_some]
    rw [if_pos (show lg_cmp (XS, st).1 (-9000000000000000003) = 0 from of_eq_true xeS)]
    rw [show v_wouldTake (aF (XS, st).2.1) (aG (XS, st).2.1) (nI i) 30 = XS from va_takeX hi (show 30 < 49 by decide) e]
    rw [if_pos (of_eq_true xeS)]
theorem er_end (st : PS) (self : Int32 → Int32 → PS → Option (Int32 × PS)) : fL_errors_L537_B st self 1 (nI 49) st = some (1, st) := by
  unfold fL_errors_L537_B
  simp only [jn_eq]
  rw [if_pos (show (49 : Int32) ≤ nI 49 by decide), if_neg (show ¬ (1 : Int32) = 0 by decide), if_pos (show lg_cmp (v_digest st) (v_digest st) = 0 by rw [lg_eq])]
theorem er_loop {st : PS} (h : (aH st.1).length < 900) : fL_errors_L537 st 50 1 0 st = some (1, st) := by
  unfold fL_errors_L537
  exact lp_for (fun i => ((1 : Int32), nI i, st)) 49 (fun i hi self => er_step h hi (fun a b c => self (a, b, c))) (fun self => er_end st (fun a b c => self (a, b, c))) (by decide)
set_option maxRecDepth 100000 in
set_option maxHeartbeats 4000000 in
theorem errors_ok {N : Nat} (hN : N < 890) {st : PS} (hi : INV N st) : fL_errors st = some (1, st) := by
  have hl : (aH st.1).length < 900 := by
    have := hi.1.2.1
    omega
  have hlp := er_loop hl
  have i10 : ((1 : Int32) = 0) = False := eq_false (by decide)
  unfold fL_errors
  by_cases h1 : aS st.1 = 1
  · have h0 : ¬ aS st.1 = 0 := by
      rw [h1]
      decide
    have h0' : (aS st.1 = 0) = False := eq_false h0
    have h1' : (aS st.1 = 1) = True := eq_true h1
    cases hk : kingN (aF st.1) with
    | none => simp only [↓jn_p, ↓bnd_p, ↓reduceIte, ↓bind_p, h0', h1', i10, e_put1, e_put2, e_put3, e_put4 h0, e_start2, e_start0 h0, e_mv1 hl, e_mv2 hl, e_mv3 hl, e_app, e_kp, e_gb, e_p1, e_p2, e_p3, e_p4, e_p5, e_p6, e_p7, e_p8, e_p9, e_q1, e_q2, e_q3, e_q4, e_q5, e_q6, e_q7, e_q8, e_q9, e_r1, xeI, xeA, xeS, k_at hk, k_pr hk, k_by hk, hlp]
    | some k => simp only [↓jn_p, ↓bnd_p, ↓reduceIte, ↓bind_p, h0', h1', i10, e_put1, e_put2, e_put3, e_put4 h0, e_start2, e_start0 h0, e_mv1 hl, e_mv2 hl, e_mv3 hl, e_app, e_kp, e_gb, e_p1, e_p2, e_p3, e_p4, e_p5, e_p6, e_p7, e_p8, e_p9, e_q1, e_q2, e_q3, e_q4, e_q5, e_q6, e_q7, e_q8, e_q9, e_r1, xeI, xeA, xeV, k_ne hk, hlp]
  · have h1' : (aS st.1 = 1) = False := eq_false h1
    by_cases h0 : aS st.1 = 0
    · have h0' : (aS st.1 = 0) = True := eq_true h0
      cases hk : kingN (aF st.1) with
      | none => simp only [↓jn_p, ↓bnd_p, ↓reduceIte, ↓bind_p, h0', h1', i10, e_put1, e_put2, e_put3, e_start2, e_mv1 hl, e_mv2 hl, e_mv3 hl, e_mv4 hl h1, e_turn h1, e_seen hi.1.1 h0, e_app, e_kp, e_gb, e_p1, e_p2, e_p3, e_p4, e_p5, e_p6, e_p7, e_p8, e_p9, e_q1, e_q2, e_q3, e_q4, e_q5, e_q6, e_q7, e_q8, e_q9, e_r1, xeI, xeA, xeS, k_at hk, k_pr hk, k_by hk, hlp]
      | some k => simp only [↓jn_p, ↓bnd_p, ↓reduceIte, ↓bind_p, h0', h1', i10, e_put1, e_put2, e_put3, e_start2, e_mv1 hl, e_mv2 hl, e_mv3 hl, e_mv4 hl h1, e_turn h1, e_seen hi.1.1 h0, e_app, e_kp, e_gb, e_p1, e_p2, e_p3, e_p4, e_p5, e_p6, e_p7, e_p8, e_p9, e_q1, e_q2, e_q3, e_q4, e_q5, e_q6, e_q7, e_q8, e_q9, e_r1, xeI, xeA, xeV, k_ne hk, hlp]
    · have h0' : (aS st.1 = 0) = False := eq_false h0
      cases hk : kingN (aF st.1) with
      | none => simp only [↓jn_p, ↓bnd_p, ↓reduceIte, ↓bind_p, h0', h1', i10, e_put1, e_put2, e_put3, e_put4 h0, e_start2, e_start0 h0, e_mv1 hl, e_mv2 hl, e_mv3 hl, e_mv4 hl h1, e_turn h1, e_app, e_kp, e_gb, e_p1, e_p2, e_p3, e_p4, e_p5, e_p6, e_p7, e_p8, e_p9, e_q1, e_q2, e_q3, e_q4, e_q5, e_q6, e_q7, e_q8, e_q9, e_r1, xeI, xeA, xeS, k_at hk, k_pr hk, k_by hk, hlp]
      | some k => simp only [↓jn_p, ↓bnd_p, ↓reduceIte, ↓bind_p, h0', h1', i10, e_put1, e_put2, e_put3, e_put4 h0, e_start2, e_start0 h0, e_mv1 hl, e_mv2 hl, e_mv3 hl, e_mv4 hl h1, e_turn h1, e_app, e_kp, e_gb, e_p1, e_p2, e_p3, e_p4, e_p5, e_p6, e_p7, e_p8, e_p9, e_q1, e_q2, e_q3, e_q4, e_q5, e_q6, e_q7, e_q8, e_q9, e_r1, xeI, xeA, xeV, k_ne hk, hlp]

/-! ===== calls that read, with rows of their own to try on ===== -/
theorem AN_yes {fo : Nat → Int64} {b : Int32} : AN 0 0 (vp_updL fo 0 b.toInt64) b := ⟨rfl, fun _ => updL_eq⟩
theorem AN_no {k : Int32} {fo : Nat → Int64} {b : Int32} (h : k ≠ 0) : AN k k fo b := ⟨rfl, fun e => absurd e h⟩
theorem r_wouldTake {f : Nat → Int32} {kk sg sn mv gm w1 w2 dg t1 t2 am : Int32} {now : Nat → Int32} {h : List HP} (hr : RP f kk sg sn mv gm w1 w2 dg t1 t2 am now h) (bk bs : Int32) (bf tri : Nat → Int32) (fo : Nat → Int64) (a1 a2 : Int32) : ∃ r r', fL_wouldTake kk sg f bk bs bf fo a1 a2 = some r ∧ fX9_wouldTake now tri a1 a2 = some r' ∧ AN r.1 r'.2.1 r.2.2.2.2 r'.1 := by
  obtain ⟨ag, pb, uk, ko, rfl, rfl, h52, h50, h49, hdm, h51, h53, h54, h55, h56, h57, h58, h59, h0, hok, hrun⟩ := hr
  have pbn : PB now := AG_PB ag pb
  rcases f_needPossible (f := f) a1 a2 with ⟨hc, hp⟩ | ⟨x, y, hx, hy, rfl, rfl, hc, hp⟩
  · refine ⟨(1, bf, bk, bs, fo), (0, 1, tri), ?_, ?_, AN_no (k := 1) (by decide)⟩
    · unfold fL_wouldTake fX8_wouldTake
      rw [hp]
      rfl
    · unfold fX9_wouldTake
      rw [(f_noWay pbn.pos a1 a2).1 hc]
      rfl
  · have hrs := AG_rsn ag hx hy
    have hw := (f_noWay pbn.pos (nI x) (nI y)).2 x y hx hy rfl rfl hc
    rw [← hrs] at hw
    by_cases e : reason f x y = 0
    · rw [if_pos e] at hp
      rw [if_pos e, if_pos e] at hw
      have hm : MV f x y := reason_MV hx hy e
      have hmn : MV now x y := reason_MV hx hy (by rw [← hrs]; exact e)
      refine ⟨(0, mov (cpb f bf) (decide (now 52 = 1)) x y, enc (kingN (mov f (decide (now 52 = 1)) x y)), b01 (decide (now 52 = 1)), vp_updL fo 0 (nI (takN f (decide (now 52 = 1)) x y)).toInt64), (nI (takN f (decide (now 52 = 1)) x y), 0, stR (cpy now tri) x y), ?_, ?_, AN_yes⟩
      · unfold fL_wouldTake fX8_wouldTake
        rw [hp, Option.bind_some, if_pos rfl, f_takes bf pb uk hm, Option.bind_some]
        rfl
      · unfold fX9_wouldTake
        rw [hw, Option.bind_some, if_pos rfl, f_tried tri pbn hmn, ← AG_takN ag hx hy, Option.bind_some]
        skip
    · rw [if_neg e] at hp
      rw [if_neg e, if_neg e] at hw
      refine ⟨(2, bf, bk, bs, fo), (0, 2, tri), ?_, ?_, AN_no (k := 2) (by decide)⟩
      · unfold fL_wouldTake fX8_wouldTake
        rw [hp]
        rfl
      · unfold fX9_wouldTake
        rw [hw]
        rfl
theorem r_wouldWin {f : Nat → Int32} {kk sg sn mv gm w1 w2 dg t1 t2 am : Int32} {now : Nat → Int32} {h : List HP} (hr : RP f kk sg sn mv gm w1 w2 dg t1 t2 am now h) (rk rs : Int32) (rf tri : Nat → Int32) (fo : Nat → Int64) (a1 a2 : Int32) : ∃ r r', fL_wouldWin kk sg f rk rs rf fo a1 a2 = some r ∧ fX9_wouldWin now tri a1 a2 = some r' ∧ AN r.1 r'.2.1 r.2.2.2.2 r'.1 ∧ is01 r'.1 = true := by
  obtain ⟨ag, pb, uk, ko, rfl, rfl, h52, h50, h49, hdm, h51, h53, h54, h55, h56, h57, h58, h59, h0, hok, hrun⟩ := hr
  have pbn : PB now := AG_PB ag pb
  rcases f_needPossible (f := f) a1 a2 with ⟨hc, hp⟩ | ⟨x, y, hx, hy, rfl, rfl, hc, hp⟩
  · refine ⟨(1, rf, rk, rs, fo), (0, 1, tri), ?_, ?_, ⟨AN_no (k := 1) (by decide), rfl⟩⟩
    · unfold fL_wouldWin fX8_wouldWin
      rw [hp]
      rfl
    · unfold fX9_wouldWin
      rw [(f_noWay pbn.pos a1 a2).1 hc]
      rfl
  · have hrs := AG_rsn ag hx hy
    have hw := (f_noWay pbn.pos (nI x) (nI y)).2 x y hx hy rfl rfl hc
    rw [← hrs] at hw
    by_cases e : reason f x y = 0
    · rw [if_pos e] at hp
      rw [if_pos e, if_pos e] at hw
      have hm : MV f x y := reason_MV hx hy e
      have hmn : MV now x y := reason_MV hx hy (by rw [← hrs]; exact e)
      refine ⟨(0, mov (cpb f rf) (decide (now 52 = 1)) x y, enc (kingN (mov f (decide (now 52 = 1)) x y)), b01 (decide (now 52 = 1)), vp_updL fo 0 (b01 (winB f (decide (now 52 = 1)) x y)).toInt64), (b01 (winB f (decide (now 52 = 1)) x y), 0, stR (cpy now tri) x y), ?_, ?_, ⟨AN_yes, is01_b01 _⟩⟩
      · unfold fL_wouldWin fX8_wouldWin
        rw [hp, Option.bind_some, if_pos rfl, f_isWinning rf pb uk hm, Option.bind_some]
        cases winB f (decide (now 52 = 1)) x y <;> rfl
      · unfold fX9_wouldWin
        rw [hw, Option.bind_some, if_pos rfl, f_ends tri pbn hmn, ← AG_winB ag hx hy, Option.bind_some]
        cases winB f (decide (now 52 = 1)) x y <;> rfl
    · rw [if_neg e] at hp
      rw [if_neg e, if_neg e] at hw
      refine ⟨(2, rf, rk, rs, fo), (0, 2, tri), ?_, ?_, ⟨AN_no (k := 2) (by decide), rfl⟩⟩
      · unfold fL_wouldWin fX8_wouldWin
        rw [hp]
        rfl
      · unfold fX9_wouldWin
        rw [hw]
        rfl
theorem r_worthOf {f : Nat → Int32} {kk sg sn mv gm w1 w2 dg t1 t2 am : Int32} {now : Nat → Int32} {h : List HP} (hr : RP f kk sg sn mv gm w1 w2 dg t1 t2 am now h) (bk bs : Int32) (bf : Nat → Int32) (rk rs : Int32) (rf : Nat → Int32) (rn : Int32) (rmf tri rep : Nat → Int32) (fo : Nat → Int64) (a1 a2 : Int32) : ∃ r r', fL_worthOf kk sg f bk bs bf rk rs rf rn rmf fo a1 a2 = some r ∧ fX9_worthOf now tri rep a1 a2 = some r' ∧ AN r.1 r'.2.2.2 r.2.2.2.2.2.2.2.2.2 r'.1 := by
  obtain ⟨ag, pb, uk, ko, rfl, rfl, h52, h50, h49, hdm, h51, h53, h54, h55, h56, h57, h58, h59, h0, hok, hrun⟩ := hr
  have pbn : PB now := AG_PB ag pb
  rcases f_needPossible (f := f) a1 a2 with ⟨hc, hp⟩ | ⟨x, y, hx, hy, rfl, rfl, hc, hp⟩
  · refine ⟨(1, bf, bk, bs, rf, rk, rs, rmf, rn, fo), (0, tri, rep, 1), ?_, ?_, AN_no (k := 1) (by decide)⟩
    · unfold fL_worthOf fX8_worthOf
      rw [hp]
      rfl
    · unfold fX9_worthOf
      rw [(f_noWay pbn.pos a1 a2).1 hc]
      rfl
  · have hrs := AG_rsn ag hx hy
    have hw := (f_noWay pbn.pos (nI x) (nI y)).2 x y hx hy rfl rfl hc
    rw [← hrs] at hw
    by_cases e : reason f x y = 0
    · rw [if_pos e] at hp
      rw [if_pos e, if_pos e] at hw
      have hm : MV f x y := reason_MV hx hy e
      have hmn : MV now x y := reason_MV hx hy (by rw [← hrs]; exact e)
      obtain ⟨bf', bk', rf', rk', rs', rmf', rn', e8⟩ := f_worth8 bf rf rmf rk rs rn pb uk (g := decide (now 52 = 1)) hm
      obtain ⟨tri', rep', e9⟩ := f_worth9 tri rep pbn hmn
      rw [← AG_worN ag hx hy] at e9
      refine ⟨(0, bf', bk', b01 (decide (now 52 = 1)), rf', rk', rs', rmf', rn', vp_updL fo 0 (worN f (decide (now 52 = 1)) x y).toInt64), (worN f (decide (now 52 = 1)) x y, tri', rep', 0), ?_, ?_, AN_yes⟩
      · unfold fL_worthOf fX8_worthOf
        rw [hp, Option.bind_some, if_pos rfl, e8, Option.bind_some]
        rfl
      · unfold fX9_worthOf
        rw [hw, Option.bind_some, if_pos rfl, e9, Option.bind_some]
        skip
    · rw [if_neg e] at hp
      rw [if_neg e, if_neg e] at hw
      refine ⟨(2, bf, bk, bs, rf, rk, rs, rmf, rn, fo), (0, tri, rep, 2), ?_, ?_, AN_no (k := 2) (by decide)⟩
      · unfold fL_worthOf fX8_worthOf
        rw [hp]
        rfl
      · unfold fX9_worthOf
        rw [hw]
        rfl
theorem r_winningMoves {f : Nat → Int32} {kk sg sn mv gm w1 w2 dg t1 t2 am : Int32} {now : Nat → Int32} {h : List HP} (hr : RP f kk sg sn mv gm w1 w2 dg t1 t2 am now h) (rk rs : Int32) (rf : Nat → Int32) (rn : Int32) (rmf tri : Nat → Int32) (fo : Nat → Int64) (a1 : Int32) : ∃ r r', fL_winningMoves kk sg f rk rs rf rn rmf fo a1 = some r ∧ fX9_winningMoves now tri a1 = some r' ∧ AN r.1 r'.2.1 r.2.2.2.2.2.2 r'.1 := by
  obtain ⟨ag, pb, uk, ko, rfl, rfl, h52, h50, h49, hdm, h51, h53, h54, h55, h56, h57, h58, h59, h0, hok, hrun⟩ := hr
  have pbn : PB now := AG_PB ag pb
  unfold fL_winningMoves fX8_winningMoves fX9_winningMoves
  rw [f_needSide, f_noSide]
  rcases sideC a1 with ⟨hc, hd⟩ | hc
  · obtain ⟨rf', rk', rs', e8⟩ := f_countWinning rk rs rf rmf pb uk (decide (now 52 = 1)) hd
    obtain ⟨rb', e9⟩ := f_winning tri pbn a1
    rw [← AG_WN ag] at e9
    refine ⟨(0, rf', rk', rs', ap rmf 0 (LMv f a1), nI (LMv f a1).length, vp_updL fo 0 (nI (WN f (decide (now 52 = 1)) a1)).toInt64), (nI (WN f (decide (now 52 = 1)) a1), 0, rb'), ?_, ?_, AN_yes⟩
    · rw [hc, Option.bind_some, if_pos rfl, if_pos rfl, e8]
      rfl
    · rw [hc, Option.bind_some]
      rw [if_pos (show b01 (!true) = 0 from rfl), e9]
      rfl
  · rw [hc]
    exact ⟨(1, rf, rk, rs, rmf, rn, fo), (0, 1, tri), rfl, rfl, AN_no (k := 1) (by decide)⟩
theorem nI_prI : ∀ n, n < 589 → (nI n).toInt = (nI n - 1).toInt + 1 := by decide +kernel
theorem r_moveAt {f : Nat → Int32} {kk sg sn mv gm w1 w2 dg t1 t2 am : Int32} {now : Nat → Int32} {h : List HP} (hr : RP f kk sg sn mv gm w1 w2 dg t1 t2 am now h) (cnt : Int32) (mf : Nat → Int32) (fo : Nat → Int64) (a1 a2 : Int32) : ∃ r r', fL_moveAt f cnt mf fo a1 a2 = some r ∧ fX9_moveAt now a1 a2 = some r' ∧ AN r.1 r'.2 r.2.2.2 r'.1 := by
  obtain ⟨ag, pb, uk, ko, rfl, rfl, h52, h50, h49, hdm, h51, h53, h54, h55, h56, h57, h58, h59, h0, hok, hrun⟩ := hr
  have pbn : PB now := AG_PB ag pb
  unfold fL_moveAt fX8_moveAt fX9_moveAt
  rw [f_needSide, f_isSide]
  rcases sideC a1 with ⟨hc, hd⟩ | hc
  · have hlen := LMv_len (b := f) hd
    have hmc := mcN_le f a1
    have eL : LMv now a1 = LMv f a1 := (AG_LMv ag a1).symm
    have hmcn : fX9_moveCount now a1 = some (nI (LMv f a1).length) := by rw [f_moveCount _ pbn.pos, ← AG_mcN ag, hlen]
    have hin : fX9_in a2.toInt64 0 ((nI (LMv f a1).length - 1).toInt64) = some (b01 (inC a2 0 (nI (LMv f a1).length - 1))) := f_in a2 0 _
    simp only [jn_eq]
    by_cases e1 : a2 < 0
    · have hf : inC a2 0 (nI (LMv f a1).length - 1) = false := by
        unfold inC
        rw [decide_eq_true e1]
        rfl
      refine ⟨(1, ap mf 0 (LMv f a1), nI (LMv f a1).length, fo), (0, 1), ?_, ?_, AN_no (k := 1) (by decide)⟩
      · rw [hc, Option.bind_some, if_pos rfl, if_pos rfl, f_listMoves mf hd, Option.bind_some, if_pos e1]
        rfl
      · rw [hc, Option.bind_some, hmcn, Option.bind_some, hin, Option.bind_some, hf]
        rfl
    · by_cases e2 : a2 < nI (LMv f a1).length
      · obtain ⟨k, hk, rfl⟩ : ∃ k, k < (LMv f a1).length ∧ a2 = nI k := by
          rw [Int32.lt_iff_toInt_lt, nI_toInt (by omega)] at e2
          rw [Int32.lt_iff_toInt_lt] at e1
          have h0 : (0 : Int32).toInt = 0 := by decide
          rw [h0] at e1
          refine ⟨a2.toInt.toNat, by omega, Int32.toInt_inj.mp ?_⟩
          rw [nI_toInt (by omega)]
          omega
        have hf : inC (nI k) 0 (nI (LMv f a1).length - 1) = true := by
          unfold inC
          rw [decide_eq_false e1, decide_eq_false (by rw [← i32_L (nI_prI _ (by omega))]; exact e2)]
          rfl
        have ho := f_oneMove pbn.pos a1 (i := k) (by rw [eL]; exact hk) (by omega)
        rw [List.getElem_of_eq eL] at ho
        refine ⟨(0, ap mf 0 (LMv f a1), nI (LMv f a1).length, vp_updL fo 0 (nI (LMv f a1)[k]).toInt64), (nI (LMv f a1)[k], 0), ?_, ?_, AN_yes⟩
        · rw [hc, Option.bind_some, if_pos rfl, if_pos rfl, f_listMoves mf hd, Option.bind_some, if_neg e1]
          show ((if nI k < nI (LMv f a1).length then (fX3_codeAt (nI (LMv f a1).length) (ap mf 0 (LMv f a1)) (nI k)).bind _ else _) : Option (Nat × Int32 × (Nat → Int32) × Int32)).bind _ = _
          rw [if_pos e2, f_codeAt (by omega) hk]
          rfl
        · rw [hc, Option.bind_some, hmcn, Option.bind_some, hin, Option.bind_some, hf]
          show (fX9_oneMove now a1 (nI k)).bind _ = _
          rw [ho]
          rfl
      · have hf : inC a2 0 (nI (LMv f a1).length - 1) = false := by
          unfold inC
          rw [decide_eq_false e1, decide_eq_true (by
            rw [i32_L (nI_prI _ (by omega))] at e2
            exact Decidable.of_not_not e2)]
          rfl
        refine ⟨(1, ap mf 0 (LMv f a1), nI (LMv f a1).length, fo), (0, 1), ?_, ?_, AN_no (k := 1) (by decide)⟩
        · rw [hc, Option.bind_some, if_pos rfl, if_pos rfl, f_listMoves mf hd, Option.bind_some, if_neg e1]
          show ((if a2 < nI (LMv f a1).length then (fX3_codeAt (nI (LMv f a1).length) (ap mf 0 (LMv f a1)) a2).bind _ else _) : Option (Nat × Int32 × (Nat → Int32) × Int32)).bind _ = _
          rw [if_neg e2]
          rfl
        · rw [hc, Option.bind_some, hmcn, Option.bind_some, hin, Option.bind_some, hf]
          rfl
  · rw [hc]
    exact ⟨(1, mf, cnt, fo), (0, 1), rfl, rfl, AN_no (k := 1) (by decide)⟩
theorem r_bestMove {f : Nat → Int32} {kk sg sn mv gm w1 w2 dg t1 t2 am : Int32} {now : Nat → Int32} {h : List HP} (hr : RP f kk sg sn mv gm w1 w2 dg t1 t2 am now h) (bk bs : Int32) (bf : Nat → Int32) (rk rs : Int32) (rf : Nat → Int32) (rn : Int32) (rmf : Nat → Int32) (cnt : Int32) (mf tri rep : Nat → Int32) (fo : Nat → Int64) (a1 : Int32) : ∃ r r', fL_bestMove kk sg f bk bs bf rk rs rf rn rmf cnt mf fo a1 = some r ∧ fX9_bestMove now tri rep a1 = some r' ∧ AN r.1 r'.2.2.2 r.2.2.2.2.2.2.2.2.2.2.2 r'.1 := by
  obtain ⟨ag, pb, uk, ko, rfl, rfl, h52, h50, h49, hdm, h51, h53, h54, h55, h56, h57, h58, h59, h0, hok, hrun⟩ := hr
  have pbn : PB now := AG_PB ag pb
  rcases sideC a1 with ⟨hc, hd⟩ | hc
  · obtain ⟨bf', bk', bs', rf', rk', rs', rmf', rn', mf', cnt', e8⟩ := f_bestMove8 bf rf rmf mf bk bs rk rs rn cnt pb uk (decide (now 52 = 1)) hd
    obtain ⟨tri', rep', e9⟩ := f_best tri rep pbn hd
    have eB : BM now (decide (now 52 = 1)) a1 = BM f (decide (now 52 = 1)) a1 := by
      unfold BM
      rw [← AG_LMv ag]
      rw [AG_bfo ag _ _ _ (fun x hx => LMv_lt hx)]
    rw [eB] at e9
    have hmc := mcN_le f a1
    unfold fL_bestMove
    rw [e8]
    unfold fX9_bestMove
    rw [f_isSide, hc, Option.bind_some, f_moveCount _ pbn.pos, ← AG_mcN ag, Option.bind_some]
    by_cases e : mcN f a1 = 0
    · rw [e]
      exact ⟨(2, bf', bk', bs', rf', rk', rs', rmf', rn', mf', cnt', fo), (0, tri, rep, 2), rfl, rfl, AN_no (k := 2) (by decide)⟩
    · refine ⟨(0, bf', bk', bs', rf', rk', rs', rmf', rn', mf', cnt', vp_updL fo 0 (BM f (decide (now 52 = 1)) a1).toInt64), (BM f (decide (now 52 = 1)) a1, tri', rep', 0), ?_, ?_, AN_yes⟩
      · rw [if_neg e, if_neg e]
        rfl
      · simp only [jn_eq]
        rw [if_neg (show ¬ b01 true = 0 by decide), Option.bind_some, if_neg (by rw [nI_z (by omega)]; exact e)]
        show (fX9_best now tri rep a1).bind _ = _
        rw [e9]
        rfl
  · unfold fL_bestMove fX8_bestMove fX9_bestMove
    rw [f_needSide, f_isSide, hc]
    exact ⟨(1, bf, bk, bs, rf, rk, rs, rmf, rn, mf, cnt, fo), (0, tri, rep, 1), rfl, rfl, AN_no (k := 1) (by decide)⟩
theorem r_ways {q : List (Nat × Nat)} {now : Nat → Int32} (hq : MD now (kingN now) q) (fway : Nat → Int32) {n9 : (Nat → Int32) → Option (Int32 × Int32 × (Nat → Int32))} (h9 : n9 fway = (fX9_kingMoves now fway).bind (fun (r_1 : Int32 × (Nat → Int32)) => jn (fun (t_2 : Int32) => (fX9_refused t_2).bind (fun (r_4 : Int32 × Int32) => if r_4.1 = 0 then ((fX9_kingMoves now r_1.2).bind (fun (r_6 : Int32 × (Nat → Int32)) => some (r_6.1, r_4.2, r_6.2))) else (some (0, r_4.2, r_1.2)))) (fun J_3 => if r_1.1 = (-1) then (J_3 1) else (J_3 0)))) : ∃ w', n9 fway = some (if kmF q 49 = none then 0 else enc (kmF q 49), if kmF q 49 = none then 1 else 0, w') := by
  rw [h9]
  obtain ⟨wy, e1⟩ := f_kingMoves hq fway
  obtain ⟨wy2, e2⟩ := f_kingMoves hq wy
  have hlt := kmF_lt hq 49
  rw [e1, Option.bind_some]
  simp only [jn_eq, enc_none hlt]
  cases e : kmF q 49 with
  | none => exact ⟨wy, rfl⟩
  | some t =>
    refine ⟨wy2, ?_⟩
    rw [if_neg nofun, if_neg nofun, if_neg nofun]
    show (fX9_kingMoves now wy).bind _ = _
    rw [e2, e]
    rfl
theorem r_kingMovesByRounds {f : Nat → Int32} {kk sg sn mv gm w1 w2 dg t1 t2 am : Int32} {now : Nat → Int32} {h : List HP} (hr : RP f kk sg sn mv gm w1 w2 dg t1 t2 am now h) (krf kqf wy : Nat → Int32) (fo : Nat → Int64) : ∃ r r', fL_kingMovesByRounds kk f krf kqf fo = some r ∧ fX9_kingMovesByRounds now wy = some r' ∧ AN r.1 r'.2.1 r.2.2.2.2 r'.1 := by
  obtain ⟨ag, pb, uk, ko, rfl, rfl, h52, h50, h49, hdm, h51, h53, h54, h55, h56, h57, h58, h59, h0, hok, hrun⟩ := hr
  have pbn : PB now := AG_PB ag pb
  obtain ⟨q, k1, k2, k3, hq, e8⟩ := f_byRounds krf kqf (f := f)
  have hqn : MD now (kingN now) q := by
    rw [← AG_kingN ag]
    exact AG_MD ag hq
  obtain ⟨w', e9⟩ := r_ways hqn wy (n9 := fun y => fX9_kingMovesByRounds now y) rfl
  have e9 : fX9_kingMovesByRounds now wy = _ := e9
  have hlt := kmF_lt hq 49
  unfold fL_kingMovesByRounds fX8_kingMovesByRounds
  rw [e8, Option.bind_some, e9]
  simp only [enc_neg hlt]
  cases e : kmF q 49 with
  | none => exact ⟨(1, k1, k2, k3, fo), (0, 1, w'), rfl, rfl, AN_no (k := 1) (by decide)⟩
  | some t =>
    refine ⟨(0, k1, k2, k3, vp_updL fo 0 (nI t).toInt64), (nI t, 0, w'), ?_, ?_, AN_yes⟩
    · rw [if_pos nofun]
      rfl
    · rw [if_neg nofun, if_neg nofun]
      rfl
theorem r_kingMovesByCorners {f : Nat → Int32} {kk sg sn mv gm w1 w2 dg t1 t2 am : Int32} {now : Nat → Int32} {h : List HP} (hr : RP f kk sg sn mv gm w1 w2 dg t1 t2 am now h) (kc : Int32) (krf kqf wy : Nat → Int32) (fo : Nat → Int64) : ∃ r r', fL_kingMovesByCorners kk f kc krf kqf fo = some r ∧ fX9_kingMovesByCorners now wy = some r' ∧ AN r.1 r'.2.1 r.2.2.2.2 r'.1 := by
  obtain ⟨ag, pb, uk, ko, rfl, rfl, h52, h50, h49, hdm, h51, h53, h54, h55, h56, h57, h58, h59, h0, hok, hrun⟩ := hr
  have pbn : PB now := AG_PB ag pb
  obtain ⟨q, k1, k2, k3, hq, e8⟩ := f_byCorners krf kqf kc ko uk
  have hqn : MD now (kingN now) q := by
    rw [← AG_kingN ag]
    exact AG_MD ag hq
  obtain ⟨w', e9⟩ := r_ways hqn wy (n9 := fun y => fX9_kingMovesByCorners now y) rfl
  have e9 : fX9_kingMovesByCorners now wy = _ := e9
  have hlt := kmF_lt hq 49
  unfold fL_kingMovesByCorners fX8_kingMovesByCorners
  rw [e8, Option.bind_some, e9]
  simp only [enc_neg hlt]
  cases e : kmF q 49 with
  | none => exact ⟨(1, k1, k2, k3, fo), (0, 1, w'), rfl, rfl, AN_no (k := 1) (by decide)⟩
  | some t =>
    refine ⟨(0, k1, k2, k3, vp_updL fo 0 (nI t).toInt64), (nI t, 0, w'), ?_, ?_, AN_yes⟩
    · rw [if_pos nofun]
      rfl
    · rw [if_neg nofun, if_neg nofun]
      rfl
theorem r_openCorners {f : Nat → Int32} {kk sg sn mv gm w1 w2 dg t1 t2 am : Int32} {now : Nat → Int32} {h : List HP} (hr : RP f kk sg sn mv gm w1 w2 dg t1 t2 am now h) (wy : Nat → Int32) : ∃ b w', fX8_openCorners kk f = some b ∧ fX9_openCorners now wy = some (b, 0, w') := by
  obtain ⟨ag, pb, uk, ko, rfl, rfl, h52, h50, h49, hdm, h51, h53, h54, h55, h56, h57, h58, h59, h0, hok, hrun⟩ := hr
  have pbn : PB now := AG_PB ag pb
  obtain ⟨q, k1, k2, k3, hq, e8⟩ := f_byRounds wy wy (f := f)
  have hqn : MD now (kingN now) q := by
    rw [← AG_kingN ag]
    exact AG_MD ag hq
  obtain ⟨w', e9⟩ := f_corners hqn wy
  refine ⟨nI (coN q), w', ?_, ?_⟩
  · unfold fX8_openCorners
    rw [f_openCorners hq]
    rfl
  · unfold fX9_openCorners
    rw [e9]
    rfl
theorem r_kingReach {f : Nat → Int32} {kk sg sn mv gm w1 w2 dg t1 t2 am : Int32} {now : Nat → Int32} {h : List HP} (hr : RP f kk sg sn mv gm w1 w2 dg t1 t2 am now h) (krf kqf wy : Nat → Int32) : ∃ b k1 k2 k3 w', fX8_kingReach kk f krf kqf = some (b, k1, k2, k3) ∧ fX9_kingReach now wy = some (b, 0, w') := by
  obtain ⟨ag, pb, uk, ko, rfl, rfl, h52, h50, h49, hdm, h51, h53, h54, h55, h56, h57, h58, h59, h0, hok, hrun⟩ := hr
  have pbn : PB now := AG_PB ag pb
  obtain ⟨q, k1, k2, k3, hq, e8⟩ := f_countReached krf kqf (f := f)
  have hqn : MD now (kingN now) q := by
    rw [← AG_kingN ag]
    exact AG_MD ag hq
  obtain ⟨w', e9⟩ := f_reach hqn wy
  refine ⟨nI (reN q), k1, k2, k3, w', ?_, ?_⟩
  · unfold fX8_kingReach
    rw [e8]
    rfl
  · unfold fX9_kingReach
    rw [e9]
    rfl

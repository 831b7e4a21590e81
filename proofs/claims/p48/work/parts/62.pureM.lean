/-! ===== pure part M: the best move ===== -/
theorem f_worth8 (bf rf rmf : Nat → Int32) (rk rs rn : Int32) {f : Nat → Int32} (hb : PB f) (hu : UK f) {g : Bool} {x y : Nat} (h : MV f x y) : ∃ bf' bk' rf' rk' rs' rmf' rn', fX0_worth bf rk rs rf rn rmf (enc (kingN f)) (b01 g) f (nI x) (nI y) = some (worN f g x y, bf', bk', b01 g, rf', rk', rs', rmf', rn') := by
  have ag := AG_cpb f bf
  have hm := h
  obtain ⟨hx, hy, hxy, h0, h1⟩ := hm
  have agm : AG (mov (cpb f bf) g x y) (mov f g x y) := AG_mov ag hx hy g
  obtain ⟨rf', rk', rs', hr⟩ := f_countWinning rk rs rf rmf (AG_PB (AG_symm agm) (mov_PB hb hx)) (AG_UK (AG_symm agm) (mov_UK hu h)) g (isD_opp (sd_D h0))
  rw [AG_kingN agm, AG_WN agm, AG_LMv agm] at hr
  unfold fX0_worth worN
  rw [f_at hx, Option.bind_some, f_side8, Option.bind_some, f_takes bf hb hu h, Option.bind_some, jn_eq]
  simp only
  rw [had_eq king_lt (fun t_4 : Int32 => (fX1_isWonBy (enc (kingN (mov f g x y))) (mov (cpb f bf) g x y) (nI y) t_4).bind (fun (r_6 : Int32) => if r_6 = 0 then ((fX0_countWinning rk rs rf rmf (enc (kingN (mov f g x y))) (b01 g) (mov (cpb f bf) g x y) (1 - sd (f x))).bind (fun (r_8 : Int32 × (Nat → Int32) × Int32 × Int32 × (Nat → Int32) × Int32) => some ((20 * nI (takN f g x y)) - (100 * r_8.1), mov (cpb f bf) g x y, enc (kingN (mov f g x y)), b01 g, r_8.2.1, r_8.2.2.1, r_8.2.2.2.1, r_8.2.2.2.2.1, r_8.2.2.2.2.2))) else (some (1000, mov (cpb f bf) g x y, enc (kingN (mov f g x y)), b01 g, rf, rk, rs, rmf, rn))))]
  have hw := f_isWonBy (f := mov (cpb f bf) g x y) hy (decide (kingN f ≠ none))
  rw [AG_kingN agm] at hw
  rw [hw, Option.bind_some, won_win h agm]
  simp only [ite_b01]
  cases winB f g x y with
  | true => exact ⟨_, _, _, _, _, _, _, rfl⟩
  | false =>
    simp only [Bool.false_eq_true, if_false, hr, Option.bind_some]
    exact ⟨_, _, _, _, _, _, _, rfl⟩
def bstp (p : Int32 × Int32) (c : Nat) (w : Int32) : Int32 × Int32 := if p.1 < 0 then (nI c, w) else if w ≤ p.2 then p else (nI c, w)
def bfo (b : Nat → Int32) (g : Bool) : List Nat → Int32 × Int32 → Int32 × Int32
  | [], p => p
  | c :: l, p => bfo b g l (bstp p c (worN b g (c / 49) (c % 49)))
theorem bfo_app (b : Nat → Int32) (g : Bool) : ∀ (l m : List Nat) (p : Int32 × Int32), bfo b g (l ++ m) p = bfo b g m (bfo b g l p)
  | [], _, _ => rfl
  | c :: l, m, p => bfo_app b g l m _
theorem AG_bfo {b c : Nat → Int32} (h : AG b c) (g : Bool) : ∀ (l : List Nat) (p : Int32 × Int32), (∀ x ∈ l, x < 2401) → bfo b g l p = bfo c g l p
  | [], _, _ => rfl
  | x :: l, p, hl => by
    have hx := hl x List.mem_cons_self
    show bfo b g l (bstp p x (worN b g (x / 49) (x % 49))) = bfo c g l (bstp p x (worN c g (x / 49) (x % 49)))
    rw [AG_worN h (by omega) (by omega), AG_bfo h g l _ (fun y hy => hl y (List.mem_cons_of_mem _ hy))]
def bIn (p : Int32 × Int32) : Prop := p.1 = -1 ∨ ∃ c, c < 2401 ∧ p.1 = nI c
theorem bIn_stp {p : Int32 × Int32} (h : bIn p) {c : Nat} (hc : c < 2401) (w : Int32) : bIn (bstp p c w) := by
  unfold bstp
  split
  · exact Or.inr ⟨c, hc, rfl⟩
  · split
    · exact h
    · exact Or.inr ⟨c, hc, rfl⟩
theorem bIn_neg {p : Int32 × Int32} (h : bIn p) : (p.1 < 0) = (p.1 = -1) := by
  rcases h with h | ⟨c, hc, h⟩
  · rw [h, eq_iff_iff]
    exact ⟨fun _ => rfl, fun _ => by decide⟩
  · rw [h, eq_iff_iff, nI_m1 (by omega)]
    exact ⟨fun e => nlt0 (by omega) e, False.elim⟩
/-- the best move's code -/
def BM (b : Nat → Int32) (g : Bool) (d : Int32) : Int32 := (bfo b g (LMv b d) (-1, 0)).1
theorem bm_S (k sg : Int32) (f : Nat → Int32) (M : Nat) (v2 v3 v4 : Int32) (wbf : Nat → Int32) (wbk wbs : Int32) (wrf : Nat → Int32) (wrk wrs : Int32) (wrmf : Nat → Int32) (wrn : Int32) (wmf : Nat → Int32) (wc : Int32) : fX8_bestMove_L47 k sg f (M + 1) v2 v3 v4 wbf wbk wbs wrf wrk wrs wrmf wrn wmf wc = fX8_bestMove_L47_B k sg f (fX8_bestMove_L47 k sg f M) v2 v3 v4 wbf wbk wbs wrf wrk wrs wrmf wrn wmf wc := rfl
theorem f_bestMove8 (bf rf rmf mf : Nat → Int32) (bk bs rk rs rn cnt : Int32) {f : Nat → Int32} (hb : PB f) (hu : UK f) (g : Bool) {d : Int32} (hd : isD d) : ∃ (bf' : Nat → Int32) (bk' bs' : Int32) (rf' : Nat → Int32) (rk' rs' : Int32) (rmf' : Nat → Int32) (rn' : Int32) (mf' : Nat → Int32) (cnt' : Int32), fX8_bestMove (enc (kingN f)) (b01 g) f bk bs bf rk rs rf rn rmf cnt mf d = some (if mcN f d = 0 then 3 else 0, if mcN f d = 0 then 0 else BM f g d, bf', bk', bs', rf', rk', rs', rmf', rn', mf', cnt') := by
  have hlen := LMv_len (b := f) hd
  have hle := mcN_le f d
  have key : ∀ (n i : Nat), i + n = (LMv f d).length → ∀ (p : Int32 × Int32) (bf : Nat → Int32) (bk bs : Int32) (rf : Nat → Int32) (rk rs : Int32) (rmf : Nat → Int32) (rn : Int32), ∃ (bf' : Nat → Int32) (bk' bs' : Int32) (rf' : Nat → Int32) (rk' rs' : Int32) (rmf' : Nat → Int32) (rn' : Int32), ∀ N, n + 1 ≤ N → fX8_bestMove_L47 (enc (kingN f)) (b01 g) f N p.1 p.2 (nI i) bf bk bs rf rk rs rmf rn (ap mf 0 (LMv f d)) (nI (LMv f d).length) = some (0, (bfo f g ((LMv f d).drop i) p).1, bf', bk', bs', rf', rk', rs', rmf', rn', ap mf 0 (LMv f d), nI (LMv f d).length) := by
    intro n
    induction n with
    | zero =>
      intro i hi p bf bk bs rf rk rs rmf rn
      refine ⟨bf, bk, bs, rf, rk, rs, rmf, rn, fun N hN => ?_⟩
      obtain ⟨M, rfl⟩ : ∃ M, N = M + 1 := ⟨N - 1, by omega⟩
      rw [bm_S]
      unfold fX8_bestMove_L47_B
      rw [if_pos ((nI_leI (by omega) (by omega)).mpr (by omega)), List.drop_eq_nil_of_le (by omega)]
      rfl
    | succ n ih =>
      intro i hi p bf bk bs rf rk rs rmf rn
      have hi2 : i < (LMv f d).length := by omega
      have hmem := LMv_mem (List.getElem_mem hi2)
      have hlt := LMv_lt (List.getElem_mem hi2)
      have hmv := reason_MV hmem.1 hmem.2.1 hmem.2.2.2.2
      obtain ⟨b1, b2, b4, b5, b6, b7, b8, hw⟩ := f_worth8 bf rf rmf rk rs rn hb hu (g := g) hmv
      obtain ⟨a1, a2, a3, a4, a5, a6, a7, a8, hr⟩ := ih (i + 1) (by omega) (bstp p (LMv f d)[i] (worN f g ((LMv f d)[i] / 49) ((LMv f d)[i] % 49))) b1 b2 (b01 g) b4 b5 b6 b7 b8
      refine ⟨a1, a2, a3, a4, a5, a6, a7, a8, fun N hN => ?_⟩
      obtain ⟨M, rfl⟩ : ∃ M, N = M + 1 := ⟨N - 1, by omega⟩
      have hr := hr M (by omega)
      rw [List.drop_eq_getElem_cons hi2]
      refine Eq.trans ?_ hr
      rw [bm_S]
      unfold fX8_bestMove_L47_B
      rw [if_neg (fun e => by have := (nI_leI (by omega) (by omega)).mp e; omega), f_codeAt (by omega) hi2, Option.bind_some, mod49 _ hlt, div49 _ hlt, hw, Option.bind_some]
      simp only [jn_eq]
      unfold bstp
      rw [nI_1]
      by_cases e1 : p.1 < 0
      · rw [if_pos e1, if_pos e1]
      · rw [if_neg e1, if_neg e1]
        by_cases e2 : worN f g ((LMv f d)[i] / 49) ((LMv f d)[i] % 49) ≤ p.2
        · rw [if_pos e2, if_pos e2]
        · rw [if_neg e2, if_neg e2]
  have hside : fX8_needSide d = some 0 := by
    rcases hd with h | h <;> rw [h] <;> rfl
  unfold fX8_bestMove
  rw [hside, Option.bind_some, if_pos rfl, f_listMoves mf hd, Option.bind_some]
  simp only [hlen]
  simp only [nI_z (show mcN f d < 2 ^ 31 by omega)]
  by_cases e : mcN f d = 0
  · rw [if_pos e, if_pos e, if_pos e]
    exact ⟨_, _, _, _, _, _, _, _, _, _, rfl⟩
  · rw [if_neg e, if_neg e, if_neg e]
    obtain ⟨a1, a2, a3, a4, a5, a6, a7, a8, hr⟩ := key (LMv f d).length 0 (by omega) (-1, 0) bf bk bs rf rk rs rmf rn
    refine ⟨a1, a2, a3, a4, a5, a6, a7, a8, ap mf 0 (LMv f d), nI (mcN f d), ?_⟩
    have := hr 600 (by omega)
    rw [List.drop_zero, hlen] at this
    exact this
/-! the reference -/
theorem bIn_fo {row : Nat → Int32} {g : Bool} : ∀ (l : List Nat) (p : Int32 × Int32), (∀ c ∈ l, c < 2401) → bIn p → bIn (bfo row g l p)
  | [], _, _, h => h
  | c :: l, p, hl, h => bIn_fo l _ (fun c hc => hl c (List.mem_cons_of_mem _ hc)) (bIn_stp h (hl c List.mem_cons_self) _)
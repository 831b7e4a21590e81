/-! ===== pure part M: the best move ===== -/
theorem f_worth8 (bf rf rmf : Nat → Int32) (rk rs rn : Int32) {f : Nat → Int32} (hb : PB f) (hu : UK f) {g : Bool} {x y : Nat} (h : MV f x y) : ∃ bf' bk' rf' rk' rs' rmf' rn', fX0_worth bf rk rs rf rn rmf (enc (kingN f)) (b01 g) f (nI x) (nI y) = some (worN f g x y, bf', bk', b01 g, rf', rk', rs', rmf', rn') := by
  have ag := AG_cpb f bf
  have hm := h
  obtain ⟨hx, hy, hxy, h0, h1⟩ := hm
  have agm : AG (mov (cpb f bf) g x y) (mov f g x y) := AG_mov ag hx hy g
  obtain ⟨rf', rk', rs', hr⟩ := f_countWinning rk rs rf rmf (AG_PB (AG_symm agm) (mov_PB hb hx)) (AG_UK (AG_symm agm) (mov_UK hu h)) g (isD_opp (sd_D h0))
  rw [AG_kingN agm, AG_WN agm, AG_LMv agm] at hr
  unfold fX0_worth worN
  rw [f_at hx, Option.bind_some, f_side8, Option.bind_some, f_takes bf hb hu h, Option.bind_some, jn_eq]
  simp only
  rw [had_eq king_lt (fun t_4 : Int32 => (fX1_isWonBy (enc (kingN (mov f g x y))) (mov (cpb f bf) g x y) (nI y) t_4).bind (fun (r_6 : Int32) => if r_6 = 0 then ((fX0_countWinning rk rs rf rmf (enc (kingN (mov f g x y))) (b01 g) (mov (cpb f bf) g x y) (1 - sd (f x))).bind (fun (r_8 : Int32 × (Nat → Int32) × Int32 × Int32 × (Nat → Int32) × Int32) => some ((20 * nI (takN f g x y)) - (100 * r_8.1), mov (cpb f bf) g x y, enc (kingN (mov f g x y)), b01 g, r_8.2.1, r_8.2.2.1, r_8.2.2.2.1, r_8.2.2.2.2.1, r_8.2.2.2.2.2))) else (some (1000, mov (cpb f bf) g x y, enc (kingN (mov f g x y)), b01 g, rf, rk, rs, rmf, rn))))]
  have hw := f_isWonBy (f := mov (cpb f bf) g x y) hy (decide (kingN f ≠ none))
  rw [AG_kingN agm] at hw
  rw [hw, Option.bind_some, won_win h agm]
  simp only [ite_b01]
  cases winB f g x y with
  | true => exact ⟨_, _, _, _, _, _, _, rfl⟩
  | false =>
    simp only [Bool.false_eq_true, if_false, hr, Option.bind_some]
    exact ⟨_, _, _, _, _, _, _, rfl⟩
def bstp (p : Int32 × Int32) (c : Nat) (w : Int32) : Int32 × Int32 := if p.1 < 0 then (nI c, w) else if w ≤ p.2 then p else (nI c, w)
def bfo (b : Nat → Int32) (g : Bool) : List Nat → Int32 × Int32 → Int32 × Int32
  | [], p => p
  | c :: l, p => bfo b g l (bstp p c (worN b g (c / 49) (c % 49)))
theorem bfo_app (b : Nat → Int32) (g : Bool) : ∀ (l m : List Nat) (p : Int32 × Int32), bfo b g (l ++ m) p = bfo b g m (bfo b g l p)
  | [], _, _ => rfl
  | c :: l, m, p => bfo_app b g l m _
theorem AG_bfo {b c : Nat → Int32} (h : AG b c) (g : Bool) : ∀ (l : List Nat) (p : Int32 × Int32), (∀ x ∈ l, x < 2401) → bfo b g l p = bfo c g l p
  | [], _, _ => rfl
  | x :: l, p, hl => by
    have hx := hl x List.mem_cons_self
    show bfo b g l (bstp p x (worN b g (x / 49) (x % 49))) = bfo c g l (bstp p x (worN c g (x / 49) (x % 49)))
    rw [AG_worN h (by omega) (by omega), AG_bfo h g l _ (fun y hy => hl y (List.mem_cons_of_mem _ hy))]
def bIn (p : Int32 × Int32) : Prop := p.1 = -1 ∨ ∃ c, c < 2401 ∧ p.1 = nI c
theorem bIn_stp {p : Int32 × Int32} (h : bIn p) {c : Nat} (hc : c < 2401) (w : Int32) : bIn (bstp p c w) := by
  unfold bstp
  split
  · exact Or.inr ⟨c, hc, rfl⟩
  · split
    · exact h
    · exact Or.inr ⟨c, hc, rfl⟩
theorem bIn_neg {p : Int32 × Int32} (h : bIn p) : (p.1 < 0) = (p.1 = -1) := by
  rcases h with h | ⟨c, hc, h⟩
  · rw [h, eq_iff_iff]
    exact ⟨fun _ => rfl, fun _ => by decide⟩
  · rw [h, eq_iff_iff, nI_m1 (by omega)]
    exact ⟨fun e => nlt0 (by omega) e, False.elim⟩
/-- the best move's code -/
def BM (b : Nat → Int32) (g : Bool) (d : Int32) : Int32 := (bfo b g (LMv b d) (-1, 0)).1
theorem bm_S (k sg : Int32) (f : Nat → Int32) (M : Nat) (v2 v3 v4 : Int32) (wbf : Nat → Int32) (wbk wbs : Int32) (wrf : Nat → Int32) (wrk wrs : Int32) (wrmf : Nat → Int32) (wrn : Int32) (wmf : Nat → Int32) (wc : Int32) : fX8_bestMove_L47 k sg f (M + 1) v2 v3 v4 wbf wbk wbs wrf wrk wrs wrmf wrn wmf wc = fX8_bestMove_L47_B k sg f (fX8_bestMove_L47 k sg f M) v2 v3 v4 wbf wbk wbs wrf wrk wrs wrmf wrn wmf wc := rfl
theorem be_S (row : Nat → Int32) (d : Int32) (self6 : Int32 → Int32 → Int32 → (Nat → Int32) → (Nat → Int32) → Option (Int32 × (Nat → Int32) × (Nat → Int32))) (x : Int32) (M : Nat) (a b c : Int32) (t r : Nat → Int32) : fX9_best_L17 row d self6 x (M + 1) a b c t r = fX9_best_L17_B row d self6 x (fX9_best_L17 row d self6 x M) a b c t r := rfl
theorem bo_S (row : Nat → Int32) (d : Int32) (M : Nat) (a b c : Int32) (t r : Nat → Int32) : fX9_best_L7 row d (M + 1) a b c t r = fX9_best_L7_B row d (fX9_best_L7 row d M) a b c t r := rfl
theorem f_bestMove8 (bf rf rmf mf : Nat → Int32) (bk bs rk rs rn cnt : Int32) {f : Nat → Int32} (hb : PB f) (hu : UK f) (g : Bool) {d : Int32} (hd : isD d) : ∃ (bf' : Nat → Int32) (bk' bs' : Int32) (rf' : Nat → Int32) (rk' rs' : Int32) (rmf' : Nat → Int32) (rn' : Int32) (mf' : Nat → Int32) (cnt' : Int32), fX8_bestMove (enc (kingN f)) (b01 g) f bk bs bf rk rs rf rn rmf cnt mf d = some (if mcN f d = 0 then 3 else 0, if mcN f d = 0 then 0 else BM f g d, bf', bk', bs', rf', rk', rs', rmf', rn', mf', cnt') := by
  have hlen := LMv_len (b := f) hd
  have hle := mcN_le f d
  have key : ∀ (n i : Nat), i + n = (LMv f d).length → ∀ (p : Int32 × Int32) (bf : Nat → Int32) (bk bs : Int32) (rf : Nat → Int32) (rk rs : Int32) (rmf : Nat → Int32) (rn : Int32), ∃ (bf' : Nat → Int32) (bk' bs' : Int32) (rf' : Nat → Int32) (rk' rs' : Int32) (rmf' : Nat → Int32) (rn' : Int32), ∀ N, n + 1 ≤ N → fX8_bestMove_L47 (enc (kingN f)) (b01 g) f N p.1 p.2 (nI i) bf bk bs rf rk rs rmf rn (ap mf 0 (LMv f d)) (nI (LMv f d).length) = some (0, (bfo f g ((LMv f d).drop i) p).1, bf', bk', bs', rf', rk', rs', rmf', rn', ap mf 0 (LMv f d), nI (LMv f d).length) := by
    intro n
    induction n with
    | zero =>
      intro i hi p bf bk bs rf rk rs rmf rn
      refine ⟨bf, bk, bs, rf, rk, rs, rmf, rn, fun N hN => ?_⟩
      obtain ⟨M, rfl⟩ : ∃ M, N = M + 1 := ⟨N - 1, by omega⟩
      rw [bm_S]
      unfold fX8_bestMove_L47_B
      rw [if_pos ((nI_leI (by omega) (by omega)).mpr (by omega)), List.drop_eq_nil_of_le (by omega)]
      rfl
    | succ n ih =>
      intro i hi p bf bk bs rf rk rs rmf rn
      have hi2 : i < (LMv f d).length := by omega
      have hmem := LMv_mem (List.getElem_mem hi2)
      have hlt := LMv_lt (List.getElem_mem hi2)
      have hmv := reason_MV hmem.1 hmem.2.1 hmem.2.2.2.2
      obtain ⟨b1, b2, b4, b5, b6, b7, b8, hw⟩ := f_worth8 bf rf rmf rk rs rn hb hu (g := g) hmv
      obtain ⟨a1, a2, a3, a4, a5, a6, a7, a8, hr⟩ := ih (i + 1) (by omega) (bstp p (LMv f d)[i] (worN f g ((LMv f d)[i] / 49) ((LMv f d)[i] % 49))) b1 b2 (b01 g) b4 b5 b6 b7 b8
      refine ⟨a1, a2, a3, a4, a5, a6, a7, a8, fun N hN => ?_⟩
      obtain ⟨M, rfl⟩ : ∃ M, N = M + 1 := ⟨N - 1, by omega⟩
      have hr := hr M (by omega)
      rw [List.drop_eq_getElem_cons hi2]
      refine Eq.trans ?_ hr
      rw [bm_S]
      unfold fX8_bestMove_L47_B
      rw [if_neg (fun e => by have := (nI_leI (by omega) (by omega)).mp e; omega), f_codeAt (by omega) hi2, Option.bind_some, mod49 _ hlt, div49 _ hlt, hw, Option.bind_some]
      simp only [jn_eq]
      unfold bstp
      rw [nI_1]
      by_cases e1 : p.1 < 0
      · rw [if_pos e1, if_pos e1]
      · rw [if_neg e1, if_neg e1]
        by_cases e2 : worN f g ((LMv f d)[i] / 49) ((LMv f d)[i] % 49) ≤ p.2
        · rw [if_pos e2, if_pos e2]
        · rw [if_neg e2, if_neg e2]
  have hside : fX8_needSide d = some 0 := by
    rcases hd with h | h <;> rw [h] <;> rfl
  unfold fX8_bestMove
  rw [hside, Option.bind_some, if_pos rfl, f_listMoves mf hd, Option.bind_some]
  simp only [hlen]
  simp only [nI_z (show mcN f d < 2 ^ 31 by omega)]
  by_cases e : mcN f d = 0
  · rw [if_pos e, if_pos e, if_pos e]
    exact ⟨_, _, _, _, _, _, _, _, _, _, rfl⟩
  · rw [if_neg e, if_neg e, if_neg e]
    obtain ⟨a1, a2, a3, a4, a5, a6, a7, a8, hr⟩ := key (LMv f d).length 0 (by omega) (-1, 0) bf bk bs rf rk rs rmf rn
    refine ⟨a1, a2, a3, a4, a5, a6, a7, a8, ap mf 0 (LMv f d), nI (mcN f d), ?_⟩
    have := hr 600 (by omega)
    rw [List.drop_zero, hlen] at this
    exact this
/-! the reference -/
theorem be_in {row : Nat → Int32} (hb : PB row) {d : Int32} {x : Nat} (hx : x < 49) (hs : sd (row x) = d) (h0 : row x ≠ 0) : ∀ (n y : Nat), y + n = 49 → ∀ (p : Int32 × Int32), bIn p → ∀ (tr rp : Nat → Int32), ∃ tr' rp', ∀ (self6 : Int32 → Int32 → Int32 → (Nat → Int32) → (Nat → Int32) → Option (Int32 × (Nat → Int32) × (Nat → Int32))) N, n + 1 ≤ N → fX9_best_L17 row d self6 (nI x) N p.1 p.2 (nI y) tr rp = self6 (bfo row (decide (row 52 = 1)) (cds x (tlF row x n y)) p).1 (bfo row (decide (row 52 = 1)) (cds x (tlF row x n y)) p).2 (nI (x + 1)) tr' rp' := by
  intro n
  induction n with
  | zero =>
    intro y hy p hp tr rp
    have : y = 49 := by omega
    subst this
    refine ⟨tr, rp, fun self6 N hN => ?_⟩
    obtain ⟨M, rfl⟩ : ∃ M, N = M + 1 := ⟨N - 1, by omega⟩
    rw [be_S]
    unfold fX9_best_L17_B
    rw [if_pos (by decide), nI_1]
    rfl
  | succ n ih =>
    intro y hy p hp tr rp
    by_cases h : reason row x y = 0
    · obtain ⟨t1, r1, hw⟩ := f_worth9 tr rp hb (reason_MV hx (by omega) h)
      obtain ⟨t2, r2, hr⟩ := ih (y + 1) (by omega) (bstp p (49 * x + y) (worN row (decide (row 52 = 1)) x y)) (bIn_stp hp (by omega) _) t1 r1
      refine ⟨t2, r2, fun self6 N hN => ?_⟩
      obtain ⟨M, rfl⟩ : ∃ M, N = M + 1 := ⟨N - 1, by omega⟩
      have hr := hr self6 M (by omega)
      rw [tlF_yes h, cds_cons]
      have e9 : bfo row (decide (row 52 = 1)) ((49 * x + y) :: cds x (tlF row x n (y + 1))) p = bfo row (decide (row 52 = 1)) (cds x (tlF row x n (y + 1))) (bstp p (49 * x + y) (worN row (decide (row 52 = 1)) x y)) := by
        show bfo _ _ _ (bstp p (49 * x + y) (worN row _ ((49 * x + y) / 49) ((49 * x + y) % 49))) = _
        rw [cd_div (by omega), cd_mod (by omega)]
      rw [e9]
      refine Eq.trans ?_ hr
      rw [be_S]
      unfold fX9_best_L17_B
      rw [if_neg (nle (c := 49) (by omega) (by decide)), inB_t (by omega) (by decide), grd_t, nI_clamp (by omega), f_side9, Option.bind_some, if_pos hs, f_against hb.pos hx (by omega), Option.bind_some]
      simp only [jn_eq]
      rw [if_pos h, hw, Option.bind_some]
      simp only
      rw [if_neg (worN_lo h0), code_eq x hx y (by omega), nI_1]
      unfold bstp
      by_cases e1 : p.1 < 0
      · rw [if_pos e1, if_pos (by rw [← bIn_neg hp]; exact e1)]
      · rw [if_neg e1, if_neg (by rw [← bIn_neg hp]; exact e1)]
        by_cases e2 : worN row (decide (row 52 = 1)) x y ≤ p.2
        · rw [if_pos e2, if_pos e2]
        · rw [if_neg e2, if_neg e2]
    · obtain ⟨t2, r2, hr⟩ := ih (y + 1) (by omega) p hp tr rp
      refine ⟨t2, r2, fun self6 N hN => ?_⟩
      obtain ⟨M, rfl⟩ : ∃ M, N = M + 1 := ⟨N - 1, by omega⟩
      have hr := hr self6 M (by omega)
      rw [tlF_no h]
      refine Eq.trans ?_ hr
      rw [be_S]
      unfold fX9_best_L17_B
      rw [if_neg (nle (c := 49) (by omega) (by decide)), inB_t (by omega) (by decide), grd_t, nI_clamp (by omega), f_side9, Option.bind_some, if_pos hs, f_against hb.pos hx (by omega), Option.bind_some]
      simp only [jn_eq]
      rw [if_neg h, if_pos (by decide), nI_1]
theorem bIn_fo {row : Nat → Int32} {g : Bool} : ∀ (l : List Nat) (p : Int32 × Int32), (∀ c ∈ l, c < 2401) → bIn p → bIn (bfo row g l p)
  | [], _, _, h => h
  | c :: l, p, hl, h => bIn_fo l _ (fun c hc => hl c (List.mem_cons_of_mem _ hc)) (bIn_stp h (hl c List.mem_cons_self) _)
theorem be_skip {row : Nat → Int32} {d m w : Int32} {x : Nat} {tr rp : Nat → Int32} (hx : x < 49) (hs : ¬ sd (row x) = d) {self6 : Int32 → Int32 → Int32 → (Nat → Int32) → (Nat → Int32) → Option (Int32 × (Nat → Int32) × (Nat → Int32))} : Runs (fun (zf : Int32 × Int32 × Int32 × (Nat → Int32) × (Nat → Int32) → Option (Int32 × (Nat → Int32) × (Nat → Int32))) z => fX9_best_L17_B row d self6 (nI x) (fun v2_8 v3_9 v5_10 wftri_11 wfrep_12 => zf (v2_8, v3_9, v5_10, wftri_11, wfrep_12)) z.1 z.2.1 z.2.2.1 z.2.2.2.1 z.2.2.2.2) 1 (m, w, 0, tr, rp) (self6 m w (nI (x + 1)) tr rp) := by
  refine Runs.stop (fun self => ?_)
  show fX9_best_L17_B row d self6 (nI x) _ m w 0 tr rp = _
  unfold fX9_best_L17_B
  rw [if_neg (by decide), inB_t (by omega) (by decide), grd_t, nI_clamp (by omega), f_side9, Option.bind_some, if_neg hs, nI_1]
theorem be_out {row : Nat → Int32} (hb : PB row) {d : Int32} (hd : isD d) : ∀ (n x : Nat), x + n = 49 → ∀ (p : Int32 × Int32), bIn p → ∀ (tr rp : Nat → Int32), ∃ tr' rp', ∀ N, n + 1 ≤ N → fX9_best_L7 row d N p.1 p.2 (nI x) tr rp = some ((bfo row (decide (row 52 = 1)) (mlF row d n x) p).1, tr', rp') := by
  intro n
  induction n with
  | zero =>
    intro x hx p hp tr rp
    have : x = 49 := by omega
    subst this
    refine ⟨tr, rp, fun N hN => ?_⟩
    obtain ⟨M, rfl⟩ : ∃ M, N = M + 1 := ⟨N - 1, by omega⟩
    rfl
  | succ n ih =>
    intro x hx p hp tr rp
    by_cases hs : sd (row x) = d
    · have h0 : row x ≠ 0 := fun e => by
        rw [e] at hs
        rcases hd with hd | hd <;> rw [hd] at hs <;> exact absurd hs (by decide)
      obtain ⟨t1, r1, h1⟩ := be_in hb (x := x) (by omega) hs h0 49 0 rfl p hp tr rp
      have hp2 := bIn_fo (row := row) (g := decide (row 52 = 1)) (cds x (tlF row x 49 0)) p (fun c hc => by
        obtain ⟨y, hy, rfl⟩ := List.mem_map.mp hc
        have := tlF_mem 49 0 hy
        omega) hp
      obtain ⟨t2, r2, h2⟩ := ih (x + 1) (by omega) _ hp2 t1 r1
      refine ⟨t2, r2, fun N hN => ?_⟩
      obtain ⟨M, rfl⟩ : ∃ M, N = M + 1 := ⟨N - 1, by omega⟩
      rw [mlF_yes hs, bfo_app]
      refine Eq.trans ?_ (h2 M (by omega))
      rw [bo_S]
      unfold fX9_best_L7_B
      rw [if_neg (nle (c := 49) (by omega) (by decide))]
      exact h1 _ 64 (by omega)
    · obtain ⟨t2, r2, h2⟩ := ih (x + 1) (by omega) p hp tr rp
      refine ⟨t2, r2, fun N hN => ?_⟩
      obtain ⟨M, rfl⟩ : ∃ M, N = M + 1 := ⟨N - 1, by omega⟩
      rw [mlF_no hs]
      refine Eq.trans ?_ (h2 M (by omega))
      rw [bo_S]
      unfold fX9_best_L7_B
      rw [if_neg (nle (c := 49) (by omega) (by decide))]
      exact be_skip (by omega) hs 64 (by omega)
theorem f_best {row : Nat → Int32} (tr rp : Nat → Int32) (hb : PB row) {d : Int32} (hd : isD d) : ∃ tr' rp', fX9_best row tr rp d = some (BM row (decide (row 52 = 1)) d, tr', rp') := by
  obtain ⟨t2, r2, h2⟩ := be_out hb hd 49 0 rfl (-1, 0) (Or.inl rfl) tr rp
  exact ⟨t2, r2, h2 64 (by omega)⟩

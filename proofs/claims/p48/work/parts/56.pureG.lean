/-! ===== pure part G: a move is made, what it takes (the class) ===== -/
def UK (b : Nat → Int32) : Prop := ∀ s, s < 49 → ∀ t, t < 49 → b s = 3 → b t = 3 → s = t
def kingN (b : Nat → Int32) : Option Nat := (List.range 49).find? (fun s => decide (b s = 3))
theorem king_some {b : Nat → Int32} {s : Nat} (h : kingN b = some s) : s < 49 ∧ b s = 3 := by
  unfold kingN at h
  have h1 := List.find?_some h
  have h2 := List.mem_of_find?_eq_some h
  exact ⟨List.mem_range.mp h2, of_decide_eq_true h1⟩
theorem king_none {b : Nat → Int32} (h : kingN b = none) : ∀ s, s < 49 → b s ≠ 3 := by
  unfold kingN at h
  intro s hs e
  have := List.find?_eq_none.mp h s (List.mem_range.mpr hs)
  exact this (decide_eq_true e)
theorem king_is {b : Nat → Int32} (hu : UK b) {s : Nat} (hs : s < 49) (h : b s = 3) : kingN b = some s := by
  cases hk : kingN b with
  | none => exact absurd h (king_none hk s hs)
  | some t =>
    have := king_some hk
    rw [hu t this.1 s hs this.2 h]
theorem king_no {b : Nat → Int32} (h : ∀ s, s < 49 → b s ≠ 3) : kingN b = none := by
  cases hk : kingN b with
  | none => rfl
  | some t =>
    have := king_some hk
    exact absurd this.2 (h t this.1)
theorem enc_eq {o : Option Nat} (ho : ∀ t, o = some t → t < 49) {s : Nat} (hs : s < 49) : (enc o = nI s) = (o = some s) := by
  cases o with
  | none =>
    rw [eq_iff_iff]
    refine ⟨fun h => ?_, fun h => nomatch h⟩
    have h : (-1 : Int32) = nI s := h
    rw [m1_nI (by omega)] at h
    exact h.elim
  | some t =>
    have := ho t rfl
    show (nI t = nI s) = _
    rw [nI_inj (by omega) (by omega), Option.some.injEq]
theorem king_lt {b : Nat → Int32} : ∀ t, kingN b = some t → t < 49 := fun _ h => (king_some h).1
theorem UK.put {b : Nat → Int32} (hu : UK b) {t : Nat} {p : Int32} (h : p = 3 → kingN b = none ∨ kingN b = some t) : UK (upd b t p) := by
  intro s hs s2 hs2 h1 h2
  unfold upd at h1 h2
  by_cases e1 : s = t
  · by_cases e2 : s2 = t
    · rw [e1, e2]
    · rw [if_pos e1] at h1
      rw [if_neg e2] at h2
      rcases h h1 with h | h
      · exact absurd h2 (king_none h s2 hs2)
      · rw [king_is hu hs2 h2] at h
        exact absurd (Option.some.inj h) e2
  · rw [if_neg e1] at h1
    by_cases e2 : s2 = t
    · rw [if_pos e2] at h2
      rcases h h2 with h | h
      · exact absurd h1 (king_none h s hs)
      · rw [king_is hu hs h1] at h
        exact absurd (Option.some.inj h) e1
    · rw [if_neg e2] at h2
      exact hu s hs s2 hs2 h1 h2
/-- the class's set -/
theorem f_set {b : Nat → Int32} (hu : UK b) {t : Nat} (ht : t < 49) {p : Int32} (h : p = 3 → kingN b = none ∨ kingN b = some t) : fX1_set (enc (kingN b)) b (nI t) p = some (upd b t p, enc (kingN (upd b t p))) := by
  have hu2 := hu.put h
  have hk : enc (kingN (upd b t p)) = if p = 3 then nI t else if enc (kingN b) = nI t then -1 else enc (kingN b) := by
    by_cases hp : p = 3
    · rw [if_pos hp, king_is hu2 ht (by unfold upd; rw [if_pos rfl]; exact hp)]
      rfl
    · rw [if_neg hp]
      simp only [enc_eq king_lt ht]
      by_cases hq : kingN b = some t
      · rw [if_pos hq, king_no]
        · rfl
        · intro s hs e
          unfold upd at e
          by_cases e1 : s = t
          · rw [if_pos e1] at e
            exact hp e
          · rw [if_neg e1] at e
            rw [king_is hu hs e] at hq
            exact e1 (Option.some.inj hq)
      · rw [if_neg hq]
        cases hk : kingN b with
        | none =>
          rw [king_no]
          intro s hs e
          unfold upd at e
          by_cases e1 : s = t
          · rw [if_pos e1] at e
            exact hp e
          · rw [if_neg e1] at e
            exact king_none hk s hs e
        | some q =>
          have hq9 := king_some hk
          rw [king_is hu2 hq9.1 (by unfold upd; rw [if_neg (fun e => hq (by rw [hk, e]))]; exact hq9.2)]
  unfold fX1_set
  rw [if_neg (nlt0 (by omega)), if_pos (show nI t < 49 from nI_lt ht (by decide)), inB_t ht (by decide), nI_clamp (n := t) (by omega)]
  simp only [jn_eq, grd_t]
  rw [hk]
  by_cases hp : p = 3
  · rw [if_pos hp, if_pos hp, if_pos hp]
    split <;> rfl
  · rw [if_neg hp, if_neg hp, if_neg hp]
    split <;> rfl
/-- what a move of a piece that may be made is -/
def MV (b : Nat → Int32) (x y : Nat) : Prop := x < 49 ∧ y < 49 ∧ x ≠ y ∧ b x ≠ 0 ∧ b y = 0
theorem mv_UK {b : Nat → Int32} (hu : UK b) {x y : Nat} (h : MV b x y) : UK (mvB b x y) := by
  obtain ⟨hx, hy, hxy, h0, h1⟩ := h
  intro s hs t ht h2 h3
  unfold mvB upd at h2 h3
  by_cases e1 : s = x
  · rw [if_pos e1] at h2
    exact absurd h2 (by decide)
  by_cases e2 : t = x
  · rw [if_pos e2] at h3
    exact absurd h3 (by decide)
  rw [if_neg e1] at h2
  rw [if_neg e2] at h3
  by_cases e3 : s = y
  · by_cases e4 : t = y
    · rw [e3, e4]
    · rw [if_pos e3] at h2
      rw [if_neg e4] at h3
      exact absurd (hu t ht x hx h3 h2) e2
  · rw [if_neg e3] at h2
    by_cases e4 : t = y
    · rw [if_pos e4] at h3
      exact absurd (hu s hs x hx h2 h3) e1
    · rw [if_neg e4] at h3
      exact hu s hs t ht h2 h3
theorem mv_comm {b : Nat → Int32} {x y : Nat} (hxy : x ≠ y) : upd (upd b x 0) y (b x) = mvB b x y := by
  funext k
  unfold mvB upd
  by_cases e1 : k = y
  · rw [if_pos e1, if_neg (fun e => hxy (e.symm.trans e1)), if_pos e1]
  · rw [if_neg e1]
    by_cases e2 : k = x
    · rw [if_pos e2, if_pos e2]
    · rw [if_neg e2, if_neg e2, if_neg e1]
theorem f_isCaught {b : Nat → Int32} (hb : PB b) (hu : UK b) {g : Bool} {m : Int32} (hm : isD m) {y d : Nat} (hy : y < 49) (hd : d < 4) : fX1_isCaught (enc (kingN b)) (b01 g) b (nI y) (nI d) (1 - m) = some (b01 (caught b g m y (cw d))) := by
  unfold fX1_isCaught caught
  rw [f_beside y hy d hd, Option.bind_some]
  have hm1 : isD (1 - m) := by
    rcases hm with rfl | rfl
    · exact Or.inr rfl
    · exact Or.inl rfl
  cases hn : nx y (cw d) with
  | none =>
    rw [show enc none = -1 from rfl, f_at_m1, Option.bind_some, f_side8, Option.bind_some, if_neg]
    · rfl
    · rcases hm with rfl | rfl <;> decide
  | some t =>
    have ht := nx_lt y hy _ (cw_lt d) t hn
    rw [show enc (some t) = nI t from rfl, f_at ht, Option.bind_some, f_side8, Option.bind_some]
    show _ = some (b01 (!decide (b t = 0) && !decide (sd (b t) = m) && (if decide (b t = 3) && (g || nearT t) then shutB b t else match nx t (cw d) with
      | none => false
      | some q => host b q (sd (b t)))))
    by_cases h0 : b t = 0
    · rw [h0, if_neg]
      · rfl
      · rcases hm with rfl | rfl <;> decide
    have hs : (sd (b t) = 1 - m) = ¬ (sd (b t) = m) := by
      rcases sd_D h0 with h | h <;> rw [h] <;> rcases hm with rfl | rfl <;> decide
    by_cases h1 : sd (b t) = m
    · rw [if_neg (by rw [hs]; exact not_not_intro h1), decide_eq_true h1]
      simp [b01]
    have h1' : sd (b t) = 1 - m := by rw [hs]; exact h1
    rw [if_pos h1', decide_eq_false h0, decide_eq_false h1, Bool.not_false, Bool.true_and, Bool.true_and]
    have hJ : ((fX8_beside (nI t) (nI d)).bind fun r_6 => (fX1_hostileTo b (1 - m) r_6).bind fun r_7 => grd (is01 r_7) (some r_7)) = some (b01 (match nx t (cw d) with
      | none => false
      | some q => host b q (sd (b t)))) := by
      rw [f_beside t ht d hd, Option.bind_some]
      cases hq : nx t (cw d) with
      | none =>
        rw [show enc none = -1 from rfl, f_hostileTo_m1]
        rfl
      | some q =>
        have hq9 := nx_lt t ht _ (cw_lt d) q hq
        rw [show enc (some q) = nI q from rfl, f_hostileTo hb hm1 hq9, Option.bind_some, is01_b01, grd_t, h1']
    rw [jn_eq, hJ]
    by_cases h3 : b t = 3
    · rw [if_pos h3, decide_eq_true h3, Bool.true_and, king_is hu ht h3]
      rw [show enc (some t) = nI t from rfl, f_needsFour ht g, Option.bind_some, ite_b01]
      cases hg : (g || nearT t) with
      | false => rfl
      | true =>
        rw [if_pos rfl, if_pos rfl, f_countHostile hb ht, Option.bind_some]
        have e4 : (nI (prN b t) = 4) = (prN b t = 4) := by
          have : prN b t ≤ 4 := by
            unfold prN
            have h0 := hostN_le b (nx t 0)
            have h1 := hostN_le b (nx t 1)
            have h2 := hostN_le b (nx t 2)
            have h3 := hostN_le b (nx t 3)
            omega
          show (nI (prN b t) = nI 4) = _
          rw [nI_inj (by omega) (by decide)]
        simp only [e4]
        unfold shutB
        by_cases h : prN b t = 4
        · rw [if_pos h, decide_eq_true h]
          rfl
        · rw [if_neg h, decide_eq_false h]
          rfl
    · rw [if_neg h3, decide_eq_false h3, Bool.false_and]
      rfl
def cb (c : Nat → Bool) : Nat → Int32
  | 0 => 0
  | i + 1 => if c i then cb c i ||| (1 <<< (nI i &&& 31)) else cb c i
def cbG (c0 c1 c2 c3 : Bool) : Int32 :=
  let v0 : Int32 := 0
  let v1 := if c0 then v0 ||| (1 <<< (nI 0 &&& 31)) else v0
  let v2 := if c1 then v1 ||| (1 <<< (nI 1 &&& 31)) else v1
  let v3 := if c2 then v2 ||| (1 <<< (nI 2 &&& 31)) else v2
  if c3 then v3 ||| (1 <<< (nI 3 &&& 31)) else v3
theorem cb_bits : ∀ c0 c1 c2 c3 : Bool, ∀ d, d < 4 → decide (((cbG c0 c1 c2 c3 >>> (nI d &&& 31)) &&& 1) = 0) = !(if d = 0 then c0 else if d = 1 then c1 else if d = 2 then c2 else c3) := by decide +kernel
theorem cb_test (c : Nat → Bool) {d : Nat} (hd : d < 4) : (((cb c 4 >>> (nI d &&& 31)) &&& 1) = 0) = (c d = false) := by
  have h := cb_bits (c 0) (c 1) (c 2) (c 3) d hd
  have e : cbG (c 0) (c 1) (c 2) (c 3) = cb c 4 := rfl
  rw [e] at h
  have e2 : (if d = 0 then c 0 else if d = 1 then c 1 else if d = 2 then c 2 else c 3) = c d := by
    rcases (by omega : d = 0 ∨ d = 1 ∨ d = 2 ∨ d = 3) with rfl | rfl | rfl | rfl <;> rfl
  rw [e2] at h
  rw [eq_iff_iff]
  constructor
  · intro q
    rw [decide_eq_true q] at h
    simpa using h.symm
  · intro q
    rw [q] at h
    simpa using h
/-- the board while the taken pieces go, direction by direction -/
def fz (b : Nat → Int32) (c : Nat → Bool) (y : Nat) : Nat → (Nat → Int32)
  | 0 => b
  | i + 1 => if c (cw i) then upd (fz b c y i) ((nx y (cw i)).getD 0) 0 else fz b c y i
theorem fz_UK {b : Nat → Int32} (hu : UK b) (c : Nat → Bool) (y : Nat) : ∀ i, UK (fz b c y i)
  | 0 => hu
  | i + 1 => by
    show UK (if _ then _ else _)
    split
    · exact (fz_UK hu c y i).put (fun h => absurd h (by decide))
    · exact fz_UK hu c y i
theorem fz_4 {b : Nat → Int32} {c : Nat → Bool} {y : Nat} (hc : ∀ w, c w = true → ∃ t, nx y w = some t) : fz b c y 4 = tkB b c y := by
  have e : fz b c y 4 = (if c 2 then upd (if c 1 then upd (if c 3 then upd (if c 0 then upd b ((nx y 0).getD 0) 0 else b) ((nx y 3).getD 0) 0 else (if c 0 then upd b ((nx y 0).getD 0) 0 else b)) ((nx y 1).getD 0) 0 else (if c 3 then upd (if c 0 then upd b ((nx y 0).getD 0) 0 else b) ((nx y 3).getD 0) 0 else (if c 0 then upd b ((nx y 0).getD 0) 0 else b))) ((nx y 2).getD 0) 0 else (if c 1 then upd (if c 3 then upd (if c 0 then upd b ((nx y 0).getD 0) 0 else b) ((nx y 3).getD 0) 0 else (if c 0 then upd b ((nx y 0).getD 0) 0 else b)) ((nx y 1).getD 0) 0 else (if c 3 then upd (if c 0 then upd b ((nx y 0).getD 0) 0 else b) ((nx y 3).getD 0) 0 else (if c 0 then upd b ((nx y 0).getD 0) 0 else b)))) := rfl
  rw [e]
  funext k
  have q : ∀ w, (c w && nx y w == some k) = (c w && decide (k = (nx y w).getD 0)) := by
    intro w
    cases hw : c w with
    | false => rfl
    | true =>
      obtain ⟨t, ht⟩ := hc w hw
      rw [ht]
      by_cases h : k = t
      · simp [h]
      · have h2 : ¬ t = k := fun e => h e.symm
        simp [h, h2]
  unfold tkB inG
  rw [q 0, q 1, q 2, q 3]
  cases c 0 <;> cases c 1 <;> cases c 2 <;> cases c 3 <;> simp [upd] <;> (repeat' split) <;> simp_all
theorem f_carryOut {b : Nat → Int32} (hb : PB b) (hu : UK b) {g : Bool} {x y : Nat} (h : MV b x y) : fX1_carryOut (enc (kingN b)) (b01 g) b (nI x) (nI y) = some (nI (nT (caught (mvB b x y) g (sd (b x)) y)), tkB (mvB b x y) (caught (mvB b x y) g (sd (b x)) y) y, enc (kingN (tkB (mvB b x y) (caught (mvB b x y) g (sd (b x)) y) y))) := by
  have huM := mv_UK hu h
  obtain ⟨hx, hy, hxy, h0, h1⟩ := h
  have hbM : PB (mvB b x y) := hb.mv hx
  unfold fX1_carryOut
  rw [f_at hx, Option.bind_some, f_side8, Option.bind_some, f_set hu hx (fun e => absurd e (by decide)), Option.bind_some]
  have hu1 : UK (upd b x 0) := hu.put (fun e => absurd e (by decide))
  rw [f_set hu1 hy, Option.bind_some, mv_comm hxy]
  · obtain ⟨c, hc⟩ : ∃ c, c = caught (mvB b x y) g (sd (b x)) y := ⟨_, rfl⟩
    have hcs : ∀ w, c w = true → ∃ t, nx y w = some t := by
      intro w hw
      rw [hc] at hw
      obtain ⟨t, ht, -⟩ := caught_some hw
      exact ⟨t, ht⟩
    rw [← hc]
    unfold fX1_carryOut_L30
    refine lp_for (B := fun (zf : Int32 × Int32 → Option (Int32 × (Nat → Int32) × Int32)) z => fX1_carryOut_L30_B (b01 g) (nI y) (sd (b x)) (mvB b x y, enc (kingN (mvB b x y))) (fun v5 v6 => zf (v5, v6)) z.1 z.2) (fun i => (cb (fun d => c (cw d)) i, nI i)) 4 (fun i hi self => ?_) (fun self => ?_) (by omega)
    · show fX1_carryOut_L30_B (b01 g) (nI y) (sd (b x)) (mvB b x y, enc (kingN (mvB b x y))) _ (cb _ i) (nI i) = self (if c (cw i) then cb (fun d => c (cw d)) i ||| (1 <<< (nI i &&& 31)) else cb (fun d => c (cw d)) i, nI (i + 1))
      unfold fX1_carryOut_L30_B
      rw [if_neg (nle (c := 4) hi (by decide)), f_isCaught hbM huM (sd_D h0) hy hi, ← hc, Option.bind_some, ite_b01, nI_1]
      cases c (cw i) <;> rfl
    · show fX1_carryOut_L30_B (b01 g) (nI y) (sd (b x)) (mvB b x y, enc (kingN (mvB b x y))) _ (cb _ 4) (nI 4) = _
      unfold fX1_carryOut_L30_B
      rw [if_pos (by decide)]
      unfold fX1_carryOut_L71
      refine lp_for (B := fun (zf : Int32 × Int32 × (Nat → Int32) × Int32 → Option (Int32 × (Nat → Int32) × Int32)) z => fX1_carryOut_L71_B (nI y) (cb (fun d => c (cw d)) 4) (fun v6 v7 w1 w2 => zf (v6, v7, w1, w2)) z.1 z.2.1 z.2.2.1 z.2.2.2) (fun i => (nI (sumN (fun d => (c (cw d)).toNat) i), nI i, fz (mvB b x y) c y i, enc (kingN (fz (mvB b x y) c y i)))) 4 (fun i hi self => ?_) (fun self => ?_) (by omega)
      · show fX1_carryOut_L71_B (nI y) (cb (fun d => c (cw d)) 4) _ (nI _) (nI i) (fz (mvB b x y) c y i) (enc (kingN (fz (mvB b x y) c y i))) = self (nI (sumN (fun d => (c (cw d)).toNat) i + (c (cw i)).toNat), nI (i + 1), (if c (cw i) then upd (fz (mvB b x y) c y i) ((nx y (cw i)).getD 0) 0 else fz (mvB b x y) c y i), enc (kingN (if c (cw i) then upd (fz (mvB b x y) c y i) ((nx y (cw i)).getD 0) 0 else fz (mvB b x y) c y i)))
        unfold fX1_carryOut_L71_B
        rw [if_neg (nle (c := 4) hi (by decide))]
        simp only [cb_test (fun d => c (cw d)) hi]
        cases hci : c (cw i) with
        | false =>
          rw [if_pos rfl, nI_1]
          rfl
        | true =>
          obtain ⟨t, ht⟩ := hcs _ hci
          have ht9 := nx_lt y hy _ (cw_lt i) t ht
          rw [if_neg (by decide), f_beside y hy i hi, Option.bind_some, ht]
          rw [show enc (some t) = nI t from rfl, f_set (fz_UK huM c y i) ht9 (fun e => absurd e (by decide)), Option.bind_some, nI_1, nI_1]
          rfl
      · show fX1_carryOut_L71_B (nI y) (cb (fun d => c (cw d)) 4) _ (nI _) (nI 4) (fz (mvB b x y) c y 4) _ = _
        unfold fX1_carryOut_L71_B
        rw [if_pos (by decide), fz_4 hcs, sumN_4]
        show some (nI ((c 0).toNat + (c 3).toNat + (c 1).toNat + (c 2).toNat), _) = _
        unfold nT
        rw [show (c 0).toNat + (c 3).toNat + (c 1).toNat + (c 2).toNat = (c 0).toNat + (c 1).toNat + (c 2).toNat + (c 3).toNat by omega]
  · intro e
    left
    refine king_no (fun s hs e2 => ?_)
    unfold upd at e2
    by_cases e3 : s = x
    · rw [if_pos e3] at e2
      exact absurd e2 (by decide)
    · rw [if_neg e3] at e2
      exact e3 (hu s hs x hx e2 e)

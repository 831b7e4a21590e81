/-! ===== a move in a game: the class's numbers against the reference's row ===== -/
def wb (b : Nat → Int32) (d : Int32) : Int32 := match kingN b with
  | none => 0
  | some k => if isCo k then 1 else if mcN b (1 - d) = 0 then d else -1
theorem AG_wb {b c : Nat → Int32} (h : AG b c) (d : Int32) : wb b d = wb c d := by
  unfold wb
  rw [AG_kingN h, AG_mcN h]
theorem mov_3 {b : Nat → Int32} {g : Bool} {x y s : Nat} (h : mov b g x y s = 3) : s = y ∨ b s = 3 := by
  unfold mov tkB mvB upd at h
  split at h
  · exact absurd h (by decide)
  · by_cases e : s = x
    · rw [if_pos e] at h
      exact absurd h (by decide)
    · rw [if_neg e] at h
      by_cases e2 : s = y
      · exact Or.inl e2
      · rw [if_neg e2] at h
        exact Or.inr h
theorem king_co {f : Nat → Int32} {g : Bool} {x y k : Nat} (hu : UK f) (hm : MV f x y) (hk : KIN f) (h : kingN (mov f g x y) = some k) (hc : isCo k = true) : k = y ∧ f x = 3 := by
  obtain ⟨h1, h2⟩ := king_some h
  obtain ⟨k0, hk1, hk2⟩ := hk
  rcases mov_3 h2 with e | e
  · refine ⟨e, ?_⟩
    rw [e, mov_y hm] at h2
    exact h2
  · have h3 := king_is hu h1 e
    rw [hk1] at h3
    have h3 := Option.some.inj h3
    rw [h3, hc] at hk2
    exact absurd hk2 (by decide)
theorem won_wb {f : Nat → Int32} {g : Bool} {x y : Nat} {mv : Int32} (hu : UK f) (hm : MV f x y) (hs : sd (f x) = mv) (hk : KIN f) : wb (mov f g x y) mv = if wonB (mov f g x y) y true then mv else -1 := by
  have hy := mov_y (g := g) hm
  unfold wb wonB
  rw [hy, hs]
  cases e : kingN (mov f g x y) with
  | none =>
    have h0 : mv = 0 := by
      rcases sd_D hm.2.2.2.1 with h | h
      · rw [← hs, h]
      · obtain ⟨k, hk1, _⟩ := hk
        exact absurd e (king_kept hm h (by rw [hk1]; exact nofun))
    simp [h0]
  | some k =>
    by_cases ec : isCo k = true
    · obtain ⟨e1, e2⟩ := king_co hu hm hk e ec
      have : mv = 1 := by
        rw [← hs, e2]
        decide
      subst e1
      simp [ec, e2, this]
    · have hno : ¬ (f x = 3 ∧ isCo y = true) := fun ⟨h1, h2⟩ => by
        have h3 := king_is (mov_UK hu hm) (s := y) hm.2.1 (hy.trans h1)
        rw [e] at h3
        rw [Option.some.inj h3] at ec
        exact ec h2
      have : (decide (f x = 3) && isCo y) = false := by
        cases e4 : (decide (f x = 3) && isCo y) with
        | false => rfl
        | true =>
          rw [Bool.and_eq_true, decide_eq_true_eq] at e4
          exact absurd e4 hno
      simp [ec, this]
theorem mov_KIN {f : Nat → Int32} {g : Bool} {x y : Nat} (hu : UK f) (hm : MV f x y) (hk : KIN f) (hw : wonB (mov f g x y) y true = false) : KIN (mov f g x y) := by
  have hy := mov_y (g := g) hm
  unfold wonB at hw
  simp only [Bool.true_and, Bool.or_eq_false_iff, decide_eq_false_iff_not, Bool.and_eq_false_iff] at hw
  obtain ⟨⟨h1, h2⟩, _⟩ := hw
  obtain ⟨k, hk2⟩ := Option.ne_none_iff_exists'.mp h1
  refine ⟨k, hk2, ?_⟩
  cases ec : isCo k with
  | false => rfl
  | true =>
    obtain ⟨e1, e2⟩ := king_co hu hm hk hk2 ec
    subst e1
    rw [hy, e2, ec] at h2
    simp at h2
theorem reason_rst {b : Nat → Int32} {x y : Nat} (h0 : b x ≠ 0) (h : reason b x y = 0) : rst (b x) y = true := by
  obtain ⟨w, hw⟩ := Option.isSome_iff_exists.mp (reason_al h)
  have := reason_w h0 hw
  rw [decide_eq_true h] at this
  exact (Bool.and_eq_true _ _ ▸ this.symm).2
theorem mov_KO {f : Nat → Int32} {g : Bool} {x y : Nat} (hk : KO f) (hr : rst (f x) y = true) : KO (mov f g x y) := by
  intro s hs he
  unfold mov tkB mvB upd
  split
  · exact Or.inl rfl
  · by_cases e : s = x
    · rw [if_pos e]
      exact Or.inl rfl
    · rw [if_neg e]
      by_cases e2 : s = y
      · rw [if_pos e2]
        subst e2
        unfold rst at hr
        rw [he] at hr
        simp at hr
        exact Or.inr hr
      · rw [if_neg e2]
        exact hk s hs he
/-- the row behind the step -/
theorem st_hi {row : Nat → Int32} {x y k : Nat} (hx : x < 49) (hy : y < 49) (hk : 49 ≤ k) : stR row x y k = if k = 58 ∧ sd (row x) = 1 ∨ k = 59 ∧ sd (row x) = 0 then row k + nI (takN row (decide (row 52 = 1)) x y) else row k := by
  have hn : inG (caught (mvB row x y) (decide (row 52 = 1)) (sd (row x)) y) y k = false := by
    cases e : inG (caught (mvB row x y) (decide (row 52 = 1)) (sd (row x)) y) y k with
    | false => rfl
    | true =>
      obtain ⟨w, hw, _, h3⟩ := inG_some e
      have := nx_lt y hy w hw k h3
      omega
  show (if inG (caught (mvB row x y) (decide (row 52 = 1)) (sd (row x)) y) y k then 0 else if k = 58 ∧ sd (row x) = 1 ∨ k = 59 ∧ sd (row x) = 0 then row k + nI (takN row (decide (row 52 = 1)) x y) else mvB row x y k) = _
  rw [hn, if_neg (by decide)]
  by_cases e : k = 58 ∧ sd (row x) = 1 ∨ k = 59 ∧ sd (row x) = 0
  · rw [if_pos e, if_pos e]
  · rw [if_neg e, if_neg e]
    unfold mvB upd
    rw [if_neg (by omega), if_neg (by omega)]
def gmR (row : Nat → Int32) (x y : Nat) (mv : Int32) : Nat → Int32 := upd (upd (upd (stR row x y) 53 (stR row x y 53 + 1)) 54 (stR row x y 54 + 1)) 49 (1 - mv)
def gmE (row : Nat → Int32) (w : Int32) (n : Nat) : Nat → Int32 := if w = -1 then (if n = 3 then upd (upd row 50 4) 57 (row 57 + 1) else row) else upd (upd row 50 (2 + w)) (55 + w).toNatClampNeg (row (55 + w).toNatClampNeg + 1)
theorem gmR_ot {row : Nat → Int32} {x y k : Nat} {mv : Int32} (h : k ≠ 53 ∧ k ≠ 54 ∧ k ≠ 49) : gmR row x y mv k = stR row x y k := by
  unfold gmR
  rw [upd_ne h.2.2, upd_ne h.2.1, upd_ne h.1]
theorem gm_RP {f : Nat → Int32} {kk sg mv gm w1 w2 dg t1 t2 am : Int32} {row : Nat → Int32} {h : List HP} (hr : RP f kk sg 1 mv gm w1 w2 dg t1 t2 am row h) {x y : Nat} (hx : x < 49) (hy : y < 49) (hs : sd (f x) = mv) (hre : reason f x y = 0) {row4 : Nat → Int32} (h4 : ∀ i, i ≠ 60 → row4 i = gmR row x y mv i) : RP (mov f (decide (row 52 = 1)) x y) (enc (kingN (mov f (decide (row 52 = 1)) x y))) sg (jdg 1 mv w1 w2 dg (wonB (mov f (decide (row 52 = 1)) x y) y true) (1 + occ (mov f (decide (row 52 = 1)) x y, 1 - mv) h)).1 (1 - mv) (gm + 1) (jdg 1 mv w1 w2 dg (wonB (mov f (decide (row 52 = 1)) x y) y true) (1 + occ (mov f (decide (row 52 = 1)) x y, 1 - mv) h)).2.1 (jdg 1 mv w1 w2 dg (wonB (mov f (decide (row 52 = 1)) x y) y true) (1 + occ (mov f (decide (row 52 = 1)) x y, 1 - mv) h)).2.2.1 (jdg 1 mv w1 w2 dg (wonB (mov f (decide (row 52 = 1)) x y) y true) (1 + occ (mov f (decide (row 52 = 1)) x y, 1 - mv) h)).2.2.2 (if mv = 0 then t1 else t1 + nI (takN f (decide (row 52 = 1)) x y)) (if mv = 0 then t2 + nI (takN f (decide (row 52 = 1)) x y) else t2) (am + 1) (gmE row4 (wb (mov f (decide (row 52 = 1)) x y) mv) (1 + occ (mov f (decide (row 52 = 1)) x y, 1 - mv) h)) ((mov f (decide (row 52 = 1)) x y, 1 - mv) :: h) := by
  obtain ⟨ag, pb, uk, ko, rfl, hsg, h52, h50, h49, hd, h51, h53, h54, h55, h56, h57, h58, h59, h0, hok, hrun⟩ := hr
  obtain ⟨hlow, hkin⟩ := hrun rfl
  have hm : MV f x y := reason_MV hx hy hre
  have hocc := Low_occ (mov f (decide (row 52 = 1)) x y, 1 - mv) h hlow
  have hrs : rst (f x) y = true := reason_rst hm.2.2.2.1 hre
  have agm : AG (mov f (decide (row 52 = 1)) x y) (stR row x y) := AG_trans (AG_mov ag hx hy _) (AG_symm AG_st)
  have etk : takN row (decide (row 52 = 1)) x y = takN f (decide (row 52 = 1)) x y := (AG_takN ag hx hy _).symm
  have hsr : sd (row x) = mv := by rw [← ag x hx]; exact hs
  have hi := fun k (hk : 49 ≤ k) => st_hi (row := row) (x := x) (y := y) hx hy hk
  rw [hsr, etk] at hi
  have w0 := won_wb (g := decide (row 52 = 1)) uk hm hs hkin
  -- the row's numbers behind note
  have q4 : ∀ k, 49 ≤ k → k ≠ 60 → k ≠ 53 → k ≠ 54 → k ≠ 49 → k ≠ 58 → k ≠ 59 → row4 k = row k := fun k a b c d e e8 e9 => by
    rw [h4 k b, gmR_ot ⟨c, d, e⟩, hi k a, if_neg (by omega)]
  have q58 : row4 58 = if mv = 0 then t1 else t1 + nI (takN f (decide (row 52 = 1)) x y) := by
    rw [h4 58 (by decide), gmR_ot (by decide), hi 58 (by decide), h58]
    rcases hd with e | e
    · rw [if_neg (by rw [e]; decide), if_pos e]
    · rw [if_pos (Or.inl ⟨rfl, e⟩), if_neg (by rw [e]; decide)]
  have q59 : row4 59 = if mv = 0 then t2 + nI (takN f (decide (row 52 = 1)) x y) else t2 := by
    rw [h4 59 (by decide), gmR_ot (by decide), hi 59 (by decide), h59]
    rcases hd with e | e
    · rw [if_pos (Or.inr ⟨rfl, e⟩), if_pos e]
    · rw [if_neg (by rw [e]; decide), if_neg (by rw [e]; decide)]
  have q53 : row4 53 = gm + 1 := by
    rw [h4 53 (by decide)]
    unfold gmR
    rw [upd_ne (by decide), upd_ne (by decide), upd_eq, hi 53 (by decide), if_neg (by omega), h53]
  have q54 : row4 54 = am + 1 := by
    rw [h4 54 (by decide)]
    unfold gmR
    rw [upd_ne (by decide), upd_eq, hi 54 (by decide), if_neg (by omega), h54]
  have q49 : row4 49 = 1 - mv := by
    rw [h4 49 (by decide)]
    unfold gmR
    rw [upd_eq]
  have q52 : row4 52 = row 52 := q4 52 (by decide) (by decide) (by decide) (by decide) (by decide) (by decide) (by decide)
  have q50 : row4 50 = 1 := (q4 50 (by decide) (by decide) (by decide) (by decide) (by decide) (by decide) (by decide)).trans h50
  have q51 : row4 51 = 1 := (q4 51 (by decide) (by decide) (by decide) (by decide) (by decide) (by decide) (by decide)).trans (h51.trans (if_neg (by decide)))
  have q55 : row4 55 = w1 := (q4 55 (by decide) (by decide) (by decide) (by decide) (by decide) (by decide) (by decide)).trans h55
  have q56 : row4 56 = w2 := (q4 56 (by decide) (by decide) (by decide) (by decide) (by decide) (by decide) (by decide)).trans h56
  have q57 : row4 57 = dg := (q4 57 (by decide) (by decide) (by decide) (by decide) (by decide) (by decide) (by decide)).trans h57
  have qlo : AG (mov f (decide (row 52 = 1)) x y) row4 := fun s hs9 => by
    rw [h4 s (by omega), gmR_ot ⟨by omega, by omega, by omega⟩]
    exact agm s hs9
  have hok2 : ∀ q ∈ (mov f (decide (row 52 = 1)) x y, 1 - mv) :: h, okP q := fun q hq => by
    rcases List.mem_cons.mp hq with rfl | hq
    · exact ⟨mov_PB pb hx, isD_opp hd⟩
    · exact hok q hq
  have ne : ∀ {n : Int32}, n ≠ 0 → (n = 0 ↔ (mov f (decide (row 52 = 1)) x y, 1 - mv) :: h = []) := fun hn => ⟨fun e => absurd e hn, fun e => nomatch e⟩
  have fin : ∀ (sn' w1' w2' dg' : Int32) (row5 : Nat → Int32), sn' ≠ 0 → (sn' = 1 → 1 + occ (mov f (decide (row 52 = 1)) x y, 1 - mv) h < 3 ∧ KIN (mov f (decide (row 52 = 1)) x y)) → (∀ k, k < 60 → k ≠ 50 → k ≠ 55 → k ≠ 56 → k ≠ 57 → row5 k = row4 k) → row5 50 = sn' → row5 55 = w1' → row5 56 = w2' → row5 57 = dg' → RP (mov f (decide (row 52 = 1)) x y) (enc (kingN (mov f (decide (row 52 = 1)) x y))) sg sn' (1 - mv) (gm + 1) w1' w2' dg' (if mv = 0 then t1 else t1 + nI (takN f (decide (row 52 = 1)) x y)) (if mv = 0 then t2 + nI (takN f (decide (row 52 = 1)) x y) else t2) (am + 1) row5 ((mov f (decide (row 52 = 1)) x y, 1 - mv) :: h) := by
    intro sn' w1' w2' dg' row5 hn hrn e5 e50 e55 e56 e57
    have e52 : row5 52 = row 52 := (e5 52 (by decide) (by decide) (by decide) (by decide) (by decide)).trans q52
    refine ⟨fun s hs9 => (qlo s hs9).trans (e5 s (by omega) (by omega) (by omega) (by omega) (by omega)).symm, mov_PB pb hx, mov_UK uk hm, mov_KO ko hrs, rfl, ?_, e52.trans h52, e50, (e5 49 (by decide) (by decide) (by decide) (by decide) (by decide)).trans q49, isD_opp hd, ?_, (e5 53 (by decide) (by decide) (by decide) (by decide) (by decide)).trans q53, (e5 54 (by decide) (by decide) (by decide) (by decide) (by decide)).trans q54, e55, e56, e57, (e5 58 (by decide) (by decide) (by decide) (by decide) (by decide)).trans q58, (e5 59 (by decide) (by decide) (by decide) (by decide) (by decide)).trans q59, ne hn, hok2, fun e => ?_⟩
    · rw [e52]
      exact hsg
    · rw [e5 51 (by decide) (by decide) (by decide) (by decide) (by decide), q51, if_neg hn]
    · obtain ⟨o1, o2⟩ := hrn e
      exact ⟨⟨by omega, hlow⟩, o2⟩
  rw [w0]
  cases hw : wonB (mov f (decide (row 52 = 1)) x y) y true with
  | true =>
    rw [show (if true = true then mv else (-1 : Int32)) = mv from if_pos rfl]
    rcases hd with e | e
    · have hj : jdg 1 mv w1 w2 dg true (1 + occ (mov f (decide (row 52 = 1)) x y, 1 - mv) h) = (2, w1 + 1, w2, dg) := by
        unfold jdg
        rw [if_pos rfl, if_pos e]
      have hg : gmE row4 mv (1 + occ (mov f (decide (row 52 = 1)) x y, 1 - mv) h) = upd (upd row4 50 2) 55 (row4 55 + 1) := by
        unfold gmE
        rw [if_neg (by rw [e]; decide), e]
        rfl
      rw [hj, hg]
      exact fin 2 (w1 + 1) w2 dg _ (by decide) (fun q => absurd q (by decide)) (fun k a b c d d2 => by
        rw [upd_ne c, upd_ne b]) (by rw [upd_ne (by decide), upd_eq]) (by rw [upd_eq, q55]) (by rw [upd_ne (by decide), upd_ne (by decide), q56]) (by rw [upd_ne (by decide), upd_ne (by decide), q57])
    · have hj : jdg 1 mv w1 w2 dg true (1 + occ (mov f (decide (row 52 = 1)) x y, 1 - mv) h) = (3, w1, w2 + 1, dg) := by
        unfold jdg
        rw [if_pos rfl, if_neg (by rw [e]; decide)]
      have hg : gmE row4 mv (1 + occ (mov f (decide (row 52 = 1)) x y, 1 - mv) h) = upd (upd row4 50 3) 56 (row4 56 + 1) := by
        unfold gmE
        rw [if_neg (by rw [e]; decide), e]
        rfl
      rw [hj, hg]
      exact fin 3 w1 (w2 + 1) dg _ (by decide) (fun q => absurd q (by decide)) (fun k a b c d d2 => by
        rw [upd_ne d, upd_ne b]) (by rw [upd_ne (by decide), upd_eq]) (by rw [upd_ne (by decide), upd_ne (by decide), q55]) (by rw [upd_eq, q56]) (by rw [upd_ne (by decide), upd_ne (by decide), q57])
  | false =>
    rw [show (if false = true then mv else (-1 : Int32)) = -1 from if_neg (by decide)]
    by_cases e3 : 1 + occ (mov f (decide (row 52 = 1)) x y, 1 - mv) h < 3
    · have hj : jdg 1 mv w1 w2 dg false (1 + occ (mov f (decide (row 52 = 1)) x y, 1 - mv) h) = (1, w1, w2, dg) := by
        unfold jdg
        rw [if_neg (by decide), if_pos e3]
      have hg : gmE row4 (-1) (1 + occ (mov f (decide (row 52 = 1)) x y, 1 - mv) h) = row4 := by
        unfold gmE
        rw [if_pos rfl, if_neg (by omega)]
      rw [hj, hg]
      exact fin 1 w1 w2 dg _ (by decide) (fun _ => ⟨e3, mov_KIN uk hm hkin hw⟩) (fun _ _ _ _ _ _ => rfl) q50 q55 q56 q57
    · have hj : jdg 1 mv w1 w2 dg false (1 + occ (mov f (decide (row 52 = 1)) x y, 1 - mv) h) = (4, w1, w2, dg + 1) := by
        unfold jdg
        rw [if_neg (by decide), if_neg e3]
      have hg : gmE row4 (-1) (1 + occ (mov f (decide (row 52 = 1)) x y, 1 - mv) h) = upd (upd row4 50 4) 57 (row4 57 + 1) := by
        unfold gmE
        rw [if_pos rfl, if_pos (by omega)]
      rw [hj, hg]
      exact fin 4 w1 w2 (dg + 1) _ (by decide) (fun q => absurd q (by decide)) (fun k a b c d d2 => by
        rw [upd_ne d2, upd_ne b]) (by rw [upd_ne (by decide), upd_eq]) (by rw [upd_ne (by decide), upd_ne (by decide), q55]) (by rw [upd_ne (by decide), upd_ne (by decide), q56]) (by rw [upd_eq, q57])

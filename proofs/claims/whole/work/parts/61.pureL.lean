/-! ===== pure part L: the reference's walks over the moves ===== -/
theorem tlF_yes {b : Nat → Int32} {x n y : Nat} (h : reason b x y = 0) : tlF b x (n + 1) y = y :: tlF b x n (y + 1) := by
  show (if _ then _ else _) = _
  rw [if_pos h]
theorem tlF_no {b : Nat → Int32} {x n y : Nat} (h : ¬ reason b x y = 0) : tlF b x (n + 1) y = tlF b x n (y + 1) := by
  show (if _ then _ else _) = _
  rw [if_neg h]
theorem mlF_yes {b : Nat → Int32} {d : Int32} {n x : Nat} (h : sd (b x) = d) : mlF b d (n + 1) x = cds x (tlF b x 49 0) ++ mlF b d n (x + 1) := by
  show (if _ then _ else _) ++ _ = _
  rw [if_pos h]
  rfl
theorem mlF_no {b : Nat → Int32} {d : Int32} {n x : Nat} (h : ¬ sd (b x) = d) : mlF b d (n + 1) x = mlF b d n (x + 1) := by
  show (if _ then _ else _) ++ _ = _
  rw [if_neg h]
  rfl
theorem cds_cons (x y : Nat) (l : List Nat) : cds x (y :: l) = (49 * x + y) :: cds x l := rfl
theorem cd_div {x y : Nat} (hy : y < 49) : (49 * x + y) / 49 = x := by omega
theorem cd_mod {x y : Nat} (hy : y < 49) : (49 * x + y) % 49 = y := by omega
/-! which move stands at a place -/
def omK (self3 : Option Int32) (l : List Nat) (i c : Nat) : Option Int32 := match l[i - c]? with
  | some k => some (nI k)
  | none => self3
theorem om_in {row : Nat → Int32} (hp : ∀ s, s < 49 → 0 ≤ row s) {d : Int32} {x i : Nat} (hx : x < 49) (hi : i < 2 ^ 30) (hs : sd (row x) = d) : ∀ (n y : Nat), y + n = 49 → ∀ (c : Nat), c ≤ i → ∀ (self3 : Int32 → Int32 → Option Int32), Runs (fun (zf : Int32 × Int32 → Option Int32) z => fX9_oneMove_L15_B row d (nI i) self3 (nI x) (fun v3 v5 => zf (v3, v5)) z.1 z.2) (n + 1) (nI c, nI y) (omK (self3 (nI (c + (tlF row x n y).length)) (nI (x + 1))) (cds x (tlF row x n y)) i c) := by
  intro n
  induction n with
  | zero =>
    intro y hy c hc self3
    have : y = 49 := by omega
    subst this
    refine Runs.stop (fun self => ?_)
    show fX9_oneMove_L15_B row d (nI i) self3 (nI x) _ (nI c) 49 = _
    unfold fX9_oneMove_L15_B
    rw [if_pos (by decide), nI_1]
    rfl
  | succ n ih =>
    intro y hy c hc self3
    by_cases h : reason row x y = 0
    · by_cases e : c = i
      · refine Runs.more (k := 1) (Runs.stop (fun self => ?_)) (by omega)
        show fX9_oneMove_L15_B row d (nI i) self3 (nI x) _ (nI c) (nI y) = _
        unfold fX9_oneMove_L15_B
        rw [if_neg (nle (c := 49) (by omega) (by decide)), inB_t (by omega) (by decide), grd_t, nI_clamp (by omega), f_side9, Option.bind_some, if_pos hs, f_against hp hx (by omega), Option.bind_some, if_pos h, if_pos (by rw [e]), code_eq x hx y (by omega), tlF_yes h, cds_cons, e]
        unfold omK
        rw [Nat.sub_self]
        rfl
      · have ih2 := ih (y + 1) (by omega) (c + 1) (by omega) self3
        rw [tlF_yes h, cds_cons]
        refine Runs.step (z' := (nI (c + 1), nI (y + 1))) (fun self => ?_) ?_
        · show fX9_oneMove_L15_B row d (nI i) self3 (nI x) _ (nI c) (nI y) = _
          unfold fX9_oneMove_L15_B
          rw [if_neg (nle (c := 49) (by omega) (by decide)), inB_t (by omega) (by decide), grd_t, nI_clamp (by omega), f_side9, Option.bind_some, if_pos hs, f_against hp hx (by omega), Option.bind_some, if_pos h, if_neg (by rw [nI_inj (by omega) (by omega)]; exact e), nI_1, nI_1]
        · have e2 : omK (self3 (nI (c + (y :: tlF row x n (y + 1)).length)) (nI (x + 1))) ((49 * x + y) :: cds x (tlF row x n (y + 1))) i c = omK (self3 (nI (c + 1 + (tlF row x n (y + 1)).length)) (nI (x + 1))) (cds x (tlF row x n (y + 1))) i (c + 1) := by
            unfold omK
            rw [show i - c = (i - (c + 1)) + 1 by omega, List.getElem?_cons_succ, List.length_cons, show c + ((tlF row x n (y + 1)).length + 1) = c + 1 + (tlF row x n (y + 1)).length by omega]
          rw [e2]
          exact ih2
    · rw [tlF_no h]
      refine Runs.step (z' := (nI c, nI (y + 1))) (fun self => ?_) (ih (y + 1) (by omega) c hc self3)
      show fX9_oneMove_L15_B row d (nI i) self3 (nI x) _ (nI c) (nI y) = _
      unfold fX9_oneMove_L15_B
      rw [if_neg (nle (c := 49) (by omega) (by decide)), inB_t (by omega) (by decide), grd_t, nI_clamp (by omega), f_side9, Option.bind_some, if_pos hs, f_against hp hx (by omega), Option.bind_some, if_neg h, nI_1]
theorem om_skip {row : Nat → Int32} {d : Int32} {x i c : Nat} (hx : x < 49) (hs : ¬ sd (row x) = d) {self3 : Int32 → Int32 → Option Int32} : Runs (fun (zf : Int32 × Int32 → Option Int32) z => fX9_oneMove_L15_B row d (nI i) self3 (nI x) (fun v3 v5 => zf (v3, v5)) z.1 z.2) 1 (nI c, 0) (self3 (nI c) (nI (x + 1))) := by
  refine Runs.stop (fun self => ?_)
  show fX9_oneMove_L15_B row d (nI i) self3 (nI x) _ (nI c) 0 = _
  unfold fX9_oneMove_L15_B
  rw [if_neg (by decide), inB_t (by omega) (by decide), grd_t, nI_clamp (by omega), f_side9, Option.bind_some, if_neg hs, nI_1]
theorem om_out {row : Nat → Int32} (hp : ∀ s, s < 49 → 0 ≤ row s) {d : Int32} {i : Nat} (hi : i < 2 ^ 30) : ∀ (n x : Nat), x + n = 49 → ∀ (c : Nat), c ≤ i → Runs (fun (zf : Int32 × Int32 → Option Int32) z => fX9_oneMove_L5_B row d (nI i) (fun v3 v4 => zf (v3, v4)) z.1 z.2) (n + 1) (nI c, nI x) (omK (some (-1)) (mlF row d n x) i c) := by
  intro n
  induction n with
  | zero =>
    intro x hx c hc
    have : x = 49 := by omega
    subst this
    exact Runs.stop (fun self => rfl)
  | succ n ih =>
    intro x hx c hc
    by_cases hs : sd (row x) = d
    · have h1 := fun self3 => om_in hp (x := x) (i := i) (by omega) hi hs 49 0 rfl c hc self3 64 (by omega)
      rw [mlF_yes hs]
      cases e : (cds x (tlF row x 49 0))[i - c]? with
      | some k =>
        refine Runs.more (k := 1) (Runs.stop (fun self => ?_)) (by omega)
        show fX9_oneMove_L5_B row d (nI i) _ (nI c) (nI x) = _
        unfold fX9_oneMove_L5_B
        rw [if_neg (nle (c := 49) (by omega) (by decide))]
        refine Eq.trans (h1 _) ?_
        unfold omK
        rw [e, List.getElem?_append_left (List.getElem?_eq_some_iff.mp e).1, e]
      | none =>
        have hl := List.getElem?_eq_none_iff.mp e
        rw [cds_len] at hl
        have ih2 := ih (x + 1) (by omega) (c + (tlF row x 49 0).length) (by omega)
        refine Runs.step (z' := (nI (c + (tlF row x 49 0).length), nI (x + 1))) (fun self => ?_) ?_
        · show fX9_oneMove_L5_B row d (nI i) _ (nI c) (nI x) = _
          unfold fX9_oneMove_L5_B
          rw [if_neg (nle (c := 49) (by omega) (by decide))]
          refine Eq.trans (h1 _) ?_
          unfold omK
          rw [e]
        · have e3 : omK (some (-1)) (cds x (tlF row x 49 0) ++ mlF row d n (x + 1)) i c = omK (some (-1)) (mlF row d n (x + 1)) i (c + (tlF row x 49 0).length) := by
            unfold omK
            rw [List.getElem?_append_right (by rw [cds_len]; omega), cds_len, show i - c - (tlF row x 49 0).length = i - (c + (tlF row x 49 0).length) by omega]
          rw [e3]
          exact ih2
    · rw [mlF_no hs]
      refine Runs.step (z' := (nI c, nI (x + 1))) (fun self => ?_) (ih (x + 1) (by omega) c hc)
      show fX9_oneMove_L5_B row d (nI i) _ (nI c) (nI x) = _
      unfold fX9_oneMove_L5_B
      rw [if_neg (nle (c := 49) (by omega) (by decide))]
      exact om_skip (by omega) hs 64 (by omega)
theorem f_oneMove {row : Nat → Int32} (hp : ∀ s, s < 49 → 0 ≤ row s) (d : Int32) {i : Nat} (hi : i < (LMv row d).length) (h3 : i < 2 ^ 30) : fX9_oneMove row d (nI i) = some (nI (LMv row d)[i]) := by
  have := om_out hp (d := d) h3 49 0 rfl 0 (Nat.zero_le _) 64 (by omega)
  refine Eq.trans this ?_
  unfold omK
  rw [Nat.sub_zero, show mlF row d 49 0 = LMv row d from rfl, List.getElem?_eq_getElem hi]
/-! how many moves win -/
theorem wi_in {row : Nat → Int32} (hb : PB row) {d : Int32} {x : Nat} (hx : x < 49) (hs : sd (row x) = d) : ∀ (n y : Nat), y + n = 49 → ∀ (acc : Nat) (rb : Nat → Int32), ∃ rb', ∀ (self4 : Int32 → Int32 → (Nat → Int32) → Option (Int32 × (Nat → Int32))), Runs (fun (zf : Int32 × Int32 × (Nat → Int32) → Option (Int32 × (Nat → Int32))) z => fX9_winning_L15_B row d self4 (nI x) (fun v3 v5 w => zf (v3, v5, w)) z.1 z.2.1 z.2.2) (n + 1) (nI acc, nI y, rb) (self4 (nI (acc + wnL row (decide (row 52 = 1)) (cds x (tlF row x n y)))) (nI (x + 1)) rb') := by
  intro n
  induction n with
  | zero =>
    intro y hy acc rb
    have : y = 49 := by omega
    subst this
    refine ⟨rb, fun self4 => Runs.stop (fun self => ?_)⟩
    show fX9_winning_L15_B row d self4 (nI x) _ (nI acc) 49 rb = _
    unfold fX9_winning_L15_B
    rw [if_pos (by decide), nI_1]
    rfl
  | succ n ih =>
    intro y hy acc rb
    by_cases h : reason row x y = 0
    · obtain ⟨rb', hr⟩ := ih (y + 1) (by omega) (acc + (if winB row (decide (row 52 = 1)) x y then 1 else 0)) (stR (cpy row rb) x y)
      refine ⟨rb', fun self4 => ?_⟩
      rw [tlF_yes h, cds_cons, wnL_cons, cd_div (by omega), cd_mod (by omega), ← Nat.add_assoc]
      refine Runs.step (fun self => ?_) (hr self4)
      show fX9_winning_L15_B row d self4 (nI x) _ (nI acc) (nI y) rb = _
      unfold fX9_winning_L15_B
      rw [if_neg (nle (c := 49) (by omega) (by decide)), inB_t (by omega) (by decide), grd_t, nI_clamp (by omega), f_side9, Option.bind_some, if_pos hs, f_against hb.pos hx (by omega), Option.bind_some]
      simp only [jn_eq]
      rw [if_pos h, f_ends rb hb (reason_MV hx (by omega) h), Option.bind_some]
      simp only [ite_b01]
      split
      · rw [nI_1, nI_1]
      · rw [nI_1, Int32.add_zero]
        rfl
    · obtain ⟨rb', hr⟩ := ih (y + 1) (by omega) acc rb
      refine ⟨rb', fun self4 => ?_⟩
      rw [tlF_no h]
      refine Runs.step (fun self => ?_) (hr self4)
      show fX9_winning_L15_B row d self4 (nI x) _ (nI acc) (nI y) rb = _
      unfold fX9_winning_L15_B
      rw [if_neg (nle (c := 49) (by omega) (by decide)), inB_t (by omega) (by decide), grd_t, nI_clamp (by omega), f_side9, Option.bind_some, if_pos hs, f_against hb.pos hx (by omega), Option.bind_some]
      simp only [jn_eq]
      rw [if_neg h, nI_1, Int32.add_zero]
theorem wi_skip {row : Nat → Int32} {d : Int32} {x acc : Nat} {rb : Nat → Int32} (hx : x < 49) (hs : ¬ sd (row x) = d) {self4 : Int32 → Int32 → (Nat → Int32) → Option (Int32 × (Nat → Int32))} : Runs (fun (zf : Int32 × Int32 × (Nat → Int32) → Option (Int32 × (Nat → Int32))) z => fX9_winning_L15_B row d self4 (nI x) (fun v3 v5 w => zf (v3, v5, w)) z.1 z.2.1 z.2.2) 1 (nI acc, 0, rb) (self4 (nI acc) (nI (x + 1)) rb) := by
  refine Runs.stop (fun self => ?_)
  show fX9_winning_L15_B row d self4 (nI x) _ (nI acc) 0 rb = _
  unfold fX9_winning_L15_B
  rw [if_neg (by decide), inB_t (by omega) (by decide), grd_t, nI_clamp (by omega), f_side9, Option.bind_some, if_neg hs, nI_1]
theorem wi_out {row : Nat → Int32} (hb : PB row) {d : Int32} : ∀ (n x : Nat), x + n = 49 → ∀ (acc : Nat) (rb : Nat → Int32), ∃ rb', Runs (fun (zf : Int32 × Int32 × (Nat → Int32) → Option (Int32 × (Nat → Int32))) z => fX9_winning_L5_B row d (fun v3 v4 w => zf (v3, v4, w)) z.1 z.2.1 z.2.2) (n + 1) (nI acc, nI x, rb) (some (nI (acc + wnL row (decide (row 52 = 1)) (mlF row d n x)), rb')) := by
  intro n
  induction n with
  | zero =>
    intro x hx acc rb
    have : x = 49 := by omega
    subst this
    exact ⟨rb, Runs.stop (fun self => rfl)⟩
  | succ n ih =>
    intro x hx acc rb
    by_cases hs : sd (row x) = d
    · obtain ⟨r1, h1⟩ := wi_in hb (x := x) (by omega) hs 49 0 rfl acc rb
      obtain ⟨r2, h2⟩ := ih (x + 1) (by omega) (acc + wnL row (decide (row 52 = 1)) (cds x (tlF row x 49 0))) r1
      refine ⟨r2, ?_⟩
      rw [mlF_yes hs, wnL_app, ← Nat.add_assoc]
      refine Runs.step (fun self => ?_) h2
      show fX9_winning_L5_B row d _ (nI acc) (nI x) rb = _
      unfold fX9_winning_L5_B
      rw [if_neg (nle (c := 49) (by omega) (by decide))]
      exact h1 _ 64 (by omega)
    · obtain ⟨r2, h2⟩ := ih (x + 1) (by omega) acc rb
      refine ⟨r2, ?_⟩
      rw [mlF_no hs]
      refine Runs.step (fun self => ?_) h2
      show fX9_winning_L5_B row d _ (nI acc) (nI x) rb = _
      unfold fX9_winning_L5_B
      rw [if_neg (nle (c := 49) (by omega) (by decide))]
      exact wi_skip (by omega) hs 64 (by omega)
theorem f_winning {row : Nat → Int32} (rb : Nat → Int32) (hb : PB row) (d : Int32) : ∃ rb', fX9_winning row rb d = some (nI (WN row (decide (row 52 = 1)) d), rb') := by
  obtain ⟨r2, h2⟩ := wi_out hb (d := d) 49 0 rfl 0 rb
  refine ⟨r2, ?_⟩
  have := h2 64 (by omega)
  rw [Nat.zero_add] at this
  exact this
/-! what a move is worth -/
def worN (b : Nat → Int32) (g : Bool) (x y : Nat) : Int32 := if winB b g x y then 1000 else 20 * nI (takN b g x y) - 100 * nI (WN (mov b g x y) g (1 - sd (b x)))
theorem AG_worN {b c : Nat → Int32} (h : AG b c) {x y : Nat} (hx : x < 49) (hy : y < 49) (g : Bool) : worN b g x y = worN c g x y := by
  unfold worN
  rw [AG_winB h hx hy, AG_takN h hx hy, AG_WN (AG_mov h hx hy g), h x hx]
theorem wor_fin : ∀ t, t < 5 → ∀ n, n < 589 → ¬ (20 * nI t - 100 * nI n ≤ (-99999 : Int32)) := by decide +kernel
theorem isD_opp {d : Int32} (h : isD d) : isD (1 - d) := by
  rcases h with h | h <;> rw [h]
  · exact Or.inr rfl
  · exact Or.inl rfl
theorem worN_lo {b : Nat → Int32} {g : Bool} {x y : Nat} (h0 : b x ≠ 0) : ¬ worN b g x y ≤ (-99999 : Int32) := by
  unfold worN
  split
  · decide
  · have h1 := takN_le b g x y
    have h2 := WN_le (b := mov b g x y) (g := g) (isD_opp (sd_D h0))
    exact wor_fin _ (by omega) _ (by omega)
theorem f_tried {row : Nat → Int32} (tri : Nat → Int32) (hb : PB row) {x y : Nat} (h : MV row x y) : fX9_tried row tri (nI x) (nI y) = some (nI (takN row (decide (row 52 = 1)) x y), stR (cpy row tri) x y) := by
  obtain ⟨hx, hy, hxy, h0, h1⟩ := h
  have ag := AG_cpy row tri
  unfold fX9_tried
  rw [f_copy', Option.bind_some, f_step (AG_PB (AG_symm ag) hb) hx hy hxy (by rw [cpy_lt (by omega)]; exact h0), Option.bind_some]
  have : stN (cpy row tri) x y = takN (cpy row tri) (decide (cpy row tri 52 = 1)) x y := rfl
  rw [this, cpy_lt (by decide), AG_takN ag hx hy]
theorem st_52 {row : Nat → Int32} {x y : Nat} (hx : x < 49) (hy : y < 49) : stR row x y 52 = row 52 := by
  have hn : inG (caught (mvB row x y) (decide (row 52 = 1)) (sd (row x)) y) y 52 = false := by
    cases e : inG (caught (mvB row x y) (decide (row 52 = 1)) (sd (row x)) y) y 52 with
    | false => rfl
    | true =>
      obtain ⟨w, hw, _, h3⟩ := inG_some e
      exact absurd (nx_lt y hy w hw 52 h3) (by decide)
  unfold stR
  rw [hn, if_neg (by decide), if_neg (by omega)]
  unfold mvB upd
  rw [if_neg (by omega), if_neg (by omega)]
theorem f_worth9 {row : Nat → Int32} (tri rep : Nat → Int32) (hb : PB row) {x y : Nat} (h : MV row x y) : ∃ tri' rep', fX9_worth row tri rep (nI x) (nI y) = some (worN row (decide (row 52 = 1)) x y, tri', rep') := by
  have hm := h
  obtain ⟨hx, hy, hxy, h0, h1⟩ := hm
  have ag := AG_cpy row (stR (cpy row tri) x y)
  have ags : AG (stR (cpy row (stR (cpy row tri) x y)) x y) (mov row (decide (row 52 = 1)) x y) := AG_trans AG_st (by rw [cpy_lt (by decide)]; exact AG_mov ag hx hy _)
  obtain ⟨rb', hr⟩ := f_winning rep (AG_PB (AG_symm ags) (mov_PB hb hx)) (1 - sd (row x))
  have hg : stR (cpy row (stR (cpy row tri) x y)) x y 52 = row 52 := by rw [st_52 hx hy, cpy_lt (by decide)]
  rw [hg, AG_WN ags] at hr
  unfold fX9_worth worN
  rw [f_ends tri hb h, Option.bind_some]
  simp only [ite_b01]
  cases winB row (decide (row 52 = 1)) x y with
  | true => exact ⟨_, _, rfl⟩
  | false =>
    refine ⟨stR (cpy row (stR (cpy row tri) x y)) x y, rb', ?_⟩
    simp only [Bool.false_eq_true, if_false]
    rw [f_tried _ hb h, Option.bind_some, inB_t (by omega) (by decide), grd_t, nI_clamp (by omega), f_side9, Option.bind_some]
    simp only
    rw [hr, Option.bind_some]

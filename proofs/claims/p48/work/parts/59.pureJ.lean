/-! ===== pure part J: the class lists its moves ===== -/
def ap (mf : Nat → Int32) : Nat → List Nat → (Nat → Int32)
  | _, [] => mf
  | k, c :: l => ap (upd mf k (nI c)) (k + 1) l
theorem ap_append : ∀ (l m : List Nat) (mf : Nat → Int32) (k : Nat), ap mf k (l ++ m) = ap (ap mf k l) (k + l.length) m
  | [], m, mf, k => rfl
  | c :: l, m, mf, k => by
    show ap (upd mf k (nI c)) (k + 1) (l ++ m) = ap (ap (upd mf k (nI c)) (k + 1) l) (k + (l.length + 1)) m
    rw [ap_append l m _ (k + 1), Nat.add_assoc, Nat.add_comm 1]
theorem ap_lo : ∀ (l : List Nat) (mf : Nat → Int32) (k i : Nat), i < k → ap mf k l i = mf i
  | [], mf, k, i, _ => rfl
  | c :: l, mf, k, i, h => by
    show ap (upd mf k (nI c)) (k + 1) l i = mf i
    rw [ap_lo l _ (k + 1) i (by omega)]
    unfold upd
    rw [if_neg (by omega)]
theorem ap_at : ∀ (l : List Nat) (mf : Nat → Int32) (k i : Nat) (h : i < l.length), ap mf k l (k + i) = nI l[i]
  | c :: l, mf, k, 0, h => by
    show ap (upd mf k (nI c)) (k + 1) l k = nI c
    rw [ap_lo l _ (k + 1) k (by omega)]
    unfold upd
    rw [if_pos rfl]
  | c :: l, mf, k, i + 1, h => by
    show ap (upd mf k (nI c)) (k + 1) l (k + (i + 1)) = nI (l[i]'(by simpa using h))
    rw [← ap_at l (upd mf k (nI c)) (k + 1) i (by simpa using h)]
    congr 1
    omega
theorem code_eq : ∀ x, x < 49 → ∀ y, y < 49 → 49 * nI x + nI y = nI (49 * x + y) := by decide +kernel
theorem f_add {mf : Nat → Int32} {k x y : Nat} (hk : k < 588) (hx : x < 49) (hy : y < 49) : fX3_add (nI k) mf (nI x) (nI y) = some (upd mf k (nI (49 * x + y)), nI (k + 1)) := by
  unfold fX3_add
  rw [if_neg (nle (c := 588) hk (by decide)), inB_t hk (by decide), grd_t, nI_clamp (by omega), code_eq x hx y hy, nI_1]
def cds (x : Nat) (l : List Nat) : List Nat := l.map (fun y => 49 * x + y)
theorem cds_len (x : Nat) (l : List Nat) : (cds x l).length = l.length := List.length_map ..
theorem cds_app (x : Nat) (l m : List Nat) : cds x (l ++ m) = cds x l ++ cds x m := List.map_append
/-- the squares along a way, listed forward -/
theorem lf_in {f : Nat → Int32} {p : Int32} {x d : Nat} (hx : x < 49) (hd : d < 4) : ∀ (rs : List Nat), Way (cw d) rs → ∀ (mf : Nat → Int32) (k st : Nat), st + rs.length ≤ 7 → k + ((rs.takeWhile (fun t => decide (f t = 0))).filter (rst p)).length ≤ 588 → Runs (fun (zf : Int32 × Int32 × (Nat → Int32) × Int32 → Option ((Nat → Int32) × Int32)) z => fX1_listForward_L17_B f (nI x) (nI d) p (fun v5 v6 wm wc => zf (v5, v6, wm, wc)) z.1 z.2.1 z.2.2.1 z.2.2.2) (rs.length + 1) (enc rs.head?, nI st, mf, nI k) (some (ap mf k (cds x ((rs.takeWhile (fun t => decide (f t = 0))).filter (rst p))), nI (k + ((rs.takeWhile (fun t => decide (f t = 0))).filter (rst p)).length)))
  | [], _, mf, k, st, hst, hk => by
    refine Runs.stop (fun self => ?_)
    show fX1_listForward_L17_B f (nI x) (nI d) p _ (-1) (nI st) mf (nI k) = _
    unfold fX1_listForward_L17_B
    split
    · rfl
    · rw [if_pos (by decide)]
      rfl
  | t :: r, hW, mf, k, st, hst, hk => by
    have ht : t < 49 := hW.1
    have hlen : st + (r.length + 1) ≤ 7 := hst
    have hnx := nx_way (cw_lt d) hW
    have hst7 : ¬ (7 : Int32) ≤ nI st := nle (c := 7) (by omega) (by decide)
    by_cases h : f t = 0
    · rw [List.takeWhile_cons_of_pos (by simp [h])] at hk ⊢
      by_cases hr : rst p t = true
      · rw [List.filter_cons_of_pos hr] at hk ⊢
        have hk2 : k + (((r.takeWhile (fun t => decide (f t = 0))).filter (rst p)).length + 1) ≤ 588 := hk
        refine Runs.step (z' := (enc r.head?, nI (st + 1), upd mf k (nI (49 * x + t)), nI (k + 1))) (fun self => ?_) ?_
        · show fX1_listForward_L17_B f (nI x) (nI d) p _ (nI t) (nI st) mf (nI k) = _
          unfold fX1_listForward_L17_B
          rw [if_neg hst7, if_neg (nlt0 (by omega)), f_at ht, Option.bind_some, if_pos h, f_mayStop p t ht, Option.bind_some, jn_eq, hr]
          simp only [f_beside t ht d hd, Option.bind_some, ite_b01, hnx, f_add (show k < 588 by omega) hx ht, if_true, nI_1]
        · have := lf_in (f := f) (p := p) hx hd r (Way_tail (cw_lt d) hW) (upd mf k (nI (49 * x + t))) (k + 1) (st + 1) (by omega) (by omega)
          rw [show k + (t :: (r.takeWhile (fun t => decide (f t = 0))).filter (rst p)).length = k + 1 + ((r.takeWhile (fun t => decide (f t = 0))).filter (rst p)).length from by rw [List.length_cons]; omega]
          exact this
      · rw [List.filter_cons_of_neg hr] at hk ⊢
        refine Runs.step (z' := (enc r.head?, nI (st + 1), mf, nI k)) (fun self => ?_) ?_
        · show fX1_listForward_L17_B f (nI x) (nI d) p _ (nI t) (nI st) mf (nI k) = _
          unfold fX1_listForward_L17_B
          rw [if_neg hst7, if_neg (nlt0 (by omega)), f_at ht, Option.bind_some, if_pos h, f_mayStop p t ht, Option.bind_some, jn_eq]
          simp only [f_beside t ht d hd, Option.bind_some, ite_b01, hnx, hr, if_false, nI_1, Bool.false_eq_true]
        · exact lf_in (f := f) (p := p) hx hd r (Way_tail (cw_lt d) hW) mf k (st + 1) (by omega) hk
    · refine Runs.more (k := 1) (Runs.stop (fun self => ?_)) (by omega)
      show fX1_listForward_L17_B f (nI x) (nI d) p _ (nI t) (nI st) mf (nI k) = _
      unfold fX1_listForward_L17_B
      rw [if_neg hst7, if_neg (nlt0 (by omega)), f_at ht, Option.bind_some, if_neg h, List.takeWhile_cons_of_neg (by simp [h])]
      rfl
theorem f_listForward {f mf : Nat → Int32} {x d k : Nat} (hx : x < 49) (hd : d < 4) (hk : k + ((fre f x (cw d)).filter (rst (f x))).length ≤ 588) : fX1_listForward f (nI k) mf (nI x) (nI d) = some (ap mf k (cds x ((fre f x (cw d)).filter (rst (f x)))), nI (k + ((fre f x (cw d)).filter (rst (f x))).length)) := by
  unfold fX1_listForward
  rw [f_at hx, Option.bind_some, f_beside x hx d hd, Option.bind_some]
  have h := ray_len x hx (cw d) (cw_lt d)
  rw [← ray_head x hx (cw d) (cw_lt d)]
  exact lf_in hx hd (ray x (cw d)) (Way_ray hx (cw_lt d)) mf k 1 (by omega) hk 64 (by omega)
def bkB (d : Nat) : List Nat → Bool
  | [] => true
  | [t] => decide (t < 49)
  | t :: t2 :: r => decide (t < 49) && decide (nx t (cw (3 - d)) = some t2) && bkB d (t2 :: r)
theorem bk_ok : ∀ x, x < 49 → ∀ d, d < 2 → ∀ n, n < 7 → bkB d ((ray x (cw d)).take n).reverse = true := by decide +kernel
theorem opp_eq : ∀ d, d < 4 → fX8_opposite (nI d) = some (nI (3 - d)) := by decide +kernel
theorem nI_m {n : Nat} (h : n + 1 < 2 ^ 31) : nI (n + 1) + (-1) = nI n := by
  rw [← nI_pred n, Int32.sub_eq_add_neg]
theorem le0 {n : Nat} (h : n + 1 < 2 ^ 31) : ¬ nI (n + 1) ≤ 0 := fun e => by
  have := (nI_leI (a := n + 1) (b := 0) h (by decide)).mp e
  omega
theorem bk_out {p : Int32} {x d : Nat} (hx : x < 49) (hd : d < 4) : ∀ (l : List Nat) (v : Int32), (∀ t r, l = t :: r → v = nI t) → l.length ≤ 6 → bkB d l = true → ∀ (mf : Nat → Int32) (k : Nat), k + (l.filter (rst p)).length ≤ 588 → Runs (fun (zf : Int32 × Int32 × (Nat → Int32) × Int32 → Option ((Nat → Int32) × Int32)) z => fX1_listBackward_L69_B (nI x) (nI d) p (fun v5 v6 wm wc => zf (v5, v6, wm, wc)) z.1 z.2.1 z.2.2.1 z.2.2.2) (l.length + 1) (v, nI l.length, mf, nI k) (some (ap mf k (cds x (l.filter (rst p))), nI (k + (l.filter (rst p)).length)))
  | [], v, _, _, _, mf, k, hk => by
    refine Runs.stop (fun self => ?_)
    show fX1_listBackward_L69_B (nI x) (nI d) p _ v (nI 0) mf (nI k) = _
    unfold fX1_listBackward_L69_B
    rw [if_pos (by decide)]
    rfl
  | t :: r, v, hv, hl, hb, mf, k, hk => by
    have hvt := hv t r rfl
    have hl2 : r.length + 1 ≤ 6 := hl
    subst hvt
    have ht : t < 49 := by
      cases r with
      | nil => exact of_decide_eq_true hb
      | cons t2 r =>
        unfold bkB at hb
        simp only [Bool.and_eq_true, decide_eq_true_eq] at hb
        exact hb.1.1
    have hb2 : bkB d r = true := by
      cases r with
      | nil => rfl
      | cons t2 r =>
        unfold bkB at hb
        simp only [Bool.and_eq_true, decide_eq_true_eq] at hb
        exact hb.2
    have hn : ∀ t2 r2, r = t2 :: r2 → enc (nx t (cw (3 - d))) = nI t2 := fun t2 r2 e => by
      subst e
      unfold bkB at hb
      simp only [Bool.and_eq_true, decide_eq_true_eq] at hb
      rw [hb.1.2]
      rfl
    by_cases hr : rst p t = true
    · rw [List.filter_cons_of_pos hr] at hk ⊢
      have hk2 : k + ((r.filter (rst p)).length + 1) ≤ 588 := hk
      refine Runs.step (z' := (enc (nx t (cw (3 - d))), nI r.length, upd mf k (nI (49 * x + t)), nI (k + 1))) (fun self => ?_) ?_
      · show fX1_listBackward_L69_B (nI x) (nI d) p _ (nI t) (nI (r.length + 1)) mf (nI k) = _
        unfold fX1_listBackward_L69_B
        rw [if_neg (le0 (by omega)), f_mayStop p t ht, Option.bind_some, jn_eq, hr]
        simp only [opp_eq d hd, f_beside t ht (3 - d) (by omega), Option.bind_some, ite_b01, f_add (show k < 588 by omega) hx ht, if_true, nI_m (show r.length + 1 < 2 ^ 31 by omega)]
      · have := bk_out (p := p) hx hd r _ hn (by omega) hb2 (upd mf k (nI (49 * x + t))) (k + 1) (by omega)
        rw [show k + (t :: r.filter (rst p)).length = k + 1 + (r.filter (rst p)).length from by rw [List.length_cons]; omega]
        exact this
    · rw [List.filter_cons_of_neg hr] at hk ⊢
      refine Runs.step (z' := (enc (nx t (cw (3 - d))), nI r.length, mf, nI k)) (fun self => ?_) ?_
      · show fX1_listBackward_L69_B (nI x) (nI d) p _ (nI t) (nI (r.length + 1)) mf (nI k) = _
        unfold fX1_listBackward_L69_B
        rw [if_neg (le0 (by omega)), f_mayStop p t ht, Option.bind_some, jn_eq]
        simp only [opp_eq d hd, f_beside t ht (3 - d) (by omega), Option.bind_some, ite_b01, hr, if_false, nI_m (show r.length + 1 < 2 ^ 31 by omega), Bool.false_eq_true]
      · exact bk_out (p := p) hx hd r _ hn (by omega) hb2 mf k hk
theorem bk_in {f mf : Nat → Int32} {p cnt : Int32} {x d : Nat} (hd : d < 4) : ∀ (rs : List Nat), Way (cw d) rs → ∀ (to k st : Nat), st + rs.length ≤ 7 → Runs (fun (zf : Int32 × Int32 × Int32 × Int32 → Option ((Nat → Int32) × Int32)) z => fX1_listBackward_L23_B f cnt mf (nI x) (nI d) p (fun v5 v6 v7 v8 => zf (v5, v6, v7, v8)) z.1 z.2.1 z.2.2.1 z.2.2.2) (rs.length + 1) (nI to, nI k, enc rs.head?, nI st) (fX1_listBackward_L69 (nI x) (nI d) p 64 (nI ((rs.takeWhile (fun t => decide (f t = 0))).getLastD to)) (nI (k + (rs.takeWhile (fun t => decide (f t = 0))).length)) mf cnt)
  | [], _, to, k, st, hst => by
    refine Runs.stop (fun self => ?_)
    show fX1_listBackward_L23_B f cnt mf (nI x) (nI d) p _ (nI to) (nI k) (-1) (nI st) = _
    unfold fX1_listBackward_L23_B
    simp only [jn_eq]
    split
    · rfl
    · rw [if_pos (by decide)]
      rfl
  | t :: r, hW, to, k, st, hst => by
    have ht : t < 49 := hW.1
    have hlen : st + (r.length + 1) ≤ 7 := hst
    have hnx := nx_way (cw_lt d) hW
    have hst7 : ¬ (7 : Int32) ≤ nI st := nle (c := 7) (by omega) (by decide)
    by_cases h : f t = 0
    · rw [List.takeWhile_cons_of_pos (by simp [h])]
      refine Runs.step (z' := (nI t, nI (k + 1), enc r.head?, nI (st + 1))) (fun self => ?_) ?_
      · show fX1_listBackward_L23_B f cnt mf (nI x) (nI d) p _ (nI to) (nI k) (nI t) (nI st) = _
        unfold fX1_listBackward_L23_B
        rw [jn_eq, if_neg hst7, if_neg (nlt0 (by omega)), f_at ht, Option.bind_some, if_pos h]
        simp only [f_beside t ht d hd, Option.bind_some, hnx, nI_1]
      · have := bk_in (f := f) (mf := mf) (p := p) (cnt := cnt) (x := x) hd r (Way_tail (cw_lt d) hW) t (k + 1) (st + 1) (by omega)
        rw [List.getLastD_cons, show k + (t :: r.takeWhile (fun t => decide (f t = 0))).length = k + 1 + (r.takeWhile (fun t => decide (f t = 0))).length from by rw [List.length_cons]; omega]
        exact this
    · refine Runs.more (k := 1) (Runs.stop (fun self => ?_)) (by omega)
      show fX1_listBackward_L23_B f cnt mf (nI x) (nI d) p _ (nI to) (nI k) (nI t) (nI st) = _
      unfold fX1_listBackward_L23_B
      rw [jn_eq, if_neg hst7, if_neg (nlt0 (by omega)), f_at ht, Option.bind_some, if_neg h, List.takeWhile_cons_of_neg (by simp [h])]
      rfl
theorem fre_take {f : Nat → Int32} {x w : Nat} : fre f x w = (ray x w).take (fre f x w).length := List.prefix_iff_eq_take.mp (List.takeWhile_prefix _)
theorem f_listBackward {f mf : Nat → Int32} {x d k : Nat} (hx : x < 49) (hd : d < 2) (hk : k + ((fre f x (cw d)).reverse.filter (rst (f x))).length ≤ 588) : fX1_listBackward f (nI k) mf (nI x) (nI d) = some (ap mf k (cds x ((fre f x (cw d)).reverse.filter (rst (f x)))), nI (k + ((fre f x (cw d)).reverse.filter (rst (f x))).length)) := by
  have hlen := fre_len (b := f) hx (cw_lt d)
  unfold fX1_listBackward
  rw [f_at hx, Option.bind_some, f_beside x hx d (by omega), Option.bind_some]
  have h := ray_len x hx (cw d) (cw_lt d)
  rw [← ray_head x hx (cw d) (cw_lt d)]
  have h1 := bk_in (f := f) (mf := mf) (p := f x) (cnt := nI k) (x := x) (d := d) (by omega) (ray x (cw d)) (Way_ray hx (cw_lt d)) x 0 1 (by omega) 64 (by omega)
  refine Eq.trans h1 ?_
  rw [Nat.zero_add]
  have hb : bkB d (fre f x (cw d)).reverse = true := by
    rw [fre_take]
    exact bk_ok x hx d hd _ (by omega)
  have hv : ∀ t r, (fre f x (cw d)).reverse = t :: r → nI ((fre f x (cw d)).getLastD x) = nI t := fun t r e => by
    have : fre f x (cw d) = r.reverse ++ [t] := by
      rw [← List.reverse_reverse (fre f x (cw d)), e, List.reverse_cons]
    rw [this]
    simp
  have h2 := bk_out (p := f x) hx (by omega : d < 4) (fre f x (cw d)).reverse _ hv (by rw [List.length_reverse]; exact hlen) hb mf k hk 64 (by rw [List.length_reverse]; omega)
  rw [List.length_reverse] at h2
  exact h2
theorem mlF_len {b : Nat → Int32} {d : Int32} (hd : isD d) : ∀ n x, x + n ≤ 49 → sumN (fun s => if sd (b s) = d then goN b s else 0) x + (mlF b d n x).length = sumN (fun s => if sd (b s) = d then goN b s else 0) (x + n)
  | 0, x, _ => rfl
  | n + 1, x, hn => by
    have ih := mlF_len (b := b) hd n (x + 1) (by omega)
    unfold mlF
    have hs : sumN (fun s => if sd (b s) = d then goN b s else 0) (x + 1) = sumN (fun s => if sd (b s) = d then goN b s else 0) x + (if sd (b x) = d then goN b x else 0) := rfl
    rw [List.length_append]
    have e : (if sd (b x) = d then (tlF b x 49 0).map (fun y => 49 * x + y) else []).length = (if sd (b x) = d then goN b x else 0) := by
      by_cases h : sd (b x) = d
      · rw [if_pos h, if_pos h, List.length_map]
        have h0 : b x ≠ 0 := fun e => by
          rw [e] at h
          rcases hd with hd | hd <;> rw [hd] at h <;> exact absurd h (by decide)
        rw [tl_TL (by omega) h0, TL_len h0]
      · rw [if_neg h, if_neg h]
        rfl
    rw [e, show x + (n + 1) = x + 1 + n by omega, ← ih, hs]
    omega
theorem LMv_len {b : Nat → Int32} {d : Int32} (hd : isD d) : (LMv b d).length = mcN b d := by
  have := mlF_len (b := b) hd 49 0 (by omega)
  show (mlF b d 49 0).length = sumN _ 49
  rw [← this]
  exact (Nat.zero_add _).symm
theorem f_listMoves {f : Nat → Int32} (mf : Nat → Int32) {d : Int32} (hd : isD d) : fX1_listMoves f mf d = some (ap mf 0 (LMv f d), nI (LMv f d).length) := by
  have hlen := LMv_len (b := f) hd
  have hle := mcN_le f d
  have key : ∀ (n x : Nat), x + n = 49 → ∀ (mf : Nat → Int32) (k : Nat), k + (mlF f d n x).length ≤ 588 → Runs (fun (zf : Int32 × (Nat → Int32) × Int32 → Option ((Nat → Int32) × Int32)) z => fX1_listMoves_L6_B f d (fun v3 wm wc => zf (v3, wm, wc)) z.1 z.2.1 z.2.2) (n + 1) (nI x, mf, nI k) (some (ap mf k (mlF f d n x), nI (k + (mlF f d n x).length))) := by
    intro n
    induction n with
    | zero =>
      intro x hx mf k hk
      have : x = 49 := by omega
      subst this
      exact Runs.stop (fun self => rfl)
    | succ n ih =>
      intro x hx mf k hk
      by_cases h : sd (f x) = d
      · have h0 : f x ≠ 0 := fun e => by
          rw [e] at h
          rcases hd with hd | hd <;> rw [hd] at h <;> exact absurd h (by decide)
        have e1 : mlF f d (n + 1) x = cds x (TL f x) ++ mlF f d n (x + 1) := by
          show (if sd (f x) = d then (tlF f x 49 0).map (fun y => 49 * x + y) else []) ++ mlF f d n (x + 1) = _
          rw [if_pos h, tl_TL (by omega) h0]
          rfl
        have e2 : cds x (TL f x) = cds x ((fre f x 0).reverse.filter (rst (f x))) ++ (cds x ((fre f x 3).reverse.filter (rst (f x))) ++ (cds x ((fre f x 1).filter (rst (f x))) ++ cds x ((fre f x 2).filter (rst (f x))))) := by
          unfold TL
          rw [cds_app, cds_app, cds_app, List.append_assoc]
        rw [e1, List.length_append] at hk
        have e2l := congrArg List.length e2
        simp only [List.length_append, cds_len] at e2l hk
        refine Runs.step (z' := (nI (x + 1), ap mf k (cds x (TL f x)), nI (k + (cds x (TL f x)).length))) (fun self => ?_) ?_
        · show fX1_listMoves_L6_B f d _ (nI x) mf (nI k) = _
          unfold fX1_listMoves_L6_B
          rw [if_neg (nle (c := 49) (by omega) (by decide)), inB_t (by omega) (by decide), grd_t, nI_clamp (by omega), f_side8, Option.bind_some, if_pos h]
          have c0 := f_listBackward (f := f) (mf := mf) (x := x) (d := 0) (k := k) (by omega) (by decide) (show k + ((fre f x 0).reverse.filter (rst (f x))).length ≤ 588 by omega)
          have c0 : fX1_listBackward f (nI k) mf (nI x) 0 = some (ap mf k (cds x ((fre f x 0).reverse.filter (rst (f x)))), nI (k + ((fre f x 0).reverse.filter (rst (f x))).length)) := c0
          rw [c0, Option.bind_some]
          have c1 := f_listBackward (f := f) (mf := ap mf k (cds x ((fre f x 0).reverse.filter (rst (f x))))) (x := x) (d := 1) (k := k + ((fre f x 0).reverse.filter (rst (f x))).length) (by omega) (by decide) (show k + ((fre f x 0).reverse.filter (rst (f x))).length + ((fre f x 3).reverse.filter (rst (f x))).length ≤ 588 by omega)
          simp only
          refine Eq.trans (congrArg (fun z => Option.bind z _) c1) ?_
          rw [Option.bind_some]
          have c2 := f_listForward (f := f) (mf := ap (ap mf k (cds x ((fre f x 0).reverse.filter (rst (f x))))) (k + ((fre f x 0).reverse.filter (rst (f x))).length) (cds x ((fre f x 3).reverse.filter (rst (f x))))) (x := x) (d := 2) (k := k + ((fre f x 0).reverse.filter (rst (f x))).length + ((fre f x 3).reverse.filter (rst (f x))).length) (by omega) (by decide) (show _ + ((fre f x 1).filter (rst (f x))).length ≤ 588 by omega)
          refine Eq.trans (congrArg (fun z => Option.bind z _) c2) ?_
          rw [Option.bind_some]
          have c3 := f_listForward (f := f) (mf := ap (ap (ap mf k (cds x ((fre f x 0).reverse.filter (rst (f x))))) (k + ((fre f x 0).reverse.filter (rst (f x))).length) (cds x ((fre f x 3).reverse.filter (rst (f x))))) (k + ((fre f x 0).reverse.filter (rst (f x))).length + ((fre f x 3).reverse.filter (rst (f x))).length) (cds x ((fre f x 1).filter (rst (f x))))) (x := x) (d := 3) (k := k + ((fre f x 0).reverse.filter (rst (f x))).length + ((fre f x 3).reverse.filter (rst (f x))).length + ((fre f x 1).filter (rst (f x))).length) (by omega) (by decide) (show _ + ((fre f x 2).filter (rst (f x))).length ≤ 588 by omega)
          refine Eq.trans (congrArg (fun z => Option.bind z _) c3) ?_
          rw [Option.bind_some, nI_1, e2, ap_append, ap_append, ap_append]
          simp only [cds_len, List.length_append, ← Nat.add_assoc]
          rfl
        · have := ih (x + 1) (by omega) (ap mf k (cds x (TL f x))) (k + (cds x (TL f x)).length) (by rw [cds_len]; omega)
          rw [e1, ap_append, List.length_append, ← Nat.add_assoc]
          exact this
      · have e1 : mlF f d (n + 1) x = mlF f d n (x + 1) := by
          show (if sd (f x) = d then (tlF f x 49 0).map (fun y => 49 * x + y) else []) ++ mlF f d n (x + 1) = _
          rw [if_neg h]
          rfl
        rw [e1] at hk ⊢
        refine Runs.step (z' := (nI (x + 1), mf, nI k)) (fun self => ?_) (ih (x + 1) (by omega) mf k hk)
        show fX1_listMoves_L6_B f d _ (nI x) mf (nI k) = _
        unfold fX1_listMoves_L6_B
        rw [if_neg (nle (c := 49) (by omega) (by decide)), inB_t (by omega) (by decide), grd_t, nI_clamp (by omega), f_side8, Option.bind_some, if_neg h, nI_1]
  have := key 49 0 rfl mf 0 (by show 0 + (LMv f d).length ≤ 588; omega) 64 (by omega)
  rw [Nat.zero_add] at this
  exact this

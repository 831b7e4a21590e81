/-! ===== pure part N: the moves counted by the squares to which they go ===== -/
def hitR (b : Nat → Int32) (d : Int32) (y : Nat) (x : Nat) : Bool := decide (sd (b x) = d) && rst (b x) y
def hitL (b : Nat → Int32) (d : Int32) (y : Nat) (l : List Nat) : Nat := (((l.dropWhile (fun t => decide (b t = 0))).take 1).filter (hitR b d y)).length
def hitN (b : Nat → Int32) (d : Int32) (y w : Nat) : Nat := hitL b d y (ray y w)
theorem filt2 (F R P : Nat → Bool) (hR : ∀ t, R t = true → F t = false) : ∀ (l : List Nat) (ok : Bool), (∀ i (h : i < l.length), P l[i] = (ok && (l.take i).all F && R l[i])) → l.filter P = if ok then ((l.dropWhile F).take 1).filter R else []
  | [], ok, _ => by cases ok <;> rfl
  | t :: l, ok, h => by
    have h0 := h 0 (by simp)
    have h1 := filt2 F R P hR l (ok && F t) (fun i hi => by
      have := h (i + 1) (by simpa using hi)
      simpa [Bool.and_assoc] using this)
    have h0 : P t = (ok && R t) := by simpa using h0
    rw [List.filter_cons, h1, h0, List.dropWhile_cons]
    have h2 := hR t
    cases ok <;> cases hf : F t <;> cases hr : R t <;> simp [hr, hf] at h2 ⊢
theorem ord_ray2 : ∀ y, y < 49 → (List.range' 0 49).filter (fun x => (wayOf x y).isSome) = ((ray y 0).reverse ++ (ray y 3).reverse) ++ (ray y 1 ++ ray y 2) := by decide +kernel
theorem seg_ray2 : ∀ y, y < 49 → ∀ w, w < 4 → ∀ i (h : i < (ray y w).length), (wayOf (ray y w)[i] y).isSome = true ∧ segOf (ray y w)[i] y = ((ray y w).take i).reverse ++ [y] := by decide +kernel
theorem sum_filter (P : Nat → Bool) : ∀ n, sumN (fun i => if P i then 1 else 0) n = ((List.range' 0 n).filter P).length
  | 0 => rfl
  | n + 1 => by
    show sumN _ n + _ = _
    rw [sum_filter P n, List.range'_concat, List.filter_append, List.length_append]
    simp only [Nat.zero_add, Nat.one_mul, List.filter_cons, List.filter_nil]
    split <;> rfl
theorem sumN_swap (g : Nat → Nat → Nat) : ∀ n m, sumN (fun i => sumN (fun j => g i j) m) n = sumN (fun j => sumN (fun i => g i j) n) m
  | 0, m => by
    show 0 = sumN (fun j => 0) m
    induction m with
    | zero => rfl
    | succ m ih => exact ih
  | n + 1, m => by
    show sumN (fun i => sumN (fun j => g i j) m) n + sumN (fun j => g n j) m = sumN (fun j => sumN (fun i => g i j) n + g n j) m
    rw [sumN_swap g n m, sumN_add]
theorem goN_sum {b : Nat → Int32} {x : Nat} (hx : x < 49) (h0 : b x ≠ 0) : goN b x = sumN (fun y => if reason b x y = 0 then 1 else 0) 49 := by
  rw [← TL_len h0, ← tl_TL hx h0, tlF_eq]
  have := sum_filter (fun y => decide (reason b x y = 0)) 49
  simp only [decide_eq_true_eq] at this
  exact this.symm
theorem all_rev {F : Nat → Bool} (l : List Nat) (y : Nat) (hy : F y = true) : (l.reverse ++ [y]).all F = l.all F := by
  rw [List.all_append, List.all_reverse]
  simp [hy]
theorem come_sum {b : Nat → Int32} {d : Int32} (hd : isD d) {y : Nat} (hy : y < 49) : sumN (fun x => if sd (b x) = d ∧ reason b x y = 0 then 1 else 0) 49 = if b y = 0 then hitN b d y 0 + hitN b d y 1 + hitN b d y 2 + hitN b d y 3 else 0 := by
  by_cases h0 : b y = 0
  · rw [if_pos h0]
    have e0 := sum_filter (fun x => decide (sd (b x) = d ∧ reason b x y = 0)) 49
    simp only [decide_eq_true_eq] at e0
    rw [e0]
    have e1 : (List.range' 0 49).filter (fun x => decide (sd (b x) = d ∧ reason b x y = 0)) = ((List.range' 0 49).filter (fun x => (wayOf x y).isSome)).filter (fun x => decide (sd (b x) = d ∧ reason b x y = 0)) := by
      rw [List.filter_filter]
      refine List.filter_congr (fun x _ => ?_)
      by_cases e : reason b x y = 0
      · simp [e, reason_al e]
      · simp [e]
    have hR : ∀ t, hitR b d y t = true → decide (b t = 0) = false := fun t h => by
      unfold hitR at h
      have h1 := of_decide_eq_true ((Bool.and_eq_true _ _ ▸ h : decide (sd (b t) = d) = true ∧ rst (b t) y = true)).1
      refine decide_eq_false (fun e => ?_)
      rw [e] at h1
      rcases hd with hd | hd <;> rw [hd] at h1 <;> exact absurd h1 (by decide)
    have key : ∀ w, w < 4 → ((ray y w).filter (fun x => decide (sd (b x) = d ∧ reason b x y = 0))).length = hitN b d y w := fun w hw => by
      have := filt2 (fun t => decide (b t = 0)) (hitR b d y) (fun x => decide (sd (b x) = d ∧ reason b x y = 0)) hR (ray y w) true (fun i hi => by
        obtain ⟨h1, h2⟩ := seg_ray2 y hy w hw i hi
        obtain ⟨v, hv⟩ := Option.isSome_iff_exists.mp h1
        generalize hx : (ray y w)[i] = x at h1 h2 hv
        show decide (sd (b x) = d ∧ reason b x y = 0) = (true && ((ray y w).take i).all _ && hitR b d y x)
        rw [Bool.true_and]
        unfold hitR
        by_cases e : sd (b x) = d
        · have hb : b x ≠ 0 := fun e2 => by
            rw [e2] at e
            rcases hd with hd | hd <;> rw [hd] at e <;> exact absurd e (by decide)
          have h3 := reason_w hb hv
          rw [h2, all_rev _ _ (decide_eq_true h0)] at h3
          simp only [e, true_and, h3, decide_true, Bool.true_and]
        · simp [e])
      rw [this]
      rfl
    rw [e1, ord_ray2 y hy, List.filter_append, List.filter_append, List.filter_append, List.filter_reverse, List.filter_reverse]
    simp only [List.length_append, List.length_reverse, key 0 (by decide), key 1 (by decide), key 2 (by decide), key 3 (by decide)]
    omega
  · rw [if_neg h0]
    rw [sumN_zero]
    intro x hx
    rw [if_neg]
    intro h
    exact h0 (reason_MV hx hy h.2).2.2.2.2
theorem arr_sum {b : Nat → Int32} {d : Int32} (hd : isD d) : sumN (fun y => if b y = 0 then hitN b d y 0 + hitN b d y 1 + hitN b d y 2 + hitN b d y 3 else 0) 49 = mcN b d := by
  have e1 : sumN (fun y => if b y = 0 then hitN b d y 0 + hitN b d y 1 + hitN b d y 2 + hitN b d y 3 else 0) 49 = sumN (fun y => sumN (fun x => if sd (b x) = d ∧ reason b x y = 0 then 1 else 0) 49) 49 := sumN_congr (fun y hy => (come_sum hd hy).symm)
  rw [e1, sumN_swap]
  refine sumN_congr (fun x hx => ?_)
  by_cases e : sd (b x) = d
  · have h0 : b x ≠ 0 := fun e2 => by
      rw [e2] at e
      rcases hd with hd | hd <;> rw [hd] at e <;> exact absurd e (by decide)
    rw [if_pos e, goN_sum hx h0]
    simp only [e, true_and]
  · rw [if_neg e, sumN_zero]
    intro y _
    rw [if_neg (fun h => e h.1)]
theorem hitL_f {b : Nat → Int32} {d : Int32} {y t : Nat} {r : List Nat} (h : b t = 0) : hitL b d y (t :: r) = hitL b d y r := by
  unfold hitL
  rw [List.dropWhile_cons_of_pos (by simp [h])]
theorem hitL_n {b : Nat → Int32} {d : Int32} {y t : Nat} {r : List Nat} (h : b t ≠ 0) : hitL b d y (t :: r) = if hitR b d y t then 1 else 0 := by
  unfold hitL
  rw [List.dropWhile_cons_of_neg (by simp [h])]
  show ((t :: r).take 1 |>.filter _).length = _
  rw [List.take_succ_cons, List.take_zero, List.filter_cons]
  split <;> rfl
theorem hitL_le (b : Nat → Int32) (d : Int32) (y : Nat) (l : List Nat) : hitL b d y l ≤ 1 := Nat.le_trans (List.length_filter_le _ _) (by rw [List.length_take]; omega)
theorem cc_in {f : Nat → Int32} {d : Int32} (hd : isD d) {y k : Nat} (hy : y < 49) (hk : k < 4) {self3 : Int32 → Int32 → Option Int32} {acc : Nat} : ∀ (rs : List Nat), Way (cw k) rs → ∀ (st : Nat), st + rs.length ≤ 7 → Runs (fun (zf : Int32 × Int32 → Option Int32) z => fX1_countComing_L22_B f d (nI y) self3 (nI acc) (nI k) (fun v5 v6 => zf (v5, v6)) z.1 z.2) (rs.length + 1) (enc rs.head?, nI st) (self3 (nI (acc + hitL f d y rs)) (nI (k + 1)))
  | [], _, st, hst => by
    refine Runs.stop (fun self => ?_)
    show fX1_countComing_L22_B f d (nI y) self3 (nI acc) (nI k) _ (-1) (nI st) = _
    have hn : ¬ sd 0 = d := by rcases hd with h | h <;> rw [h] <;> decide
    have e : (fX1_at f (-1)).bind (fun (r_10 : Int32) => (fX8_sideOf r_10).bind (fun (r_11 : Int32) => if r_11 = d then ((fX8_mayStop r_10 (nI y)).bind (fun (r_13 : Int32) => if r_13 = 0 then (self3 (nI acc) (nI k + 1)) else (self3 (nI acc + 1) (nI k + 1)))) else (self3 (nI acc) (nI k + 1)))) = self3 (nI acc) (nI (k + 1)) := by
      rw [f_at_m1, Option.bind_some, f_side8, Option.bind_some, if_neg hn, nI_1]
    unfold fX1_countComing_L22_B
    simp only [jn_eq]
    split
    · exact e
    · rw [if_pos (by decide)]
      exact e
  | t :: r, hW, st, hst => by
    have ht : t < 49 := hW.1
    have hlen : st + (r.length + 1) ≤ 7 := hst
    have hnx := nx_way (cw_lt k) hW
    have hst7 : ¬ (7 : Int32) ≤ nI st := nle (c := 7) (by omega) (by decide)
    by_cases h : f t = 0
    · rw [hitL_f h]
      refine Runs.step (z' := (enc r.head?, nI (st + 1))) (fun self => ?_) (cc_in hd hy hk r (Way_tail (cw_lt k) hW) (st + 1) (by omega))
      show fX1_countComing_L22_B f d (nI y) self3 (nI acc) (nI k) _ (nI t) (nI st) = _
      unfold fX1_countComing_L22_B
      rw [jn_eq, if_neg hst7, if_neg (nlt0 (by omega)), f_at ht, Option.bind_some, if_pos h, f_beside t ht k hk, Option.bind_some, hnx, nI_1]
    · rw [hitL_n h]
      refine Runs.more (k := 1) (Runs.stop (fun self => ?_)) (by omega)
      show fX1_countComing_L22_B f d (nI y) self3 (nI acc) (nI k) _ (nI t) (nI st) = _
      unfold fX1_countComing_L22_B hitR
      rw [jn_eq, if_neg hst7, if_neg (nlt0 (by omega)), f_at ht, Option.bind_some, if_neg h, Option.bind_some, f_side8, Option.bind_some, f_mayStop _ y hy, Option.bind_some, ite_b01]
      by_cases e : sd (f t) = d
      · rw [if_pos e]
        cases rst (f t) y
        · simp [nI_1]
        · simp [e, nI_1]
      · rw [if_neg e]
        simp [e, nI_1]
theorem f_countComing {f : Nat → Int32} {d : Int32} (hd : isD d) {y : Nat} (hy : y < 49) : fX1_countComing f d (nI y) = some (nI (hitN f d y 0 + hitN f d y 1 + hitN f d y 2 + hitN f d y 3)) := by
  have := lp_for (n := 64) (B := fun (zf : Int32 × Int32 → Option Int32) z => fX1_countComing_L5_B f d (nI y) (fun v3 v4 => zf (v3, v4)) z.1 z.2) (fun i => (nI (sumN (fun k => hitN f d y (cw k)) i), nI i)) 4 (res := some (nI (sumN (fun k => hitN f d y (cw k)) 4))) (fun i hi self => ?_) (fun self => rfl) (by omega)
  · refine Eq.trans this ?_
    rw [sumN_4]
    show some (nI (hitN f d y 0 + hitN f d y 3 + hitN f d y 1 + hitN f d y 2)) = _
    congr 2
    omega
  · show fX1_countComing_L5_B f d (nI y) _ (nI _) (nI i) = _
    unfold fX1_countComing_L5_B
    rw [if_neg (nle (c := 4) hi (by decide)), f_beside y hy i hi, Option.bind_some, ← ray_head y hy (cw i) (cw_lt i)]
    have hl := ray_len y hy (cw i) (cw_lt i)
    exact cc_in hd hy hi (ray y (cw i)) (Way_ray hy (cw_lt i)) 1 (by omega) 64 (by omega)
theorem f_countArrivals (f : Nat → Int32) {d : Int32} (hd : isD d) : fX1_countArrivals f d = some (nI (mcN f d)) := by
  rw [← arr_sum hd]
  refine lp_for (B := fun (zf : Int32 × Int32 → Option Int32) z => fX1_countArrivals_L4_B f d (fun v2 v3 => zf (v2, v3)) z.1 z.2) (fun i => (nI (sumN (fun y => if f y = 0 then hitN f d y 0 + hitN f d y 1 + hitN f d y 2 + hitN f d y 3 else 0) i), nI i)) 49 (fun i hi self => ?_) (fun self => rfl) (by omega)
  show fX1_countArrivals_L4_B f d _ (nI _) (nI i) = _
  unfold fX1_countArrivals_L4_B
  rw [if_neg (nle (c := 49) hi (by decide)), inB_t (by omega) (by decide), grd_t, nI_clamp (by omega), f_countComing hd hi, Option.bind_some, nI_1]
  show _ = self (nI (sumN _ i + (if f i = 0 then hitN f d i 0 + hitN f d i 1 + hitN f d i 2 + hitN f d i 3 else 0)), nI (i + 1))
  by_cases h : f i = 0
  · rw [if_pos h, if_pos h, nI_add]
  · rw [if_neg h, if_neg h]
    rfl

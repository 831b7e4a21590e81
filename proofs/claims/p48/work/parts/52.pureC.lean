/-! ===== pure part C: the class's counts of moves; hostile squares ===== -/
theorem nlt0 {i : Nat} (h : i < 2 ^ 31) : ¬ nI i < 0 := nI_pos h
theorem f_at {f : Nat → Int32} {s : Nat} (hs : s < 49) : fX1_at f (nI s) = some (f s) := by
  unfold fX1_at
  rw [if_neg (nlt0 (by omega)), if_pos (show nI s < 49 from nI_lt hs (by decide)), inB_t hs (by decide), grd_t, nI_clamp (by omega)]
theorem f_at_m1 {f : Nat → Int32} : fX1_at f (-1) = some 0 := by
  unfold fX1_at
  rw [if_pos (by decide)]
theorem cf_in {f : Nat → Int32} {p : Int32} {d : Nat} (hd : d < 4) {self5 : Int32 → Int32 → Option Int32} : ∀ (rs : List Nat), Way (cw d) rs → ∀ (acc st : Nat), st + rs.length ≤ 7 → Runs (fun (zf : Int32 × Int32 × Int32 → Option Int32) z => fX1_countFrom_L34_B f p self5 (nI d) (fun v3 v5 v6 => zf (v3, v5, v6)) z.1 z.2.1 z.2.2) (rs.length + 1) (nI acc, enc rs.head?, nI st) (self5 (nI (acc + cnt p (rs.takeWhile (fun t => decide (f t = 0))))) (nI d + 1))
  | [], _, acc, st, hst => by
    refine Runs.stop (fun self => ?_)
    show fX1_countFrom_L34_B f p self5 (nI d) _ (nI acc) (-1) (nI st) = _
    unfold fX1_countFrom_L34_B
    split
    · rfl
    · rw [if_pos (by decide)]
      rfl
  | t :: r, hW, acc, st, hst => by
    have ht : t < 49 := hW.1
    have hlen : st + (r.length + 1) ≤ 7 := hst
    have hnx := nx_way (cw_lt d) hW
    have hst7 : ¬ (7 : Int32) ≤ nI st := nle (c := 7) (by omega) (by decide)
    by_cases h : f t = 0
    · refine Runs.step (z' := (nI (acc + (if rst p t then 1 else 0)), enc r.head?, nI (st + 1))) (fun self => ?_) ?_
      · show fX1_countFrom_L34_B f p self5 (nI d) _ (nI acc) (nI t) (nI st) = _
        unfold fX1_countFrom_L34_B
        rw [if_neg hst7, if_neg (nlt0 (by omega)), f_at ht, Option.bind_some, if_pos h, f_mayStop p t ht, Option.bind_some, jn_eq]
        simp only [f_beside t ht d hd, Option.bind_some, ite_b01, hnx]
        split
        · rw [nI_1, nI_1]
        · rw [nI_1]
          rfl
      · have := cf_in (f := f) (p := p) hd (self5 := self5) r (Way_tail (cw_lt d) hW) (acc + (if rst p t then 1 else 0)) (st + 1) (by omega)
        rw [List.takeWhile_cons_of_pos (by simp [h]), cnt_cons, ← Nat.add_assoc]
        exact this
    · refine Runs.more (k := 1) (Runs.stop (fun self => ?_)) (by omega)
      show fX1_countFrom_L34_B f p self5 (nI d) _ (nI acc) (nI t) (nI st) = _
      unfold fX1_countFrom_L34_B
      rw [if_neg hst7, if_neg (nlt0 (by omega)), f_at ht, Option.bind_some, if_neg h, List.takeWhile_cons_of_neg (by simp [h])]
      rfl
theorem f_countFrom (f : Nat → Int32) (a : Nat) (ha : a < 49) : fX1_countFrom f (nI a) = some (nI (goN f a)) := by
  unfold fX1_countFrom
  rw [f_at ha, Option.bind_some]
  by_cases h0 : f a = 0
  · rw [if_pos h0]
    unfold goN
    rw [if_pos h0]
    rfl
  · rw [if_neg h0]
    unfold fX1_countFrom_L17
    refine lp_for (B := fun (zf : Int32 × Int32 → Option Int32) z => fX1_countFrom_L17_B f (nI a) (f a) (fun v3 v4 => zf (v3, v4)) z.1 z.2) (fun i => (nI (sumN (fun d => gl f a (cw d)) i), nI i)) 4 (fun i hi self => ?_) (fun self => ?_) (by omega)
    · show fX1_countFrom_L17_B f (nI a) (f a) _ (nI _) (nI i) = _
      unfold fX1_countFrom_L17_B
      rw [if_neg (nle (c := 4) hi (by decide)), f_beside a ha i hi, Option.bind_some]
      have h := cf_in (f := f) (p := f a) hi (self5 := fun v2 v3 => self (v2, v3)) (ray a (cw i)) (Way_ray ha (cw_lt i)) (sumN (fun d => gl f a (cw d)) i) 1 (by have := ray_len a ha (cw i) (cw_lt i); omega) 64 (by have := ray_len a ha (cw i) (cw_lt i); omega)
      rw [ray_head a ha (cw i) (cw_lt i)] at h
      unfold fX1_countFrom_L34
      show lp _ 64 (nI _, enc (nx a (cw i)), nI 1) = _
      rw [h, nI_1]
      rfl
    · show fX1_countFrom_L17_B f (nI a) (f a) _ (nI _) (nI 4) = _
      unfold fX1_countFrom_L17_B
      rw [if_pos (by decide), sumN_4]
      unfold goN
      rw [if_neg h0]
      show some (nI (gl f a 0 + gl f a 3 + gl f a 1 + gl f a 2)) = _
      congr 2
      omega
theorem f_countMoves (f : Nat → Int32) (d : Int32) : fX1_countMoves f d = some (nI (mcN f d)) := by
  unfold fX1_countMoves fX1_countMoves_L4
  refine lp_for (B := fun (zf : Int32 × Int32 → Option Int32) z => fX1_countMoves_L4_B f d (fun v2 v3 => zf (v2, v3)) z.1 z.2) (fun i => (nI (sumN (fun s => if sd (f s) = d then goN f s else 0) i), nI i)) 49 (fun i hi self => ?_) (fun self => ?_) (by omega)
  · show fX1_countMoves_L4_B f d _ (nI _) (nI i) = _
    unfold fX1_countMoves_L4_B
    rw [if_neg (nle (c := 49) hi (by decide)), inB_t hi (by decide), grd_t, nI_clamp (by omega), f_side8, Option.bind_some, f_countFrom f i hi]
    show _ = self (nI (sumN _ i + (if sd (f i) = d then goN f i else 0)), nI (i + 1))
    split
    · rw [Option.bind_some, nI_add, nI_1]
    · rw [nI_1]
      rfl
  · show fX1_countMoves_L4_B f d _ (nI _) (nI 49) = _
    unfold fX1_countMoves_L4_B
    rw [if_pos (by decide)]
    rfl
theorem f_hasMove (f : Nat → Int32) (d : Int32) : fX1_hasMove f d = some (b01 (decide (mcN f d ≠ 0))) := by
  unfold fX1_hasMove fX1_hasMove_L2
  -- from square i on, where none ahead has a move
  have K : ∀ k i, i + k = 49 → sumN (fun s => if sd (f s) = d then goN f s else 0) i = 0 → Runs (fun (zf : Int32 → Option Int32) z => fX1_hasMove_L2_B f d zf z) (k + 1) (nI i) (some (b01 (decide (mcN f d ≠ 0)))) := by
    intro k
    induction k with
    | zero =>
      intro i hi hz
      have : i = 49 := by omega
      subst this
      refine Runs.stop (fun self => ?_)
      unfold fX1_hasMove_L2_B
      rw [if_pos (by decide)]
      unfold mcN
      rw [hz]
      rfl
    | succ k ih =>
      intro i hi hz
      have hB : ∀ self : Int32 → Option Int32, fX1_hasMove_L2_B f d self (nI i) = if sd (f i) = d then (if goN f i = 0 then self (nI (i + 1)) else some 1) else self (nI (i + 1)) := by
        intro self
        unfold fX1_hasMove_L2_B
        rw [if_neg (nle (c := 49) (by omega) (by decide)), inB_t (by omega) (by decide), grd_t, nI_clamp (by omega), f_side8, Option.bind_some, f_countFrom f i (by omega), Option.bind_some, nI_1]
        split
        · by_cases hg : goN f i = 0
          · rw [if_pos hg, hg]
            rfl
          · have := goN_le (b := f) (s := i) (by omega)
            rw [if_neg hg, if_neg (nI_nle (by omega) (by omega))]
        · rfl
      by_cases hn : sd (f i) = d ∧ goN f i ≠ 0
      · refine Runs.more (k := 1) (Runs.stop (fun self => ?_)) (by omega)
        rw [hB, if_pos hn.1, if_neg hn.2]
        have : mcN f d ≠ 0 := by
          intro h
          unfold mcN at h
          rw [sumN_zero] at h
          have h9 := h i (by omega)
          simp only [if_pos hn.1] at h9
          exact hn.2 h9
        rw [decide_eq_true this]
        rfl
      · refine Runs.step (z' := nI (i + 1)) (fun self => ?_) (ih (i + 1) (by omega) ?_)
        · rw [hB]
          split
          · rename_i h1
            rw [if_pos (Classical.byContradiction fun h2 => hn ⟨h1, h2⟩)]
          · rfl
        · show sumN _ i + (if sd (f i) = d then goN f i else 0) = 0
          rw [hz]
          split
          · rename_i h1
            have := Classical.byContradiction fun h2 => hn ⟨h1, h2⟩
            omega
          · rfl
  exact K 49 0 rfl rfl 64 (by omega)
/-! how many pieces -/
def cpN (b : Nat → Int32) (d : Int32) : Nat := sumN (fun s => if sd (b s) = d then 1 else 0) 49
def piN (b : Nat → Int32) : Nat := sumN (fun s => if b s = 0 then 0 else 1) 49
theorem f_countPieces (f : Nat → Int32) (d : Int32) : fX1_countPieces f d = some (nI (cpN f d)) := by
  unfold fX1_countPieces fX1_countPieces_L4
  refine lp_for (B := fun (zf : Int32 × Int32 → Option Int32) z => fX1_countPieces_L4_B f d (fun v2 v3 => zf (v2, v3)) z.1 z.2) (fun i => (nI (sumN (fun s => if sd (f s) = d then 1 else 0) i), nI i)) 49 (fun i hi self => ?_) (fun self => ?_) (by omega)
  · show fX1_countPieces_L4_B f d _ (nI _) (nI i) = _
    unfold fX1_countPieces_L4_B
    rw [if_neg (nle (c := 49) hi (by decide)), inB_t hi (by decide), grd_t, nI_clamp (by omega), f_side8, Option.bind_some]
    show _ = self (nI (sumN _ i + (if sd (f i) = d then 1 else 0)), nI (i + 1))
    split
    · rw [nI_1, nI_1]
    · rw [nI_1]
      rfl
  · show fX1_countPieces_L4_B f d _ (nI _) (nI 49) = _
    unfold fX1_countPieces_L4_B
    rw [if_pos (by decide)]
    rfl
theorem sumN_add (g h : Nat → Nat) : ∀ n, sumN g n + sumN h n = sumN (fun i => g i + h i) n
  | 0 => rfl
  | n + 1 => by
    show sumN g n + g n + (sumN h n + h n) = sumN (fun i => g i + h i) n + (g n + h n)
    rw [← sumN_add g h n]
    omega
theorem cp_pi (b : Nat → Int32) : cpN b 0 + cpN b 1 = piN b := by
  unfold cpN piN
  rw [sumN_add]
  refine sumN_congr (fun i _ => ?_)
  show (if sd (b i) = 0 then 1 else 0) + (if sd (b i) = 1 then 1 else 0) = if b i = 0 then 0 else 1
  unfold sd
  by_cases h0 : b i = 0
  · simp [h0]
  · by_cases h1 : b i = 1
    · simp [h1]
    · simp [h0, h1]
theorem f_countAll (f : Nat → Int32) : fX1_countAll f = some (nI (piN f)) := by
  unfold fX1_countAll
  rw [f_countPieces, Option.bind_some, f_countPieces, Option.bind_some, nI_add, cp_pi]

/-! ===== pure part B: moves of a piece ===== -/
theorem inB_t {i n : Nat} (h : i < n) (hn : n < 2 ^ 31) : inB (nI i) n = true := by
  rw [inB_nI (by omega)]
  exact decide_eq_true h
theorem lit_le {c i : Nat} (hc : c < 2 ^ 31) (hi : i < 2 ^ 31) : ((OfNat.ofNat c : Int32) ≤ nI i) = (c ≤ i) := propext (nI_leI hc hi)
theorem le_lit {c i : Nat} (hc : c < 2 ^ 31) (hi : i < 2 ^ 31) : (nI i ≤ (OfNat.ofNat c : Int32)) = (i ≤ c) := propext (nI_leI hi hc)
theorem lit_lt {c i : Nat} (hc : c < 2 ^ 31) (hi : i < 2 ^ 31) : ((OfNat.ofNat c : Int32) < nI i) = (c < i) := propext (nI_ltI hc hi)
theorem lt_lit {c i : Nat} (hc : c < 2 ^ 31) (hi : i < 2 ^ 31) : (nI i < (OfNat.ofNat c : Int32)) = (i < c) := propext (nI_ltI hi hc)
theorem eq_lit {c i : Nat} (hc : c < 2 ^ 31) (hi : i < 2 ^ 31) : (nI i = (OfNat.ofNat c : Int32)) = (i = c) := propext (nI_eq hi hc)
theorem nI_inj {a b : Nat} (ha : a < 2 ^ 31) (hb : b < 2 ^ 31) : (nI a = nI b) = (a = b) := propext (nI_eq ha hb)
theorem nle {c i : Nat} (h : i < c) (hc : c < 2 ^ 31) : ¬ (OfNat.ofNat c : Int32) ≤ nI i := nI_ge h hc
theorem ple {c i : Nat} (h : c ≤ i) (hc : i < 2 ^ 31) : (OfNat.ofNat c : Int32) ≤ nI i := nI_le h hc
theorem sumN_4 (g : Nat → Nat) : sumN g 4 = g 0 + g 1 + g 2 + g 3 := by
  show 0 + g 0 + g 1 + g 2 + g 3 = _
  rw [Nat.zero_add]
/-- the squares to which a way is free -/
def fre (b : Nat → Int32) (s w : Nat) : List Nat := (ray s w).takeWhile (fun t => decide (b t = 0))
def cnt (p : Int32) (l : List Nat) : Nat := (l.filter (rst p)).length
def gl (b : Nat → Int32) (s w : Nat) : Nat := cnt (b s) (fre b s w)
/-- to how many squares the piece on a square could be moved -/
def goN (b : Nat → Int32) (s : Nat) : Nat := if b s = 0 then 0 else gl b s 0 + gl b s 1 + gl b s 2 + gl b s 3
def mcN (b : Nat → Int32) (d : Int32) : Nat := sumN (fun s => if sd (b s) = d then goN b s else 0) 49
theorem cnt_cons (p : Int32) (t : Nat) (l : List Nat) : cnt p (t :: l) = (if rst p t then 1 else 0) + cnt p l := by
  unfold cnt
  rw [List.filter_cons]
  split
  · simp; omega
  · simp
theorem cnt_le (p : Int32) (l : List Nat) : cnt p l ≤ l.length := List.length_filter_le _ _
theorem fre_len {b : Nat → Int32} {s w : Nat} (hs : s < 49) (hw : w < 4) : (fre b s w).length ≤ 6 := Nat.le_trans (List.takeWhile_sublist _).length_le (ray_len s hs w hw)
theorem gl_le {b : Nat → Int32} {s w : Nat} (hs : s < 49) (hw : w < 4) : gl b s w ≤ 6 := Nat.le_trans (cnt_le _ _) (fre_len hs hw)
theorem ray_sum : ∀ s, s < 49 → (ray s 0).length + (ray s 1).length + (ray s 2).length + (ray s 3).length = 12 := by decide +kernel
theorem goN_le {b : Nat → Int32} {s : Nat} (hs : s < 49) : goN b s ≤ 12 := by
  unfold goN
  split
  · omega
  · have h := ray_sum s hs
    have q : ∀ w, gl b s w ≤ (ray s w).length := fun w => Nat.le_trans (cnt_le _ _) (List.takeWhile_sublist _).length_le
    have h0 := q 0
    have h1 := q 1
    have h2 := q 2
    have h3 := q 3
    omega
theorem mcN_le (b : Nat → Int32) (d : Int32) : mcN b d ≤ 588 := by
  have := sumN_le (g := fun s => if sd (b s) = d then goN b s else 0) (c := 12) (n := 49) (fun i hi => by
    show (if sd (b i) = d then goN b i else 0) ≤ 12
    split
    · exact goN_le hi
    · omega)
  exact this
theorem ite_b01 (c : Bool) {β : Type} (x y : β) : (if b01 c = 0 then x else y) = if c then y else x := by cases c <;> rfl
/-! the reference's goals -/
theorem goals_in {row : Nat → Int32} {a w : Nat} (ha : a < 49) (hw : w < 4) {self3 : Int32 → Int32 → Option Int32} : ∀ (rs : List Nat), Way w rs → ∀ acc : Nat, Runs (fun (zf : Int32 × Int32 → Option Int32) z => fX9_goals_L22_B row (nI a) self3 (nI w) (fun v2 v4 => zf (v2, v4)) z.1 z.2) (rs.length + 1) (nI acc, enc rs.head?) (self3 (nI (acc + cnt (row a) (rs.takeWhile (fun t => decide (row t = 0))))) (nI w + 1))
  | [], _, acc => by
    refine Runs.stop (fun self => ?_)
    show fX9_goals_L22_B row (nI a) self3 (nI w) _ (nI acc) (-1) = _
    unfold fX9_goals_L22_B
    rw [if_pos rfl]
    rfl
  | t :: r, hW, acc => by
    have ht : t < 49 := hW.1
    have hnx := nx_way hw hW
    by_cases h : row t = 0
    · refine Runs.step (z' := (nI (acc + (if rst (row a) t then 1 else 0)), enc r.head?)) (fun self => ?_) ?_
      · show fX9_goals_L22_B row (nI a) self3 (nI w) _ (nI acc) (nI t) = _
        unfold fX9_goals_L22_B
        simp (disch := omega) only [nI_m1, if_false, inB_t, grd_t, nI_clamp, h, if_true, f_rests, Option.bind_some, jn_eq, ite_b01, f_next, hnx]
        split
        · rw [nI_1]
        · rw [Int32.add_zero]
          rfl
      · have := goals_in (row := row) ha hw (self3 := self3) r (Way_tail hw hW) (acc + (if rst (row a) t then 1 else 0))
        rw [List.takeWhile_cons_of_pos (by simp [h]), cnt_cons, ← Nat.add_assoc]
        exact this
    · refine Runs.more (k := 1) (Runs.stop (fun self => ?_)) (by omega)
      show fX9_goals_L22_B row (nI a) self3 (nI w) _ (nI acc) (nI t) = _
      unfold fX9_goals_L22_B
      simp (disch := omega) only [nI_m1, if_false, inB_t, grd_t, nI_clamp, h]
      rw [List.takeWhile_cons_of_neg (by simp [h])]
      rfl
theorem f_goals (row : Nat → Int32) (hp : ∀ s, s < 49 → 0 ≤ row s) (a : Nat) (ha : a < 49) : fX9_goals row (nI a) = some (nI (goN row a)) := by
  unfold fX9_goals fX9_goals_L4
  by_cases h0 : row a = 0
  · refine (Runs.stop (B := fun (zf : Int32 × Int32 → Option Int32) z => fX9_goals_L4_B row (nI a) (fun v2 v3 => zf (v2, v3)) z.1 z.2) (z := (0, 0)) (fun self => ?_)) 64 (by omega)
    unfold fX9_goals_L4_B
    simp (disch := omega) only [inB_t, grd_t, nI_clamp, h0]
    rw [if_neg (by decide), if_pos (by decide)]
    unfold goN
    rw [if_pos h0]
    rfl
  · have hpos : ¬ row a ≤ 0 := fun q => h0 (Int32.le_antisymm q (hp a ha))
    refine lp_for (B := fun (zf : Int32 × Int32 → Option Int32) z => fX9_goals_L4_B row (nI a) (fun v2 v3 => zf (v2, v3)) z.1 z.2) (fun i => (nI (sumN (gl row a) i), nI i)) 4 (fun i hi self => ?_) (fun self => ?_) (by omega)
    · show fX9_goals_L4_B row (nI a) _ (nI (sumN (gl row a) i)) (nI i) = _
      unfold fX9_goals_L4_B
      rw [if_neg (nle (c := 4) hi (by decide))]
      simp (disch := omega) only [inB_t, grd_t, nI_clamp, hpos, if_false, f_next, Option.bind_some]
      have h := goals_in (row := row) ha hi (self3 := fun v2 v3 => self (v2, v3)) (ray a i) (Way_ray ha hi) (sumN (gl row a) i) 64 (by have := ray_len a ha i hi; omega)
      rw [ray_head a ha i hi] at h
      unfold fX9_goals_L22
      rw [h, nI_1]
      rfl
    · show fX9_goals_L4_B row (nI a) _ (nI (sumN (gl row a) 4)) (nI 4) = _
      unfold fX9_goals_L4_B
      rw [if_pos (by decide)]
      unfold goN
      rw [if_neg h0]
      rw [sumN_4]
theorem f_moveCount (row : Nat → Int32) (hp : ∀ s, s < 49 → 0 ≤ row s) (d : Int32) : fX9_moveCount row d = some (nI (mcN row d)) := by
  unfold fX9_moveCount fX9_moveCount_L4
  refine lp_for (B := fun (zf : Int32 × Int32 → Option Int32) z => fX9_moveCount_L4_B row d (fun v2 v3 => zf (v2, v3)) z.1 z.2) (fun i => (nI (sumN (fun s => if sd (row s) = d then goN row s else 0) i), nI i)) 49 (fun i hi self => ?_) (fun self => ?_) (by omega)
  · show fX9_moveCount_L4_B row d _ (nI _) (nI i) = _
    unfold fX9_moveCount_L4_B
    rw [if_neg (nle (c := 49) hi (by decide))]
    simp (disch := omega) only [inB_t, grd_t, nI_clamp, f_side9, Option.bind_some, jn_eq, f_goals row hp i hi]
    show _ = self (nI (sumN _ i + (if sd (row i) = d then goN row i else 0)), nI (i + 1))
    split
    · rw [nI_add, nI_1]
    · rw [nI_1, Int32.add_zero]
      rfl
  · show fX9_moveCount_L4_B row d _ (nI _) (nI 49) = _
    unfold fX9_moveCount_L4_B
    rw [if_pos (by decide)]
    rfl

/-! ===== pure part B: moves of a piece ===== -/
theorem inB_t {i n : Nat} (h : i < n) (hn : n < 2 ^ 31) : inB (nI i) n = true := by
  rw [inB_nI (by omega)]
  exact decide_eq_true h
theorem lit_le {c i : Nat} (hc : c < 2 ^ 31) (hi : i < 2 ^ 31) : ((OfNat.ofNat c : Int32) ≤ nI i) = (c ≤ i) := propext (nI_leI hc hi)
theorem le_lit {c i : Nat} (hc : c < 2 ^ 31) (hi : i < 2 ^ 31) : (nI i ≤ (OfNat.ofNat c : Int32)) = (i ≤ c) := propext (nI_leI hi hc)
theorem lit_lt {c i : Nat} (hc : c < 2 ^ 31) (hi : i < 2 ^ 31) : ((OfNat.ofNat c : Int32) < nI i) = (c < i) := propext (nI_ltI hc hi)
theorem lt_lit {c i : Nat} (hc : c < 2 ^ 31) (hi : i < 2 ^ 31) : (nI i < (OfNat.ofNat c : Int32)) = (i < c) := propext (nI_ltI hi hc)
theorem eq_lit {c i : Nat} (hc : c < 2 ^ 31) (hi : i < 2 ^ 31) : (nI i = (OfNat.ofNat c : Int32)) = (i = c) := propext (nI_eq hi hc)
theorem nI_inj {a b : Nat} (ha : a < 2 ^ 31) (hb : b < 2 ^ 31) : (nI a = nI b) = (a = b) := propext (nI_eq ha hb)
theorem nle {c i : Nat} (h : i < c) (hc : c < 2 ^ 31) : ¬ (OfNat.ofNat c : Int32) ≤ nI i := nI_ge h hc
theorem ple {c i : Nat} (h : c ≤ i) (hc : i < 2 ^ 31) : (OfNat.ofNat c : Int32) ≤ nI i := nI_le h hc
theorem sumN_4 (g : Nat → Nat) : sumN g 4 = g 0 + g 1 + g 2 + g 3 := by
  show 0 + g 0 + g 1 + g 2 + g 3 = _
  rw [Nat.zero_add]
/-- the squares to which a way is free -/
def fre (b : Nat → Int32) (s w : Nat) : List Nat := (ray s w).takeWhile (fun t => decide (b t = 0))
def cnt (p : Int32) (l : List Nat) : Nat := (l.filter (rst p)).length
def gl (b : Nat → Int32) (s w : Nat) : Nat := cnt (b s) (fre b s w)
/-- to how many squares the piece on a square could be moved -/
def goN (b : Nat → Int32) (s : Nat) : Nat := if b s = 0 then 0 else gl b s 0 + gl b s 1 + gl b s 2 + gl b s 3
def mcN (b : Nat → Int32) (d : Int32) : Nat := sumN (fun s => if sd (b s) = d then goN b s else 0) 49
theorem cnt_cons (p : Int32) (t : Nat) (l : List Nat) : cnt p (t :: l) = (if rst p t then 1 else 0) + cnt p l := by
  unfold cnt
  rw [List.filter_cons]
  split
  · simp; omega
  · simp
theorem cnt_le (p : Int32) (l : List Nat) : cnt p l ≤ l.length := List.length_filter_le _ _
theorem fre_len {b : Nat → Int32} {s w : Nat} (hs : s < 49) (hw : w < 4) : (fre b s w).length ≤ 6 := Nat.le_trans (List.takeWhile_sublist _).length_le (ray_len s hs w hw)
theorem gl_le {b : Nat → Int32} {s w : Nat} (hs : s < 49) (hw : w < 4) : gl b s w ≤ 6 := Nat.le_trans (cnt_le _ _) (fre_len hs hw)
theorem ray_sum : ∀ s, s < 49 → (ray s 0).length + (ray s 1).length + (ray s 2).length + (ray s 3).length = 12 := by decide +kernel
theorem goN_le {b : Nat → Int32} {s : Nat} (hs : s < 49) : goN b s ≤ 12 := by
  unfold goN
  split
  · omega
  · have h := ray_sum s hs
    have q : ∀ w, gl b s w ≤ (ray s w).length := fun w => Nat.le_trans (cnt_le _ _) (List.takeWhile_sublist _).length_le
    have h0 := q 0
    have h1 := q 1
    have h2 := q 2
    have h3 := q 3
    omega
theorem mcN_le (b : Nat → Int32) (d : Int32) : mcN b d ≤ 588 := by
  have := sumN_le (g := fun s => if sd (b s) = d then goN b s else 0) (c := 12) (n := 49) (fun i hi => by
    show (if sd (b i) = d then goN b i else 0) ≤ 12
    split
    · exact goN_le hi
    · omega)
  exact this
theorem ite_b01 (c : Bool) {β : Type} (x y : β) : (if b01 c = 0 then x else y) = if c then y else x := by cases c <;> rfl
/-! the reference's goals -/
/-! ===== pure part D: hostile squares, the king's four, why a move cannot be ===== -/
/-- pieces are 0 to 3 -/
def PB (b : Nat → Int32) : Prop := ∀ s, s < 49 → b s = 0 ∨ b s = 1 ∨ b s = 2 ∨ b s = 3
theorem PB.pos {b : Nat → Int32} (h : PB b) : ∀ s, s < 49 → 0 ≤ b s := fun s hs => by
  rcases h s hs with e | e | e | e <;> rw [e] <;> decide
def isD (d : Int32) : Prop := d = 0 ∨ d = 1
def host (b : Nat → Int32) (s : Nat) (d : Int32) : Bool := isCo s || (s == 24 && decide (b s = 0)) || (!decide (b s = 0) && !decide (sd (b s) = d))
theorem co_bits : ∀ s, s < 49 → (lg_cmp ((((285873023221825 : Int64).toUInt64 >>> ((nI s).toInt64.toUInt64 &&& Int64.toUInt64 63)).toInt64) &&& 1) 0 = 0) = (isCo s = false) := by
  intro s hs
  have h : ∀ s, s < 49 → decide (lg_cmp ((((285873023221825 : Int64).toUInt64 >>> ((nI s).toInt64.toUInt64 &&& Int64.toUInt64 63)).toInt64) &&& 1) 0 = 0) = !(isCo s) := by decide +kernel
  have h1 := h s hs
  rw [eq_iff_iff]
  constructor
  · intro q
    rw [decide_eq_true q] at h1
    simpa using h1.symm
  · intro q
    rw [q] at h1
    simpa using h1
theorem ko_bits : ∀ s, s < 49 → (lg_cmp ((((285873039999041 : Int64).toUInt64 >>> ((nI s).toInt64.toUInt64 &&& Int64.toUInt64 63)).toInt64) &&& 1) 0 = 0) = ((s == 24 || isCo s) = false) := by
  intro s hs
  have h : ∀ s, s < 49 → decide (lg_cmp ((((285873039999041 : Int64).toUInt64 >>> ((nI s).toInt64.toUInt64 &&& Int64.toUInt64 63)).toInt64) &&& 1) 0 = 0) = !(s == 24 || isCo s) := by decide +kernel
  have h1 := h s hs
  rw [eq_iff_iff]
  constructor
  · intro q
    rw [decide_eq_true q] at h1
    simpa using h1.symm
  · intro q
    rw [q] at h1
    simpa using h1
theorem f_hostileTo {f : Nat → Int32} (hf : PB f) {d : Int32} (hd : isD d) {s : Nat} (hs : s < 49) : fX1_hostileTo f d (nI s) = some (b01 (host f s d)) := by
  unfold fX1_hostileTo
  rw [if_neg (nlt0 (by omega)), if_pos (show nI s < 49 from nI_lt hs (by decide)), inB_t hs (by decide), grd_t, nI_clamp (by omega), bnd_eq]
  simp only [co_bits s hs, ko_bits s hs, jn_eq]
  unfold host
  rcases hf s hs with e | e | e | e <;> rcases hd with rfl | rfl <;> rw [e] <;> cases hc : isCo s <;> cases h24 : (s == 24) <;> simp [sd, b01]
theorem f_hostileTo_m1 {f : Nat → Int32} {d : Int32} : fX1_hostileTo f d (-1) = some 0 := by
  unfold fX1_hostileTo
  rw [if_pos (by decide)]
/-! the four squares beside one -/
def hostN (b : Nat → Int32) (o : Option Nat) : Nat := match o with
  | none => 0
  | some t => if host b t 1 then 1 else 0
theorem hostN_s (b : Nat → Int32) (t : Nat) : hostN b (some t) = if host b t 1 then 1 else 0 := rfl
theorem hostN_n (b : Nat → Int32) : hostN b none = 0 := rfl
/-- how many squares beside a square are hostile to the side 1 -/
def prN (b : Nat → Int32) (k : Nat) : Nat := hostN b (nx k 0) + hostN b (nx k 1) + hostN b (nx k 2) + hostN b (nx k 3)
theorem hostN_le (b : Nat → Int32) (o : Option Nat) : hostN b o ≤ 1 := by
  unfold hostN
  split
  · omega
  · split <;> omega
theorem f_countHostile {f : Nat → Int32} (hf : PB f) {k : Nat} (hk : k < 49) : fX1_countHostileBesideKing (nI k) f = some (nI (prN f k)) := by
  unfold fX1_countHostileBesideKing fX1_countHostileBesideKing_L4
  refine lp_for (B := fun (zf : Int32 × Int32 → Option Int32) z => fX1_countHostileBesideKing_L4_B (nI k) f (fun v1 v2 => zf (v1, v2)) z.1 z.2) (fun i => (nI (sumN (fun d => hostN f (nx k (cw d))) i), nI i)) 4 (fun i hi self => ?_) (fun self => ?_) (by omega)
  · show fX1_countHostileBesideKing_L4_B (nI k) f _ (nI _) (nI i) = _
    unfold fX1_countHostileBesideKing_L4_B
    rw [if_neg (nle (c := 4) hi (by decide)), f_beside k hk i hi, Option.bind_some]
    show _ = self (nI (sumN _ i + hostN f (nx k (cw i))), nI (i + 1))
    cases hn : nx k (cw i) with
    | none =>
      show (fX1_hostileTo f 1 (-1)).bind _ = _
      rw [f_hostileTo_m1, Option.bind_some, if_pos rfl, nI_1]
      rfl
    | some t =>
      show (fX1_hostileTo f 1 (nI t)).bind _ = _
      rw [f_hostileTo hf (Or.inr rfl) (nx_lt k hk _ (cw_lt i) t hn), Option.bind_some, ite_b01, nI_1, nI_1, hostN_s]
      split <;> rfl
  · show fX1_countHostileBesideKing_L4_B (nI k) f _ (nI _) (nI 4) = _
    unfold fX1_countHostileBesideKing_L4_B
    rw [if_pos (by decide), sumN_4]
    show some (nI (hostN f (nx k 0) + hostN f (nx k 3) + hostN f (nx k 1) + hostN f (nx k 2))) = _
    unfold prN
    congr 2
    omega
/-- all four squares beside one are hostile to the side 1 -/
def shutB (b : Nat → Int32) (k : Nat) : Bool := decide (prN b k = 4)
/-- the throne, and the squares beside it -/
def nearT (k : Nat) : Bool := k == 24 || k == 17 || k == 23 || k == 25 || k == 31
theorem f_needsFour {k : Nat} (hk : k < 49) (g : Bool) : fX1_needsFour (nI k) (b01 g) = some (b01 (g || nearT k)) := by
  have h : ∀ k, k < 49 → ∀ g : Bool, fX1_needsFour (nI k) (b01 g) = some (b01 (g || nearT k)) := by decide +kernel
  exact h k hk g
theorem near_bits : ∀ k, k < 49 → nearT k = (k == 24 || decide (nx k 0 = some 24) || decide (nx k 1 = some 24) || decide (nx k 2 = some 24) || decide (nx k 3 = some 24)) := by decide +kernel
/-! ===== pure part D: hostile squares, the king's four, why a move cannot be ===== -/
/-- pieces are 0 to 3 -/
def PB (b : Nat → Int32) : Prop := ∀ s, s < 49 → b s = 0 ∨ b s = 1 ∨ b s = 2 ∨ b s = 3
theorem PB.pos {b : Nat → Int32} (h : PB b) : ∀ s, s < 49 → 0 ≤ b s := fun s hs => by
  rcases h s hs with e | e | e | e <;> rw [e] <;> decide
def isD (d : Int32) : Prop := d = 0 ∨ d = 1
def host (b : Nat → Int32) (s : Nat) (d : Int32) : Bool := isCo s || (s == 24 && decide (b s = 0)) || (!decide (b s = 0) && !decide (sd (b s) = d))
theorem co_bits : ∀ s, s < 49 → (lg_cmp ((((285873023221825 : Int64).toUInt64 >>> ((nI s).toInt64.toUInt64 &&& Int64.toUInt64 63)).toInt64) &&& 1) 0 = 0) = (isCo s = false) := by
  intro s hs
  have h : ∀ s, s < 49 → decide (lg_cmp ((((285873023221825 : Int64).toUInt64 >>> ((nI s).toInt64.toUInt64 &&& Int64.toUInt64 63)).toInt64) &&& 1) 0 = 0) = !(isCo s) := by decide +kernel
  have h1 := h s hs
  rw [eq_iff_iff]
  constructor
  · intro q
    rw [decide_eq_true q] at h1
    simpa using h1.symm
  · intro q
    rw [q] at h1
    simpa using h1
theorem ko_bits : ∀ s, s < 49 → (lg_cmp ((((285873039999041 : Int64).toUInt64 >>> ((nI s).toInt64.toUInt64 &&& Int64.toUInt64 63)).toInt64) &&& 1) 0 = 0) = ((s == 24 || isCo s) = false) := by
  intro s hs
  have h : ∀ s, s < 49 → decide (lg_cmp ((((285873039999041 : Int64).toUInt64 >>> ((nI s).toInt64.toUInt64 &&& Int64.toUInt64 63)).toInt64) &&& 1) 0 = 0) = !(s == 24 || isCo s) := by decide +kernel
  have h1 := h s hs
  rw [eq_iff_iff]
  constructor
  · intro q
    rw [decide_eq_true q] at h1
    simpa using h1.symm
  · intro q
    rw [q] at h1
    simpa using h1
theorem f_hostileTo {f : Nat → Int32} (hf : PB f) {d : Int32} (hd : isD d) {s : Nat} (hs : s < 49) : fX1_hostileTo f d (nI s) = some (b01 (host f s d)) := by
  unfold fX1_hostileTo
  rw [if_neg (nlt0 (by omega)), if_pos (show nI s < 49 from nI_lt hs (by decide)), inB_t hs (by decide), grd_t, nI_clamp (by omega), bnd_eq]
  simp only [co_bits s hs, ko_bits s hs, jn_eq]
  unfold host
  rcases hf s hs with e | e | e | e <;> rcases hd with rfl | rfl <;> rw [e] <;> cases hc : isCo s <;> cases h24 : (s == 24) <;> simp [sd, b01]
theorem f_hostileTo_m1 {f : Nat → Int32} {d : Int32} : fX1_hostileTo f d (-1) = some 0 := by
  unfold fX1_hostileTo
  rw [if_pos (by decide)]
theorem f_hostile {row : Nat → Int32} (hf : PB row) {d : Int32} {s : Nat} (hs : s < 49) : fX9_hostile row (nI s) d = some (b01 (host row s d)) := by
  unfold fX9_hostile
  simp only [jn_eq, f_isCorner9 s hs, Option.bind_some, ite_b01, inB_t (show s < 61 by omega) (by decide : 61 < 2 ^ 31), grd_t, nI_clamp (show s < 2 ^ 31 by omega), f_side9]
  have h24 : (nI s = 24) = ((s == 24) = true) := by
    rw [show (24 : Int32) = nI 24 from rfl, nI_inj (by omega) (by decide)]
    simp
  unfold host
  simp only [h24]
  rcases hf s hs with e | e | e | e <;> rw [e] <;> cases hc : isCo s <;> cases hq : (s == 24) <;> simp [sd, b01] <;> (try (split <;> simp_all))
/-! the four squares beside one -/
def hostN (b : Nat → Int32) (o : Option Nat) : Nat := match o with
  | none => 0
  | some t => if host b t 1 then 1 else 0
theorem hostN_s (b : Nat → Int32) (t : Nat) : hostN b (some t) = if host b t 1 then 1 else 0 := rfl
theorem hostN_n (b : Nat → Int32) : hostN b none = 0 := rfl
/-- how many squares beside a square are hostile to the side 1 -/
def prN (b : Nat → Int32) (k : Nat) : Nat := hostN b (nx k 0) + hostN b (nx k 1) + hostN b (nx k 2) + hostN b (nx k 3)
theorem hostN_le (b : Nat → Int32) (o : Option Nat) : hostN b o ≤ 1 := by
  unfold hostN
  split
  · omega
  · split <;> omega
theorem f_countHostile {f : Nat → Int32} (hf : PB f) {k : Nat} (hk : k < 49) : fX1_countHostileBesideKing (nI k) f = some (nI (prN f k)) := by
  unfold fX1_countHostileBesideKing fX1_countHostileBesideKing_L4
  refine lp_for (B := fun (zf : Int32 × Int32 → Option Int32) z => fX1_countHostileBesideKing_L4_B (nI k) f (fun v1 v2 => zf (v1, v2)) z.1 z.2) (fun i => (nI (sumN (fun d => hostN f (nx k (cw d))) i), nI i)) 4 (fun i hi self => ?_) (fun self => ?_) (by omega)
  · show fX1_countHostileBesideKing_L4_B (nI k) f _ (nI _) (nI i) = _
    unfold fX1_countHostileBesideKing_L4_B
    rw [if_neg (nle (c := 4) hi (by decide)), f_beside k hk i hi, Option.bind_some]
    show _ = self (nI (sumN _ i + hostN f (nx k (cw i))), nI (i + 1))
    cases hn : nx k (cw i) with
    | none =>
      show (fX1_hostileTo f 1 (-1)).bind _ = _
      rw [f_hostileTo_m1, Option.bind_some, if_pos rfl, nI_1]
      rfl
    | some t =>
      show (fX1_hostileTo f 1 (nI t)).bind _ = _
      rw [f_hostileTo hf (Or.inr rfl) (nx_lt k hk _ (cw_lt i) t hn), Option.bind_some, ite_b01, nI_1, nI_1, hostN_s]
      split <;> rfl
  · show fX1_countHostileBesideKing_L4_B (nI k) f _ (nI _) (nI 4) = _
    unfold fX1_countHostileBesideKing_L4_B
    rw [if_pos (by decide), sumN_4]
    show some (nI (hostN f (nx k 0) + hostN f (nx k 3) + hostN f (nx k 1) + hostN f (nx k 2))) = _
    unfold prN
    congr 2
    omega
/-- all four squares beside one are hostile to the side 1 -/
def shutB (b : Nat → Int32) (k : Nat) : Bool := decide (prN b k = 4)
theorem f_isShut {row : Nat → Int32} (hf : PB row) {k : Nat} (hk : k < 49) : fX9_isShut row (nI k) = some (b01 (shutB row k)) := by
  unfold fX9_isShut fX9_isShut_L4
  refine lp_for (B := fun (zf : Int32 × Int32 → Option Int32) z => fX9_isShut_L4_B row (nI k) (fun v2 v3 => zf (v2, v3)) z.1 z.2) (fun i => (b01 (decide (sumN (fun w => hostN row (nx k w)) i = i)), nI i)) 4 (fun i hi self => ?_) (fun self => ?_) (by omega)
  · show fX9_isShut_L4_B row (nI k) _ (b01 _) (nI i) = _
    unfold fX9_isShut_L4_B
    rw [if_neg (nle (c := 4) hi (by decide)), f_next k hk i hi, Option.bind_some]
    simp only [jn_eq]
    have hs : sumN (fun w => hostN row (nx k w)) (i + 1) = sumN (fun w => hostN row (nx k w)) i + hostN row (nx k i) := rfl
    have hle : sumN (fun w => hostN row (nx k w)) i ≤ i * 1 := sumN_le (fun j _ => hostN_le _ _)
    have hle2 := hostN_le row (nx k i)
    rw [hs]
    by_cases h1 : sumN (fun w => hostN row (nx k w)) i = i
    · rw [decide_eq_true h1, if_neg (by decide : ¬ b01 true = 0)]
      cases hn : nx k i with
      | none =>
        rw [if_pos (show enc none = -1 from rfl), nI_1, hostN_n, decide_eq_false (by omega)]
        rfl
      | some t =>
        have ht := nx_lt k hk i hi t hn
        rw [if_neg (by show ¬ nI t = -1; rw [nI_m1 (by omega)]; exact id)]
        show (fX9_hostile row (nI t) 1).bind _ = _
        rw [f_hostile hf ht, Option.bind_some, ite_b01, nI_1]
        cases hh : host row t 1 with
        | true =>
          rw [if_pos rfl]
          rw [hostN_s, hh, if_pos rfl, decide_eq_true (by omega)]
          rfl
        | false =>
          rw [if_neg (by decide)]
          rw [hostN_s, hh, if_neg (by decide : ¬ false = true), decide_eq_false (by omega)]
          rfl
    · rw [decide_eq_false h1, if_pos (by decide : b01 false = 0), nI_1, decide_eq_false (by omega)]
      rfl
  · show fX9_isShut_L4_B row (nI k) _ (b01 _) (nI 4) = _
    unfold fX9_isShut_L4_B
    rw [if_pos (by decide), is01_b01, grd_t, sumN_4]
    rfl
/-- the throne, and the squares beside it -/
def nearT (k : Nat) : Bool := k == 24 || k == 17 || k == 23 || k == 25 || k == 31
theorem f_needsFour {k : Nat} (hk : k < 49) (g : Bool) : fX1_needsFour (nI k) (b01 g) = some (b01 (g || nearT k)) := by
  have h : ∀ k, k < 49 → ∀ g : Bool, fX1_needsFour (nI k) (b01 g) = some (b01 (g || nearT k)) := by decide +kernel
  exact h k hk g
theorem near_bits : ∀ k, k < 49 → nearT k = (k == 24 || decide (nx k 0 = some 24) || decide (nx k 1 = some 24) || decide (nx k 2 = some 24) || decide (nx k 3 = some 24)) := by decide +kernel
theorem f_isStrongAt {row : Nat → Int32} {k : Nat} (hk : k < 49) : fX9_isStrongAt row (nI k) = some (b01 (decide (row 52 = 1) || nearT k)) := by
  unfold fX9_isStrongAt
  simp only [jn_eq]
  -- what is known before the way i
  have K : ∀ b0 : Bool, fX9_isStrongAt_L14 row (nI k) 64 (b01 b0) 0 = some (b01 (decide (row 52 = 1) || (b0 || decide (nx k 0 = some 24) || decide (nx k 1 = some 24) || decide (nx k 2 = some 24) || decide (nx k 3 = some 24)))) := by
    intro b0
    unfold fX9_isStrongAt_L14
    refine lp_for (B := fun (zf : Int32 × Int32 → Option Int32) z => fX9_isStrongAt_L14_B row (nI k) (fun v2 v3 => zf (v2, v3)) z.1 z.2) (fun i => (b01 ((decide (0 < i) && decide (nx k 0 = some 24)) || ((decide (1 < i) && decide (nx k 1 = some 24)) || ((decide (2 < i) && decide (nx k 2 = some 24)) || ((decide (3 < i) && decide (nx k 3 = some 24)) || b0)))), nI i)) 4 (fun i hi self => ?_) (fun self => ?_) (by omega)
    · show fX9_isStrongAt_L14_B row (nI k) _ (b01 _) (nI i) = _
      unfold fX9_isStrongAt_L14_B
      rw [if_neg (nle (c := 4) hi (by decide)), f_next k hk i hi]
      simp only [jn_eq, ite_b01, Option.bind_some]
      have h24 : (enc (nx k i) = 24) = (nx k i = some 24) := by
        cases hn : nx k i with
        | none =>
          rw [eq_iff_iff]
          exact ⟨fun h => absurd h (by decide), fun h => nomatch h⟩
        | some t =>
          have := nx_lt k hk i hi t hn
          show (nI t = nI 24) = _
          rw [nI_inj (by omega) (by decide), Option.some.injEq]
      simp only [h24]
      rw [nI_1]
      clear h24
      by_cases a0 : nx k 0 = some 24 <;> by_cases a1 : nx k 1 = some 24 <;> by_cases a2 : nx k 2 = some 24 <;> by_cases a3 : nx k 3 = some 24 <;> rcases (by omega : i = 0 ∨ i = 1 ∨ i = 2 ∨ i = 3) with rfl | rfl | rfl | rfl <;> cases b0 <;> simp [b01, a0, a1, a2, a3]
    · show fX9_isStrongAt_L14_B row (nI k) _ (b01 _) (nI 4) = _
      unfold fX9_isStrongAt_L14_B
      rw [if_pos (by decide), ite_b01, show inB 52 61 = true from by decide, grd_t]
      rw [show (52 : Int32).toNatClampNeg = 52 from by decide]
      by_cases h52 : row 52 = 1
      · rw [if_pos h52, decide_eq_true h52]
        split <;> rfl
      · rw [if_neg h52, decide_eq_false h52]
        simp only [show (0 : Nat) < 4 from by decide, show (1 : Nat) < 4 from by decide, show (2 : Nat) < 4 from by decide, show (3 : Nat) < 4 from by decide, decide_true, Bool.true_and, Bool.false_or]
        cases b0 <;> cases decide (nx k 0 = some 24) <;> cases decide (nx k 1 = some 24) <;> cases decide (nx k 2 = some 24) <;> cases decide (nx k 3 = some 24) <;> rfl
  rw [near_bits k hk]
  by_cases h : k = 24
  · subst h
    rw [if_pos (show nI 24 = 24 from rfl)]
    exact K true
  · rw [if_neg (by show ¬ nI k = nI 24; rw [nI_inj (by omega) (by decide)]; exact h)]
    have : (k == 24) = false := by simpa using h
    rw [this]
    exact K false

/-! ===== pure part R: what the reference tells of the king's way ===== -/
theorem IW_0 {q : List (Nat × Nat)} {T : Nat} {ways : Nat → Int32} (h : ∀ t, t < 49 → ways t = twq q T t) : IW q T (fun _ => False) ways := by
  intro t ht
  refine ⟨fun hr => Or.inr ⟨?_, id⟩, fun _ => h t ht⟩
  rw [h t ht]
  unfold twq
  rw [hr]
  exact if_neg (by omega)
theorem IW_end {q : List (Nat × Nat)} {T : Nat} {S : Nat → Prop} {ways : Nat → Int32} (h : IW q T S ways) (hS : ∀ t, t < 49 → rd q t = some (T + 1) → S t) : ∀ t, t < 49 → ways t = twq q (T + 1) t := by
  intro t ht
  by_cases hr : rd q t = some (T + 1)
  · have h1 : twq q (T + 1) t = nI (T + 1) := by
      unfold twq
      rw [hr]
      exact if_pos (Nat.le_refl _)
    rw [h1]
    rcases (h t ht).1 hr with h2 | h2
    · exact h2
    · exact absurd (hS t ht hr) h2.2
  · rw [(h t ht).2 hr]
    unfold twq
    cases h3 : rd q t with
    | none => rfl
    | some n =>
      have : n ≠ T + 1 := fun e => hr (by rw [h3, e])
      show (if n ≤ T then nI n else -1) = if n ≤ T + 1 then nI n else -1
      by_cases h4 : n ≤ T
      · rw [if_pos h4, if_pos (by omega)]
      · rw [if_neg h4, if_neg (by omega)]
theorem mt_S (row : Nat → Int32) (k : Int32) (M : Nat) (T : Int32) (ways : Nat → Int32) : fX9_measure_L40 row k (M + 1) T ways = fX9_measure_L40_B row k (fX9_measure_L40 row k M) T ways := rfl
theorem me_turns {row : Nat → Int32} {o : Option Nat} (ho : ∀ t, o = some t → t < 49) {q : List (Nat × Nat)} (hq : MD row o q) : ∀ (m T : Nat), T + m = 49 → ∀ (ways : Nat → Int32), (∀ t, t < 49 → ways t = twq q T t) → ∃ ways', (∀ t, t < 49 → ways' t = enc (rd q t)) ∧ ∀ N, m + 1 ≤ N → fX9_measure_L40 row (enc o) N (nI T) ways = some ways'
  | 0, T, hT, ways, hw => by
    have : T = 49 := by omega
    subst this
    refine ⟨ways, fun t ht => ?_, fun N hN => ?_⟩
    · rw [hw t ht]
      unfold twq
      cases h : rd q t with
      | none => rfl
      | some n =>
        have := (hq.2.1 _ (rd_mem h)).2
        exact if_pos (show n ≤ 49 by omega)
    · obtain ⟨M, rfl⟩ : ∃ M, N = M + 1 := ⟨N - 1, by omega⟩
      rw [mt_S]
      unfold fX9_measure_L40_B
      rw [if_pos (by decide)]
  | m + 1, T, hT, ways, hw => by
    obtain ⟨w1, hI, h1⟩ := me_round ho hq (by omega : T < 49) 49 0 rfl _ ways (IW_0 hw)
    have hw1 := IW_end hI (fun t ht hr => by
      obtain ⟨e, he, h2, h3⟩ := hq.2.2.2.1 _ (rd_mem hr) T rfl
      exact Or.inr ⟨e.1, Nat.zero_le _, (hq.2.1 e he).1, mem_rd hq.1 (by rw [← h2]; exact he), h3⟩)
    obtain ⟨w2, h2, h3⟩ := me_turns ho hq m (T + 1) (by omega) w1 hw1
    refine ⟨w2, h2, fun N hN => ?_⟩
    obtain ⟨M, rfl⟩ : ∃ M, N = M + 1 := ⟨N - 1, by omega⟩
    rw [mt_S]
    unfold fX9_measure_L40_B
    rw [if_neg (nle (c := 49) (by omega) (by decide))]
    exact (h1 _ 64 (by omega)).trans (h3 M (by omega))
theorem f_measure {row : Nat → Int32} {q : List (Nat × Nat)} (hq : MD row (kingN row) q) (fway : Nat → Int32) : ∃ ways', (∀ t, t < 49 → ways' t = enc (rd q t)) ∧ fX9_measure row fway = some ways' := by
  obtain ⟨w, h1, h2⟩ := me_turns king_lt hq 49 0 rfl (fun k => if k < 49 then (if nI k = enc (kingN row) then 0 else -1) else fway k) (fun t ht => by
    show (if t < 49 then (if nI t = enc (kingN row) then 0 else -1) else fway t) = _
    rw [if_pos ht]
    have e : (nI t = enc (kingN row)) = (kingN row = some t) := by
      rw [← enc_eq king_lt ht, eq_iff_iff]
      exact ⟨Eq.symm, Eq.symm⟩
    simp only [e]
    have h3 := hq.2.2.1 t
    unfold twq
    by_cases h4 : kingN row = some t
    · rw [if_pos h4, h3.mpr h4]
      rfl
    · rw [if_neg h4]
      cases h5 : rd q t with
      | none => rfl
      | some n =>
        have : n ≠ 0 := fun e => h4 (h3.mp (by rw [h5, e]))
        exact (if_neg (show ¬ n ≤ 0 by omega)).symm)
  refine ⟨w, h1, ?_⟩
  unfold fX9_measure
  rw [f_king, Option.bind_some]
  have h := lp_for (n := 64) (B := fun zf z => fX9_measure_L10_B row (enc (kingN row)) (fun v2_1 w => zf (v2_1, w)) z.1 z.2) (fun i => (nI i, fun k => if k < i then (if nI k = enc (kingN row) then 0 else -1) else fway k)) 49 (res := some w) (fun i hi self => ?_) (fun self => ?_) (by omega)
  · exact h
  · show fX9_measure_L10_B row (enc (kingN row)) _ (nI i) _ = _
    unfold fX9_measure_L10_B
    rw [if_neg (nle (c := 49) (by omega) (by decide)), inB_t (by omega) (by decide), jn_eq]
    simp only [grd_t, nI_clamp (show i < 2 ^ 31 by omega), nI_1]
    have e9 : ∀ v : Int32, v = (if nI i = enc (kingN row) then 0 else -1) → upd (fun k => if k < i then (if nI k = enc (kingN row) then 0 else -1) else fway k) i v = fun k => if k < i + 1 then (if nI k = enc (kingN row) then 0 else -1) else fway k := fun v hv => by
      funext k
      unfold upd
      by_cases e : k = i
      · rw [if_pos e, if_pos (by omega), hv, e]
      · rw [if_neg e]
        show (if k < i then (if nI k = enc (kingN row) then 0 else -1) else fway k) = _
        by_cases e2 : k < i
        · rw [if_pos e2, if_pos (show k < i + 1 by omega)]
        · rw [if_neg e2, if_neg (show ¬ k < i + 1 by omega)]
    by_cases e : nI i = enc (kingN row)
    · rw [if_pos e, e9 0 (by rw [if_pos e])]
    · rw [if_neg e, e9 (-1) (by rw [if_neg e])]
  · exact h2 64 (by omega)
/-! the least number of moves to a corner -/
def lsO (a c : Option Nat) : Option Nat := match c with
  | none => a
  | some m => match a with
    | none => some m
    | some n => if m < n then some m else some n
def kmF (q : List (Nat × Nat)) : Nat → Option Nat
  | 0 => none
  | i + 1 => if isCo i then lsO (kmF q i) (rd q i) else kmF q i
theorem lsO_lt {a c : Option Nat} {n : Nat} (ha : ∀ t, a = some t → t < n) (hc : ∀ t, c = some t → t < n) : ∀ t, lsO a c = some t → t < n := by
  intro t h
  cases c with
  | none => exact ha t h
  | some m =>
    cases a with
    | none => exact hc t h
    | some k =>
      have h : (if m < k then some m else some k) = some t := h
      split at h
      · exact hc t h
      · exact ha t h
theorem rd_lt {b : Nat → Int32} {o : Option Nat} {q : List (Nat × Nat)} (hq : MD b o q) (t : Nat) : ∀ n, rd q t = some n → n < 49 := fun n h => by
  have := (hq.2.1 _ (rd_mem h)).2
  omega
theorem kmF_lt {b : Nat → Int32} {o : Option Nat} {q : List (Nat × Nat)} (hq : MD b o q) : ∀ i t, kmF q i = some t → t < 49
  | 0, _, h => nomatch h
  | i + 1, t, h => by
    unfold kmF at h
    split at h
    · exact lsO_lt (kmF_lt hq i) (rd_lt hq i) t h
    · exact kmF_lt hq i t h
theorem kmF_49 (q : List (Nat × Nat)) : kmF q 49 = lsO (lsO (lsO (lsO none (rd q 0)) (rd q 6)) (rd q 42)) (rd q 48) := rfl
theorem f_kingMoves {row : Nat → Int32} {q : List (Nat × Nat)} (hq : MD row (kingN row) q) (fway : Nat → Int32) : ∃ w, fX9_kingMoves row fway = some (enc (kmF q 49), w) := by
  obtain ⟨w, h1, h2⟩ := f_measure hq fway
  refine ⟨w, ?_⟩
  unfold fX9_kingMoves
  rw [h2, Option.bind_some]
  refine lp_for (B := fun zf z => fX9_kingMoves_L8_B w (fun v1 v2 => zf (v1, v2)) z.1 z.2) (fun i => (enc (kmF q i), nI i)) 49 (fun i hi self => ?_) (fun self => rfl) (by omega)
  show fX9_kingMoves_L8_B w _ (enc (kmF q i)) (nI i) = _
  unfold fX9_kingMoves_L8_B
  rw [if_neg (nle (c := 49) hi (by decide)), f_isCorner9 i hi, Option.bind_some, inB_t (by omega) (by decide)]
  simp only [grd_t, jn_eq, nI_clamp (show i < 2 ^ 31 by omega), nI_1, ite_b01, h1 i hi, enc_none (rd_lt hq i), enc_none (kmF_lt hq i)]
  show _ = self (enc (if isCo i then lsO (kmF q i) (rd q i) else kmF q i), nI (i + 1))
  cases isCo i with
  | false => simp
  | true =>
    have ha := kmF_lt hq i
    have hc := rd_lt hq i
    cases hr : rd q i with
    | none => simp [lsO]
    | some m =>
      have := hc m hr
      cases hk : kmF q i with
      | none => simp [lsO]
      | some n =>
        have h9 := ha n hk
        have e : (enc (some n) ≤ enc (some m)) = (n ≤ m) := propext (nI_leI (by omega) (by omega))
        simp only [e]
        by_cases h8 : n ≤ m
        · simp [lsO, h8, Nat.not_lt.mpr h8]
        · simp [lsO, h8, Nat.lt_of_not_le h8]
def coN (q : List (Nat × Nat)) : Nat := sumN (fun s => if isCo s && decide (rd q s = some 1) then 1 else 0) 49
def reN (q : List (Nat × Nat)) : Nat := sumN (fun s => if rd q s = none ∨ rd q s = some 0 then 0 else 1) 49
theorem enc_1 {o : Option Nat} (ho : ∀ t, o = some t → t < 49) : (enc o = 1) = (o = some 1) := enc_eq ho (by decide : 1 < 49)
theorem f_corners {row : Nat → Int32} {q : List (Nat × Nat)} (hq : MD row (kingN row) q) (fway : Nat → Int32) : ∃ w, fX9_corners row fway = some (nI (coN q), w) := by
  obtain ⟨w, h1, h2⟩ := f_measure hq fway
  refine ⟨w, ?_⟩
  unfold fX9_corners
  rw [h2, Option.bind_some]
  refine lp_for (B := fun zf z => fX9_corners_L8_B w (fun v1 v2 => zf (v1, v2)) z.1 z.2) (fun i => (nI (sumN (fun s => if isCo s && decide (rd q s = some 1) then 1 else 0) i), nI i)) 49 (fun i hi self => ?_) (fun self => rfl) (by omega)
  show fX9_corners_L8_B w _ (nI _) (nI i) = _
  unfold fX9_corners_L8_B
  rw [if_neg (nle (c := 49) hi (by decide)), f_isCorner9 i hi, Option.bind_some, inB_t (by omega) (by decide)]
  simp only [grd_t, jn_eq, nI_clamp (show i < 2 ^ 31 by omega), nI_1, ite_b01, h1 i hi, enc_1 (rd_lt hq i)]
  show _ = self (nI (sumN _ i + (if isCo i && decide (rd q i = some 1) then 1 else 0)), nI (i + 1))
  cases isCo i with
  | false => simp
  | true =>
    by_cases h3 : rd q i = some 1
    · simp [h3, nI_1]
    · simp [h3]
theorem f_reach {row : Nat → Int32} {q : List (Nat × Nat)} (hq : MD row (kingN row) q) (fway : Nat → Int32) : ∃ w, fX9_reach row fway = some (nI (reN q), w) := by
  obtain ⟨w, h1, h2⟩ := f_measure hq fway
  refine ⟨w, ?_⟩
  unfold fX9_reach
  rw [h2, Option.bind_some]
  refine lp_for (B := fun zf z => fX9_reach_L8_B w (fun v1 v2 => zf (v1, v2)) z.1 z.2) (fun i => (nI (sumN (fun s => if rd q s = none ∨ rd q s = some 0 then 0 else 1) i), nI i)) 49 (fun i hi self => ?_) (fun self => rfl) (by omega)
  show fX9_reach_L8_B w _ (nI _) (nI i) = _
  unfold fX9_reach_L8_B
  rw [if_neg (nle (c := 49) hi (by decide)), inB_t (by omega) (by decide)]
  simp only [grd_t, jn_eq, nI_clamp (show i < 2 ^ 31 by omega), nI_1, h1 i hi]
  show _ = self (nI (sumN _ i + (if rd q i = none ∨ rd q i = some 0 then 0 else 1)), nI (i + 1))
  cases h3 : rd q i with
  | none =>
    rw [if_pos (show enc none ≤ 0 by decide), if_pos (Or.inl rfl)]
    simp
  | some n =>
    have h4 := rd_lt hq i n h3
    cases n with
    | zero =>
      rw [if_pos (show enc (some 0) ≤ 0 by decide), if_pos (Or.inr rfl)]
      simp
    | succ n =>
      rw [if_neg (show ¬ enc (some (n + 1)) ≤ 0 from le0 (by omega)), if_neg (by simp)]

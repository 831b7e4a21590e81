/-! ===== what must always hold of an object's answers, holds ===== -/
theorem in_ok {a lo hi : Int64} (h1 : lo ≤ a) (h2 : a ≤ hi) : fL_in a lo hi = some 1 := by
  unfold fL_in
  rw [if_neg (show ¬ lg_cmp a lo < 0 by rw [lg_lt0]; exact Int64.not_lt.mpr h1), if_neg (show ¬ 0 < lg_cmp a hi by rw [lg_gt0]; exact Int64.not_lt.mpr h2)]
theorem in_n {n m : Nat} (h : n ≤ m) (hm : m < 2 ^ 31) : fL_in (nI n).toInt64 0 (nI m).toInt64 = some 1 := in_ok (by rw [← L_0, L_le (by decide) (by omega)]; exact Nat.zero_le _) (by rw [L_le (by omega) hm]; exact h)
theorem in_lit {n m : Nat} {c : Int64} (hc : c = (nI m).toInt64) (h : n ≤ m) (hm : m < 2 ^ 31) : fL_in (nI n).toInt64 0 c = some 1 := by
  rw [hc]
  exact in_n h hm
theorem fc_isCorner : ∀ s, s < 49 → fL_isCorner (nI s) = some (b01 (isCo s)) := by decide +kernel
theorem reason_c (f : Nat → Int32) (x y : Nat) : (f x = 0 ∧ reason f x y = 1) ∨ (f x ≠ 0 ∧ (reason f x y = 0 ∨ reason f x y = 2 ∨ reason f x y = 3 ∨ reason f x y = 4)) := by
  unfold reason
  by_cases e : f x = 0
  · rw [if_pos e]
    exact Or.inl ⟨e, rfl⟩
  · rw [if_neg e]
    refine Or.inr ⟨e, ?_⟩
    cases wayOf x y with
    | none => exact Or.inr (Or.inl rfl)
    | some w =>
      show (if (segOf x y).all (fun t => decide (f t = 0)) then (if rst (f x) y then (0 : Int32) else 4) else 3) = 0 ∨ _
      split
      · split
        · exact Or.inl rfl
        · exact Or.inr (Or.inr (Or.inr rfl))
      · exact Or.inr (Or.inr (Or.inl rfl))
theorem w49 : ∀ m, m < 49 → ∀ i, i < 49 → (nI m + 3 * nI i) - (nI m + 3 * nI i) / 49 * 49 = nI ((m + 3 * i) % 49) := by decide +kernel
theorem host_co {f : Nat → Int32} {s : Nat} (h : isCo s = true) (d : Int32) : host f s d = true := by
  unfold host
  rw [h]
  rfl
theorem host_no {f : Nat → Int32} {s : Nat} (h : isCo s = false) (h24 : s ≠ 24) (d : Int32) : host f s d = (!decide (f s = 0) && !decide (sd (f s) = d)) := by
  unfold host
  rw [h, beq_eq_false_iff_ne.mpr h24]
  rfl
theorem is24 {i : Nat} (hi : i < 49) : (nI i = 24) = (i = 24) := nI_inj (by omega) (by decide)
set_option maxRecDepth 100000 in
set_option maxHeartbeats 8000000 in
theorem kp_step {st : PS} (pb : PB (aF st.1)) (ko : KO (aF st.1)) {a1 : Int32} {m : Nat} (hm : m < 49) (ha : a1 - a1 / 49 * 49 = nI m) {i : Nat} (hi : i < 49) (V W : Int64) (self : Int32 → Int64 → Int64 → Int32 → Option Int32) : fL_kept_L243_B st a1 self 1 V W (nI i) = self 1 (V + (nI (goN (aF st.1) i)).toInt64) (W + (nI (if aF st.1 i = 0 then 0 else 1)).toInt64) (nI (i + 1)) := by
  obtain ⟨w, hw, ew⟩ : ∃ w, w < 49 ∧ ((a1 - a1 / 49 * 49) + (3 * nI i)) - ((a1 - a1 / 49 * 49) + (3 * nI i)) / 49 * 49 = nI w := ⟨(m + 3 * i) % 49, Nat.mod_lt _ (by decide), by rw [ha]; exact w49 m hm i hi⟩
  have hp := va_piece (f := aF st.1) hi
  have hg := va_from (f := aF st.1) hi
  have hh0 := va_host (f := aF st.1) hi (d := 0) (Or.inl rfl)
  have hh1 := va_host (f := aF st.1) hi (d := 1) (Or.inr rfl)
  have hag := va_against (f := aF st.1) hi hw
  have hcn := va_can (f := aF st.1) hi hw
  have hco := fc_isCorner i hi
  have hgo := goN_le (b := aF st.1) hi
  have in12 : fL_in (nI (goN (aF st.1) i)).toInt64 0 12 = some 1 := in_lit (m := 12) (by decide) hgo (by decide)
  have n49 : ((49 : Int32) ≤ nI i) = False := eq_false (nle hi (by decide))
  have i10 : ((1 : Int32) = 0) = False := eq_false (by decide)
  have i01 : ((0 : Int32) = 1) = False := eq_false (by decide)
  have hi1 := nI_1 i
  have e24 := is24 hi
  have hz : ∀ z, 0 < z → z ≤ 12 → ¬ (nI z).toInt64 = 0 := fun z h1 h2 e => by
    rw [← L_0, L_eq (by omega) (by decide)] at e
    omega
  have hg0 : aF st.1 i = 0 → goN (aF st.1) i = 0 := fun e => by
    unfold goN
    rw [if_pos e]
  have hko := ko i hi
  have hrs := reason_c (aF st.1) i w
  unfold fL_kept_L243_B
  rcases pb i hi with e | e | e | e
  · have hr : reason (aF st.1) i w = 1 := by
      rcases hrs with q | q
      · exact q.2
      · exact absurd e q.1
    rw [hr] at hag hcn
    rw [hg0 e] at hg in12 ⊢
    rw [e] at hp ⊢
    have ez : (nI (if (0 : Int32) = 0 then 0 else 1)).toInt64 = 0 := by decide
    have in3 : fL_in ((0 : Int32).toInt64) 0 3 = some 1 := by decide
    by_cases h24 : i = 24
    · have e24 : (nI i = 24) = True := e24.trans (eq_true h24)
      have hnc : isCo i = false := by
        rw [h24]
        decide
      rw [hnc] at hco
      simp +decide only [↓jn_p, ↓bnd_p, ↓reduceIte, ↓bind_p, hp, hg, hag, hcn, hco, in3, in12, n49, e24, ew, hi1, i10]
      rw [L_0]
    · have e24 : (nI i = 24) = False := e24.trans (eq_false h24)
      cases hc : isCo i with
      | true =>
        rw [hc] at hco
        rw [host_co hc] at hh0 hh1
        simp +decide only [↓jn_p, ↓bnd_p, ↓reduceIte, ↓bind_p, hp, hg, hag, hcn, hco, hh0, hh1, in3, in12, n49, e24, ew, hi1, i10]
        rw [L_0]
      | false =>
        rw [hc] at hco
        rw [host_no hc h24, e] at hh0 hh1
        simp +decide only [↓jn_p, ↓bnd_p, ↓reduceIte, ↓bind_p, hp, hg, hag, hcn, hco, hh0, hh1, in3, in12, n49, e24, ew, hi1, i10]
        rw [L_0]
  · have hns : (i == 24 || isCo i) = false := by
      cases q : (i == 24 || isCo i) with
      | false => rfl
      | true =>
        rcases hko q with z | z
        · rw [e] at z
          exact absurd z (by decide)
        · rw [e] at z
          exact absurd z (by decide)
    obtain ⟨h24, hc⟩ := Bool.or_eq_false_iff.mp hns
    have h24 := beq_eq_false_iff_ne.mp h24
    have e24 : (nI i = 24) = False := e24.trans (eq_false h24)
    rw [hc] at hco
    rw [host_no hc h24, e] at hh0 hh1
    have ez : (nI (if (1 : Int32) = 0 then 0 else 1)).toInt64 = 1 := by decide
    have in3 : fL_in ((1 : Int32).toInt64) 0 3 = some 1 := by decide
    rcases hrs with q | ⟨_, q⟩
    · rw [e] at q
      exact absurd q.1 (by decide)
    rw [e] at hp ⊢
    rcases q with q | q | q | q <;> rw [q] at hag hcn <;> simp +decide only [↓jn_p, ↓bnd_p, ↓reduceIte, ↓bind_p, hp, hg, hag, hcn, hco, hh0, hh1, in3, in12, n49, e24, ew, hi1, i10] <;> rw [L_1]
  · have hns : (i == 24 || isCo i) = false := by
      cases q : (i == 24 || isCo i) with
      | false => rfl
      | true =>
        rcases hko q with z | z
        · rw [e] at z
          exact absurd z (by decide)
        · rw [e] at z
          exact absurd z (by decide)
    obtain ⟨h24, hc⟩ := Bool.or_eq_false_iff.mp hns
    have h24 := beq_eq_false_iff_ne.mp h24
    have e24 : (nI i = 24) = False := e24.trans (eq_false h24)
    rw [hc] at hco
    rw [host_no hc h24, e] at hh0 hh1
    have ez : (nI (if (2 : Int32) = 0 then 0 else 1)).toInt64 = 1 := by decide
    have in3 : fL_in ((2 : Int32).toInt64) 0 3 = some 1 := by decide
    rcases hrs with q | ⟨_, q⟩
    · rw [e] at q
      exact absurd q.1 (by decide)
    rw [e] at hp ⊢
    rcases q with q | q | q | q <;> rw [q] at hag hcn <;> simp +decide only [↓jn_p, ↓bnd_p, ↓reduceIte, ↓bind_p, hp, hg, hag, hcn, hco, hh0, hh1, in3, in12, n49, e24, ew, hi1, i10] <;> rw [L_1]
  · have ez : (nI (if (3 : Int32) = 0 then 0 else 1)).toInt64 = 1 := by decide
    have in3 : fL_in ((3 : Int32).toInt64) 0 3 = some 1 := by decide
    rcases hrs with q | ⟨_, q⟩
    · rw [e] at q
      exact absurd q.1 (by decide)
    by_cases h24 : i = 24
    · have e24 : (nI i = 24) = True := e24.trans (eq_true h24)
      have hnc : isCo i = false := by
        rw [h24]
        decide
      rw [hnc] at hco
      rw [e] at hp ⊢
      rcases q with q | q | q | q <;> rw [q] at hag hcn <;> simp +decide only [↓jn_p, ↓bnd_p, ↓reduceIte, ↓bind_p, hp, hg, hag, hcn, hco, in3, in12, n49, e24, ew, hi1, i10] <;> rw [L_1]
    · have e24 : (nI i = 24) = False := e24.trans (eq_false h24)
      cases hc : isCo i with
      | true =>
        rw [hc] at hco
        rw [host_co hc] at hh0 hh1
        rw [e] at hp ⊢
        rcases q with q | q | q | q <;> rw [q] at hag hcn <;> simp +decide only [↓jn_p, ↓bnd_p, ↓reduceIte, ↓bind_p, hp, hg, hag, hcn, hco, hh0, hh1, in3, in12, n49, e24, ew, hi1, i10] <;> rw [L_1]
      | false =>
        rw [hc] at hco
        rw [host_no hc h24, e] at hh0 hh1
        rw [e] at hp ⊢
        rcases q with q | q | q | q <;> rw [q] at hag hcn <;> simp +decide only [↓jn_p, ↓bnd_p, ↓reduceIte, ↓bind_p, hp, hg, hag, hcn, hco, hh0, hh1, in3, in12, n49, e24, ew, hi1, i10] <;> rw [L_1]
theorem kp_end {st : PS} {a1 : Int32} (V W : Int64) (self : Int32 → Int64 → Int64 → Int32 → Option Int32) : fL_kept_L243_B st a1 self 1 V W (nI 49) = fL_kept_L621 st V W 3 1 0 (fun _ => 0) := by
  unfold fL_kept_L243_B
  rw [jn_eq, if_pos (show (49 : Int32) ≤ nI 49 by decide)]
/-! going through a list by steps -/
theorem steps (k : Nat) {s : Nat} (hs : 0 < s) : ∃ m, (∀ i, i < m → i * s < k) ∧ k ≤ m * s ∧ ∀ c, k < c * s → m ≤ c := by
  refine ⟨(k + s - 1) / s, fun i hi => ?_, ?_, fun c hc => ?_⟩
  · have h1 : (i + 1) * s ≤ (k + s - 1) / s * s := Nat.mul_le_mul_right s hi
    have h2 := Nat.div_mul_le_self (k + s - 1) s
    rw [Nat.add_mul] at h1
    omega
  · have h1 := Nat.lt_div_mul_add (a := k + s - 1) hs
    omega
  · refine Nat.le_of_not_lt (fun h => ?_)
    have h1 : (c + 1) * s ≤ (k + s - 1) / s * s := Nat.mul_le_mul_right s h
    have h2 := Nat.div_mul_le_self (k + s - 1) s
    rw [Nat.add_mul] at h1
    omega
theorem d343 : ∀ c, c < 2401 → nI c / 343 = nI (c / 49) / 7 := by decide +kernel
theorem sd_0 {p : Int32} (h : sd p = 0) : p = 1 := by
  unfold sd at h
  by_cases e : p = 0
  · rw [if_pos e] at h
    exact absurd h (by decide)
  · rw [if_neg e] at h
    by_cases e1 : p = 1
    · exact e1
    · rw [if_neg e1] at h
      exact absurd h (by decide)
theorem sd_1 {p : Int32} (h : sd p = 1) : p ≠ 1 := fun e => by
  rw [e] at h
  exact absurd h (by decide)
def pv (f : Nat → Int32) (d : Int32) (s j : Nat) : Int64 := if j = 0 then -1 else (nI (lm f d ((j - 1) * s))).toInt64
theorem nI_dv {n m : Nat} (hn : n < 2 ^ 31) (hm : m < 2 ^ 31) : nI n / nI m = nI (n / m) := nI_div hn hm
set_option maxRecDepth 100000 in
set_option maxHeartbeats 8000000 in
theorem ml_step {st : PS} {d : Nat} (hd : d < 2) {atf : Nat → Int32} {s : Nat} (hs : s = 1 + mcN (aF st.1) (nI d) / 8) {j : Nat} (hj : j * s < mcN (aF st.1) (nI d)) (self2 : Int32 → Int32 → (Nat → Int32) → Option Int32) (self : Int32 → Int64 → Int32 → Option Int32) : fL_kept_L703_B st self2 (nI d) atf self 1 (pv (aF st.1) (nI d) s j) (nI (j * s)) = self 1 (pv (aF st.1) (nI d) s (j + 1)) (nI ((j + 1) * s)) := by
  have hD : isD (nI d) := by
    rcases (by omega : d = 0 ∨ d = 1) with q | q
    · rw [q]
      exact Or.inl rfl
    · rw [q]
      exact Or.inr rfl
  have hk := mcN_le (aF st.1) (nI d)
  have hl := LMv_len (b := aF st.1) hD
  have hc := lm_mem (f := aF st.1) (d := nI d) (k := j * s) (by omega)
  have hcl := LMv_lt hc
  obtain ⟨c1, c2, c3, c4, c5⟩ := LMv_mem hc
  have eb : (v_byPieces (aF st.1) (nI d)).toInt32 = nI (mcN (aF st.1) (nI d)) := by
    rw [va_by hD, L_back]
  have em := va_move (f := aF st.1) hD hj
  have em2 : (v_moveAt (aF st.1) (nI d) (nI (j * s))).toInt32 = nI (lm (aF st.1) (nI d) (j * s)) := by
    rw [em, L_back]
  have epv : pv (aF st.1) (nI d) s (j + 1) = (nI (lm (aF st.1) (nI d) (j * s))).toInt64 := by
    unfold pv
    rw [if_neg (Nat.succ_ne_zero j), Nat.add_sub_cancel]
  have hlt : ¬ (nI (lm (aF st.1) (nI d) (j * s))).toInt64 ≤ pv (aF st.1) (nI d) s j := by
    unfold pv
    by_cases e : j = 0
    · rw [if_pos e]
      rw [Int64.le_iff_toInt_le, Int32.toInt_toInt64, nI_toInt (by omega)]
      have : (-1 : Int64).toInt = -1 := by decide
      omega
    · rw [if_neg e, L_le (by omega) (by
        have h1 := lm_mem (f := aF st.1) (d := nI d) (k := (j - 1) * s) (by
          have : (j - 1) * s ≤ j * s := Nat.mul_le_mul_right s (by omega)
          omega)
        have := LMv_lt h1
        omega)]
      have h1 : (j - 1) * s < j * s := Nat.mul_lt_mul_of_pos_right (by omega) (by omega)
      have := lm_lt (f := aF st.1) (d := nI d) h1 (by omega)
      omega
  have e1 := div49 _ hcl
  have e2 := mod49 _ hcl
  rw [e1] at e2
  have e3 := d343 _ hcl
  have e4 := va_can (f := aF st.1) c1 c2
  rw [decide_eq_true c5] at e4
  have e5 := va_piece (f := aF st.1) c1
  have e6 : nI (j * s) + (1 + nI (mcN (aF st.1) (nI d)) / 8) = nI ((j + 1) * s) := by
    rw [show nI (mcN (aF st.1) (nI d)) / 8 = nI (mcN (aF st.1) (nI d) / 8) from nI_dv (m := 8) (by omega) (by decide)]
    rw [show (1 : Int32) + nI (mcN (aF st.1) (nI d) / 8) = nI (1 + mcN (aF st.1) (nI d) / 8) from nI_add 1 _, nI_add, ← hs, Nat.add_mul, Nat.one_mul]
  have e7 : (nI (mcN (aF st.1) (nI d)) ≤ nI (j * s)) = False := eq_false (nI_ge hj (by omega))
  have i10 : ((1 : Int32) = 0) = False := eq_false (by decide)
  have e8 : (lg_cmp (nI (lm (aF st.1) (nI d) (j * s))).toInt64 (pv (aF st.1) (nI d) s j) ≤ 0) = False := by
    rw [lg_le0]
    exact eq_false hlt
  have e9 : (lg_cmp (bL true) 1 = 0) = True := eq_true (by decide)
  unfold fL_kept_L703_B
  rw [epv]
  rcases (by omega : d = 0 ∨ d = 1) with q | q
  · have e10 : (nI d = 0) = True := by
      rw [q]
      exact eq_true rfl
    have e11 : (lg_cmp ((aF st.1 (lm (aF st.1) (nI d) (j * s) / 49)).toInt64) 1 = 0) = True := by
      rw [sd_0 (c4.trans (by rw [q]; rfl))]
      exact eq_true (by decide)
    simp only [↓jn_p, ↓bnd_p, ↓reduceIte, eb, L_back, em, e1, e2, e3, e4, e5, e6, e7, i10, e8, e9, e10, e11]
  · have e10 : (nI d = 0) = False := by
      rw [q]
      exact eq_false (by decide)
    have e11 : (lg_cmp ((aF st.1 (lm (aF st.1) (nI d) (j * s) / 49)).toInt64) 1 = 0) = False := by
      rw [lg_eq]
      exact eq_false (fun z => sd_1 (c4.trans (by rw [q]; rfl)) (L_inj.mp (show _ = (1 : Int32).toInt64 from z)))
    simp only [↓jn_p, ↓bnd_p, ↓reduceIte, eb, L_back, em, e1, e2, e3, e4, e5, e6, e7, i10, e8, e9, e10, e11]
theorem ml_end {st : PS} {d : Nat} (hd : d < 2) {atf : Nat → Int32} {j : Nat} (hj : mcN (aF st.1) (nI d) ≤ j) (hj2 : j < 2 ^ 31) (v : Int64) (self2 : Int32 → Int32 → (Nat → Int32) → Option Int32) (self : Int32 → Int64 → Int32 → Option Int32) : fL_kept_L703_B st self2 (nI d) atf self 1 v (nI j) = self2 1 (nI (d + 1)) (upd atf d (nI (mcN (aF st.1) (nI d)))) := by
  have hD : isD (nI d) := by
    rcases (by omega : d = 0 ∨ d = 1) with q | q
    · rw [q]
      exact Or.inl rfl
    · rw [q]
      exact Or.inr rfl
  unfold fL_kept_L703_B
  rw [jn_eq, va_by hD, L_back, if_pos (nI_le hj hj2), inB_t hd (by decide), grd_t, nI_clamp (by omega), nI_1]
theorem ml_loop {st : PS} {d : Nat} (hd : d < 2) {atf : Nat → Int32} (self2 : Int32 → Int32 → (Nat → Int32) → Option Int32) : fL_kept_L703 st self2 (nI d) atf 10 1 (-1) 0 = self2 1 (nI (d + 1)) (upd atf d (nI (mcN (aF st.1) (nI d)))) := by
  obtain ⟨s, hs⟩ : ∃ s, s = 1 + mcN (aF st.1) (nI d) / 8 := ⟨_, rfl⟩
  obtain ⟨m, h1, h2, h3⟩ := steps (mcN (aF st.1) (nI d)) (s := s) (by omega)
  have hm : m ≤ 8 := h3 8 (by omega)
  have hk := mcN_le (aF st.1) (nI d)
  have hb : m * s ≤ 8 * s := Nat.mul_le_mul_right s hm
  unfold fL_kept_L703
  have h0 : ((1 : Int32), (-1 : Int64), (0 : Int32)) = (fun j => ((1 : Int32), pv (aF st.1) (nI d) s j, nI (j * s))) 0 := by
    show _ = ((1 : Int32), (-1 : Int64), nI (0 * s))
    rw [Nat.zero_mul]
    rfl
  rw [h0]
  exact lp_for (fun j => ((1 : Int32), pv (aF st.1) (nI d) s j, nI (j * s))) m (fun j hj self => ml_step hd hs (h1 j hj) self2 (fun a b c => self (a, b, c))) (fun self => ml_end hd h2 (by omega) _ self2 (fun a b c => self (a, b, c))) (by omega)
set_option maxRecDepth 100000 in
set_option maxHeartbeats 8000000 in
theorem sides_step {st : PS} {V W : Int64} {d : Nat} (hd : d < 2) {atf : Nat → Int32} (self : Int32 → Int32 → (Nat → Int32) → Option Int32) : fL_kept_L621_B st V W self 1 (nI d) atf = self 1 (nI (d + 1)) (upd atf d (nI (mcN (aF st.1) (nI d)))) := by
  have hD : isD (nI d) := by
    rcases (by omega : d = 0 ∨ d = 1) with q | q
    · rw [q]
      exact Or.inl rfl
    · rw [q]
      exact Or.inr rfl
  have hk := mcN_le (aF st.1) (nI d)
  have hlp := ml_loop (st := st) hd (atf := atf) self
  have e1 : ((2 : Int32) ≤ nI d) = False := eq_false (nle hd (by decide))
  have i10 : ((1 : Int32) = 0) = False := eq_false (by decide)
  have e2 := va_by (f := aF st.1) hD
  have e3 := va_winning (f := aF st.1) (g := aG st.1) hD
  have e4 : (nI (mcN (aF st.1) (nI d))).toInt64.toInt32 = nI (mcN (aF st.1) (nI d)) := L_back _
  have e5 : (lg_cmp (nI (mcN (aF st.1) (nI d))).toInt64 (nI (mcN (aF st.1) (nI d))).toInt64 = 0) = True := by
    rw [lg_eq]
    exact eq_true rfl
  have e6 : fL_in (nI (WN (aF st.1) (aG st.1) (nI d))).toInt64 0 (nI (mcN (aF st.1) (nI d))).toInt64 = some 1 := in_n (WN_mc hD) (by omega)
  unfold fL_kept_L621_B
  by_cases h0 : mcN (aF st.1) (nI d) = 0
  · have e7 : (0 < nI (mcN (aF st.1) (nI d))) = False := by
      rw [h0]
      exact eq_false (by decide)
    have e8 := va_bestX (f := aF st.1) (g := aG st.1) hD h0
    simp only [↓jn_p, ↓reduceIte, ↓bind_p, e1, i10, e2, e3, e4, e5, e6, e7, e8, xeS, hlp]
  · have e7 : (0 < nI (mcN (aF st.1) (nI d))) = True := eq_true (nI_lt (a := 0) (by omega) (by omega))
    simp only [↓jn_p, ↓reduceIte, ↓bind_p, e1, i10, e2, e3, e4, e5, e6, e7, hlp]
theorem sides_ok {st : PS} : fL_kept_L621 st (nI (sumN (goN (aF st.1)) 49)).toInt64 (nI (piN (aF st.1))).toInt64 3 1 0 (fun _ => 0) = some 1 := by
  unfold fL_kept_L621
  have h0 := mcN_le (aF st.1) 0
  have h1 := mcN_le (aF st.1) 1
  have hp := cp_pi (aF st.1)
  have hp2 : piN (aF st.1) ≤ 49 * 1 := sumN_le (fun i _ => by split; exact Nat.zero_le _; exact Nat.le_refl _)
  refine lp_for (fun d => ((1 : Int32), nI d, if d = 0 then (fun _ => 0) else if d = 1 then upd (fun _ => 0) 0 (nI (mcN (aF st.1) 0)) else upd (upd (fun _ => 0) 0 (nI (mcN (aF st.1) 0))) 1 (nI (mcN (aF st.1) 1)))) 2 (fun d hd self => ?_) (fun self => ?_) (by decide)
  · refine (sides_step hd (fun a b c => self (a, b, c))).trans ?_
    rcases (by omega : d = 0 ∨ d = 1) with q | q
    · rw [q]
      rfl
    · rw [q]
      rfl
  · show fL_kept_L621_B st _ _ (fun a b c => self (a, b, c)) 1 (nI 2) (upd (upd (fun _ => 0) 0 (nI (mcN (aF st.1) 0))) 1 (nI (mcN (aF st.1) 1))) = _
    unfold fL_kept_L621_B
    rw [jn_eq, if_pos (show (2 : Int32) ≤ nI 2 by decide), if_neg (show ¬ (1 : Int32) = 0 by decide)]
    have g0 : inB 0 2 = true := by decide
    have g1 : inB 1 2 = true := by decide
    rw [g0, g1, grd_t, grd_t]
    have u0 : upd (upd (fun _ => 0) 0 (nI (mcN (aF st.1) 0))) 1 (nI (mcN (aF st.1) 1)) (0 : Int32).toNatClampNeg = nI (mcN (aF st.1) 0) := rfl
    have u1 : upd (upd (fun _ => 0) 0 (nI (mcN (aF st.1) 0))) 1 (nI (mcN (aF st.1) 1)) (1 : Int32).toNatClampNeg = nI (mcN (aF st.1) 1) := rfl
    rw [u0, u1, nI_add, ← go_sum, if_pos (show lg_cmp (nI (sumN (goN (aF st.1)) 49)).toInt64 (nI (sumN (goN (aF st.1)) 49)).toInt64 = 0 by rw [lg_eq])]
    rw [va_pieces (Or.inl rfl), va_pieces (Or.inr rfl), L_add (by omega), hp, if_pos (show lg_cmp (nI (piN (aF st.1))).toInt64 (nI (piN (aF st.1))).toInt64 = 0 by rw [lg_eq])]
theorem kp_loop {st : PS} (pb : PB (aF st.1)) (ko : KO (aF st.1)) {a1 : Int32} {m : Nat} (hm : m < 49) (ha : a1 - a1 / 49 * 49 = nI m) : fL_kept_L243 st a1 50 1 0 0 0 = some 1 := by
  unfold fL_kept_L243
  refine (lp_for (fun i => ((1 : Int32), (nI (sumN (goN (aF st.1)) i)).toInt64, (nI (sumN (fun s => if aF st.1 s = 0 then 0 else 1) i)).toInt64, nI i)) 49 (fun i hi self => ?_) (fun self => ?_) (by decide))
  · refine (kp_step pb ko hm ha hi _ _ (fun a b c d => self (a, b, c, d))).trans ?_
    have h1 : sumN (goN (aF st.1)) i ≤ i * 12 := sumN_le (fun j hj => goN_le (by omega))
    have h2 := goN_le (b := aF st.1) hi
    have h3 : sumN (fun s => if aF st.1 s = 0 then 0 else 1) i ≤ i * 1 := sumN_le (fun j _ => by split; exact Nat.zero_le _; exact Nat.le_refl _)
    have h4 : (if aF st.1 i = 0 then 0 else 1) ≤ 1 := by
      split
      · exact Nat.zero_le _
      · exact Nat.le_refl _
    show self (1, (nI (sumN (goN (aF st.1)) i)).toInt64 + (nI (goN (aF st.1) i)).toInt64, (nI (sumN (fun s => if aF st.1 s = 0 then 0 else 1) i)).toInt64 + (nI (if aF st.1 i = 0 then 0 else 1)).toInt64, nI (i + 1)) = self (1, (nI (sumN (goN (aF st.1)) i + goN (aF st.1) i)).toInt64, (nI (sumN (fun s => if aF st.1 s = 0 then 0 else 1) i + (if aF st.1 i = 0 then 0 else 1))).toInt64, nI (i + 1))
    rw [L_add (by omega), L_add (by omega)]
  · exact (kp_end _ _ (fun a b c d => self (a, b, c, d))).trans sides_ok
set_option maxRecDepth 100000 in
set_option maxHeartbeats 8000000 in
theorem kept_ok {N : Nat} {st : PS} (hi : INV N st) (hN : N < 890) {a1 : Int32} (ha : ¬ a1 < 0) : fL_kept st a1 = some 1 := by
  obtain ⟨n, hn, rfl⟩ := nI_of ha
  obtain ⟨⟨pb, uk, ko, hkk, hg, hdm, h0, hok, hrun⟩, hlen, ⟨k, hk, hS⟩, hocc, hocc4, ⟨x, y, eN, eAm, hxy, hyN⟩, _⟩ := hi.1
  have hlp := kp_loop (st := st) pb ko (a1 := nI n) (Nat.mod_lt n (show 0 < 49 by decide)) (nI_mod (m := 49) hn (by decide))
  have e1 : (lg_cmp (v_byRounds (aF st.1)) (v_byRounds (aF st.1)) = 0) = True := by
    rw [lg_eq]
    exact eq_true rfl
  have e2 : fL_in ((aS st.1).toInt64) 0 4 = some 1 := by
    rw [hS]
    exact in_lit (m := 4) (by decide) hk (by decide)
  have e3 : fL_in ((nI (coN (qA (aF st.1)))).toInt64) 0 4 = some 1 := in_lit (m := 4) (by decide) (coQ_le _) (by decide)
  have e4 : fL_in ((nI (reN (qA (aF st.1)))).toInt64) 0 48 = some 1 := in_lit (m := 48) (by decide) (reQ_le _) (by decide)
  have e5 : (aAm st.1 < aN st.1) = False := by
    rw [eN, eAm]
    exact eq_false (nI_nlt hxy (by omega))
  have e6 : fL_in ((nI st.2.1.length).toInt64) 0 6 = some 1 := in_lit (m := 6) (by decide) hi.2.2.2.1 (by decide)
  have i10 : ((1 : Int32) = 0) = False := eq_false (by decide)
  have kS : ∀ c, kingN (aF st.1) = some c → (lg_cmp (v_kingAt (aF st.1)) (-9000000000000000003) = 0) = False ∧ (lg_cmp (v_pieceAt (aF st.1) (((v_kingAt (aF st.1)).toInt32) / 7) (((v_kingAt (aF st.1)).toInt32) - ((v_kingAt (aF st.1)).toInt32) / 7 * 7)) 3 = 0) = True ∧ fL_in (v_pressure (aF st.1)) 0 4 = some 1 := fun c hc => by
    refine ⟨?_, ?_, ?_⟩
    · rw [xeV]
      exact eq_false (k_ne hc)
    · rw [k_is hc, L_back, va_piece (king_lt c hc), (king_some hc).2]
      exact eq_true (by decide)
    · unfold v_pressure
      rw [hc]
      exact in_lit (m := 4) (by decide) (pr_le _ _) (by decide)
  have kN : kingN (aF st.1) = none → (lg_cmp (v_kingAt (aF st.1)) (-9000000000000000003) = 0) = True ∧ (nI (reN (qA (aF st.1))) = 0) = True ∧ (nI (coN (qA (aF st.1))) = 0) = True := fun hc => by
    refine ⟨?_, ?_, ?_⟩
    · rw [k_at hc]
      exact xeS
    · rw [reQ_none hc]
      exact eq_true rfl
    · rw [coQ_none hc]
      exact eq_true rfl
  unfold fL_kept
  by_cases hs0 : aS st.1 = 0
  · have q0 : (aS st.1 = 0) = True := eq_true hs0
    have q1 : (aS st.1 = 1) = False := by
      rw [hs0]
      exact eq_false (by decide)
    have q4 : (aS st.1 = 4) = False := by
      rw [hs0]
      exact eq_false (by decide)
    cases hc : kingN (aF st.1) with
    | none =>
      obtain ⟨z1, z2, z3⟩ := kN hc
      simp only [↓jn_p, ↓reduceIte, ↓bind_p, e1, e2, e3, e4, e5, e6, i10, q0, q1, q4, z1, z2, z3, hlp]
    | some c =>
      obtain ⟨z1, z2, z3⟩ := kS c hc
      simp only [↓jn_p, ↓reduceIte, ↓bind_p, e1, e2, e3, e4, e5, e6, i10, q0, q1, q4, z1, z2, z3, hlp]
  · have q0 : (aS st.1 = 0) = False := eq_false hs0
    cases eh : aH st.1 with
    | nil => exact absurd (h0.mpr eh) hs0
    | cons p t =>
      have ho := hocc p t eh
      have et : v_timesSeen (p :: t) = (nI (1 + occ p t)).toInt64 := rfl
      have t1 : (lg_cmp (v_timesSeen (p :: t)) 1 < 0) = False := by
        rw [et, lg_lt0, ← L_1, L_lt (by omega) (by decide)]
        exact eq_false (by omega)
      have t2 : (0 < lg_cmp (v_timesSeen (p :: t)) 3) = False := by
        rw [et, lg_gt0, show (3 : Int64) = (nI 3).toInt64 by decide, L_lt (by decide) (by omega)]
        exact eq_false (by omega)
      by_cases hs1 : aS st.1 = 1
      · obtain ⟨hlow, c, hc, hcc⟩ := hrun hs1
        rw [eh] at hlow
        have ho1 := hlow.1
        have q1 : (aS st.1 = 1) = True := eq_true hs1
        have q4 : (aS st.1 = 4) = False := by
          rw [hs1]
          exact eq_false (by decide)
        obtain ⟨z1, z2, z3⟩ := kS c hc
        have t3 : (0 ≤ lg_cmp (v_timesSeen (p :: t)) 3) = False := by
          rw [et, lg_ge0, show (3 : Int64) = (nI 3).toInt64 by decide, L_le (by decide) (by omega)]
          exact eq_false (by omega)
        have z4 : fL_isCorner ((v_kingAt (aF st.1)).toInt32) = some 0 := by
          rw [k_is hc, L_back, fc_isCorner c (king_lt c hc), hcc]
          rfl
        simp only [↓jn_p, ↓reduceIte, ↓bind_p, e1, e2, e3, e4, e5, e6, i10, q0, q1, q4, z1, z2, z3, z4, eh, t1, t2, t3, hlp]
      · have q1 : (aS st.1 = 1) = False := eq_false hs1
        by_cases hs4 : aS st.1 = 4
        · have q4 : (aS st.1 = 4) = True := eq_true hs4
          have t4 : (lg_cmp (v_timesSeen (p :: t)) 3 = 0) = True := by
            rw [et, hocc4 hs4 p t eh]
            exact eq_true (by decide)
          cases hc : kingN (aF st.1) with
          | none =>
            obtain ⟨z1, z2, z3⟩ := kN hc
            simp only [↓jn_p, ↓reduceIte, ↓bind_p, e1, e2, e3, e4, e5, e6, i10, q0, q1, q4, z1, z2, z3, eh, t1, t2, t4, hlp]
          | some c =>
            obtain ⟨z1, z2, z3⟩ := kS c hc
            simp only [↓jn_p, ↓reduceIte, ↓bind_p, e1, e2, e3, e4, e5, e6, i10, q0, q1, q4, z1, z2, z3, eh, t1, t2, t4, hlp]
        · have q4 : (aS st.1 = 4) = False := eq_false hs4
          cases hc : kingN (aF st.1) with
          | none =>
            obtain ⟨z1, z2, z3⟩ := kN hc
            simp only [↓jn_p, ↓reduceIte, ↓bind_p, e1, e2, e3, e4, e5, e6, i10, q0, q1, q4, z1, z2, z3, eh, t1, t2, hlp]
          | some c =>
            obtain ⟨z1, z2, z3⟩ := kS c hc
            simp only [↓jn_p, ↓reduceIte, ↓bind_p, e1, e2, e3, e4, e5, e6, i10, q0, q1, q4, z1, z2, z3, eh, t1, t2, hlp]

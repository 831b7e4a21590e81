/-! ===== the text's moves, on both sides ===== -/
theorem fit_num {c : Int32} {lo : Nat} (hlo : lo < 1000) (h1 : ¬ c < nI lo) (h2 : ¬ nI (lo + 6) < c) : ∃ k, k < 7 ∧ c = nI (lo + k) := by
  rw [Int32.lt_iff_toInt_lt, nI_toInt (by omega)] at h1 h2
  refine ⟨(c.toInt - lo).toNat, by omega, Int32.toInt_inj.mp ?_⟩
  rw [nI_toInt (by omega)]
  omega
theorem fit_col {c : Int32} {m : Nat} (hm : m = 0 ∨ m = 2) (h : fitB c m = true) : ∃ k, k < 7 ∧ c = nI (97 + k) := by
  unfold fitB at h
  rw [if_pos hm, Bool.and_eq_true, Bool.not_eq_true', Bool.not_eq_true', decide_eq_false_iff_not, decide_eq_false_iff_not] at h
  exact fit_num (lo := 97) (by decide) h.1 h.2
theorem fit_row {c : Int32} {m : Nat} (hm : m = 1 ∨ m = 3) (h : fitB c m = true) : ∃ k, k < 7 ∧ c = nI (49 + k) := by
  unfold fitB at h
  rw [if_neg (by omega), if_pos hm, Bool.and_eq_true, Bool.not_eq_true', Bool.not_eq_true', decide_eq_false_iff_not, decide_eq_false_iff_not] at h
  exact fit_num (lo := 49) (by decide) h.1 h.2
theorem sq_num : ∀ r, r < 7 → ∀ c, c < 7 → ((7 * (nI (49 + r) - 49)) + nI (97 + c)) - 97 = nI (7 * r + c) ∧ (7 * (nI (49 + r) - 49)) + (nI (97 + c) - 97) = nI (7 * r + c) := by decide +kernel
/-- the square that two signs tell -/
theorem sq_of {tf : Nat → Int32} {len i : Nat} (hl : len ≤ 60) (hi : i + 1 < len) (h0 : (i % 5 = 0 ∨ i % 5 = 2)) (hok : okF tf len) : ∃ x, x < 49 ∧ fX4_squareAt (nI len) tf (nI i) = some (nI x) ∧ (7 * (tf (i + 1) - 49)) + (tf i - 97) = nI x := by
  obtain ⟨c, hc, e1⟩ := fit_col h0 (hok i (by omega))
  obtain ⟨r, hr, e2⟩ := fit_row (m := (i + 1) % 5) (by omega) (hok (i + 1) hi)
  obtain ⟨n1, n2⟩ := sq_num r hr c hc
  refine ⟨7 * r + c, by omega, ?_, ?_⟩
  · unfold fX4_squareAt
    rw [nI_1, f_tcodeAt hl hi, Option.bind_some, f_tcodeAt hl (by omega), Option.bind_some, e1, e2, n1]
  · rw [e1, e2, n2]
def alB (sn mv : Int32) (f : Nat → Int32) (x y : Nat) : Bool := decide (sn = 1) && decide (sd (f x) = mv) && decide (reason f x y = 0)
theorem f_allowsMove {f : Nat → Int32} (sn mv : Int32) {x y : Nat} (hx : x < 49) (hy : y < 49) : fX7_allowsMove sn mv f (nI x) (nI y) = some (b01 (alB sn mv f x y)) := by
  unfold fX7_allowsMove alB
  by_cases h1 : sn = 1
  · rw [if_pos h1, f_at hx, Option.bind_some, f_side8, Option.bind_some, decide_eq_true h1]
    by_cases h2 : sd (f x) = mv
    · rw [if_pos h2, f_obstacle hx hy, Option.bind_some, decide_eq_true h2]
      by_cases h3 : reason f x y = 0
      · rw [if_pos h3, decide_eq_true h3]
        rfl
      · rw [if_neg h3, decide_eq_false h3]
        rfl
    · rw [if_neg h2, decide_eq_false h2]
      rfl
  · rw [if_neg h1, decide_eq_false h1]
    rfl
theorem AG_rsn {b c : Nat → Int32} (h : AG b c) {x y : Nat} (hx : x < 49) (hy : y < 49) : reason b x y = reason c x y := AG_reason h hx (seg_lt x hx y hy)
theorem alB_RP {f : Nat → Int32} {kk sg sn mv gm w1 w2 dg t1 t2 am : Int32} {row : Nat → Int32} {h : List HP} (hr : RP f kk sg sn mv gm w1 w2 dg t1 t2 am row h) {x y : Nat} (hx : x < 49) (hy : y < 49) : alB (row 50) (row 49) row x y = alB sn mv f x y := by
  obtain ⟨ag, pb, uk, ko, hkk, hsg, h52, h50, h49, _⟩ := hr
  unfold alB
  rw [h50, h49, ag x hx, AG_rsn ag hx hy]
/-- the surroundings while the trial plays; the trial -/
def EN (K : List HP → Option Nat → Prop) (M n so : Nat) (sx : Nat → SV) (hb : Nat → List HP) (qx : Nat → SV) (hq : Nat → List HP) (isk : Nat → Int32) (v : SV) (hn : List HP) (now book kept : Nat → Int32) (F L : Nat → Int64) (B : Nat → Int32) (nn : Nat) (C : List Nat) : Prop := RS K F L B C M v now hn ∧ BKR K F L B C M n so sx hb book ∧ KPR K F L B C M qx hq isk kept ∧ LV B C nn ∧ nn ≤ 4096
def TE (sg : Int32) (u : TC) (h : List HP) (tri : Nat → Int32) (F L : Nat → Int64) (B : Nat → Int32) (nn : Nat) (C : List Nat) : Prop := RP u.1 u.2.1 sg u.2.2.1 u.2.2.2.1 u.2.2.2.2.1 u.2.2.2.2.2.1 u.2.2.2.2.2.2.1 u.2.2.2.2.2.2.2.1 u.2.2.2.2.2.2.2.2.1 u.2.2.2.2.2.2.2.2.2.1 u.2.2.2.2.2.2.2.2.2.2 tri h ∧ ND F L B (fun i => i ∈ C) (tri 60) h ∧ LV B C nn
theorem EN_nt {K : List HP → Option Nat → Prop} {M n so : Nat} {sx : Nat → SV} {hb : Nat → List HP} {qx : Nat → SV} {hq : Nat → List HP} {isk : Nat → Int32} {v : SV} {hn : List HP} {now book kept now' book' kept' : Nat → Int32} {F L F' L' : Nat → Int64} {B B' : Nat → Int32} {nn n0 : Nat} {C : List Nat} {ks : List Int32} {a1 : Int32} {rk : Int32 → Int32} {mD : List Nat → List Nat} {rp : Int64 × Int64} (h : EN K M n so sx hb qx hq isk v hn now book kept F L B nn C) (hN : NTc ks a1 n book isk kept F L B nn rk mD F' L' B' n0 book' kept' rp) (hw : now 60 ∈ ks) (e : ∀ i, now' i = if i = 60 then rk (now 60) else now i) : EN K M n so sx hb qx hq isk v hn now' book' kept' F' L' B' (n0 + 1) (mD C) := by
  obtain ⟨h1, h2, h3, h4, h5⟩ := h
  have h0 := hN.1.1
  refine ⟨RS_to h1 (fun _ _ x => x) (Nat.le_refl _) (fun i hi => ?_) ?_, NT_BK hN h4 (fun _ _ x => x) (Nat.le_refl _) h2, NT_KP hN h4 (fun _ _ x => x) (Nat.le_refl _) h3, (hN.2.2.2.2 C h4).1, by omega⟩
  · rw [e i, if_neg (by omega)]
  · rw [e 60, if_pos rfl]
    exact (hN.2.2.2.2 C h4).2.2.1 _ _ (Or.inl hw) h1.2.1
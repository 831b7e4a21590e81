/-! ===== more of the class ===== -/
def alP (f : Nat → Int32) (p : Int32) (s : Nat) : Bool := if p = 3 then decide (kingN f = none) || decide (kingN f = some s) else decide (p = 0) || rst p s
theorem AG_alP {b c : Nat → Int32} (h : AG b c) (p : Int32) (s : Nat) : alP b p s = alP c p s := by
  unfold alP
  rw [AG_kingN h]
theorem f_allows8 (f : Nat → Int32) (p : Int32) {s : Nat} (hs : s < 49) : fX1_allowsPiece (enc (kingN f)) (nI s) p = some (b01 (alP f p s)) := by
  unfold fX1_allowsPiece alP
  by_cases e : p = 3
  · rw [if_pos e, if_pos e]
    simp only [enc_lt0 king_lt, enc_eq king_lt hs]
    by_cases e1 : kingN f = none
    · simp [e1, b01]
    · by_cases e2 : kingN f = some s
      · simp [e2, b01]
      · simp [e1, e2, b01]
  · rw [if_neg e, if_neg e]
    by_cases e1 : p = 0
    · rw [if_pos e1, decide_eq_true e1]
      rfl
    · rw [if_neg e1, f_mayStop p s hs, Option.bind_some, decide_eq_false e1]
      cases rst p s <;> rfl
theorem rst_3 (s : Nat) : rst 3 s = true := by
  unfold rst
  rfl
theorem inC_3 {p : Int32} (h : inC p 0 3 = true) : p = 0 ∨ p = 1 ∨ p = 2 ∨ p = 3 := by
  obtain ⟨k, hk, rfl⟩ := inC_num (m := 3) (by decide) h
  rcases (by omega : k = 0 ∨ k = 1 ∨ k = 2 ∨ k = 3) with e | e | e | e <;> subst e
  · exact Or.inl rfl
  · exact Or.inr (Or.inl rfl)
  · exact Or.inr (Or.inr (Or.inl rfl))
  · exact Or.inr (Or.inr (Or.inr rfl))
theorem AG_upd {b c : Nat → Int32} (h : AG b c) (s : Nat) (p : Int32) : AG (upd b s p) (upd c s p) := fun i hi => by
  unfold upd
  split
  · rfl
  · exact h i hi
theorem fit_congr {tf tg : Nat → Int32} {len : Nat} (h : ∀ i, i < len → tf i = tg i) : ∀ (m i : Nat), i + m = len → erF tf m i = erF tg m i
  | 0, _, _ => rfl
  | m + 1, i, e => by
    unfold erF
    rw [h i (by omega), fit_congr h m (i + 1) (by omega)]
theorem erN_congr {tf tg : Nat → Int32} {len : Nat} (h : ∀ i, i < len → tf i = tg i) : erN tf len = erN tg len := fit_congr h len 0 (by omega)
theorem tell_congr {tf tg : Nat → Int32} {len : Nat} (h : ∀ i, i < len → tf i = tg i) : tellB tf len = tellB tg len := by
  unfold tellB
  rw [erN_congr h]
theorem erN_tell {tf : Nat → Int32} {len : Nat} (h : tellB tf len = true) : erN tf len = len := by
  unfold tellB at h
  rw [Bool.and_eq_true, decide_eq_true_eq, decide_eq_true_eq] at h
  exact h.2
theorem slotC (a : Int32) : (inC a 0 1 = true ∧ ∃ j, j < 2 ∧ a = nI j) ∨ inC a 0 1 = false := by
  cases e : inC a 0 1 with
  | false => exact Or.inr rfl
  | true =>
    obtain ⟨k, hk, rfl⟩ := inC_num (m := 1) (by decide) e
    exact Or.inl ⟨rfl, k, by omega, rfl⟩
theorem f_cF2 (f0 : Nat → Int32) (sn mv gm : Int32) (lt : Option Nat) (w1 w2 dg t1 t2 am kk : Int32) {sg : Int32} {g : Bool} (hg : sg = b01 g) (f : Nat → Int32) : fX7_copyFrom f0 sn mv gm lt w1 w2 dg t1 t2 am kk sg f = some (cpb f f0, kk, sg, sn, mv, gm, lt, w1, w2, dg, t1, t2, am) := by
  subst hg
  exact f_cF f0 sn mv gm lt w1 w2 dg t1 t2 am kk g f
theorem f_pop {so n : Nat} (hs : so < 6) (hn : n < 6) (f : Nat → Int32) (kk sg sn mv gm : Int32) (lt : Option Nat) (w1 w2 dg t1 t2 am : Int32) (sx : Nat → SV) {g : Bool} (hg : (sx ((so + n) % 6)).2.2.1 = b01 g) : fX6_popInto (nI so) (nI (n + 1)) sn mv gm lt w1 w2 dg t1 t2 am kk sg f sx = some (cpb (sx ((so + n) % 6)).1 f, (sx ((so + n) % 6)).2.1, (sx ((so + n) % 6)).2.2.1, (sx ((so + n) % 6)).2.2.2.1, (sx ((so + n) % 6)).2.2.2.2.1, (sx ((so + n) % 6)).2.2.2.2.2.1, (sx ((so + n) % 6)).2.2.2.2.2.2.1, (sx ((so + n) % 6)).2.2.2.2.2.2.2.1, (sx ((so + n) % 6)).2.2.2.2.2.2.2.2.1, (sx ((so + n) % 6)).2.2.2.2.2.2.2.2.2.1, (sx ((so + n) % 6)).2.2.2.2.2.2.2.2.2.2.1, (sx ((so + n) % 6)).2.2.2.2.2.2.2.2.2.2.2.1, (sx ((so + n) % 6)).2.2.2.2.2.2.2.2.2.2.2.2, nI so, nI n) := by
  have hj : (so + n) % 6 < 6 := Nat.mod_lt _ (by decide)
  unfold fX6_popInto
  rw [if_neg (le0 (by omega)), nI_p (by omega), nI_add, mod6 _ (by omega), inB_t hj (by decide), grd_t]
  refine (if6 hj (fun j => (fX7_copyFrom f ((sx j).2.2.2.1) ((sx j).2.2.2.2.1) ((sx j).2.2.2.2.2.1) ((sx j).2.2.2.2.2.2.1) ((sx j).2.2.2.2.2.2.2.1) ((sx j).2.2.2.2.2.2.2.2.1) ((sx j).2.2.2.2.2.2.2.2.2.1) ((sx j).2.2.2.2.2.2.2.2.2.2.1) ((sx j).2.2.2.2.2.2.2.2.2.2.2.1) ((sx j).2.2.2.2.2.2.2.2.2.2.2.2) ((sx j).2.1) ((sx j).2.2.1) ((sx j).1)).bind (fun r => some (r.1, r.2.1, r.2.2.1, r.2.2.2.1, r.2.2.2.2.1, r.2.2.2.2.2.1, r.2.2.2.2.2.2.1, r.2.2.2.2.2.2.2.1, r.2.2.2.2.2.2.2.2.1, r.2.2.2.2.2.2.2.2.2.1, r.2.2.2.2.2.2.2.2.2.2.1, r.2.2.2.2.2.2.2.2.2.2.2.1, r.2.2.2.2.2.2.2.2.2.2.2.2, nI so, nI n))) none).trans ?_
  rw [f_cF2 _ _ _ _ _ _ _ _ _ _ _ _ hg _, Option.bind_some]
theorem chP_app (h : List HP) : ∀ nl : List HP, ∃ l, l.length = nl.length ∧ chP (nl ++ h) = l ++ chP h
  | [] => ⟨[], rfl, rfl⟩
  | p :: nl => by
    obtain ⟨l, h1, h2⟩ := chP_app h nl
    refine ⟨newPC p (nl ++ h) :: l, by rw [List.length_cons, List.length_cons, h1], ?_⟩
    show newPC p (nl ++ h) :: chP (nl ++ h) = _
    rw [h2]
    rfl
theorem f_cFS (f0 : Nat → Int32) (sn mv gm w1 w2 dg t1 t2 am kk : Int32) {sg : Int32} {g : Bool} (hg : sg = b01 g) (f : Nat → Int32) : fX7_copyFromS f0 sn mv gm w1 w2 dg t1 t2 am kk sg f = some (cpb f f0, kk, sg, sn, mv, gm, w1, w2, dg, t1, t2, am) := by
  subst hg
  unfold fX7_copyFromS
  rw [f_copyFrom, Option.bind_some]
theorem f_cFN (f0 : Nat → Int32) (sn mv gm w1 w2 dg t1 t2 am kk : Int32) {sg : Int32} {g : Bool} (hg : sg = b01 g) (f : Nat → Int32) : fX7_copyFromN f0 sn mv gm w1 w2 dg t1 t2 am kk sg f = some (cpb f f0, kk, sg, sn, mv, gm, w1, w2, dg, t1, t2, am) := by
  subst hg
  unfold fX7_copyFromN
  rw [f_copyFrom, Option.bind_some]
theorem m1_sm {sm : Nat} (h : sm ≤ 48) : ¬ (-1 : Int32) = nI sm := by
  rw [m1_nI (by omega)]
  exact id
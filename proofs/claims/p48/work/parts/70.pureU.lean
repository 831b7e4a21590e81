/-! ===== pure part U: the positions of a game ===== -/
abbrev HP : Type := (Nat → Int32) × Int32
def okP (p : HP) : Prop := PB p.1 ∧ isD p.2
def lk (p q : HP) : Bool := decide (cpos q.1 q.2 = cpos p.1 p.2)
def occ (p : HP) (t : List HP) : Nat := (t.filter (lk p)).length
theorem occ_le (p : HP) (t : List HP) : occ p t ≤ t.length := List.length_filter_le _ _
theorem occ_cons (p q : HP) (t : List HP) : occ p (q :: t) = (if lk p q then 1 else 0) + occ p t := by
  unfold occ
  rw [List.filter_cons]
  split
  · rw [List.length_cons]; omega
  · omega
theorem occ_like {p q : HP} (h : lk p q = true) (t : List HP) : occ q t = occ p t := by
  have h := of_decide_eq_true h
  unfold occ lk
  rw [h]
/-- the class's positions -/
def chP : List HP → List PC
  | [] => []
  | p :: t => ((cpos p.1 p.2).1, (cpos p.1 p.2).2.1, (cpos p.1 p.2).2.2, nI (1 + occ p t)) :: chP t
theorem chP_len : ∀ t : List HP, (chP t).length = t.length
  | [] => rfl
  | _ :: t => by
    show (chP t).length + 1 = t.length + 1
    rw [chP_len t]
theorem tin_occ (p : HP) : ∀ t : List HP, tin (chP t) (cpos p.1 p.2).1 (cpos p.1 p.2).2.1 (cpos p.1 p.2).2.2 = nI (occ p t)
  | [] => rfl
  | q :: t => by
    show (if (cpos q.1 q.2).1 = (cpos p.1 p.2).1 ∧ (cpos q.1 q.2).2.1 = (cpos p.1 p.2).2.1 ∧ (cpos q.1 q.2).2.2 = (cpos p.1 p.2).2.2 then nI (1 + occ q t) else tin (chP t) _ _ _) = _
    have e : ((cpos q.1 q.2).1 = (cpos p.1 p.2).1 ∧ (cpos q.1 q.2).2.1 = (cpos p.1 p.2).2.1 ∧ (cpos q.1 q.2).2.2 = (cpos p.1 p.2).2.2) = (lk p q = true) := by
      unfold lk
      rw [decide_eq_true_eq, eq_iff_iff]
      constructor
      · rintro ⟨h1, h2, h3⟩
        exact Prod.ext h1 (Prod.ext h2 h3)
      · intro h
        rw [h]
        exact ⟨rfl, rfl, rfl⟩
    simp only [e]
    rw [tin_occ p t, occ_cons]
    by_cases h : lk p q = true
    · rw [if_pos h, if_pos h, occ_like h]
    · rw [if_neg h, if_neg h, Nat.zero_add]
/-- the reference's nodes -/
def ND (F L : Nat → Int64) (B : Nat → Int32) (C : Nat → Prop) : Int32 → List HP → Prop
  | k, [] => k = -1
  | k, p :: t => ∃ i, C i ∧ k = nI i ∧ F i = (rpos p.1 p.2).1 ∧ L i = (rpos p.1 p.2).2 ∧ ND F L B C (B i) t
theorem lg_eq {a b : Int64} : (lg_cmp a b = 0) = (a = b) := by
  unfold lg_cmp
  rw [eq_iff_iff]
  constructor
  · intro h
    split at h
    · exact absurd h (by decide)
    · split at h
      · assumption
      · exact absurd h (by decide)
  · rintro rfl
    simp
theorem lk_r {p q : HP} (hp : okP p) (hq : okP q) : (lk p q = true) = ((rpos q.1 q.2).1 = (rpos p.1 p.2).1 ∧ (rpos q.1 q.2).2 = (rpos p.1 p.2).2) := by
  unfold lk
  rw [decide_eq_true_eq, cpos_eq hq.1 hp.1, ← rpos_eq hq.1 hp.1 hq.2 hp.2, eq_iff_iff]
  constructor
  · intro h
    rw [h]
    exact ⟨rfl, rfl⟩
  · rintro ⟨h1, h2⟩
    exact Prod.ext h1 h2
theorem lk_self (p : HP) : lk p p = true := decide_eq_true rfl
theorem ND_mono {F L : Nat → Int64} {B : Nat → Int32} {C D : Nat → Prop} (h : ∀ i, C i → D i) : ∀ (t : List HP) (k : Int32), ND F L B C k t → ND F L B D k t
  | [], _, h0 => h0
  | _ :: t, _, ⟨i, h1, h2, h3, h4, h5⟩ => ⟨i, h i h1, h2, h3, h4, ND_mono h t _ h5⟩
/-- the nodes may be changed where none is live -/
theorem ND_same {F L F' L' : Nat → Int64} {B B' : Nat → Int32} {C : Nat → Prop} (h : ∀ i, C i → F' i = F i ∧ L' i = L i ∧ B' i = B i) : ∀ (t : List HP) (k : Int32), ND F L B C k t → ND F' L' B' C k t
  | [], _, h0 => h0
  | _ :: t, _, ⟨i, h1, h2, h3, h4, h5⟩ => ⟨i, h1, h2, (h i h1).1.trans h3, (h i h1).2.1.trans h4, by
    rw [(h i h1).2.2]
    exact ND_same h t _ h5⟩

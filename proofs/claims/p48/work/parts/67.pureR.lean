/-! ===== pure part R: what the reference tells of the king's way ===== -/
theorem IW_0 {q : List (Nat × Nat)} {T : Nat} {ways : Nat → Int32} (h : ∀ t, t < 49 → ways t = twq q T t) : IW q T (fun _ => False) ways := by
  intro t ht
  refine ⟨fun hr => Or.inr ⟨?_, id⟩, fun _ => h t ht⟩
  rw [h t ht]
  unfold twq
  rw [hr]
  exact if_neg (by omega)
theorem IW_end {q : List (Nat × Nat)} {T : Nat} {S : Nat → Prop} {ways : Nat → Int32} (h : IW q T S ways) (hS : ∀ t, t < 49 → rd q t = some (T + 1) → S t) : ∀ t, t < 49 → ways t = twq q (T + 1) t := by
  intro t ht
  by_cases hr : rd q t = some (T + 1)
  · have h1 : twq q (T + 1) t = nI (T + 1) := by
      unfold twq
      rw [hr]
      exact if_pos (Nat.le_refl _)
    rw [h1]
    rcases (h t ht).1 hr with h2 | h2
    · exact h2
    · exact absurd (hS t ht hr) h2.2
  · rw [(h t ht).2 hr]
    unfold twq
    cases h3 : rd q t with
    | none => rfl
    | some n =>
      have : n ≠ T + 1 := fun e => hr (by rw [h3, e])
      show (if n ≤ T then nI n else -1) = if n ≤ T + 1 then nI n else -1
      by_cases h4 : n ≤ T
      · rw [if_pos h4, if_pos (by omega)]
      · rw [if_neg h4, if_neg (by omega)]
/-! the least number of moves to a corner -/
def lsO (a c : Option Nat) : Option Nat := match c with
  | none => a
  | some m => match a with
    | none => some m
    | some n => if m < n then some m else some n
def kmF (q : List (Nat × Nat)) : Nat → Option Nat
  | 0 => none
  | i + 1 => if isCo i then lsO (kmF q i) (rd q i) else kmF q i
theorem lsO_lt {a c : Option Nat} {n : Nat} (ha : ∀ t, a = some t → t < n) (hc : ∀ t, c = some t → t < n) : ∀ t, lsO a c = some t → t < n := by
  intro t h
  cases c with
  | none => exact ha t h
  | some m =>
    cases a with
    | none => exact hc t h
    | some k =>
      have h : (if m < k then some m else some k) = some t := h
      split at h
      · exact hc t h
      · exact ha t h
theorem rd_lt {b : Nat → Int32} {o : Option Nat} {q : List (Nat × Nat)} (hq : MD b o q) (t : Nat) : ∀ n, rd q t = some n → n < 49 := fun n h => by
  have := (hq.2.1 _ (rd_mem h)).2
  omega
theorem kmF_lt {b : Nat → Int32} {o : Option Nat} {q : List (Nat × Nat)} (hq : MD b o q) : ∀ i t, kmF q i = some t → t < 49
  | 0, _, h => nomatch h
  | i + 1, t, h => by
    unfold kmF at h
    split at h
    · exact lsO_lt (kmF_lt hq i) (rd_lt hq i) t h
    · exact kmF_lt hq i t h
theorem kmF_49 (q : List (Nat × Nat)) : kmF q 49 = lsO (lsO (lsO (lsO none (rd q 0)) (rd q 6)) (rd q 42)) (rd q 48) := rfl
def coN (q : List (Nat × Nat)) : Nat := sumN (fun s => if isCo s && decide (rd q s = some 1) then 1 else 0) 49
def reN (q : List (Nat × Nat)) : Nat := sumN (fun s => if rd q s = none ∨ rd q s = some 0 then 0 else 1) 49
theorem enc_1 {o : Option Nat} (ho : ∀ t, o = some t → t < 49) : (enc o = 1) = (o = some 1) := enc_eq ho (by decide : 1 < 49)
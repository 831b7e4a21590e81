/-! ===== pure part Q: the reference measures the king's way ===== -/
def MD (b : Nat → Int32) (o : Option Nat) (q : List (Nat × Nat)) : Prop := (qk q).Nodup ∧ (∀ e ∈ q, e.1 < 49 ∧ e.2 ≤ 48) ∧ (∀ s, rd q s = some 0 ↔ o = some s) ∧ (∀ e ∈ q, ∀ m, e.2 = m + 1 → ∃ e' ∈ q, e'.2 = m ∧ adj b o e'.1 e.1 = true) ∧ (∀ e ∈ q, ∀ t, t < 49 → adj b o e.1 t = true → ∃ n, (t, n) ∈ q ∧ n ≤ e.2 + 1)
theorem IsD.md {b : Nat → Int32} {s0 : Nat} {q : List (Nat × Nat)} (h : IsD b (some s0) s0 q) : MD b (some s0) q := by
  obtain ⟨h1, h2, ⟨h3, h3b⟩, h4, h5⟩ := h
  refine ⟨h1, fun e he => ⟨(h2 e he).1, (h2 e he).2.1⟩, fun s => ⟨fun h => ?_, fun h => ?_⟩, h4, h5⟩
  · have := h3b _ (rd_mem h) rfl
    rw [← this]
  · rw [← Option.some.inj h]
    exact mem_rd h1 h3
theorem MD_nil {b : Nat → Int32} : MD b none [] := ⟨List.nodup_nil, fun e he => absurd he (by simp), fun s => ⟨fun h => (nomatch h), fun h => (nomatch h)⟩, fun e he => absurd he (by simp), fun e he => absurd he (by simp)⟩
/-- what is told after some rounds -/
def twq (q : List (Nat × Nat)) (T t : Nat) : Int32 := match rd q t with
  | some n => if n ≤ T then nI n else -1
  | none => -1
def IW (q : List (Nat × Nat)) (T : Nat) (S : Nat → Prop) (ways : Nat → Int32) : Prop := ∀ t, t < 49 → (rd q t = some (T + 1) → ways t = nI (T + 1) ∨ (ways t = -1 ∧ ¬ S t)) ∧ (rd q t ≠ some (T + 1) → ways t = twq q T t)
theorem IW_touch {q : List (Nat × Nat)} {T : Nat} {S : Nat → Prop} {ways : Nat → Int32} (h : IW q T S ways) {t n : Nat} (ht : t < 49) (hT : T < 49) (hr : rd q t = some n) (hn : n ≤ T + 1) : IW q T (fun s => S s ∨ s = t) (upd ways t (if ways t = -1 then nI (T + 1) else ways t)) := by
  intro s hs
  by_cases e : s = t
  · subst e
    have h1 := h s hs
    unfold upd
    rw [if_pos rfl]
    refine ⟨fun hr1 => ?_, fun hr1 => ?_⟩
    · rcases h1.1 hr1 with h2 | h2
      · left
        rw [h2, if_neg (by rw [nI_m1 (by omega)]; exact id)]
      · left
        rw [if_pos h2.1]
    · have h2 := h1.2 hr1
      have h3 : n ≤ T := by
        rw [hr] at hr1
        have : n ≠ T + 1 := fun e => hr1 (by rw [e])
        omega
      have h4 : twq q T s = nI n := by
        unfold twq
        rw [hr]
        exact if_pos h3
      rw [h2, h4, if_neg (by rw [nI_m1 (by omega)]; exact id)]
  · have h1 := h s hs
    unfold upd
    rw [if_neg e]
    refine ⟨fun hr1 => ?_, h1.2⟩
    rcases h1.1 hr1 with h2 | h2
    · exact Or.inl h2
    · exact Or.inr ⟨h2.1, fun h3 => h3.elim h2.2 e⟩
theorem IW_mono {q : List (Nat × Nat)} {T : Nat} {S S2 : Nat → Prop} {ways : Nat → Int32} (h : IW q T S ways) (hs : ∀ t, t < 49 → S2 t → S t) : IW q T S2 ways := fun t ht => ⟨fun hr => ((h t ht).1 hr).imp id (fun h2 => ⟨h2.1, fun h3 => h2.2 (hs t ht h3)⟩), (h t ht).2⟩
theorem Fr_eq {row : Nat → Int32} {o : Option Nat} (ho : ∀ t, o = some t → t < 49) {t : Nat} (ht : t < 49) {β : Type} (x y : β) : (if row t = 0 then x else if nI t = enc o then x else y) = if Fr row o t = true then x else y := by
  have e : (nI t = enc o) = (o = some t) := by
    rw [← enc_eq ho ht, eq_iff_iff]
    exact ⟨Eq.symm, Eq.symm⟩
  simp only [e]
  unfold Fr
  by_cases h1 : row t = 0
  · simp [h1]
  · by_cases h2 : o = some t
    · simp [h2]
    · simp [h1, h2]
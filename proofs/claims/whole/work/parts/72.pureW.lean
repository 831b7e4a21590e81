/-! ===== pure part W: the reference marks the nodes that are live ===== -/
/-- what is marked is closed, but for nodes that wait for K -/
def ClK (B : Nat → Int32) (C : Nat → Prop) (mv : Nat → Int32) (K : Int32) : Prop := ∀ i, C i → mv i = 0 → B i = -1 ∨ B i = K ∨ ∃ j, C j ∧ B i = nI j ∧ mv j = 0
/-- marks are 0, all else -1, and only live nodes are marked -/
def MkC (C : Nat → Prop) (mv : Nat → Int32) : Prop := ∀ i, i < 4096 → mv i = -1 ∨ (mv i = 0 ∧ C i)
def MkK (C : Nat → Prop) (mv : Nat → Int32) (k : Int32) : Prop := k = -1 ∨ ∃ i, C i ∧ k = nI i ∧ mv i = 0
theorem mk_S (B : Nat → Int32) (M : Nat) (k : Int32) (mv : Nat → Int32) : fX9_mark_L2 B (M + 1) k mv = fX9_mark_L2_B B (fX9_mark_L2 B M) k mv := rfl
theorem mark_run {F L : Nat → Int64} {B : Nat → Int32} {C : Nat → Prop} (hC : ∀ i, C i → i < 4096) : ∀ (t : List HP) (k : Int32), ND F L B C k t → ∀ mv : Nat → Int32, MkC C mv → ClK B C mv k → ∃ mv', MkC C mv' ∧ ClK B C mv' (-1) ∧ (∀ i, mv i = 0 → mv' i = 0) ∧ MkK C mv' k ∧ ∀ N, t.length + 1 ≤ N → fX9_mark_L2 B N k mv = some mv'
  | [], k, h, mv, hm, hcl => by
    have hk : k = -1 := h
    subst hk
    refine ⟨mv, hm, hcl, fun _ h => h, Or.inl rfl, fun N hN => ?_⟩
    obtain ⟨M, rfl⟩ : ∃ M, N = M + 1 := ⟨N - 1, by omega⟩
    rw [mk_S]
    unfold fX9_mark_L2_B
    rw [if_pos rfl]
  | p :: t, k, h, mv, hm, hcl => by
    obtain ⟨i, hi, rfl, _, _, h5⟩ := h
    have hi2 := hC i hi
    rcases hm i hi2 with e | e
    · have hm2 : MkC C (upd mv i 0) := fun j hj => by
        unfold upd
        by_cases ej : j = i
        · rw [if_pos ej]
          exact Or.inr ⟨rfl, ej ▸ hi⟩
        · rw [if_neg ej]
          exact hm j hj
      have up : ∀ j, mv j = 0 → upd mv i 0 j = 0 := fun j hj => by
        unfold upd
        split
        · rfl
        · exact hj
      have hii : upd mv i 0 i = 0 := by
        unfold upd
        rw [if_pos rfl]
      have hcl2 : ClK B C (upd mv i 0) (B i) := fun j hj h0 => by
        by_cases ej : j = i
        · rw [ej]
          exact Or.inr (Or.inl rfl)
        · have h0 : mv j = 0 := by
            unfold upd at h0
            rwa [if_neg ej] at h0
          rcases hcl j hj h0 with h1 | h1 | ⟨j2, h1, h2, h3⟩
          · exact Or.inl h1
          · exact Or.inr (Or.inr ⟨i, hi, h1, hii⟩)
          · exact Or.inr (Or.inr ⟨j2, h1, h2, up j2 h3⟩)
      obtain ⟨mv', g1, g2, g3, g4, g5⟩ := mark_run hC t (B i) h5 (upd mv i 0) hm2 hcl2
      refine ⟨mv', g1, g2, fun j hj => g3 j (up j hj), Or.inr ⟨i, hi, rfl, g3 i hii⟩, fun N hN => ?_⟩
      obtain ⟨M, rfl⟩ : ∃ M, N = M + 1 := ⟨N - 1, by omega⟩
      rw [mk_S]
      unfold fX9_mark_L2_B
      rw [if_neg (by rw [nI_m1 (by omega)]; exact id), inB_t hi2 (by decide), grd_t, grd_t, grd_t, bnd_eq, nI_clamp (by omega), if_pos e]
      exact g5 M (by rw [List.length_cons] at hN; omega)
    · refine ⟨mv, hm, fun j hj h0 => ?_, fun _ h => h, Or.inr ⟨i, hi, rfl, e.1⟩, fun N hN => ?_⟩
      · rcases hcl j hj h0 with h1 | h1 | h1
        · exact Or.inl h1
        · exact Or.inr (Or.inr ⟨i, hi, h1, e.1⟩)
        · exact Or.inr (Or.inr h1)
      · obtain ⟨M, rfl⟩ : ∃ M, N = M + 1 := ⟨N - 1, by omega⟩
        rw [mk_S]
        unfold fX9_mark_L2_B
        rw [if_neg (by rw [nI_m1 (by omega)]; exact id), inB_t hi2 (by decide), grd_t, nI_clamp (by omega), if_neg (by rw [e.1]; decide)]
theorem f_mark {F L : Nat → Int64} {B : Nat → Int32} {C : Nat → Prop} (hC : ∀ i, C i → i < 4096) {t : List HP} (hl : t.length < 4000) {k : Int32} (h : ND F L B C k t) {mv : Nat → Int32} (hm : MkC C mv) (hcl : ClK B C mv (-1)) : ∃ mv', MkC C mv' ∧ ClK B C mv' (-1) ∧ (∀ i, mv i = 0 → mv' i = 0) ∧ MkK C mv' k ∧ fX9_mark B mv k = some mv' := by
  obtain ⟨mv', g1, g2, g3, g4, g5⟩ := mark_run hC t k h mv hm (fun i hi h0 => (hcl i hi h0).elim Or.inl (fun h => h.elim Or.inl (fun h => Or.inr (Or.inr h))))
  exact ⟨mv', g1, g2, g3, g4, g5 4100 (by omega)⟩

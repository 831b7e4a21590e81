/-! ===== a turn ends, and what always holds is kept ===== -/
def TI (N : Nat) (x : Option (Int64 × PS)) : Prop := ∃ r, x = some r ∧ INV N r.2
theorem TI_jn {N : Nat} {α : Type} {K : α → Option (Int64 × PS)} {body : (α → Option (Int64 × PS)) → Option (Int64 × PS)} (P : α → Prop) (hK : ∀ a, P a → TI N (K a)) (hb : ∀ J, (∀ a, P a → TI N (J a)) → TI N (body J)) : TI N (jn K body) := hb K hK
theorem TI_jn2 {N : Nat} {α β : Type} {K : α → β → Option (Int64 × PS)} {body : (α → β → Option (Int64 × PS)) → Option (Int64 × PS)} (P : α → β → Prop) (hK : ∀ a b, P a b → TI N (K a b)) (hb : ∀ J, (∀ a b, P a b → TI N (J a b)) → TI N (body J)) : TI N (jn K body) := hb K hK
theorem TI_jn0 {N : Nat} {K : Option (Int64 × PS)} {body : Option (Int64 × PS) → Option (Int64 × PS)} (hK : TI N K) (hb : ∀ J, TI N J → TI N (body J)) : TI N (jn K body) := hb K hK
theorem TI_b {N : Nat} {x : Int64 × PS} (h : INV N x.2) : TI N (bnd x (fun r => some (r.1, r.2))) := ⟨_, rfl, h⟩
theorem TI_c {N : Nat} {x : Int32 × PS} (h : INV N x.2) : TI N (bnd x (fun r => some (r.1.toInt64, r.2))) := ⟨_, rfl, h⟩
theorem TI_o {N : Nat} {x : Option (Int64 × PS)} (h : TI N x) : TI N (x.bind (fun r => some (r.1, r.2))) := by
  obtain ⟨r, e, hr⟩ := h
  rw [e]
  exact ⟨_, rfl, hr⟩
theorem TI_m {N M : Nat} (h : N ≤ M) {x : Option (Int64 × PS)} (hx : TI N x) : TI M x := by
  obtain ⟨r, e, hr⟩ := hx
  exact ⟨r, e, hr.mono h⟩
theorem TI_if {N : Nat} {c : Prop} [Decidable c] {x y : Option (Int64 × PS)} (h1 : c → TI N x) (h2 : ¬ c → TI N y) : TI N (if c then x else y) := by
  by_cases h : c
  · rw [if_pos h]
    exact h1 h
  · rw [if_neg h]
    exact h2 h
theorem i_types {N : Nat} {st : PS} (h : INV N st) (a1 : Int32) : ∃ r, fL_types st a1 = some r ∧ INV N r.2 := by
  unfold fL_types
  simp only [bnd_eq]
  split
  · exact ⟨_, rfl, i_append h _⟩
  · split
    · exact ⟨_, rfl, i_append (i_append h _) _⟩
    · exact ⟨_, rfl, i_append (i_append h _) _⟩
theorem i_told {N : Nat} (hN : N < 880) {st : PS} (h : INV N st) (a1 : Int32) : TI (N + 12) (fL_told st a1) := by
  unfold fL_told
  have h0 := i_clearBuffer h
  rw [bnd_eq]
  refine TI_jn (fun _ => True) (fun t3 _ => ?_) (fun J hJ => ?_)
  rotate_left
  · split
    · exact hJ _ trivial
    · exact hJ _ trivial
  refine TI_jn (fun _ => True) (fun t7 _ => ?_) (fun J hJ => ?_)
  rotate_left
  · split
    · exact hJ _ trivial
    · exact hJ _ trivial
  refine TI_jn (fun _ => True) (fun t11 _ => ?_) (fun J hJ => ?_)
  rotate_left
  · split
    · exact hJ _ trivial
    · rename_i hz
      rw [decide_eq_true hz, grd_t]
      exact hJ _ trivial
  refine TI_jn2 (fun _ zt => INV N zt) (fun t zt hz => ?_) (fun J hJ => ?_)
  · split
    · exact ⟨_, rfl, hz.mono (by omega)⟩
    · exact TI_o (i_play hN hz)
  refine TI_jn (fun zt => INV N zt) (fun zt hz => hJ _ _ hz) (fun J2 hJ2 => ?_)
  split
  · exact hJ2 _ h0
  obtain ⟨r, e, hr⟩ := i_types h0 (t11 / 49)
  rw [e, Option.bind_some]
  split
  · exact hJ2 _ hr
  obtain ⟨r2, e2, hr2⟩ := i_types hr (t11 - t11 / 49 * 49)
  rw [e2, Option.bind_some]
  split
  · exact hJ2 _ hr2
  refine TI_jn (fun zt => INV N zt) (fun zt hz => hJ _ _ hz) (fun J3 hJ3 => ?_)
  split
  · exact hJ3 _ hr2
  rw [bnd_eq]
  have h5 := i_append hr2 59
  split
  · exact hJ2 _ h5
  obtain ⟨r3, e3, hr3⟩ := i_types h5 (a1 - a1 / 49 * 49)
  rw [e3, Option.bind_some]
  split
  · exact hJ2 _ hr3
  obtain ⟨r4, e4, hr4⟩ := i_types hr3 ((a1 / 49) - (a1 / 49) / 49 * 49)
  rw [e4, Option.bind_some]
  split
  · exact hJ2 _ hr4
  · exact hJ3 _ hr4
theorem i_act {N : Nat} (hN : N < 880) {st : PS} (h : INV N st) (a1 a2 : Int32) : TI (N + 12) (fL_act st a1 a2) := by
  have hN2 : N < 890 := by omega
  have hle : N ≤ N + 12 := by omega
  have hmv : ∀ x y, TI (N + 12) (o_move st x y) := fun x y => TI_m (by omega) (i_move hN2 h x y)
  unfold fL_act
  refine TI_jn (fun _ => True) (fun t2 _ => ?_) (fun J hJ => ?_)
  rotate_left
  · refine TI_if (fun hz => ?_) (fun hz => ?_)
    · exact hJ _ trivial
    · exact hJ _ trivial
  refine TI_jn (fun _ => True) (fun t6 _ => ?_) (fun J hJ => ?_)
  rotate_left
  · refine TI_if (fun hz => ?_) (fun hz => ?_)
    · exact hJ _ trivial
    · rw [decide_eq_true hz, grd_t]
      exact hJ _ trivial
  refine TI_if (fun hz => ?_) (fun hz => ?_)
  · refine TI_if (fun hz => ?_) (fun hz => ?_)
    · exact TI_b ((i_start hN2 h _).mono hle)
    · refine TI_jn (fun _ => True) (fun t _ => TI_b ((i_put hN2 h _ _ _).mono hle)) (fun J hJ => ?_)
      refine TI_if (fun hz => ?_) (fun hz => ?_)
      · exact hJ _ trivial
      · exact hJ _ trivial
  refine TI_if (fun hz => ?_) (fun hz => ?_)
  · refine TI_if (fun hz => ?_) (fun hz => ?_)
    · exact TI_c ((i_clearBoard hN2 h).mono hle)
    · exact TI_o (hmv _ _)
  refine TI_if (fun hz => ?_) (fun hz => ?_)
  · refine TI_if (fun hz => ?_) (fun hz => ?_)
    · rw [bnd_eq]
      have h1 := (i_turnStrong h).mono hle
      refine TI_if (fun hz => ?_) (fun hz => ?_)
      · exact ⟨_, rfl, h1⟩
      · exact ⟨_, rfl, h1⟩
    · exact TI_c ((i_setUp hN2 h).mono hle)
  refine TI_if (fun hz => ?_) (fun hz => ?_)
  · exact TI_o (i_told hN h _)
  refine TI_if (fun hz => ?_) (fun hz => ?_)
  · exact TI_o (i_told hN h _)
  refine TI_if (fun hz => ?_) (fun hz => ?_)
  · exact TI_b ((i_undo h).mono hle)
  refine TI_if (fun hz => ?_) (fun hz => ?_)
  · exact TI_b ((i_undo h).mono hle)
  refine TI_if (fun hz => ?_) (fun hz => ?_)
  · refine TI_if (fun hz => ?_) (fun hz => ?_)
    · exact TI_b ((i_keep h _).mono hle)
    · exact TI_b ((i_goBack h _).mono hle)
  refine TI_if (fun hz => ?_) (fun hz => ?_)
  · refine TI_if (fun hz => ?_) (fun hz => ?_)
    · exact TI_c ((i_setUp hN2 h).mono hle)
    · exact ⟨_, rfl, h.mono hle⟩
  refine TI_jn0 ?_ (fun J hJ => ?_)
  · refine TI_if (fun hz => ?_) (fun hz => ?_)
    · exact TI_c ((i_setUp hN2 h).mono hle)
    · exact TI_c ((i_clearBoard hN2 h).mono hle)
  · refine TI_if (fun hz => ?_) (fun hz => ?_)
    · exact hJ
    · refine TI_if (fun hz => ?_) (fun hz => ?_)
      · exact TI_o (hmv _ _)
      · exact hJ

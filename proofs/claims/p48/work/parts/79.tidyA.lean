/-! ===== the reference tidies, A: what is marked, and how it is moved together ===== -/
/-- live nodes: within, and closed -/
def LV (B : Nat → Int32) (C : List Nat) (nn : Nat) : Prop := ∀ i ∈ C, i < nn ∧ (B i = -1 ∨ ∃ j ∈ C, j < i ∧ B i = nI j)
def nm (mv : Nat → Int32) (k : Nat) : Nat := sumN (fun i => if mv i = 0 then 1 else 0) k
theorem nm_S (mv : Nat → Int32) (k : Nat) : nm mv (k + 1) = nm mv k + (if mv k = 0 then 1 else 0) := rfl
theorem nm_le (mv : Nat → Int32) : ∀ k, nm mv k ≤ k
  | 0 => Nat.le_refl _
  | k + 1 => by
    have := nm_le mv k
    rw [nm_S]
    split <;> omega
theorem nm_mono (mv : Nat → Int32) {i : Nat} : ∀ k, i ≤ k → nm mv i ≤ nm mv k
  | 0, h => by
    have : i = 0 := by omega
    rw [this]
    exact Nat.le_refl _
  | k + 1, h => by
    by_cases e : i = k + 1
    · rw [e]; exact Nat.le_refl _
    · have := nm_mono mv k (i := i) (by omega)
      rw [nm_S]
      omega
theorem nm_lt {mv : Nat → Int32} {i k : Nat} (h : i < k) (h0 : mv i = 0) : nm mv i < nm mv k := by
  have h1 := nm_mono mv (i := i + 1) k (by omega)
  rw [nm_S, if_pos h0] at h1
  omega
theorem nm_C {mv : Nat → Int32} : ∀ (k : Nat) (C : List Nat), (∀ i, i < k → mv i = 0 → i ∈ C) → nm mv k ≤ C.length
  | 0, _, _ => Nat.zero_le _
  | k + 1, C, h => by
    rw [nm_S]
    by_cases e : mv k = 0
    · rw [if_pos e]
      have hk := h k (by omega) e
      have h1 := nm_C k (C.erase k) (fun i hi h0 => (List.mem_erase_of_ne (by omega)).mpr (h i (by omega) h0))
      rw [List.length_erase_of_mem hk] at h1
      have := List.length_pos_of_mem hk
      omega
    · rw [if_neg e]
      exact nm_C k C (fun i hi h0 => h i (by omega) h0)
/-- a node's number behind the move -/
def rkN (mv : Nat → Int32) (b : Int32) : Int32 := if b = -1 then -1 else nI (nm mv b.toNatClampNeg)
theorem rkN_m1 (mv : Nat → Int32) : rkN mv (-1) = -1 := if_pos rfl
theorem rkN_nI (mv : Nat → Int32) {i : Nat} (h : i < 4096) : rkN mv (nI i) = nI (nm mv i) := by
  unfold rkN
  rw [if_neg (by rw [nI_m1 (by omega)]; exact id), nI_clamp (by omega)]
abbrev CT : Type := (Nat → Int64) × (Nat → Int64) × (Nat → Int32) × (Nat → Int32)
def cmpS (mv : Nat → Int32) (k : Nat) (r : CT) : CT :=
  if mv k = 0 then (vp_updL r.1 (nm mv k) (r.1 k), vp_updL r.2.1 (nm mv k) (r.2.1 k), upd r.2.2.1 (nm mv k) (if r.2.2.1 k = -1 then -1 else upd r.2.2.2 k (nI (nm mv k)) (r.2.2.1 k).toNatClampNeg), upd r.2.2.2 k (nI (nm mv k))) else r
def cmp (mv : Nat → Int32) (F L : Nat → Int64) (B : Nat → Int32) : Nat → CT
  | 0 => (F, L, B, mv)
  | k + 1 => cmpS mv k (cmp mv F L B k)
theorem updL_eq {f : Nat → Int64} {k : Nat} {x : Int64} : vp_updL f k x k = x := if_pos rfl
theorem updL_ne {f : Nat → Int64} {k j : Nat} {x : Int64} (h : j ≠ k) : vp_updL f k x j = f j := if_neg h
theorem upd_eq {f : Nat → Int32} {k : Nat} {x : Int32} : upd f k x k = x := if_pos rfl
theorem upd_ne {f : Nat → Int32} {k j : Nat} {x : Int32} (h : j ≠ k) : upd f k x j = f j := if_neg h
/-- what is marked is live, and closed -/
def MKD (B : Nat → Int32) (C : List Nat) (mv : Nat → Int32) : Prop := ∀ i, i < 4096 → mv i = 0 → i ∈ C ∧ (B i = -1 ∨ ∃ j, j < i ∧ B i = nI j ∧ mv j = 0)
theorem cmp_hi {mv : Nat → Int32} {F L : Nat → Int64} {B : Nat → Int32} : ∀ k i, k ≤ i → (cmp mv F L B k).1 i = F i ∧ (cmp mv F L B k).2.1 i = L i ∧ (cmp mv F L B k).2.2.1 i = B i ∧ (cmp mv F L B k).2.2.2 i = mv i
  | 0, _, _ => ⟨rfl, rfl, rfl, rfl⟩
  | k + 1, i, h => by
    obtain ⟨h1, h2, h3, h4⟩ := cmp_hi (mv := mv) (F := F) (L := L) (B := B) k i (by omega)
    have hn := nm_le mv k
    show (cmpS mv k (cmp mv F L B k)).1 i = F i ∧ (cmpS mv k (cmp mv F L B k)).2.1 i = L i ∧ (cmpS mv k (cmp mv F L B k)).2.2.1 i = B i ∧ (cmpS mv k (cmp mv F L B k)).2.2.2 i = mv i
    unfold cmpS
    by_cases e : mv k = 0
    · rw [if_pos e]
      exact ⟨(updL_ne (by omega)).trans h1, (updL_ne (by omega)).trans h2, (upd_ne (by omega)).trans h3, (upd_ne (by omega)).trans h4⟩
    · rw [if_neg e]
      exact ⟨h1, h2, h3, h4⟩
theorem cmp_lo {mv : Nat → Int32} {F L : Nat → Int64} {B : Nat → Int32} {C : List Nat} (hm : MKD B C mv) : ∀ k, k ≤ 4096 → ∀ i, i < k → mv i = 0 → (cmp mv F L B k).1 (nm mv i) = F i ∧ (cmp mv F L B k).2.1 (nm mv i) = L i ∧ (cmp mv F L B k).2.2.1 (nm mv i) = rkN mv (B i) ∧ (cmp mv F L B k).2.2.2 i = nI (nm mv i)
  | 0, _, i, h, _ => absurd h (by omega)
  | k + 1, hk, i, h, h0 => by
    obtain ⟨a1, a2, a3, a4⟩ := cmp_hi (mv := mv) (F := F) (L := L) (B := B) k k (Nat.le_refl _)
    show (cmpS mv k (cmp mv F L B k)).1 _ = F i ∧ (cmpS mv k (cmp mv F L B k)).2.1 _ = L i ∧ (cmpS mv k (cmp mv F L B k)).2.2.1 _ = rkN mv (B i) ∧ (cmpS mv k (cmp mv F L B k)).2.2.2 i = nI (nm mv i)
    unfold cmpS
    by_cases e : i = k
    · subst e
      rw [if_pos h0]
      refine ⟨updL_eq.trans a1, updL_eq.trans a2, upd_eq.trans ?_, upd_eq⟩
      rw [a3]
      rcases (hm i (by omega) h0).2 with hb | ⟨j, hj, hb, hj0⟩
      · rw [hb, if_pos rfl, rkN_m1]
      · rw [hb, if_neg (by rw [nI_m1 (by omega)]; exact id), nI_clamp (by omega), rkN_nI mv (by omega)]
        exact (upd_ne (by omega)).trans (cmp_lo hm i (by omega) j hj hj0).2.2.2
    · obtain ⟨h1, h2, h3, h4⟩ := cmp_lo (F := F) (L := L) hm k (by omega) i (by omega) h0
      by_cases e2 : mv k = 0
      · rw [if_pos e2]
        have := nm_lt (mv := mv) (i := i) (k := k) (by omega) h0
        exact ⟨(updL_ne (by omega)).trans h1, (updL_ne (by omega)).trans h2, (upd_ne (by omega)).trans h3, (upd_ne (by omega)).trans h4⟩
      · rw [if_neg e2]
        exact ⟨h1, h2, h3, h4⟩
/-- live nodes behind the move -/
def mD (mv : Nat → Int32) (D : List Nat) : List Nat := (D.filter (fun i => decide (mv i = 0))).map (nm mv)
theorem mD_len (mv : Nat → Int32) (D : List Nat) : (mD mv D).length ≤ D.length := by
  unfold mD
  rw [List.length_map]
  exact List.length_filter_le _ _
theorem mD_mem {mv : Nat → Int32} {D : List Nat} {i : Nat} (h : i ∈ D) (h0 : mv i = 0) : nm mv i ∈ mD mv D := List.mem_map.mpr ⟨i, List.mem_filter.mpr ⟨h, decide_eq_true h0⟩, rfl⟩
theorem mD_LV {mv : Nat → Int32} {F L : Nat → Int64} {B : Nat → Int32} {C D : List Nat} (hm : MKD B C mv) (hD : LV B D 4096) : LV (cmp mv F L B 4096).2.2.1 (mD mv D) (nm mv 4096) := by
  intro q hq
  obtain ⟨i, hi, rfl⟩ := List.mem_map.mp hq
  obtain ⟨hi1, hi2⟩ := List.mem_filter.mp hi
  have h0 : mv i = 0 := of_decide_eq_true hi2
  obtain ⟨hlt, hd⟩ := hD i hi1
  refine ⟨nm_lt hlt h0, ?_⟩
  rw [(cmp_lo (F := F) (L := L) hm 4096 (Nat.le_refl _) i hlt h0).2.2.1]
  rcases (hm i hlt h0).2 with hb | ⟨j, hj, hb, hj0⟩
  · rw [hb, rkN_m1]
    exact Or.inl rfl
  · rw [hb, rkN_nI mv (by omega)]
    rcases hd with hb2 | ⟨j2, hj2, hj3, hb2⟩
    · rw [hb] at hb2
      rw [nI_m1 (by omega)] at hb2
      exact hb2.elim
    · rw [hb, nI_inj (by omega) (by omega)] at hb2
      subst hb2
      exact Or.inr ⟨_, mD_mem hj2 hj0, nm_lt hj hj0, rfl⟩
theorem mD_ND {mv : Nat → Int32} {F L : Nat → Int64} {B : Nat → Int32} {C D : List Nat} (hm : MKD B C mv) (hD : LV B D 4096) : ∀ (t : List HP) (k : Int32), (k = -1 ∨ ∃ i, i < 4096 ∧ k = nI i ∧ mv i = 0) → ND F L B (fun i => i ∈ D) k t → ND (cmp mv F L B 4096).1 (cmp mv F L B 4096).2.1 (cmp mv F L B 4096).2.2.1 (fun i => i ∈ mD mv D) (rkN mv k) t
  | [], k, _, h => by
    have h : k = -1 := h
    rw [h]
    exact rkN_m1 mv
  | p :: t, k, hk, h => by
    obtain ⟨i, hi, rfl, h1, h2, h3⟩ := h
    have hlt := (hD i hi).1
    have h0 : mv i = 0 := by
      rcases hk with hk | ⟨j, hj, hk, hj0⟩
      · rw [nI_m1 (by omega)] at hk
        exact hk.elim
      · rw [nI_inj (by omega) (by omega)] at hk
        rw [hk]
        exact hj0
    obtain ⟨c1, c2, c3, _⟩ := cmp_lo (F := F) (L := L) hm 4096 (Nat.le_refl _) i hlt h0
    refine ⟨nm mv i, mD_mem hi h0, rkN_nI mv hlt, c1.trans h1, c2.trans h2, ?_⟩
    rw [c3]
    refine mD_ND hm hD t (B i) ?_ h3
    rcases (hm i hlt h0).2 with hb | ⟨j, hj, hb, hj0⟩
    · exact Or.inl hb
    · exact Or.inr ⟨j, by omega, hb, hj0⟩
/-! marks, one head behind another -/
def MS (B : Nat → Int32) (C : List Nat) (mv : Nat → Int32) : Prop := MkC (fun i => i ∈ C) mv ∧ ClK B (fun i => i ∈ C) mv (-1)
def HC (F L : Nat → Int64) (B : Nat → Int32) (C : List Nat) (k : Int32) : Prop := ∃ h : List HP, h.length < 4000 ∧ ND F L B (fun i => i ∈ C) k h
theorem MkK_mono {C : Nat → Prop} {mv mv' : Nat → Int32} {k : Int32} (h : ∀ i, mv i = 0 → mv' i = 0) (hk : MkK C mv k) : MkK C mv' k := by
  rcases hk with hk | ⟨i, h1, h2, h3⟩
  · exact Or.inl hk
  · exact Or.inr ⟨i, h1, h2, h i h3⟩
theorem MS_MKD {B : Nat → Int32} {C : List Nat} {mv : Nat → Int32} (hC : LV B C 4096) (h : MS B C mv) : MKD B C mv := by
  intro i hi h0
  have hc : i ∈ C := by
    rcases h.1 i hi with h1 | h1
    · rw [h0] at h1
      exact absurd h1 (by decide)
    · exact h1.2
  refine ⟨hc, ?_⟩
  rcases h.2 i hc h0 with h1 | h1 | ⟨j, hj, hb, hj0⟩
  · exact Or.inl h1
  · exact Or.inl h1
  · rcases (hC i hc).2 with h1 | ⟨j2, hj2, hlt, hb2⟩
    · exact Or.inl h1
    · have hj3 := (hC j hj).1
      have hj4 := (hC i hc).1
      rw [hb, nI_inj (by omega) (by omega)] at hb2
      exact Or.inr ⟨j, by omega, hb, hj0⟩
theorem MkK_lt {B : Nat → Int32} {C : List Nat} {mv : Nat → Int32} (hC : LV B C 4096) {k : Int32} (h : MkK (fun i => i ∈ C) mv k) : k = -1 ∨ ∃ i, i < 4096 ∧ k = nI i ∧ mv i = 0 := by
  rcases h with h | ⟨i, hi, h1, h2⟩
  · exact Or.inl h
  · exact Or.inr ⟨i, (hC i hi).1, h1, h2⟩
theorem ix61 : ∀ j, j < 6 → (61 * nI j) + 60 = nI (61 * j + 60) := by decide +kernel
def bkR (mv : Nat → Int32) (n : Nat) (book : Nat → Int32) : Nat → Int32 := fun i => if i % 61 = 60 ∧ i / 61 < n then rkN mv (book i) else book i
def kpR (mv isk : Nat → Int32) (n : Nat) (kept : Nat → Int32) : Nat → Int32 := fun i => if i % 61 = 60 ∧ i / 61 < n then (if isk (i / 61) = 0 then -1 else rkN mv (kept i)) else kept i
theorem bkR_S (mv : Nat → Int32) (n : Nat) (book : Nat → Int32) : upd (bkR mv n book) (61 * n + 60) (rkN mv (book (61 * n + 60))) = bkR mv (n + 1) book := by
  funext i
  unfold upd bkR
  by_cases e : i = 61 * n + 60
  · subst e
    rw [if_pos rfl, if_pos (by omega)]
  · rw [if_neg e]
    by_cases e2 : i % 61 = 60 ∧ i / 61 < n
    · rw [if_pos e2, if_pos (by omega)]
    · rw [if_neg e2, if_neg (by omega)]
theorem bkR_0 (mv : Nat → Int32) (book : Nat → Int32) : bkR mv 0 book = book := by
  funext i
  exact if_neg (by omega)
theorem bkR_at (mv : Nat → Int32) (n : Nat) (book : Nat → Int32) : bkR mv n book (61 * n + 60) = book (61 * n + 60) := if_neg (by omega)
theorem kpR_S (mv isk : Nat → Int32) (n : Nat) (kept : Nat → Int32) : upd (kpR mv isk n kept) (61 * n + 60) (if isk n = 0 then -1 else rkN mv (kept (61 * n + 60))) = kpR mv isk (n + 1) kept := by
  funext i
  unfold upd kpR
  by_cases e : i = 61 * n + 60
  · subst e
    rw [if_pos rfl, if_pos (show (61 * n + 60) % 61 = 60 ∧ (61 * n + 60) / 61 < n + 1 by omega), show (61 * n + 60) / 61 = n by omega]
  · rw [if_neg e]
    by_cases e2 : i % 61 = 60 ∧ i / 61 < n
    · rw [if_pos e2, if_pos (show i % 61 = 60 ∧ i / 61 < n + 1 by omega)]
    · rw [if_neg e2, if_neg (show ¬ (i % 61 = 60 ∧ i / 61 < n + 1) by omega)]
theorem kpR_0 (mv isk : Nat → Int32) (kept : Nat → Int32) : kpR mv isk 0 kept = kept := by
  funext i
  exact if_neg (by omega)
theorem kpR_at (mv isk : Nat → Int32) (n : Nat) (kept : Nat → Int32) : kpR mv isk n kept (61 * n + 60) = kept (61 * n + 60) := if_neg (by omega)
/-- a head's new number, as the program looks it up -/
theorem rk_look {B : Nat → Int32} {C : List Nat} {mv : Nat → Int32} (F L : Nat → Int64) (hm : MKD B C mv) {k : Int32} (h : k = -1 ∨ ∃ i, i < 4096 ∧ k = nI i ∧ mv i = 0) {β : Type} (J : Int32 → Option β) : (if k = -1 then J (-1) else grd (inB k 4096) (J ((cmp mv F L B 4096).2.2.2 k.toNatClampNeg))) = J (rkN mv k) := by
  rcases h with h | ⟨i, hi, h, h0⟩
  · rw [h, if_pos rfl, rkN_m1]
  · rw [h, if_neg (by rw [nI_m1 (by omega)]; exact id), inB_t hi (by decide), grd_t, nI_clamp (by omega), (cmp_lo (F := F) (L := L) hm 4096 (Nat.le_refl _) i hi h0).2.2.2, rkN_nI mv hi]

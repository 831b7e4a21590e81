/-! ===== a state of the class against a row of the reference ===== -/
def Low : List HP → Prop
  | [] => True
  | p :: t => occ p t ≤ 1 ∧ Low t
theorem Low_occ (p : HP) : ∀ t : List HP, Low t → occ p t ≤ 2
  | [], _ => Nat.zero_le _
  | q :: t, h => by
    have h1 := h.1
    have h2 := Low_occ p t h.2
    rw [occ_cons]
    by_cases e : lk p q = true
    · rw [if_pos e, ← occ_like e]
      omega
    · rw [if_neg e]
      omega
/-- the king is there, and in no corner -/
def KIN (f : Nat → Int32) : Prop := ∃ k, kingN f = some k ∧ isCo k = false
def RP (f : Nat → Int32) (kk sg sn mv gm w1 w2 dg t1 t2 am : Int32) (row : Nat → Int32) (h : List HP) : Prop :=
  AG f row ∧ PB f ∧ UK f ∧ KO f ∧ kk = enc (kingN f) ∧ sg = b01 (decide (row 52 = 1)) ∧ row 52 = sg ∧ row 50 = sn ∧ row 49 = mv ∧ isD mv ∧ row 51 = (if sn = 0 then 0 else 1) ∧ row 53 = gm ∧ row 54 = am ∧ row 55 = w1 ∧ row 56 = w2 ∧ row 57 = dg ∧ row 58 = t1 ∧ row 59 = t2 ∧ (sn = 0 ↔ h = []) ∧ (∀ q ∈ h, okP q) ∧ (sn = 1 → Low h ∧ KIN f)
def RPv (v : SV) (row : Nat → Int32) (h : List HP) : Prop := RP v.1 v.2.1 v.2.2.1 v.2.2.2.1 v.2.2.2.2.1 v.2.2.2.2.2.1 v.2.2.2.2.2.2.2.1 v.2.2.2.2.2.2.2.2.1 v.2.2.2.2.2.2.2.2.2.1 v.2.2.2.2.2.2.2.2.2.2.1 v.2.2.2.2.2.2.2.2.2.2.2.1 v.2.2.2.2.2.2.2.2.2.2.2.2 row h
theorem RP_row {f : Nat → Int32} {kk sg sn mv gm w1 w2 dg t1 t2 am : Int32} {row row' : Nat → Int32} {h : List HP} (e : ∀ i, i < 60 → row' i = row i) (hr : RP f kk sg sn mv gm w1 w2 dg t1 t2 am row h) : RP f kk sg sn mv gm w1 w2 dg t1 t2 am row' h := by
  obtain ⟨a1, a2, a3, a4, a5, a6, a7, a8, a9, a10, a11, a12, a13, a14, a15, a16, a17, a18, a19⟩ := hr
  unfold RP
  rw [e 52 (by decide), e 50 (by decide), e 49 (by decide), e 51 (by decide), e 53 (by decide), e 54 (by decide), e 55 (by decide), e 56 (by decide), e 57 (by decide), e 58 (by decide), e 59 (by decide)]
  exact ⟨fun s hs => (a1 s hs).trans (e s (by omega)).symm, a2, a3, a4, a5, a6, a7, a8, a9, a10, a11, a12, a13, a14, a15, a16, a17, a18, a19⟩
theorem AG_KO {b c : Nat → Int32} (h : AG b c) (hb : KO b) : KO c := fun s hs e => by rw [← h s hs]; exact hb s hs e
theorem RP_AG {f f' : Nat → Int32} {kk sg sn mv gm w1 w2 dg t1 t2 am : Int32} {row : Nat → Int32} {h : List HP} (e : AG f' f) (hr : RP f kk sg sn mv gm w1 w2 dg t1 t2 am row h) : RP f' kk sg sn mv gm w1 w2 dg t1 t2 am row h := by
  obtain ⟨a1, a2, a3, a4, a5, a6, a7, a8, a9, a10, a11, a12, a13, a14, a15, a16, a17, a18, a19, a20, a21⟩ := hr
  refine ⟨AG_trans e a1, AG_PB (AG_symm e) a2, AG_UK (AG_symm e) a3, AG_KO (AG_symm e) a4, ?_, a6, a7, a8, a9, a10, a11, a12, a13, a14, a15, a16, a17, a18, a19, a20, fun q => ?_⟩
  · rw [AG_kingN e]
    exact a5
  · unfold KIN
    rw [AG_kingN e]
    exact a21 q
/-! a state in its surroundings: K tells how the class holds its positions, C which nodes are live -/
def RS (K : List HP → Option Nat → Prop) (F L : Nat → Int64) (B : Nat → Int32) (C : List Nat) (M : Nat) (v : SV) (row : Nat → Int32) (h : List HP) : Prop := RPv v row h ∧ ND F L B (fun i => i ∈ C) (row 60) h ∧ K h v.2.2.2.2.2.2.1 ∧ h.length ≤ M
theorem RS_to {K K' : List HP → Option Nat → Prop} {F L F' L' : Nat → Int64} {B B' : Nat → Int32} {C C' : List Nat} {M M' : Nat} {v : SV} {row row' : Nat → Int32} {h : List HP} (hr : RS K F L B C M v row h) (hK : ∀ h o, K h o → K' h o) (hM : M ≤ M') (e : ∀ i, i < 60 → row' i = row i) (hn : ND F' L' B' (fun i => i ∈ C') (row' 60) h) : RS K' F' L' B' C' M' v row' h :=
  ⟨RP_row e hr.1, hn, hK _ _ hr.2.2.1, Nat.le_trans hr.2.2.2 hM⟩
theorem ND_sub {F L : Nat → Int64} {B : Nat → Int32} {C D : List Nat} (h : ∀ i ∈ C, i ∈ D) {t : List HP} {k : Int32} (hn : ND F L B (fun i => i ∈ C) k t) : ND F L B (fun i => i ∈ D) k t := ND_mono h t k hn
/-! ===== a new position (the reference) ===== -/
def HDS (ks : List Int32) (n : Nat) (book isk kept : Nat → Int32) (k : Int32) : Prop := k ∈ ks ∨ (∃ j, j < n ∧ k = book (61 * j + 60)) ∨ (∃ j, j < 2 ∧ isk j ≠ 0 ∧ k = kept (61 * j + 60))
def NTc (ks : List Int32) (a1 : Int32) (n : Nat) (book isk kept : Nat → Int32) (F L : Nat → Int64) (B : Nat → Int32) (nn : Nat) (rk : Int32 → Int32) (mD : List Nat → List Nat) (F' L' : Nat → Int64) (B' : Nat → Int32) (n0 : Nat) (book' kept' : Nat → Int32) (rp : Int64 × Int64) : Prop :=
  (n0 < 4096 ∧ ∀ D E : List Nat, (∀ i ∈ D, i ∈ E) → ∀ i ∈ mD D, i ∈ mD E) ∧ rk (-1) = -1 ∧ (∀ j, j < n → ∀ i, i < 61 → book' (61 * j + i) = if i = 60 then rk (book (61 * j + 60)) else book (61 * j + i)) ∧ (∀ j, j < 2 → isk j ≠ 0 → ∀ i, i < 61 → kept' (61 * j + i) = if i = 60 then rk (kept (61 * j + 60)) else kept (61 * j + i)) ∧
  (∀ D, LV B D nn → LV B' (mD D) (n0 + 1) ∧ (mD D).length ≤ D.length ∧ (∀ k h, HDS ks n book isk kept k → ND F L B (fun i => i ∈ D) k h → ND F' L' B' (fun i => i ∈ mD D) (rk k) h) ∧ (∀ (q : HP) h, rp = rpos q.1 q.2 → ND F L B (fun i => i ∈ D) a1 h → LV B' (n0 :: mD D) (n0 + 1) ∧ ND F' L' B' (fun i => i ∈ n0 :: mD D) (nI n0) (q :: h)))
theorem note_keep {F L : Nat → Int64} {B : Nat → Int32} {D : List Nat} {n0 : Nat} (hl : LV B D n0) (a b : Int64) (ra : Int32) : LV (upd B n0 ra) D (n0 + 1) ∧ ∀ k h, ND F L B (fun i => i ∈ D) k h → ND (vp_updL F n0 a) (vp_updL L n0 b) (upd B n0 ra) (fun i => i ∈ D) k h := by
  refine ⟨fun i hi => ?_, fun k h hn => ND_same (fun i hi => ?_) h k hn⟩
  · obtain ⟨h1, h2⟩ := hl i hi
    refine ⟨by omega, ?_⟩
    rw [upd_ne (by omega)]
    exact h2
  · have := (hl i hi).1
    exact ⟨updL_ne (by omega), updL_ne (by omega), upd_ne (by omega)⟩
theorem note_end {F L : Nat → Int64} {B : Nat → Int32} {D : List Nat} {n0 : Nat} (hl : LV B D n0) (hn0 : n0 < 4096) {a b : Int64} {ra : Int32} {h : List HP} (hn : ND F L B (fun i => i ∈ D) ra h) {q : HP} (hq : (a, b) = rpos q.1 q.2) : LV (upd B n0 ra) (n0 :: D) (n0 + 1) ∧ ND (vp_updL F n0 a) (vp_updL L n0 b) (upd B n0 ra) (fun i => i ∈ n0 :: D) (nI n0) (q :: h) := by
  obtain ⟨k1, k2⟩ := note_keep (F := F) (L := L) hl a b ra
  constructor
  · intro i hi
    rcases List.mem_cons.mp hi with e | hi
    · subst e
      refine ⟨by omega, ?_⟩
      rw [upd_eq]
      cases h with
      | nil => exact Or.inl hn
      | cons p t =>
        obtain ⟨j, hj, e, _⟩ := hn
        exact Or.inr ⟨j, List.mem_cons_of_mem _ hj, (hl j hj).1, e⟩
    · obtain ⟨h1, h2⟩ := k1 i hi
      refine ⟨h1, h2.elim Or.inl (fun ⟨j, x, y, z⟩ => Or.inr ⟨j, List.mem_cons_of_mem _ x, y, z⟩)⟩
  · refine ⟨n0, List.mem_cons_self, rfl, updL_eq.trans (congrArg Prod.fst hq), updL_eq.trans (congrArg Prod.snd hq), ?_⟩
    rw [upd_eq]
    exact ND_sub (fun i hi => List.mem_cons_of_mem _ hi) (k2 ra h hn)
/-- behind tidying -/
theorem nt_tidy {mv : Nat → Int32} {F L : Nat → Int64} {B : Nat → Int32} {C : List Nat} (hm : MKD B C mv) (hcl : C.length < 4096) {ks : List Int32} {a1 : Int32} (ha : a1 ∈ ks) {n : Nat} {book isk kept : Nat → Int32} (hd : ∀ k, HDS ks n book isk kept k → HM mv k) (a b : Int64) : NTc ks a1 n book isk kept F L B 4096 (rkN mv) (mD mv) (vp_updL (cmp mv F L B 4096).1 (nm mv 4096) a) (vp_updL (cmp mv F L B 4096).2.1 (nm mv 4096) b) (upd (cmp mv F L B 4096).2.2.1 (nm mv 4096) (rkN mv a1)) (nm mv 4096) (bkR mv n book) (kpR mv isk 2 kept) (a, b) := by
  have hn0 : nm mv 4096 < 4096 := Nat.lt_of_le_of_lt (nm_C 4096 C (fun i hi h0 => (hm i hi h0).1)) hcl
  refine ⟨⟨hn0, fun D E h i hi => by
    obtain ⟨j, hj, rfl⟩ := List.mem_map.mp hi
    obtain ⟨h1, h2⟩ := List.mem_filter.mp hj
    exact mD_mem (h j h1) (of_decide_eq_true h2)⟩, rkN_m1 mv, fun j hj i hi => ?_, fun j hj h0 i hi => ?_, fun D hD => ?_⟩
  · unfold bkR
    by_cases e : i = 60
    · subst e
      rw [if_pos (show (61 * j + 60) % 61 = 60 ∧ (61 * j + 60) / 61 < n by omega), if_pos rfl]
    · rw [if_neg (show ¬ ((61 * j + i) % 61 = 60 ∧ (61 * j + i) / 61 < n) by omega), if_neg e]
  · unfold kpR
    by_cases e : i = 60
    · subst e
      rw [if_pos (show (61 * j + 60) % 61 = 60 ∧ (61 * j + 60) / 61 < 2 by omega), if_pos rfl, show (61 * j + 60) / 61 = j by omega, if_neg h0]
    · rw [if_neg (show ¬ ((61 * j + i) % 61 = 60 ∧ (61 * j + i) / 61 < 2) by omega), if_neg e]
  · have hl := mD_LV (F := F) (L := L) hm hD
    obtain ⟨k1, k2⟩ := note_keep (F := (cmp mv F L B 4096).1) (L := (cmp mv F L B 4096).2.1) hl a b (rkN mv a1)
    refine ⟨k1, mD_len mv D, fun k h hk hn => k2 _ _ (mD_ND hm hD h k (hd k hk) hn), fun q h hq hn => ?_⟩
    exact note_end hl hn0 (mD_ND hm hD h a1 (hd a1 (Or.inl ha)) hn) hq
/-- without tidying -/
theorem nt_plain {F L : Nat → Int64} {B : Nat → Int32} {ks : List Int32} {a1 : Int32} {n nn : Nat} (hnn : nn < 4096) {book isk kept : Nat → Int32} (a b : Int64) : NTc ks a1 n book isk kept F L B nn (fun k => k) (fun D => D) (vp_updL F nn a) (vp_updL L nn b) (upd B nn a1) nn book kept (a, b) := by
  refine ⟨⟨hnn, fun D E h => h⟩, rfl, fun j hj i hi => ?_, fun j hj h0 i hi => ?_, fun D hD => ?_⟩
  · by_cases e : i = 60
    · rw [if_pos e, e]
    · rw [if_neg e]
  · by_cases e : i = 60
    · rw [if_pos e, e]
    · rw [if_neg e]
  · obtain ⟨k1, k2⟩ := note_keep (F := F) (L := L) hD a b a1
    exact ⟨k1, Nat.le_refl _, fun k h hk hn => k2 _ _ hn, fun q h hq hn => note_end hD hnn hn hq⟩
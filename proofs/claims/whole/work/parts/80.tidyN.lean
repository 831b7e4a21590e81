/-! ===== the reference tidies, B (N): the whole of it ===== -/
def HM (mv : Nat → Int32) (k : Int32) : Prop := k = -1 ∨ ∃ i, i < 4096 ∧ k = nI i ∧ mv i = 0
theorem tN_340 {mv : Nat → Int32} {F L : Nat → Int64} {B : Nat → Int32} {C : List Nat} (hm : MKD B C mv) {isk kept : Nat → Int32} (hk : ∀ j, j < 2 → isk j ≠ 0 → HM mv (kept (61 * j + 60))) (now book : Nat → Int32) (n : Int32) : fX9_tidyN_L340 isk 4100 0 now book kept (cmp mv F L B 4096).1 (cmp mv F L B 4096).2.1 (cmp mv F L B 4096).2.2.1 (cmp mv F L B 4096).2.2.2 n = some (now, book, kpR mv isk 2 kept, (cmp mv F L B 4096).1, (cmp mv F L B 4096).2.1, (cmp mv F L B 4096).2.2.1, (cmp mv F L B 4096).2.2.2, n) := by
  have h : fX9_tidyN_L340 isk 4100 (nI 0) now book (kpR mv isk 0 kept) (cmp mv F L B 4096).1 (cmp mv F L B 4096).2.1 (cmp mv F L B 4096).2.2.1 (cmp mv F L B 4096).2.2.2 n = some (now, book, kpR mv isk 2 kept, (cmp mv F L B 4096).1, (cmp mv F L B 4096).2.1, (cmp mv F L B 4096).2.2.1, (cmp mv F L B 4096).2.2.2, n) := by
    refine lp_for (B := (fun (zf : Int32 × (Nat → Int32) × (Nat → Int32) × (Nat → Int32) × (Nat → Int64) × (Nat → Int64) × (Nat → Int32) × (Nat → Int32) × Int32 → Option ((Nat → Int32) × (Nat → Int32) × (Nat → Int32) × (Nat → Int64) × (Nat → Int64) × (Nat → Int32) × (Nat → Int32) × Int32)) z => fX9_tidyN_L340_B isk (fun x0 x1 x2 x3 x4 x5 x6 x7 x8 => zf (x0, x1, x2, x3, x4, x5, x6, x7, x8)) z.1 z.2.1 z.2.2.1 z.2.2.2.1 z.2.2.2.2.1 z.2.2.2.2.2.1 z.2.2.2.2.2.2.1 z.2.2.2.2.2.2.2.1 z.2.2.2.2.2.2.2.2)) (fun j => (nI j, now, book, kpR mv isk j kept, (cmp mv F L B 4096).1, (cmp mv F L B 4096).2.1, (cmp mv F L B 4096).2.2.1, (cmp mv F L B 4096).2.2.2, n)) 2 (fun j hj self => ?_) (fun self => ?_) (by omega)
    · show fX9_tidyN_L340_B isk _ (nI j) now book (kpR mv isk j kept) (cmp mv F L B 4096).1 (cmp mv F L B 4096).2.1 (cmp mv F L B 4096).2.2.1 (cmp mv F L B 4096).2.2.2 n = _
      unfold fX9_tidyN_L340_B
      rw [if_neg (nle (c := 2) hj (by decide)), ix61 j (by omega), inB_t (by omega) (by decide), grd_t, bnd_eq, nI_clamp (by omega), kpR_at, inB_t (i := j) (n := 2) (by omega) (by decide), grd_t, nI_clamp (n := j) (by omega), nI_1]
      simp only [jn_eq, grd_t]
      rw [← kpR_S]
      by_cases e : isk j = 0
      · rw [if_pos e, if_pos e]
      · rw [if_neg e, if_neg e]
        exact rk_look F L hm (hk j hj e) (fun t => self (nI (j + 1), now, book, upd (kpR mv isk j kept) (61 * j + 60) t, (cmp mv F L B 4096).1, (cmp mv F L B 4096).2.1, (cmp mv F L B 4096).2.2.1, (cmp mv F L B 4096).2.2.2, n))
    · show fX9_tidyN_L340_B isk _ (nI 2) now book (kpR mv isk 2 kept) (cmp mv F L B 4096).1 (cmp mv F L B 4096).2.1 (cmp mv F L B 4096).2.2.1 (cmp mv F L B 4096).2.2.2 n = _
      unfold fX9_tidyN_L340_B
      rw [if_pos (by decide)]
  rw [kpR_0] at h
  exact h
theorem tN_277 {mv : Nat → Int32} {F L : Nat → Int64} {B : Nat → Int32} {C : List Nat} (hm : MKD B C mv) {isk kept book : Nat → Int32} {nst : Nat} (hn : nst ≤ 6) (hb : ∀ j, j < nst → HM mv (book (61 * j + 60))) (hk : ∀ j, j < 2 → isk j ≠ 0 → HM mv (kept (61 * j + 60))) (now : Nat → Int32) (n : Int32) : fX9_tidyN_L277 (nI nst) isk 4100 0 now book kept (cmp mv F L B 4096).1 (cmp mv F L B 4096).2.1 (cmp mv F L B 4096).2.2.1 (cmp mv F L B 4096).2.2.2 n = some (now, bkR mv nst book, kpR mv isk 2 kept, (cmp mv F L B 4096).1, (cmp mv F L B 4096).2.1, (cmp mv F L B 4096).2.2.1, (cmp mv F L B 4096).2.2.2, n) := by
  have h : fX9_tidyN_L277 (nI nst) isk 4100 (nI 0) now (bkR mv 0 book) kept (cmp mv F L B 4096).1 (cmp mv F L B 4096).2.1 (cmp mv F L B 4096).2.2.1 (cmp mv F L B 4096).2.2.2 n = some (now, bkR mv nst book, kpR mv isk 2 kept, (cmp mv F L B 4096).1, (cmp mv F L B 4096).2.1, (cmp mv F L B 4096).2.2.1, (cmp mv F L B 4096).2.2.2, n) := by
    refine lp_for (B := (fun (zf : Int32 × (Nat → Int32) × (Nat → Int32) × (Nat → Int32) × (Nat → Int64) × (Nat → Int64) × (Nat → Int32) × (Nat → Int32) × Int32 → Option ((Nat → Int32) × (Nat → Int32) × (Nat → Int32) × (Nat → Int64) × (Nat → Int64) × (Nat → Int32) × (Nat → Int32) × Int32)) z => fX9_tidyN_L277_B (nI nst) isk (fun x0 x1 x2 x3 x4 x5 x6 x7 x8 => zf (x0, x1, x2, x3, x4, x5, x6, x7, x8)) z.1 z.2.1 z.2.2.1 z.2.2.2.1 z.2.2.2.2.1 z.2.2.2.2.2.1 z.2.2.2.2.2.2.1 z.2.2.2.2.2.2.2.1 z.2.2.2.2.2.2.2.2)) (fun j => (nI j, now, bkR mv j book, kept, (cmp mv F L B 4096).1, (cmp mv F L B 4096).2.1, (cmp mv F L B 4096).2.2.1, (cmp mv F L B 4096).2.2.2, n)) nst (fun j hj self => ?_) (fun self => ?_) (by omega)
    · show fX9_tidyN_L277_B (nI nst) isk _ (nI j) now (bkR mv j book) kept (cmp mv F L B 4096).1 (cmp mv F L B 4096).2.1 (cmp mv F L B 4096).2.2.1 (cmp mv F L B 4096).2.2.2 n = _
      unfold fX9_tidyN_L277_B
      rw [if_neg (nI_ge hj (by omega)), ix61 j (by omega), inB_t (by omega) (by decide), grd_t, bnd_eq, nI_clamp (by omega), bkR_at, nI_1]
      simp only [jn_eq, grd_t]
      rw [← bkR_S]
      exact rk_look F L hm (hb j hj) (fun t => self (nI (j + 1), now, upd (bkR mv j book) (61 * j + 60) t, kept, (cmp mv F L B 4096).1, (cmp mv F L B 4096).2.1, (cmp mv F L B 4096).2.2.1, (cmp mv F L B 4096).2.2.2, n))
    · show fX9_tidyN_L277_B (nI nst) isk _ (nI nst) now (bkR mv nst book) kept (cmp mv F L B 4096).1 (cmp mv F L B 4096).2.1 (cmp mv F L B 4096).2.2.1 (cmp mv F L B 4096).2.2.2 n = _
      unfold fX9_tidyN_L277_B
      rw [if_pos (nI_le (Nat.le_refl _) (by omega))]
      exact tN_340 hm hk now (bkR mv nst book) n
  rw [bkR_0] at h
  exact h
set_option maxHeartbeats 4000000 in
theorem tN_120 {mv : Nat → Int32} {F L : Nat → Int64} {B : Nat → Int32} {C : List Nat} (hm : MKD B C mv) {isk kept book now : Nat → Int32} {nst : Nat} (hn : nst ≤ 6) (hw : HM mv (now 60)) (hb : ∀ j, j < nst → HM mv (book (61 * j + 60))) (hk : ∀ j, j < 2 → isk j ≠ 0 → HM mv (kept (61 * j + 60))) : fX9_tidyN_L120 (nI nst) isk 4100 0 0 now book kept F L B mv (nI 4096) = some ((upd now 60 (rkN mv (now 60))), bkR mv nst book, kpR mv isk 2 kept, (cmp mv F L B 4096).1, (cmp mv F L B 4096).2.1, (cmp mv F L B 4096).2.2.1, (cmp mv F L B 4096).2.2.2, nI (nm mv 4096)) := by
  have h : fX9_tidyN_L120 (nI nst) isk 4100 (nI (nm mv 0)) (nI 0) now book kept (cmp mv F L B 0).1 (cmp mv F L B 0).2.1 (cmp mv F L B 0).2.2.1 (cmp mv F L B 0).2.2.2 (nI 4096) = some ((upd now 60 (rkN mv (now 60))), bkR mv nst book, kpR mv isk 2 kept, (cmp mv F L B 4096).1, (cmp mv F L B 4096).2.1, (cmp mv F L B 4096).2.2.1, (cmp mv F L B 4096).2.2.2, nI (nm mv 4096)) := by
    refine lp_for (B := (fun (zf : Int32 × Int32 × (Nat → Int32) × (Nat → Int32) × (Nat → Int32) × (Nat → Int64) × (Nat → Int64) × (Nat → Int32) × (Nat → Int32) × Int32 → Option ((Nat → Int32) × (Nat → Int32) × (Nat → Int32) × (Nat → Int64) × (Nat → Int64) × (Nat → Int32) × (Nat → Int32) × Int32)) z => fX9_tidyN_L120_B (nI nst) isk (fun x0 x1 x2 x3 x4 x5 x6 x7 x8 x9 => zf (x0, x1, x2, x3, x4, x5, x6, x7, x8, x9)) z.1 z.2.1 z.2.2.1 z.2.2.2.1 z.2.2.2.2.1 z.2.2.2.2.2.1 z.2.2.2.2.2.2.1 z.2.2.2.2.2.2.2.1 z.2.2.2.2.2.2.2.2.1 z.2.2.2.2.2.2.2.2.2)) (fun k => (nI (nm mv k), nI k, now, book, kept, (cmp mv F L B k).1, (cmp mv F L B k).2.1, (cmp mv F L B k).2.2.1, (cmp mv F L B k).2.2.2, nI 4096)) 4096 (fun k hk4 self => ?_) (fun self => ?_) (by omega)
    · show fX9_tidyN_L120_B (nI nst) isk _ (nI (nm mv k)) (nI k) now book kept (cmp mv F L B k).1 (cmp mv F L B k).2.1 (cmp mv F L B k).2.2.1 (cmp mv F L B k).2.2.2 (nI 4096) = self (nI (nm mv (k + 1)), nI (k + 1), now, book, kept, (cmpS mv k (cmp mv F L B k)).1, (cmpS mv k (cmp mv F L B k)).2.1, (cmpS mv k (cmp mv F L B k)).2.2.1, (cmpS mv k (cmp mv F L B k)).2.2.2, nI 4096)
      have hnk := nm_le mv k
      have hB := (cmp_hi (mv := mv) (F := F) (L := L) (B := B) k k (Nat.le_refl _)).2.2.1
      have hV := (cmp_hi (mv := mv) (F := F) (L := L) (B := B) k k (Nat.le_refl _)).2.2.2
      unfold fX9_tidyN_L120_B cmpS
      rw [if_neg (nI_ge hk4 (by decide)), inB_t (i := k) (by omega) (by decide), nI_clamp (n := k) (by omega), inB_t (i := nm mv k) (by omega) (by decide), nI_clamp (n := nm mv k) (by omega), nI_1, nI_1, hV, nm_S]
      simp only [jn_eq, grd_t]
      by_cases e : mv k = 0
      · rw [if_pos e, if_pos e, if_pos e]
        rw [hB]
        rcases (hm k hk4 e).2 with hb | ⟨j, hj, hb, hj0⟩
        · rw [if_pos hb, if_pos hb]
        · rw [hb, if_neg (by rw [nI_m1 (by omega)]; exact id), inB_t (i := j) (by omega) (by decide), grd_t]
          rw [if_neg (by rw [nI_m1 (by omega)]; exact id)]
      · rw [if_neg e, if_neg e, if_neg e]
        rfl
    · show fX9_tidyN_L120_B (nI nst) isk _ (nI (nm mv 4096)) (nI 4096) now book kept (cmp mv F L B 4096).1 (cmp mv F L B 4096).2.1 (cmp mv F L B 4096).2.2.1 (cmp mv F L B 4096).2.2.2 (nI 4096) = _
      unfold fX9_tidyN_L120_B
      rw [if_pos (nI_le (Nat.le_refl _) (by omega)), show inB 60 61 = true from rfl]
      simp only [jn_eq, grd_t]
      show (if now 60 = -1 then _ else _) = _
      refine (rk_look F L hm hw (fun t48 => if now 60 = -1 then fX9_tidyN_L277 (nI nst) isk 4100 0 (upd (upd now 60 (-1)) 60 t48) book kept (cmp mv F L B 4096).1 (cmp mv F L B 4096).2.1 (cmp mv F L B 4096).2.2.1 (cmp mv F L B 4096).2.2.2 (nI (nm mv 4096)) else grd (inB (now 60) 4096) (fX9_tidyN_L277 (nI nst) isk 4100 0 (upd (upd now 60 ((cmp mv F L B 4096).2.2.2 (now 60).toNatClampNeg)) 60 t48) book kept (cmp mv F L B 4096).1 (cmp mv F L B 4096).2.1 (cmp mv F L B 4096).2.2.1 (cmp mv F L B 4096).2.2.2 (nI (nm mv 4096))))).trans ?_
      refine (rk_look F L hm hw (fun t50 => fX9_tidyN_L277 (nI nst) isk 4100 0 (upd (upd now 60 t50) 60 (rkN mv (now 60))) book kept (cmp mv F L B 4096).1 (cmp mv F L B 4096).2.1 (cmp mv F L B 4096).2.2.1 (cmp mv F L B 4096).2.2.2 (nI (nm mv 4096)))).trans ?_
      rw [show upd (upd now 60 (rkN mv (now 60))) 60 (rkN mv (now 60)) = upd now 60 (rkN mv (now 60)) from by
        funext i
        unfold upd
        split <;> rfl]
      exact tN_277 hm hn hb hk (upd now 60 (rkN mv (now 60))) (nI (nm mv 4096))
  exact h
theorem tN_76S (nst : Int32) (isk : Nat → Int32) (M : Nat) (v : Int32) (now book kept : Nat → Int32) (F L : Nat → Int64) (B mv : Nat → Int32) (nn : Int32) : fX9_tidyN_L76 nst isk (M + 1) v now book kept F L B mv nn = fX9_tidyN_L76_B nst isk (fX9_tidyN_L76 nst isk M) v now book kept F L B mv nn := rfl
theorem tN_44S (nst : Int32) (isk : Nat → Int32) (M : Nat) (v : Int32) (now book kept : Nat → Int32) (F L : Nat → Int64) (B mv : Nat → Int32) (nn : Int32) : fX9_tidyN_L44 nst isk (M + 1) v now book kept F L B mv nn = fX9_tidyN_L44_B nst isk (fX9_tidyN_L44 nst isk M) v now book kept F L B mv nn := rfl
theorem tN_76 {F L : Nat → Int64} {B : Nat → Int32} {C : List Nat} (hC : LV B C 4096) {isk kept book now : Nat → Int32} {nst : Int32} (hk : ∀ j, j < 2 → isk j ≠ 0 → HC F L B C (kept (61 * j + 60))) : ∀ (d j : Nat), j + d = 2 → ∀ (mv : Nat → Int32), MS B C mv → (∀ i, i < j → isk i ≠ 0 → MkK (fun i => i ∈ C) mv (kept (61 * i + 60))) → ∃ mv', MS B C mv' ∧ (∀ i, mv i = 0 → mv' i = 0) ∧ (∀ i, i < 2 → isk i ≠ 0 → MkK (fun i => i ∈ C) mv' (kept (61 * i + 60))) ∧ ∀ N, d + 1 ≤ N → fX9_tidyN_L76 nst isk N (nI j) now book kept F L B mv (nI 4096) = fX9_tidyN_L120 nst isk 4100 0 0 now book kept F L B mv' (nI 4096)
  | 0, j, hj, mv, hs, hd => by
    have : j = 2 := by omega
    subst this
    refine ⟨mv, hs, fun _ h => h, hd, fun N hN => ?_⟩
    obtain ⟨M, rfl⟩ : ∃ M, N = M + 1 := ⟨N - 1, by omega⟩
    rw [tN_76S]
    unfold fX9_tidyN_L76_B
    rw [if_pos (by decide)]
  | d + 1, j, hj, mv, hs, hd => by
    have hx : HC F L B C (if isk j = 0 then -1 else kept (61 * j + 60)) := by
      by_cases e : isk j = 0
      · rw [if_pos e]
        exact ⟨[], by decide, rfl⟩
      · rw [if_neg e]
        exact hk j (by omega) e
    obtain ⟨m1, a1, a2, a3, a4⟩ := mark_one hC hx hs
    obtain ⟨m2, b1, b2, b3, b4⟩ := tN_76 hC (nst := nst) (now := now) (book := book) hk d (j + 1) (by omega) m1 a1 (fun i hi h0 => by
      by_cases e : i = j
      · subst e
        rw [if_neg h0] at a3
        exact a3
      · exact MkK_mono a2 (hd i (by omega) h0))
    refine ⟨m2, b1, fun i h => b2 i (a2 i h), b3, fun N hN => ?_⟩
    obtain ⟨M, rfl⟩ : ∃ M, N = M + 1 := ⟨N - 1, by omega⟩
    rw [tN_76S]
    unfold fX9_tidyN_L76_B
    rw [if_neg (nle (c := 2) (by omega) (by decide)), ix61 j (by omega), inB_t (i := j) (by omega) (by decide), inB_t (i := 61 * j + 60) (by omega) (by decide), nI_clamp (n := j) (by omega), nI_clamp (n := 61 * j + 60) (by omega), nI_1]
    simp only [jn_eq, grd_t]
    rw [← b4 M (by omega)]
    by_cases e : isk j = 0
    · rw [if_pos e] at a4 ⊢
      rw [a4, Option.bind_some]
    · rw [if_neg e] at a4 ⊢
      rw [a4, Option.bind_some]
theorem tN_44 {F L : Nat → Int64} {B : Nat → Int32} {C : List Nat} (hC : LV B C 4096) {isk kept book now : Nat → Int32} {nst : Nat} (hn : nst ≤ 6) (hb : ∀ j, j < nst → HC F L B C (book (61 * j + 60))) : ∀ (d j : Nat), j + d = nst → ∀ (mv : Nat → Int32), MS B C mv → (∀ i, i < j → MkK (fun i => i ∈ C) mv (book (61 * i + 60))) → ∃ mv', MS B C mv' ∧ (∀ i, mv i = 0 → mv' i = 0) ∧ (∀ i, i < nst → MkK (fun i => i ∈ C) mv' (book (61 * i + 60))) ∧ ∀ N, d + 1 ≤ N → fX9_tidyN_L44 (nI nst) isk N (nI j) now book kept F L B mv (nI 4096) = fX9_tidyN_L76 (nI nst) isk 4100 0 now book kept F L B mv' (nI 4096)
  | 0, j, hj, mv, hs, hd => by
    have : j = nst := by omega
    subst this
    refine ⟨mv, hs, fun _ h => h, hd, fun N hN => ?_⟩
    obtain ⟨M, rfl⟩ : ∃ M, N = M + 1 := ⟨N - 1, by omega⟩
    rw [tN_44S]
    unfold fX9_tidyN_L44_B
    rw [if_pos (nI_le (Nat.le_refl _) (by omega))]
  | d + 1, j, hj, mv, hs, hd => by
    obtain ⟨m1, a1, a2, a3, a4⟩ := mark_one hC (hb j (by omega)) hs
    obtain ⟨m2, b1, b2, b3, b4⟩ := tN_44 hC (isk := isk) (kept := kept) (now := now) hn hb d (j + 1) (by omega) m1 a1 (fun i hi => by
      by_cases e : i = j
      · subst e
        exact a3
      · exact MkK_mono a2 (hd i (by omega)))
    refine ⟨m2, b1, fun i h => b2 i (a2 i h), b3, fun N hN => ?_⟩
    obtain ⟨M, rfl⟩ : ∃ M, N = M + 1 := ⟨N - 1, by omega⟩
    rw [tN_44S]
    unfold fX9_tidyN_L44_B
    rw [if_neg (nI_ge (by omega) (by omega)), ix61 j (by omega), inB_t (i := 61 * j + 60) (by omega) (by decide), nI_clamp (n := 61 * j + 60) (by omega), nI_1, grd_t, a4, Option.bind_some, ← b4 M (by omega)]
theorem f_tidyN {nst : Nat} (hn : nst ≤ 6) {F L : Nat → Int64} {B : Nat → Int32} {C : List Nat} (hC : LV B C 4096) {now book kept isk : Nat → Int32} (M : Nat → Int32) (hw : HC F L B C (now 60)) (hb : ∀ j, j < nst → HC F L B C (book (61 * j + 60))) (hk : ∀ j, j < 2 → isk j ≠ 0 → HC F L B C (kept (61 * j + 60))) : ∃ mv, MKD B C mv ∧ (HM mv (now 60) ∧ (∀ j, j < nst → HM mv (book (61 * j + 60))) ∧ (∀ j, j < 2 → isk j ≠ 0 → HM mv (kept (61 * j + 60)))) ∧ fX9_tidyN (nI nst) (nI 4096) now book kept isk F L B M = some ((upd now 60 (rkN mv (now 60))), bkR mv nst book, kpR mv isk 2 kept, (cmp mv F L B 4096).1, (cmp mv F L B 4096).2.1, (cmp mv F L B 4096).2.2.1, (cmp mv F L B 4096).2.2.2, nI (nm mv 4096)) := by
  have hs0 : MS B C (fun i => if i < 4096 then -1 else M i) := by
    refine ⟨fun i hi => Or.inl (if_pos hi), fun i hi h0 => ?_⟩
    have := (hC i hi).1
    have h0 : (if i < 4096 then (-1 : Int32) else M i) = 0 := h0
    rw [if_pos this] at h0
    exact absurd h0 (by decide)
  obtain ⟨m1, a1, a2, a3, a4⟩ := mark_one hC hw hs0
  obtain ⟨m2, b1, b2, b3, b4⟩ := mark_one hC hw a1
  obtain ⟨m3, c1, c2, c3, c4⟩ := tN_44 hC (isk := isk) (kept := kept) (now := now) hn hb nst 0 (by omega) m2 b1 (fun i hi => absurd hi (by omega))
  obtain ⟨m4, d1, d2, d3, d4⟩ := tN_76 hC (now := now) (book := book) (nst := nI nst) hk 2 0 rfl m3 c1 (fun i hi => absurd hi (by omega))
  have hm := MS_MKD hC d1
  have hmw : HM m4 (now 60) := MkK_lt hC (MkK_mono d2 (MkK_mono c2 b3))
  have hmb : ∀ j, j < nst → HM m4 (book (61 * j + 60)) := fun j hj => MkK_lt hC (MkK_mono d2 (c3 j hj))
  have hmk : ∀ j, j < 2 → isk j ≠ 0 → HM m4 (kept (61 * j + 60)) := fun j hj h0 => MkK_lt hC (d3 j hj h0)
  refine ⟨m4, hm, ⟨hmw, hmb, hmk⟩, ?_⟩
  rw [← tN_120 hm hn hmw hmb hmk]
  have h : fX9_tidyN_L2 (nI nst) isk 4100 (nI 0) now book kept F L B (fun i => if i < 0 then -1 else M i) (nI 4096) = fX9_tidyN_L120 (nI nst) isk 4100 0 0 now book kept F L B m4 (nI 4096) := by
    refine lp_for (B := (fun (zf : Int32 × (Nat → Int32) × (Nat → Int32) × (Nat → Int32) × (Nat → Int64) × (Nat → Int64) × (Nat → Int32) × (Nat → Int32) × Int32 → Option ((Nat → Int32) × (Nat → Int32) × (Nat → Int32) × (Nat → Int64) × (Nat → Int64) × (Nat → Int32) × (Nat → Int32) × Int32)) z => fX9_tidyN_L2_B (nI nst) isk (fun x0 x1 x2 x3 x4 x5 x6 x7 x8 => zf (x0, x1, x2, x3, x4, x5, x6, x7, x8)) z.1 z.2.1 z.2.2.1 z.2.2.2.1 z.2.2.2.2.1 z.2.2.2.2.2.1 z.2.2.2.2.2.2.1 z.2.2.2.2.2.2.2.1 z.2.2.2.2.2.2.2.2)) (fun k => (nI k, now, book, kept, F, L, B, (fun i => if i < k then -1 else M i), nI 4096)) 4096 (fun k hk4 self => ?_) (fun self => ?_) (by omega)
    · show fX9_tidyN_L2_B (nI nst) isk _ (nI k) now book kept F L B (fun i => if i < k then -1 else M i) (nI 4096) = self (nI (k + 1), now, book, kept, F, L, B, (fun i => if i < k + 1 then -1 else M i), nI 4096)
      unfold fX9_tidyN_L2_B
      rw [if_neg (nI_ge hk4 (by decide)), inB_t (i := k) (by omega) (by decide), grd_t, nI_clamp (n := k) (by omega), nI_1]
      rw [show upd (fun i => if i < k then -1 else M i) k (-1) = (fun i => if i < k + 1 then -1 else M i) from by
        funext i
        unfold upd
        show (if i = k then (-1 : Int32) else if i < k then -1 else M i) = if i < k + 1 then -1 else M i
        by_cases e : i = k
        · rw [if_pos e, if_pos (by omega)]
        · by_cases e2 : i < k
          · rw [if_neg e, if_pos e2, if_pos (by omega)]
          · rw [if_neg e, if_neg e2, if_neg (by omega)]]
    · show fX9_tidyN_L2_B (nI nst) isk _ (nI 4096) now book kept F L B (fun i => if i < 4096 then -1 else M i) (nI 4096) = _
      unfold fX9_tidyN_L2_B
      rw [if_pos (nI_le (Nat.le_refl _) (by decide)), show inB 60 61 = true from rfl, grd_t]
      show (fX9_mark B (fun i => if i < 4096 then -1 else M i) (now 60)).bind _ = _
      rw [a4, Option.bind_some]
      show (fX9_mark B m1 (now 60)).bind _ = _
      rw [b4, Option.bind_some]
      exact (c4 4100 (by omega)).trans (d4 4100 (by omega))
  exact h

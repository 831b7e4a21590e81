/-! ===== pure part S: the king's way, both told alike ===== -/
/-- nothing but the king on corners and throne -/
def KO (b : Nat → Int32) : Prop := ∀ s, s < 49 → (s == 24 || isCo s) = true → b s = 0 ∨ b s = 3
def cN (i : Nat) : Nat := if i = 0 then 0 else if i = 1 then 6 else if i = 2 then 42 else 48
theorem fCO_c : ∀ i, i < 4 → fCO i = nI (cN i) := by decide +kernel
theorem cN_lt (i : Nat) : cN i < 49 := by
  unfold cN
  split
  · decide
  split
  · decide
  split <;> decide
theorem cN_co (i : Nat) : isCo (cN i) = true := by
  unfold cN
  split
  · decide
  split
  · decide
  split <;> decide
def crF (q : List (Nat × Nat)) : Nat → Option Nat
  | 0 => none
  | i + 1 => lsO (crF q i) (rd q (cN i))
theorem crF_4 (q : List (Nat × Nat)) : crF q 4 = kmF q 49 := rfl
theorem crF_lt {b : Nat → Int32} {o : Option Nat} {q : List (Nat × Nat)} (hq : MD b o q) : ∀ i t, crF q i = some t → t < 49
  | 0, _, h => nomatch h
  | i + 1, t, h => lsO_lt (crF_lt hq i) (rd_lt hq (cN i)) t h
theorem f_lesser {a c : Option Nat} (ha : ∀ t, a = some t → t < 49) (hc : ∀ t, c = some t → t < 49) : fX2_lesser (enc a) (enc c) = some (enc (lsO a c)) := by
  unfold fX2_lesser
  simp only [enc_neg ha, enc_neg hc]
  cases c with
  | none => simp [lsO]
  | some m =>
    have := hc m rfl
    cases a with
    | none => simp [lsO]
    | some n =>
      have := ha n rfl
      have e : (enc (some m) < enc (some n)) = (m < n) := propext (nI_ltI (by omega) (by omega))
      simp only [e]
      by_cases h : m < n
      · simp [lsO, h]
      · simp [lsO, h]
theorem king_Fr {b : Nat → Int32} {k : Nat} : Fr b (some k) k = true := by
  unfold Fr
  simp
theorem br_run {krf kqf : Nat → Int32} {kc : Int32} {b : Nat → Int32} {o : Option Nat} {q : List (Nat × Nat)} (hr : ∀ t, t < 49 → krf t = enc (rd q t)) (hq : MD b o q) : fX2_byRounds_L22 (krf, kqf, kc) 64 (-1) 0 = some (enc (crF q 4), krf, kqf, kc) := by
  refine lp_for (B := fun zf z => fX2_byRounds_L22_B (krf, kqf, kc) (fun v2 v5 => zf (v2, v5)) z.1 z.2) (fun i => (enc (crF q i), nI i)) 4 (fun i hi self => ?_) (fun self => rfl) (by omega)
  show fX2_byRounds_L22_B (krf, kqf, kc) _ (enc (crF q i)) (nI i) = _
  unfold fX2_byRounds_L22_B
  rw [if_neg (nle (c := 4) hi (by decide)), inB_t hi (by decide), grd_t, bnd_eq, nI_clamp (by omega), fCO_c i hi, f_roundOf (cN_lt i), Option.bind_some]
  show (fX2_lesser (enc (crF q i)) (krf (cN i))).bind _ = _
  rw [hr _ (cN_lt i), f_lesser (crF_lt hq i) (rd_lt hq _), Option.bind_some, nI_1]
  rfl
/-- what the reference's measures are when its row tells the same board -/
theorem AG_Fr {b c : Nat → Int32} (h : AG b c) {o : Option Nat} {t : Nat} (ht : t < 49) : Fr b o t = Fr c o t := by
  unfold Fr
  rw [h t ht]
theorem AG_adj {b c : Nat → Int32} (h : AG b c) {o : Option Nat} {u t : Nat} (hu : u < 49) (ht : t < 49) : adj b o u t = adj c o u t := by
  unfold adj
  rw [all_congr _ (fun s hs => AG_Fr h (seg_lt u hu t ht s hs))]
theorem AG_MD {b c : Nat → Int32} (h : AG b c) {o : Option Nat} {q : List (Nat × Nat)} (hq : MD b o q) : MD c o q := by
  obtain ⟨h1, h2, h3, h4, h5⟩ := hq
  refine ⟨h1, h2, h3, fun e he m hm => ?_, fun e he t ht ha => h5 e he t ht ?_⟩
  · obtain ⟨e', g1, g2, g3⟩ := h4 e he m hm
    exact ⟨e', g1, g2, by rw [← AG_adj h (h2 e' g1).1 (h2 e he).1]; exact g3⟩
  · rw [AG_adj h (h2 e he).1 ht]
    exact ha
/-! the king's moves by rounds -/
theorem f_byRounds (krf kqf : Nat → Int32) {f : Nat → Int32} : ∃ q k1 k2 k3, MD f (kingN f) q ∧ fX2_byRounds krf kqf (enc (kingN f)) f = some (enc (kmF q 49), k1, k2, k3) := by
  cases hk : kingN f with
  | none =>
    refine ⟨[], fun k => if k < 49 then -1 else krf k, kqf, 0, MD_nil, ?_⟩
    unfold fX2_byRounds fX2_spread
    rw [f_fill, Option.bind_some, if_neg (show ¬ 0 ≤ enc none by decide), Option.bind_some]
    exact br_run (b := f) (o := none) (q := []) (fun t ht => by
      show (if t < 49 then -1 else krf t) = _
      rw [if_pos ht]
      rfl) MD_nil
  | some k =>
    have hk49 := king_lt k hk
    obtain ⟨k1, k2, k3, q, h1, h2, h3⟩ := f_spread (b := f) (o := some k) (fun t e => Option.some.inj e ▸ hk49) krf kqf hk49 king_Fr
    refine ⟨q, k1, k2, k3, h2.md, ?_⟩
    unfold fX2_byRounds
    have h3 : fX2_spread krf kqf (enc (some k)) f (enc (some k)) = some (k1, k2, k3) := h3
    rw [h3, Option.bind_some]
    exact br_run h1.r h2.md
/-! distances there and back -/
theorem back {b : Nat → Int32} {o : Option Nat} {s t : Nat} {q q' : List (Nat × Nat)} (h : IsD b o s q) (h' : IsD b o t q') : ∀ (n u : Nat), rd q u = some n → ∀ m, rd q' u = some m → ∃ m', m' ≤ m + n ∧ rd q' s = some m'
  | 0, u, hu, m, hm => ⟨m, by omega, by rw [← h.2.2.1.2 _ (rd_mem hu) rfl]; exact hm⟩
  | n + 1, u, hu, m, hm => by
    obtain ⟨e, he, h1, h2⟩ := h.2.2.2.1 _ (rd_mem hu) n rfl
    have he2 := h.2.1 e he
    have hu2 := h.2.1 _ (rd_mem hu)
    have h3 := adj_symm he2.1 hu2.1 he2.2.2 h2
    obtain ⟨m2, h4, h5⟩ := h'.2.2.2.2 _ (rd_mem hm) e.1 he2.1 h3
    obtain ⟨m3, h6, h7⟩ := back h h' n e.1 (mem_rd h.1 (by rw [← h1]; exact he)) m2 (mem_rd h'.1 h4)
    have h5 : m2 ≤ m + 1 := h5
    exact ⟨m3, by omega, h7⟩
theorem dist_symm {b : Nat → Int32} {o : Option Nat} {s t : Nat} {q q' : List (Nat × Nat)} (h : IsD b o s q) (h' : IsD b o t q') : rd q t = rd q' s := by
  have a1 : ∀ n, rd q t = some n → ∃ m, m ≤ n ∧ rd q' s = some m := fun n hn => by
    obtain ⟨m, h1, h2⟩ := back h h' n t hn 0 (mem_rd h'.1 h'.2.2.1.1)
    exact ⟨m, by omega, h2⟩
  have a2 : ∀ n, rd q' s = some n → ∃ m, m ≤ n ∧ rd q t = some m := fun n hn => by
    obtain ⟨m, h1, h2⟩ := back h' h n s hn 0 (mem_rd h.1 h.2.2.1.1)
    exact ⟨m, by omega, h2⟩
  cases e : rd q t with
  | none =>
    cases e2 : rd q' s with
    | none => rfl
    | some n =>
      obtain ⟨m, _, h2⟩ := a2 n e2
      rw [e] at h2
      exact nomatch h2
  | some n =>
    obtain ⟨m, h1, h2⟩ := a1 n e
    obtain ⟨m2, h3, h4⟩ := a2 m h2
    rw [e] at h4
    have := Option.some.inj h4
    rw [h2]
    congr 1
    omega
theorem bc_S (k : Int32) (f : Nat → Int32) (M : Nat) (a i : Int32) (krf kqf : Nat → Int32) (kc : Int32) : fX2_byCorners_L22 k f (M + 1) a i krf kqf kc = fX2_byCorners_L22_B k f (fX2_byCorners_L22 k f M) a i krf kqf kc := rfl
theorem bc_run {f : Nat → Int32} (hko : KO f) {k : Nat} (hk : kingN f = some k) (hu : UK f) {q : List (Nat × Nat)} (hq : IsD f (some k) k q) : ∀ (m i : Nat), i + m = 4 → ∀ (krf kqf : Nat → Int32) (kc : Int32), ∃ k1 k2 k3, ∀ N, m + 1 ≤ N → fX2_byCorners_L22 (enc (some k)) f N (enc (crF q i)) (nI i) krf kqf kc = some (enc (crF q 4), k1, k2, k3)
  | 0, i, hi, krf, kqf, kc => by
    have : i = 4 := by omega
    subst this
    refine ⟨krf, kqf, kc, fun N hN => ?_⟩
    obtain ⟨M, rfl⟩ : ∃ M, N = M + 1 := ⟨N - 1, by omega⟩
    rw [bc_S]
    unfold fX2_byCorners_L22_B
    rw [if_pos (by decide)]
  | m + 1, i, hi, krf, kqf, kc => by
    have hk49 := king_lt k hk
    have ho : ∀ t, some k = some t → t < 49 := fun t e => Option.some.inj e ▸ hk49
    have hf : Fr f (some k) (cN i) = true := by
      rcases hko (cN i) (cN_lt i) (by rw [cN_co i]; simp) with h | h
      · unfold Fr
        simp [h]
      · have h2 := king_is hu (cN_lt i) h
        rw [hk] at h2
        rw [← Option.some.inj h2]
        exact king_Fr
    obtain ⟨k1, k2, k3, q', h1, h2, h3⟩ := f_spread (b := f) (o := some k) ho krf kqf (cN_lt i) hf
    obtain ⟨k4, k5, k6, h4⟩ := bc_run hko hk hu hq m (i + 1) (by omega) k1 k2 k3
    refine ⟨k4, k5, k6, fun N hN => ?_⟩
    obtain ⟨M, rfl⟩ : ∃ M, N = M + 1 := ⟨N - 1, by omega⟩
    have hr : k1 k = enc (rd q (cN i)) := by rw [h1.r k hk49, dist_symm hq h2]
    rw [bc_S]
    unfold fX2_byCorners_L22_B
    rw [if_neg (nle (c := 4) (by omega) (by decide)), inB_t (by omega) (by decide), grd_t, bnd_eq, nI_clamp (by omega), fCO_c i (by omega), h3, Option.bind_some]
    simp only
    rw [show fX2_roundOf k1 (enc (some k)) = some (k1 k) from f_roundOf hk49, Option.bind_some, hr, f_lesser (crF_lt hq.md i) (rd_lt hq.md _), Option.bind_some, nI_1]
    exact h4 M (by omega)
/-! the king's moves by corners -/
theorem f_byCorners (krf kqf : Nat → Int32) (kc : Int32) {f : Nat → Int32} (hko : KO f) (hu : UK f) : ∃ q k1 k2 k3, MD f (kingN f) q ∧ fX2_byCorners kc krf kqf (enc (kingN f)) f = some (enc (kmF q 49), k1, k2, k3) := by
  cases hk : kingN f with
  | none =>
    refine ⟨[], krf, kqf, kc, MD_nil, ?_⟩
    unfold fX2_byCorners
    rw [if_neg (show ¬ 0 ≤ enc none by decide)]
    rfl
  | some k =>
    have hk49 := king_lt k hk
    obtain ⟨k1, k2, k3, q, h1, h2, h3⟩ := f_spread (b := f) (o := some k) (fun t e => Option.some.inj e ▸ hk49) krf kqf hk49 king_Fr
    obtain ⟨k4, k5, k6, h4⟩ := bc_run hko hk hu h2 4 0 rfl krf kqf kc
    refine ⟨q, k4, k5, k6, h2.md, ?_⟩
    unfold fX2_byCorners
    rw [if_pos (show 0 ≤ enc (some k) from ple (c := 0) (by omega) (by omega))]
    exact h4 64 (by omega)
/-! how far he reaches -/
theorem sum_one (a : Nat) : ∀ n, sumN (fun s => if s = a then 1 else 0) n = if a < n then 1 else 0
  | 0 => rfl
  | n + 1 => by
    show sumN _ n + (if n = a then 1 else 0) = _
    rw [sum_one a n]
    by_cases h : n = a
    · rw [if_neg (by omega), if_pos h, if_pos (by omega)]
    · by_cases h2 : a < n
      · rw [if_pos h2, if_neg h, if_pos (by omega)]
      · rw [if_neg h2, if_neg h, if_neg (by omega)]
theorem sum_mem : ∀ (l : List Nat) (n : Nat), l.Nodup → (∀ x ∈ l, x < n) → sumN (fun s => if s ∈ l then 1 else 0) n = l.length
  | [], n, _, _ => by
    rw [sumN_zero.mpr]
    · rfl
    · intro i hi
      exact if_neg (by simp)
  | a :: l, n, hn, hl => by
    obtain ⟨h1, h2⟩ := List.nodup_cons.mp hn
    have ih := sum_mem l n h2 (fun x hx => hl x (List.mem_cons_of_mem _ hx))
    have e : sumN (fun s => if s ∈ a :: l then 1 else 0) n = sumN (fun s => (if s = a then 1 else 0) + (if s ∈ l then 1 else 0)) n := sumN_congr (fun s hs => by
      by_cases h3 : s = a
      · subst h3
        rw [if_pos List.mem_cons_self, if_pos rfl, if_neg h1]
      · by_cases h4 : s ∈ l
        · rw [if_pos (List.mem_cons_of_mem _ h4), if_neg h3, if_pos h4]
        · rw [if_neg (by simp [h3, h4]), if_neg h3, if_neg h4])
    rw [e, ← sumN_add, ih, sum_one, if_pos (hl a List.mem_cons_self), List.length_cons]
    omega
theorem reN_len {b : Nat → Int32} {k : Nat} {q : List (Nat × Nat)} (hq : MD b (some k) q) : reN q + 1 = q.length := by
  have hk : rd q k = some 0 := (hq.2.2.1 k).mpr rfl
  have hk49 := (hq.2.1 _ (rd_mem hk)).1
  have h1 := sum_mem (qk q) 49 hq.1 (fun x hx => by
    obtain ⟨e, he, rfl⟩ := List.mem_map.mp hx
    exact (hq.2.1 e he).1)
  have h2 : (qk q).length = q.length := List.length_map ..
  have h3 := sum_one k 49
  rw [if_pos hk49] at h3
  suffices h9 : reN q + sumN (fun s => if s = k then 1 else 0) 49 = sumN (fun s => if s ∈ qk q then 1 else 0) 49 by omega
  unfold reN
  rw [sumN_add]
  refine sumN_congr (fun s hs => ?_)
  by_cases e : s = k
  · subst e
    have hm : s ∈ qk q := Classical.not_not.mp (fun h => by
      rw [rd_none.mpr h] at hk
      exact nomatch hk)
    rw [if_pos (Or.inr hk), if_pos rfl, if_pos hm]
  · rw [if_neg e]
    cases h4 : rd q s with
    | none =>
      rw [if_pos (Or.inl rfl), if_neg (rd_none.mp h4)]
    | some n =>
      have hm : s ∈ qk q := Classical.not_not.mp (fun h => by
        rw [rd_none.mpr h] at h4
        exact nomatch h4)
      have hn : n ≠ 0 := fun e0 => e (Option.some.inj ((hq.2.2.1 s).mp (by rw [h4, e0]))).symm
      rw [if_neg (by simp [hn]), if_pos hm]
theorem f_countReached (krf kqf : Nat → Int32) {f : Nat → Int32} : ∃ q k1 k2 k3, MD f (kingN f) q ∧ fX2_countReached krf kqf (enc (kingN f)) f = some (nI (reN q), k1, k2, k3) := by
  cases hk : kingN f with
  | none =>
    refine ⟨[], fun k => if k < 49 then -1 else krf k, kqf, 0, MD_nil, ?_⟩
    unfold fX2_countReached fX2_spread
    rw [f_fill, Option.bind_some, if_neg (show ¬ 0 ≤ enc none by decide), Option.bind_some]
    rfl
  | some k =>
    have hk49 := king_lt k hk
    obtain ⟨k1, k2, k3, q, h1, h2, h3⟩ := f_spread (b := f) (o := some k) (fun t e => Option.some.inj e ▸ hk49) krf kqf hk49 king_Fr
    refine ⟨q, k1, k2, k3, h2.md, ?_⟩
    have hl := reN_len h2.md
    have hl2 := h1.len
    unfold fX2_countReached
    have h3 : fX2_spread krf kqf (enc (some k)) f (enc (some k)) = some (k1, k2, k3) := h3
    rw [h3, Option.bind_some, h1.c]
    simp only
    rw [← hl, nI_pred]
    by_cases e : reN q = 0
    · rw [e]
      rfl
    · rw [if_pos (show (0 : Int32) < nI (reN q) from nI_lt (a := 0) (by omega) (by omega))]
/-! the open corners -/
theorem seg_no : ∀ u, u < 49 → ∀ t, t < 49 → (segOf u t).contains u = false := by decide +kernel
theorem open_rd {b : Nat → Int32} {k c : Nat} (hk : k < 49) (hc : c < 49) (h3 : b k = 3) {q : List (Nat × Nat)} (hq : MD b (some k) q) : (reason b k c = 0) = (rd q c = some 1) := by
  have h0 : b k ≠ 0 := by rw [h3]; decide
  have hk0 : rd q k = some 0 := (hq.2.2.1 k).mpr rfl
  have hr : rst (b k) c = true := by unfold rst; simp [h3]
  have hadj : (wayOf k c).isSome = true → (decide (reason b k c = 0) = (segOf k c).all (Fr b (some k))) := fun ha => by
    obtain ⟨w, hw⟩ := Option.isSome_iff_exists.mp ha
    rw [reason_w h0 hw, hr, Bool.and_true]
    refine all_congr _ (fun t ht => ?_)
    have : k ≠ t := fun e => by
      have h9 := seg_no k hk c hc
      rw [e] at h9 ht
      rw [List.contains_iff_mem.mpr ht] at h9
      exact nomatch h9
    unfold Fr
    simp [this]
  rw [eq_iff_iff]
  constructor
  · intro h
    have ha := reason_al h
    have h4 := hadj ha
    rw [decide_eq_true h] at h4
    obtain ⟨n, h5, h6⟩ := hq.2.2.2.2 _ (rd_mem hk0) c hc (by unfold adj; rw [ha, ← h4]; rfl)
    have h6 : n ≤ 0 + 1 := h6
    have h7 : n ≠ 0 := fun e => by
      rw [e] at h5
      have := (hq.2.2.1 c).mp (mem_rd hq.1 h5)
      exact way_ne ha (Option.some.inj this)
    rw [mem_rd hq.1 h5]
    congr 1
    omega
  · intro h
    obtain ⟨e, he, h4, h5⟩ := hq.2.2.2.1 _ (rd_mem h) 0 rfl
    have h6 : e.1 = k := (Option.some.inj ((hq.2.2.1 e.1).mp (mem_rd hq.1 (by rw [← h4]; exact he)))).symm
    rw [h6] at h5
    unfold adj at h5
    rw [Bool.and_eq_true] at h5
    have h7 := hadj h5.1
    rw [h5.2] at h7
    exact of_decide_eq_true h7
theorem coN_4 (q : List (Nat × Nat)) : coN q = sumN (fun i => if rd q (cN i) = some 1 then 1 else 0) 4 := by
  have : coN q = (((0 + (if true && decide (rd q 0 = some 1) then 1 else 0)) + (if true && decide (rd q 6 = some 1) then 1 else 0)) + (if true && decide (rd q 42 = some 1) then 1 else 0)) + (if true && decide (rd q 48 = some 1) then 1 else 0) := rfl
  rw [this, sumN_4]
  simp [cN]
theorem f_openCorners {f : Nat → Int32} {q : List (Nat × Nat)} (hq : MD f (kingN f) q) : fX1_countOpenCorners (enc (kingN f)) f = some (nI (coN q)) := by
  rw [coN_4]
  refine lp_for (B := fun zf z => fX1_countOpenCorners_L12_B (enc (kingN f)) f (fun v1 v4 => zf (v1, v4)) z.1 z.2) (fun i => (nI (sumN (fun i => if rd q (cN i) = some 1 then 1 else 0) i), nI i)) 4 (fun i hi self => ?_) (fun self => rfl) (by omega)
  show fX1_countOpenCorners_L12_B (enc (kingN f)) f _ (nI _) (nI i) = _
  unfold fX1_countOpenCorners_L12_B
  rw [if_neg (nle (c := 4) hi (by decide)), inB_t hi (by decide), grd_t, bnd_eq, nI_clamp (by omega), fCO_c i hi, nI_1]
  show _ = self (nI (sumN _ i + (if rd q (cN i) = some 1 then 1 else 0)), nI (i + 1))
  cases hk : kingN f with
  | none =>
    rw [hk] at hq
    rw [if_pos (show enc none < 0 by decide), if_neg]
    · rfl
    · intro h
      obtain ⟨e, he, h4, h5⟩ := hq.2.2.2.1 _ (rd_mem h) 0 rfl
      exact nomatch (hq.2.2.1 e.1).mp (mem_rd hq.1 (by rw [← h4]; exact he))
  | some k =>
    rw [hk] at hq
    have hk2 := king_some hk
    rw [if_neg (show ¬ enc (some k) < 0 from nlt0 (by omega)), show fX1_obstacle f (enc (some k)) (nI (cN i)) = some (reason f k (cN i)) from f_obstacle hk2.1 (cN_lt i), Option.bind_some]
    simp only [open_rd hk2.1 (cN_lt i) hk2.2 hq]
    split
    · rw [nI_1]
    · rfl
/-! the king's pressure -/
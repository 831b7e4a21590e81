/-! ===== pure part P: the search is run to its end ===== -/
theorem f_fill (f : Nat → Int32) (v : Int32) : fJ7_fill_53178 f v = some (fun k => if k < 49 then v else f k) := by
  have h := lp_for (n := 64) (B := fun zf z => fJ7_fill_53178_L5_B v (fun v2_1 w => zf (v2_1, w)) z.1 z.2) (fun i => (nI i, fun k => if k < i then v else f k)) 49 (res := some (fun k => if k < 49 then v else f k)) (fun i hi self => ?_) (fun self => ?_) (by omega)
  · exact h
  · show fJ7_fill_53178_L5_B v _ (nI i) _ = _
    unfold fJ7_fill_53178_L5_B
    rw [if_neg (nle (c := 49) hi (by decide)), inB_t (by omega) (by decide), grd_t, nI_clamp (by omega), nI_1]
    congr 2
    funext k
    unfold upd
    by_cases e : k = i
    · rw [if_pos e, if_pos (by omega)]
    · rw [if_neg e]
      show (if k < i then v else f k) = _
      by_cases e2 : k < i
      · rw [if_pos e2, if_pos (by omega)]
      · rw [if_neg e2, if_neg (by omega)]
  · rfl
theorem aL_app (n : Nat) (q : List (Nat × Nat)) (l m : List Nat) : aL q n (l ++ m) = aL (aL q n l) n m := List.foldl_append
theorem aL_ext (n : Nat) : ∀ (l : List Nat) (q : List (Nat × Nat)), ∃ ext, aL q n l = q ++ ext ∧ (∀ e ∈ ext, e.2 = n ∧ e.1 ∈ l) ∧ ∀ t ∈ l, t ∈ qk (q ++ ext)
  | [], q => ⟨[], (by rw [List.append_nil]; rfl), (fun e he => absurd he (by simp)), (fun t ht => absurd ht (by simp))⟩
  | a :: l, q => by
    obtain ⟨ext, h1, h2, h3⟩ := aL_ext n l (aQ q n a)
    by_cases hm : a ∈ qk q
    · have e : aQ q n a = q := if_pos hm
      rw [e] at h1 h3
      refine ⟨ext, ?_, fun x hx => ⟨(h2 x hx).1, List.mem_cons_of_mem _ (h2 x hx).2⟩, fun t ht => ?_⟩
      · show aL (aQ q n a) n l = _
        rw [e]
        exact h1
      · rcases List.mem_cons.mp ht with ht | ht
        · subst ht
          unfold qk at hm ⊢
          rw [List.map_append]
          exact List.mem_append_left _ hm
        · exact h3 t ht
    · have e : aQ q n a = q ++ [(a, n)] := if_neg hm
      rw [e, List.append_assoc] at h1 h3
      refine ⟨(a, n) :: ext, ?_, fun x hx => ?_, fun t ht => ?_⟩
      · show aL (aQ q n a) n l = _
        rw [e]
        exact h1
      · rcases List.mem_cons.mp hx with hx | hx
        · subst hx
          exact ⟨rfl, List.mem_cons_self⟩
        · exact ⟨(h2 x hx).1, List.mem_cons_of_mem _ (h2 x hx).2⟩
      · rcases List.mem_cons.mp ht with ht | ht
        · subst ht
          unfold qk
          rw [List.map_append]
          exact List.mem_append_right _ List.mem_cons_self
        · exact h3 t ht
theorem f_spreadFrom {b krf kqf : Nat → Int32} {o : Option Nat} (ho : ∀ t, o = some t → t < 49) {kc : Int32} {q : List (Nat × Nat)} (hq : QR krf kqf kc q) {u n d : Nat} (hu : (u, n) ∈ q) (hn : n < 63) (hd : d < 4) : ∃ krf' kqf' kc', QR krf' kqf' kc' (aL q (n + 1) (nbW b o u (cw d))) ∧ fX2_spreadFrom kc krf kqf (enc o) b (nI u) (nI d) = some (krf', kqf', kc') := by
  have hu49 := (hq.l _ hu).1
  obtain ⟨k1, k2, k3, h1, h2⟩ := sf_in (b := b) ho hd hn (ray u (cw d)) (Way_ray hu49 (cw_lt d)) 1 (by have := ray_len u hu49 (cw d) (cw_lt d); omega) krf kqf kc q hq
  refine ⟨k1, k2, k3, h1, ?_⟩
  have hr : krf u = nI n := by rw [hq.r u hu49, mem_rd hq.n hu]; rfl
  unfold fX2_spreadFrom
  rw [f_roundOf hu49, Option.bind_some, hr, f_beside u hu49 d hd, Option.bind_some, ← ray_head u hu49 (cw d) (cw_lt d)]
  exact h2 64 (by have := ray_len u hu49 (cw d) (cw_lt d); omega)
def nbF (b : Nat → Int32) (o : Option Nat) (u : Nat) : Nat → Nat → List Nat
  | 0, _ => []
  | m + 1, d => nbW b o u (cw d) ++ nbF b o u m (d + 1)
theorem sp_S4 (k : Int32) (b : Nat → Int32) (s8 : Int32 → (Nat → Int32) → (Nat → Int32) → Int32 → Option ((Nat → Int32) × (Nat → Int32) × Int32)) (v : Int32) (M : Nat) (d : Int32) (krf kqf : Nat → Int32) (kc : Int32) : fX2_spread_L43 k b s8 v (M + 1) d krf kqf kc = fX2_spread_L43_B k b s8 v (fX2_spread_L43 k b s8 v M) d krf kqf kc := rfl
theorem sp_4 {b : Nat → Int32} {o : Option Nat} (ho : ∀ t, o = some t → t < 49) {u n i : Nat} (hn : n < 63) (hi : i < 49) : ∀ (m d : Nat), d + m = 4 → ∀ (krf kqf : Nat → Int32) (kc : Int32) (q : List (Nat × Nat)), QR krf kqf kc q → q[i]? = some (u, n) → ∃ krf' kqf' kc', QR krf' kqf' kc' (aL q (n + 1) (nbF b o u m d)) ∧ ∀ s8 N, m + 1 ≤ N → fX2_spread_L43 (enc o) b s8 (nI i) N (nI d) krf kqf kc = s8 (nI (i + 1)) krf' kqf' kc'
  | 0, d, hd, krf, kqf, kc, q, hq, hu => by
    refine ⟨krf, kqf, kc, hq, fun s8 N hN => ?_⟩
    obtain ⟨M, rfl⟩ : ∃ M, N = M + 1 := ⟨N - 1, by omega⟩
    have : d = 4 := by omega
    subst this
    rw [sp_S4]
    unfold fX2_spread_L43_B
    rw [if_pos (by decide), nI_1]
  | m + 1, d, hd, krf, kqf, kc, q, hq, hu => by
    obtain ⟨k1, k2, k3, h1, h2⟩ := f_spreadFrom (b := b) ho hq (List.mem_of_getElem? hu) hn (show d < 4 by omega)
    have hu2 : (aL q (n + 1) (nbW b o u (cw d)))[i]? = some (u, n) := by
      obtain ⟨ext, h3, _, _⟩ := aL_ext (n + 1) (nbW b o u (cw d)) q
      rw [h3, List.getElem?_append_left (List.getElem?_eq_some_iff.mp hu).1]
      exact hu
    obtain ⟨k4, k5, k6, h4, h5⟩ := sp_4 ho hn hi m (d + 1) (by omega) k1 k2 k3 _ h1 hu2
    refine ⟨k4, k5, k6, ?_, fun s8 N hN => ?_⟩
    · show QR k4 k5 k6 (aL q (n + 1) (nbW b o u (cw d) ++ nbF b o u m (d + 1)))
      rw [aL_app]
      exact h4
    · obtain ⟨M, rfl⟩ : ∃ M, N = M + 1 := ⟨N - 1, by omega⟩
      rw [sp_S4]
      unfold fX2_spread_L43_B
      obtain ⟨hl, hg⟩ := List.getElem?_eq_some_iff.mp hu
      have hk : kqf i = nI u := by rw [hq.k i hl, hg]
      rw [if_neg (nle (c := 4) (by omega) (by decide)), inB_t hi (by decide), grd_t, nI_clamp (by omega), hk, h2, Option.bind_some, nI_1]
      exact h5 s8 M (by omega)
/-- what the queue is like when i of its squares are done -/
def BI (b : Nat → Int32) (o : Option Nat) (s0 i : Nat) (q : List (Nat × Nat)) : Prop := (∀ e ∈ q, Fr b o e.1 = true) ∧ q.Pairwise (fun a c => a.2 ≤ c.2) ∧ (∀ (h : i < q.length), ∀ e ∈ q, e.2 ≤ (q[i]).2 + 1) ∧ ((s0, 0) ∈ q ∧ ∀ e ∈ q, e.2 = 0 → e.1 = s0) ∧ (∀ e ∈ q, ∀ m, e.2 = m + 1 → ∃ e' ∈ q, e'.2 = m ∧ adj b o e'.1 e.1 = true) ∧ (∀ j, j < i → ∀ (h : j < q.length), ∀ t, t < 49 → adj b o (q[j]).1 t = true → ∃ e ∈ q, e.1 = t ∧ e.2 ≤ (q[j]).2 + 1) ∧ (∀ j (h : j < q.length), (q[j]).2 ≤ j)
theorem nbF_adj {b : Nat → Int32} {o : Option Nat} {u t : Nat} (hu : u < 49) : ∀ (m d : Nat), t ∈ nbF b o u m d → adj b o u t = true ∧ t < 49
  | 0, _, h => by cases h
  | m + 1, d, h => by
    rcases List.mem_append.mp h with h | h
    · exact nb_adj hu (cw_lt d) h
    · exact nbF_adj hu m (d + 1) h
theorem adj_nbF {b : Nat → Int32} {o : Option Nat} {u t : Nat} (hu : u < 49) (ht : t < 49) (h : adj b o u t = true) : t ∈ nbF b o u 4 0 := by
  obtain ⟨w, hw, hm⟩ := adj_nb hu ht h
  have e : nbF b o u 4 0 = nbW b o u 0 ++ (nbW b o u 3 ++ (nbW b o u 1 ++ (nbW b o u 2 ++ []))) := rfl
  rw [e]
  rcases (by omega : w = 0 ∨ w = 1 ∨ w = 2 ∨ w = 3) with h | h | h | h <;> subst h <;> simp [hm]
theorem BI_step {b : Nat → Int32} {o : Option Nat} {s0 i : Nat} {q : List (Nat × Nat)} (hl : ∀ e ∈ q, e.1 < 49) (h : BI b o s0 i q) {u n : Nat} (hi : i < q.length) (hu : q[i] = (u, n)) : BI b o s0 (i + 1) (aL q (n + 1) (nbF b o u 4 0)) := by
  obtain ⟨h1, h2, h3, ⟨h4, h4b⟩, h5, h6, h7⟩ := h
  obtain ⟨ext, x1, x2, x3⟩ := aL_ext (n + 1) (nbF b o u 4 0) q
  have hmem : (u, n) ∈ q := hu ▸ List.getElem_mem hi
  have hu49 := hl _ hmem
  have h3 := fun e he => h3 hi e he
  rw [hu] at h3
  have xa : ∀ e ∈ ext, e.2 = n + 1 ∧ adj b o u e.1 = true ∧ e.1 < 49 := fun e he => ⟨(x2 e he).1, nbF_adj hu49 4 0 (x2 e he).2⟩
  rw [x1]
  have hall : ∀ e ∈ q ++ ext, e.2 ≤ n + 1 := fun e he => by
    rcases List.mem_append.mp he with he | he
    · exact h3 e he
    · exact Nat.le_of_eq (xa e he).1
  have hsort : (q ++ ext).Pairwise (fun a c => a.2 ≤ c.2) := by
    rw [List.pairwise_append]
    refine ⟨h2, ?_, fun a ha c hc => ?_⟩
    · refine List.pairwise_iff_getElem.mpr (fun a c ha hc _ => ?_)
      rw [(xa _ (List.getElem_mem ha)).1, (xa _ (List.getElem_mem hc)).1]
      exact Nat.le_refl _
    · rw [(xa c hc).1]
      exact h3 a ha
  refine ⟨fun e he => ?_, hsort, fun hi2 e he => ?_, ⟨List.mem_append_left _ h4, fun e he h0 => ?_⟩, fun e he m hm => ?_, fun j hj hjl t ht ha => ?_, fun j hjl => ?_⟩
  · rcases List.mem_append.mp he with he | he
    · exact h1 e he
    · have := xa e he
      exact adj_free hu49 this.2.2 this.2.1
  · have hs := List.pairwise_iff_getElem.mp hsort i (i + 1) (by omega) hi2 (by omega)
    rw [List.getElem_append_left hi, hu] at hs
    have hs : n ≤ _ := hs
    have := hall e he
    omega
  · rcases List.mem_append.mp he with he | he
    · exact h4b e he h0
    · have := (xa e he).1
      omega
  · rcases List.mem_append.mp he with he | he
    · obtain ⟨e', h8, h9⟩ := h5 e he m hm
      exact ⟨e', List.mem_append_left _ h8, h9⟩
    · have := xa e he
      exact ⟨(u, n), List.mem_append_left _ hmem, by show n = m; omega, this.2.1⟩
  · rcases (by omega : j < i ∨ j = i) with hj | hj
    · rw [List.getElem_append_left (by omega)] at ha ⊢
      obtain ⟨e, h8, h9⟩ := h6 j hj (by omega) t ht ha
      exact ⟨e, List.mem_append_left _ h8, h9⟩
    · subst hj
      rw [List.getElem_append_left hi, hu] at ha ⊢
      have := x3 t (adj_nbF hu49 ht ha)
      obtain ⟨e, he, h8⟩ := List.mem_map.mp this
      exact ⟨e, he, h8, hall e he⟩
  · by_cases hj : j < q.length
    · rw [List.getElem_append_left hj]
      exact h7 j hj
    · rw [List.getElem_append_right (by omega)]
      have := h7 i hi
      rw [hu] at this
      have this : n ≤ i := this
      have h8 := (xa _ (List.getElem_mem (show j - q.length < ext.length by rw [List.length_append] at hjl; omega))).1
      omega
/-- the squares that were reached, with how many moves each needs -/
def IsD (b : Nat → Int32) (o : Option Nat) (s0 : Nat) (q : List (Nat × Nat)) : Prop := (qk q).Nodup ∧ (∀ e ∈ q, e.1 < 49 ∧ e.2 ≤ 48 ∧ Fr b o e.1 = true) ∧ ((s0, 0) ∈ q ∧ ∀ e ∈ q, e.2 = 0 → e.1 = s0) ∧ (∀ e ∈ q, ∀ m, e.2 = m + 1 → ∃ e' ∈ q, e'.2 = m ∧ adj b o e'.1 e.1 = true) ∧ (∀ e ∈ q, ∀ t, t < 49 → adj b o e.1 t = true → ∃ n, (t, n) ∈ q ∧ n ≤ e.2 + 1)
theorem BI_end {b : Nat → Int32} {o : Option Nat} {s0 i : Nat} {q : List (Nat × Nat)} (hn : (qk q).Nodup) (hl : ∀ e ∈ q, e.1 < 49) (hlen : q.length ≤ 49) (h : BI b o s0 i q) (hi : q.length ≤ i) : IsD b o s0 q := by
  obtain ⟨h1, h2, h3, h4, h5, h6, h7⟩ := h
  refine ⟨hn, fun e he => ?_, h4, h5, fun e he t ht ha => ?_⟩
  · obtain ⟨j, hj, rfl⟩ := List.getElem_of_mem he
    have := h7 j hj
    exact ⟨hl _ he, by omega, h1 _ he⟩
  · obtain ⟨j, hj, rfl⟩ := List.getElem_of_mem he
    obtain ⟨e, h8, h9, h10⟩ := h6 j (by omega) hj t ht ha
    exact ⟨e.2, by rw [← h9]; exact h8, h10⟩
theorem sp_S (k : Int32) (b : Nat → Int32) (M : Nat) (i : Int32) (krf kqf : Nat → Int32) (kc : Int32) : fX2_spread_L26 k b (M + 1) i krf kqf kc = fX2_spread_L26_B k b (fX2_spread_L26 k b M) i krf kqf kc := rfl
theorem sp_run {b : Nat → Int32} {o : Option Nat} (ho : ∀ t, o = some t → t < 49) {s0 : Nat} : ∀ (m i : Nat), i + m = 49 → ∀ (krf kqf : Nat → Int32) (kc : Int32) (q : List (Nat × Nat)), QR krf kqf kc q → BI b o s0 i q → ∃ krf' kqf' kc' q', QR krf' kqf' kc' q' ∧ IsD b o s0 q' ∧ ∀ N, m + 1 ≤ N → fX2_spread_L26 (enc o) b N (nI i) krf kqf kc = some (krf', kqf', kc')
  | 0, i, hi, krf, kqf, kc, q, hq, hB => by
    refine ⟨krf, kqf, kc, q, hq, BI_end hq.n (fun e he => (hq.l e he).1) hq.len hB (by have := hq.len; omega), fun N hN => ?_⟩
    obtain ⟨M, rfl⟩ : ∃ M, N = M + 1 := ⟨N - 1, by omega⟩
    have : i = 49 := by omega
    subst this
    rw [sp_S]
    unfold fX2_spread_L26_B
    rw [if_pos (by decide)]
  | m + 1, i, hi, krf, kqf, kc, q, hq, hB => by
    have hlen := hq.len
    by_cases hd : q.length ≤ i
    · refine ⟨krf, kqf, kc, q, hq, BI_end hq.n (fun e he => (hq.l e he).1) hq.len hB hd, fun N hN => ?_⟩
      obtain ⟨M, rfl⟩ : ∃ M, N = M + 1 := ⟨N - 1, by omega⟩
      rw [sp_S]
      unfold fX2_spread_L26_B
      rw [if_neg (nle (c := 49) (by omega) (by decide)), hq.c, if_pos (nI_le hd (by omega))]
    · have hi2 : i < q.length := by omega
      have h7 := hB.2.2.2.2.2.2 i hi2
      obtain ⟨k1, k2, k3, h1, h2⟩ := sp_4 (b := b) ho (u := (q[i]).1) (n := (q[i]).2) (i := i) (by omega) (by omega) 4 0 rfl krf kqf kc q hq (List.getElem?_eq_getElem hi2)
      obtain ⟨k4, k5, k6, q', h3, h4, h5⟩ := sp_run ho m (i + 1) (by omega) k1 k2 k3 _ h1 (BI_step (fun e he => (hq.l e he).1) hB hi2 rfl)
      refine ⟨k4, k5, k6, q', h3, h4, fun N hN => ?_⟩
      obtain ⟨M, rfl⟩ : ∃ M, N = M + 1 := ⟨N - 1, by omega⟩
      rw [sp_S]
      unfold fX2_spread_L26_B
      rw [if_neg (nle (c := 49) (by omega) (by decide)), hq.c, if_neg (nI_ge hi2 (by omega)), ← hq.c]
      exact (h2 _ 64 (by omega)).trans (h5 M (by omega))
/-- the class's search from a square -/
theorem f_spread {b : Nat → Int32} {o : Option Nat} (ho : ∀ t, o = some t → t < 49) (krf kqf : Nat → Int32) {s0 : Nat} (hs : s0 < 49) (hf : Fr b o s0 = true) : ∃ krf' kqf' kc' q, QR krf' kqf' kc' q ∧ IsD b o s0 q ∧ fX2_spread krf kqf (enc o) b (nI s0) = some (krf', kqf', kc') := by
  have hq0 : QR (fun k => if k < 49 then (-1) else krf k) kqf 0 [] := by
    refine ⟨fun t ht => ?_, fun i hi => absurd hi (by simp), rfl, List.nodup_nil, fun e he => absurd he (by simp)⟩
    show (if t < 49 then (-1) else krf t) = _
    rw [if_pos ht]
    rfl
  obtain ⟨hn, hq1⟩ := f_note hq0 hs (show 0 < 64 by omega) (by simp [qk])
  have hB : BI b o s0 0 [(s0, 0)] := by
    refine ⟨fun e he => ?_, by simp, fun h e he => ?_, ⟨by simp, fun e he _ => ?_⟩, fun e he m hm => ?_, fun j hj => absurd hj (by omega), fun j hj => ?_⟩
    · rw [List.mem_singleton.mp he]; exact hf
    · rw [List.mem_singleton.mp he]; simp
    · rw [List.mem_singleton.mp he]
    · rw [List.mem_singleton.mp he] at hm; exact absurd hm (by simp)
    · simp
  obtain ⟨k4, k5, k6, q', h3, h4, h5⟩ := sp_run ho 49 0 rfl _ _ _ _ hq1 hB
  refine ⟨k4, k5, k6, q', h3, h4, ?_⟩
  unfold fX2_spread
  rw [f_fill, Option.bind_some, if_pos (show 0 ≤ nI s0 from ple (c := 0) (by omega) (by omega))]
  have e : fX2_note 0 (fun k => if k < 49 then (-1) else krf k) kqf (nI s0) 0 = _ := hn
  rw [e, Option.bind_some]
  exact h5 64 (by omega)

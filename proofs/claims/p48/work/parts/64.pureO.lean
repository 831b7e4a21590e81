/-! ===== pure part O: the king's way (the class's search) ===== -/
/-- free for the king, who has left his own square -/
def Fr (b : Nat → Int32) (o : Option Nat) (t : Nat) : Bool := decide (b t = 0) || decide (o = some t)
/-- one king move apart -/
def adj (b : Nat → Int32) (o : Option Nat) (u t : Nat) : Bool := (wayOf u t).isSome && (segOf u t).all (Fr b o)
/-- the squares one king move from a square, along one way -/
def nbW (b : Nat → Int32) (o : Option Nat) (u w : Nat) : List Nat := (ray u w).takeWhile (Fr b o)
theorem mem_tw {F : Nat → Bool} {t : Nat} : ∀ {l : List Nat}, t ∈ l.takeWhile F → ∃ i, ∃ (h : i < l.length), l[i] = t ∧ (l.take (i + 1)).all F = true
  | [], h => by cases h
  | a :: l, h => by
    rw [List.takeWhile_cons] at h
    split at h
    · rename_i ha
      rcases List.mem_cons.mp h with h | h
      · exact ⟨0, by simp, by simp [h], by simp [ha]⟩
      · obtain ⟨i, hi, h1, h2⟩ := mem_tw h
        exact ⟨i + 1, by simpa using hi, by simpa using h1, by simpa [ha] using h2⟩
    · cases h
theorem tw_mem {F : Nat → Bool} : ∀ (l : List Nat) (i : Nat) (h : i < l.length), (l.take (i + 1)).all F = true → l[i] ∈ l.takeWhile F
  | a :: l, 0, h, hF => by
    simp at hF
    simp [hF]
  | a :: l, i + 1, h, hF => by
    simp only [List.take_succ_cons, List.all_cons, Bool.and_eq_true] at hF
    rw [List.takeWhile_cons, if_pos hF.1]
    exact List.mem_cons_of_mem _ (tw_mem l i (by simpa using h) hF.2)
theorem nb_adj {b : Nat → Int32} {o : Option Nat} {u w t : Nat} (hu : u < 49) (hw : w < 4) (h : t ∈ nbW b o u w) : adj b o u t = true ∧ t < 49 := by
  obtain ⟨i, hi, h1, h2⟩ := mem_tw h
  have h3 := seg_ray u hu w hw i hi
  rw [h1] at h3
  refine ⟨?_, ?_⟩
  · unfold adj
    rw [h3.1, h3.2, h2]
    rfl
  · rw [← h1]
    exact ray_lt u hu w hw _ (List.getElem_mem hi)
theorem way_ray : ∀ u, u < 49 → ∀ t, t < 49 → (wayOf u t).isSome = true → (List.range 4).any (fun w => (List.range (ray u w).length).any (fun i => decide ((ray u w)[i]? = some t))) = true := by decide +kernel
theorem adj_nb {b : Nat → Int32} {o : Option Nat} {u t : Nat} (hu : u < 49) (ht : t < 49) (h : adj b o u t = true) : ∃ w, w < 4 ∧ t ∈ nbW b o u w := by
  unfold adj at h
  rw [Bool.and_eq_true] at h
  obtain ⟨w, hw, h1⟩ := List.any_eq_true.mp (way_ray u hu t ht h.1)
  obtain ⟨i, hi, h2⟩ := List.any_eq_true.mp h1
  have hw := List.mem_range.mp hw
  have hi := List.mem_range.mp hi
  have h2 := of_decide_eq_true h2
  rw [List.getElem?_eq_getElem hi] at h2
  have h2 := Option.some.inj h2
  have h3 := seg_ray u hu w hw i hi
  rw [h2] at h3
  refine ⟨w, hw, ?_⟩
  rw [← h2]
  refine tw_mem _ i hi ?_
  rw [← h3.2]
  exact h.2
theorem seg_sym : ∀ u, u < 49 → ∀ t, t < 49 → (wayOf u t).isSome = true → (wayOf t u).isSome = true ∧ u :: segOf u t = (t :: segOf t u).reverse := by decide +kernel
theorem adj_symm {b : Nat → Int32} {o : Option Nat} {u t : Nat} (hu : u < 49) (ht : t < 49) (hf : Fr b o u = true) (h : adj b o u t = true) : adj b o t u = true := by
  unfold adj at h ⊢
  rw [Bool.and_eq_true] at h ⊢
  obtain ⟨h1, h2⟩ := seg_sym u hu t ht h.1
  refine ⟨h1, ?_⟩
  have h3 : (u :: segOf u t).all (Fr b o) = true := by rw [List.all_cons, hf, h.2]; rfl
  rw [h2, List.all_reverse, List.all_cons, Bool.and_eq_true] at h3
  exact h3.2
theorem adj_free {b : Nat → Int32} {o : Option Nat} {u t : Nat} (hu : u < 49) (ht : t < 49) (h : adj b o u t = true) : Fr b o t = true := by
  obtain ⟨w, hw, hm⟩ := adj_nb hu ht h
  obtain ⟨i, hi, h1, h2⟩ := mem_tw hm
  have := List.all_eq_true.mp h2 ((ray u w)[i]) (by
    rw [List.mem_take_iff_getElem]
    exact ⟨i, by omega, rfl⟩)
  rw [h1] at this
  exact this
/-- a list of different small numbers is short -/
theorem nodup_len : ∀ (n : Nat) (l : List Nat), l.Nodup → (∀ x ∈ l, x < n) → l.length ≤ n
  | 0, l, _, h => by
    cases l with
    | nil => exact Nat.le_refl _
    | cons a l => exact absurd (h a List.mem_cons_self) (by omega)
  | n + 1, l, hn, h => by
    by_cases hm : n ∈ l
    · have h1 := nodup_len n (l.erase n) (hn.erase n) (fun x hx => by
        have h2 := h x (List.mem_of_mem_erase hx)
        have h3 : x ≠ n := (List.Nodup.mem_erase_iff hn).mp hx |>.1
        omega)
      rw [List.length_erase_of_mem hm] at h1
      omega
    · have := nodup_len n l hn (fun x hx => by
        have h2 := h x hx
        have h3 : x ≠ n := fun e => hm (e ▸ hx)
        omega)
      omega
/-! the queue: squares with their rounds -/
def qk (q : List (Nat × Nat)) : List Nat := q.map Prod.fst
def rd (q : List (Nat × Nat)) (t : Nat) : Option Nat := (q.find? (fun e => e.1 == t)).map Prod.snd
theorem rd_none {q : List (Nat × Nat)} {t : Nat} : rd q t = none ↔ t ∉ qk q := by
  unfold rd qk
  rw [Option.map_eq_none_iff, List.find?_eq_none, List.mem_map]
  constructor
  · rintro h ⟨e, he, rfl⟩
    exact h e he (by simp)
  · intro h e he h2
    exact h ⟨e, he, by simpa using h2⟩
theorem rd_app {q : List (Nat × Nat)} {t n x : Nat} (ht : t ∉ qk q) : rd (q ++ [(t, n)]) x = if x = t then some n else rd q x := by
  unfold rd
  rw [List.find?_append]
  by_cases e : x = t
  · subst e
    have h1 : q.find? (fun e => e.1 == x) = none := by
      have := rd_none.mpr ht
      unfold rd at this
      exact Option.map_eq_none_iff.mp this
    rw [h1, if_pos rfl]
    simp
  · rw [if_neg e]
    cases h : q.find? (fun e => e.1 == x) with
    | none =>
      have : (t == x) = false := by simp; exact fun h => e h.symm
      simp [this]
    | some y => rfl
theorem rd_mem {q : List (Nat × Nat)} {t n : Nat} (h : rd q t = some n) : (t, n) ∈ q := by
  unfold rd at h
  obtain ⟨e, he, h2⟩ := Option.map_eq_some_iff.mp h
  have h3 := List.find?_some he
  have h4 := List.mem_of_find?_eq_some he
  have h5 : e.1 = t := by simpa using h3
  rw [← h5, ← h2]
  exact h4
theorem mem_rd {q : List (Nat × Nat)} {t n : Nat} (hn : (qk q).Nodup) (h : (t, n) ∈ q) : rd q t = some n := by
  induction q with
  | nil => cases h
  | cons a q ih =>
    have h0 : a.1 ∉ qk q ∧ (qk q).Nodup := List.nodup_cons.mp hn
    unfold rd
    rw [List.find?_cons]
    rcases List.mem_cons.mp h with h | h
    · subst h
      simp
    · have : (a.1 == t) = false := by
        simp
        intro e
        exact h0.1 (e ▸ List.mem_map.mpr ⟨(t, n), h, rfl⟩)
      rw [this]
      exact ih h0.2 h
/-- a square is met: it joins the queue if it is new -/
def aQ (q : List (Nat × Nat)) (n t : Nat) : List (Nat × Nat) := if t ∈ qk q then q else q ++ [(t, n)]
def aL (q : List (Nat × Nat)) (n : Nat) (l : List Nat) : List (Nat × Nat) := l.foldl (fun q t => aQ q n t) q
/-- the arrays tell the queue -/
def QR (krf kqf : Nat → Int32) (kc : Int32) (q : List (Nat × Nat)) : Prop := (∀ t, t < 49 → krf t = enc (rd q t)) ∧ (∀ i (h : i < q.length), kqf i = nI (q[i]).1) ∧ kc = nI q.length ∧ (qk q).Nodup ∧ (∀ e ∈ q, e.1 < 49 ∧ e.2 < 64)
theorem QR.r {krf kqf : Nat → Int32} {kc : Int32} {q : List (Nat × Nat)} (h : QR krf kqf kc q) : ∀ t, t < 49 → krf t = enc (rd q t) := h.1
theorem QR.k {krf kqf : Nat → Int32} {kc : Int32} {q : List (Nat × Nat)} (h : QR krf kqf kc q) : ∀ i (h : i < q.length), kqf i = nI (q[i]).1 := h.2.1
theorem QR.c {krf kqf : Nat → Int32} {kc : Int32} {q : List (Nat × Nat)} (h : QR krf kqf kc q) : kc = nI q.length := h.2.2.1
theorem QR.n {krf kqf : Nat → Int32} {kc : Int32} {q : List (Nat × Nat)} (h : QR krf kqf kc q) : (qk q).Nodup := h.2.2.2.1
theorem QR.l {krf kqf : Nat → Int32} {kc : Int32} {q : List (Nat × Nat)} (h : QR krf kqf kc q) : ∀ e ∈ q, e.1 < 49 ∧ e.2 < 64 := h.2.2.2.2
theorem QR.len {krf kqf : Nat → Int32} {kc : Int32} {q : List (Nat × Nat)} (h : QR krf kqf kc q) : q.length ≤ 49 := by
  have := nodup_len 49 (qk q) h.n (fun x hx => by
    obtain ⟨e, he, rfl⟩ := List.mem_map.mp hx
    exact (h.l e he).1)
  unfold qk at this
  rwa [List.length_map] at this
theorem aQ_nodup {q : List (Nat × Nat)} {n t : Nat} (h : (qk q).Nodup) : (qk (aQ q n t)).Nodup := by
  unfold aQ
  split
  · exact h
  · rename_i hm
    unfold qk at hm h ⊢
    rw [List.map_append, List.nodup_append]
    refine ⟨h, by simp, fun a ha b hb => ?_⟩
    simp at hb
    exact fun e => hm (by rw [← hb, ← e]; exact ha)
theorem f_roundOf {krf : Nat → Int32} {t : Nat} (ht : t < 49) : fX2_roundOf krf (nI t) = some (krf t) := by
  unfold fX2_roundOf
  rw [if_neg (nlt0 (by omega)), if_pos (show nI t < 49 from nI_lt ht (by decide)), inB_t ht (by decide), grd_t, nI_clamp (by omega)]
theorem f_note {krf kqf : Nat → Int32} {kc : Int32} {q : List (Nat × Nat)} (h : QR krf kqf kc q) {t n : Nat} (ht : t < 49) (hn : n < 64) (hm : t ∉ qk q) : fX2_note kc krf kqf (nI t) (nI n) = some (upd krf t (nI n), upd kqf q.length (nI t), nI (q.length + 1)) ∧ QR (upd krf t (nI n)) (upd kqf q.length (nI t)) (nI (q.length + 1)) (q ++ [(t, n)]) := by
  have hnd : (qk (q ++ [(t, n)])).Nodup := by
    have := aQ_nodup (n := n) (t := t) h.n
    unfold aQ at this
    rwa [if_neg hm] at this
  have hl : ∀ e ∈ q ++ [(t, n)], e.1 < 49 ∧ e.2 < 64 := fun e he => by
    rcases List.mem_append.mp he with he | he
    · exact h.l e he
    · rw [List.mem_singleton.mp he]
      exact ⟨ht, hn⟩
  have hlen : q.length + 1 ≤ 49 := by
    have := nodup_len 49 (qk (q ++ [(t, n)])) hnd (fun x hx => by
      obtain ⟨e, he, rfl⟩ := List.mem_map.mp hx
      exact (hl e he).1)
    unfold qk at this
    rw [List.length_map, List.length_append] at this
    exact this
  refine ⟨?_, ?_, ?_, (by rw [List.length_append]; rfl), hnd, hl⟩
  · unfold fX2_note
    rw [h.c, if_neg (nlt0 (by omega)), if_neg (nle (c := 49) ht (by decide)), if_neg (nle (c := 49) (by omega) (by decide)), inB_t ht (by decide), inB_t (by omega) (by decide), grd_t, grd_t, nI_clamp (by omega), nI_clamp (by omega), nI_1]
  · intro s hs
    rw [rd_app hm]
    unfold upd
    split
    · rfl
    · exact h.r s hs
  · intro i hi
    unfold upd
    rw [List.length_append] at hi
    have hi : i < q.length + 1 := hi
    by_cases e : i = q.length
    · subst e
      rw [if_pos rfl, List.getElem_append_right (Nat.le_refl _)]
      simp
    · rw [if_neg e, h.k i (by omega), List.getElem_append_left (by omega)]
theorem f_isFree {b : Nat → Int32} {o : Option Nat} (ho : ∀ t, o = some t → t < 49) {t : Nat} (ht : t < 49) : fX2_isFree (enc o) b (nI t) = some (b01 (Fr b o t)) := by
  unfold fX2_isFree Fr
  rw [if_neg (nlt0 (by omega))]
  have e : (nI t = enc o) = (o = some t) := by
    rw [← enc_eq ho ht, eq_iff_iff]
    exact ⟨Eq.symm, Eq.symm⟩
  simp only [e]
  rw [f_at ht, Option.bind_some]
  by_cases h1 : o = some t
  · simp [h1, b01]
  · by_cases h2 : b t = 0
    · simp [h1, h2, b01]
    · simp [h1, h2, b01]
theorem aL_mem {n : Nat} : ∀ (l : List Nat) (q : List (Nat × Nat)) (t : Nat), t ∈ qk q → t ∈ qk (aL q n l)
  | [], _, _, h => h
  | a :: l, q, t, h => by
    refine aL_mem l (aQ q n a) t ?_
    unfold aQ
    split
    · exact h
    · unfold qk at h ⊢
      rw [List.map_append]
      exact List.mem_append_left _ h
theorem sf_S (k : Int32) (b : Nat → Int32) (d n : Int32) (M : Nat) (t st : Int32) (krf kqf : Nat → Int32) (kc : Int32) : fX2_spreadFrom_L19 k b d n (M + 1) t st krf kqf kc = fX2_spreadFrom_L19_B k b d n (fX2_spreadFrom_L19 k b d n M) t st krf kqf kc := rfl
/-- the squares along one way join the queue -/
theorem sf_in {b : Nat → Int32} {o : Option Nat} (ho : ∀ t, o = some t → t < 49) {d n : Nat} (hd : d < 4) (hn : n < 63) : ∀ (rs : List Nat), Way (cw d) rs → ∀ (st : Nat), st + rs.length ≤ 7 → ∀ (krf kqf : Nat → Int32) (kc : Int32) (q : List (Nat × Nat)), QR krf kqf kc q → ∃ krf' kqf' kc', QR krf' kqf' kc' (aL q (n + 1) (rs.takeWhile (Fr b o))) ∧ ∀ N, rs.length + 1 ≤ N → fX2_spreadFrom_L19 (enc o) b (nI d) (nI n) N (enc rs.head?) (nI st) krf kqf kc = some (krf', kqf', kc')
  | [], _, st, hst, krf, kqf, kc, q, hq => by
    refine ⟨krf, kqf, kc, hq, fun N hN => ?_⟩
    obtain ⟨M, rfl⟩ : ∃ M, N = M + 1 := ⟨N - 1, by omega⟩
    refine Eq.trans (sf_S _ _ _ _ M _ _ krf kqf kc) ?_
    show fX2_spreadFrom_L19_B (enc o) b (nI d) (nI n) (fX2_spreadFrom_L19 (enc o) b (nI d) (nI n) M) (-1) (nI st) krf kqf kc = _
    unfold fX2_spreadFrom_L19_B
    split
    · rfl
    · have : fX2_isFree (enc o) b (-1) = some 0 := by
        unfold fX2_isFree
        rw [if_pos (by decide)]
      rw [this, Option.bind_some, if_pos rfl]
  | t :: r, hW, st, hst, krf, kqf, kc, q, hq => by
    have ht : t < 49 := hW.1
    have hlen : st + (r.length + 1) ≤ 7 := hst
    have hnx := nx_way (cw_lt d) hW
    have hst7 : ¬ (7 : Int32) ≤ nI st := nle (c := 7) (by omega) (by decide)
    by_cases h : Fr b o t = true
    · rw [List.takeWhile_cons_of_pos h]
      show ∃ krf' kqf' kc', QR krf' kqf' kc' (aL (aQ q (n + 1) t) (n + 1) (r.takeWhile (Fr b o))) ∧ _
      by_cases hm : t ∈ qk q
      · have e1 : aQ q (n + 1) t = q := if_pos hm
        rw [e1]
        obtain ⟨k1, k2, k3, h1, h2⟩ := sf_in ho hd hn r (Way_tail (cw_lt d) hW) (st + 1) (by omega) krf kqf kc q hq
        refine ⟨k1, k2, k3, h1, fun N hN => ?_⟩
        obtain ⟨M, rfl⟩ : ∃ M, N = M + 1 := ⟨N - 1, by omega⟩
        refine Eq.trans (sf_S _ _ _ _ M (nI t) _ krf kqf kc) (Eq.trans ?_ (h2 M (by simpa using hN)))
        unfold fX2_spreadFrom_L19_B
        have hr : 0 ≤ krf t := by
          rw [hq.r t ht]
          cases e : rd q t with
          | none => exact absurd hm (rd_none.mp e)
          | some m =>
            have := (hq.l _ (rd_mem e)).2
            exact ple (c := 0) (by omega) (by omega)
        rw [if_neg hst7, f_isFree ho ht, Option.bind_some, h, if_neg (by decide), f_roundOf ht, Option.bind_some, jn_eq, if_pos hr, f_beside t ht d hd]
        simp only [Option.bind_some, hnx, nI_1]
      · have e1 : aQ q (n + 1) t = q ++ [(t, n + 1)] := if_neg hm
        rw [e1]
        obtain ⟨hf, hq2⟩ := f_note hq ht (show n + 1 < 64 by omega) hm
        obtain ⟨k1, k2, k3, h1, h2⟩ := sf_in ho hd hn r (Way_tail (cw_lt d) hW) (st + 1) (by omega) _ _ _ _ hq2
        refine ⟨k1, k2, k3, h1, fun N hN => ?_⟩
        obtain ⟨M, rfl⟩ : ∃ M, N = M + 1 := ⟨N - 1, by omega⟩
        refine Eq.trans (sf_S _ _ _ _ M (nI t) _ krf kqf kc) (Eq.trans ?_ (h2 M (by simpa using hN)))
        unfold fX2_spreadFrom_L19_B
        have hr : ¬ 0 ≤ krf t := by
          rw [hq.r t ht, rd_none.mpr hm]
          decide
        rw [if_neg hst7, f_isFree ho ht, Option.bind_some, h, if_neg (by decide), f_roundOf ht, Option.bind_some, jn_eq, if_neg hr, nI_1, hf, Option.bind_some, f_beside t ht d hd]
        simp only [Option.bind_some, hnx, nI_1]
    · rw [List.takeWhile_cons_of_neg h]
      refine ⟨krf, kqf, kc, hq, fun N hN => ?_⟩
      obtain ⟨M, rfl⟩ : ∃ M, N = M + 1 := ⟨N - 1, by omega⟩
      refine Eq.trans (sf_S _ _ _ _ M (nI t) _ krf kqf kc) ?_
      unfold fX2_spreadFrom_L19_B
      rw [if_neg hst7, f_isFree ho ht, Option.bind_some]
      simp only [ite_b01]
      rw [if_neg h]

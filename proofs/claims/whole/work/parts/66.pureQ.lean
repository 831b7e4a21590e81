/-! ===== pure part Q: the reference measures the king's way ===== -/
def MD (b : Nat → Int32) (o : Option Nat) (q : List (Nat × Nat)) : Prop := (qk q).Nodup ∧ (∀ e ∈ q, e.1 < 49 ∧ e.2 ≤ 48) ∧ (∀ s, rd q s = some 0 ↔ o = some s) ∧ (∀ e ∈ q, ∀ m, e.2 = m + 1 → ∃ e' ∈ q, e'.2 = m ∧ adj b o e'.1 e.1 = true) ∧ (∀ e ∈ q, ∀ t, t < 49 → adj b o e.1 t = true → ∃ n, (t, n) ∈ q ∧ n ≤ e.2 + 1)
theorem IsD.md {b : Nat → Int32} {s0 : Nat} {q : List (Nat × Nat)} (h : IsD b (some s0) s0 q) : MD b (some s0) q := by
  obtain ⟨h1, h2, ⟨h3, h3b⟩, h4, h5⟩ := h
  refine ⟨h1, fun e he => ⟨(h2 e he).1, (h2 e he).2.1⟩, fun s => ⟨fun h => ?_, fun h => ?_⟩, h4, h5⟩
  · have := h3b _ (rd_mem h) rfl
    rw [← this]
  · rw [← Option.some.inj h]
    exact mem_rd h1 h3
theorem MD_nil {b : Nat → Int32} : MD b none [] := ⟨List.nodup_nil, fun e he => absurd he (by simp), fun s => ⟨fun h => (nomatch h), fun h => (nomatch h)⟩, fun e he => absurd he (by simp), fun e he => absurd he (by simp)⟩
/-- what is told after some rounds -/
def twq (q : List (Nat × Nat)) (T t : Nat) : Int32 := match rd q t with
  | some n => if n ≤ T then nI n else -1
  | none => -1
def IW (q : List (Nat × Nat)) (T : Nat) (S : Nat → Prop) (ways : Nat → Int32) : Prop := ∀ t, t < 49 → (rd q t = some (T + 1) → ways t = nI (T + 1) ∨ (ways t = -1 ∧ ¬ S t)) ∧ (rd q t ≠ some (T + 1) → ways t = twq q T t)
theorem IW_touch {q : List (Nat × Nat)} {T : Nat} {S : Nat → Prop} {ways : Nat → Int32} (h : IW q T S ways) {t n : Nat} (ht : t < 49) (hT : T < 49) (hr : rd q t = some n) (hn : n ≤ T + 1) : IW q T (fun s => S s ∨ s = t) (upd ways t (if ways t = -1 then nI (T + 1) else ways t)) := by
  intro s hs
  by_cases e : s = t
  · subst e
    have h1 := h s hs
    unfold upd
    rw [if_pos rfl]
    refine ⟨fun hr1 => ?_, fun hr1 => ?_⟩
    · rcases h1.1 hr1 with h2 | h2
      · left
        rw [h2, if_neg (by rw [nI_m1 (by omega)]; exact id)]
      · left
        rw [if_pos h2.1]
    · have h2 := h1.2 hr1
      have h3 : n ≤ T := by
        rw [hr] at hr1
        have : n ≠ T + 1 := fun e => hr1 (by rw [e])
        omega
      have h4 : twq q T s = nI n := by
        unfold twq
        rw [hr]
        exact if_pos h3
      rw [h2, h4, if_neg (by rw [nI_m1 (by omega)]; exact id)]
  · have h1 := h s hs
    unfold upd
    rw [if_neg e]
    refine ⟨fun hr1 => ?_, h1.2⟩
    rcases h1.1 hr1 with h2 | h2
    · exact Or.inl h2
    · exact Or.inr ⟨h2.1, fun h3 => h3.elim h2.2 e⟩
theorem IW_mono {q : List (Nat × Nat)} {T : Nat} {S S2 : Nat → Prop} {ways : Nat → Int32} (h : IW q T S ways) (hs : ∀ t, t < 49 → S2 t → S t) : IW q T S2 ways := fun t ht => ⟨fun hr => ((h t ht).1 hr).imp id (fun h2 => ⟨h2.1, fun h3 => h2.2 (hs t ht h3)⟩), (h t ht).2⟩
theorem me_S (row : Nat → Int32) (k T : Int32) (s16 : Int32 → (Nat → Int32) → Option (Nat → Int32)) (w : Int32) (M : Nat) (s : Int32) (ways : Nat → Int32) : fX9_measure_L81 row k T s16 w (M + 1) s ways = fX9_measure_L81_B row k T s16 w (fX9_measure_L81 row k T s16 w M) s ways := rfl
theorem Fr_eq {row : Nat → Int32} {o : Option Nat} (ho : ∀ t, o = some t → t < 49) {t : Nat} (ht : t < 49) {β : Type} (x y : β) : (if row t = 0 then x else if nI t = enc o then x else y) = if Fr row o t = true then x else y := by
  have e : (nI t = enc o) = (o = some t) := by
    rw [← enc_eq ho ht, eq_iff_iff]
    exact ⟨Eq.symm, Eq.symm⟩
  simp only [e]
  unfold Fr
  by_cases h1 : row t = 0
  · simp [h1]
  · by_cases h2 : o = some t
    · simp [h2]
    · simp [h1, h2]
theorem me_walk {row : Nat → Int32} {o : Option Nat} (ho : ∀ t, o = some t → t < 49) {q : List (Nat × Nat)} {T w : Nat} (hT : T < 49) (hw : w < 4) : ∀ (rs : List Nat), Way w rs → (∀ t ∈ rs.takeWhile (Fr row o), ∃ n, rd q t = some n ∧ n ≤ T + 1) → ∀ (S : Nat → Prop) (ways : Nat → Int32), IW q T S ways → ∃ ways', IW q T (fun s => S s ∨ s ∈ rs.takeWhile (Fr row o)) ways' ∧ ∀ s16 N, rs.length + 1 ≤ N → fX9_measure_L81 row (enc o) (nI T) s16 (nI w) N (enc rs.head?) ways = s16 (nI (w + 1)) ways'
  | [], _, _, S, ways, hI => by
    refine ⟨ways, IW_mono hI (fun t _ h => h.elim id (fun h => absurd h (by simp))), fun s16 N hN => ?_⟩
    obtain ⟨M, rfl⟩ : ∃ M, N = M + 1 := ⟨N - 1, by omega⟩
    refine Eq.trans (me_S _ _ _ _ _ M _ ways) ?_
    unfold fX9_measure_L81_B
    rw [if_pos (show enc ([] : List Nat).head? = -1 from rfl), nI_1]
  | t :: r, hW, hr, S, ways, hI => by
    have ht : t < 49 := hW.1
    have hnx := nx_way hw hW
    by_cases h : Fr row o t = true
    · rw [List.takeWhile_cons_of_pos h] at hr ⊢
      obtain ⟨n, hn1, hn2⟩ := hr t List.mem_cons_self
      obtain ⟨w2, hI2, hrun⟩ := me_walk (row := row) (q := q) ho hT hw r (Way_tail hw hW) (fun s hs => hr s (List.mem_cons_of_mem _ hs)) _ _ (IW_touch hI ht hT hn1 hn2)
      refine ⟨w2, IW_mono hI2 (fun s _ h => ?_), fun s16 N hN => ?_⟩
      · rcases h with h | h
        · exact Or.inl (Or.inl h)
        · rcases List.mem_cons.mp h with h | h
          · exact Or.inl (Or.inr h)
          · exact Or.inr h
      · obtain ⟨M, rfl⟩ : ∃ M, N = M + 1 := ⟨N - 1, by omega⟩
        refine Eq.trans (me_S _ _ _ _ _ M (nI t) ways) (Eq.trans ?_ (hrun s16 M (by simpa using hN)))
        unfold fX9_measure_L81_B
        rw [if_neg (by rw [nI_m1 (by omega)]; exact id), inB_t (by omega) (by decide), inB_t (by omega) (by decide)]
        simp only [grd_t, jn_eq, nI_clamp (show t < 2 ^ 31 by omega), f_next t ht w hw, Option.bind_some, nI_1, hnx]
        rw [Fr_eq ho ht, if_pos h]
        by_cases e : ways t = -1
        · rw [if_pos e, if_pos e]
        · rw [if_neg e, if_neg e]
    · rw [List.takeWhile_cons_of_neg h]
      refine ⟨ways, IW_mono hI (fun t _ h => h.elim id (fun h => absurd h (by simp))), fun s16 N hN => ?_⟩
      obtain ⟨M, rfl⟩ : ∃ M, N = M + 1 := ⟨N - 1, by omega⟩
      refine Eq.trans (me_S _ _ _ _ _ M (nI t) ways) ?_
      unfold fX9_measure_L81_B
      rw [if_neg (by rw [nI_m1 (by omega)]; exact id), inB_t (by omega) (by decide), grd_t, jn_eq, nI_clamp (by omega), Fr_eq ho ht, if_neg h, nI_1]
theorem mw_S (row : Nat → Int32) (k T : Int32) (s12 : Int32 → (Nat → Int32) → Option (Nat → Int32)) (u : Int32) (M : Nat) (w : Int32) (ways : Nat → Int32) : fX9_measure_L57 row k T s12 u (M + 1) w ways = fX9_measure_L57_B row k T s12 u (fX9_measure_L57 row k T s12 u M) w ways := rfl
/-- a square of this round: all its neighbours are told -/
theorem me_sq {row : Nat → Int32} {o : Option Nat} (ho : ∀ t, o = some t → t < 49) {q : List (Nat × Nat)} (hq : MD row o q) {T u : Nat} (hT : T < 49) (hu : u < 49) (hr : rd q u = some T) : ∀ (m w : Nat), w + m = 4 → ∀ (S : Nat → Prop) (ways : Nat → Int32), IW q T S ways → ∃ ways', IW q T (fun s => S s ∨ ∃ v, w ≤ v ∧ v < 4 ∧ s ∈ nbW row o u v) ways' ∧ ∀ s12 N, m + 1 ≤ N → fX9_measure_L57 row (enc o) (nI T) s12 (nI u) N (nI w) ways = s12 (nI (u + 1)) ways'
  | 0, w, hw, S, ways, hI => by
    have : w = 4 := by omega
    subst this
    refine ⟨ways, IW_mono hI (fun t _ h => h.elim id (fun ⟨v, h1, h2, _⟩ => absurd h1 (by omega))), fun s12 N hN => ?_⟩
    obtain ⟨M, rfl⟩ : ∃ M, N = M + 1 := ⟨N - 1, by omega⟩
    rw [mw_S]
    unfold fX9_measure_L57_B
    rw [if_pos (by decide), nI_1]
  | m + 1, w, hw, S, ways, hI => by
    have hsub : ∀ t ∈ (ray u w).takeWhile (Fr row o), ∃ n, rd q t = some n ∧ n ≤ T + 1 := fun t ht => by
      have h1 := nb_adj hu (by omega : w < 4) (show t ∈ nbW row o u w from ht)
      obtain ⟨n, h2, h3⟩ := hq.2.2.2.2 _ (rd_mem hr) t h1.2 h1.1
      exact ⟨n, mem_rd hq.1 h2, h3⟩
    obtain ⟨w1, hI1, h1⟩ := me_walk ho hT (by omega : w < 4) (ray u w) (Way_ray hu (by omega)) hsub S ways hI
    obtain ⟨w2, hI2, h2⟩ := me_sq ho hq hT hu hr m (w + 1) (by omega) _ w1 hI1
    refine ⟨w2, IW_mono hI2 (fun t _ h => ?_), fun s12 N hN => ?_⟩
    · rcases h with h | ⟨v, h3, h4, h5⟩
      · exact Or.inl (Or.inl h)
      · rcases (by omega : v = w ∨ w + 1 ≤ v) with h6 | h6
        · subst h6
          exact Or.inl (Or.inr h5)
        · exact Or.inr ⟨v, h6, h4, h5⟩
    · obtain ⟨M, rfl⟩ : ∃ M, N = M + 1 := ⟨N - 1, by omega⟩
      have hwu : ways u = nI T := by
        have := (hI u hu).2 (by rw [hr]; simp)
        rw [this]
        unfold twq
        rw [hr]
        exact if_pos (Nat.le_refl _)
      have hlen := ray_len u hu w (by omega)
      rw [mw_S]
      unfold fX9_measure_L57_B
      rw [if_neg (nle (c := 4) (by omega) (by decide)), inB_t hu (by decide), grd_t, nI_clamp (by omega), if_pos hwu, f_next u hu w (by omega), Option.bind_some, ← ray_head u hu w (by omega)]
      exact (h1 _ 64 (by omega)).trans (h2 s12 M (by omega))
theorem mr_S (row : Nat → Int32) (k : Int32) (s8 : Int32 → (Nat → Int32) → Option (Nat → Int32)) (T : Int32) (M : Nat) (u : Int32) (ways : Nat → Int32) : fX9_measure_L48 row k s8 T (M + 1) u ways = fX9_measure_L48_B row k s8 T (fX9_measure_L48 row k s8 T M) u ways := rfl
/-- one round -/
theorem me_round {row : Nat → Int32} {o : Option Nat} (ho : ∀ t, o = some t → t < 49) {q : List (Nat × Nat)} (hq : MD row o q) {T : Nat} (hT : T < 49) : ∀ (m u : Nat), u + m = 49 → ∀ (S : Nat → Prop) (ways : Nat → Int32), IW q T S ways → ∃ ways', IW q T (fun s => S s ∨ ∃ v, u ≤ v ∧ v < 49 ∧ rd q v = some T ∧ adj row o v s = true) ways' ∧ ∀ s8 N, m + 1 ≤ N → fX9_measure_L48 row (enc o) s8 (nI T) N (nI u) ways = s8 (nI (T + 1)) ways'
  | 0, u, hu, S, ways, hI => by
    have : u = 49 := by omega
    subst this
    refine ⟨ways, IW_mono hI (fun t _ h => h.elim id (fun ⟨v, h1, h2, _⟩ => absurd h1 (by omega))), fun s8 N hN => ?_⟩
    obtain ⟨M, rfl⟩ : ∃ M, N = M + 1 := ⟨N - 1, by omega⟩
    rw [mr_S]
    unfold fX9_measure_L48_B
    rw [if_pos (by decide), nI_1]
  | m + 1, u, hu, S, ways, hI => by
    by_cases hr : rd q u = some T
    · obtain ⟨w1, hI1, h1⟩ := me_sq ho hq hT (by omega : u < 49) hr 4 0 rfl S ways hI
      obtain ⟨w2, hI2, h2⟩ := me_round ho hq hT m (u + 1) (by omega) _ w1 hI1
      refine ⟨w2, IW_mono hI2 (fun t ht h => ?_), fun s8 N hN => ?_⟩
      · rcases h with h | ⟨v, h3, h4, h5, h6⟩
        · exact Or.inl (Or.inl h)
        · rcases (by omega : v = u ∨ u + 1 ≤ v) with h7 | h7
          · subst h7
            obtain ⟨w, hw, hm⟩ := adj_nb h4 ht h6
            exact Or.inl (Or.inr ⟨w, Nat.zero_le _, hw, hm⟩)
          · exact Or.inr ⟨v, h7, h4, h5, h6⟩
      · obtain ⟨M, rfl⟩ : ∃ M, N = M + 1 := ⟨N - 1, by omega⟩
        rw [mr_S]
        unfold fX9_measure_L48_B
        rw [if_neg (nle (c := 49) (by omega) (by decide))]
        exact (h1 _ 64 (by omega)).trans (h2 s8 M (by omega))
    · obtain ⟨w2, hI2, h2⟩ := me_round ho hq hT m (u + 1) (by omega) _ ways hI
      refine ⟨w2, IW_mono hI2 (fun t ht h => ?_), fun s8 N hN => ?_⟩
      · rcases h with h | ⟨v, h3, h4, h5, h6⟩
        · exact Or.inl h
        · rcases (by omega : v = u ∨ u + 1 ≤ v) with h7 | h7
          · subst h7
            exact absurd h5 hr
          · exact Or.inr ⟨v, h7, h4, h5, h6⟩
      · obtain ⟨M, rfl⟩ : ∃ M, N = M + 1 := ⟨N - 1, by omega⟩
        have hne : ways u ≠ nI T := fun e => by
          have h3 := hI u (by omega)
          by_cases h4 : rd q u = some (T + 1)
          · rcases h3.1 h4 with h5 | h5
            · rw [h5, nI_inj (by omega) (by omega)] at e
              omega
            · rw [h5.1, m1_nI (by omega)] at e
              exact e
          · rw [h3.2 h4] at e
            unfold twq at e
            cases h5 : rd q u with
            | none =>
              rw [h5] at e
              have e : (-1 : Int32) = nI T := e
              rw [m1_nI (by omega)] at e
              exact e
            | some n =>
              rw [h5] at e
              have e : (if n ≤ T then nI n else -1) = nI T := e
              split at e
              · rw [nI_inj (by omega) (by omega)] at e
                exact hr (by rw [h5, e])
              · rw [m1_nI (by omega)] at e
                exact e
        rw [mr_S]
        unfold fX9_measure_L48_B
        rw [if_neg (nle (c := 49) (by omega) (by decide))]
        refine Eq.trans ?_ (h2 s8 M (by omega))
        show fX9_measure_L57 row (enc o) (nI T) _ (nI u) (63 + 1) 0 ways = _
        rw [mw_S]
        unfold fX9_measure_L57_B
        rw [if_neg (by decide), inB_t (by omega) (by decide), grd_t, nI_clamp (by omega), if_neg hne, nI_1]

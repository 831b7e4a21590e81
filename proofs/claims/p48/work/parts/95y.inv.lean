/-! ===== numbers of the law's game; what always holds of a state in it ===== -/
theorem lg_le0 {a b : Int64} : (lg_cmp a b ≤ 0) = (a ≤ b) := by
  rw [i32_le, lg_gt0]
  exact propext Int64.not_lt
theorem lg_ge0 {a b : Int64} : (0 ≤ lg_cmp a b) = (b ≤ a) := by
  rw [i32_le, lg_lt0]
  exact propext Int64.not_lt
theorem L_add {a b : Nat} (h : a + b < 2 ^ 31) : (nI a).toInt64 + (nI b).toInt64 = (nI (a + b)).toInt64 := by
  apply Int64.toInt_inj.mp
  rw [Int64.toInt_add, Int32.toInt_toInt64, Int32.toInt_toInt64, Int32.toInt_toInt64, nI_toInt (by omega), nI_toInt (by omega), nI_toInt (by omega)]
  rw [Int.bmod_eq_of_le (by omega) (by omega)]
  omega
theorem L_eq {a b : Nat} (ha : a < 2 ^ 31) (hb : b < 2 ^ 31) : ((nI a).toInt64 = (nI b).toInt64) = (a = b) := by
  rw [eq_iff_iff, ← Int64.toInt_inj, Int32.toInt_toInt64, Int32.toInt_toInt64, nI_toInt ha, nI_toInt hb]
  omega
theorem L_lt {a b : Nat} (ha : a < 2 ^ 31) (hb : b < 2 ^ 31) : ((nI a).toInt64 < (nI b).toInt64) = (a < b) := by
  rw [eq_iff_iff, Int64.lt_iff_toInt_lt, Int32.toInt_toInt64, Int32.toInt_toInt64, nI_toInt ha, nI_toInt hb]
  omega
theorem L_le {a b : Nat} (ha : a < 2 ^ 31) (hb : b < 2 ^ 31) : ((nI a).toInt64 ≤ (nI b).toInt64) = (a ≤ b) := by
  rw [eq_iff_iff, Int64.le_iff_toInt_le, Int32.toInt_toInt64, Int32.toInt_toInt64, nI_toInt ha, nI_toInt hb]
  omega
theorem L_back (x : Int32) : x.toInt64.toInt32 = x := Int32.toInt32_toInt64 x
theorem L_XS {a : Nat} (ha : a < 2 ^ 31) : (nI a).toInt64 ≠ XS := fun e => by
  have h := congrArg Int64.toInt e
  rw [Int32.toInt_toInt64, nI_toInt ha] at h
  have h2 : XS.toInt = -9000000000000000003 := by decide
  omega
theorem L_0 : (nI 0).toInt64 = 0 := by decide
theorem L_1 : (nI 1).toInt64 = 1 := by decide
theorem L_S {a : Int32} (h : 0 ≤ a) : a.toInt64 ≠ XS := fun e => by
  have h1 := congrArg Int64.toInt e
  rw [Int32.toInt_toInt64] at h1
  have h2 : XS.toInt = -9000000000000000003 := by decide
  have h3 := Int32.le_iff_toInt_le.mp h
  have h4 : (0 : Int32).toInt = 0 := by decide
  omega
theorem xeI : (lg_cmp XI (-9000000000000000001) = 0) = True := by
  rw [lg_eq]
  exact eq_true rfl
theorem xeA : (lg_cmp XA (-9000000000000000002) = 0) = True := by
  rw [lg_eq]
  exact eq_true rfl
theorem xeS : (lg_cmp XS (-9000000000000000003) = 0) = True := by
  rw [lg_eq]
  exact eq_true rfl
theorem xeV {v : Int64} : (lg_cmp v (-9000000000000000003) = 0) = (v = XS) := by
  rw [lg_eq]
  rfl
/-! a state of the law's game -/
def IB (N : Nat) (a : AS) : Prop := IA a ∧ (aH a).length ≤ N + 1 ∧ (∃ k, k ≤ 4 ∧ aS a = nI k) ∧ (∀ p t, aH a = p :: t → occ p t ≤ 2) ∧ (aS a = 4 → ∀ p t, aH a = p :: t → occ p t = 2) ∧ (∃ x y, aN a = nI x ∧ aAm a = nI y ∧ x ≤ y ∧ y ≤ N) ∧ (∃ x, aW1 a = nI x ∧ x ≤ N) ∧ (∃ x, aW2 a = nI x ∧ x ≤ N) ∧ (∃ x, aT1 a = nI x ∧ x ≤ 4 * N) ∧ ∃ x, aT2 a = nI x ∧ x ≤ 4 * N
theorem IB.mono {N M : Nat} (h : N ≤ M) {a : AS} (ha : IB N a) : IB M a := by
  obtain ⟨h1, h2, h3, h4, h5, ⟨x, y, e1, e2, e3, e4⟩, ⟨w, f1, f2⟩, ⟨w', g1, g2⟩, ⟨t, i1, i2⟩, ⟨t', j1, j2⟩⟩ := ha
  exact ⟨h1, by omega, h3, h4, h5, ⟨x, y, e1, e2, e3, by omega⟩, ⟨w, f1, by omega⟩, ⟨w', g1, by omega⟩, ⟨t, i1, by omega⟩, ⟨t', j1, by omega⟩⟩
theorem IB.ia {N : Nat} {a : AS} (h : IB N a) : IA a := h.1
theorem IB_stA {N : Nat} {a : AS} (ha : IB N a) (hN : N < 890) {f : Nat → Int32} {d : Int32} (hd : isD d) (pb : PB f) (uk : UK f) (ko : KO f) (hk : KIN f) : IB N (stA f a d) := by
  obtain ⟨h1, h2, h3, h4, h5, ⟨x, y, e1, e2, e3, e4⟩, h7, h8, h9, h10⟩ := ha
  refine ⟨(stA_GA ⟨h1, by omega⟩ hd pb uk ko hk).1, ?_, ⟨1, by decide, rfl⟩, fun p t e => ?_, fun e => absurd (show (1 : Int32) = 4 from e) (by decide), ⟨0, y, rfl, e2, Nat.zero_le _, e4⟩, h7, h8, h9, h10⟩
  · show 1 ≤ N + 1
    omega
  · have e : [(f, d)] = p :: t := e
    cases e
    exact Nat.zero_le 2
theorem IB_clA {N : Nat} {a : AS} (ha : IB N a) (hN : N < 890) : IB N (clA a) := by
  obtain ⟨h1, h2, h3, h4, h5, ⟨x, y, e1, e2, e3, e4⟩, h7, h8, h9, h10⟩ := ha
  refine ⟨(clA_GA ⟨h1, by omega⟩).1, Nat.zero_le _, ⟨0, by decide, rfl⟩, fun p t e => ?_, fun e => absurd (show (0 : Int32) = 4 from e) (by decide), ⟨0, y, rfl, e2, Nat.zero_le _, e4⟩, h7, h8, h9, h10⟩
  have e : ([] : List HP) = p :: t := e
  cases e
theorem IB_ts {N : Nat} {a : AS} (ha : IB N a) (g : Bool) : IB N (aF a, a.2.1, b01 g, a.2.2.2) := by
  obtain ⟨⟨a1, a2, a3, a4, a5, a6, a7, a8, a9⟩, h2⟩ := ha
  exact ⟨⟨a1, a2, a3, a4, ⟨_, rfl⟩, a6, a7, a8, a9⟩, h2⟩
theorem IB_putA {N : Nat} {a : AS} (ha : IB N a) (hN : N < 890) {s : Nat} (hs : s < 49) {p : Int32} (hp : inC p 0 3 = true) (h : (decide (aS a = 0) && alP (aF a) p s) = true) : IB N (putA a s p) := by
  have h1 := (putA_GA ⟨ha.1, by have := ha.2.1; omega⟩ hs hp h).1
  exact ⟨h1, ha.2⟩
theorem jdg_4 {mv w1 w2 dg : Int32} {won : Bool} {n : Nat} (hm : isD mv) : (∃ k, k ≤ 4 ∧ (jdg 1 mv w1 w2 dg won n).1 = nI k) ∧ ((jdg 1 mv w1 w2 dg won n).1 = 4 → 3 ≤ n) := by
  unfold jdg
  cases won with
  | true =>
    rw [if_pos (show true = true from rfl)]
    rcases hm with rfl | rfl
    · exact ⟨⟨2, by decide, rfl⟩, fun e => absurd (show (2 : Int32) = 4 from e) (by decide)⟩
    · exact ⟨⟨3, by decide, rfl⟩, fun e => absurd (show (3 : Int32) = 4 from e) (by decide)⟩
  | false =>
    rw [if_neg (show ¬ false = true by decide)]
    by_cases h : n < 3
    · rw [if_pos h]
      exact ⟨⟨1, by decide, rfl⟩, fun e => absurd (show (1 : Int32) = 4 from e) (by decide)⟩
    · rw [if_neg h]
      exact ⟨⟨4, by decide, rfl⟩, fun _ => by omega⟩
theorem jdg_w (sn mv w1 w2 dg : Int32) (won : Bool) (n : Nat) : ((jdg sn mv w1 w2 dg won n).2.1 = w1 ∨ (jdg sn mv w1 w2 dg won n).2.1 = w1 + 1) ∧ ((jdg sn mv w1 w2 dg won n).2.2.1 = w2 ∨ (jdg sn mv w1 w2 dg won n).2.2.1 = w2 + 1) := by
  cases won <;> by_cases h1 : mv = 0 <;> by_cases h2 : n < 3 <;> simp [jdg, h1, h2]
theorem nI_S (n : Nat) : nI n + 1 = nI (n + 1) := nI_add n 1
theorem IB_mvA {N : Nat} {a : AS} (ha : IB N a) {x y : Nat} (hx : x < 49) (hy : y < 49) (hal : alA a x y = true) : IB (N + 1) (mvA a x y) := by
  have hia := mvA_IA ha.1 hx hy hal
  obtain ⟨f, kk, sg, sn, mv, gm, h, w1, w2, dg, t1, t2, am⟩ := a
  obtain ⟨e1, e2, e3⟩ := alB_e hal
  have e1 : sn = 1 := e1
  subst e1
  obtain ⟨h1, h2, h3, h4, h5, ⟨u, v, q1, q2, q3, q4⟩, ⟨w, f1, f2⟩, ⟨w', g1, g2⟩, ⟨t, i1, i2⟩, ⟨t', j1, j2⟩⟩ := ha
  obtain ⟨pb, uk, ko, hkk, hg, hdm, h0, hok, hrun⟩ := IA_e h1
  have hlow := (hrun rfl).1
  have h2 : h.length ≤ N + 1 := h2
  have q1 : gm = nI u := q1
  have q2 : am = nI v := q2
  have f1 : w1 = nI w := f1
  have g1 : w2 = nI w' := g1
  have i1 : t1 = nI t := i1
  have j1 : t2 = nI t' := j1
  have htk := takN_le f (decide (sg = 1)) x y
  have hj := jdg_4 (mv := mv) (w1 := w1) (w2 := w2) (dg := dg) (won := wonB (mov f (decide (sg = 1)) x y) y true) (n := 1 + occ (mov f (decide (sg = 1)) x y, 1 - mv) h) hdm
  have hw := jdg_w 1 mv w1 w2 dg (wonB (mov f (decide (sg = 1)) x y) y true) (1 + occ (mov f (decide (sg = 1)) x y, 1 - mv) h)
  have ho := Low_occ (mov f (decide (sg = 1)) x y, 1 - mv) h hlow
  refine ⟨hia, ?_, hj.1, fun p t e => ?_, fun e4 p t e => ?_, ⟨u + 1, v + 1, ?_, ?_, by omega, by omega⟩, ?_, ?_, ?_, ?_⟩
  · show h.length + 1 ≤ N + 1 + 1
    omega
  · have e : (mov f (decide (sg = 1)) x y, 1 - mv) :: h = p :: t := e
    cases e
    exact ho
  · have e : (mov f (decide (sg = 1)) x y, 1 - mv) :: h = p :: t := e
    cases e
    have := hj.2 e4
    omega
  · show gm + 1 = _
    rw [q1, nI_S]
  · show am + 1 = _
    rw [q2, nI_S]
  · rcases hw.1 with q | q
    · exact ⟨w, q.trans f1, by omega⟩
    · exact ⟨w + 1, q.trans (by rw [f1, nI_S]), by omega⟩
  · rcases hw.2 with q | q
    · exact ⟨w', q.trans g1, by omega⟩
    · exact ⟨w' + 1, q.trans (by rw [g1, nI_S]), by omega⟩
  · show ∃ x', (if mv = 0 then t1 else t1 + nI (takN f (decide (sg = 1)) x y)) = nI x' ∧ x' ≤ 4 * (N + 1)
    by_cases e : mv = 0
    · exact ⟨t, by rw [if_pos e, i1], by omega⟩
    · exact ⟨t + takN f (decide (sg = 1)) x y, by rw [if_neg e, i1, nI_add], by omega⟩
  · show ∃ x', (if mv = 0 then t2 + nI (takN f (decide (sg = 1)) x y) else t2) = nI x' ∧ x' ≤ 4 * (N + 1)
    by_cases e : mv = 0
    · exact ⟨t' + takN f (decide (sg = 1)) x y, by rw [if_pos e, j1, nI_add], by omega⟩
    · exact ⟨t', by rw [if_neg e, j1], by omega⟩
theorem playA_IB {tx : Nat → Int32} {len : Nat} (hl : len ≤ 60) (hok : okF tx len) (h5 : len % 5 = 4) : ∀ (d k N : Nat) (a : AS) (sm : Nat) (r : Nat × AS), 5 * (k + d) = len + 1 → IB N a → playA tx d k a sm = some r → IB (N + d) r.2
  | 0, _, _, a, sm, r, _, hi, h => by
    rw [← Option.some.inj h]
    exact hi
  | d + 1, k, N, a, sm, r, hk, hi, h => by
    unfold playA at h
    split at h
    · have := playA_IB hl hok h5 d _ (N + 1) _ _ _ (by omega) (IB_mvA hi (sqT_lt hl (by omega) (by omega) hok) (sqT_lt hl (by omega) (by omega) hok) (by assumption)) h
      exact this.mono (by omega)
    · cases h
def INV (N : Nat) (st : PS) : Prop := IB N st.1 ∧ (∀ a ∈ st.2.1, IB N a) ∧ (∀ j, j < 2 → ∀ a, st.2.2.1 j = some a → IB N a) ∧ st.2.1.length ≤ 6 ∧ st.2.2.2.1 ≤ 60
theorem INV.mono {N M : Nat} (h : N ≤ M) {st : PS} (hi : INV N st) : INV M st := ⟨hi.1.mono h, fun a ha => (hi.2.1 a ha).mono h, fun j hj a e => (hi.2.2.1 j hj a e).mono h, hi.2.2.2⟩
theorem pushL_len {l : List AS} (h : l.length ≤ 6) (a : AS) : (pushL l a).length ≤ 6 := by
  unfold pushL
  rw [List.length_append, List.length_singleton]
  by_cases e : l.length = 6
  · rw [if_pos e, List.length_tail]
    omega
  · rw [if_neg e]
    omega
theorem INV_push {N M : Nat} (h : N ≤ M) {st : PS} (hi : INV N st) {b : AS} (hb : IB M b) : INV M (o_push st b) := by
  have hi := hi.mono h
  refine ⟨hb, fun a ha => ?_, hi.2.2.1, pushL_len hi.2.2.2.1 _, hi.2.2.2.2⟩
  rcases pushL_mem ha with q | q
  · exact hi.2.1 a q
  · rw [q]
    exact hi.1
theorem i_setUp {N : Nat} (hN : N < 890) {st : PS} (h : INV N st) : INV N (o_setUp st).2 := INV_push (Nat.le_refl _) h (IB_stA h.1 hN (Or.inl rfl) set_PB set_UK set_KO fPI_KIN)
theorem i_clearBoard {N : Nat} (hN : N < 890) {st : PS} (h : INV N st) : INV N (o_clearBoard st).2 := INV_push (Nat.le_refl _) h (IB_clA h.1 hN)
theorem i_turnStrong {N : Nat} {st : PS} (h : INV N st) : INV N (o_turnStrong st).2 := INV_push (Nat.le_refl _) h (IB_ts h.1 _)
theorem i_put {N : Nat} (hN : N < 890) {st : PS} (h : INV N st) (a1 a2 p : Int32) : INV N (o_put st a1 a2 p).2 := by
  unfold o_put
  split
  · split
    · split
      · exact INV_push (Nat.le_refl _) h (IB_putA h.1 hN (cellN_lt (by assumption)) (by assumption) (by assumption))
      · exact h
    · exact h
  · exact h
theorem i_start {N : Nat} (hN : N < 890) {st : PS} (h : INV N st) (d : Int32) : INV N (o_start st d).2 := by
  unfold o_start
  split
  · split
    · have hh := canS_KIN (by assumption)
      exact INV_push (Nat.le_refl _) h (IB_stA h.1 hN (side_D (by assumption)) h.1.1.1 h.1.1.2.1 h.1.1.2.2.1 hh.2)
    · exact h
  · exact h
theorem i_move {N : Nat} (hN : N < 890) {st : PS} (h : INV N st) (a1 a2 : Int32) : ∃ r, o_move st a1 a2 = some r ∧ INV (N + 1) r.2 := by
  have hl : (aH st.1).length < 900 := by
    have := h.1.2.1
    omega
  unfold o_move
  rw [if_pos hl]
  refine ⟨_, rfl, ?_⟩
  split
  · rename_i hq
    split
    · rename_i hal
      obtain ⟨hx, hy⟩ := sq_lt hq
      exact INV_push (Nat.le_succ _) h (IB_mvA h.1 hx hy hal)
    · exact h.mono (Nat.le_succ _)
  · exact h.mono (Nat.le_succ _)
theorem i_append {N : Nat} {st : PS} (h : INV N st) (c : Int32) : INV N (o_append st c).2 := by
  unfold o_append
  split
  · split
    · exact h
    · rename_i h6
      refine ⟨h.1, h.2.1, h.2.2.1, h.2.2.2.1, ?_⟩
      have := h.2.2.2.2
      show st.2.2.2.1 + 1 ≤ 60
      omega
  · exact h
theorem i_clearBuffer {N : Nat} {st : PS} (h : INV N st) : INV N (o_clearBuffer st).2 := ⟨h.1, h.2.1, h.2.2.1, h.2.2.2.1, Nat.zero_le _⟩
theorem i_keep {N : Nat} {st : PS} (h : INV N st) (j : Int32) : INV N (o_keep st j).2 := by
  unfold o_keep
  split
  · refine ⟨h.1, h.2.1, fun i hi a e => ?_, h.2.2.2⟩
    have e : updS st.2.2.1 (iN j) st.1 i = some a := e
    unfold updS at e
    split at e
    · rw [← Option.some.inj e]
      exact h.1
    · exact h.2.2.1 i hi a e
  · exact h
theorem i_goBack {N : Nat} {st : PS} (h : INV N st) (j : Int32) : INV N (o_goBack st j).2 := by
  unfold o_goBack
  split
  · rename_i hj
    cases e : st.2.2.1 (iN j) with
    | none => exact h
    | some b => exact INV_push (Nat.le_refl _) h (h.2.2.1 _ (iN_slot hj) b e)
  · exact h
theorem i_undo {N : Nat} {st : PS} (h : INV N st) : INV N (o_undo st).2 := by
  unfold o_undo
  cases e : st.2.1.getLast? with
  | none => exact h
  | some b =>
    refine ⟨h.2.1 b (List.mem_of_getLast? e), fun a ha => h.2.1 a (List.dropLast_subset _ ha), h.2.2.1, ?_, h.2.2.2.2⟩
    have := h.2.2.2.1
    show st.2.1.dropLast.length ≤ 6
    rw [List.length_dropLast]
    omega
theorem i_play {N : Nat} (hN : N < 880) {st : PS} (h : INV N st) : ∃ r, o_play st = some r ∧ INV (N + 12) r.2 := by
  have hl : (aH st.1).length + 13 ≤ 900 := by
    have := h.1.2.1
    omega
  have h60 := h.2.2.2.2
  unfold o_play
  rw [if_pos hl]
  refine ⟨_, rfl, ?_⟩
  split
  · rename_i ht
    obtain ⟨h5, hok⟩ := tell_ok ht
    cases q : playA st.2.2.2.2 ((st.2.2.2.1 + 1) / 5) 0 st.1 0 with
    | none => exact h.mono (by omega)
    | some w =>
      have h1 := playA_IB h60 hok h5 _ _ N _ _ _ (by omega) h.1 q
      have h2 := INV_push (show N ≤ N + 12 by omega) h (h1.mono (by omega))
      exact ⟨h2.1, h2.2.1, h2.2.2.1, h2.2.2.2.1, Nat.zero_le _⟩
  · exact h.mono (by omega)

/-! ===== what is foretold of a move comes true, and all that is done is undone ===== -/
theorem lp_S2 {σ ρ : Type} (B : (σ → Option ρ) → σ → Option ρ) (n : Nat) (z : σ) : lp B (n + 1) z = B (lp B n) z := rfl
theorem push1 {l : List AS} (hl : l.length ≤ 6) (a : AS) : ∃ l', pushL l a = l' ++ [a] ∧ (∀ b ∈ l', b ∈ l) ∧ l'.length ≤ 6 := by
  unfold pushL
  by_cases e : l.length = 6
  · rw [if_pos e]
    refine ⟨l.tail, rfl, fun b hb => List.mem_of_mem_tail hb, ?_⟩
    rw [List.length_tail]
    omega
  · rw [if_neg e]
    exact ⟨l, rfl, fun b hb => hb, hl⟩
theorem push_app (l m : List AS) (hm : m.length ≤ 5) (a : AS) : ∃ l', pushL (l ++ m) a = l' ++ m ++ [a] ∧ (∀ b ∈ l', b ∈ l) ∧ l'.length ≤ l.length := by
  unfold pushL
  by_cases e : (l ++ m).length = 6
  · rw [if_pos e]
    cases l with
    | nil =>
      rw [List.nil_append] at e
      omega
    | cons c l => exact ⟨l, rfl, fun b hb => List.mem_cons_of_mem _ hb, Nat.le_succ _⟩
  · rw [if_neg e]
    exact ⟨l, rfl, fun b hb => hb, Nat.le_refl _⟩
theorem push2 {l : List AS} (hl : l.length ≤ 6) (a b : AS) : ∃ l', pushL (pushL l a) b = (l' ++ [a]) ++ [b] ∧ (∀ c ∈ l', c ∈ l) ∧ l'.length ≤ 6 := by
  obtain ⟨l1, e1, m1, n1⟩ := push1 hl a
  obtain ⟨l2, e2, m2, n2⟩ := push_app l1 [a] (Nat.le_of_ble_eq_true rfl) b
  rw [e1, e2]
  exact ⟨l2, rfl, fun c hc => m1 c (m2 c hc), by omega⟩
theorem push3 {l : List AS} (hl : l.length ≤ 6) (a b c : AS) : ∃ l', pushL (pushL (pushL l a) b) c = ((l' ++ [a]) ++ [b]) ++ [c] ∧ (∀ x ∈ l', x ∈ l) ∧ l'.length ≤ 6 := by
  obtain ⟨l1, e1, m1, n1⟩ := push2 hl a b
  obtain ⟨l2, e2, m2, n2⟩ := push_app l1 ([a] ++ [b]) (Nat.le_of_ble_eq_true rfl) c
  rw [e1, List.append_assoc l1, e2]
  exact ⟨l2, by rw [List.append_assoc l2 [a] [b]], fun x hx => m1 x (m2 x hx), by omega⟩
theorem undo_app (a b : AS) (L : List AS) (S : (Nat → Option AS) × Nat × (Nat → Int32)) : o_undo (a, L ++ [b], S) = (0, b, L, S) := by
  unfold o_undo
  show (match (L ++ [b]).getLast? with
    | none => (XS, ((a, L ++ [b], S) : PS))
    | some c => (0, (c, (L ++ [b]).dropLast, S))) = _
  rw [List.getLast?_concat, List.dropLast_concat]
theorem ts_is (A : AS) (l : List AS) (S : (Nat → Option AS) × Nat × (Nat → Int32)) : o_turnStrong (A, l, S) = (b01 (!aG A), (aF A, A.2.1, b01 (!aG A), A.2.2.2), pushL l A, S) := rfl
theorem aG_ts (f : Nat → Int32) (k : Int32) (g : Bool) (r : Int32 × Int32 × Int32 × List HP × Int32 × Int32 × Int32 × Int32 × Int32 × Int32) : aG (f, k, b01 g, r) = g := by
  cases g <;> rfl
theorem cb_is (A : AS) (l : List AS) (S : (Nat → Option AS) × Nat × (Nat → Int32)) : o_clearBoard (A, l, S) = (nI (piN (aF A)), clA A, pushL l A, S) := rfl
theorem su_is (A : AS) (l : List AS) (S : (Nat → Option AS) × Nat × (Nat → Int32)) : o_setUp (A, l, S) = (nI (piN fPI), stA fPI A 0, pushL l A, S) := rfl
theorem gb_is {A B : AS} {l : List AS} {S : (Nat → Option AS) × Nat × (Nat → Int32)} (h : S.1 (iN 1) = some A) : o_goBack (B, l, S) 1 = (0, A, pushL l B, S) := by
  unfold o_goBack
  rw [if_pos (show inC 1 0 1 = true by decide)]
  show (match S.1 (iN 1) with
    | none => (XS, ((B, l, S) : PS))
    | some b => (0, o_push (B, l, S) b)) = _
  rw [h]
  rfl
theorem mv_is {A : AS} {l : List AS} {S : (Nat → Option AS) × Nat × (Nat → Int32)} (hl : (aH A).length < 900) {x y : Nat} (hx : x < 49) (hy : y < 49) (hal : alA A x y = true) : o_move (A, l, S) (nI x) (nI y) = some ((nI (takN (aF A) (aG A) x y)).toInt64, mvA A x y, pushL l A, S) := by
  unfold o_move
  rw [if_pos (show (aH (A, l, S).1).length < 900 from hl), sqB_nI x hx y hy, if_pos (show true = true from rfl), iN_nI (by omega), iN_nI (by omega), if_pos (show alA (A, l, S).1 x y = true from hal)]
  rfl
/-! a king alone, put anew -/
def zB (s : Nat) : Nat → Int32 := upd (fun _ => 0) s 3
theorem z_king : ∀ r, r < 5 → ∀ c, c < 2 → kingN (zB (7 * (r + 1) + (c + 1))) = some (7 * (r + 1) + (c + 1)) ∧ isCo (7 * (r + 1) + (c + 1)) = false ∧ 0 < mcN (zB (7 * (r + 1) + (c + 1))) 1 := by decide +kernel
theorem z_cell : ∀ r, r < 5 → ∀ c, c < 2 → cellB (nI r + 1) (nI c + 1) = true ∧ cellN (nI r + 1) (nI c + 1) = 7 * (r + 1) + (c + 1) := by decide +kernel
theorem z_put {A : AS} {l : List AS} {S : (Nat → Option AS) × Nat × (Nat → Int32)} {r c : Nat} (hr : r < 5) (hc : c < 2) : o_put (clA A, l, S) (nI r + 1) (nI c + 1) 3 = (0, putA (clA A) (7 * (r + 1) + (c + 1)) 3, pushL l (clA A), S) := by
  obtain ⟨h1, h2⟩ := z_cell r hr c hc
  unfold o_put
  have h3 : (decide (aS (clA A, l, S).1 = 0) && alP (aF (clA A, l, S).1) 3 (7 * (r + 1) + (c + 1))) = true := by
    rw [Bool.and_eq_true]
    refine ⟨decide_eq_true rfl, ?_⟩
    unfold alP
    rw [if_pos rfl, show kingN (aF (clA A, l, S).1) = none from cl_king]
    rfl
  rw [h1, if_pos (show true = true from rfl), if_pos (show inC 3 0 3 = true by decide), h2, if_pos h3]
  rfl
theorem z_start {A : AS} {l : List AS} {S : (Nat → Option AS) × Nat × (Nat → Int32)} {r c : Nat} (hr : r < 5) (hc : c < 2) : o_start (putA (clA A) (7 * (r + 1) + (c + 1)) 3, l, S) 1 = ((nI (mcN (zB (7 * (r + 1) + (c + 1))) 1)).toInt64, stA (zB (7 * (r + 1) + (c + 1))) (putA (clA A) (7 * (r + 1) + (c + 1)) 3) 1, pushL l (putA (clA A) (7 * (r + 1) + (c + 1)) 3), S) := by
  obtain ⟨h1, h2, h3⟩ := z_king r hr c hc
  unfold o_start
  have h4 : canS (putA (clA A) (7 * (r + 1) + (c + 1)) 3, l, S).1 = true := by
    unfold canS
    rw [show kingN (aF (putA (clA A) (7 * (r + 1) + (c + 1)) 3, l, S).1) = some (7 * (r + 1) + (c + 1)) from h1, Bool.and_eq_true]
    refine ⟨decide_eq_true rfl, ?_⟩
    show (!isCo (7 * (r + 1) + (c + 1))) = true
    rw [h2]
    rfl
  rw [if_pos (show inC 1 0 1 = true by decide), if_pos h4]
  rfl
/-! what a move does -/
theorem bL_1 : bL true = (nI 1).toInt64 := by decide
theorem bL_0 : bL false = (nI 0).toInt64 := by decide
theorem os_0 (x y : Int32) : v_ofSide x y 0 = x.toInt64 := by
  unfold v_ofSide
  rw [if_pos (show inC 0 0 1 = true by decide), if_pos rfl]
theorem os_1 (x y : Int32) : v_ofSide x y 1 = y.toInt64 := by
  unfold v_ofSide
  rw [if_pos (show inC 1 0 1 = true by decide), if_neg (show ¬ (1 : Int32) = 0 by decide)]
theorem mv_facts {N : Nat} {A : AS} (ha : IB N A) (hN : N < 890) {x y : Nat} (hx : x < 49) (hy : y < 49) (hal : alA A x y = true) : v_ofSide (aT1 (mvA A x y)) (aT2 (mvA A x y)) (1 - aM A) = v_ofSide (aT1 A) (aT2 A) (1 - aM A) + (nI (takN (aF A) (aG A) x y)).toInt64 ∧ (aS (mvA A x y) = 2 + aM A) = (winB (aF A) (aG A) x y = true) ∧ v_ofSide (aW1 (mvA A x y)) (aW2 (mvA A x y)) (aM A) = v_ofSide (aW1 A) (aW2 A) (aM A) + bL (winB (aF A) (aG A) x y) := by
  obtain ⟨f, kk, sg, sn, mv, gm, h, w1, w2, dg, t1, t2, am⟩ := A
  obtain ⟨e1, e2, e3⟩ := alB_e hal
  have e1 : sn = 1 := e1
  subst e1
  have e3 : reason f x y = 0 := e3
  obtain ⟨h1, h2, h3, h4, h5, h6, ⟨w, f1, f2⟩, ⟨w', g1, g2⟩, ⟨t, i1, i2⟩, ⟨t', j1, j2⟩⟩ := ha
  obtain ⟨pb, uk, ko, hkk, hg, hdm, h0, hok, hrun⟩ := IA_e h1
  obtain ⟨hlow, kg, hk1, hk2⟩ := hrun rfl
  have fw : w1 = nI w := f1
  have gw : w2 = nI w' := g1
  have it : t1 = nI t := i1
  have jt : t2 = nI t' := j1
  have hm := reason_MV hx hy e3
  have hw := won_win (g := decide (sg = 1)) hm (AG_rfl _)
  rw [show decide (kingN f ≠ none) = true from decide_eq_true (by rw [hk1]; exact nofun)] at hw
  have htk := takN_le f (decide (sg = 1)) x y
  have x0 : ∀ v : Int64, v + (nI 0).toInt64 = v := fun v => by
    rw [L_0]
    exact Int64.add_zero v
  show v_ofSide (if mv = 0 then t1 else t1 + nI (takN f (decide (sg = 1)) x y)) (if mv = 0 then t2 + nI (takN f (decide (sg = 1)) x y) else t2) (1 - mv) = v_ofSide t1 t2 (1 - mv) + (nI (takN f (decide (sg = 1)) x y)).toInt64 ∧ ((jdg 1 mv w1 w2 dg (wonB (mov f (decide (sg = 1)) x y) y true) (1 + occ (mov f (decide (sg = 1)) x y, 1 - mv) h)).1 = 2 + mv) = (winB f (decide (sg = 1)) x y = true) ∧ v_ofSide (jdg 1 mv w1 w2 dg (wonB (mov f (decide (sg = 1)) x y) y true) (1 + occ (mov f (decide (sg = 1)) x y, 1 - mv) h)).2.1 (jdg 1 mv w1 w2 dg (wonB (mov f (decide (sg = 1)) x y) y true) (1 + occ (mov f (decide (sg = 1)) x y, 1 - mv) h)).2.2.1 mv = v_ofSide w1 w2 mv + bL (winB f (decide (sg = 1)) x y)
  rw [hw]
  generalize takN f (decide (sg = 1)) x y = tk at htk ⊢
  generalize winB f (decide (sg = 1)) x y = wn
  generalize 1 + occ (mov f (decide (sg = 1)) x y, 1 - mv) h = sn
  rcases hdm with q | q
  · subst q
    refine ⟨?_, ?_, ?_⟩
    · rw [if_pos rfl, if_pos rfl, show (1 : Int32) - 0 = 1 by decide, os_1, os_1, jt, nI_add, L_add (by omega)]
    · cases wn with
      | true => exact eq_iff_iff.mpr ⟨fun _ => rfl, fun _ => rfl⟩
      | false =>
        unfold jdg
        rw [if_neg (show ¬ false = true by decide)]
        by_cases e : sn < 3
        · rw [if_pos e]
          exact eq_iff_iff.mpr ⟨fun z => absurd (show (1 : Int32) = 2 + 0 from z) (by decide), fun z => nomatch z⟩
        · rw [if_neg e]
          exact eq_iff_iff.mpr ⟨fun z => absurd (show (4 : Int32) = 2 + 0 from z) (by decide), fun z => nomatch z⟩
    · rw [os_0, os_0]
      cases wn with
      | true =>
        show (w1 + 1).toInt64 = _
        rw [fw, nI_1, bL_1, L_add (by omega)]
      | false =>
        rw [bL_0, x0]
        unfold jdg
        rw [if_neg (show ¬ false = true by decide)]
        by_cases e : sn < 3
        · rw [if_pos e]
        · rw [if_neg e]
  · subst q
    refine ⟨?_, ?_, ?_⟩
    · rw [if_neg (show ¬ (1 : Int32) = 0 by decide), if_neg (show ¬ (1 : Int32) = 0 by decide), show (1 : Int32) - 1 = 0 by decide, os_0, os_0, it, nI_add, L_add (by omega)]
    · cases wn with
      | true => exact eq_iff_iff.mpr ⟨fun _ => rfl, fun _ => rfl⟩
      | false =>
        unfold jdg
        rw [if_neg (show ¬ false = true by decide)]
        by_cases e : sn < 3
        · rw [if_pos e]
          exact eq_iff_iff.mpr ⟨fun z => absurd (show (1 : Int32) = 2 + 1 from z) (by decide), fun z => nomatch z⟩
        · rw [if_neg e]
          exact eq_iff_iff.mpr ⟨fun z => absurd (show (4 : Int32) = 2 + 1 from z) (by decide), fun z => nomatch z⟩
    · rw [os_1, os_1]
      cases wn with
      | true =>
        show (w2 + 1).toInt64 = _
        rw [gw, nI_1, bL_1, L_add (by omega)]
      | false =>
        rw [bL_0, x0]
        unfold jdg
        rw [if_neg (show ¬ false = true by decide)]
        by_cases e : sn < 3
        · rw [if_pos e]
        · rw [if_neg e]
/-! the best move is not less than the others -/
set_option maxRecDepth 100000 in
set_option maxHeartbeats 8000000 in
theorem best_step {A : AS} {l : List AS} {S : (Nat → Option AS) × Nat × (Nat → Int32)} {D : Int32} (hD : isD D) {K s c0 : Nat} (hK : K = mcN (aF A) D) (hs : s = 1 + K / 5) (hb : ∀ c ∈ LMv (aF A) D, worN (aF A) (aG A) (c / 49) (c % 49) < worN (aF A) (aG A) (c0 / 49) (c0 % 49) ∨ (worN (aF A) (aG A) (c / 49) (c % 49) = worN (aF A) (aG A) (c0 / 49) (c0 % 49) ∧ c0 ≤ c)) (hc0 : c0 < 2401) {j : Nat} (hj : j * s < K) (J : Int32 → Option (Int32 × PS)) (self : Int32 → Int32 → Option (Int32 × PS)) : fL_follows_L420_B D (nI K) (A, l, S) J (nI c0) (worN (aF A) (aG A) (c0 / 49) (c0 % 49)).toInt64 self 1 (nI (j * s)) = self 1 (nI ((j + 1) * s)) := by
  have hk := mcN_le (aF A) D
  have hl := LMv_len (b := aF A) hD
  have hc := lm_mem (f := aF A) (d := D) (k := j * s) (by omega)
  have hcl := LMv_lt hc
  obtain ⟨c1, c2, c3, c4, c5⟩ := LMv_mem hc
  have em2 : (v_moveAt (aF A) D (nI (j * s))).toInt32 = nI (lm (aF A) D (j * s)) := by
    rw [va_move (f := aF A) hD (by omega), L_back]
  have e1 := div49 _ hcl
  have e2 := mod49 _ hcl
  rw [e1] at e2
  have e3 := va_worth (f := aF A) (g := aG A) c1 c2 c5
  have e6 : nI (j * s) + (1 + nI K / 5) = nI ((j + 1) * s) := by
    rw [show nI K / 5 = nI (K / 5) from nI_dv (m := 5) (by omega) (by decide)]
    rw [show (1 : Int32) + nI (K / 5) = nI (1 + K / 5) from nI_add 1 _, nI_add, ← hs, Nat.add_mul, Nat.one_mul]
  have e7 : (nI K ≤ nI (j * s)) = False := eq_false (nI_ge hj (by omega))
  have i10 : ((1 : Int32) = 0) = False := eq_false (by decide)
  unfold fL_follows_L420_B
  rcases hb _ hc with q | ⟨q, q2⟩
  · have e8 : (lg_cmp (worN (aF A) (aG A) (lm (aF A) D (j * s) / 49) (lm (aF A) D (j * s) % 49)).toInt64 (worN (aF A) (aG A) (c0 / 49) (c0 % 49)).toInt64 < 0) = True := by
      rw [lg_lt0, l64_lt]
      exact eq_true q
    simp only [↓jn_p, ↓bnd_p, ↓reduceIte, em2, e1, e2, e3, e6, e7, i10, e8]
  · have e8 : (lg_cmp (worN (aF A) (aG A) (lm (aF A) D (j * s) / 49) (lm (aF A) D (j * s) % 49)).toInt64 (worN (aF A) (aG A) (c0 / 49) (c0 % 49)).toInt64 < 0) = False := by
      rw [lg_lt0, l64_lt, q]
      exact eq_false (fun z => by
        rw [Int32.lt_iff_toInt_lt] at z
        omega)
    have e9 : (lg_cmp (worN (aF A) (aG A) (lm (aF A) D (j * s) / 49) (lm (aF A) D (j * s) % 49)).toInt64 (worN (aF A) (aG A) (c0 / 49) (c0 % 49)).toInt64 = 0) = True := by
      rw [lg_eq, q]
      exact eq_true rfl
    have e10 : (nI (lm (aF A) D (j * s)) < nI c0) = False := eq_false (nI_nlt q2 (by omega))
    simp only [↓jn_p, ↓bnd_p, ↓reduceIte, em2, e1, e2, e3, e6, e7, i10, e8, e9, e10]
theorem best_loop {A : AS} {l : List AS} {S : (Nat → Option AS) × Nat × (Nat → Int32)} {D : Int32} (hD : isD D) {K c0 : Nat} (hK : K = mcN (aF A) D) (hb : ∀ c ∈ LMv (aF A) D, worN (aF A) (aG A) (c / 49) (c % 49) < worN (aF A) (aG A) (c0 / 49) (c0 % 49) ∨ (worN (aF A) (aG A) (c / 49) (c % 49) = worN (aF A) (aG A) (c0 / 49) (c0 % 49) ∧ c0 ≤ c)) (hc0 : c0 < 2401) (J : Int32 → Option (Int32 × PS)) : fL_follows_L420 D (nI K) (A, l, S) J (nI c0) (worN (aF A) (aG A) (c0 / 49) (c0 % 49)).toInt64 8 1 0 = J 1 := by
  obtain ⟨s, hs⟩ : ∃ s, s = 1 + K / 5 := ⟨_, rfl⟩
  obtain ⟨m, h1, h2, h3⟩ := steps K (s := s) (by omega)
  have hm : m ≤ 5 := h3 5 (by omega)
  have hk := mcN_le (aF A) D
  have hb2 : m * s ≤ 5 * s := Nat.mul_le_mul_right s hm
  unfold fL_follows_L420
  have h0 : ((1 : Int32), (0 : Int32)) = (fun j => ((1 : Int32), nI (j * s))) 0 := by
    show _ = ((1 : Int32), nI (0 * s))
    rw [Nat.zero_mul]
    rfl
  rw [h0]
  refine lp_for (fun j => ((1 : Int32), nI (j * s))) m (fun j hj self => best_step hD hK hs hb hc0 (h1 j hj) J (fun a b => self (a, b))) (fun self => ?_) (by omega)
  show fL_follows_L420_B D (nI K) (A, l, S) J (nI c0) _ (fun a b => self (a, b)) 1 (nI (m * s)) = J 1
  unfold fL_follows_L420_B
  rw [if_pos (nI_le h2 (by omega))]
/-! one move tried -/
set_option maxRecDepth 100000 in
set_option maxHeartbeats 8000000 in
theorem fo_step {N : Nat} {st : PS} {A : AS} (hA : A = st.1) (ha : IB N A) (hN : N < 890) {a1 : Int32} {S : (Nat → Option AS) × Nat × (Nat → Int32)} {D : Int32} (hD : isD D) {K s : Nat} (hK : K = mcN (aF A) D) (hs : s = 1 + K / 6) (h1 : aS A = 1) (hM : aM A = D) {j : Nat} (hj : j * s < K) {l : List AS} (hl : l.length ≤ 6) : ∃ l', (∀ b ∈ l', b ∈ l) ∧ l'.length ≤ 6 ∧ ∀ self : Int32 → Int32 → PS → Option (Int32 × PS), fL_follows_L70_B st a1 D (nI K) self 1 (nI (j * s)) (A, l, S) = self 1 (nI ((j + 1) * s)) (A, l', S) := by
  obtain ⟨l', ep, m1, n1⟩ := push1 hl A
  refine ⟨l', m1, n1, fun self => ?_⟩
  have hk := mcN_le (aF A) D
  have hll := LMv_len (b := aF A) hD
  have hc := lm_mem (f := aF A) (d := D) (k := j * s) (by omega)
  have hcl := LMv_lt hc
  obtain ⟨c1, c2, c3, c4, c5⟩ := LMv_mem hc
  obtain ⟨x, hx⟩ : ∃ x, x = lm (aF A) D (j * s) / 49 := ⟨_, rfl⟩
  obtain ⟨y, hy⟩ : ∃ y, y = lm (aF A) D (j * s) % 49 := ⟨_, rfl⟩
  have em2 : (v_moveAt (aF A) D (nI (j * s))).toInt32 = nI (lm (aF A) D (j * s)) := by
    rw [va_move (f := aF A) hD (by omega), L_back]
  have e1 := div49 _ hcl
  have e2 := mod49 _ hcl
  rw [← hx] at c1 c4 c5 e1
  rw [← hy] at c2 c5 e2
  rw [e1] at e2
  have hm := reason_MV c1 c2 c5
  have hal : alA A x y = true := by
    unfold alA alB
    rw [decide_eq_true h1, decide_eq_true (show sd (aF A x) = aM A by rw [hM]; exact c4), decide_eq_true c5]
    rfl
  have hlen : (aH A).length < 900 := by
    have := ha.2.1
    omega
  obtain ⟨f1, f2, f3⟩ := mv_facts ha hN c1 c2 hal
  rw [hM] at f1 f2 f3
  have e3 := va_take (f := aF A) (g := aG A) c1 c2 c5
  have e4 := va_win (f := aF A) (g := aG A) c1 c2 c5
  have e5 := va_worth (f := aF A) (g := aG A) c1 c2 c5
  have e6 : nI (j * s) + (1 + nI K / 6) = nI ((j + 1) * s) := by
    rw [show nI K / 6 = nI (K / 6) from nI_dv (m := 6) (by omega) (by decide)]
    rw [show (1 : Int32) + nI (K / 6) = nI (1 + K / 6) from nI_add 1 _, nI_add, ← hs, Nat.add_mul, Nat.one_mul]
  have e7 : (nI K ≤ nI (j * s)) = False := eq_false (nI_ge hj (by omega))
  have i10 : ((1 : Int32) = 0) = False := eq_false (by decide)
  have e8 := mv_is (S := S) (l := l) hlen c1 c2 hal
  have e9 : (lg_cmp (nI (takN (aF A) (aG A) x y)).toInt64 (nI (takN (aF A) (aG A) x y)).toInt64 = 0) = True := by
    rw [lg_eq]
    exact eq_true rfl
  have e10 : (lg_cmp (v_ofSide (aT1 (mvA A x y)) (aT2 (mvA A x y)) (1 - D)) (v_ofSide (aT1 A) (aT2 A) (1 - D) + (nI (takN (aF A) (aG A) x y)).toInt64) = 0) = True := by
    rw [lg_eq]
    exact eq_true f1
  have e11 : (aN (mvA A x y) = aN st.1 + 1) = True := by
    rw [← hA]
    exact eq_true rfl
  have e12 : (aAm (mvA A x y) = aAm st.1 + 1) = True := by
    rw [← hA]
    exact eq_true rfl
  have ey : aF (mvA A x y) y = aF A x := mov_y hm
  have ex : aF (mvA A x y) x = 0 := mov_x
  have e13 : (lg_cmp (v_pieceAt (aF (mvA A x y)) (nI y / 7) (nI y - nI y / 7 * 7)) 0 ≤ 0) = False := by
    rw [va_piece c2, ey, lg_le0]
    refine eq_false (fun z => ?_)
    rcases ha.1.1 x c1 with q | q | q | q
    · exact hm.2.2.2.1 q
    · rw [q] at z
      exact absurd z (by decide)
    · rw [q] at z
      exact absurd z (by decide)
    · rw [q] at z
      exact absurd z (by decide)
  have e14 : (lg_cmp (v_pieceAt (aF (mvA A x y)) (nI x / 7) (nI x - nI x / 7 * 7)) 0 = 0) = True := by
    rw [va_piece c1, ex]
    exact eq_true (by decide)
  have e15 : (lg_cmp (v_ofSide (aW1 (mvA A x y)) (aW2 (mvA A x y)) D) (v_ofSide (aW1 A) (aW2 A) D + bL (winB (aF A) (aG A) x y)) = 0) = True := by
    rw [lg_eq]
    exact eq_true f3
  have e16 := undo_app (mvA A x y) A l' S
  have e17 : (lg_cmp 0 0 = 0) = True := eq_true (by decide)
  have e18 : (aN A = aN st.1) = True := by
    rw [hA]
    exact eq_true rfl
  have e19 : (aS A = aS st.1) = True := by
    rw [hA]
    exact eq_true rfl
  unfold fL_follows_L70_B
  cases hw : winB (aF A) (aG A) x y with
  | true =>
    rw [hw] at e4 e15 f2
    have g1 : (aS (mvA A x y) = 2 + D) = True := f2.trans (eq_true rfl)
    have g2 : (lg_cmp (bL true) 1 = 0) = True := eq_true (by decide)
    have g3 : (lg_cmp (worN (aF A) (aG A) x y).toInt64 1000 = 0) = True := by
      unfold worN
      rw [hw, if_pos (show true = true from rfl)]
      exact eq_true (by decide)
    simp only [↓jn_p, ↓bnd_p, ↓reduceIte, ↓bind_p, em2, e1, e2, e3, e4, e5, e6, e7, i10, e8, e9, e10, e11, e12, e13, e14, e15, ep, e16, e17, e18, e19, g1, g2, g3]
  | false =>
    rw [hw] at e4 e15 f2
    have g1 : (aS (mvA A x y) = 2 + D) = False := f2.trans (eq_false nofun)
    have g2 : (lg_cmp (bL false) 1 = 0) = False := eq_false (by decide)
    have hD1 : isD (1 - D) := isD_opp hD
    have g3 : (lg_cmp (worN (aF A) (aG A) x y).toInt64 ((20 * (nI (takN (aF A) (aG A) x y)).toInt64) - (100 * (v_winning (aF (mvA A x y)) (aG (mvA A x y)) (1 - D)))) = 0) = True := by
      rw [lg_eq, va_winning hD1]
      have hWN := WN_le (b := aF (mvA A x y)) (g := aG (mvA A x y)) hD1
      have htk := takN_le (aF A) (aG A) x y
      rw [← wor64 _ (by omega) _ (by omega)]
      unfold worN
      rw [hw, if_neg (show ¬ false = true by decide), c4]
      exact eq_true rfl
    simp only [↓jn_p, ↓bnd_p, ↓reduceIte, ↓bind_p, em2, e1, e2, e3, e4, e5, e6, e7, i10, e8, e9, e10, e11, e12, e13, e14, e15, ep, e16, e17, e18, e19, g1, g2, g3]
/-! the rest of the trials, once -/
set_option maxRecDepth 100000 in
set_option maxHeartbeats 8000000 in
theorem fo_end {N : Nat} {st : PS} {A : AS} (hA : A = st.1) (ha : IB N A) (hN : N < 890) {a1 : Int32} {r c d : Nat} (hr : r < 5) (hc : c < 2) (hd : d < 2) (er : a1 - a1 / 5 * 5 = nI r) (ec : (a1 / 5) - (a1 / 5) / 2 * 2 = nI c) (ed : a1 - a1 / 2 * 2 = nI d) {S : (Nat → Option AS) × Nat × (Nat → Int32)} (hS : S.1 (iN 1) = some A) {D : Int32} (hD : isD D) {K q : Nat} (hK : K = 0 ∨ K = mcN (aF A) D) (hK2 : K < 589) (hq : K ≤ q) (hq2 : q < 2 ^ 31) {l : List AS} (hl : l.length ≤ 6) : ∃ l', (∀ b ∈ l', b ∈ l) ∧ l'.length ≤ 6 ∧ ∀ self : Int32 → Int32 → PS → Option (Int32 × PS), fL_follows_L70_B st a1 D (nI K) self 1 (nI q) (A, l, S) = some (1, (A, l', S)) := by
  obtain ⟨l1, p1, m1, n1⟩ := push1 hl A
  obtain ⟨l2, p2, m2, n2⟩ := push3 n1 A (clA A) (putA (clA A) (7 * (r + 1) + (c + 1)) 3)
  obtain ⟨l3, p3, m3, n3⟩ := push2 n2 A (stA fPI A 0)
  refine ⟨l3, fun b hb => m1 b (m2 b (m3 b hb)), n3, fun self => ?_⟩
  have i10 : ((1 : Int32) = 0) = False := eq_false (by decide)
  have i01 : ((0 : Int32) = 1) = False := eq_false (by decide)
  have l00 : (lg_cmp 0 0 = 0) = True := eq_true (by decide)
  have eq1 : (nI K ≤ nI q) = True := eq_true (nI_le hq hq2)
  obtain ⟨z1, z2, z3⟩ := z_king r hr c hc
  have zm := mcN_le (zB (7 * (r + 1) + (c + 1))) 1
  have hD2 : isD (nI d) := by
    rcases (by omega : d = 0 ∨ d = 1) with x | x
    · rw [x]
      exact Or.inl rfl
    · rw [x]
      exact Or.inr rfl
  have hpi : piN (aF A) ≤ 49 * 1 := sumN_le (fun i _ => by split; exact Nat.zero_le _; exact Nat.le_refl _)
  have e1 : v_piecesOf (aF A) 0 + v_piecesOf (aF A) 1 = (nI (piN (aF A))).toInt64 := by
    have := cp_pi (aF A)
    rw [va_pieces (Or.inl rfl), va_pieces (Or.inr rfl), L_add (by omega), this]
  have e2 : (lg_cmp (nI (piN (aF A))).toInt64 (nI (piN (aF A))).toInt64 = 0) = True := by
    rw [lg_eq]
    exact eq_true rfl
  have e3 : (aS (clA A) = 0) = True := eq_true rfl
  have e4 : (lg_cmp (v_kingAt (aF (clA A))) (-9000000000000000003) = 0) = True := by
    rw [k_at (show kingN (aF (clA A)) = none from cl_king)]
    exact xeS
  have e5 : (lg_cmp (v_byPieces (aF (clA A)) (nI d)) 0 = 0) = True := by
    rw [va_by hD2]
    have : mcN (aF (clA A)) (nI d) = 0 := by
      unfold mcN
      rw [sumN_zero]
      intro i _
      by_cases e : sd (aF (clA A) i) = nI d
      · rw [if_pos e]
        unfold goN
        exact if_pos rfl
      · exact if_neg e
    rw [this]
    exact eq_true (by decide)
  have e6 := z_put (A := A) (l := pushL l1 A) (S := S) hr hc
  have e7 := z_start (A := A) (l := pushL (pushL l1 A) (clA A)) (S := S) hr hc
  have e8 : (lg_cmp (nI (mcN (zB (7 * (r + 1) + (c + 1))) 1)).toInt64 0 ≤ 0) = False := by
    rw [lg_le0, ← L_0, L_le (by omega) (by decide)]
    exact eq_false (by omega)
  have e9 : (nI (piN fPI) = 13) = True := eq_true (by decide +kernel)
  have e10 : (aS (stA fPI A 0) = 1) = True := eq_true rfl
  have e11 : (aN (stA fPI A 0) = 0) = True := eq_true rfl
  have e12 : (lg_cmp (v_timesSeen (aH (stA fPI A 0))) 1 = 0) = True := eq_true (by
    show lg_cmp (nI (1 + 0)).toInt64 1 = 0
    decide)
  have e13 := fun (B : AS) (L : List AS) => gb_is (B := B) (l := L) hS
  have e14 : (aS A = aS st.1) = True := by
    rw [hA]
    exact eq_true rfl
  have e15 : (aN A = aN st.1) = True := by
    rw [hA]
    exact eq_true rfl
  have e16 : (aAm A = aAm st.1) = True := by
    rw [hA]
    exact eq_true rfl
  unfold fL_follows_L70_B
  by_cases hK0 : K = 0
  · have e18 : (nI K ≤ 0) = True := by
      rw [hK0]
      exact eq_true (by decide)
    cases hg : aG A with
    | true =>
      have e17 : aG (aF A, A.2.1, 0, A.2.2.2) = false := aG_ts (aF A) A.2.1 false A.2.2.2
      simp only [↓jn_p, ↓bnd_p, ↓reduceIte, i10, i01, l00, eq1, e1, e2, e3, e4, e5, e6, e7, e8, e9, e10, e11, e12, e13, e14, e15, e16, e17, e18, er, ec, ed, ts_is, cb_is, su_is, hg, Bool.not_true, b01_t, b01_f, p1, p2, p3, undo_app]
    | false =>
      have e17 : aG (aF A, A.2.1, 1, A.2.2.2) = true := aG_ts (aF A) A.2.1 true A.2.2.2
      simp only [↓jn_p, ↓bnd_p, ↓reduceIte, i10, i01, l00, eq1, e1, e2, e3, e4, e5, e6, e7, e8, e9, e10, e11, e12, e13, e14, e15, e16, e17, e18, er, ec, ed, ts_is, cb_is, su_is, hg, Bool.not_false, b01_t, b01_f, p1, p2, p3, undo_app]
  · have e18 : (nI K ≤ 0) = False := eq_false (nI_nle (by omega) (by omega))
    have hK1 : K = mcN (aF A) D := hK.resolve_left hK0
    obtain ⟨c0, b1, b2, b3⟩ := BM_is (b := aF A) (g := aG A) hD (by omega)
    obtain ⟨y1, y2, y3, y4, y5⟩ := LMv_mem b1
    have yl := LMv_lt b1
    have w1 : (v_bestMove (aF A) (aG A) D).toInt32 = nI c0 := by
      rw [va_best hD (by omega), L_back, b2]
    have w2 := div49 _ yl
    have w3 := mod49 _ yl
    rw [w2] at w3
    have w4 := va_worth (f := aF A) (g := aG A) y1 y2 y5
    have w5 := fun J => best_loop (A := A) (l := l) (S := S) hD hK1 b3 yl J
    cases hg : aG A with
    | true =>
      have e17 : aG (aF A, A.2.1, 0, A.2.2.2) = false := aG_ts (aF A) A.2.1 false A.2.2.2
      rw [hg] at w1 w4 w5
      simp only [↓jn_p, ↓bnd_p, ↓reduceIte, i10, i01, l00, eq1, e1, e2, e3, e4, e5, e6, e7, e8, e9, e10, e11, e12, e13, e14, e15, e16, e17, e18, er, ec, ed, ts_is, cb_is, su_is, hg, Bool.not_true, b01_t, b01_f, p1, p2, p3, undo_app, w1, w2, w3, w4, w5]
    | false =>
      have e17 : aG (aF A, A.2.1, 1, A.2.2.2) = true := aG_ts (aF A) A.2.1 true A.2.2.2
      rw [hg] at w1 w4 w5
      simp only [↓jn_p, ↓bnd_p, ↓reduceIte, i10, i01, l00, eq1, e1, e2, e3, e4, e5, e6, e7, e8, e9, e10, e11, e12, e13, e14, e15, e16, e17, e18, er, ec, ed, ts_is, cb_is, su_is, hg, Bool.not_false, b01_t, b01_f, p1, p2, p3, undo_app, w1, w2, w3, w4, w5]
theorem fo_run {N : Nat} {st : PS} {A : AS} (hA : A = st.1) (ha : IB N A) (hN : N < 890) {a1 : Int32} {r c d : Nat} (hr : r < 5) (hc : c < 2) (hd : d < 2) (er : a1 - a1 / 5 * 5 = nI r) (ec : (a1 / 5) - (a1 / 5) / 2 * 2 = nI c) (ed : a1 - a1 / 2 * 2 = nI d) {S : (Nat → Option AS) × Nat × (Nat → Int32)} (hS : S.1 (iN 1) = some A) {D : Int32} (hD : isD D) {K s m : Nat} (hK : K = 0 ∨ (K = mcN (aF A) D ∧ aS A = 1 ∧ aM A = D)) (hK2 : K < 589) (hs : s = 1 + K / 6) (h1 : ∀ i, i < m → i * s < K) (h2 : K ≤ m * s) (h3 : m * s < 2 ^ 31) : ∀ (e j : Nat) (l : List AS), j + e = m → l.length ≤ 6 → ∃ l', (∀ b ∈ l', b ∈ l) ∧ l'.length ≤ 6 ∧ ∀ n, e < n → lp (fun zf z => fL_follows_L70_B st a1 D (nI K) (fun v5_15 v8_16 zt_18 => zf (v5_15, v8_16, zt_18)) z.1 z.2.1 z.2.2) n (1, nI (j * s), (A, l, S)) = some (1, (A, l', S)) := by
  intro e
  induction e with
  | zero =>
    intro j l hj hl
    obtain ⟨l', q1, q2, q3⟩ := fo_end hA ha hN hr hc hd er ec ed hS hD (K := K) (q := j * s) (hK.imp id (fun z => z.1)) hK2 (by rw [show j = m by omega]; exact h2) (by rw [show j = m by omega]; exact h3) hl
    refine ⟨l', q1, q2, fun n hn => ?_⟩
    obtain ⟨n, rfl⟩ : ∃ k, n = k + 1 := ⟨n - 1, by omega⟩
    rw [lp_S2]
    exact q3 _
  | succ e ih =>
    intro j l hj hl
    have hjK := h1 j (by omega)
    obtain ⟨k1, k2, k3⟩ := hK.resolve_left (by omega)
    obtain ⟨l1, p1, p2, p3⟩ := fo_step (a1 := a1) (S := S) hA ha hN hD k1 hs k2 k3 hjK hl
    obtain ⟨l', q1, q2, q3⟩ := ih (j + 1) l1 (by omega) p2
    refine ⟨l', fun b hb => p1 b (q1 b hb), q2, fun n hn => ?_⟩
    obtain ⟨n, rfl⟩ : ∃ k, n = k + 1 := ⟨n - 1, by omega⟩
    rw [lp_S2]
    exact (p3 _).trans (q3 n (by omega))
set_option maxRecDepth 100000 in
set_option maxHeartbeats 8000000 in
theorem follows_ok {N : Nat} {st : PS} (hi : INV N st) (hN : N < 890) {a1 : Int32} (ha : ¬ a1 < 0) : ∃ l', (∀ b ∈ l', b ∈ st.2.1) ∧ l'.length ≤ 6 ∧ fL_follows st a1 = some (1, (st.1, l', updS st.2.2.1 (iN 1) st.1, st.2.2.2)) := by
  obtain ⟨n, hn, rfl⟩ := nI_of ha
  have er := nI_mod (m := 5) hn (by decide)
  have ed := nI_mod (m := 2) hn (by decide)
  have ec : (nI n / 5) - (nI n / 5) / 2 * 2 = nI (n / 5 % 2) := by
    rw [show nI n / 5 = nI (n / 5) from nI_div (m := 5) hn (by decide)]
    exact nI_mod (m := 2) (by omega) (by decide)
  have hk : o_keep st 1 = (0, (st.1, st.2.1, updS st.2.2.1 (iN 1) st.1, st.2.2.2)) := by
    unfold o_keep
    rw [if_pos (show inC 1 0 1 = true by decide)]
  have l00 : (lg_cmp 0 0 = 0) = True := eq_true (by decide)
  have hS : (updS st.2.2.1 (iN 1) st.1, st.2.2.2).1 (iN 1) = some st.1 := by
    show updS st.2.2.1 (iN 1) st.1 (iN 1) = some st.1
    unfold updS
    rw [if_pos rfl]
  have key : ∀ (D : Int32) (K : Nat), isD D → (K = 0 ∨ (K = mcN (aF st.1) D ∧ aS st.1 = 1 ∧ aM st.1 = D)) → K < 589 → ∃ l', (∀ b ∈ l', b ∈ st.2.1) ∧ l'.length ≤ 6 ∧ fL_follows_L70 st (nI n) D (nI K) 8 1 0 (st.1, st.2.1, updS st.2.2.1 (iN 1) st.1, st.2.2.2) = some (1, (st.1, l', updS st.2.2.1 (iN 1) st.1, st.2.2.2)) := fun D K hD hK hK2 => by
    obtain ⟨s, hs⟩ : ∃ s, s = 1 + K / 6 := ⟨_, rfl⟩
    obtain ⟨m, h1, h2, h3⟩ := steps K (s := s) (by omega)
    have hm : m ≤ 6 := h3 6 (by omega)
    have hb : m * s ≤ 6 * s := Nat.mul_le_mul_right s hm
    obtain ⟨l', q1, q2, q3⟩ := fo_run rfl hi.1 hN (Nat.mod_lt n (show 0 < 5 by decide)) (Nat.mod_lt (n / 5) (show 0 < 2 by decide)) (Nat.mod_lt n (show 0 < 2 by decide)) er ec ed hS hD hK hK2 hs h1 h2 (by omega) m 0 st.2.1 (by omega) hi.2.2.2.1
    refine ⟨l', q1, q2, ?_⟩
    have q4 := q3 8 (by omega)
    rw [Nat.zero_mul] at q4
    exact q4
  by_cases h1 : aS st.1 = 1
  · have h1' : (aS st.1 = 1) = True := eq_true h1
    have hD := hi.1.1.2.2.2.2.2.1
    have et : (v_turn (aS st.1) (aM st.1)).toInt32 = aM st.1 := by
      unfold v_turn
      rw [if_pos h1, L_back]
    have hm := mcN_le (aF st.1) (aM st.1)
    have eb : (v_byPieces (aF st.1) (aM st.1)).toInt32 = nI (mcN (aF st.1) (aM st.1)) := by
      rw [va_by hD, L_back]
    obtain ⟨l', q1, q2, q3⟩ := key (aM st.1) (mcN (aF st.1) (aM st.1)) hD (Or.inr ⟨rfl, h1, rfl⟩) (by omega)
    refine ⟨l', q1, q2, ?_⟩
    unfold fL_follows
    simp only [↓jn_p, ↓bnd_p, ↓reduceIte, hk, l00, h1', et, eb, q3]
  · have h1' : (aS st.1 = 1) = False := eq_false h1
    obtain ⟨l', q1, q2, q3⟩ := key 0 0 (Or.inl rfl) (Or.inl rfl) (by decide)
    have q3 : fL_follows_L70 st (nI n) 0 0 8 1 0 (st.1, st.2.1, updS st.2.2.1 (iN 1) st.1, st.2.2.2) = some (1, (st.1, l', updS st.2.2.1 (iN 1) st.1, st.2.2.2)) := q3
    refine ⟨l', q1, q2, ?_⟩
    unfold fL_follows
    simp only [↓jn_p, ↓bnd_p, ↓reduceIte, hk, l00, h1', q3]

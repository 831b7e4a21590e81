/-! ===== facts of boards that the law asks ===== -/
theorem L_inj {x y : Int32} : (x.toInt64 = y.toInt64) = (x = y) := by
  rw [eq_iff_iff, ← Int64.toInt_inj, Int32.toInt_toInt64, Int32.toInt_toInt64, Int32.toInt_inj]
theorem sqB_nI : ∀ x, x < 49 → ∀ y, y < 49 → sqB (nI x) (nI y) = true := by decide +kernel
theorem iN_nI {x : Nat} (h : x < 2 ^ 31) : iN (nI x) = x := nI_clamp h
theorem va_against {f : Nat → Int32} {x y : Nat} (hx : x < 49) (hy : y < 49) : v_against f (nI x) (nI y) = (reason f x y).toInt64 := by
  unfold v_against
  rw [sqB_nI x hx y hy, if_pos (show true = true from rfl), iN_nI (by omega), iN_nI (by omega)]
theorem va_can {f : Nat → Int32} {x y : Nat} (hx : x < 49) (hy : y < 49) : v_canMove f (nI x) (nI y) = bL (decide (reason f x y = 0)) := by
  unfold v_canMove
  rw [sqB_nI x hx y hy, if_pos (show true = true from rfl), iN_nI (by omega), iN_nI (by omega)]
theorem va_take {f : Nat → Int32} {g : Bool} {x y : Nat} (hx : x < 49) (hy : y < 49) (h : reason f x y = 0) : v_wouldTake f g (nI x) (nI y) = (nI (takN f g x y)).toInt64 := by
  unfold v_wouldTake
  rw [sqB_nI x hx y hy, if_pos (show true = true from rfl), iN_nI (by omega), iN_nI (by omega), if_pos h]
theorem va_takeX {f : Nat → Int32} {g : Bool} {x y : Nat} (hx : x < 49) (hy : y < 49) (h : ¬ reason f x y = 0) : v_wouldTake f g (nI x) (nI y) = XS := by
  unfold v_wouldTake
  rw [sqB_nI x hx y hy, if_pos (show true = true from rfl), iN_nI (by omega), iN_nI (by omega), if_neg h]
theorem va_win {f : Nat → Int32} {g : Bool} {x y : Nat} (hx : x < 49) (hy : y < 49) (h : reason f x y = 0) : v_wouldWin f g (nI x) (nI y) = bL (winB f g x y) := by
  unfold v_wouldWin
  rw [sqB_nI x hx y hy, if_pos (show true = true from rfl), iN_nI (by omega), iN_nI (by omega), if_pos h]
theorem va_winX {f : Nat → Int32} {g : Bool} {x y : Nat} (hx : x < 49) (hy : y < 49) (h : ¬ reason f x y = 0) : v_wouldWin f g (nI x) (nI y) = XS := by
  unfold v_wouldWin
  rw [sqB_nI x hx y hy, if_pos (show true = true from rfl), iN_nI (by omega), iN_nI (by omega), if_neg h]
theorem va_worth {f : Nat → Int32} {g : Bool} {x y : Nat} (hx : x < 49) (hy : y < 49) (h : reason f x y = 0) : v_worthOf f g (nI x) (nI y) = (worN f g x y).toInt64 := by
  unfold v_worthOf
  rw [sqB_nI x hx y hy, if_pos (show true = true from rfl), iN_nI (by omega), iN_nI (by omega), if_pos h]
theorem va_worthX {f : Nat → Int32} {g : Bool} {x y : Nat} (hx : x < 49) (hy : y < 49) (h : ¬ reason f x y = 0) : v_worthOf f g (nI x) (nI y) = XS := by
  unfold v_worthOf
  rw [sqB_nI x hx y hy, if_pos (show true = true from rfl), iN_nI (by omega), iN_nI (by omega), if_neg h]
theorem cell_s : ∀ s, s < 49 → cellB (nI s / 7) (nI s - nI s / 7 * 7) = true ∧ cellN (nI s / 7) (nI s - nI s / 7 * 7) = s := by decide +kernel
theorem va_piece {f : Nat → Int32} {s : Nat} (hs : s < 49) : v_pieceAt f (nI s / 7) (nI s - nI s / 7 * 7) = (f s).toInt64 := by
  unfold v_pieceAt
  rw [(cell_s s hs).1, if_pos (show true = true from rfl), (cell_s s hs).2]
theorem va_from {f : Nat → Int32} {s : Nat} (hs : s < 49) : v_movesFrom f (nI s / 7) (nI s - nI s / 7 * 7) = (nI (goN f s)).toInt64 := by
  unfold v_movesFrom
  rw [(cell_s s hs).1, if_pos (show true = true from rfl), (cell_s s hs).2]
theorem inC_D {d : Int32} (hd : isD d) : inC d 0 1 = true := by
  rcases hd with rfl | rfl
  · decide
  · decide
theorem va_host {f : Nat → Int32} {s : Nat} (hs : s < 49) {d : Int32} (hd : isD d) : v_hostile f (nI s / 7) (nI s - nI s / 7 * 7) d = bL (host f s d) := by
  unfold v_hostile
  rw [(cell_s s hs).1, if_pos (show true = true from rfl), (cell_s s hs).2, inC_D hd, if_pos (show true = true from rfl)]
theorem va_by {f : Nat → Int32} {d : Int32} (hd : isD d) : v_byPieces f d = (nI (mcN f d)).toInt64 := by
  unfold v_byPieces
  rw [inC_D hd, if_pos (show true = true from rfl)]
theorem va_pieces {f : Nat → Int32} {d : Int32} (hd : isD d) : v_piecesOf f d = (nI (cpN f d)).toInt64 := by
  unfold v_piecesOf
  rw [inC_D hd, if_pos (show true = true from rfl)]
theorem va_winning {f : Nat → Int32} {g : Bool} {d : Int32} (hd : isD d) : v_winning f g d = (nI (WN f g d)).toInt64 := by
  unfold v_winning
  rw [inC_D hd, if_pos (show true = true from rfl)]
theorem va_best {f : Nat → Int32} {g : Bool} {d : Int32} (hd : isD d) (h : ¬ mcN f d = 0) : v_bestMove f g d = (BM f g d).toInt64 := by
  unfold v_bestMove
  rw [inC_D hd, if_pos (show true = true from rfl), if_neg h]
theorem va_bestX {f : Nat → Int32} {g : Bool} {d : Int32} (hd : isD d) (h : mcN f d = 0) : v_bestMove f g d = XS := by
  unfold v_bestMove
  rw [inC_D hd, if_pos (show true = true from rfl), if_pos h]
/-! the moves in their order -/
theorem tlF_sort (b : Nat → Int32) (x n y : Nat) : (tlF b x n y).Pairwise (· < ·) := by
  rw [tlF_eq]
  exact List.Pairwise.filter _ List.pairwise_lt_range'
theorem mlF_sort (b : Nat → Int32) (d : Int32) : ∀ n x, (mlF b d n x).Pairwise (· < ·) ∧ ∀ c ∈ mlF b d n x, 49 * x ≤ c
  | 0, x => ⟨List.Pairwise.nil, fun c h => nomatch h⟩
  | n + 1, x => by
    obtain ⟨h1, h2⟩ := mlF_sort b d n (x + 1)
    by_cases e : sd (b x) = d
    · rw [mlF_yes e]
      refine ⟨List.pairwise_append.mpr ⟨?_, h1, ?_⟩, ?_⟩
      · unfold cds
        exact List.Pairwise.map _ (fun a c h => by omega) (tlF_sort b x 49 0)
      · intro a ha c hc
        unfold cds at ha
        obtain ⟨y, hy, rfl⟩ := List.mem_map.mp ha
        have h3 := (tlF_mem _ _ hy).1
        have h4 := h2 c hc
        omega
      · intro c hc
        rcases List.mem_append.mp hc with hc | hc
        · unfold cds at hc
          obtain ⟨y, hy, rfl⟩ := List.mem_map.mp hc
          omega
        · have h4 := h2 c hc
          omega
    · rw [mlF_no e]
      exact ⟨h1, fun c hc => by
        have h4 := h2 c hc
        omega⟩
theorem LMv_sort (b : Nat → Int32) (d : Int32) : (LMv b d).Pairwise (· < ·) := (mlF_sort b d 49 0).1
def lm (f : Nat → Int32) (d : Int32) (k : Nat) : Nat := (LMv f d).getD k 0
theorem lm_get {f : Nat → Int32} {d : Int32} {k : Nat} (hk : k < (LMv f d).length) : lm f d k = (LMv f d)[k] := by
  unfold lm
  rw [List.getD_eq_getElem?_getD, List.getElem?_eq_getElem hk]
  rfl
theorem lm_mem {f : Nat → Int32} {d : Int32} {k : Nat} (hk : k < (LMv f d).length) : lm f d k ∈ LMv f d := by
  rw [lm_get hk]
  exact List.getElem_mem hk
theorem lm_lt {f : Nat → Int32} {d : Int32} {i j : Nat} (hij : i < j) (hj : j < (LMv f d).length) : lm f d i < lm f d j := by
  rw [lm_get (by omega), lm_get hj]
  exact List.pairwise_iff_getElem.mp (LMv_sort f d) i j (by omega) hj hij
theorem va_move {f : Nat → Int32} {d : Int32} (hd : isD d) {k : Nat} (hk : k < mcN f d) : v_moveAt f d (nI k) = (nI (lm f d k)).toInt64 := by
  have hl := LMv_len (b := f) hd
  have hm := mcN_le f d
  unfold v_moveAt
  rw [inC_D hd, if_pos (show true = true from rfl), if_neg (nlt0 (by omega)), if_pos ((nI_ltI (by omega) (by omega)).mpr (by omega)), iN_nI (by omega)]
  rfl
theorem va_moveX {f : Nat → Int32} {d : Int32} (hd : isD d) : v_moveAt f d (v_byPieces f d).toInt32 = XI := by
  have hl := LMv_len (b := f) hd
  have hm := mcN_le f d
  rw [va_by hd, L_back]
  unfold v_moveAt
  rw [inC_D hd, if_pos (show true = true from rfl), if_neg (nlt0 (by omega)), if_neg (fun e => by have := (nI_ltI (by omega) (by omega)).mp e; omega)]
/-! sums -/
theorem go_sum (f : Nat → Int32) : sumN (goN f) 49 = mcN f 0 + mcN f 1 := by
  unfold mcN
  rw [sumN_add]
  refine sumN_congr (fun s _ => ?_)
  by_cases e : f s = 0
  · have h1 : goN f s = 0 := by
      unfold goN
      rw [if_pos e]
    have h2 : sd (f s) = -1 := by
      unfold sd
      rw [if_pos e]
    rw [h1, h2, if_neg (by decide), if_neg (by decide)]
  · rcases sd_lit e with h | h
    · rw [h, if_pos rfl, if_neg (by decide)]
      omega
    · rw [h, if_neg (by decide), if_pos rfl]
      omega
theorem WN_mc {b : Nat → Int32} {g : Bool} {d : Int32} (hd : isD d) : WN b g d ≤ mcN b d := Nat.le_trans (List.length_filter_le _ _) (by rw [LMv_len hd]; exact Nat.le_refl _)
/-! the king's way -/
theorem qA_none {f : Nat → Int32} (h : kingN f = none) (t : Nat) : rd (qA f) t = none := by
  have h1 := qA_MD f
  rw [h] at h1
  rw [MD_rd h1 MD_nil t]
  rfl
theorem kmQ_none {f : Nat → Int32} (h : kingN f = none) : kmF (qA f) 49 = none := by
  rw [kmF_49, qA_none h, qA_none h, qA_none h, qA_none h]
  rfl
theorem coQ_none {f : Nat → Int32} (h : kingN f = none) : coN (qA f) = 0 := by
  rw [coN_4]
  rw [sumN_zero]
  intro i _
  rw [qA_none h]
  exact if_neg (by decide)
theorem reQ_none {f : Nat → Int32} (h : kingN f = none) : reN (qA f) = 0 := by
  unfold reN
  rw [sumN_zero]
  intro i _
  rw [qA_none h]
  exact if_pos (Or.inl rfl)
theorem coQ_le (q : List (Nat × Nat)) : coN q ≤ 4 := by
  rw [coN_4]
  refine Nat.le_trans (sumN_le (c := 1) (fun i _ => ?_)) (by decide)
  split
  · exact Nat.le_refl _
  · exact Nat.zero_le _
theorem reQ_le (f : Nat → Int32) : reN (qA f) ≤ 48 := by
  cases e : kingN f with
  | none =>
    rw [reQ_none e]
    exact Nat.zero_le _
  | some k =>
    have h1 := qA_MD f
    rw [e] at h1
    have h2 := reN_len h1
    have h3 := nodup_len 49 (qk (qA f)) h1.1 (fun x hx => by
      unfold qk at hx
      obtain ⟨e, he, rfl⟩ := List.mem_map.mp hx
      exact (h1.2.1 e he).1)
    have h4 : (qk (qA f)).length = (qA f).length := List.length_map ..
    omega
theorem pr_le (b : Nat → Int32) (k : Nat) : prN b k ≤ 4 := by
  have h0 := hostN_le b (nx k 0)
  have h1 := hostN_le b (nx k 1)
  have h2 := hostN_le b (nx k 2)
  have h3 := hostN_le b (nx k 3)
  unfold prN
  omega
/-! a move's traces -/
theorem mov_x {b : Nat → Int32} {g : Bool} {x y : Nat} : mov b g x y x = 0 := by
  unfold mov tkB
  split
  · rfl
  · exact if_pos rfl
theorem wor64 : ∀ t, t < 5 → ∀ n, n < 589 → (20 * nI t - 100 * nI n).toInt64 = 20 * (nI t).toInt64 - 100 * (nI n).toInt64 := by decide +kernel
/-! the best move -/
def BPx (b : Nat → Int32) (g : Bool) (p : Int32 × Int32) (S : Nat → Prop) : Prop := (p.1 = -1 ∧ ∀ c, ¬ S c) ∨ ∃ c0, S c0 ∧ c0 < 2401 ∧ p = (nI c0, worN b g (c0 / 49) (c0 % 49)) ∧ ∀ c, S c → worN b g (c / 49) (c % 49) < worN b g (c0 / 49) (c0 % 49) ∨ (worN b g (c / 49) (c % 49) = worN b g (c0 / 49) (c0 % 49) ∧ c0 ≤ c)
theorem BPx_step {b : Nat → Int32} {g : Bool} {p : Int32 × Int32} {S : Nat → Prop} (h : BPx b g p S) {c : Nat} (hc : c < 2401) (hS : ∀ c', S c' → c' < c) : BPx b g (bstp p c (worN b g (c / 49) (c % 49))) (fun x => S x ∨ x = c) := by
  rcases h with ⟨h1, h2⟩ | ⟨c0, h1, h2, h3, h4⟩
  · refine Or.inr ⟨c, Or.inr rfl, hc, ?_, fun c' hc' => ?_⟩
    · unfold bstp
      rw [h1, if_pos (by decide)]
    · rcases hc' with q | q
      · exact absurd q (h2 c')
      · rw [q]
        exact Or.inr ⟨rfl, Nat.le_refl _⟩
  · subst h3
    unfold bstp
    rw [if_neg (nlt0 (by omega))]
    by_cases e : worN b g (c / 49) (c % 49) ≤ worN b g (c0 / 49) (c0 % 49)
    · rw [if_pos e]
      refine Or.inr ⟨c0, Or.inl h1, h2, rfl, fun c' hc' => ?_⟩
      rcases hc' with q | q
      · exact h4 c' q
      · rw [q]
        have h5 := hS c0 h1
        by_cases e2 : worN b g (c / 49) (c % 49) = worN b g (c0 / 49) (c0 % 49)
        · exact Or.inr ⟨e2, by omega⟩
        · refine Or.inl ?_
          rw [Int32.lt_iff_toInt_lt]
          have e3 := Int32.le_iff_toInt_le.mp e
          have e4 : (worN b g (c / 49) (c % 49)).toInt ≠ (worN b g (c0 / 49) (c0 % 49)).toInt := fun z => e2 (Int32.toInt_inj.mp z)
          omega
    · rw [if_neg e]
      rw [Int32.le_iff_toInt_le] at e
      refine Or.inr ⟨c, Or.inr rfl, hc, rfl, fun c' hc' => ?_⟩
      rcases hc' with q | q
      · refine Or.inl ?_
        rw [Int32.lt_iff_toInt_lt]
        rcases h4 c' q with z | ⟨z, _⟩
        · rw [Int32.lt_iff_toInt_lt] at z
          omega
        · rw [z]
          omega
      · rw [q]
        exact Or.inr ⟨rfl, Nat.le_refl _⟩
theorem BPx_congr {b : Nat → Int32} {g : Bool} {p : Int32 × Int32} {S S' : Nat → Prop} (h : BPx b g p S) (e : ∀ c, S c ↔ S' c) : BPx b g p S' := by
  rcases h with ⟨h1, h2⟩ | ⟨c0, h1, h2, h3, h4⟩
  · exact Or.inl ⟨h1, fun c q => h2 c ((e c).mpr q)⟩
  · exact Or.inr ⟨c0, (e c0).mp h1, h2, h3, fun c q => h4 c ((e c).mpr q)⟩
theorem BPx_fo {b : Nat → Int32} {g : Bool} : ∀ (l : List Nat) (p : Int32 × Int32) (S : Nat → Prop), (∀ c ∈ l, c < 2401) → l.Pairwise (· < ·) → (∀ c', S c' → ∀ c ∈ l, c' < c) → BPx b g p S → BPx b g (bfo b g l p) (fun x => S x ∨ x ∈ l)
  | [], p, S, _, _, _, h => BPx_congr h (fun c => ⟨Or.inl, fun q => q.elim id (fun z => nomatch z)⟩)
  | c :: l, p, S, hl, hp, hS, h => by
    obtain ⟨hp1, hp2⟩ := List.pairwise_cons.mp hp
    have h1 := BPx_step h (hl c (List.mem_cons_self ..)) (fun c' q => hS c' q c (List.mem_cons_self ..))
    have h2 := BPx_fo l _ _ (fun x hx => hl x (List.mem_cons_of_mem _ hx)) hp2 (fun c' q x hx => by
      rcases q with q | q
      · exact hS c' q x (List.mem_cons_of_mem _ hx)
      · rw [q]
        exact hp1 x hx) h1
    refine BPx_congr h2 (fun x => ⟨fun q => ?_, fun q => ?_⟩)
    · rcases q with (q | q) | q
      · exact Or.inl q
      · exact Or.inr (List.mem_cons.mpr (Or.inl q))
      · exact Or.inr (List.mem_cons_of_mem _ q)
    · rcases q with q | q
      · exact Or.inl (Or.inl q)
      · rcases List.mem_cons.mp q with q | q
        · exact Or.inl (Or.inr q)
        · exact Or.inr q
theorem BM_is {b : Nat → Int32} {g : Bool} {d : Int32} (hd : isD d) (h : ¬ mcN b d = 0) : ∃ c0, c0 ∈ LMv b d ∧ BM b g d = nI c0 ∧ ∀ c ∈ LMv b d, worN b g (c / 49) (c % 49) < worN b g (c0 / 49) (c0 % 49) ∨ (worN b g (c / 49) (c % 49) = worN b g (c0 / 49) (c0 % 49) ∧ c0 ≤ c) := by
  have h1 := BPx_fo (b := b) (g := g) (LMv b d) (-1, 0) (fun _ => False) (fun c hc => LMv_lt hc) (LMv_sort b d) (fun c' q => q.elim) (Or.inl ⟨rfl, fun c q => q⟩)
  unfold BM
  have hl := LMv_len (b := b) hd
  rcases h1 with ⟨q1, q2⟩ | ⟨c0, q1, q2, q3, q4⟩
  · exfalso
    cases e : LMv b d with
    | nil =>
      rw [e] at hl
      exact h hl.symm
    | cons c l => exact q2 c (Or.inr (by rw [e]; exact List.mem_cons_self ..))
  · refine ⟨c0, q1.elim (fun z => z.elim) id, by rw [q3], fun c hc => q4 c (Or.inr hc)⟩
/-! numbers from a draw -/
theorem nI_div {n m : Nat} (hn : n < 2 ^ 31) (hm : m < 2 ^ 31) : nI n / nI m = nI (n / m) := by
  have h1 : n / m < 2 ^ 31 := Nat.lt_of_le_of_lt (Nat.div_le_self n m) hn
  apply Int32.toInt_inj.mp
  rw [Int32.toInt_div, nI_toInt hn, nI_toInt hm, nI_toInt h1, ← Int.ofNat_tdiv]
  generalize n / m = q at h1 ⊢
  rw [Int.bmod_eq_of_le (by omega) (by omega)]
theorem nI_mod {n m : Nat} (hn : n < 2 ^ 31) (hm : m < 2 ^ 31) : nI n - nI n / nI m * nI m = nI (n % m) := by
  rw [nI_div hn hm]
  have h0 := Nat.div_add_mod n m
  have h2 : n / m * m ≤ n := Nat.div_mul_le_self n m
  have h3 : n / m < 2 ^ 31 := Nat.lt_of_le_of_lt (Nat.div_le_self n m) hn
  have h4 : n % m ≤ n := Nat.mod_le n m
  have h5 : n % m + n / m * m = n := by
    rw [Nat.mul_comm]
    omega
  have h6 : nI (n / m) * nI m = nI (n / m * m) := by
    apply Int32.toInt_inj.mp
    rw [Int32.toInt_mul, nI_toInt h3, nI_toInt hm, nI_toInt (by omega), ← Int.natCast_mul, Int.bmod_eq_of_le (by omega) (by omega)]
  rw [h6]
  apply Int32.toInt_inj.mp
  rw [Int32.toInt_sub, nI_toInt hn, nI_toInt (by omega), nI_toInt (by omega), Int.bmod_eq_of_le (by omega) (by omega)]
  omega
theorem and_pos (x : Int32) : ¬ (x &&& 2147483647) < 0 := by
  rw [Int32.lt_iff_toInt_lt]
  have h0 : (0 : Int32).toInt = 0 := by decide
  rw [h0]
  have h1 : (x &&& 2147483647).toBitVec.msb = false := by
    rw [Int32.toBitVec_and, BitVec.msb_and]
    have : (2147483647 : Int32).toBitVec.msb = false := by decide
    rw [this, Bool.and_false]
  have h2 := BitVec.toInt_nonneg_of_msb_false h1
  have h3 : (x &&& 2147483647).toInt = (x &&& 2147483647).toBitVec.toInt := rfl
  omega

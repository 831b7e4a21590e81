/-! ===== the digest, on both sides ===== -/
def mx (h v : Int64) : Int64 := (31 * h) + v
theorem f_mix8 (a b : Int64) : fX8_mix a b = some (mx a b) := rfl
theorem f_mix9 (a b : Int64) : fX9_mix a b = some (mx a b) := rfl
def mxL (h : Int64) (l : List Int64) : Int64 := l.foldl mx h
theorem mxL_app (h : Int64) (a b : List Int64) : mxL h (a ++ b) = mxL (mxL h a) b := List.foldl_append
def bL (c : Bool) : Int64 := if c then 1 else 0
def hS (b : Nat → Int32) : Nat → Int64
  | 0 => 4451
  | i + 1 => mx (mx (mx (mx (hS b i) (b i).toInt64) (bL (host b i 0))) (bL (host b i 1))) (nI (goN b i)).toInt64
theorem AG_hS {b c : Nat → Int32} (h : AG b c) : ∀ i, i ≤ 49 → hS b i = hS c i
  | 0, _ => rfl
  | i + 1, hi => by
    show mx (mx (mx (mx (hS b i) (b i).toInt64) (bL (host b i 0))) (bL (host b i 1))) (nI (goN b i)).toInt64 = mx (mx (mx (mx (hS c i) (c i).toInt64) (bL (host c i 0))) (bL (host c i 1))) (nI (goN c i)).toInt64
    rw [AG_hS h i (by omega), h i (by omega), AG_host h (by omega), AG_host h (by omega), AG_goN h (by omega)]
theorem jn_ite {α β : Type} (K : α → β) (c : Prop) [Decidable c] (a b : α) : jn K (fun J => if c then J a else J b) = K (if c then a else b) := by
  unfold jn
  split <;> rfl
theorem jn_b {α β γ : Type} (K : α → Option β) (c : Prop) [Decidable c] (a : α) (X : Option γ) (g : γ → α) (v : γ) (h : ¬ c → X = some v) : jn K (fun J => if c then J a else X.bind (fun r => J (g r))) = K (if c then a else g v) := by
  show (if c then K a else X.bind (fun r => K (g r))) = _
  by_cases e : c
  · rw [if_pos e, if_pos e]
  · rw [if_neg e, if_neg e, h e]
    rfl
theorem jn_b2 {α β γ : Type} (K : α → Option β) (c : Prop) [Decidable c] (a : α) (X : Option γ) (g : γ → α) (v : γ) (h : c → X = some v) : jn K (fun J => if c then X.bind (fun r => J (g r)) else J a) = K (if c then g v else a) := by
  show (if c then X.bind (fun r => K (g r)) else K a) = _
  by_cases e : c
  · rw [if_pos e, if_pos e, h e]
    rfl
  · rw [if_neg e, if_neg e]
theorem i01 (c : Bool) : (if b01 c = 0 then (0 : Int64) else 1) = bL c := by cases c <;> rfl
theorem d_squares {f : Nat → Int32} (pb : PB f) : fX8_mixSquares f 4451 = some (hS f 49) := by
  unfold fX8_mixSquares fX8_mixSquares_L14
  refine lp_for (B := fun (zf : Int64 × Int32 → Option Int64) z => fX8_mixSquares_L14_B f (fun a b => zf (a, b)) z.1 z.2) (fun i => (hS f i, nI i)) 49 (fun i hi self => ?_) (fun self => ?_) (by omega)
  · show fX8_mixSquares_L14_B f _ (hS f i) (nI i) = _
    unfold fX8_mixSquares_L14_B
    rw [if_neg (nle (c := 49) hi (by decide)), f_at hi, f_hostileTo pb (Or.inl rfl) hi, f_hostileTo pb (Or.inr rfl) hi, f_countFrom f i hi]
    simp only [Option.bind_some, f_mix8, jn_ite, i01, nI_1]
    rfl
  · show fX8_mixSquares_L14_B f _ (hS f 49) (nI 49) = _
    unfold fX8_mixSquares_L14_B
    rw [if_pos (by decide)]
def gV (b : Nat → Int32) (g : Bool) (sn mv gm seen : Int32) : List Int64 := [(nI (cpN b 0)).toInt64, (nI (cpN b 1)).toInt64, (enc (kingN b) + 1).toInt64, bL g, sn.toInt64, if sn = 1 then (mv + 1).toInt64 else 0, gm.toInt64, seen.toInt64]
theorem s01 (g : Bool) : (if b01 g = 0 then (0 : Int64) else 1) = bL g := i01 g
theorem d_gameN (f : Nat → Int32) (g : Bool) (sn mv gm : Int32) (a : Int64) : fX8_mixGameN sn mv gm (enc (kingN f)) (b01 g) f a = some (mxL a (gV f g sn mv gm 0)) := by
  unfold fX8_mixGameN fX7_timesThereN
  rw [f_countPieces, f_countPieces]
  simp only [Option.bind_some, f_mix8, jn_ite, s01]
  rfl
theorem d_gameS (f : Nat → Int32) (g : Bool) (sn mv gm : Int32) (a : Int64) (p : HP) (t : List HP) : fX8_mixGameS sn mv gm (enc (kingN f)) (b01 g) f (newPC p t) a = some (mxL a (gV f g sn mv gm (nI (1 + occ p t)))) := by
  unfold fX8_mixGameS fX7_timesThereS newPC
  rw [f_countPieces, f_countPieces]
  simp only [Option.bind_some, f_mix8, jn_ite, s01]
  rfl
def oL (o : Option Nat) : Int64 := match o with
  | none => 0
  | some c => (nI c + 1).toInt64
def mV (b : Nat → Int32) (g : Bool) (d : Int32) : List Int64 := [(nI (mcN b d)).toInt64, (nI (mcN b d)).toInt64, (nI (WN b g d)).toInt64, oL (LMv b d)[0]?, oL (LMv b d)[(LMv b d).length - 1]?]
theorem cA_o {mf : Nat → Int32} {l : List Nat} (hl : l.length ≤ 588) : (∃ v, fX3_codeAt (nI l.length) (ap mf 0 l) 0 = some v ∧ (v + 1).toInt64 = oL l[0]?) ∧ (∃ v, fX3_codeAt (nI l.length) (ap mf 0 l) (nI l.length - 1) = some v ∧ (v + 1).toInt64 = oL l[l.length - 1]?) := by
  cases e : l with
  | nil => exact ⟨⟨-1, rfl, rfl⟩, ⟨-1, rfl, rfl⟩⟩
  | cons c t =>
    have hp : 0 < l.length := by rw [e]; exact Nat.succ_pos _
    have h0 := f_codeAt (mf := mf) hl hp
    have h1 := f_codeAt (mf := mf) (i := l.length - 1) hl (by omega)
    rw [← e]
    refine ⟨⟨nI l[0], h0, ?_⟩, ⟨nI (l[l.length - 1]'(by omega)), ?_, ?_⟩⟩
    · rw [List.getElem?_eq_getElem hp]
      rfl
    · rw [← h1]
      congr 1
      have : nI l.length = nI (l.length - 1 + 1) := by rw [show l.length - 1 + 1 = l.length by omega]
      rw [this, nI_p (by omega)]
    · rw [List.getElem?_eq_getElem (by omega : l.length - 1 < l.length)]
      rfl
theorem d_moves {f : Nat → Int32} (pb : PB f) (uk : UK f) (g : Bool) {d : Int32} (hd : isD d) (rk rs : Int32) (rf rmf mf : Nat → Int32) (a : Int64) : ∃ rf' rk' rs' rmf' rn' mf' cnt', fX8_mixMoves (enc (kingN f)) (b01 g) f rk rs rf rmf mf a d = some (mxL a (mV f g d), rf', rk', rs', rmf', rn', mf', cnt') := by
  have hlen := LMv_len (b := f) hd
  have hmc := mcN_le f d
  obtain ⟨rf', rk', rs', e8⟩ := f_countWinning rk rs rf rmf pb uk g hd
  obtain ⟨⟨v0, c0, c1⟩, ⟨v1, c2, c3⟩⟩ := cA_o (mf := mf) (l := LMv f d) (by omega)
  refine ⟨rf', rk', rs', ap rmf 0 (LMv f d), nI (LMv f d).length, ap mf 0 (LMv f d), nI (LMv f d).length, ?_⟩
  unfold fX8_mixMoves
  rw [f_countMoves, f_countArrivals f hd, e8, f_listMoves mf hd]
  simp only [Option.bind_some, f_mix8, c0, c2, c1, c3]
  rfl
def wL (o : Option Nat) : Int64 := match o with
  | none => 0
  | some t => (nI t).toInt64
theorem w_cl {o : Option Nat} (ho : ∀ t, o = some t → t < 49) : (if 0 < enc o then enc o else 0).toInt64 = wL o := by
  cases o with
  | none => rfl
  | some t =>
    have := ho t rfl
    show (if 0 < nI t then nI t else 0).toInt64 = (nI t).toInt64
    by_cases e : 0 < nI t
    · rw [if_pos e]
    · have : t = 0 := by
        rw [Int32.lt_iff_toInt_lt, nI_toInt (by omega)] at e
        have h0 : (0 : Int32).toInt = 0 := by decide
        rw [h0] at e
        omega
      rw [if_neg e, this]
      rfl
theorem w_rf {o : Option Nat} (ho : ∀ t, o = some t → t < 49) : (if enc o = -1 then 0 else (enc o).toInt64) = wL o := by
  simp only [enc_none ho]
  cases o with
  | none => rfl
  | some t => rfl
def pL (b : Nat → Int32) : Int64 := match kingN b with
  | none => 0
  | some k => (nI (prN b k) + 1).toInt64
def kV (b : Nat → Int32) (q : List (Nat × Nat)) : List Int64 := [wL (kmF q 49), wL (kmF q 49), (nI (coN q)).toInt64, (nI (reN q)).toInt64, pL b]
theorem d_uniq {b : Nat → Int32} {q r : List (Nat × Nat)} (hq : MD b (kingN b) q) (hr : MD b (kingN b) r) : kmF q 49 = kmF r 49 ∧ nI (reN q) = nI (reN r) := by
  obtain ⟨w1, e1⟩ := f_kingMoves hq b
  obtain ⟨w2, e2⟩ := f_kingMoves hr b
  obtain ⟨w3, e3⟩ := f_reach hq b
  obtain ⟨w4, e4⟩ := f_reach hr b
  rw [e1] at e2
  rw [e3] at e4
  have h1 := congrArg Prod.fst (Option.some.inj e2)
  have h2 := congrArg Prod.fst (Option.some.inj e4)
  refine ⟨?_, h2⟩
  have h1 : enc (kmF q 49) = enc (kmF r 49) := h1
  have a := kmF_lt hq 49
  have c := kmF_lt hr 49
  cases e : kmF q 49 with
  | none =>
    cases e5 : kmF r 49 with
    | none => rfl
    | some t =>
      have := c t e5
      rw [e, e5] at h1
      have h1 : (-1 : Int32) = nI t := h1
      rw [m1_nI (by omega)] at h1
      exact h1.elim
  | some s =>
    have hs := a s e
    cases e5 : kmF r 49 with
    | none =>
      rw [e, e5] at h1
      have h1 : nI s = -1 := h1
      rw [nI_m1 (by omega)] at h1
      exact h1.elim
    | some t =>
      have := c t e5
      rw [e, e5] at h1
      have h1 : nI s = nI t := h1
      rw [nI_inj (by omega) (by omega)] at h1
      rw [h1]
theorem d_king {f : Nat → Int32} (pb : PB f) (uk : UK f) (ko : KO f) (krf kqf : Nat → Int32) (a : Int64) : ∃ q k1 k2 k3, MD f (kingN f) q ∧ fX8_mixKing (enc (kingN f)) f krf kqf a = some (mxL a (kV f q), k1, k2, k3) := by
  obtain ⟨q, k1, k2, k3, hq, e1⟩ := f_byRounds krf kqf (f := f)
  obtain ⟨q2, l1, l2, l3, hq2, e2⟩ := f_byCorners k1 k2 k3 ko uk
  obtain ⟨q3, m1, m2, m3, hq3, e3⟩ := f_countReached l1 l2 (f := f)
  refine ⟨q, m1, m2, m3, hq, ?_⟩
  have u2 := (d_uniq hq hq2).1
  have u3 := (d_uniq hq hq3).2
  unfold fX8_mixKing
  rw [e1]
  simp only [Option.bind_some, f_mix8, e2, e3, f_openCorners hq]
  have hj : ∀ K : Int64 → Option (Int64 × (Nat → Int32) × (Nat → Int32) × Int32), jn K (fun J_10 => if 0 ≤ enc (kingN f) then ((fX1_countHostileBesideKing (enc (kingN f)) f).bind (fun (r_13 : Int32) => J_10 ((r_13 + 1).toInt64))) else (J_10 0)) = K (pL f) := by
    intro K
    unfold pL
    simp only [jn_eq, enc_neg king_lt]
    cases e : kingN f with
    | none => rfl
    | some k =>
      have hk := king_lt _ e
      rw [if_pos nofun, show enc (some k) = nI k from rfl, f_countHostile pb hk]
      rfl
  rw [hj, ← u2, ← u3, w_cl (kmF_lt hq 49)]
  rfl
def aV (b : Nat → Int32) (w1 w2 dg t1 t2 am sc : Int32) : List Int64 := [w1.toInt64, w2.toInt64, dg.toInt64, t1.toInt64, t2.toInt64, am.toInt64, sc.toInt64, (FP.ddiv (FP.i2d (nI (mcN b 0 + mcN b 1))) 4611686018427387904).toInt64]
theorem d_acc (f : Nat → Int32) (w1 w2 dg t1 t2 am sc : Int32) (a : Int64) : fX8_mixAccounts w1 w2 dg t1 t2 am f sc a = some (mxL a (aV f w1 w2 dg t1 t2 am sc)) := by
  have h0 := mcN_le f 0
  have h1 := mcN_le f 1
  unfold fX8_mixAccounts fX8_movesOfBoth
  simp only [f_countMoves, Option.bind_some, nI_add, (mean_bits _ (show mcN f 0 + mcN f 1 < 1177 by omega)).2, f_mix8]
  rfl
def sV (x : Int32) : Int64 := if x = 0 then 0 else 1
def txV (tf : Nat → Int32) : Nat → Nat → List Int64
  | 0, _ => []
  | n + 1, i => (tf i).toInt64 :: txV tf n (i + 1)
theorem txV_congr {tf tg : Nat → Int32} : ∀ (n i : Nat), (∀ j, i ≤ j → j < i + n → tf j = tg j) → txV tf n i = txV tg n i
  | 0, _, _ => rfl
  | n + 1, i, h => by
    show (tf i).toInt64 :: txV tf n (i + 1) = (tg i).toInt64 :: txV tg n (i + 1)
    rw [h i (Nat.le_refl _) (by omega), txV_congr n (i + 1) (fun j a b => h j (by omega) (by omega))]
def bV (s0 s1 : Int32) (t : Nat) (tf : Nat → Int32) : List Int64 := [sV s0, sV s1, (nI t).toInt64] ++ txV tf t 0
theorem d_text {tf : Nat → Int32} {len : Nat} (hl : len ≤ 60) : ∀ (d i : Nat), i + d = len → ∀ a, Runs (fun (zf : Int64 × Int32 → Option Int64) z => fX8_mixBuffer_L53_B (nI len) tf (fun a b => zf (a, b)) z.1 z.2) (d + 1) (a, nI i) (some (mxL a (txV tf d i)))
  | 0, i, h, a => by
    refine Runs.stop (fun self => ?_)
    show fX8_mixBuffer_L53_B (nI len) tf _ a (nI i) = _
    unfold fX8_mixBuffer_L53_B
    rw [if_pos (nI_le (by omega) (by omega))]
    rfl
  | d + 1, i, h, a => by
    refine Runs.step (fun self => ?_) (d_text hl d (i + 1) (by omega) (mx a (tf i).toInt64))
    show fX8_mixBuffer_L53_B (nI len) tf _ a (nI i) = _
    unfold fX8_mixBuffer_L53_B
    rw [if_neg (nI_ge (by omega) (by omega)), f_tcodeAt hl (by omega), Option.bind_some, f_mix8, Option.bind_some, nI_1]
theorem d_buf {tf skf : Nat → Int32} {len : Nat} (hl : len ≤ 60) (a : Int64) : fX8_mixBuffer skf (nI len) tf a = some (mxL a (bV (skf 0) (skf 1) len tf)) := by
  have s_S : ∀ n v i, fX8_mixBuffer_L5 skf (nI len) tf (n + 1) v i = fX8_mixBuffer_L5_B skf (nI len) tf (fX8_mixBuffer_L5 skf (nI len) tf n) v i := fun _ _ _ => rfl
  unfold fX8_mixBuffer
  rw [s_S]
  unfold fX8_mixBuffer_L5_B
  rw [if_neg (by decide), show inB 0 2 = true from rfl, grd_t, jn_ite, f_mix8, Option.bind_some, s_S]
  unfold fX8_mixBuffer_L5_B
  rw [if_neg (by decide), show inB (0 + 1) 2 = true from rfl, grd_t, jn_ite, f_mix8, Option.bind_some, s_S]
  unfold fX8_mixBuffer_L5_B
  rw [if_pos (by decide), f_mix8, Option.bind_some]
  have h := d_text (tf := tf) hl len 0 (by omega) (mx (mx (mx a (sV (skf 0))) (sV (skf 1))) (nI len).toInt64) 64 (by omega)
  unfold bV
  rw [mxL_app]
  exact h
/-- the whole of it -/
def dV (b : Nat → Int32) (g : Bool) (sn mv gm seen : Int32) (q : List (Nat × Nat)) (w1 w2 dg t1 t2 am sc s0 s1 : Int32) (t : Nat) (tf : Nat → Int32) : Int64 := mxL (hS b 49) (gV b g sn mv gm seen ++ (mV b g 0 ++ (mV b g 1 ++ (kV b q ++ (aV b w1 w2 dg t1 t2 am sc ++ bV s0 s1 t tf)))))
theorem d_digN {f : Nat → Int32} (pb : PB f) (uk : UK f) (ko : KO f) (g : Bool) (sn mv gm w1 w2 dg t1 t2 am sc rk rs : Int32) (rf rmf mf krf kqf skf tf : Nat → Int32) {len : Nat} (hl : len ≤ 60) : ∃ q r, MD f (kingN f) q ∧ fX8_digestN sn mv gm w1 w2 dg t1 t2 am (enc (kingN f)) (b01 g) f rk rs rf rmf mf krf kqf sc skf (nI len) tf = some r ∧ r.1 = dV f g sn mv gm 0 q w1 w2 dg t1 t2 am sc (skf 0) (skf 1) len tf := by
  obtain ⟨x1, x2, x3, x4, x5, x6, x7, e3⟩ := d_moves pb uk g (d := 0) (Or.inl rfl) rk rs rf rmf mf (mxL (hS f 49) (gV f g sn mv gm 0))
  obtain ⟨y1, y2, y3, y4, y5, y6, y7, e4⟩ := d_moves pb uk g (d := 1) (Or.inr rfl) x2 x3 x1 x4 x6 (mxL (mxL (hS f 49) (gV f g sn mv gm 0)) (mV f g 0))
  obtain ⟨q, k1, k2, k3, hq, e5⟩ := d_king pb uk ko krf kqf (mxL (mxL (mxL (hS f 49) (gV f g sn mv gm 0)) (mV f g 0)) (mV f g 1))
  refine ⟨q, (dV f g sn mv gm 0 q w1 w2 dg t1 t2 am sc (skf 0) (skf 1) len tf, y1, y2, y3, y4, y5, y6, y7, k1, k2, k3), hq, ?_, by dsimp only⟩
  unfold fX8_digestN dV
  rw [d_squares pb, Option.bind_some, d_gameN, Option.bind_some, e3, Option.bind_some]
  simp only [e4, e5, d_acc, d_buf hl, Option.bind_some, mxL_app]
theorem d_digS {f : Nat → Int32} (pb : PB f) (uk : UK f) (ko : KO f) (g : Bool) (sn mv gm w1 w2 dg t1 t2 am sc rk rs : Int32) (rf rmf mf krf kqf skf tf : Nat → Int32) {len : Nat} (hl : len ≤ 60) (p : HP) (t : List HP) : ∃ q r, MD f (kingN f) q ∧ fX8_digestS sn mv gm w1 w2 dg t1 t2 am (enc (kingN f)) (b01 g) f rk rs rf rmf mf krf kqf sc skf (nI len) tf (newPC p t) = some r ∧ r.1 = dV f g sn mv gm (nI (1 + occ p t)) q w1 w2 dg t1 t2 am sc (skf 0) (skf 1) len tf := by
  obtain ⟨x1, x2, x3, x4, x5, x6, x7, e3⟩ := d_moves pb uk g (d := 0) (Or.inl rfl) rk rs rf rmf mf (mxL (hS f 49) (gV f g sn mv gm (nI (1 + occ p t))))
  obtain ⟨y1, y2, y3, y4, y5, y6, y7, e4⟩ := d_moves pb uk g (d := 1) (Or.inr rfl) x2 x3 x1 x4 x6 (mxL (mxL (hS f 49) (gV f g sn mv gm (nI (1 + occ p t)))) (mV f g 0))
  obtain ⟨q, k1, k2, k3, hq, e5⟩ := d_king pb uk ko krf kqf (mxL (mxL (mxL (hS f 49) (gV f g sn mv gm (nI (1 + occ p t)))) (mV f g 0)) (mV f g 1))
  refine ⟨q, (dV f g sn mv gm (nI (1 + occ p t)) q w1 w2 dg t1 t2 am sc (skf 0) (skf 1) len tf, y1, y2, y3, y4, y5, y6, y7, k1, k2, k3), hq, ?_, by dsimp only⟩
  unfold fX8_digestS dV
  rw [d_squares pb, Option.bind_some, d_gameS, Option.bind_some, e3, Option.bind_some]
  simp only [e4, e5, d_acc, d_buf hl, Option.bind_some, mxL_app]
/-! the reference's -/
theorem d_side {row : Nat → Int32} (pb : PB row) {d : Int32} (hd : isD d) (tri : Nat → Int32) (a : Int64) : ∃ tri', fX9_sideHash row tri a d = some (mxL a (mV row (decide (row 52 = 1)) d), tri') := by
  have hlen := LMv_len (b := row) hd
  have hmc := mcN_le row d
  obtain ⟨rb', e9⟩ := f_winning tri pb d
  refine ⟨rb', ?_⟩
  unfold fX9_sideHash
  rw [f_moveCount _ pb.pos, e9]
  simp only [Option.bind_some, f_mix9]
  have z : (nI (mcN row d) = 0) = (mcN row d = 0) := nI_z (by omega)
  by_cases e : mcN row d = 0
  · have hnil : LMv row d = [] := List.eq_nil_of_length_eq_zero (by omega)
    simp only [jn_eq, z, if_pos e, Option.bind_some]
    unfold mV
    rw [hnil]
    rfl
  · have hp : 0 < (LMv row d).length := by omega
    have h0 := f_oneMove pb.pos d (i := 0) hp (by omega)
    have h1 := f_oneMove pb.pos d (i := (LMv row d).length - 1) (by omega) (by omega)
    have e1 : nI (mcN row d) - 1 = nI ((LMv row d).length - 1) := by
      rw [show mcN row d = (LMv row d).length - 1 + 1 by omega, nI_p (by omega)]
    have h0 : fX9_oneMove row d 0 = some (nI ((LMv row d)[0]'hp)) := h0
    simp only [jn_eq, z, if_neg e, e1, h1, h0, Option.bind_some]
    unfold mV
    rw [List.getElem?_eq_getElem hp, List.getElem?_eq_getElem (by omega : (LMv row d).length - 1 < (LMv row d).length)]
    rfl
set_option maxRecDepth 100000 in
theorem mean_long : ∀ n, n < 1177 → fJxe99ae_doubleToLongBits_ccdee (FP.ddiv (FP.i2d (nI n)) 4611686018427387904) = some (FP.ddiv (FP.i2d (nI n)) 4611686018427387904).toInt64 := by decide +kernel
theorem d_text9 {tf : Nat → Int32} {len : Nat} (hl : len ≤ 60) (r22 : Int64 × (Nat → Int32)) (r31 : Int32 × (Nat → Int32)) : ∀ (d i : Nat), i + d = len → ∀ a, Runs (fun (zf : Int64 × Int32 → Option (Int64 × Int32 × (Nat → Int32) × (Nat → Int32))) z => fX9_digest_L453_B (nI len) tf r22 r31 (fun a b => zf (a, b)) z.1 z.2) (d + 1) (a, nI i) (some (mxL a (txV tf d i), 0, r22.2, r31.2))
  | 0, i, h, a => by
    refine Runs.stop (fun self => ?_)
    show fX9_digest_L453_B (nI len) tf r22 r31 _ a (nI i) = _
    unfold fX9_digest_L453_B
    rw [if_pos (nI_le (by omega) (by omega))]
    rfl
  | d + 1, i, h, a => by
    refine Runs.step (fun self => ?_) (d_text9 hl r22 r31 d (i + 1) (by omega) (mx a (tf i).toInt64))
    show fX9_digest_L453_B (nI len) tf r22 r31 _ a (nI i) = _
    unfold fX9_digest_L453_B
    rw [if_neg (nI_ge (by omega) (by omega)), inB_t (by omega) (by decide), grd_t, nI_clamp (by omega), f_mix9, Option.bind_some, nI_1]
theorem b_52 {row : Nat → Int32} (h : row 52 = b01 (decide (row 52 = 1))) : (row 52).toInt64 = bL (decide (row 52 = 1)) := by
  rw [h]
  cases decide (row 52 = 1) <;> rfl
set_option maxHeartbeats 4000000 in
theorem d_dig9 {row : Nat → Int32} (pb : PB row) (h52 : row 52 = b01 (decide (row 52 = 1))) {q : List (Nat × Nat)} (hq : MD row (kingN row) q) {seen : Int32} {F L : Nat → Int64} {B : Nat → Int32} (hsn : if row 50 = 0 then seen = 0 else fX9_seen F L B row = some seen) (nst : Int32) {len : Nat} (hl : len ≤ 60) (tri wy isk tf : Nat → Int32) : ∃ tri' wy', fX9_digest nst (nI len) row tri wy isk F L B tf = some (dV row (decide (row 52 = 1)) (row 50) (row 49) (row 53) seen q (row 55) (row 56) (row 57) (row 58) (row 59) (row 54) nst (isk 0) (isk 1) len tf, 0, tri', wy') := by
  have m0 := mcN_le row 0
  have m1 := mcN_le row 1
  obtain ⟨wk, ek⟩ := f_kingMoves hq wy
  obtain ⟨tr1, es0⟩ := d_side pb (Or.inl rfl) tri (mxL (hS row 49) (gV row (decide (row 52 = 1)) (row 50) (row 49) (row 53) seen))
  obtain ⟨tr2, es1⟩ := d_side pb (Or.inr rfl) tr1 (mxL (mxL (hS row 49) (gV row (decide (row 52 = 1)) (row 50) (row 49) (row 53) seen)) (mV row (decide (row 52 = 1)) 0))
  obtain ⟨wc, ec⟩ := f_corners hq wk
  obtain ⟨wr, er⟩ := f_reach hq wc
  refine ⟨tr2, wr, ?_⟩
  have hseen : ¬ row 50 = 0 → fX9_seen F L B row = some seen := fun e => by
    rw [if_neg e] at hsn
    exact hsn
  have hsv : (if row 50 = 0 then (0 : Int64) else seen.toInt64) = seen.toInt64 := by
    by_cases e : row 50 = 0
    · rw [if_pos e] at hsn ⊢
      rw [hsn]
      rfl
    · rw [if_neg e]
  have hpr : ¬ enc (kingN row) = -1 → ∃ k, kingN row = some k := fun e => by
    cases e2 : kingN row with
    | none => exact absurd (by rw [e2]; rfl) e
    | some k => exact ⟨k, rfl⟩
  have hfin : fX9_digest_L11 nst (nI len) row tri wy isk F L B tf 64 (hS row 0) (nI 0) = some (dV row (decide (row 52 = 1)) (row 50) (row 49) (row 53) seen q (row 55) (row 56) (row 57) (row 58) (row 59) (row 54) nst (isk 0) (isk 1) len tf, 0, tr2, wr) := by
    refine lp_for (B := fun (zf : Int64 × Int32 → Option (Int64 × Int32 × (Nat → Int32) × (Nat → Int32))) z => fX9_digest_L11_B nst (nI len) row tri wy isk F L B tf (fun a b => zf (a, b)) z.1 z.2) (fun i => (hS row i, nI i)) 49 (fun i hi self => ?_) (fun self => ?_) (by omega)
    · show fX9_digest_L11_B nst (nI len) row tri wy isk F L B tf _ (hS row i) (nI i) = _
      unfold fX9_digest_L11_B
      rw [if_neg (nle (c := 49) hi (by decide)), inB_t (by omega) (by decide), grd_t, nI_clamp (by omega), f_hostile pb hi, f_hostile pb hi, f_goals row pb.pos i hi]
      simp only [Option.bind_some, f_mix9, jn_ite, i01, nI_1]
      rfl
    · show fX9_digest_L11_B nst (nI len) row tri wy isk F L B tf _ (hS row 49) (nI 49) = _
      unfold fX9_digest_L11_B
      rw [if_pos (by decide)]
      simp only [show inB 49 61 = true from rfl, show inB 50 61 = true from rfl, show inB 52 61 = true from rfl, show inB 53 61 = true from rfl, show inB 54 61 = true from rfl, show inB 55 61 = true from rfl, show inB 56 61 = true from rfl, show inB 57 61 = true from rfl, show inB 58 61 = true from rfl, show inB 59 61 = true from rfl, show inB 0 2 = true from rfl, show inB 1 2 = true from rfl, show (49 : Int32).toNatClampNeg = 49 from rfl, show (50 : Int32).toNatClampNeg = 50 from rfl, show (52 : Int32).toNatClampNeg = 52 from rfl, show (53 : Int32).toNatClampNeg = 53 from rfl, show (54 : Int32).toNatClampNeg = 54 from rfl, show (55 : Int32).toNatClampNeg = 55 from rfl, show (56 : Int32).toNatClampNeg = 56 from rfl, show (57 : Int32).toNatClampNeg = 57 from rfl, show (58 : Int32).toNatClampNeg = 58 from rfl, show (59 : Int32).toNatClampNeg = 59 from rfl, show (0 : Int32).toNatClampNeg = 0 from rfl, show (1 : Int32).toNatClampNeg = 1 from rfl, f_king, ek, f_count, f_mix9, grd_t, Option.bind_some]
      rw [jn_ite]
      try simp only [f_mix9, Option.bind_some]
      rw [jn_b _ _ _ _ (fun r : Int32 => r.toInt64) seen hseen, hsv, b_52 h52]
      try simp only [f_mix9, Option.bind_some]
      rw [show mx (mx (mx (mx (mx (mx (mx (mx (hS row 49) (nI (cpN row 0)).toInt64) (nI (cpN row 1)).toInt64) (enc (kingN row) + 1).toInt64) (bL (decide (row 52 = 1)))) (row 50).toInt64) (if row 50 = 1 then (row 49 + 1).toInt64 else 0)) (row 53).toInt64) seen.toInt64 = mxL (hS row 49) (gV row (decide (row 52 = 1)) (row 50) (row 49) (row 53) seen) from rfl, es0, Option.bind_some, es1, Option.bind_some]
      rw [jn_ite, w_rf (kmF_lt hq 49)]
      try simp only [f_mix9, Option.bind_some]
      rw [jn_ite, w_rf (kmF_lt hq 49)]
      try simp only [f_mix9, Option.bind_some, ec, er]
      have hj : ∀ K : Int64 → Option (Int64 × Int32 × (Nat → Int32) × (Nat → Int32)), jn K (fun J_34 => if enc (kingN row) = (-1) then (J_34 0) else ((fX9_pressure row).bind (fun (r_61 : Int32) => J_34 ((r_61 + 1).toInt64)))) = K (pL row) := by
        intro K
        unfold pL
        simp only [jn_eq, enc_none king_lt]
        cases e : kingN row with
        | none => rfl
        | some k =>
          rw [if_neg nofun, f_pressure pb e]
          rfl
      rw [hj]
      try simp only [f_mix9, Option.bind_some, f_mean pb, mean_long _ (show mcN row 0 + mcN row 1 < 1177 by omega)]
      rw [jn_ite]
      try simp only [f_mix9, Option.bind_some]
      rw [jn_ite]
      try simp only [f_mix9, Option.bind_some]
      unfold dV bV
      simp only [mxL_app]
      exact d_text9 (tf := tf) hl _ _ len 0 (by omega) _ 64 (by omega)
  exact hfin

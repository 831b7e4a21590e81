/-! ===== the digest, on both sides ===== -/
def mx (h v : Int64) : Int64 := (31 * h) + v
theorem f_mix8 (a b : Int64) : fX8_mix a b = some (mx a b) := rfl
def mxL (h : Int64) (l : List Int64) : Int64 := l.foldl mx h
theorem mxL_app (h : Int64) (a b : List Int64) : mxL h (a ++ b) = mxL (mxL h a) b := List.foldl_append
def bL (c : Bool) : Int64 := if c then 1 else 0
def hS (b : Nat → Int32) : Nat → Int64
  | 0 => 4451
  | i + 1 => mx (mx (mx (mx (hS b i) (b i).toInt64) (bL (host b i 0))) (bL (host b i 1))) (nI (goN b i)).toInt64
theorem AG_hS {b c : Nat → Int32} (h : AG b c) : ∀ i, i ≤ 49 → hS b i = hS c i
  | 0, _ => rfl
  | i + 1, hi => by
    show mx (mx (mx (mx (hS b i) (b i).toInt64) (bL (host b i 0))) (bL (host b i 1))) (nI (goN b i)).toInt64 = mx (mx (mx (mx (hS c i) (c i).toInt64) (bL (host c i 0))) (bL (host c i 1))) (nI (goN c i)).toInt64
    rw [AG_hS h i (by omega), h i (by omega), AG_host h (by omega), AG_host h (by omega), AG_goN h (by omega)]
theorem jn_ite {α β : Type} (K : α → β) (c : Prop) [Decidable c] (a b : α) : jn K (fun J => if c then J a else J b) = K (if c then a else b) := by
  unfold jn
  split <;> rfl
theorem jn_b {α β γ : Type} (K : α → Option β) (c : Prop) [Decidable c] (a : α) (X : Option γ) (g : γ → α) (v : γ) (h : ¬ c → X = some v) : jn K (fun J => if c then J a else X.bind (fun r => J (g r))) = K (if c then a else g v) := by
  show (if c then K a else X.bind (fun r => K (g r))) = _
  by_cases e : c
  · rw [if_pos e, if_pos e]
  · rw [if_neg e, if_neg e, h e]
    rfl
theorem jn_b2 {α β γ : Type} (K : α → Option β) (c : Prop) [Decidable c] (a : α) (X : Option γ) (g : γ → α) (v : γ) (h : c → X = some v) : jn K (fun J => if c then X.bind (fun r => J (g r)) else J a) = K (if c then g v else a) := by
  show (if c then X.bind (fun r => K (g r)) else K a) = _
  by_cases e : c
  · rw [if_pos e, if_pos e, h e]
    rfl
  · rw [if_neg e, if_neg e]
theorem i01 (c : Bool) : (if b01 c = 0 then (0 : Int64) else 1) = bL c := by cases c <;> rfl
theorem d_squares {f : Nat → Int32} (pb : PB f) : fX8_mixSquares f 4451 = some (hS f 49) := by
  unfold fX8_mixSquares fX8_mixSquares_L14
  refine lp_for (B := fun (zf : Int64 × Int32 → Option Int64) z => fX8_mixSquares_L14_B f (fun a b => zf (a, b)) z.1 z.2) (fun i => (hS f i, nI i)) 49 (fun i hi self => ?_) (fun self => ?_) (by omega)
  · show fX8_mixSquares_L14_B f _ (hS f i) (nI i) = _
    unfold fX8_mixSquares_L14_B
    rw [if_neg (nle (c := 49) hi (by decide)), f_at hi, f_hostileTo pb (Or.inl rfl) hi, f_hostileTo pb (Or.inr rfl) hi, f_countFrom f i hi]
    simp only [Option.bind_some, f_mix8, jn_ite, i01, nI_1]
    rfl
  · show fX8_mixSquares_L14_B f _ (hS f 49) (nI 49) = _
    unfold fX8_mixSquares_L14_B
    rw [if_pos (by decide)]
def gV (b : Nat → Int32) (g : Bool) (sn mv gm seen : Int32) : List Int64 := [(nI (cpN b 0)).toInt64, (nI (cpN b 1)).toInt64, (enc (kingN b) + 1).toInt64, bL g, sn.toInt64, if sn = 1 then (mv + 1).toInt64 else 0, gm.toInt64, seen.toInt64]
theorem s01 (g : Bool) : (if b01 g = 0 then (0 : Int64) else 1) = bL g := i01 g
theorem d_gameN (f : Nat → Int32) (g : Bool) (sn mv gm : Int32) (a : Int64) : fX8_mixGameN sn mv gm (enc (kingN f)) (b01 g) f a = some (mxL a (gV f g sn mv gm 0)) := by
  unfold fX8_mixGameN fX7_timesThereN
  rw [f_countPieces, f_countPieces]
  simp only [Option.bind_some, f_mix8, jn_ite, s01]
  rfl
theorem d_gameS (f : Nat → Int32) (g : Bool) (sn mv gm : Int32) (a : Int64) (p : HP) (t : List HP) : fX8_mixGameS sn mv gm (enc (kingN f)) (b01 g) f (newPC p t) a = some (mxL a (gV f g sn mv gm (nI (1 + occ p t)))) := by
  unfold fX8_mixGameS fX7_timesThereS newPC
  rw [f_countPieces, f_countPieces]
  simp only [Option.bind_some, f_mix8, jn_ite, s01]
  rfl
def oL (o : Option Nat) : Int64 := match o with
  | none => 0
  | some c => (nI c + 1).toInt64
def mV (b : Nat → Int32) (g : Bool) (d : Int32) : List Int64 := [(nI (mcN b d)).toInt64, (nI (mcN b d)).toInt64, (nI (WN b g d)).toInt64, oL (LMv b d)[0]?, oL (LMv b d)[(LMv b d).length - 1]?]
theorem cA_o {mf : Nat → Int32} {l : List Nat} (hl : l.length ≤ 588) : (∃ v, fX3_codeAt (nI l.length) (ap mf 0 l) 0 = some v ∧ (v + 1).toInt64 = oL l[0]?) ∧ (∃ v, fX3_codeAt (nI l.length) (ap mf 0 l) (nI l.length - 1) = some v ∧ (v + 1).toInt64 = oL l[l.length - 1]?) := by
  cases e : l with
  | nil => exact ⟨⟨-1, rfl, rfl⟩, ⟨-1, rfl, rfl⟩⟩
  | cons c t =>
    have hp : 0 < l.length := by rw [e]; exact Nat.succ_pos _
    have h0 := f_codeAt (mf := mf) hl hp
    have h1 := f_codeAt (mf := mf) (i := l.length - 1) hl (by omega)
    rw [← e]
    refine ⟨⟨nI l[0], h0, ?_⟩, ⟨nI (l[l.length - 1]'(by omega)), ?_, ?_⟩⟩
    · rw [List.getElem?_eq_getElem hp]
      rfl
    · rw [← h1]
      congr 1
      have : nI l.length = nI (l.length - 1 + 1) := by rw [show l.length - 1 + 1 = l.length by omega]
      rw [this, nI_p (by omega)]
    · rw [List.getElem?_eq_getElem (by omega : l.length - 1 < l.length)]
      rfl
theorem d_moves {f : Nat → Int32} (pb : PB f) (uk : UK f) (g : Bool) {d : Int32} (hd : isD d) (rk rs : Int32) (rf rmf mf : Nat → Int32) (a : Int64) : ∃ rf' rk' rs' rmf' rn' mf' cnt', fX8_mixMoves (enc (kingN f)) (b01 g) f rk rs rf rmf mf a d = some (mxL a (mV f g d), rf', rk', rs', rmf', rn', mf', cnt') := by
  have hlen := LMv_len (b := f) hd
  have hmc := mcN_le f d
  obtain ⟨rf', rk', rs', e8⟩ := f_countWinning rk rs rf rmf pb uk g hd
  obtain ⟨⟨v0, c0, c1⟩, ⟨v1, c2, c3⟩⟩ := cA_o (mf := mf) (l := LMv f d) (by omega)
  refine ⟨rf', rk', rs', ap rmf 0 (LMv f d), nI (LMv f d).length, ap mf 0 (LMv f d), nI (LMv f d).length, ?_⟩
  unfold fX8_mixMoves
  rw [f_countMoves, f_countArrivals f hd, e8, f_listMoves mf hd]
  simp only [Option.bind_some, f_mix8, c0, c2, c1, c3]
  rfl
def wL (o : Option Nat) : Int64 := match o with
  | none => 0
  | some t => (nI t).toInt64
theorem w_cl {o : Option Nat} (ho : ∀ t, o = some t → t < 49) : (if 0 < enc o then enc o else 0).toInt64 = wL o := by
  cases o with
  | none => rfl
  | some t =>
    have := ho t rfl
    show (if 0 < nI t then nI t else 0).toInt64 = (nI t).toInt64
    by_cases e : 0 < nI t
    · rw [if_pos e]
    · have : t = 0 := by
        rw [Int32.lt_iff_toInt_lt, nI_toInt (by omega)] at e
        have h0 : (0 : Int32).toInt = 0 := by decide
        rw [h0] at e
        omega
      rw [if_neg e, this]
      rfl
theorem w_rf {o : Option Nat} (ho : ∀ t, o = some t → t < 49) : (if enc o = -1 then 0 else (enc o).toInt64) = wL o := by
  simp only [enc_none ho]
  cases o with
  | none => rfl
  | some t => rfl
def pL (b : Nat → Int32) : Int64 := match kingN b with
  | none => 0
  | some k => (nI (prN b k) + 1).toInt64
def kV (b : Nat → Int32) (q : List (Nat × Nat)) : List Int64 := [wL (kmF q 49), wL (kmF q 49), (nI (coN q)).toInt64, (nI (reN q)).toInt64, pL b]
def sV (x : Int32) : Int64 := if x = 0 then 0 else 1
def txV (tf : Nat → Int32) : Nat → Nat → List Int64
  | 0, _ => []
  | n + 1, i => (tf i).toInt64 :: txV tf n (i + 1)
theorem txV_congr {tf tg : Nat → Int32} : ∀ (n i : Nat), (∀ j, i ≤ j → j < i + n → tf j = tg j) → txV tf n i = txV tg n i
  | 0, _, _ => rfl
  | n + 1, i, h => by
    show (tf i).toInt64 :: txV tf n (i + 1) = (tg i).toInt64 :: txV tg n (i + 1)
    rw [h i (Nat.le_refl _) (by omega), txV_congr n (i + 1) (fun j a b => h j (by omega) (by omega))]
def bV (s0 s1 : Int32) (t : Nat) (tf : Nat → Int32) : List Int64 := [sV s0, sV s1, (nI t).toInt64] ++ txV tf t 0
theorem d_text {tf : Nat → Int32} {len : Nat} (hl : len ≤ 60) : ∀ (d i : Nat), i + d = len → ∀ a, Runs (fun (zf : Int64 × Int32 → Option Int64) z => fX8_mixBuffer_L53_B (nI len) tf (fun a b => zf (a, b)) z.1 z.2) (d + 1) (a, nI i) (some (mxL a (txV tf d i)))
  | 0, i, h, a => by
    refine Runs.stop (fun self => ?_)
    show fX8_mixBuffer_L53_B (nI len) tf _ a (nI i) = _
    unfold fX8_mixBuffer_L53_B
    rw [if_pos (nI_le (by omega) (by omega))]
    rfl
  | d + 1, i, h, a => by
    refine Runs.step (fun self => ?_) (d_text hl d (i + 1) (by omega) (mx a (tf i).toInt64))
    show fX8_mixBuffer_L53_B (nI len) tf _ a (nI i) = _
    unfold fX8_mixBuffer_L53_B
    rw [if_neg (nI_ge (by omega) (by omega)), f_tcodeAt hl (by omega), Option.bind_some, f_mix8, Option.bind_some, nI_1]
theorem d_buf {tf skf : Nat → Int32} {len : Nat} (hl : len ≤ 60) (a : Int64) : fX8_mixBuffer skf (nI len) tf a = some (mxL a (bV (skf 0) (skf 1) len tf)) := by
  have s_S : ∀ n v i, fX8_mixBuffer_L5 skf (nI len) tf (n + 1) v i = fX8_mixBuffer_L5_B skf (nI len) tf (fX8_mixBuffer_L5 skf (nI len) tf n) v i := fun _ _ _ => rfl
  unfold fX8_mixBuffer
  rw [s_S]
  unfold fX8_mixBuffer_L5_B
  rw [if_neg (by decide), show inB 0 2 = true from rfl, grd_t, jn_ite, f_mix8, Option.bind_some, s_S]
  unfold fX8_mixBuffer_L5_B
  rw [if_neg (by decide), show inB (0 + 1) 2 = true from rfl, grd_t, jn_ite, f_mix8, Option.bind_some, s_S]
  unfold fX8_mixBuffer_L5_B
  rw [if_pos (by decide), f_mix8, Option.bind_some]
  have h := d_text (tf := tf) hl len 0 (by omega) (mx (mx (mx a (sV (skf 0))) (sV (skf 1))) (nI len).toInt64) 64 (by omega)
  unfold bV
  rw [mxL_app]
  exact h
/-! the reference's -/
theorem b_52 {row : Nat → Int32} (h : row 52 = b01 (decide (row 52 = 1))) : (row 52).toInt64 = bL (decide (row 52 = 1)) := by
  rw [h]
  cases decide (row 52 = 1) <;> rfl
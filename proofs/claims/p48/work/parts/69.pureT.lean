/-! ===== pure part T: a position's numbers ===== -/
def pkF (b : Nat → Int32) : Nat → Nat → Int64 → Int64
  | 0, _, v => v
  | n + 1, s, v => pkF b n (s + 1) ((v <<< ((2 : Int32).toInt64 &&& 63)) ||| (b s).toInt64)
theorem f_pack (f : Nat → Int32) {a n : Nat} (h : a + n ≤ 49) : fX5_pack f (nI a) (nI (a + n)) = some (pkF f n a 0) := by
  have key : ∀ (m s : Nat), s + m = a + n → ∀ v, Runs (fun (zf : Int64 × Int32 → Option Int64) z => fX5_pack_L5_B f (nI (a + n)) (fun v3 v5 => zf (v3, v5)) z.1 z.2) (m + 1) (v, nI s) (some (pkF f m s v)) := by
    intro m
    induction m with
    | zero =>
      intro s hs v
      refine Runs.stop (fun self => ?_)
      show fX5_pack_L5_B f (nI (a + n)) _ v (nI s) = _
      unfold fX5_pack_L5_B
      rw [if_pos (nI_le (by omega) (by omega))]
      rfl
    | succ m ih =>
      intro s hs v
      refine Runs.step (fun self => ?_) (ih (s + 1) (by omega) _)
      show fX5_pack_L5_B f (nI (a + n)) _ v (nI s) = _
      unfold fX5_pack_L5_B
      rw [if_neg (nI_ge (by omega) (by omega)), f_at (by omega), Option.bind_some, bnd_eq, nI_1]
  exact key n a rfl 0 64 (by omega)
theorem AG_pkF {b c : Nat → Int32} (h : AG b c) : ∀ (n s : Nat), s + n ≤ 49 → ∀ v, pkF b n s v = pkF c n s v
  | 0, _, _, _ => rfl
  | n + 1, s, hs, v => by
    show pkF b n (s + 1) _ = pkF c n (s + 1) _
    rw [h s (by omega), AG_pkF h n (s + 1) (by omega)]
def uN (x : Int64) : Nat := x.toBitVec.toNat
theorem uN_inj {x y : Int64} (h : uN x = uN y) : x = y := Int64.toBitVec_inj.mp (BitVec.eq_of_toNat_eq h)
def pn (p : Int32) : Nat := if p = 0 then 0 else if p = 1 then 1 else if p = 2 then 2 else 3
theorem pn_lt (p : Int32) : pn p < 4 := by
  unfold pn
  split
  · decide
  split
  · decide
  split <;> decide
theorem pn_inj {p q : Int32} (hp : p = 0 ∨ p = 1 ∨ p = 2 ∨ p = 3) (hq : q = 0 ∨ q = 1 ∨ q = 2 ∨ q = 3) (h : pn p = pn q) : p = q := by
  rcases hp with hp | hp | hp | hp <;> rcases hq with hq | hq | hq | hq <;> subst hp <;> subst hq <;> first | rfl | exact absurd h (by decide)
theorem uN_p {p : Int32} (hp : p = 0 ∨ p = 1 ∨ p = 2 ∨ p = 3) : uN p.toInt64 = pn p := by
  rcases hp with hp | hp | hp | hp <;> subst hp <;> decide
theorem uN_step {v : Int64} {p : Int32} (hv : uN v < 2 ^ 62) (hp : p = 0 ∨ p = 1 ∨ p = 2 ∨ p = 3) : uN ((v <<< ((2 : Int32).toInt64 &&& 63)) ||| p.toInt64) = 4 * uN v + pn p := by
  have h1 : uN (v <<< ((2 : Int32).toInt64 &&& 63)) = uN v <<< 2 := by
    unfold uN at hv ⊢
    rw [Int64.toBitVec_shiftLeft]
    have e : (((2 : Int32).toInt64 &&& 63).toBitVec.smod 64) = 2#64 := by decide
    rw [e]
    show (v.toBitVec <<< (2#64).toNat).toNat = _
    rw [BitVec.toNat_shiftLeft]
    show v.toBitVec.toNat <<< 2 % 2 ^ 64 = _
    rw [Nat.mod_eq_of_lt]
    rw [Nat.shiftLeft_eq]
    omega
  have h2 : uN ((v <<< ((2 : Int32).toInt64 &&& 63)) ||| p.toInt64) = uN (v <<< ((2 : Int32).toInt64 &&& 63)) ||| uN p.toInt64 := by
    unfold uN
    rw [Int64.toBitVec_or, BitVec.toNat_or]
  rw [h2, h1, uN_p hp, ← Nat.shiftLeft_add_eq_or_of_lt (show pn p < 2 ^ 2 from pn_lt p), Nat.shiftLeft_eq]
  omega
def pkN (b : Nat → Int32) : Nat → Nat → Nat → Nat
  | 0, _, v => v
  | n + 1, s, v => pkN b n (s + 1) (4 * v + pn (b s))
theorem pkN_lt (b : Nat → Int32) : ∀ (n s v k : Nat), v < 4 ^ k → pkN b n s v < 4 ^ (k + n)
  | 0, _, _, _, h => h
  | n + 1, s, v, k, h => by
    have := pkN_lt b n (s + 1) (4 * v + pn (b s)) (k + 1) (by
      have := pn_lt (b s)
      rw [Nat.pow_succ]
      omega)
    rw [show k + (n + 1) = k + 1 + n by omega]
    exact this
theorem pkF_uN {b : Nat → Int32} (hb : PB b) : ∀ (n s : Nat), s + n ≤ 49 → ∀ (v : Int64) (k : Nat), uN v < 4 ^ k → k + n ≤ 31 → uN (pkF b n s v) = pkN b n s (uN v)
  | 0, _, _, _, _, _, _ => rfl
  | n + 1, s, hs, v, k, hv, hk => by
    have h4 : uN v < 2 ^ 62 := Nat.lt_of_lt_of_le hv (by
      rw [show (4 : Nat) = 2 ^ 2 from rfl, ← Nat.pow_mul]
      exact Nat.pow_le_pow_right (by decide) (by omega))
    have h5 := uN_step h4 (hb s (by omega))
    have := pkF_uN hb n (s + 1) (by omega) ((v <<< ((2 : Int32).toInt64 &&& 63)) ||| (b s).toInt64) (k + 1) (by
      have := pn_lt (b s)
      rw [h5, Nat.pow_succ]
      omega) (by omega)
    show uN (pkF b n (s + 1) _) = pkN b n (s + 1) (4 * uN v + pn (b s))
    rw [this, h5]
theorem pkN_inj {b c : Nat → Int32} (hb : PB b) (hc : PB c) : ∀ (n s : Nat), s + n ≤ 49 → ∀ v w, pkN b n s v = pkN c n s w → v = w ∧ ∀ i, i < n → b (s + i) = c (s + i)
  | 0, _, _, _, _, h => ⟨h, fun i hi => absurd hi (by omega)⟩
  | n + 1, s, hs, v, w, h => by
    obtain ⟨h1, h2⟩ := pkN_inj hb hc n (s + 1) (by omega) _ _ h
    have h3 := pn_lt (b s)
    have h4 := pn_lt (c s)
    refine ⟨by omega, fun i hi => ?_⟩
    by_cases e : i = 0
    · subst e
      show b s = c s
      exact pn_inj (hb s (by omega)) (hc s (by omega)) (by omega)
    · have := h2 (i - 1) (by omega)
      rw [show s + 1 + (i - 1) = s + i by omega] at this
      exact this
theorem pkF_inj {b c : Nat → Int32} (hb : PB b) (hc : PB c) {n s : Nat} (hs : s + n ≤ 49) (hn : n ≤ 31) (h : pkF b n s 0 = pkF c n s 0) : ∀ i, i < n → b (s + i) = c (s + i) := by
  have h0 : uN 0 < 4 ^ 0 := by decide
  have h1 := congrArg uN h
  rw [pkF_uN hb n s hs 0 0 h0 (by omega), pkF_uN hc n s hs 0 0 h0 (by omega)] at h1
  exact (pkN_inj hb hc n s hs _ _ h1).2
/-- the class's numbers of a position; the reference's -/
def cpos (b : Nat → Int32) (d : Int32) : Int64 × Int64 × Int32 := (pkF b 25 0 0, pkF b 24 25 0, d)
def rpos (b : Nat → Int32) (d : Int32) : Int64 × Int64 := (pkF b 31 0 0, (pkF b 18 31 0 <<< ((1 : Int32).toInt64 &&& 63)) ||| d.toInt64)
theorem cpos_eq {b c : Nat → Int32} (hb : PB b) (hc : PB c) {d e : Int32} : (cpos b d = cpos c e) = (AG b c ∧ d = e) := by
  rw [eq_iff_iff]
  constructor
  · intro h
    have h1 := pkF_inj hb hc (n := 25) (s := 0) (by decide) (by decide) (congrArg Prod.fst h)
    have h2 := pkF_inj hb hc (n := 24) (s := 25) (by decide) (by decide) (congrArg (fun z => z.2.1) h)
    refine ⟨fun s hs => ?_, congrArg (fun z => z.2.2) h⟩
    by_cases e : s < 25
    · have := h1 s e
      rw [Nat.zero_add] at this
      exact this
    · have := h2 (s - 25) (by omega)
      rw [show 25 + (s - 25) = s by omega] at this
      exact this
  · rintro ⟨h, rfl⟩
    unfold cpos
    rw [AG_pkF h 25 0 (by decide), AG_pkF h 24 25 (by decide)]
theorem uN_1 {v : Int64} {d : Int32} (hv : uN v < 2 ^ 62) (hd : isD d) : uN ((v <<< ((1 : Int32).toInt64 &&& 63)) ||| d.toInt64) = 2 * uN v + pn d := by
  have h1 : uN (v <<< ((1 : Int32).toInt64 &&& 63)) = uN v <<< 1 := by
    unfold uN at hv ⊢
    rw [Int64.toBitVec_shiftLeft]
    have e : (((1 : Int32).toInt64 &&& 63).toBitVec.smod 64) = 1#64 := by decide
    rw [e]
    show (v.toBitVec <<< (1#64).toNat).toNat = _
    rw [BitVec.toNat_shiftLeft]
    show v.toBitVec.toNat <<< 1 % 2 ^ 64 = _
    rw [Nat.mod_eq_of_lt]
    rw [Nat.shiftLeft_eq]
    omega
  have h2 : uN ((v <<< ((1 : Int32).toInt64 &&& 63)) ||| d.toInt64) = uN (v <<< ((1 : Int32).toInt64 &&& 63)) ||| uN d.toInt64 := by
    unfold uN
    rw [Int64.toBitVec_or, BitVec.toNat_or]
  have h3 : pn d < 2 ^ 1 := by rcases hd with h | h <;> rw [h] <;> decide
  rw [h2, h1, uN_p (by rcases hd with h | h <;> simp [h]), ← Nat.shiftLeft_add_eq_or_of_lt h3, Nat.shiftLeft_eq]
  omega
theorem rpos_eq {b c : Nat → Int32} (hb : PB b) (hc : PB c) {d e : Int32} (hd : isD d) (he : isD e) : (rpos b d = rpos c e) = (AG b c ∧ d = e) := by
  rw [eq_iff_iff]
  have h0 : uN 0 < 4 ^ 0 := by decide
  have sm : ∀ {b : Nat → Int32}, PB b → uN (pkF b 18 31 0) < 2 ^ 62 := fun {b} hb => by
    rw [pkF_uN hb 18 31 (by decide) 0 0 h0 (by decide)]
    exact Nat.lt_of_lt_of_le (pkN_lt b 18 31 _ 0 (by decide)) (by decide)
  constructor
  · intro h
    have h1 := pkF_inj hb hc (n := 31) (s := 0) (by decide) (by decide) (congrArg Prod.fst h)
    have h2 := congrArg (fun z => uN z.2) h
    have h2 : uN ((pkF b 18 31 0 <<< ((1 : Int32).toInt64 &&& 63)) ||| d.toInt64) = uN ((pkF c 18 31 0 <<< ((1 : Int32).toInt64 &&& 63)) ||| e.toInt64) := h2
    rw [uN_1 (sm hb) hd, uN_1 (sm hc) he] at h2
    have hd2 : pn d < 2 := by rcases hd with h | h <;> rw [h] <;> decide
    have he2 : pn e < 2 := by rcases he with h | h <;> rw [h] <;> decide
    have h3 := pkF_inj hb hc (n := 18) (s := 31) (by decide) (by decide) (uN_inj (by omega))
    refine ⟨fun s hs => ?_, pn_inj (by rcases hd with h | h <;> simp [h]) (by rcases he with h | h <;> simp [h]) (by omega)⟩
    by_cases e : s < 31
    · have := h1 s e
      rw [Nat.zero_add] at this
      exact this
    · have := h3 (s - 31) (by omega)
      rw [show 31 + (s - 31) = s by omega] at this
      exact this
  · rintro ⟨h, rfl⟩
    unfold rpos
    rw [AG_pkF h 31 0 (by decide), AG_pkF h 18 31 (by decide)]

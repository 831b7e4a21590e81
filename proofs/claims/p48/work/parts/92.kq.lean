/-! ===== the king's way: one queue is like another; the digest by the state alone ===== -/
theorem MD_one {b : Nat → Int32} {o : Option Nat} {q r : List (Nat × Nat)} (hq : MD b o q) (hr : MD b o r) (n : Nat) (ih : ∀ m, m < n → ∀ t, rd r t = some m → rd q t = some m) (ihq : ∀ m, m < n → ∀ t, rd q t = some m → rd r t = some m) : ∀ t, rd q t = some n → rd r t = some n := by
  intro t h
  obtain ⟨q1, q2, q3, q4, q5⟩ := hq
  obtain ⟨r1, r2, r3, r4, r5⟩ := hr
  cases n with
  | zero => exact (r3 t).mpr ((q3 t).mp h)
  | succ m =>
    obtain ⟨⟨u, m'⟩, he, e1, e2⟩ := q4 (t, m + 1) (rd_mem h) m rfl
    have e1 : m' = m := e1
    subst e1
    have h2 := ihq m' (Nat.lt_succ_self m') u (mem_rd q1 he)
    obtain ⟨n', h3, h4⟩ := r5 (u, m') (rd_mem h2) t (q2 _ (rd_mem h)).1 e2
    have h5 : rd r t = some n' := mem_rd r1 h3
    have h4 : n' ≤ m' + 1 := h4
    by_cases e : n' = m' + 1
    · rw [h5, e]
    · have h6 := ih n' (by omega) t h5
      rw [h] at h6
      exact absurd (Option.some.inj h6).symm e
theorem MD_rd {b : Nat → Int32} {o : Option Nat} {q r : List (Nat × Nat)} (hq : MD b o q) (hr : MD b o r) : ∀ t, rd q t = rd r t := by
  have key : ∀ n, (∀ t, rd q t = some n → rd r t = some n) ∧ (∀ t, rd r t = some n → rd q t = some n) := by
    intro n
    induction n using Nat.strongRecOn with
    | _ n ih => exact ⟨MD_one hq hr n (fun m hm => (ih m hm).2) (fun m hm => (ih m hm).1), MD_one hr hq n (fun m hm => (ih m hm).1) (fun m hm => (ih m hm).2)⟩
  intro t
  cases h : rd q t with
  | some n => exact ((key n).1 t h).symm
  | none =>
    cases h2 : rd r t with
    | none => rfl
    | some n =>
      rw [(key n).2 t h2] at h
      cases h
theorem d_uniq2 {f g : Nat → Int32} (ag : AG f g) {q r : List (Nat × Nat)} (hq : MD f (kingN f) q) (hr : MD g (kingN g) r) : kmF q 49 = kmF r 49 ∧ coN q = coN r ∧ reN q = reN r := by
  have hr2 : MD f (kingN f) r := by
    rw [AG_kingN ag]
    exact AG_MD (AG_symm ag) hr
  have h := MD_rd hq hr2
  refine ⟨?_, ?_, ?_⟩
  · simp only [kmF_49, h]
  · unfold coN
    exact sumN_congr (fun s _ => by rw [h s])
  · unfold reN
    exact sumN_congr (fun s _ => by simp only [h s])
theorem ex_MD (f : Nat → Int32) : ∃ q, MD f (kingN f) q := by
  obtain ⟨q, _, _, _, h, _⟩ := f_byRounds (fun _ => 0) (fun _ => 0) (f := f)
  exact ⟨q, h⟩
noncomputable def qA (f : Nat → Int32) : List (Nat × Nat) := Classical.choose (ex_MD f)
theorem qA_MD (f : Nat → Int32) : MD f (kingN f) (qA f) := Classical.choose_spec (ex_MD f)
theorem qA_eq {f g : Nat → Int32} (ag : AG g f) {q : List (Nat × Nat)} (hq : MD g (kingN g) q) : kmF q 49 = kmF (qA f) 49 ∧ coN q = coN (qA f) ∧ reN q = reN (qA f) := d_uniq2 ag hq (qA_MD f)
theorem k_rounds (krf kqf : Nat → Int32) {f g : Nat → Int32} (ag : AG g f) : ∃ k1 k2 k3, fX2_byRounds krf kqf (enc (kingN g)) g = some (enc (kmF (qA f) 49), k1, k2, k3) := by
  obtain ⟨q, k1, k2, k3, h, e⟩ := f_byRounds krf kqf (f := g)
  exact ⟨k1, k2, k3, by rw [e, (qA_eq ag h).1]⟩
theorem k_corners (krf kqf : Nat → Int32) (kc : Int32) {f g : Nat → Int32} (ag : AG g f) (ko : KO g) (uk : UK g) : ∃ k1 k2 k3, fX2_byCorners kc krf kqf (enc (kingN g)) g = some (enc (kmF (qA f) 49), k1, k2, k3) := by
  obtain ⟨q, k1, k2, k3, h, e⟩ := f_byCorners krf kqf kc ko uk
  exact ⟨k1, k2, k3, by rw [e, (qA_eq ag h).1]⟩
theorem k_reach (krf kqf : Nat → Int32) {f g : Nat → Int32} (ag : AG g f) : ∃ k1 k2 k3, fX2_countReached krf kqf (enc (kingN g)) g = some (nI (reN (qA f)), k1, k2, k3) := by
  obtain ⟨q, k1, k2, k3, h, e⟩ := f_countReached krf kqf (f := g)
  exact ⟨k1, k2, k3, by rw [e, (qA_eq ag h).2.2]⟩
theorem k_open {f g : Nat → Int32} (ag : AG g f) : fX1_countOpenCorners (enc (kingN g)) g = some (nI (coN (qA f))) := by
  rw [f_openCorners (qA_MD g), (qA_eq ag (qA_MD g)).2.1]
/-! the digest -/
def bH (n : Nat) : Int64 := (fX8_bitsOfHalf (nI n)).getD 0
set_option maxRecDepth 100000 in
theorem bits_some : ∀ n, n < 1177 → (fX8_bitsOfHalf (nI n)).isSome = true := by decide +kernel
theorem f_bits {n : Nat} (h : n < 1177) : fX8_bitsOfHalf (nI n) = some (bH n) := by
  have h1 := bits_some n h
  unfold bH
  cases e : fX8_bitsOfHalf (nI n) with
  | none =>
    rw [e] at h1
    cases h1
  | some v => rfl
theorem d_king2 {f g : Nat → Int32} (ag : AG g f) (pb : PB g) (uk : UK g) (ko : KO g) (krf kqf : Nat → Int32) (a : Int64) : ∃ k1 k2 k3, fX8_mixKing (enc (kingN g)) g krf kqf a = some (mxL a (kV f (qA f)), k1, k2, k3) := by
  obtain ⟨k1, k2, k3, e1⟩ := k_rounds krf kqf ag
  obtain ⟨l1, l2, l3, e2⟩ := k_corners k1 k2 k3 ag ko uk
  obtain ⟨m1, m2, m3, e3⟩ := k_reach l1 l2 ag
  refine ⟨m1, m2, m3, ?_⟩
  unfold fX8_mixKing
  rw [e1]
  simp only [Option.bind_some, f_mix8, e2, e3, k_open ag]
  have hj : ∀ K : Int64 → Option (Int64 × (Nat → Int32) × (Nat → Int32) × Int32), jn K (fun J_10 => if 0 ≤ enc (kingN g) then ((fX1_countHostileBesideKing (enc (kingN g)) g).bind (fun (r_13 : Int32) => J_10 ((r_13 + 1).toInt64))) else (J_10 0)) = K (pL g) := by
    intro K
    unfold pL
    simp only [jn_eq, enc_neg king_lt]
    cases e : kingN g with
    | none => rfl
    | some k =>
      have hk := king_lt _ e
      rw [if_pos nofun, show enc (some k) = nI k from rfl, f_countHostile pb hk]
      rfl
  have hp : pL g = pL f := by
    unfold pL
    rw [← AG_kingN ag]
    cases hk : kingN g with
    | none => rfl
    | some k =>
      show (nI (prN g k) + 1).toInt64 = (nI (prN f k) + 1).toInt64
      rw [AG_prN ag (king_lt _ hk)]
  rw [hj, w_cl (kmF_lt (qA_MD f) 49), hp]
  rfl
def aV2 (b : Nat → Int32) (w1 w2 dg t1 t2 am sc : Int32) : List Int64 := [w1.toInt64, w2.toInt64, dg.toInt64, t1.toInt64, t2.toInt64, am.toInt64, sc.toInt64, bH (mcN b 0 + mcN b 1)]
theorem d_acc2 (f : Nat → Int32) (w1 w2 dg t1 t2 am sc : Int32) (a : Int64) : fX8_mixAccounts w1 w2 dg t1 t2 am f sc a = some (mxL a (aV2 f w1 w2 dg t1 t2 am sc)) := by
  have h0 := mcN_le f 0
  have h1 := mcN_le f 1
  unfold fX8_mixAccounts fX8_movesOfBoth
  simp only [f_countMoves, Option.bind_some, nI_add, f_bits (show mcN f 0 + mcN f 1 < 1177 by omega), f_mix8]
  rfl
noncomputable def dV2 (b : Nat → Int32) (g : Bool) (sn mv gm seen w1 w2 dg t1 t2 am sc s0 s1 : Int32) (t : Nat) (tf : Nat → Int32) : Int64 := mxL (hS b 49) (gV b g sn mv gm seen ++ (mV b g 0 ++ (mV b g 1 ++ (kV b (qA b) ++ (aV2 b w1 w2 dg t1 t2 am sc ++ bV s0 s1 t tf)))))
theorem AG_dV2 {b c : Nat → Int32} (ag : AG b c) (g : Bool) (sn mv gm seen w1 w2 dg t1 t2 am sc s0 s1 : Int32) (t : Nat) {tf tg : Nat → Int32} (ht : ∀ i, i < t → tf i = tg i) : dV2 b g sn mv gm seen w1 w2 dg t1 t2 am sc s0 s1 t tf = dV2 c g sn mv gm seen w1 w2 dg t1 t2 am sc s0 s1 t tg := by
  have hp : pL b = pL c := by
    unfold pL
    rw [← AG_kingN ag]
    cases hk : kingN b with
    | none => rfl
    | some k =>
      show (nI (prN b k) + 1).toInt64 = (nI (prN c k) + 1).toInt64
      rw [AG_prN ag (king_lt _ hk)]
  obtain ⟨e1, e2, e3⟩ := qA_eq ag (qA_MD b)
  unfold dV2 gV mV kV aV2 bV
  rw [AG_hS ag 49 (Nat.le_refl _), AG_cpN ag, AG_cpN ag, AG_kingN ag, AG_mcN ag, AG_mcN ag, AG_WN ag, AG_WN ag, AG_LMv ag, AG_LMv ag, txV_congr t 0 (fun j _ hj => ht j (by omega)), hp, e1, e2, e3]
set_option maxRecDepth 20000 in
theorem d_digN2 {f f0 : Nat → Int32} (ag : AG f f0) (pb : PB f) (uk : UK f) (ko : KO f) (g : Bool) (sn mv gm w1 w2 dg t1 t2 am sc rk rs : Int32) (rf rmf mf krf kqf skf tf : Nat → Int32) {tg : Nat → Int32} {len : Nat} (hl : len ≤ 60) (ht : ∀ i, i < len → tf i = tg i) : ∃ r, fX8_digestN sn mv gm w1 w2 dg t1 t2 am (enc (kingN f)) (b01 g) f rk rs rf rmf mf krf kqf sc skf (nI len) tf = some r ∧ r.1 = dV2 f0 g sn mv gm 0 w1 w2 dg t1 t2 am sc (skf 0) (skf 1) len tg := by
  obtain ⟨x1, x2, x3, x4, x5, x6, x7, e3⟩ := d_moves pb uk g (d := 0) (Or.inl rfl) rk rs rf rmf mf (mxL (hS f 49) (gV f g sn mv gm 0))
  obtain ⟨y1, y2, y3, y4, y5, y6, y7, e4⟩ := d_moves pb uk g (d := 1) (Or.inr rfl) x2 x3 x1 x4 x6 (mxL (mxL (hS f 49) (gV f g sn mv gm 0)) (mV f g 0))
  obtain ⟨k1, k2, k3, e5⟩ := d_king2 (AG_rfl f) pb uk ko krf kqf (mxL (mxL (mxL (hS f 49) (gV f g sn mv gm 0)) (mV f g 0)) (mV f g 1))
  have hA := AG_dV2 ag g sn mv gm 0 w1 w2 dg t1 t2 am sc (skf 0) (skf 1) len ht
  refine ⟨(dV2 f g sn mv gm 0 w1 w2 dg t1 t2 am sc (skf 0) (skf 1) len tf, y1, y2, y3, y4, y5, y6, y7, k1, k2, k3), ?_, ?_⟩
  rotate_left
  · dsimp only
    exact hA
  unfold fX8_digestN dV2
  rw [d_squares pb, Option.bind_some, d_gameN, Option.bind_some, e3, Option.bind_some]
  simp only [e4, e5, d_acc2, d_buf hl, Option.bind_some, mxL_app]
set_option maxRecDepth 20000 in
theorem d_digS2 {f f0 : Nat → Int32} (ag : AG f f0) (pb : PB f) (uk : UK f) (ko : KO f) (g : Bool) (sn mv gm w1 w2 dg t1 t2 am sc rk rs : Int32) (rf rmf mf krf kqf skf tf : Nat → Int32) {tg : Nat → Int32} {len : Nat} (hl : len ≤ 60) (ht : ∀ i, i < len → tf i = tg i) (p : HP) (t : List HP) : ∃ r, fX8_digestS sn mv gm w1 w2 dg t1 t2 am (enc (kingN f)) (b01 g) f rk rs rf rmf mf krf kqf sc skf (nI len) tf (newPC p t) = some r ∧ r.1 = dV2 f0 g sn mv gm (nI (1 + occ p t)) w1 w2 dg t1 t2 am sc (skf 0) (skf 1) len tg := by
  obtain ⟨x1, x2, x3, x4, x5, x6, x7, e3⟩ := d_moves pb uk g (d := 0) (Or.inl rfl) rk rs rf rmf mf (mxL (hS f 49) (gV f g sn mv gm (nI (1 + occ p t))))
  obtain ⟨y1, y2, y3, y4, y5, y6, y7, e4⟩ := d_moves pb uk g (d := 1) (Or.inr rfl) x2 x3 x1 x4 x6 (mxL (mxL (hS f 49) (gV f g sn mv gm (nI (1 + occ p t)))) (mV f g 0))
  obtain ⟨k1, k2, k3, e5⟩ := d_king2 (AG_rfl f) pb uk ko krf kqf (mxL (mxL (mxL (hS f 49) (gV f g sn mv gm (nI (1 + occ p t)))) (mV f g 0)) (mV f g 1))
  have hA := AG_dV2 ag g sn mv gm (nI (1 + occ p t)) w1 w2 dg t1 t2 am sc (skf 0) (skf 1) len ht
  refine ⟨(dV2 f g sn mv gm (nI (1 + occ p t)) w1 w2 dg t1 t2 am sc (skf 0) (skf 1) len tf, y1, y2, y3, y4, y5, y6, y7, k1, k2, k3), ?_, ?_⟩
  rotate_left
  · dsimp only
    exact hA
  unfold fX8_digestS dV2
  rw [d_squares pb, Option.bind_some, d_gameS, Option.bind_some, e3, Option.bind_some]
  simp only [e4, e5, d_acc2, d_buf hl, Option.bind_some, mxL_app]

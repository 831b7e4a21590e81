/-! ===== the text's moves, on both sides ===== -/
theorem fit_num {c : Int32} {lo : Nat} (hlo : lo < 1000) (h1 : ¬ c < nI lo) (h2 : ¬ nI (lo + 6) < c) : ∃ k, k < 7 ∧ c = nI (lo + k) := by
  rw [Int32.lt_iff_toInt_lt, nI_toInt (by omega)] at h1 h2
  refine ⟨(c.toInt - lo).toNat, by omega, Int32.toInt_inj.mp ?_⟩
  rw [nI_toInt (by omega)]
  omega
theorem fit_col {c : Int32} {m : Nat} (hm : m = 0 ∨ m = 2) (h : fitB c m = true) : ∃ k, k < 7 ∧ c = nI (97 + k) := by
  unfold fitB at h
  rw [if_pos hm, Bool.and_eq_true, Bool.not_eq_true', Bool.not_eq_true', decide_eq_false_iff_not, decide_eq_false_iff_not] at h
  exact fit_num (lo := 97) (by decide) h.1 h.2
theorem fit_row {c : Int32} {m : Nat} (hm : m = 1 ∨ m = 3) (h : fitB c m = true) : ∃ k, k < 7 ∧ c = nI (49 + k) := by
  unfold fitB at h
  rw [if_neg (by omega), if_pos hm, Bool.and_eq_true, Bool.not_eq_true', Bool.not_eq_true', decide_eq_false_iff_not, decide_eq_false_iff_not] at h
  exact fit_num (lo := 49) (by decide) h.1 h.2
theorem sq_num : ∀ r, r < 7 → ∀ c, c < 7 → ((7 * (nI (49 + r) - 49)) + nI (97 + c)) - 97 = nI (7 * r + c) ∧ (7 * (nI (49 + r) - 49)) + (nI (97 + c) - 97) = nI (7 * r + c) := by decide +kernel
/-- the square that two signs tell -/
theorem sq_of {tf : Nat → Int32} {len i : Nat} (hl : len ≤ 60) (hi : i + 1 < len) (h0 : (i % 5 = 0 ∨ i % 5 = 2)) (hok : okF tf len) : ∃ x, x < 49 ∧ fX4_squareAt (nI len) tf (nI i) = some (nI x) ∧ (7 * (tf (i + 1) - 49)) + (tf i - 97) = nI x := by
  obtain ⟨c, hc, e1⟩ := fit_col h0 (hok i (by omega))
  obtain ⟨r, hr, e2⟩ := fit_row (m := (i + 1) % 5) (by omega) (hok (i + 1) hi)
  obtain ⟨n1, n2⟩ := sq_num r hr c hc
  refine ⟨7 * r + c, by omega, ?_, ?_⟩
  · unfold fX4_squareAt
    rw [nI_1, f_tcodeAt hl hi, Option.bind_some, f_tcodeAt hl (by omega), Option.bind_some, e1, e2, n1]
  · rw [e1, e2, n2]
def alB (sn mv : Int32) (f : Nat → Int32) (x y : Nat) : Bool := decide (sn = 1) && decide (sd (f x) = mv) && decide (reason f x y = 0)
theorem f_allowsMove {f : Nat → Int32} (sn mv : Int32) {x y : Nat} (hx : x < 49) (hy : y < 49) : fX7_allowsMove sn mv f (nI x) (nI y) = some (b01 (alB sn mv f x y)) := by
  unfold fX7_allowsMove alB
  by_cases h1 : sn = 1
  · rw [if_pos h1, f_at hx, Option.bind_some, f_side8, Option.bind_some, decide_eq_true h1]
    by_cases h2 : sd (f x) = mv
    · rw [if_pos h2, f_obstacle hx hy, Option.bind_some, decide_eq_true h2]
      by_cases h3 : reason f x y = 0
      · rw [if_pos h3, decide_eq_true h3]
        rfl
      · rw [if_neg h3, decide_eq_false h3]
        rfl
    · rw [if_neg h2, decide_eq_false h2]
      rfl
  · rw [if_neg h1, decide_eq_false h1]
    rfl
theorem f_mayMove {row : Nat → Int32} (hp : ∀ s, s < 49 → 0 ≤ row s) {x y : Nat} (hx : x < 49) (hy : y < 49) : fX9_mayMove row (nI x) (nI y) = some (b01 (alB (row 50) (row 49) row x y)) := by
  unfold fX9_mayMove alB
  rw [show inB 50 61 = true from rfl, grd_t, show inB 49 61 = true from rfl, show (50 : Int32).toNatClampNeg = 50 from rfl, show (49 : Int32).toNatClampNeg = 49 from rfl]
  by_cases h1 : row 50 = 1
  · rw [if_pos h1, inB_t (i := x) (by omega) (by decide), grd_t, nI_clamp (by omega), f_side9, Option.bind_some, decide_eq_true h1, grd_t]
    by_cases h2 : sd (row x) = row 49
    · rw [if_pos h2, f_against hp hx hy, Option.bind_some, decide_eq_true h2]
      by_cases h3 : reason row x y = 0
      · rw [if_pos h3, decide_eq_true h3]
        rfl
      · rw [if_neg h3, decide_eq_false h3]
        rfl
    · rw [if_neg h2, decide_eq_false h2]
      rfl
  · rw [if_neg h1, decide_eq_false h1]
    rfl
theorem AG_rsn {b c : Nat → Int32} (h : AG b c) {x y : Nat} (hx : x < 49) (hy : y < 49) : reason b x y = reason c x y := AG_reason h hx (seg_lt x hx y hy)
theorem alB_RP {f : Nat → Int32} {kk sg sn mv gm w1 w2 dg t1 t2 am : Int32} {row : Nat → Int32} {h : List HP} (hr : RP f kk sg sn mv gm w1 w2 dg t1 t2 am row h) {x y : Nat} (hx : x < 49) (hy : y < 49) : alB (row 50) (row 49) row x y = alB sn mv f x y := by
  obtain ⟨ag, pb, uk, ko, hkk, hsg, h52, h50, h49, _⟩ := hr
  unfold alB
  rw [h50, h49, ag x hx, AG_rsn ag hx hy]
/-- the surroundings while the trial plays; the trial -/
def EN (K : List HP → Option Nat → Prop) (M n so : Nat) (sx : Nat → SV) (hb : Nat → List HP) (qx : Nat → SV) (hq : Nat → List HP) (isk : Nat → Int32) (v : SV) (hn : List HP) (now book kept : Nat → Int32) (F L : Nat → Int64) (B : Nat → Int32) (nn : Nat) (C : List Nat) : Prop := RS K F L B C M v now hn ∧ BKR K F L B C M n so sx hb book ∧ KPR K F L B C M qx hq isk kept ∧ LV B C nn ∧ nn ≤ 4096
def TE (sg : Int32) (u : TC) (h : List HP) (tri : Nat → Int32) (F L : Nat → Int64) (B : Nat → Int32) (nn : Nat) (C : List Nat) : Prop := RP u.1 u.2.1 sg u.2.2.1 u.2.2.2.1 u.2.2.2.2.1 u.2.2.2.2.2.1 u.2.2.2.2.2.2.1 u.2.2.2.2.2.2.2.1 u.2.2.2.2.2.2.2.2.1 u.2.2.2.2.2.2.2.2.2.1 u.2.2.2.2.2.2.2.2.2.2 tri h ∧ ND F L B (fun i => i ∈ C) (tri 60) h ∧ LV B C nn
theorem EN_nt {K : List HP → Option Nat → Prop} {M n so : Nat} {sx : Nat → SV} {hb : Nat → List HP} {qx : Nat → SV} {hq : Nat → List HP} {isk : Nat → Int32} {v : SV} {hn : List HP} {now book kept now' book' kept' : Nat → Int32} {F L F' L' : Nat → Int64} {B B' : Nat → Int32} {nn n0 : Nat} {C : List Nat} {ks : List Int32} {a1 : Int32} {rk : Int32 → Int32} {mD : List Nat → List Nat} {rp : Int64 × Int64} (h : EN K M n so sx hb qx hq isk v hn now book kept F L B nn C) (hN : NTc ks a1 n book isk kept F L B nn rk mD F' L' B' n0 book' kept' rp) (hw : now 60 ∈ ks) (e : ∀ i, now' i = if i = 60 then rk (now 60) else now i) : EN K M n so sx hb qx hq isk v hn now' book' kept' F' L' B' (n0 + 1) (mD C) := by
  obtain ⟨h1, h2, h3, h4, h5⟩ := h
  have h0 := hN.1.1
  refine ⟨RS_to h1 (fun _ _ x => x) (Nat.le_refl _) (fun i hi => ?_) ?_, NT_BK hN h4 (fun _ _ x => x) (Nat.le_refl _) h2, NT_KP hN h4 (fun _ _ x => x) (Nat.le_refl _) h3, (hN.2.2.2.2 C h4).1, by omega⟩
  · rw [e i, if_neg (by omega)]
  · rw [e 60, if_pos rfl]
    exact (hN.2.2.2.2 C h4).2.2.1 _ _ (Or.inl hw) h1.2.1
/-- one part, with its move -/
theorem rp_1 {K : List HP → Option Nat → Prop} {M n so : Nat} {sx : Nat → SV} {hb : Nat → List HP} {qx : Nat → SV} {hq : Nat → List HP} {isk : Nat → Int32} {v : SV} {hn : List HP} {now book kept : Nat → Int32} {F L : Nat → Int64} {B : Nat → Int32} {nn : Nat} {Cb Ct : List Nat} {sg : Int32} {u : TC} {h : List HP} {tri : Nat → Int32} (hE : EN K M n so sx hb qx hq isk v hn now book kept F L B nn Cb) (hT : TE sg u h tri F L B nn Ct) (hsub : ∀ i ∈ Cb, i ∈ Ct) (hn6 : n ≤ 6) (hM : M < 3000) (hCt : Ct.length < 3000) (hh : h.length < 999) {tf tf2 : Nat → Int32} {len k : Nat} (hl : len ≤ 60) (htf : ∀ i, i < len → tf i = tf2 i) (hok : okF tf len) (h5 : len % 5 = 4) (hk : 5 * k + 4 ≤ len) (Mv : Nat → Int32) (sm : Nat) : (fX9_readPart (nI n) (nI nn) (nI len) (nI (5 * k)) 1 1 (nI sm) now book kept isk F L B Mv tri tf2 = some (now, book, kept, F, L, B, Mv, nI nn, tri, 1, nI (5 * k + 4), 0, nI sm) ∧ ∀ self, fX8_playOnTrialS_B sg (nI len) tf self (nI sm) (nI k) u (chP h) = some (-1, u, chP h)) ∨ (∃ now' book' kept' F' L' B' M' nn' tri' Cb' Ct' u' tak q, fX9_readPart (nI n) (nI nn) (nI len) (nI (5 * k)) 1 1 (nI sm) now book kept isk F L B Mv tri tf2 = some (now', book', kept', F', L', B', M', nI nn', tri', 1, nI (5 * k + 4), 1, nI (sm + tak)) ∧ (∀ self, fX8_playOnTrialS_B sg (nI len) tf self (nI sm) (nI k) u (chP h) = self (nI (sm + tak)) (nI (k + 1)) u' (chP (q :: h))) ∧ EN K M n so sx hb qx hq isk v hn now' book' kept' F' L' B' nn' Cb' ∧ TE sg u' (q :: h) tri' F' L' B' nn' Ct' ∧ (∀ i ∈ Cb', i ∈ Ct') ∧ Cb'.length ≤ Cb.length ∧ Ct'.length ≤ Ct.length + 1 ∧ tak ≤ 4) := by
  have hok2 : okF tf2 len := fun i hi => by rw [← htf i hi]; exact hok i hi
  obtain ⟨r1, r2, r3, r4, s1, s2, s3, s4, hf⟩ := four (tf := tf2) hl (by omega : 5 * k ≤ len) (fun i hi => hok2 i (by omega)) (by omega)
  have hf : r4.2.1 = 1 ∧ r4.2.2 = nI (5 * k + 4) ∧ r1.1 = tf2 (5 * k) - 97 ∧ r2.1 = tf2 (5 * k + 1) - 49 ∧ r3.1 = tf2 (5 * k + 2) - 97 ∧ r4.1 = tf2 (5 * k + 3) - 49 := by
    rcases hf with ⟨a1, a2, _, _, a3⟩ | ⟨_, q, _, hb1, _, hb2⟩
    · exact ⟨a1, a2, a3⟩
    · rw [tell_of hok2 h5] at hb2
      exact absurd hb2 (by decide)
  obtain ⟨a1, a2, a3, a4, a5, a6⟩ := hf
  obtain ⟨x, hx, hx1, hx2⟩ := sq_of (i := 5 * k) hl (by omega) (by omega) hok
  obtain ⟨y, hy, hy1, hy2⟩ := sq_of (i := 5 * k + 2) hl (by omega) (by omega) hok
  rw [htf _ (by omega), htf _ (by omega)] at hx2 hy2
  have h5k : (5 : Int32) * nI k = nI (5 * k) := by
    have : ∀ k, k < 13 → (5 : Int32) * nI k = nI (5 * k) := by decide +kernel
    exact this k (by omega)
  have hpar : fX4_parts (nI len) = some (nI ((len + 1) / 5)) := by
    unfold fX4_parts
    rw [nI_1]
    have : ∀ m, m < 62 → nI m / 5 = nI (m / 5) := by decide +kernel
    rw [this _ (by omega)]
  obtain ⟨hR, hnd, hlv⟩ := hT
  obtain ⟨f, kk, sn, mv, gm, w1, w2, dg, t1, t2, am⟩ := u
  have hR : RP f kk sg sn mv gm w1 w2 dg t1 t2 am tri h := hR
  have hal := alB_RP hR hx hy
  have pbt : PB tri := AG_PB hR.1 hR.2.1
  have hmm : fX9_mayMove tri (nI x) (nI y) = some (b01 (alB sn mv f x y)) := by rw [f_mayMove pbt.pos hx hy, hal]
  have hB : ∀ self, fX8_playOnTrialS_B sg (nI len) tf self (nI sm) (nI k) (f, kk, sn, mv, gm, w1, w2, dg, t1, t2, am) (chP h) = if b01 (alB sn mv f x y) = 0 then some ((-1), (f, kk, sn, mv, gm, w1, w2, dg, t1, t2, am), chP h) else match chP h with
    | [] => none
    | c :: t => (fX7_makeMove 0 sn mv gm w1 w2 dg t1 t2 am kk sg f c t (nI x) (nI y)).bind fun r => self (nI sm + r.1) (nI k + 1) (r.2.1, r.2.2.1, r.2.2.2.1, r.2.2.2.2.1, r.2.2.2.2.2.1, r.2.2.2.2.2.2.1, r.2.2.2.2.2.2.2.1, r.2.2.2.2.2.2.2.2.1, r.2.2.2.2.2.2.2.2.2.1, r.2.2.2.2.2.2.2.2.2.2.1, r.2.2.2.2.2.2.2.2.2.2.2.1) (r.2.2.2.2.2.2.2.2.2.2.2.2 :: c :: t) := fun self => by
    unfold fX8_playOnTrialS_B
    rw [hpar, Option.bind_some, if_neg (nI_ge (by omega) (by omega)), h5k, hx1, Option.bind_some, show nI (5 * k) + 2 = nI (5 * k + 2) from nI_add _ 2, hy1, Option.bind_some]
    show (fX7_allowsMove sn mv f (nI x) (nI y)).bind _ = _
    rw [f_allowsMove sn mv hx hy, Option.bind_some]
    rfl
  have hrp : fX9_readPart (nI n) (nI nn) (nI len) (nI (5 * k)) 1 1 (nI sm) now book kept isk F L B Mv tri tf2 = if b01 (alB sn mv f x y) = 0 then some (now, book, kept, F, L, B, Mv, nI nn, tri, 1, nI (5 * k + 4), b01 (alB sn mv f x y), nI sm + 0) else (fX9_goMoveT (nI n) (nI nn) now book kept isk F L B Mv tri (nI x) (nI y)).bind fun r_24 => some (r_24.2.1, r_24.2.2.1, r_24.2.2.2.1, r_24.2.2.2.2.1, r_24.2.2.2.2.2.1, r_24.2.2.2.2.2.2.1, r_24.2.2.2.2.2.2.2.1, r_24.2.2.2.2.2.2.2.2.1, r_24.2.2.2.2.2.2.2.2.2, 1, nI (5 * k + 4), b01 (alB sn mv f x y), nI sm + r_24.1) := by
    unfold fX9_readPart
    rw [s1, Option.bind_some, s2, Option.bind_some, s3, Option.bind_some, s4, Option.bind_some, a1, a2, if_neg (by decide), if_neg (by decide), a3, a4, a5, a6, hx2, hy2, hmm, Option.bind_some, is01_b01, grd_t]
    simp only [jn_eq]
  cases hal2 : alB sn mv f x y with
  | false =>
    rw [hal2] at hrp
    refine Or.inl ⟨?_, fun self => ?_⟩
    · rw [hrp, if_pos (show b01 false = 0 from rfl), Int32.add_zero]
      rfl
    · rw [hB, hal2, if_pos (show b01 false = 0 from rfl)]
  | true =>
    rw [hal2] at hrp
    refine Or.inr ?_
    unfold alB at hal2
    rw [Bool.and_eq_true, Bool.and_eq_true, decide_eq_true_eq, decide_eq_true_eq, decide_eq_true_eq] at hal2
    obtain ⟨⟨e1, e2⟩, e3⟩ := hal2
    subst e1
    obtain ⟨hRn, hBk, hKp, hlb, hnn⟩ := id hE
    have hm : MV f x y := reason_MV hx hy e3
    have hC : LV B Ct nn := hlv
    obtain ⟨rk, mD, F', L', B', M', now', book', kept', n0, tri4, hN, hnow, h4, he⟩ := f_goMoveT hR hx hy e2 e3 hn6 hnn hC (by omega) (now := now) (book := book) (kept := kept) (isk := isk) Mv (hds (by omega) (BK_sub hBk (fun _ _ x => x) (Nat.le_refl _) hsub) (KP_sub hKp (fun _ _ x => x) (Nat.le_refl _) hsub) (fun k hk => by
      simp only [List.mem_cons, List.not_mem_nil, or_false] at hk
      rcases hk with rfl | rfl
      · exact ⟨h, by omega, hnd⟩
      · exact RS_HC (by omega) (RS_sub hRn (fun _ _ x => x) (Nat.le_refl _) hsub))) hnd (by omega)
    have hnew := (hN.2.2.2.2 Ct hC).2.2.2 (mov f (decide (tri 52 = 1)) x y, 1 - mv) h rfl hnd
    have hgm := gm_RP hR hx hy e2 e3 h4.2
    have hh0 : h ≠ [] := fun e => by
      have h0 := hR.2.2.2.2.2.2.2.2.2.2.2.2.2.2.2.2.2.2.1
      exact absurd (h0.mpr e) (by decide)
    obtain ⟨p, t, rfl⟩ : ∃ p t, h = p :: t := by
      cases h with
      | nil => exact absurd rfl hh0
      | cons p t => exact ⟨p, t, rfl⟩
    have hsg := RP_sg hR
    have hkk : kk = enc (kingN f) := hR.2.2.2.2.1
    have hmk := f_makeMove 0 (sd := 1) (mv := mv) (gm := gm) (w1 := w1) (w2 := w2) (dg := dg) (t1 := t1) (t2 := t2) (am := am) hR.2.2.2.2.2.2.2.2.2.1 hR.2.1 hR.2.2.1 (g := decide (tri 52 = 1)) hm (cx := newPC p t) (ct := chP t) (t := p :: t) (chP_cons p t).symm (by omega)
    rw [← hkk, ← hsg] at hmk
    refine ⟨now', book', kept', F', L', B', M', n0 + 1, _, mD Cb, n0 :: mD Ct, (_, _, _, _, _, _, _, _, _, _, _), takN f (decide (tri 52 = 1)) x y, (mov f (decide (tri 52 = 1)) x y, 1 - mv), ?_, fun self => ?_, EN_nt hE hN (by simp) hnow, ⟨hgm, ?_, hnew.1⟩, fun i hi => List.mem_cons_of_mem _ (hN.1.2 Cb Ct hsub i hi), (hN.2.2.2.2 Cb hlb).2.1, ?_, takN_le _ _ _ _⟩
    · rw [hrp, if_neg (by decide), he, Option.bind_some, nI_add]
      rfl
    · rw [hB, show alB 1 mv f x y = true by
        unfold alB
        rw [decide_eq_true e2, decide_eq_true e3]
        rfl, if_neg (by decide)]
      show (fX7_makeMove 0 1 mv gm w1 w2 dg t1 t2 am kk sg f (newPC p t) (chP t) (nI x) (nI y)).bind _ = _
      rw [hmk, Option.bind_some, nI_1, nI_add]
      rfl
    · have e60 : gmE tri4 (wb (mov f (decide (tri 52 = 1)) x y) mv) (1 + occ (mov f (decide (tri 52 = 1)) x y, 1 - mv) (p :: t)) 60 = nI n0 := by
        unfold gmE
        rcases gm_w (g := decide (tri 52 = 1)) hR.2.2.2.2.2.2.2.2.2.1 hR.2.2.1 hm e2 (hR.2.2.2.2.2.2.2.2.2.2.2.2.2.2.2.2.2.2.2.2 rfl).2 with w | w | w
        · rw [w, if_pos rfl]
          split
          · rw [upd_ne (by decide), upd_ne (by decide), h4.1]
          · exact h4.1
        · rw [w, if_neg (by decide)]
          show upd (upd tri4 50 (2 + 0)) 55 (tri4 55 + 1) 60 = _
          rw [upd_ne (by decide), upd_ne (by decide), h4.1]
        · rw [w, if_neg (by decide)]
          show upd (upd tri4 50 (2 + 1)) 56 (tri4 56 + 1) 60 = _
          rw [upd_ne (by decide), upd_ne (by decide), h4.1]
      rw [e60]
      exact hnew.2
    · have := (hN.2.2.2.2 Ct hC).2.1
      rw [List.length_cons]
      omega

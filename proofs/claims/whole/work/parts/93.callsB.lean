/-! ===== calls that change the objects, B ===== -/
def alP (f : Nat → Int32) (p : Int32) (s : Nat) : Bool := if p = 3 then decide (kingN f = none) || decide (kingN f = some s) else decide (p = 0) || rst p s
theorem AG_alP {b c : Nat → Int32} (h : AG b c) (p : Int32) (s : Nat) : alP b p s = alP c p s := by
  unfold alP
  rw [AG_kingN h]
theorem f_allows8 (f : Nat → Int32) (p : Int32) {s : Nat} (hs : s < 49) : fX1_allowsPiece (enc (kingN f)) (nI s) p = some (b01 (alP f p s)) := by
  unfold fX1_allowsPiece alP
  by_cases e : p = 3
  · rw [if_pos e, if_pos e]
    simp only [enc_lt0 king_lt, enc_eq king_lt hs]
    by_cases e1 : kingN f = none
    · simp [e1, b01]
    · by_cases e2 : kingN f = some s
      · simp [e2, b01]
      · simp [e1, e2, b01]
  · rw [if_neg e, if_neg e]
    by_cases e1 : p = 0
    · rw [if_pos e1, decide_eq_true e1]
      rfl
    · rw [if_neg e1, f_mayStop p s hs, Option.bind_some, decide_eq_false e1]
      cases rst p s <;> rfl
theorem rst_3 (s : Nat) : rst 3 s = true := by
  unfold rst
  rfl
theorem f_mayPut (row : Nat → Int32) (p : Int32) {s : Nat} (hs : s < 49) : fX9_mayPut row (nI s) p = some (b01 (decide (row 51 = 0) && alP row p s)) := by
  unfold fX9_mayPut alP
  rw [show inB 51 61 = true from rfl, show (51 : Int32).toNatClampNeg = 51 from rfl]
  simp only [jn_eq, grd_t, f_king, Option.bind_some, enc_none king_lt, enc_eq king_lt hs, f_rests p s hs]
  by_cases e : row 51 = 0
  · rw [decide_eq_true e]
    simp only [if_pos e]
    by_cases e3 : p = 3
    · subst e3
      by_cases e1 : kingN row = none
      · simp [e1, b01, rst_3]
      · by_cases e2 : kingN row = some s
        · simp [e2, b01, rst_3]
        · simp [e1, e2, b01, rst_3]
    · simp only [if_neg e3]
      by_cases e1 : p = 0
      · simp [e1, b01]
      · cases rst p s <;> simp [e1, b01]
  · rw [decide_eq_false e]
    simp only [if_neg e]
    by_cases e3 : p = 3
    · by_cases e1 : kingN row = none
      · simp [e3, e1, b01]
      · by_cases e2 : kingN row = some s
        · simp [e3, e2, b01]
        · simp [e3, e1, e2, b01]
    · simp [e3, b01]
theorem inC_3 {p : Int32} (h : inC p 0 3 = true) : p = 0 ∨ p = 1 ∨ p = 2 ∨ p = 3 := by
  obtain ⟨k, hk, rfl⟩ := inC_num (m := 3) (by decide) h
  rcases (by omega : k = 0 ∨ k = 1 ∨ k = 2 ∨ k = 3) with e | e | e | e <;> subst e
  · exact Or.inl rfl
  · exact Or.inr (Or.inl rfl)
  · exact Or.inr (Or.inr (Or.inl rfl))
  · exact Or.inr (Or.inr (Or.inr rfl))
theorem AG_upd {b c : Nat → Int32} (h : AG b c) (s : Nat) (p : Int32) : AG (upd b s p) (upd c s p) := fun i hi => by
  unfold upd
  split
  · rfl
  · exact h i hi
theorem c_put {K : List HP → Option Nat → Prop} {N : Nat} {hn : List HP} {f : Nat → Int32} {kk sg sn mv gm : Int32} {lt : Option Nat} {w1 w2 dg t1 t2 am so sc : Int32} {sx : Nat → SV} {skf : Nat → Int32} {qx : Nat → SV} {tl : Int32} {tf : Nat → Int32} {nst nn len : Int32} {now book kept isk : Nat → Int32} {F L : Nat → Int64} {B text : Nat → Int32} (hR : REL K N hn (f, kk, sg, sn, mv, gm, lt, w1, w2, dg, t1, t2, am) so sc sx skf qx tl tf nst nn len now book kept isk F L B text) (fo : Nat → Int64) (a1 a2 a3 : Int32) : ∃ ans f' kk' sx' so' sc' fo' now' book' nst' q b, fL_put sn mv gm lt w1 w2 dg t1 t2 am kk sg f so sc fo sx a1 a2 a3 = some (ans, f', kk', sx', so', sc', fo') ∧ fX9_put nst now book a1 a2 a3 = some (b, now', q, book', nst') ∧ AN ans q fo' b ∧ REL K (N + 1) hn (f', kk', sg, sn, mv, gm, lt, w1, w2, dg, t1, t2, am) so' sc' sx' skf qx tl tf nst' nn len now' book' kept isk F L B text := by
  have hR0 := REL_mono hR (K' := K) (N' := N + 1) (fun _ _ x => x) (by omega)
  have hr := REL_RP hR
  obtain ⟨ag, pb, uk, ko, rfl, hsg, h52, h50, h49, hdm, h51, h53, h54, h55, h56, h57, h58, h59, h0, hok, hrun⟩ := id hr
  have e51 : decide (now 51 = 0) = decide (sn = 0) := by
    rw [h51]
    by_cases e : sn = 0
    · rw [if_pos e, decide_eq_true e]
      rfl
    · rw [if_neg e, decide_eq_false e]
      rfl
  rcases cellC a1 a2 with ⟨hc, z9, hz9, es⟩ | hc
  · cases h3 : inC a3 0 3 with
    | false =>
      refine ⟨2, f, enc (kingN f), sx, so, sc, fo, now, book, nst, 2, 0, ?_, ?_, AN_no (by decide), hR0⟩
      · unfold fL_put fX8_put
        rw [f_needSquare, hc, Option.bind_some, if_pos rfl, if_pos rfl]
        simp only [jn_eq, i32_le (a := a3) (b := 3)]
        unfold inC at h3
        by_cases e1 : a3 < 0
        · rw [if_pos e1]
          rfl
        · rw [decide_eq_false e1] at h3
          by_cases e2 : 3 < a3
          · rw [if_neg e1, if_neg (fun q => q e2)]
            rfl
          · rw [decide_eq_false e2] at h3
            exact absurd h3 (by decide)
      · unfold fX9_put
        rw [f_isCell, hc, show fX9_in a3.toInt64 0 3 = some (b01 (inC a3 0 3)) from f_in a3 0 3, h3]
        rfl
    | true =>
      have hp := inC_3 h3
      have g1 : ¬ a3 < 0 := by rcases hp with e | e | e | e <;> rw [e] <;> decide
      have g2 : a3 ≤ 3 := by rcases hp with e | e | e | e <;> rw [e] <;> decide
      have h9 : fX9_put nst now book a1 a2 a3 = if decide (sn = 0) && alP f a3 z9 then (fX9_save nst now book).bind (fun (r_12 : (Nat → Int32) × Int32) => some (now z9, upd now z9 a3, 0, r_12.1, r_12.2)) else some (0, now, 3, book, nst) := by
        unfold fX9_put
        rw [f_isCell, hc, show fX9_in a3.toInt64 0 3 = some (b01 (inC a3 0 3)) from f_in a3 0 3, h3]
        simp only [Option.bind_some, jn_eq]
        rw [if_neg (show ¬ b01 true = 0 by decide), if_neg (show ¬ b01 true = 0 by decide), if_neg (show ¬ b01 true = 0 by decide), if_neg (show ¬ b01 true = 0 by decide), es, f_mayPut now a3 hz9, e51, ← AG_alP ag]
        cases (decide (sn = 0) && alP f a3 z9) with
        | false => rfl
        | true =>
          rw [inB_t (by omega) (by decide), nI_clamp (by omega)]
          rfl
      by_cases hcan : (decide (sn = 0) && alP f a3 z9) = true
      · have hcan2 := hcan
        rw [Bool.and_eq_true, decide_eq_true_eq] at hcan2
        obtain ⟨hs0, hal⟩ := hcan2
        have hk3 : a3 = 3 → kingN f = none ∨ kingN f = some z9 := fun e => by
          unfold alP at hal
          rw [if_pos e, Bool.or_eq_true, decide_eq_true_eq, decide_eq_true_eq] at hal
          exact hal
        obtain ⟨hb, hq, C, M, s, n, k, t, ⟨hRS, hBK, hKP, hLV, hk4⟩, rfl, hs6, rfl, rfl, hn6, rfl, hsk, rfl, rfl, ht60, htf, hCM, hMN⟩ := hR
        obtain ⟨sx', so2, n2, book', hb', p1, p2, hs2, hn2, hB2⟩ := save_ok hs6 hn6 hBK hRS
        refine ⟨0, upd f z9 a3, enc (kingN (upd f z9 a3)), sx', nI so2, nI n2, vp_updL fo 0 (f z9).toInt64, upd now z9 a3, book', nI n2, 0, f z9, ?_, ?_, AN_yes, ?_⟩
        · unfold fL_put fX8_put
          rw [f_needSquare, hc, Option.bind_some, if_pos rfl, if_pos rfl]
          simp only [jn_eq]
          rw [if_neg g1, if_pos g2, if_pos hs0, es, f_allows8 f a3 hz9, hal, Option.bind_some]
          rw [if_neg (show ¬ b01 true = 0 by decide), p1, Option.bind_some, f_at hz9, Option.bind_some, f_set uk hz9 hk3]
          rfl
        · rw [h9, hcan, if_pos rfl, p2, Option.bind_some, ag z9 hz9]
        · refine ⟨hb', hq, C, M, so2, n2, k, t, ⟨⟨⟨AG_upd ag z9 a3, fun i hi => ?_, UK.put uk hk3, fun i hi he => ?_, rfl, ?_, ?_, ?_, ?_, hdm, ?_, ?_, ?_, ?_, ?_, ?_, ?_, ?_, h0, hok, fun e => ?_⟩, ?_, hRS.2.2.1, hRS.2.2.2⟩, hB2, hKP, hLV, hk4⟩, rfl, hs2, rfl, rfl, hn2, rfl, hsk, rfl, rfl, ht60, htf, hCM, by omega⟩
          · show upd f z9 a3 i = 0 ∨ upd f z9 a3 i = 1 ∨ upd f z9 a3 i = 2 ∨ upd f z9 a3 i = 3
            unfold upd
            split
            · exact hp
            · exact pb i hi
          · show upd f z9 a3 i = 0 ∨ upd f z9 a3 i = 3
            unfold upd
            by_cases e : i = z9
            · rw [if_pos e]
              by_cases e3 : a3 = 3
              · exact Or.inr e3
              · unfold alP at hal
                rw [if_neg e3, Bool.or_eq_true, decide_eq_true_eq] at hal
                rcases hal with h | h
                · exact Or.inl h
                · unfold rst at h
                  rw [decide_eq_false e3, ← e, he] at h
                  exact absurd h (by decide)
            · rw [if_neg e]
              exact ko i hi he
          · rw [upd_ne (by omega)]; exact hsg
          · rw [upd_ne (by omega)]; exact h52
          · rw [upd_ne (by omega)]; exact h50
          · rw [upd_ne (by omega)]; exact h49
          · rw [upd_ne (by omega)]; exact h51
          · rw [upd_ne (by omega)]; exact h53
          · rw [upd_ne (by omega)]; exact h54
          · rw [upd_ne (by omega)]; exact h55
          · rw [upd_ne (by omega)]; exact h56
          · rw [upd_ne (by omega)]; exact h57
          · rw [upd_ne (by omega)]; exact h58
          · rw [upd_ne (by omega)]; exact h59
          · have e : sn = 1 := e
            rw [hs0] at e
            exact absurd e (by decide)
          · rw [upd_ne (by omega)]; exact hRS.2.1
      · refine ⟨3, f, enc (kingN f), sx, so, sc, fo, now, book, nst, 3, 0, ?_, ?_, AN_no (by decide), hR0⟩
        · unfold fL_put fX8_put
          rw [f_needSquare, hc, Option.bind_some, if_pos rfl, if_pos rfl]
          simp only [jn_eq]
          rw [if_neg g1, if_pos g2, es, f_allows8 f a3 hz9]
          by_cases hs0 : sn = 0
          · rw [decide_eq_true hs0, Bool.true_and, Bool.not_eq_true] at hcan
            rw [if_pos hs0, hcan]
            rfl
          · rw [if_neg hs0]
            rfl
        · rw [h9, if_neg hcan]
  · refine ⟨1, f, enc (kingN f), sx, so, sc, fo, now, book, nst, 1, 0, ?_, ?_, AN_no (by decide), hR0⟩
    · unfold fL_put fX8_put
      rw [f_needSquare, hc]
      rfl
    · unfold fX9_put
      rw [f_isCell, hc]
      rfl
theorem c_append {K : List HP → Option Nat → Prop} {N : Nat} {hn : List HP} {f : Nat → Int32} {kk sg sn mv gm : Int32} {lt : Option Nat} {w1 w2 dg t1 t2 am so sc : Int32} {sx : Nat → SV} {skf : Nat → Int32} {qx : Nat → SV} {tl : Int32} {tf : Nat → Int32} {nst nn len : Int32} {now book kept isk : Nat → Int32} {F L : Nat → Int64} {B text : Nat → Int32} (hR : REL K N hn (f, kk, sg, sn, mv, gm, lt, w1, w2, dg, t1, t2, am) so sc sx skf qx tl tf nst nn len now book kept isk F L B text) (fo : Nat → Int64) (a1 : Int32) : ∃ ans tf' tl' fo' q b text' len', fL_append tl tf fo a1 = some (ans, tf', tl', fo') ∧ fX9_append len text a1 = some (b, q, text', len') ∧ AN ans q fo' b ∧ REL K (N + 1) hn (f, kk, sg, sn, mv, gm, lt, w1, w2, dg, t1, t2, am) so sc sx skf qx tl' tf' nst nn len' now book kept isk F L B text' := by
  have hR0 := REL_mono hR (K' := K) (N' := N + 1) (fun _ _ x => x) (by omega)
  obtain ⟨hb, hq, C, M, s, n, k, t, ⟨hRS, hBK, hKP, hLV, hk4⟩, rfl, hs6, rfl, rfl, hn6, rfl, hsk, rfl, rfl, ht60, htf, hCM, hMN⟩ := hR
  have hin : fX9_in a1.toInt64 33 126 = some (b01 (inC a1 33 126)) := f_in a1 33 126
  cases hc : inC a1 33 126 with
  | false =>
    refine ⟨1, tf, nI t, fo, 1, 0, text, nI t, ?_, ?_, AN_no (by decide), hR0⟩
    · unfold fL_append fX8_append
      simp only [jn_eq, i32_le (a := a1) (b := 126)]
      unfold inC at hc
      by_cases e1 : a1 < 33
      · rw [if_pos e1]
        rfl
      · rw [decide_eq_false e1] at hc
        by_cases e2 : 126 < a1
        · rw [if_neg e1, if_neg (fun q => q e2)]
          rfl
        · rw [decide_eq_false e2] at hc
          exact absurd hc (by decide)
    · unfold fX9_append
      rw [hin, hc]
      rfl
  | true =>
    have hc2 := hc
    unfold inC at hc2
    rw [Bool.and_eq_true, Bool.not_eq_true', Bool.not_eq_true', decide_eq_false_iff_not, decide_eq_false_iff_not] at hc2
    have n2 : a1 ≤ 126 := by rw [i32_le]; exact hc2.2
    by_cases e : t = 60
    · subst e
      refine ⟨2, tf, nI 60, fo, 2, 0, text, nI 60, ?_, ?_, AN_no (by decide), hR0⟩
      · unfold fL_append fX8_append
        simp only [jn_eq]
        rw [if_neg hc2.1, if_pos n2]
        rfl
      · unfold fX9_append
        rw [hin, hc]
        rfl
    · have hfull : fX4_isFull (nI t) = some 0 := by
        unfold fX4_isFull
        rw [if_pos (show nI t < 60 from nI_lt (b := 60) (by omega) (by decide))]
      refine ⟨0, upd tf t a1, nI (t + 1), vp_updL fo 0 (nI (t + 1)).toInt64, 0, nI (t + 1), upd text t a1, nI (t + 1), ?_, ?_, AN_yes, ?_⟩
      · unfold fL_append fX8_append fX4_add
        simp only [jn_eq]
        rw [if_neg hc2.1, if_pos n2, hfull, Option.bind_some, if_pos rfl, Option.bind_some, if_pos rfl, inB_t (i := t) (by omega) (by decide), grd_t, nI_clamp (by omega), nI_1]
        rfl
      · unfold fX9_append
        rw [hin, hc, Option.bind_some]
        simp only [jn_eq]
        rw [if_neg (show ¬ b01 true = 0 by decide), if_neg (by rw [show (60 : Int32) = nI 60 from rfl, nI_inj (by omega) (by decide)]; exact e)]
        show grd (inB (nI t) 60) _ = _
        rw [inB_t (i := t) (by omega) (by decide), grd_t, nI_clamp (by omega), nI_1]
      · refine ⟨hb, hq, C, M, s, n, k, t + 1, ⟨hRS, hBK, hKP, hLV, hk4⟩, rfl, hs6, rfl, rfl, hn6, rfl, hsk, rfl, rfl, by omega, fun i hi => ?_, hCM, by omega⟩
        unfold upd
        by_cases e2 : i = t
        · rw [if_pos e2, if_pos e2]
        · rw [if_neg e2, if_neg e2]
          exact htf i (by omega)
theorem c_clearBuffer {K : List HP → Option Nat → Prop} {N : Nat} {hn : List HP} {f : Nat → Int32} {kk sg sn mv gm : Int32} {lt : Option Nat} {w1 w2 dg t1 t2 am so sc : Int32} {sx : Nat → SV} {skf : Nat → Int32} {qx : Nat → SV} {tl : Int32} {tf : Nat → Int32} {nst nn len : Int32} {now book kept isk : Nat → Int32} {F L : Nat → Int64} {B text : Nat → Int32} (hR : REL K N hn (f, kk, sg, sn, mv, gm, lt, w1, w2, dg, t1, t2, am) so sc sx skf qx tl tf nst nn len now book kept isk F L B text) : fX8_clearBuffer tl = some (tl, 0) ∧ fX9_clearBuffer len = some (tl, 0, 0) ∧ REL K (N + 1) hn (f, kk, sg, sn, mv, gm, lt, w1, w2, dg, t1, t2, am) so sc sx skf qx 0 tf nst nn 0 now book kept isk F L B text := by
  obtain ⟨hb, hq, C, M, s, n, k, t, ⟨hRS, hBK, hKP, hLV, hk4⟩, rfl, hs6, rfl, rfl, hn6, rfl, hsk, rfl, rfl, ht60, htf, hCM, hMN⟩ := hR
  exact ⟨rfl, rfl, hb, hq, C, M, s, n, k, 0, ⟨hRS, hBK, hKP, hLV, hk4⟩, rfl, hs6, rfl, rfl, hn6, rfl, hsk, rfl, rfl, by omega, fun i hi => absurd hi (by omega), hCM, by omega⟩
theorem fit_congr {tf tg : Nat → Int32} {len : Nat} (h : ∀ i, i < len → tf i = tg i) : ∀ (m i : Nat), i + m = len → erF tf m i = erF tg m i
  | 0, _, _ => rfl
  | m + 1, i, e => by
    unfold erF
    rw [h i (by omega), fit_congr h m (i + 1) (by omega)]
theorem erN_congr {tf tg : Nat → Int32} {len : Nat} (h : ∀ i, i < len → tf i = tg i) : erN tf len = erN tg len := fit_congr h len 0 (by omega)
theorem tell_congr {tf tg : Nat → Int32} {len : Nat} (h : ∀ i, i < len → tf i = tg i) : tellB tf len = tellB tg len := by
  unfold tellB
  rw [erN_congr h]
theorem erN_tell {tf : Nat → Int32} {len : Nat} (h : tellB tf len = true) : erN tf len = len := by
  unfold tellB at h
  rw [Bool.and_eq_true, decide_eq_true_eq, decide_eq_true_eq] at h
  exact h.2
theorem c_firstError {K : List HP → Option Nat → Prop} {N : Nat} {hn : List HP} {f : Nat → Int32} {kk sg sn mv gm : Int32} {lt : Option Nat} {w1 w2 dg t1 t2 am so sc : Int32} {sx : Nat → SV} {skf : Nat → Int32} {qx : Nat → SV} {tl : Int32} {tf : Nat → Int32} {nst nn len : Int32} {now book kept isk : Nat → Int32} {F L : Nat → Int64} {B text : Nat → Int32} (hR : REL K N hn (f, kk, sg, sn, mv, gm, lt, w1, w2, dg, t1, t2, am) so sc sx skf qx tl tf nst nn len now book kept isk F L B text) (Mv tri : Nat → Int32) : ∃ ans tri' gd' pos' ps' sm', fX8_firstError tl tf = some ans ∧ fX9_firstError nst nn len now book kept isk F L B Mv tri text = some (ans, now, book, kept, F, L, B, Mv, nn, tri', gd', pos', ps', sm', 0) := by
  obtain ⟨hb, hq, C, M, s, n, k, t, ⟨hRS, hBK, hKP, hLV, hk4⟩, rfl, hs6, rfl, rfl, hn6, rfl, hsk, rfl, rfl, ht60, htf, hCM, hMN⟩ := hR
  obtain ⟨gd, q, e9, h⟩ := f_readAll0 (tf := text) ht60 (nI n) (nI k) now book kept isk F L B Mv tri
  refine ⟨nI (erN tf t), cpy now tri, gd, nI q, 0, 0, ?_, ?_⟩
  · unfold fX8_firstError
    rw [f_errorIndex tf ht60]
    rfl
  · unfold fX9_firstError
    rw [e9, Option.bind_some, erN_congr htf]
    rcases h with ⟨rfl, h⟩ | ⟨rfl, h⟩
    · rw [erN_tell h]
      rfl
    · rw [h.2.1]
      rfl
theorem slotC (a : Int32) : (inC a 0 1 = true ∧ ∃ j, j < 2 ∧ a = nI j) ∨ inC a 0 1 = false := by
  cases e : inC a 0 1 with
  | false => exact Or.inr rfl
  | true =>
    obtain ⟨k, hk, rfl⟩ := inC_num (m := 1) (by decide) e
    exact Or.inl ⟨rfl, k, by omega, rfl⟩
theorem f_keep9 {j : Nat} (hj : j < 2) (now kept isk : Nat → Int32) (rf : Int32) : fX9_keep_L22 now (nI j) 64 0 rf kept isk = some (rf, (fun i => if 61 * j ≤ i ∧ i < 61 * j + 61 then now (i - 61 * j) else kept i), upd isk j 1) := by
  have h : fX9_keep_L22 now (nI j) 64 (nI 0) rf (fun i => if 61 * j ≤ i ∧ i < 61 * j + 0 then now (i - 61 * j) else kept i) isk = some (rf, (fun i => if 61 * j ≤ i ∧ i < 61 * j + 61 then now (i - 61 * j) else kept i), upd isk j 1) := by
    refine lp_for (B := fun (zf : Int32 × Int32 × (Nat → Int32) × (Nat → Int32) → Option (Int32 × (Nat → Int32) × (Nat → Int32))) z => fX9_keep_L22_B now (nI j) (fun a b c d => zf (a, b, c, d)) z.1 z.2.1 z.2.2.1 z.2.2.2) (fun k => (nI k, rf, (fun i => if 61 * j ≤ i ∧ i < 61 * j + k then now (i - 61 * j) else kept i), isk)) 61 (fun k hk self => ?_) (fun self => ?_) (by omega)
    · show fX9_keep_L22_B now (nI j) _ (nI k) rf _ isk = _
      unfold fX9_keep_L22_B
      rw [if_neg (nle (c := 61) hk (by decide)), inB_t (i := k) (by omega) (by decide), grd_t, mul61 j (by omega), nI_add, inB_t (i := 61 * j + k) (by omega) (by decide), grd_t, nI_clamp (n := k) (by omega), nI_clamp (n := 61 * j + k) (by omega), nI_1]
      rw [show upd (fun i => if 61 * j ≤ i ∧ i < 61 * j + k then now (i - 61 * j) else kept i) (61 * j + k) (now k) = (fun i => if 61 * j ≤ i ∧ i < 61 * j + (k + 1) then now (i - 61 * j) else kept i) from by
        funext i
        unfold upd
        show (if i = 61 * j + k then now k else if 61 * j ≤ i ∧ i < 61 * j + k then now (i - 61 * j) else kept i) = if 61 * j ≤ i ∧ i < 61 * j + (k + 1) then now (i - 61 * j) else kept i
        by_cases e : i = 61 * j + k
        · rw [if_pos e, if_pos (by omega), show i - 61 * j = k by omega]
        · by_cases e2 : 61 * j ≤ i ∧ i < 61 * j + k
          · rw [if_neg e, if_pos e2, if_pos (by omega)]
          · rw [if_neg e, if_neg e2, if_neg (by omega)]]
    · show fX9_keep_L22_B now (nI j) _ (nI 61) rf _ isk = _
      unfold fX9_keep_L22_B
      rw [if_pos (by decide), inB_t (i := j) (by omega) (by decide), grd_t, nI_clamp (by omega)]
      rfl
  rw [show (fun i => if 61 * j ≤ i ∧ i < 61 * j + 0 then now (i - 61 * j) else kept i) = kept from by
    funext i
    exact if_neg (by omega)] at h
  exact h
theorem f_cF2 (f0 : Nat → Int32) (sn mv gm : Int32) (lt : Option Nat) (w1 w2 dg t1 t2 am kk : Int32) {sg : Int32} {g : Bool} (hg : sg = b01 g) (f : Nat → Int32) : fX7_copyFrom f0 sn mv gm lt w1 w2 dg t1 t2 am kk sg f = some (cpb f f0, kk, sg, sn, mv, gm, lt, w1, w2, dg, t1, t2, am) := by
  subst hg
  exact f_cF f0 sn mv gm lt w1 w2 dg t1 t2 am kk g f
theorem c_keep {K : List HP → Option Nat → Prop} {N : Nat} {hn : List HP} {f : Nat → Int32} {kk sg sn mv gm : Int32} {lt : Option Nat} {w1 w2 dg t1 t2 am so sc : Int32} {sx : Nat → SV} {skf : Nat → Int32} {qx : Nat → SV} {tl : Int32} {tf : Nat → Int32} {nst nn len : Int32} {now book kept isk : Nat → Int32} {F L : Nat → Int64} {B text : Nat → Int32} (hR : REL K N hn (f, kk, sg, sn, mv, gm, lt, w1, w2, dg, t1, t2, am) so sc sx skf qx tl tf nst nn len now book kept isk F L B text) (a1 : Int32) : ∃ ans qx' skf' q kept' isk', fL_keep sn mv gm lt w1 w2 dg t1 t2 am kk sg f skf qx a1 = some (ans, qx', skf') ∧ fX9_keep now kept isk a1 = some (q, kept', isk') ∧ q = ans ∧ REL K (N + 1) hn (f, kk, sg, sn, mv, gm, lt, w1, w2, dg, t1, t2, am) so sc sx skf' qx' tl tf nst nn len now book kept' isk' F L B text := by
  have hR0 := REL_mono hR (K' := K) (N' := N + 1) (fun _ _ x => x) (by omega)
  have hg := RP_sg (REL_RP hR)
  rcases slotC a1 with ⟨hc, j, hj, rfl⟩ | hc
  · have key : ∃ qx' f0, fL_keep sn mv gm lt w1 w2 dg t1 t2 am kk sg f skf qx (nI j) = some (0, qx', upd skf j 1) ∧ qx' j = (cpb f f0, kk, sg, sn, mv, gm, lt, w1, w2, dg, t1, t2, am) ∧ ∀ i, i < 2 → i ≠ j → qx' i = qx i := by
      unfold fL_keep fX8_keep
      rw [f_needSlot, hc, Option.bind_some, if_pos rfl, if_pos rfl]
      rcases (by omega : j = 0 ∨ j = 1) with e | e
      · subst e
        rw [show inB (nI 0) 2 = true from rfl, grd_t, if_pos (show nI 0 = 0 from rfl), f_cF2 _ sn mv gm lt w1 w2 dg t1 t2 am kk hg f, Option.bind_some]
        exact ⟨_, _, rfl, rfl, fun i hi hne => by
          have : i = 1 := by omega
          subst this
          rfl⟩
      · subst e
        rw [show inB (nI 1) 2 = true from rfl, grd_t, if_neg (show ¬ nI 1 = 0 by decide), if_pos (show nI 1 = 1 from rfl), f_cF2 _ sn mv gm lt w1 w2 dg t1 t2 am kk hg f, Option.bind_some]
        exact ⟨_, _, rfl, rfl, fun i hi hne => by
          have : i = 0 := by omega
          subst this
          rfl⟩
    obtain ⟨qx', f0, e8, q1, q2⟩ := key
    obtain ⟨hb, hq, C, M, s, n, k, t, ⟨hRS, hBK, hKP, hLV, hk4⟩, rfl, hs6, rfl, rfl, hn6, rfl, hsk, rfl, rfl, ht60, htf, hCM, hMN⟩ := hR
    refine ⟨0, qx', upd skf j 1, 0, (fun i => if 61 * j ≤ i ∧ i < 61 * j + 61 then now (i - 61 * j) else kept i), upd isk j 1, e8, ?_, rfl, ?_⟩
    · unfold fX9_keep
      rw [f_isSlot, hc]
      exact f_keep9 hj now kept isk 0
    · refine ⟨hb, fun i => if i = j then hn else hq i, C, M, s, n, k, t, ⟨hRS, hBK, fun i hi h0 => ?_, hLV, hk4⟩, rfl, hs6, rfl, rfl, hn6, rfl, fun i hi => ?_, rfl, rfl, ht60, htf, hCM, by omega⟩
      · show RS K F L B C M (qx' i) _ (if i = j then hn else hq i)
        by_cases e : i = j
        · subst e
          rw [if_pos rfl, q1]
          refine RS_cp hRS (cpb f f0) (AG_cpb f f0) (fun r hr => ?_)
          show (if 61 * i ≤ 61 * i + r ∧ 61 * i + r < 61 * i + 61 then now (61 * i + r - 61 * i) else kept (61 * i + r)) = now r
          rw [if_pos (by omega)]
          exact congrArg now (by omega)
        · rw [if_neg e, q2 i hi e]
          rw [upd_ne e] at h0
          refine RS_cp (hKP i hi h0) (qx i).1 (AG_rfl _) (fun r hr => ?_)
          show (if 61 * j ≤ 61 * i + r ∧ 61 * i + r < 61 * j + 61 then now (61 * i + r - 61 * j) else kept (61 * i + r)) = kept (61 * i + r)
          rw [if_neg (by omega)]
      · unfold upd
        split
        · rfl
        · exact hsk i hi
  · refine ⟨1, qx, skf, 1, kept, isk, ?_, ?_, rfl, hR0⟩
    · unfold fL_keep fX8_keep
      rw [f_needSlot, hc]
      rfl
    · unfold fX9_keep
      rw [f_isSlot, hc]
      rfl
theorem f_goB {j : Nat} (hj : j < 2) (now kept bk : Nat → Int32) (rf st : Int32) : fX9_goBack_L39 kept (nI j) 64 0 rf now bk st = some (rf, (fun i => if i < 61 then kept (61 * j + i) else now i), bk, st) := by
  have h : fX9_goBack_L39 kept (nI j) 64 (nI 0) rf (fun i => if i < 0 then kept (61 * j + i) else now i) bk st = some (rf, (fun i => if i < 61 then kept (61 * j + i) else now i), bk, st) := by
    refine lp_for (B := fun (zf : Int32 × Int32 × (Nat → Int32) × (Nat → Int32) × Int32 → Option (Int32 × (Nat → Int32) × (Nat → Int32) × Int32)) z => fX9_goBack_L39_B kept (nI j) (fun a b c d e => zf (a, b, c, d, e)) z.1 z.2.1 z.2.2.1 z.2.2.2.1 z.2.2.2.2) (fun k => (nI k, rf, (fun i => if i < k then kept (61 * j + i) else now i), bk, st)) 61 (fun k hk self => ?_) (fun self => ?_) (by omega)
    · show fX9_goBack_L39_B kept (nI j) _ (nI k) rf _ bk st = _
      unfold fX9_goBack_L39_B
      rw [if_neg (nle (c := 61) hk (by decide)), mul61 j (by omega), nI_add, inB_t (i := 61 * j + k) (by omega) (by decide), grd_t, inB_t (i := k) (by omega) (by decide), grd_t, nI_clamp (n := k) (by omega), nI_clamp (n := 61 * j + k) (by omega), nI_1]
      rw [show upd (fun i => if i < k then kept (61 * j + i) else now i) k (kept (61 * j + k)) = (fun i => if i < k + 1 then kept (61 * j + i) else now i) from by
        funext i
        unfold upd
        show (if i = k then kept (61 * j + k) else if i < k then kept (61 * j + i) else now i) = if i < k + 1 then kept (61 * j + i) else now i
        by_cases e : i = k
        · rw [if_pos e, if_pos (by omega), e]
        · by_cases e2 : i < k
          · rw [if_neg e, if_pos e2, if_pos (by omega)]
          · rw [if_neg e, if_neg e2, if_neg (by omega)]]
    · show fX9_goBack_L39_B kept (nI j) _ (nI 61) rf _ bk st = _
      unfold fX9_goBack_L39_B
      rw [if_pos (by decide)]
  exact h
theorem c_goBack {K : List HP → Option Nat → Prop} {N : Nat} {hn : List HP} {f : Nat → Int32} {kk sg sn mv gm : Int32} {lt : Option Nat} {w1 w2 dg t1 t2 am so sc : Int32} {sx : Nat → SV} {skf : Nat → Int32} {qx : Nat → SV} {tl : Int32} {tf : Nat → Int32} {nst nn len : Int32} {now book kept isk : Nat → Int32} {F L : Nat → Int64} {B text : Nat → Int32} (hR : REL K N hn (f, kk, sg, sn, mv, gm, lt, w1, w2, dg, t1, t2, am) so sc sx skf qx tl tf nst nn len now book kept isk F L B text) (a1 : Int32) : ∃ ans f' kk' sg' sn' mv' gm' lt' w1' w2' dg' t1' t2' am' sx' so' sc' q now' book' nst' hn', fL_goBack sn mv gm lt w1 w2 dg t1 t2 am kk sg f so sc skf sx qx a1 = some (ans, f', kk', sg', sn', mv', gm', lt', w1', w2', dg', t1', t2', am', sx', so', sc') ∧ fX9_goBack nst now book kept isk a1 = some (q, now', book', nst') ∧ q = ans ∧ REL K (N + 1) hn' (f', kk', sg', sn', mv', gm', lt', w1', w2', dg', t1', t2', am') so' sc' sx' skf qx tl tf nst' nn len now' book' kept isk F L B text := by
  have hR0 := REL_mono hR (K' := K) (N' := N + 1) (fun _ _ x => x) (by omega)
  rcases slotC a1 with ⟨hc, j, hj, rfl⟩ | hc
  · obtain ⟨hb, hq, C, M, s, n, k, t, ⟨hRS, hBK, hKP, hLV, hk4⟩, rfl, hs6, rfl, rfl, hn6, rfl, hsk, rfl, rfl, ht60, htf, hCM, hMN⟩ := hR
    by_cases h0 : isk j = 0
    · refine ⟨2, f, kk, sg, sn, mv, gm, lt, w1, w2, dg, t1, t2, am, sx, nI s, nI n, 2, now, book, nI n, hn, ?_, ?_, rfl, hR0⟩
      · unfold fL_goBack fX8_goBack
        rw [f_needSlot, hc, Option.bind_some, if_pos rfl, if_pos rfl, inB_t (by omega) (by decide), grd_t, nI_clamp (by omega), hsk j hj, if_pos h0]
        rfl
      · unfold fX9_goBack
        rw [f_isSlot, hc, Option.bind_some]
        simp only [jn_eq]
        rw [if_neg (show ¬ b01 true = 0 by decide), inB_t (by omega) (by decide), grd_t, nI_clamp (by omega), if_pos h0]
        rfl
    · obtain ⟨sx', so2, n2, book', hb', p1, p2, hs2, hn2, hB2⟩ := save_ok hs6 hn6 hBK hRS
      have hQ := hKP j hj h0
      have hgq := RP_sg hQ.1
      refine ⟨0, cpb (qx j).1 f, (qx j).2.1, (qx j).2.2.1, (qx j).2.2.2.1, (qx j).2.2.2.2.1, (qx j).2.2.2.2.2.1, (qx j).2.2.2.2.2.2.1, (qx j).2.2.2.2.2.2.2.1, (qx j).2.2.2.2.2.2.2.2.1, (qx j).2.2.2.2.2.2.2.2.2.1, (qx j).2.2.2.2.2.2.2.2.2.2.1, (qx j).2.2.2.2.2.2.2.2.2.2.2.1, (qx j).2.2.2.2.2.2.2.2.2.2.2.2, sx', nI so2, nI n2, 0, (fun i => if i < 61 then kept (61 * j + i) else now i), book', nI n2, hq j, ?_, ?_, rfl, ?_⟩
      · unfold fL_goBack fX8_goBack
        rw [f_needSlot, hc, Option.bind_some, if_pos rfl, if_pos rfl, inB_t (by omega) (by decide), grd_t, nI_clamp (by omega), hsk j hj, if_neg h0, p1, Option.bind_some, grd_t]
        rcases (by omega : j = 0 ∨ j = 1) with e | e
        · subst e
          rw [if_pos (show nI 0 = 0 from rfl), f_cF2 _ _ _ _ _ _ _ _ _ _ _ _ hgq _]
          rfl
        · subst e
          rw [if_neg (show ¬ nI 1 = 0 by decide), if_pos (show nI 1 = 1 from rfl), f_cF2 _ _ _ _ _ _ _ _ _ _ _ _ hgq _]
          rfl
      · unfold fX9_goBack
        rw [f_isSlot, hc, Option.bind_some]
        simp only [jn_eq]
        rw [if_neg (show ¬ b01 true = 0 by decide), inB_t (by omega) (by decide), grd_t, nI_clamp (by omega), if_neg h0]
        show (fX9_save (nI n) now book).bind _ = _
        rw [p2, Option.bind_some]
        exact f_goB hj now kept book' 0 (nI n2)
      · exact ⟨hb', hq, C, M, so2, n2, k, t, ⟨RS_cp hQ (cpb (qx j).1 f) (AG_cpb _ _) (fun i hi => if_pos hi), hB2, hKP, hLV, hk4⟩, rfl, hs2, rfl, rfl, hn2, rfl, hsk, rfl, rfl, ht60, htf, hCM, by omega⟩
  · refine ⟨1, f, kk, sg, sn, mv, gm, lt, w1, w2, dg, t1, t2, am, sx, so, sc, 1, now, book, nst, hn, ?_, ?_, rfl, hR0⟩
    · unfold fL_goBack fX8_goBack
      rw [f_needSlot, hc]
      rfl
    · unfold fX9_goBack
      rw [f_isSlot, hc]
      rfl
theorem f_und {n : Nat} (hn : n < 6) (now book : Nat → Int32) (rf : Int32) : fX9_undo_L32 book 64 0 rf now (nI n) = some (rf, (fun i => if i < 61 then book (61 * n + i) else now i), nI n) := by
  have h : fX9_undo_L32 book 64 (nI 0) rf (fun i => if i < 0 then book (61 * n + i) else now i) (nI n) = some (rf, (fun i => if i < 61 then book (61 * n + i) else now i), nI n) := by
    refine lp_for (B := fun (zf : Int32 × Int32 × (Nat → Int32) × Int32 → Option (Int32 × (Nat → Int32) × Int32)) z => fX9_undo_L32_B book (fun a b c d => zf (a, b, c, d)) z.1 z.2.1 z.2.2.1 z.2.2.2) (fun k => (nI k, rf, (fun i => if i < k then book (61 * n + i) else now i), nI n)) 61 (fun k hk self => ?_) (fun self => ?_) (by omega)
    · show fX9_undo_L32_B book _ (nI k) rf _ (nI n) = _
      unfold fX9_undo_L32_B
      rw [if_neg (nle (c := 61) hk (by decide)), mul61 n (by omega), nI_add, inB_t (i := 61 * n + k) (by omega) (by decide), grd_t, inB_t (i := k) (by omega) (by decide), grd_t, nI_clamp (n := k) (by omega), nI_clamp (n := 61 * n + k) (by omega), nI_1]
      rw [show upd (fun i => if i < k then book (61 * n + i) else now i) k (book (61 * n + k)) = (fun i => if i < k + 1 then book (61 * n + i) else now i) from by
        funext i
        unfold upd
        show (if i = k then book (61 * n + k) else if i < k then book (61 * n + i) else now i) = if i < k + 1 then book (61 * n + i) else now i
        by_cases e : i = k
        · rw [if_pos e, if_pos (by omega), e]
        · by_cases e2 : i < k
          · rw [if_neg e, if_pos e2, if_pos (by omega)]
          · rw [if_neg e, if_neg e2, if_neg (by omega)]]
    · show fX9_undo_L32_B book _ (nI 61) rf _ (nI n) = _
      unfold fX9_undo_L32_B
      rw [if_pos (by decide)]
  exact h
theorem f_pop {so n : Nat} (hs : so < 6) (hn : n < 6) (f : Nat → Int32) (kk sg sn mv gm : Int32) (lt : Option Nat) (w1 w2 dg t1 t2 am : Int32) (sx : Nat → SV) {g : Bool} (hg : (sx ((so + n) % 6)).2.2.1 = b01 g) : fX6_popInto (nI so) (nI (n + 1)) sn mv gm lt w1 w2 dg t1 t2 am kk sg f sx = some (cpb (sx ((so + n) % 6)).1 f, (sx ((so + n) % 6)).2.1, (sx ((so + n) % 6)).2.2.1, (sx ((so + n) % 6)).2.2.2.1, (sx ((so + n) % 6)).2.2.2.2.1, (sx ((so + n) % 6)).2.2.2.2.2.1, (sx ((so + n) % 6)).2.2.2.2.2.2.1, (sx ((so + n) % 6)).2.2.2.2.2.2.2.1, (sx ((so + n) % 6)).2.2.2.2.2.2.2.2.1, (sx ((so + n) % 6)).2.2.2.2.2.2.2.2.2.1, (sx ((so + n) % 6)).2.2.2.2.2.2.2.2.2.2.1, (sx ((so + n) % 6)).2.2.2.2.2.2.2.2.2.2.2.1, (sx ((so + n) % 6)).2.2.2.2.2.2.2.2.2.2.2.2, nI so, nI n) := by
  have hj : (so + n) % 6 < 6 := Nat.mod_lt _ (by decide)
  unfold fX6_popInto
  rw [if_neg (le0 (by omega)), nI_p (by omega), nI_add, mod6 _ (by omega), inB_t hj (by decide), grd_t]
  refine (if6 hj (fun j => (fX7_copyFrom f ((sx j).2.2.2.1) ((sx j).2.2.2.2.1) ((sx j).2.2.2.2.2.1) ((sx j).2.2.2.2.2.2.1) ((sx j).2.2.2.2.2.2.2.1) ((sx j).2.2.2.2.2.2.2.2.1) ((sx j).2.2.2.2.2.2.2.2.2.1) ((sx j).2.2.2.2.2.2.2.2.2.2.1) ((sx j).2.2.2.2.2.2.2.2.2.2.2.1) ((sx j).2.2.2.2.2.2.2.2.2.2.2.2) ((sx j).2.1) ((sx j).2.2.1) ((sx j).1)).bind (fun r => some (r.1, r.2.1, r.2.2.1, r.2.2.2.1, r.2.2.2.2.1, r.2.2.2.2.2.1, r.2.2.2.2.2.2.1, r.2.2.2.2.2.2.2.1, r.2.2.2.2.2.2.2.2.1, r.2.2.2.2.2.2.2.2.2.1, r.2.2.2.2.2.2.2.2.2.2.1, r.2.2.2.2.2.2.2.2.2.2.2.1, r.2.2.2.2.2.2.2.2.2.2.2.2, nI so, nI n))) none).trans ?_
  rw [f_cF2 _ _ _ _ _ _ _ _ _ _ _ _ hg _, Option.bind_some]
theorem c_undo {K : List HP → Option Nat → Prop} {N : Nat} {hn : List HP} {f : Nat → Int32} {kk sg sn mv gm : Int32} {lt : Option Nat} {w1 w2 dg t1 t2 am so sc : Int32} {sx : Nat → SV} {skf : Nat → Int32} {qx : Nat → SV} {tl : Int32} {tf : Nat → Int32} {nst nn len : Int32} {now book kept isk : Nat → Int32} {F L : Nat → Int64} {B text : Nat → Int32} (hR : REL K N hn (f, kk, sg, sn, mv, gm, lt, w1, w2, dg, t1, t2, am) so sc sx skf qx tl tf nst nn len now book kept isk F L B text) : ∃ ans f' kk' sg' sn' mv' gm' lt' w1' w2' dg' t1' t2' am' so' sc' q now' nst' hn', fL_undo sn mv gm lt w1 w2 dg t1 t2 am kk sg f so sc sx = some (ans, f', kk', sg', sn', mv', gm', lt', w1', w2', dg', t1', t2', am', so', sc') ∧ fX9_undo nst now book = some (q, now', nst') ∧ q = ans ∧ REL K (N + 1) hn' (f', kk', sg', sn', mv', gm', lt', w1', w2', dg', t1', t2', am') so' sc' sx skf qx tl tf nst' nn len now' book kept isk F L B text := by
  have hR0 := REL_mono hR (K' := K) (N' := N + 1) (fun _ _ x => x) (by omega)
  obtain ⟨hb, hq, C, M, s, n, k, t, ⟨hRS, hBK, hKP, hLV, hk4⟩, rfl, hs6, rfl, rfl, hn6, rfl, hsk, rfl, rfl, ht60, htf, hCM, hMN⟩ := hR
  by_cases h0 : n = 0
  · subst h0
    refine ⟨1, f, kk, sg, sn, mv, gm, lt, w1, w2, dg, t1, t2, am, nI s, nI 0, 1, now, nI 0, hn, rfl, rfl, rfl, hR0⟩
  · obtain ⟨m, rfl⟩ : ∃ m, n = m + 1 := ⟨n - 1, by omega⟩
    have hQ := hBK m (by omega)
    have hgq := RP_sg hQ.1
    have z : ¬ nI (m + 1) = 0 := by rw [nI_z (by omega)]; omega
    refine ⟨0, cpb (sx ((s + m) % 6)).1 f, (sx ((s + m) % 6)).2.1, (sx ((s + m) % 6)).2.2.1, (sx ((s + m) % 6)).2.2.2.1, (sx ((s + m) % 6)).2.2.2.2.1, (sx ((s + m) % 6)).2.2.2.2.2.1, (sx ((s + m) % 6)).2.2.2.2.2.2.1, (sx ((s + m) % 6)).2.2.2.2.2.2.2.1, (sx ((s + m) % 6)).2.2.2.2.2.2.2.2.1, (sx ((s + m) % 6)).2.2.2.2.2.2.2.2.2.1, (sx ((s + m) % 6)).2.2.2.2.2.2.2.2.2.2.1, (sx ((s + m) % 6)).2.2.2.2.2.2.2.2.2.2.2.1, (sx ((s + m) % 6)).2.2.2.2.2.2.2.2.2.2.2.2, nI s, nI m, 0, (fun i => if i < 61 then book (61 * m + i) else now i), nI m, hb m, ?_, ?_, rfl, ?_⟩
    · unfold fL_undo fX8_undo
      rw [if_neg z, f_pop hs6 (by omega) f kk sg sn mv gm lt w1 w2 dg t1 t2 am sx hgq]
      rfl
    · unfold fX9_undo
      simp only [jn_eq]
      rw [if_neg z]
      show fX9_undo_L32 book 64 0 0 now (nI (m + 1) - 1) = _
      rw [nI_p (by omega)]
      exact f_und (by omega) now book 0
    · exact ⟨hb, hq, C, M, s, m, k, t, ⟨RS_cp hQ (cpb (sx ((s + m) % 6)).1 f) (AG_cpb _ _) (fun i hi => if_pos hi), fun i hi => hBK i (by omega), hKP, hLV, hk4⟩, rfl, hs6, rfl, rfl, by omega, rfl, hsk, rfl, rfl, ht60, htf, hCM, by omega⟩
theorem c_savedStates {K : List HP → Option Nat → Prop} {N : Nat} {hn : List HP} {f : Nat → Int32} {kk sg sn mv gm : Int32} {lt : Option Nat} {w1 w2 dg t1 t2 am so sc : Int32} {sx : Nat → SV} {skf : Nat → Int32} {qx : Nat → SV} {tl : Int32} {tf : Nat → Int32} {nst nn len : Int32} {now book kept isk : Nat → Int32} {F L : Nat → Int64} {B text : Nat → Int32} (hR : REL K N hn (f, kk, sg, sn, mv, gm, lt, w1, w2, dg, t1, t2, am) so sc sx skf qx tl tf nst nn len now book kept isk F L B text) : fX8_savedStates sc = some sc ∧ fX9_savedStates nst = some (sc, 0) := by
  obtain ⟨hb, hq, C, M, s, n, k, t, ⟨hRS, hBK, hKP, hLV, hk4⟩, rfl, hs6, rfl, rfl, hn6, rfl, hsk, rfl, rfl, ht60, htf, hCM, hMN⟩ := hR
  exact ⟨rfl, rfl⟩
theorem c_timesSeenS {K : List HP → Option Nat → Prop} {N : Nat} {hn : List HP} {f : Nat → Int32} {kk sg sn mv gm : Int32} {lt : Option Nat} {w1 w2 dg t1 t2 am so sc : Int32} {sx : Nat → SV} {skf : Nat → Int32} {qx : Nat → SV} {tl : Int32} {tf : Nat → Int32} {nst nn len : Int32} {now book kept isk : Nat → Int32} {F L : Nat → Int64} {B text : Nat → Int32} {p : HP} {tt : List HP} (hR : REL K N (p :: tt) (f, kk, sg, sn, mv, gm, lt, w1, w2, dg, t1, t2, am) so sc sx skf qx tl tf nst nn len now book kept isk F L B text) (hN : N < 600) (fo : Nat → Int64) : ∃ k fo' b q, fL_timesSeenS sn fo (newPC p tt) = some (k, fo') ∧ fX9_timesSeen now F L B = some (b, q) ∧ AN k q fo' b := by
  obtain ⟨hb, hq, C, M, s, n, k, t, ⟨hRS, hBK, hKP, hLV, hk4⟩, rfl, hs6, rfl, rfl, hn6, rfl, hsk, rfl, rfl, ht60, htf, hCM, hMN⟩ := hR
  have hlen : (p :: tt).length ≤ M := hRS.2.2.2
  rw [List.length_cons] at hlen
  exact r_timesSeenS hRS.1 (by omega) hLV hk4 hRS.2.1 fo
theorem AG_pL {b c : Nat → Int32} (h : AG b c) : pL b = pL c := by
  unfold pL
  rw [← AG_kingN h]
  cases hk : kingN b with
  | none => rfl
  | some k =>
    show (nI (prN b k) + 1).toInt64 = (nI (prN c k) + 1).toInt64
    rw [AG_prN h (king_lt _ hk)]
theorem c_digestN {K : List HP → Option Nat → Prop} {N : Nat} {hn : List HP} {f : Nat → Int32} {kk sg sn mv gm : Int32} {lt : Option Nat} {w1 w2 dg t1 t2 am so sc : Int32} {sx : Nat → SV} {skf : Nat → Int32} {qx : Nat → SV} {tl : Int32} {tf : Nat → Int32} {nst nn len : Int32} {now book kept isk : Nat → Int32} {F L : Nat → Int64} {B text : Nat → Int32} (hR : REL K N hn (f, kk, sg, sn, mv, gm, lt, w1, w2, dg, t1, t2, am) so sc sx skf qx tl tf nst nn len now book kept isk F L B text) (h1 : hn = []) (rk rs : Int32) (rf rmf mf krf kqf tri wy : Nat → Int32) : ∃ r tri' wy' q, fX8_digestN sn mv gm w1 w2 dg t1 t2 am kk sg f rk rs rf rmf mf krf kqf sc skf tl tf = some r ∧ fX9_digest nst len now tri wy isk F L B text = some (r.1, q, tri', wy') := by
  have hr := REL_RP hR
  obtain ⟨hb, hq, C, M, s, n, k, t, ⟨hRS, hBK, hKP, hLV, hk4⟩, rfl, hs6, rfl, rfl, hn6, rfl, hsk, rfl, rfl, ht60, htf, hCM, hMN⟩ := hR
  obtain ⟨ag, pb, uk, ko, rfl, hsg, h52, h50, h49, hdm, h51, h53, h54, h55, h56, h57, h58, h59, h0, hok, hrun⟩ := hr
  have hs0 : sn = 0 := h0.mpr h1
  obtain ⟨q, r, hq2, e8, e1⟩ := d_digN pb uk ko (decide (now 52 = 1)) sn mv gm w1 w2 dg t1 t2 am (nI n) rk rs rf rmf mf krf kqf skf tf ht60
  rw [← hsg] at e8
  have hqn : MD now (kingN now) q := by
    rw [← AG_kingN ag]
    exact AG_MD ag hq2
  obtain ⟨tri', wy', e9⟩ := d_dig9 (AG_PB ag pb) (h52.trans hsg) hqn (seen := 0) (F := F) (L := L) (B := B) (by rw [h50, if_pos hs0]) (nI n) ht60 tri wy isk text
  refine ⟨r, tri', wy', 0, e8, ?_⟩
  rw [e9, e1]
  unfold dV gV mV kV aV bV
  rw [h50, h49, h53, h55, h56, h57, h58, h59, h54, ← AG_hS ag 49 (Nat.le_refl _), ← AG_cpN ag, ← AG_cpN ag, ← AG_kingN ag, ← AG_mcN ag, ← AG_mcN ag, ← AG_WN ag, ← AG_WN ag, ← AG_LMv ag, ← AG_LMv ag, hsk 0 (by decide), hsk 1 (by decide), txV_congr t 0 (fun j _ hj => htf j (by omega)), ← AG_pL ag]
theorem c_digestS {K : List HP → Option Nat → Prop} {N : Nat} {hn : List HP} {f : Nat → Int32} {kk sg sn mv gm : Int32} {lt : Option Nat} {w1 w2 dg t1 t2 am so sc : Int32} {sx : Nat → SV} {skf : Nat → Int32} {qx : Nat → SV} {tl : Int32} {tf : Nat → Int32} {nst nn len : Int32} {now book kept isk : Nat → Int32} {F L : Nat → Int64} {B text : Nat → Int32} {p : HP} {tt : List HP} (hR : REL K N (p :: tt) (f, kk, sg, sn, mv, gm, lt, w1, w2, dg, t1, t2, am) so sc sx skf qx tl tf nst nn len now book kept isk F L B text) (hN : N < 600) (rk rs : Int32) (rf rmf mf krf kqf tri wy : Nat → Int32) : ∃ r tri' wy' q, fX8_digestS sn mv gm w1 w2 dg t1 t2 am kk sg f rk rs rf rmf mf krf kqf sc skf tl tf (newPC p tt) = some r ∧ fX9_digest nst len now tri wy isk F L B text = some (r.1, q, tri', wy') := by
  have hr := REL_RP hR
  obtain ⟨hb, hq, C, M, s, n, k, t, ⟨hRS, hBK, hKP, hLV, hk4⟩, rfl, hs6, rfl, rfl, hn6, rfl, hsk, rfl, rfl, ht60, htf, hCM, hMN⟩ := hR
  have hlen : (p :: tt).length ≤ M := hRS.2.2.2
  rw [List.length_cons] at hlen
  obtain ⟨ag, pb, uk, ko, rfl, hsg, h52, h50, h49, hdm, h51, h53, h54, h55, h56, h57, h58, h59, h0, hok, hrun⟩ := hr
  have hs0 : ¬ sn = 0 := fun e => nomatch h0.mp e
  have hs := f_seen (C := fun i => i ∈ C) (fun i hi => by have := (hLV i hi).1; omega) hok (by omega) hRS.2.1
  obtain ⟨q, r, hq2, e8, e1⟩ := d_digS pb uk ko (decide (now 52 = 1)) sn mv gm w1 w2 dg t1 t2 am (nI n) rk rs rf rmf mf krf kqf skf tf ht60 p tt
  rw [← hsg] at e8
  have hqn : MD now (kingN now) q := by
    rw [← AG_kingN ag]
    exact AG_MD ag hq2
  obtain ⟨tri', wy', e9⟩ := d_dig9 (AG_PB ag pb) (h52.trans hsg) hqn (seen := nI (1 + occ p tt)) (F := F) (L := L) (B := B) (by rw [h50, if_neg hs0]; exact hs) (nI n) ht60 tri wy isk text
  refine ⟨r, tri', wy', 0, e8, ?_⟩
  rw [e9, e1]
  unfold dV gV mV kV aV bV
  rw [h50, h49, h53, h55, h56, h57, h58, h59, h54, ← AG_hS ag 49 (Nat.le_refl _), ← AG_cpN ag, ← AG_cpN ag, ← AG_kingN ag, ← AG_mcN ag, ← AG_mcN ag, ← AG_WN ag, ← AG_WN ag, ← AG_LMv ag, ← AG_LMv ag, hsk 0 (by decide), hsk 1 (by decide), txV_congr t 0 (fun j _ hj => htf j (by omega)), ← AG_pL ag]

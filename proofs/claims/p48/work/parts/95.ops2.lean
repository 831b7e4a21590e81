/-! ===== texts, snapshots, undo, the digest ===== -/
def o_append (st : PS) (c : Int32) : Int64 × PS := if inC c 33 126 then (if st.2.2.2.1 = 60 then (XS, st) else ((nI (st.2.2.2.1 + 1)).toInt64, (st.1, st.2.1, st.2.2.1, st.2.2.2.1 + 1, upd st.2.2.2.2 st.2.2.2.1 c))) else (XA, st)
theorem g_append {st : PS} (h : GD st) (c : Int32) : GD (o_append st c).2 := by
  unfold o_append
  split
  · split
    · exact h
    · exact h
  · exact h
def o_clearBuffer (st : PS) : Int32 × PS := (nI st.2.2.2.1, (st.1, st.2.1, st.2.2.1, 0, st.2.2.2.2))
theorem g_clearBuffer {st : PS} (h : GD st) : GD (o_clearBuffer st).2 := h
def v_firstError (st : PS) : Int32 := nI (erN st.2.2.2.2 st.2.2.2.1)
def updS (sl : Nat → Option AS) (j : Nat) (a : AS) (i : Nat) : Option AS := if i = j then some a else sl i
def o_keep (st : PS) (j : Int32) : Int64 × PS := if inC j 0 1 then (0, (st.1, st.2.1, updS st.2.2.1 (iN j) st.1, st.2.2.2)) else (XA, st)
theorem g_keep {st : PS} (h : GD st) (j : Int32) : GD (o_keep st j).2 := by
  unfold o_keep
  split
  · refine ⟨h.1, h.2.1, fun i hi a e => ?_⟩
    have e : updS st.2.2.1 (iN j) st.1 i = some a := e
    unfold updS at e
    split at e
    · rw [← Option.some.inj e]
      exact h.1
    · exact h.2.2 i hi a e
  · exact h
def o_goBack (st : PS) (j : Int32) : Int64 × PS := if inC j 0 1 then (match st.2.2.1 (iN j) with
  | none => (XS, st)
  | some b => (0, o_push st b)) else (XA, st)
theorem iN_slot {j : Int32} (h : inC j 0 1 = true) : iN j < 2 := by
  rcases slotC j with ⟨_, i, hi, rfl⟩ | q
  · rw [show iN (nI i) = i from nI_clamp (by omega)]
    exact hi
  · rw [h] at q
    cases q
theorem g_goBack {st : PS} (h : GD st) (j : Int32) : GD (o_goBack st j).2 := by
  unfold o_goBack
  split
  · rename_i hj
    cases e : st.2.2.1 (iN j) with
    | none => exact h
    | some b => exact GD_push h (h.2.2 _ (iN_slot hj) b e)
  · exact h
def o_undo (st : PS) : Int64 × PS := match st.2.1.getLast? with
  | none => (XS, st)
  | some b => (0, (b, st.2.1.dropLast, st.2.2))
theorem g_undo {st : PS} (h : GD st) : GD (o_undo st).2 := by
  unfold o_undo
  cases e : st.2.1.getLast? with
  | none => exact h
  | some b => exact ⟨h.2.1 b (List.mem_of_getLast? e), fun a ha => h.2.1 a (List.dropLast_subset _ ha), h.2.2⟩
noncomputable def v_digest (st : PS) : Int64 := dV2 (aF st.1) (aG st.1) (aS st.1) (aM st.1) (aN st.1) (seenI (aH st.1)) (aW1 st.1) (aW2 st.1) (aDg st.1) (aT1 st.1) (aT2 st.1) (aAm st.1) (nI st.2.1.length) (if (st.2.2.1 0).isSome then 1 else 0) (if (st.2.2.1 1).isSome then 1 else 0) st.2.2.2.1 st.2.2.2.2
theorem sl_01 {K : List HP → Option Nat → Prop} {skf : Nat → Int32} {qx : Nat → SV} {sl : Nat → Option AS} (h : SLR K skf qx sl) {j : Nat} (hj : j < 2) : skf j = if (sl j).isSome then 1 else 0 := by
  obtain ⟨h1, h2⟩ := h j hj
  cases e : sl j with
  | none => exact h1 e
  | some a => exact (h2 a e).1
section OPS
variable {K : List HP → Option Nat → Prop} {f : Nat → Int32} {kk sg sn mv gm : Int32} {lt : Option Nat} {w1 w2 dg t1 t2 am so sc : Int32} {sx : Nat → SV} {skf : Nat → Int32} {qx : Nat → SV} {tl : Int32} {tf : Nat → Int32} {st : PS}
theorem c_append (hR : OR K (f, kk, sg, sn, mv, gm, lt, w1, w2, dg, t1, t2, am) so sc sx skf qx tl tf st) (a1 : Int32) : ∃ k tf' tl', fL_append tl tf a1 = some (k, (o_append st a1).1, tf', tl') ∧ OR K (f, kk, sg, sn, mv, gm, lt, w1, w2, dg, t1, t2, am) so sc sx skf qx tl' tf' (o_append st a1).2 := by
  have hR0 := hR
  obtain ⟨f0, hh, l, sl, t, tx, s, rfl, ag, hK, rfl, hs, rfl, hl, hB, hS, rfl, ht, htx⟩ := OR_e hR
  unfold o_append
  cases hc : inC a1 33 126 with
  | false =>
    rw [if_neg (show ¬ false = true by decide)]
    refine ⟨2, tf, nI t, ?_, hR0⟩
    unfold fL_append fX8_append
    simp only [jn_eq, i32_le (a := a1) (b := 126)]
    unfold inC at hc
    by_cases e1 : a1 < 33
    · rw [if_pos e1]
      rfl
    · rw [decide_eq_false e1] at hc
      by_cases e2 : 126 < a1
      · rw [if_neg e1, if_neg (fun q => q e2)]
        rfl
      · rw [decide_eq_false e2] at hc
        exact absurd hc (by decide)
  | true =>
    rw [if_pos (show true = true from rfl)]
    have hc2 := hc
    unfold inC at hc2
    rw [Bool.and_eq_true, Bool.not_eq_true', Bool.not_eq_true', decide_eq_false_iff_not, decide_eq_false_iff_not] at hc2
    have n2 : a1 ≤ 126 := by rw [i32_le]; exact hc2.2
    by_cases e : t = 60
    · subst e
      refine ⟨3, tf, nI 60, ?_, ?_⟩
      · unfold fL_append fX8_append
        simp only [jn_eq]
        rw [if_neg hc2.1, if_pos n2]
        rfl
      · exact hR0
    · have hfull : fX4_isFull (nI t) = some 0 := by
        unfold fX4_isFull
        rw [if_pos (show nI t < 60 from nI_lt (b := 60) (by omega) (by decide))]
      have hif : (if ((f0, kk, sg, sn, mv, gm, hh, w1, w2, dg, t1, t2, am), l, sl, t, tx).2.2.2.1 = 60 then (XS, ((f0, kk, sg, sn, mv, gm, hh, w1, w2, dg, t1, t2, am), l, sl, t, tx)) else ((nI (((f0, kk, sg, sn, mv, gm, hh, w1, w2, dg, t1, t2, am), l, sl, t, tx).2.2.2.1 + 1)).toInt64, (((f0, kk, sg, sn, mv, gm, hh, w1, w2, dg, t1, t2, am), l, sl, t, tx).1, ((f0, kk, sg, sn, mv, gm, hh, w1, w2, dg, t1, t2, am), l, sl, t, tx).2.1, ((f0, kk, sg, sn, mv, gm, hh, w1, w2, dg, t1, t2, am), l, sl, t, tx).2.2.1, ((f0, kk, sg, sn, mv, gm, hh, w1, w2, dg, t1, t2, am), l, sl, t, tx).2.2.2.1 + 1, upd ((f0, kk, sg, sn, mv, gm, hh, w1, w2, dg, t1, t2, am), l, sl, t, tx).2.2.2.2 ((f0, kk, sg, sn, mv, gm, hh, w1, w2, dg, t1, t2, am), l, sl, t, tx).2.2.2.1 a1))) = ((nI (t + 1)).toInt64, ((f0, kk, sg, sn, mv, gm, hh, w1, w2, dg, t1, t2, am), l, sl, t + 1, upd tx t a1)) := if_neg e
      rw [hif]
      refine ⟨0, upd tf t a1, nI (t + 1), ?_, ?_⟩
      · unfold fL_append fX8_append fX4_add
        simp only [jn_eq]
        rw [if_neg hc2.1, if_pos n2, hfull, Option.bind_some, if_pos rfl, Option.bind_some, if_pos rfl, inB_t (i := t) (by omega) (by decide), grd_t, nI_clamp (by omega), nI_1]
        rfl
      · refine OR_i ag hK hs hl hB hS (by omega) (fun i hi => ?_)
        unfold upd
        by_cases e2 : i = t
        · rw [if_pos e2, if_pos e2]
        · rw [if_neg e2, if_neg e2]
          exact htx i (by omega)
theorem c_clearBuffer (hR : OR K (f, kk, sg, sn, mv, gm, lt, w1, w2, dg, t1, t2, am) so sc sx skf qx tl tf st) : fX8_clearBuffer tl = some ((o_clearBuffer st).1, 0) ∧ OR K (f, kk, sg, sn, mv, gm, lt, w1, w2, dg, t1, t2, am) so sc sx skf qx 0 tf (o_clearBuffer st).2 := by
  obtain ⟨f0, hh, l, sl, t, tx, s, rfl, ag, hK, rfl, hs, rfl, hl, hB, hS, rfl, ht, htx⟩ := OR_e hR
  exact ⟨rfl, OR_i (t := 0) ag hK hs hl hB hS (by omega) (fun i hi => absurd hi (by omega))⟩
theorem c_firstError (hR : OR K (f, kk, sg, sn, mv, gm, lt, w1, w2, dg, t1, t2, am) so sc sx skf qx tl tf st) : fX8_firstError tl tf = some (v_firstError st) := by
  obtain ⟨f0, hh, l, sl, t, tx, s, rfl, ag, hK, rfl, hs, rfl, hl, hB, hS, rfl, ht, htx⟩ := OR_e hR
  unfold fX8_firstError v_firstError
  rw [f_errorIndex tf ht, erN_congr htx]
  rfl
theorem c_savedStates (hR : OR K (f, kk, sg, sn, mv, gm, lt, w1, w2, dg, t1, t2, am) so sc sx skf qx tl tf st) : fX8_savedStates sc = some (nI st.2.1.length) := by
  obtain ⟨f0, hh, l, sl, t, tx, s, rfl, ag, hK, rfl, hs, rfl, hl, hB, hS, rfl, ht, htx⟩ := OR_e hR
  rfl
theorem c_keep (hR : OR K (f, kk, sg, sn, mv, gm, lt, w1, w2, dg, t1, t2, am) so sc sx skf qx tl tf st) (hG : GD st) (a1 : Int32) : ∃ k qx' skf', fL_keep sn mv gm lt w1 w2 dg t1 t2 am kk sg f skf qx a1 = some (k, (o_keep st a1).1, qx', skf') ∧ OR K (f, kk, sg, sn, mv, gm, lt, w1, w2, dg, t1, t2, am) so sc sx skf' qx' tl tf (o_keep st a1).2 := by
  have hR0 := hR
  obtain ⟨f0, hh, l, sl, t, tx, s, rfl, ag, hK, rfl, hs, rfl, hl, hB, hS, rfl, ht, htx⟩ := OR_e hR
  obtain ⟨pb, uk, ko, hkk, hg0, hdm, h0, hok, hrun⟩ := IA_e hG.1.1
  have hg := g01 hg0
  unfold o_keep
  rcases slotC a1 with ⟨hc, j, hj, rfl⟩ | hc
  · have key : ∃ qx' fo, fL_keep sn mv gm lt w1 w2 dg t1 t2 am kk sg f skf qx (nI j) = some (0, 0, qx', upd skf j 1) ∧ qx' j = (cpb f fo, kk, sg, sn, mv, gm, lt, w1, w2, dg, t1, t2, am) ∧ ∀ i, i < 2 → i ≠ j → qx' i = qx i := by
      unfold fL_keep fX8_keep
      rw [f_needSlot, hc, Option.bind_some, if_pos rfl, if_pos rfl]
      rcases (by omega : j = 0 ∨ j = 1) with e | e
      · subst e
        rw [show inB (nI 0) 2 = true from rfl, grd_t, if_pos (show nI 0 = 0 from rfl), f_cF2 _ sn mv gm lt w1 w2 dg t1 t2 am kk hg f, Option.bind_some]
        exact ⟨_, _, rfl, rfl, fun i hi hne => by
          have : i = 1 := by omega
          subst this
          rfl⟩
      · subst e
        rw [show inB (nI 1) 2 = true from rfl, grd_t, if_neg (show ¬ nI 1 = 0 by decide), if_pos (show nI 1 = 1 from rfl), f_cF2 _ sn mv gm lt w1 w2 dg t1 t2 am kk hg f, Option.bind_some]
        exact ⟨_, _, rfl, rfl, fun i hi hne => by
          have : i = 0 := by omega
          subst this
          rfl⟩
    obtain ⟨qx', fo, e8, q1, q2⟩ := key
    rw [hc, if_pos (show true = true from rfl), show iN (nI j) = j from nI_clamp (by omega)]
    refine ⟨0, qx', upd skf j 1, e8, OR_i ag hK hs hl hB (fun i hi => ?_) ht htx⟩
    unfold updS upd
    by_cases e : i = j
    · rw [if_pos e, if_pos e]
      refine ⟨fun q => (nomatch q), fun a ha => ⟨rfl, ?_⟩⟩
      rw [← Option.some.inj ha, e, q1]
      exact ⟨f0, hh, rfl, AG_trans (AG_cpb f fo) ag, hK⟩
    · rw [if_neg e, if_neg e, q2 i hi e]
      exact hS i hi
  · rw [hc, if_neg (show ¬ false = true by decide)]
    refine ⟨2, qx, skf, ?_, hR0⟩
    unfold fL_keep fX8_keep
    rw [f_needSlot, hc]
    rfl
theorem CR_sg {K : List HP → Option Nat → Prop} {v : SV} {a : AS} (h : CR K v a) (ha : IA a) : ∃ g, v.2.2.1 = b01 g := by
  obtain ⟨f0, hh, rfl, ag, hK⟩ := h
  exact ha.2.2.2.2.1
theorem OR_n {K : List HP → Option Nat → Prop} {v : SV} {a : AS} {f' : Nat → Int32} {sx : Nat → SV} {skf : Nat → Int32} {qx : Nat → SV} {tf : Nat → Int32} {l : List AS} {sl : Nat → Option AS} {t s : Nat} {tx : Nat → Int32} (h : CR K v a) (e : AG f' v.1) (h2 : s < 6) (h4 : l.length ≤ 6) (h5 : SVR K s sx l) (h6 : SLR K skf qx sl) (h8 : t ≤ 60) (h9 : ∀ i, i < t → tf i = tx i) : OR K (f', v.2.1, v.2.2.1, v.2.2.2.1, v.2.2.2.2.1, v.2.2.2.2.2.1, v.2.2.2.2.2.2.1, v.2.2.2.2.2.2.2.1, v.2.2.2.2.2.2.2.2.1, v.2.2.2.2.2.2.2.2.2.1, v.2.2.2.2.2.2.2.2.2.2.1, v.2.2.2.2.2.2.2.2.2.2.2.1, v.2.2.2.2.2.2.2.2.2.2.2.2) (nI s) (nI l.length) sx skf qx (nI t) tf (a, l, sl, t, tx) :=
  ⟨CR_cp h f' e, ⟨s, rfl, h2, rfl, h4, h5⟩, h6, rfl, h8, h9⟩
theorem c_goBack (hR : OR K (f, kk, sg, sn, mv, gm, lt, w1, w2, dg, t1, t2, am) so sc sx skf qx tl tf st) (hG : GD st) (a1 : Int32) : ∃ k f' kk' sg' sn' mv' gm' lt' w1' w2' dg' t1' t2' am' sx' so' sc', fL_goBack sn mv gm lt w1 w2 dg t1 t2 am kk sg f so sc skf sx qx a1 = some (k, (o_goBack st a1).1, f', kk', sg', sn', mv', gm', lt', w1', w2', dg', t1', t2', am', sx', so', sc') ∧ OR K (f', kk', sg', sn', mv', gm', lt', w1', w2', dg', t1', t2', am') so' sc' sx' skf qx tl tf (o_goBack st a1).2 := by
  have hR0 := hR
  obtain ⟨f0, hh, l, sl, t, tx, s, rfl, ag, hK, rfl, hs, rfl, hl, hB, hS, rfl, ht, htx⟩ := OR_e hR
  obtain ⟨pb, uk, ko, hkk, hg, hdm, h0, hok, hrun⟩ := IA_e hG.1.1
  unfold o_goBack
  rcases slotC a1 with ⟨hc, j, hj, rfl⟩ | hc
  · rw [hc, if_pos (show true = true from rfl), show iN (nI j) = j from nI_clamp (by omega)]
    obtain ⟨z1, z2⟩ := hS j hj
    cases e : sl j with
    | none =>
      have e9 : ((f0, kk, sg, sn, mv, gm, hh, w1, w2, dg, t1, t2, am), l, sl, t, tx).2.2.1 j = none := e
      rw [e9]
      refine ⟨3, f, kk, sg, sn, mv, gm, lt, w1, w2, dg, t1, t2, am, sx, nI s, nI l.length, ?_, hR0⟩
      unfold fL_goBack fX8_goBack
      rw [f_needSlot, hc, Option.bind_some, if_pos rfl, if_pos rfl, inB_t (by omega) (by decide), grd_t, nI_clamp (by omega), z1 e, if_pos rfl]
      rfl
    | some b =>
      have e9 : ((f0, kk, sg, sn, mv, gm, hh, w1, w2, dg, t1, t2, am), l, sl, t, tx).2.2.1 j = some b := e
      rw [e9]
      obtain ⟨z3, z4⟩ := z2 b e
      obtain ⟨sx', s', p1, p2, p3, p4⟩ := push_ok (f0 := f0) (kk := kk) (sn := sn) (mv := mv) (gm := gm) (w1 := w1) (w2 := w2) (dg := dg) (t1 := t1) (t2 := t2) (am := am) hs hl hB ag hK hg
      obtain ⟨gq, hgq⟩ := CR_sg z4 (hG.2.2 j hj b e).1
      refine ⟨0, cpb (qx j).1 f, (qx j).2.1, (qx j).2.2.1, (qx j).2.2.2.1, (qx j).2.2.2.2.1, (qx j).2.2.2.2.2.1, (qx j).2.2.2.2.2.2.1, (qx j).2.2.2.2.2.2.2.1, (qx j).2.2.2.2.2.2.2.2.1, (qx j).2.2.2.2.2.2.2.2.2.1, (qx j).2.2.2.2.2.2.2.2.2.2.1, (qx j).2.2.2.2.2.2.2.2.2.2.2.1, (qx j).2.2.2.2.2.2.2.2.2.2.2.2, sx', nI s', _, ?_, OR_n z4 (AG_cpb _ _) p2 p3 p4 hS ht htx⟩
      unfold fL_goBack fX8_goBack
      rw [f_needSlot, hc, Option.bind_some, if_pos rfl, if_pos rfl, inB_t (by omega) (by decide), grd_t, nI_clamp (by omega), z3, if_neg (show ¬ (1 : Int32) = 0 by decide), p1, Option.bind_some, grd_t]
      rcases (by omega : j = 0 ∨ j = 1) with q | q
      · subst q
        rw [if_pos (show nI 0 = 0 from rfl), f_cF2 _ _ _ _ _ _ _ _ _ _ _ _ hgq _]
        rfl
      · subst q
        rw [if_neg (show ¬ nI 1 = 0 by decide), if_pos (show nI 1 = 1 from rfl), f_cF2 _ _ _ _ _ _ _ _ _ _ _ _ hgq _]
        rfl
  · rw [hc, if_neg (show ¬ false = true by decide)]
    refine ⟨2, f, kk, sg, sn, mv, gm, lt, w1, w2, dg, t1, t2, am, sx, nI s, nI l.length, ?_, hR0⟩
    unfold fL_goBack fX8_goBack
    rw [f_needSlot, hc]
    rfl
theorem c_undo (hR : OR K (f, kk, sg, sn, mv, gm, lt, w1, w2, dg, t1, t2, am) so sc sx skf qx tl tf st) (hG : GD st) : ∃ k f' kk' sg' sn' mv' gm' lt' w1' w2' dg' t1' t2' am' so' sc', fL_undo sn mv gm lt w1 w2 dg t1 t2 am kk sg f so sc sx = some (k, (o_undo st).1, f', kk', sg', sn', mv', gm', lt', w1', w2', dg', t1', t2', am', so', sc') ∧ OR K (f', kk', sg', sn', mv', gm', lt', w1', w2', dg', t1', t2', am') so' sc' sx skf qx tl tf (o_undo st).2 := by
  have hR0 := hR
  obtain ⟨f0, hh, l, sl, t, tx, s, rfl, ag, hK, rfl, hs, rfl, hl, hB, hS, rfl, ht, htx⟩ := OR_e hR
  unfold o_undo
  cases e : l.getLast? with
  | none =>
    have h0 : l = [] := List.getLast?_eq_none_iff.mp e
    subst h0
    exact ⟨3, f, kk, sg, sn, mv, gm, lt, w1, w2, dg, t1, t2, am, nI s, nI 0, rfl, hR0⟩
  | some b =>
    have hmem : b ∈ l := List.mem_of_getLast? e
    have hne : l ≠ [] := fun q => by rw [q] at hmem; cases hmem
    have hpos : 0 < l.length := List.length_pos_iff.mpr hne
    obtain ⟨m, hm⟩ : ∃ m, l.length = m + 1 := ⟨l.length - 1, by omega⟩
    have hlast : l[m]? = some b := by
      rw [List.getLast?_eq_getElem?, show l.length - 1 = m by omega] at e
      exact e
    have z4 := hB m b hlast
    obtain ⟨gq, hgq⟩ := CR_sg z4 (hG.2.1 b hmem).1
    have z : ¬ nI (m + 1) = 0 := by rw [nI_z (by omega)]; omega
    have hdl : l.dropLast.length = m := by rw [List.length_dropLast]; omega
    refine ⟨0, cpb (sx ((s + m) % 6)).1 f, (sx ((s + m) % 6)).2.1, (sx ((s + m) % 6)).2.2.1, (sx ((s + m) % 6)).2.2.2.1, (sx ((s + m) % 6)).2.2.2.2.1, (sx ((s + m) % 6)).2.2.2.2.2.1, (sx ((s + m) % 6)).2.2.2.2.2.2.1, (sx ((s + m) % 6)).2.2.2.2.2.2.2.1, (sx ((s + m) % 6)).2.2.2.2.2.2.2.2.1, (sx ((s + m) % 6)).2.2.2.2.2.2.2.2.2.1, (sx ((s + m) % 6)).2.2.2.2.2.2.2.2.2.2.1, (sx ((s + m) % 6)).2.2.2.2.2.2.2.2.2.2.2.1, (sx ((s + m) % 6)).2.2.2.2.2.2.2.2.2.2.2.2, nI s, nI l.dropLast.length, ?_, OR_n z4 (AG_cpb _ _) hs (by rw [hdl]; omega) (fun k a hk => ?_) hS ht htx⟩
    · unfold fL_undo fX8_undo
      rw [hm, if_neg z, f_pop hs (by omega) f kk sg sn mv gm lt w1 w2 dg t1 t2 am sx hgq, hdl]
      rfl
    · have hk2 : k < m := by
        rw [← hdl]
        exact (List.getElem?_eq_some_iff.mp hk).1
      rw [List.getElem?_dropLast, if_pos (by omega)] at hk
      exact hB k a hk
theorem c_timesSeenN (hG : GD st) (hR : OR K (f, kk, sg, sn, mv, gm, lt, w1, w2, dg, t1, t2, am) so sc sx skf qx tl tf st) (h1 : aH st.1 = []) : ∃ k, fL_timesSeenN sn = some (k, v_timesSeen (aH st.1)) := by
  obtain ⟨f0, hh, l, sl, t, tx, s, rfl, ag, hK, rfl, hs, rfl, hl, hB, hS, rfl, ht, htx⟩ := OR_e hR
  obtain ⟨pb, uk, ko, hkk, hg, hdm, h0, hok, hrun⟩ := IA_e hG.1.1
  rw [h1]
  exact q_timesSeenN (h0.mpr h1)
theorem c_timesSeenS {p : HP} {tt : List HP} (hG : GD st) (hR : OR K (f, kk, sg, sn, mv, gm, lt, w1, w2, dg, t1, t2, am) so sc sx skf qx tl tf st) (h1 : aH st.1 = p :: tt) : ∃ k, fL_timesSeenS sn (newPC p tt) = some (k, v_timesSeen (aH st.1)) := by
  obtain ⟨f0, hh, l, sl, t, tx, s, rfl, ag, hK, rfl, hs, rfl, hl, hB, hS, rfl, ht, htx⟩ := OR_e hR
  obtain ⟨pb, uk, ko, hkk, hg, hdm, h0, hok, hrun⟩ := IA_e hG.1.1
  rw [h1]
  have h1 : hh = p :: tt := h1
  exact q_timesSeenS (fun q => by rw [h1] at h0; exact nomatch h0.mp q) p tt
theorem c_digestN (hR : OR K (f, kk, sg, sn, mv, gm, lt, w1, w2, dg, t1, t2, am) so sc sx skf qx tl tf st) (hG : GD st) (h1 : aH st.1 = []) (rk rs : Int32) (rf rmf mf krf kqf : Nat → Int32) : ∃ r, fX8_digestN sn mv gm w1 w2 dg t1 t2 am kk sg f rk rs rf rmf mf krf kqf sc skf tl tf = some r ∧ r.1 = v_digest st := by
  obtain ⟨f0, hh, l, sl, t, tx, s, rfl, ag, hK, rfl, hs, rfl, hl, hB, hS, rfl, ht, htx⟩ := OR_e hR
  obtain ⟨pb, uk, ko, hkk, hg, hdm, h0, hok, hrun⟩ := IA_e hG.1.1
  have ag' := AG_symm ag
  obtain ⟨r, e8, e1⟩ := d_digN2 ag (AG_PB ag' pb) (AG_UK ag' uk) (AG_KO ag' ko) (decide (sg = 1)) sn mv gm w1 w2 dg t1 t2 am (nI l.length) rk rs rf rmf mf krf kqf skf tf ht htx
  rw [← g01 hg, AG_kingN ag, ← hkk] at e8
  refine ⟨r, e8, ?_⟩
  rw [e1, sl_01 hS (show 0 < 2 by decide), sl_01 hS (show 1 < 2 by decide)]
  unfold v_digest
  rw [h1]
  rfl
theorem c_digestS {p : HP} {tt : List HP} (hR : OR K (f, kk, sg, sn, mv, gm, lt, w1, w2, dg, t1, t2, am) so sc sx skf qx tl tf st) (hG : GD st) (h1 : aH st.1 = p :: tt) (rk rs : Int32) (rf rmf mf krf kqf : Nat → Int32) : ∃ r, fX8_digestS sn mv gm w1 w2 dg t1 t2 am kk sg f rk rs rf rmf mf krf kqf sc skf tl tf (newPC p tt) = some r ∧ r.1 = v_digest st := by
  obtain ⟨f0, hh, l, sl, t, tx, s, rfl, ag, hK, rfl, hs, rfl, hl, hB, hS, rfl, ht, htx⟩ := OR_e hR
  obtain ⟨pb, uk, ko, hkk, hg, hdm, h0, hok, hrun⟩ := IA_e hG.1.1
  have ag' := AG_symm ag
  obtain ⟨r, e8, e1⟩ := d_digS2 ag (AG_PB ag' pb) (AG_UK ag' uk) (AG_KO ag' ko) (decide (sg = 1)) sn mv gm w1 w2 dg t1 t2 am (nI l.length) rk rs rf rmf mf krf kqf skf tf ht htx p tt
  rw [← g01 hg, AG_kingN ag, ← hkk] at e8
  refine ⟨r, e8, ?_⟩
  rw [e1, sl_01 hS (show 0 < 2 by decide), sl_01 hS (show 1 < 2 by decide)]
  unfold v_digest
  rw [h1]
  rfl
end OPS
/-! ===== the whole text ===== -/
def sqT (tx : Nat → Int32) (i : Nat) : Nat := iN ((7 * (tx (i + 1) - 49)) + (tx i - 97))
def playA (tx : Nat → Int32) : Nat → Nat → AS → Nat → Option (Nat × AS)
  | 0, _, a, sm => some (sm, a)
  | d + 1, k, a, sm => if alA a (sqT tx (5 * k)) (sqT tx (5 * k + 2)) then playA tx d (k + 1) (mvA a (sqT tx (5 * k)) (sqT tx (5 * k + 2))) (sm + takN (aF a) (aG a) (sqT tx (5 * k)) (sqT tx (5 * k + 2))) else none
def o_play (st : PS) : Option (Int64 × PS) := if (aH st.1).length + 13 ≤ 900 then some (if tellB st.2.2.2.2 st.2.2.2.1 then (match playA st.2.2.2.2 ((st.2.2.2.1 + 1) / 5) 0 st.1 0 with
  | none => (XS, st)
  | some r => ((nI r.1).toInt64, (r.2, pushL st.2.1 st.1, st.2.2.1, 0, st.2.2.2.2))) else (XA, st)) else none
/-- a trial's numbers and a state -/
def TR (u : TC) (sg : Int32) (a : AS) : Prop := ∃ f0 h, a = (f0, u.2.1, sg, u.2.2.1, u.2.2.2.1, u.2.2.2.2.1, h, u.2.2.2.2.2) ∧ AG u.1 f0
theorem lockA {sg : Int32} {tf tx : Nat → Int32} {len : Nat} (hl : len ≤ 60) (htf : ∀ i, i < len → tf i = tx i) (hok : okF tf len) (h5 : len % 5 = 4) : ∀ (d k : Nat), 5 * (k + d) = len + 1 → ∀ (u : TC) (a : AS) (sm : Nat), TR u sg a → IA a → aH a ≠ [] → (aH a).length + d < 999 → sm ≤ 4 * k → ∃ u' h' nl tkr, (∀ N, d + 1 ≤ N → fX8_playOnTrialS_L sg (nI len) tf N (nI sm) (nI k) u (chP (aH a)) = some (tkr, u', chP h')) ∧ h' = nl ++ aH a ∧ nl.length ≤ d ∧ ((playA tx d k a sm = none ∧ tkr = -1) ∨ ∃ sm' a', playA tx d k a sm = some (sm', a') ∧ tkr = nI sm' ∧ sm' ≤ 4 * (k + d) ∧ TR u' sg a' ∧ h' = aH a' ∧ IA a')
  | 0, k, hk, u, a, sm, hT, hI, hne, hh, hsm => by
    refine ⟨u, aH a, [], nI sm, fun N hN => ?_, rfl, Nat.zero_le _, Or.inr ⟨sm, a, rfl, rfl, by omega, hT, rfl, hI⟩⟩
    obtain ⟨J, rfl⟩ : ∃ J, N = J + 1 := ⟨N - 1, by omega⟩
    rw [pt_S]
    unfold fX8_playOnTrialS_B fX4_parts
    rw [nI_1, show nI (len + 1) / 5 = nI ((len + 1) / 5) by
      have : ∀ m, m < 62 → nI m / 5 = nI (m / 5) := by decide +kernel
      exact this _ (by omega), Option.bind_some, if_pos (nI_le (by omega) (by omega))]
  | d + 1, k, hk, u, a, sm, hT, hI, hne, hh, hsm => by
    obtain ⟨f, kk, sn, mv, gm, w1, w2, dg, t1, t2, am⟩ := u
    obtain ⟨f0, hs0, e, ag⟩ := hT
    have e : a = (f0, kk, sg, sn, mv, gm, hs0, w1, w2, dg, t1, t2, am) := e
    have ag : AG f f0 := ag
    subst e
    obtain ⟨pb, uk, ko, hkk, hg, hdm, h0, hok9, hrun⟩ := IA_e hI
    obtain ⟨x, hx, hx1, hx2⟩ := sq_of (i := 5 * k) hl (by omega) (by omega) hok
    obtain ⟨y, hy, hy1, hy2⟩ := sq_of (i := 5 * k + 2) hl (by omega) (by omega) hok
    rw [htf _ (by omega), htf _ (by omega)] at hx2 hy2
    have ex : sqT tx (5 * k) = x := by
      unfold sqT
      rw [hx2]
      exact nI_clamp (by omega)
    have ey : sqT tx (5 * k + 2) = y := by
      unfold sqT
      rw [hy2]
      exact nI_clamp (by omega)
    have h5k : (5 : Int32) * nI k = nI (5 * k) := by
      have : ∀ k, k < 13 → (5 : Int32) * nI k = nI (5 * k) := by decide +kernel
      exact this k (by omega)
    have hpar : fX4_parts (nI len) = some (nI ((len + 1) / 5)) := by
      unfold fX4_parts
      rw [nI_1]
      have : ∀ m, m < 62 → nI m / 5 = nI (m / 5) := by decide +kernel
      rw [this _ (by omega)]
    have hal : alB sn mv f x y = alB sn mv f0 x y := by
      unfold alB
      rw [ag x hx, AG_rsn ag hx hy]
    have hB : ∀ self, fX8_playOnTrialS_B sg (nI len) tf self (nI sm) (nI k) (f, kk, sn, mv, gm, w1, w2, dg, t1, t2, am) (chP hs0) = if b01 (alB sn mv f0 x y) = 0 then some ((-1), (f, kk, sn, mv, gm, w1, w2, dg, t1, t2, am), chP hs0) else match chP hs0 with
      | [] => none
      | c :: t => (fX7_makeMove 0 sn mv gm w1 w2 dg t1 t2 am kk sg f c t (nI x) (nI y)).bind fun r => self (nI sm + r.1) (nI k + 1) (r.2.1, r.2.2.1, r.2.2.2.1, r.2.2.2.2.1, r.2.2.2.2.2.1, r.2.2.2.2.2.2.1, r.2.2.2.2.2.2.2.1, r.2.2.2.2.2.2.2.2.1, r.2.2.2.2.2.2.2.2.2.1, r.2.2.2.2.2.2.2.2.2.2.1, r.2.2.2.2.2.2.2.2.2.2.2.1) (r.2.2.2.2.2.2.2.2.2.2.2.2 :: c :: t) := fun self => by
      unfold fX8_playOnTrialS_B
      rw [hpar, Option.bind_some, if_neg (nI_ge (by omega) (by omega)), h5k, hx1, Option.bind_some, show nI (5 * k) + 2 = nI (5 * k + 2) from nI_add _ 2, hy1, Option.bind_some]
      show (fX7_allowsMove sn mv f (nI x) (nI y)).bind _ = _
      rw [f_allowsMove sn mv hx hy, Option.bind_some, hal]
      rfl
    unfold playA
    rw [ex, ey]
    cases hal2 : alB sn mv f0 x y with
    | false =>
      refine ⟨(f, kk, sn, mv, gm, w1, w2, dg, t1, t2, am), hs0, [], -1, fun N hN => ?_, rfl, Nat.zero_le _, Or.inl ⟨if_neg (show ¬ alB sn mv f0 x y = true by rw [hal2]; decide), rfl⟩⟩
      obtain ⟨J, rfl⟩ : ∃ J, N = J + 1 := ⟨N - 1, by omega⟩
      rw [pt_S]
      refine (hB _).trans ?_
      rw [hal2, if_pos (show b01 false = 0 from rfl)]
    | true =>
      have hal3 : alA (f0, kk, sg, sn, mv, gm, hs0, w1, w2, dg, t1, t2, am) x y = true := hal2
      obtain ⟨q1, q2, q3⟩ := alB_e hal2
      rw [if_pos hal3]
      cases hs0 with
      | nil => exact absurd rfl hne
      | cons p tt =>
        have hh : (p :: tt).length + (d + 1) < 999 := hh
        obtain ⟨f', agf, hmk⟩ := mm_AG 0 (sn := sn) (mv := mv) (gm := gm) (w1 := w1) (w2 := w2) (dg := dg) (t1 := t1) (t2 := t2) (am := am) ag hdm pb uk hg hx hy q3 (cx := newPC p tt) (ct := chP tt) (t := p :: tt) (chP_cons p tt).symm (by omega)
        rw [← hkk] at hmk
        have htk := takN_le f0 (decide (sg = 1)) x y
        have hI2 := mvA_IA hI hx hy hal3
        obtain ⟨u', h', nl, tkr, b1, b2, b3, b4⟩ := lockA hl htf hok h5 d (k + 1) (by omega) (f', (mvA (f0, kk, sg, sn, mv, gm, p :: tt, w1, w2, dg, t1, t2, am) x y).2.1, (mvA (f0, kk, sg, sn, mv, gm, p :: tt, w1, w2, dg, t1, t2, am) x y).2.2.2.1, (mvA (f0, kk, sg, sn, mv, gm, p :: tt, w1, w2, dg, t1, t2, am) x y).2.2.2.2.1, (mvA (f0, kk, sg, sn, mv, gm, p :: tt, w1, w2, dg, t1, t2, am) x y).2.2.2.2.2.1, (mvA (f0, kk, sg, sn, mv, gm, p :: tt, w1, w2, dg, t1, t2, am) x y).2.2.2.2.2.2.2) (mvA (f0, kk, sg, sn, mv, gm, p :: tt, w1, w2, dg, t1, t2, am) x y) (sm + takN f0 (decide (sg = 1)) x y) ⟨_, _, rfl, agf⟩ hI2 (fun q => nomatch q) (by show ((_ : HP) :: p :: tt).length + d < 999; rw [List.length_cons]; omega) (by omega)
        refine ⟨u', h', nl ++ [(mov f0 (decide (sg = 1)) x y, 1 - mv)], tkr, fun N hN => ?_, ?_, ?_, ?_⟩
        · obtain ⟨J, rfl⟩ : ∃ J, N = J + 1 := ⟨N - 1, by omega⟩
          rw [pt_S]
          refine (hB _).trans ?_
          rw [hal2, if_neg (show ¬ b01 true = 0 by decide), chP_cons]
          show (fX7_makeMove 0 sn mv gm w1 w2 dg t1 t2 am kk sg f (newPC p tt) (chP tt) (nI x) (nI y)).bind _ = _
          rw [hmk, Option.bind_some]
          have h9 := b1 J (by omega)
          rw [← nI_add sm (takN f0 (decide (sg = 1)) x y), ← nI_1 k] at h9
          exact h9
        · rw [b2, List.append_assoc]
          rfl
        · rw [List.length_append, List.length_singleton]
          omega
        · rcases b4 with b4 | ⟨sm', a', c1, c2, c3, c4, c5, c6⟩
          · exact Or.inl b4
          · exact Or.inr ⟨sm', a', c1, c2, by omega, c4, c5, c6⟩
theorem playA_len {tx : Nat → Int32} : ∀ (d k : Nat) (a : AS) (sm : Nat) (r : Nat × AS), playA tx d k a sm = some r → (aH r.2).length = (aH a).length + d
  | 0, _, a, sm, r, h => by
    rw [← Option.some.inj h]
    rfl
  | d + 1, k, a, sm, r, h => by
    unfold playA at h
    split at h
    · have := playA_len d _ _ _ _ h
      rw [this]
      show (aH a).length + 1 + d = _
      omega
    · cases h
theorem sqT_lt {tx : Nat → Int32} {len i : Nat} (hl : len ≤ 60) (hi : i + 1 < len) (h0 : (i % 5 = 0 ∨ i % 5 = 2)) (hok : okF tx len) : sqT tx i < 49 := by
  obtain ⟨x, hx, _, hx2⟩ := sq_of hl hi h0 hok
  unfold sqT
  rw [hx2, show iN (nI x) = x from nI_clamp (by omega)]
  exact hx
theorem playA_IA {tx : Nat → Int32} {len : Nat} (hl : len ≤ 60) (hok : okF tx len) (h5 : len % 5 = 4) : ∀ (d k : Nat) (a : AS) (sm : Nat) (r : Nat × AS), 5 * (k + d) = len + 1 → IA a → playA tx d k a sm = some r → IA r.2
  | 0, _, a, sm, r, _, hi, h => by
    rw [← Option.some.inj h]
    exact hi
  | d + 1, k, a, sm, r, hk, hi, h => by
    unfold playA at h
    split at h
    · exact playA_IA hl hok h5 d _ _ _ _ (by omega) (mvA_IA hi (sqT_lt hl (by omega) (by omega) hok) (sqT_lt hl (by omega) (by omega) hok) (by assumption)) h
    · cases h
theorem g_play {st : PS} (h : GD st) (h60 : st.2.2.2.1 ≤ 60) {r : Int64 × PS} (e : o_play st = some r) : GD r.2 := by
  unfold o_play at e
  split at e
  · rename_i hlen
    rw [← Option.some.inj e]
    split
    · rename_i ht
      obtain ⟨h5, hok⟩ := tell_ok ht
      cases q : playA st.2.2.2.2 ((st.2.2.2.1 + 1) / 5) 0 st.1 0 with
      | none => exact h
      | some w =>
        have h1 := playA_len _ _ _ _ _ q
        have h2 := playA_IA h60 hok h5 _ _ _ _ _ (by omega) h.1.1 q
        exact GD_push h ⟨h2, by rw [h1]; omega⟩
    · exact h
  · cases e
section OPS
variable {K : List HP → Option Nat → Prop} {f : Nat → Int32} {kk sg sn mv gm : Int32} {lt : Option Nat} {w1 w2 dg t1 t2 am so sc : Int32} {sx : Nat → SV} {skf : Nat → Int32} {qx : Nat → SV} {tl : Int32} {tf : Nat → Int32} {st : PS}
theorem c_playN (hR : OR K (f, kk, sg, sn, mv, gm, lt, w1, w2, dg, t1, t2, am) so sc sx skf qx tl tf st) (hG : GD st) (h1 : aH st.1 = []) (fT : Nat → Int32) (kkT sgT sdT mvT gmT w1T w2T dgT t1T t2T amT : Int32) (ltT : Option Nat) {r : Int64 × PS} (hr : o_play st = some r) : ∃ k fT' kkT' sgT' sdT' mvT' gmT' ltT' w1T' w2T' dgT' t1T' t2T' amT', fL_playN sn mv gm w1 w2 dg t1 t2 am kk sg f so sc sdT mvT gmT ltT w1T w2T dgT t1T t2T amT kkT sgT fT tl tf sx = some (k, r.1, f, kk, sg, sn, mv, gm, w1, w2, dg, t1, t2, am, sx, so, sc, fT', kkT', sgT', sdT', mvT', gmT', ltT', w1T', w2T', dgT', t1T', t2T', amT', tl) ∧ r.2 = st := by
  obtain ⟨f0, hh, l, sl, t, tx, s, rfl, ag, hK, rfl, hs, rfl, hl, hB, hS, rfl, ht, htx⟩ := OR_e hR
  obtain ⟨pb, uk, ko, hkk, hg0, hdm, h0, hok9, hrun⟩ := IA_e hG.1.1
  have hg := g01 hg0
  have hs0 : sn = 0 := h0.mpr h1
  unfold o_play at hr
  split at hr
  · have hr := Option.some.inj hr
    cases htl : tellB tf t with
    | false =>
      rw [if_neg (show ¬ tellB tx t = true by rw [← tell_congr htx, htl]; decide)] at hr
      refine ⟨2, fT, kkT, sgT, sdT, mvT, gmT, ltT, w1T, w2T, dgT, t1T, t2T, amT, ?_, by rw [← hr]⟩
      unfold fL_playN fX8_playN
      rw [f_tellsMoves tf ht, htl, ← hr]
      rfl
    | true =>
      obtain ⟨h5, hok⟩ := tell_ok htl
      obtain ⟨x, hx, hx1, _⟩ := sq_of (i := 0) ht (by omega) (by omega) hok
      obtain ⟨y, hy, hy1, _⟩ := sq_of (i := 2) ht (by omega) (by omega) hok
      have hf : ∀ b : Nat → Int32, alB sn mv b x y = false := fun b => by
        unfold alB
        rw [hs0]
        rfl
      have hpar : fX4_parts (nI t) = some (nI ((t + 1) / 5)) := by
        unfold fX4_parts
        rw [nI_1]
        have : ∀ m, m < 62 → nI m / 5 = nI (m / 5) := by decide +kernel
        rw [this _ (by omega)]
      rw [if_pos (show tellB tx t = true by rw [← tell_congr htx, htl])] at hr
      obtain ⟨d, hd⟩ : ∃ d, (t + 1) / 5 = d + 1 := ⟨(t + 1) / 5 - 1, by omega⟩
      have hpn : playA tx ((t + 1) / 5) 0 (f0, kk, sg, sn, mv, gm, hh, w1, w2, dg, t1, t2, am) 0 = none := by
        rw [hd]
        unfold playA
        refine if_neg (fun q => ?_)
        have q : alB sn mv f0 (sqT tx (5 * 0)) (sqT tx (5 * 0 + 2)) = true := q
        unfold alB at q
        rw [hs0] at q
        cases q
      have hr : (match playA tx ((t + 1) / 5) 0 (f0, kk, sg, sn, mv, gm, hh, w1, w2, dg, t1, t2, am) 0 with
        | none => (XS, (((f0, kk, sg, sn, mv, gm, hh, w1, w2, dg, t1, t2, am), l, sl, t, tx) : PS))
        | some r => ((nI r.1).toInt64, (r.2, pushL l (f0, kk, sg, sn, mv, gm, hh, w1, w2, dg, t1, t2, am), sl, 0, tx))) = r := hr
      rw [hpn] at hr
      refine ⟨3, cpb f fT, kk, sg, sn, mv, gm, none, w1, w2, dg, t1, t2, am, ?_, by rw [← hr]⟩
      have e0 : fX8_playOnTrialN sn mv (cpb f fT) (nI t) tf = some (-1) := by
        show fX8_playOnTrialN_L4 sn mv (cpb f fT) (nI t) tf 16 0 0 = _
        have s_S : ∀ M v p, fX8_playOnTrialN_L4 sn mv (cpb f fT) (nI t) tf (M + 1) v p = fX8_playOnTrialN_L4_B sn mv (cpb f fT) (nI t) tf (fX8_playOnTrialN_L4 sn mv (cpb f fT) (nI t) tf M) v p := fun _ _ _ => rfl
        rw [s_S]
        unfold fX8_playOnTrialN_L4_B
        rw [hpar, Option.bind_some, if_neg (show ¬ nI ((t + 1) / 5) ≤ 0 from nI_ge (a := 0) (by omega) (by omega))]
        rw [show (5 : Int32) * 0 = nI 0 from rfl, hx1, Option.bind_some, show nI 0 + 2 = nI 2 from rfl, hy1, Option.bind_some, f_allowsMove sn mv hx hy, hf]
        rfl
      unfold fL_playN fX8_playN
      rw [f_tellsMoves tf ht, htl, Option.bind_some]
      rw [if_neg (show ¬ b01 true = 0 by decide), f_cFN fT sn mv gm w1 w2 dg t1 t2 am kk hg f, Option.bind_some, e0, ← hr]
      rfl
  · cases hr
theorem c_playS {p : HP} {tt : List HP} {la : Nat} (hR : OR K (f, kk, sg, sn, mv, gm, some la, w1, w2, dg, t1, t2, am) so sc sx skf qx tl tf st) (hG : GD st) (h1 : aH st.1 = p :: tt) (fT : Nat → Int32) (kkT sgT sdT mvT gmT w1T w2T dgT t1T t2T amT : Int32) {r : Int64 × PS} (hr : o_play st = some r) : ∃ k f' kk' sg' sn' mv' gm' w1' w2' dg' t1' t2' am' sx' so' sc' fT' kkT' sgT' sdT' mvT' gmT' w1T' w2T' dgT' t1T' t2T' amT' tl' pcs, fL_playS la sn mv gm w1 w2 dg t1 t2 am kk sg f so sc sdT mvT gmT w1T w2T dgT t1T t2T amT kkT sgT fT tl tf sx (newPC p tt) (chP tt) = some (k, r.1, f', kk', sg', sn', mv', gm', w1', w2', dg', t1', t2', am', sx', so', sc', fT', kkT', sgT', sdT', mvT', gmT', w1T', w2T', dgT', t1T', t2T', amT', tl', pcs) ∧ pcs.length ≤ 13 ∧ ((k = 0 ∧ ∃ h', chP h' = pcs ++ chP (p :: tt) ∧ ∀ (K' : List HP → Option Nat → Prop) (o : Option Nat), (∀ h o, K h o → K' h o) → K' h' o → OR K' (f', kk', sg', sn', mv', gm', o, w1', w2', dg', t1', t2', am') so' sc' sx' skf qx tl' tf r.2) ∨ (k ≠ 0 ∧ OR K (f', kk', sg', sn', mv', gm', some la, w1', w2', dg', t1', t2', am') so' sc' sx' skf qx tl' tf r.2)) := by
  have hR0 := hR
  obtain ⟨f0, hh, l, sl, t, tx, s, rfl, ag, hK, rfl, hs, rfl, hl, hB, hS, rfl, ht, htx⟩ := OR_e hR
  obtain ⟨pb, uk, ko, hkk, hg0, hdm, h0, hok9, hrun⟩ := IA_e hG.1.1
  have hg := g01 hg0
  have h1 : hh = p :: tt := h1
  subst h1
  unfold o_play at hr
  split at hr
  · rename_i hlen
    have hlen : (p :: tt).length + 13 ≤ 900 := hlen
    have hr := Option.some.inj hr
    cases htl : tellB tf t with
    | false =>
      rw [if_neg (show ¬ tellB tx t = true by rw [← tell_congr htx, htl]; decide)] at hr
      refine ⟨2, f, kk, sg, sn, mv, gm, w1, w2, dg, t1, t2, am, sx, nI s, nI l.length, fT, kkT, sgT, sdT, mvT, gmT, w1T, w2T, dgT, t1T, t2T, amT, nI t, [], ?_, Nat.zero_le _, Or.inr ⟨by decide, by rw [← hr]; exact hR0⟩⟩
      unfold fL_playS fX8_playS
      rw [f_tellsMoves tf ht, htl, ← hr]
      rfl
    | true =>
      obtain ⟨h5, hok⟩ := tell_ok htl
      rw [if_pos (show tellB tx t = true by rw [← tell_congr htx, htl])] at hr
      have hd : 5 * (0 + (t + 1) / 5) = t + 1 := by omega
      obtain ⟨u', h', nl, tkr, e8, c6, c7, c8⟩ := lockA (sg := sg) ht htx hok h5 ((t + 1) / 5) 0 hd (cpb f fT, kk, sn, mv, gm, w1, w2, dg, t1, t2, am) (f0, kk, sg, sn, mv, gm, p :: tt, w1, w2, dg, t1, t2, am) 0 ⟨f0, p :: tt, rfl, AG_trans (AG_cpb f fT) ag⟩ hG.1.1 (fun q => nomatch q) (by show (p :: tt).length + _ < 999; omega) (by omega)
      have e8 := e8 14 (by omega)
      obtain ⟨pcs, l1, l2⟩ := chP_app (p :: tt) nl
      have c6 : h' = nl ++ p :: tt := c6
      rw [← c6] at l2
      have htk : (chP h').take ((chP h').length - ((chP tt).length + 1)) = pcs := by
        rw [l2, List.length_append, chP_len, chP_len, List.length_cons, show pcs.length + (tt.length + 1) - (tt.length + 1) = pcs.length by omega, List.take_left]
      have e0 : fX8_playOnTrialS sn mv gm w1 w2 dg t1 t2 am kk sg (cpb f fT) (nI t) tf (newPC p tt) (chP tt) = some (tkr, u', pcs) := by
        unfold fX8_playOnTrialS
        rw [← chP_cons]
        have e8 : fX8_playOnTrialS_L sg (nI t) tf 14 0 0 (cpb f fT, kk, sn, mv, gm, w1, w2, dg, t1, t2, am) (chP (p :: tt)) = some (tkr, u', chP h') := e8
        rw [e8, Option.bind_some, htk]
      have hr : (match playA tx ((t + 1) / 5) 0 (f0, kk, sg, sn, mv, gm, p :: tt, w1, w2, dg, t1, t2, am) 0 with
        | none => (XS, (((f0, kk, sg, sn, mv, gm, p :: tt, w1, w2, dg, t1, t2, am), l, sl, t, tx) : PS))
        | some r => ((nI r.1).toInt64, (r.2, pushL l (f0, kk, sg, sn, mv, gm, p :: tt, w1, w2, dg, t1, t2, am), sl, 0, tx))) = r := hr
      obtain ⟨fu, ku, snu, mvu, gmu, w1u, w2u, dgu, t1u, t2u, amu⟩ := u'
      rcases c8 with ⟨b1, b2⟩ | ⟨sm', a', b1, b2, b3, b4, b5, b6⟩
      · rw [b1] at hr
        subst b2
        refine ⟨3, f, kk, sg, sn, mv, gm, w1, w2, dg, t1, t2, am, sx, nI s, nI l.length, fu, ku, sg, snu, mvu, gmu, w1u, w2u, dgu, t1u, t2u, amu, nI t, pcs, ?_, by omega, Or.inr ⟨by decide, by rw [← hr]; exact hR0⟩⟩
        unfold fL_playS fX8_playS
        rw [f_tellsMoves tf ht, htl, Option.bind_some]
        rw [if_neg (show ¬ b01 true = 0 by decide), f_cFS fT sn mv gm w1 w2 dg t1 t2 am kk hg f, Option.bind_some, e0, Option.bind_some]
        rw [if_neg (show ¬ (0 : Int32) ≤ -1 by decide), ← hr]
        rfl
      · rw [b1] at hr
        obtain ⟨sx', s', p1, p2, p3, p4⟩ := push_ok (f0 := f0) (kk := kk) (sn := sn) (mv := mv) (gm := gm) (w1 := w1) (w2 := w2) (dg := dg) (t1 := t1) (t2 := t2) (am := am) hs hl hB ag hK hg0
        obtain ⟨f1, h1, q1, ag1⟩ := b4
        have q1 : a' = (f1, ku, sg, snu, mvu, gmu, h1, w1u, w2u, dgu, t1u, t2u, amu) := q1
        have ag1 : AG fu f1 := ag1
        subst q1
        have b5 : h' = h1 := b5
        have h0 : (0 : Int32) ≤ tkr := by
          rw [b2]
          exact ple (c := 0) (by omega) (by omega)
        refine ⟨0, cpb fu f, ku, sg, snu, mvu, gmu, w1u, w2u, dgu, t1u, t2u, amu, sx', nI s', nI (pushL l (f0, kk, sg, sn, mv, gm, p :: tt, w1, w2, dg, t1, t2, am)).length, fu, ku, sg, snu, mvu, gmu, w1u, w2u, dgu, t1u, t2u, amu, 0, pcs, ?_, by omega, Or.inl ⟨rfl, h', l2, fun K' o hK' hq => ?_⟩⟩
        rotate_left 1
        · rw [← hr]
          rw [b5] at hq
          exact OR_i (t := 0) (AG_trans (AG_cpb fu f) ag1) hq p2 p3 (SVR_K hK' p4) (SLR_K hK' hS) (by omega) (fun i hi => absurd hi (by omega))
        · unfold fL_playS fX8_playS
          rw [f_tellsMoves tf ht, htl, Option.bind_some]
          rw [if_neg (show ¬ b01 true = 0 by decide), f_cFS fT sn mv gm w1 w2 dg t1 t2 am kk hg f, Option.bind_some, e0, Option.bind_some]
          rw [if_pos h0, p1, Option.bind_some, f_cFS f _ _ _ _ _ _ _ _ _ _ hg _, ← hr, b2]
          rfl
  · cases hr
end OPS

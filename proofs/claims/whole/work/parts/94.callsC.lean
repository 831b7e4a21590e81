/-! ===== the text is played ===== -/
theorem chP_app (h : List HP) : ∀ nl : List HP, ∃ l, l.length = nl.length ∧ chP (nl ++ h) = l ++ chP h
  | [] => ⟨[], rfl, rfl⟩
  | p :: nl => by
    obtain ⟨l, h1, h2⟩ := chP_app h nl
    refine ⟨newPC p (nl ++ h) :: l, by rw [List.length_cons, List.length_cons, h1], ?_⟩
    show newPC p (nl ++ h) :: chP (nl ++ h) = _
    rw [h2]
    rfl
theorem f_cFS (f0 : Nat → Int32) (sn mv gm w1 w2 dg t1 t2 am kk : Int32) {sg : Int32} {g : Bool} (hg : sg = b01 g) (f : Nat → Int32) : fX7_copyFromS f0 sn mv gm w1 w2 dg t1 t2 am kk sg f = some (cpb f f0, kk, sg, sn, mv, gm, w1, w2, dg, t1, t2, am) := by
  subst hg
  unfold fX7_copyFromS
  rw [f_copyFrom, Option.bind_some]
theorem f_cFN (f0 : Nat → Int32) (sn mv gm w1 w2 dg t1 t2 am kk : Int32) {sg : Int32} {g : Bool} (hg : sg = b01 g) (f : Nat → Int32) : fX7_copyFromN f0 sn mv gm w1 w2 dg t1 t2 am kk sg f = some (cpb f f0, kk, sg, sn, mv, gm, w1, w2, dg, t1, t2, am) := by
  subst hg
  unfold fX7_copyFromN
  rw [f_copyFrom, Option.bind_some]
theorem TE_cp {f : Nat → Int32} {kk sg sn mv gm w1 w2 dg t1 t2 am : Int32} {now : Nat → Int32} {h : List HP} (hr : RP f kk sg sn mv gm w1 w2 dg t1 t2 am now h) {F L : Nat → Int64} {B : Nat → Int32} {C : List Nat} {nn : Nat} (hn : ND F L B (fun i => i ∈ C) (now 60) h) (hl : LV B C nn) (fT tri : Nat → Int32) : TE sg (cpb f fT, kk, sn, mv, gm, w1, w2, dg, t1, t2, am) h (cpy now tri) F L B nn C :=
  ⟨RP_row (fun i hi => cpy_lt (by omega)) (RP_AG (AG_cpb f fT) hr), by rw [cpy_lt (by decide)]; exact hn, hl⟩
theorem m1_sm {sm : Nat} (h : sm ≤ 48) : ¬ (-1 : Int32) = nI sm := by
  rw [m1_nI (by omega)]
  exact id
/-- the reference, when the text does not tell moves -/
theorem p9_bad {n k t : Nat} (ht60 : t ≤ 60) {now book kept isk : Nat → Int32} {F L : Nat → Int64} {B text : Nat → Int32} (Mv tri : Nat → Int32) (h : tellB text t = false) : ∃ tri' gd' pos' ps' sm', fX9_play (nI n) (nI k) (nI t) now book kept isk F L B Mv tri text = some (0, now, book, kept, F, L, B, Mv, nI k, tri', gd', pos', ps', sm', 1, nI n, nI t) := by
  obtain ⟨gd, q, e9, h2⟩ := f_readAll0 (tf := text) ht60 (nI n) (nI k) now book kept isk F L B Mv tri
  have : gd = 0 := by
    rcases h2 with ⟨_, e⟩ | ⟨e, _⟩
    · rw [h] at e
      exact absurd e (by decide)
    · exact e
  subst this
  refine ⟨cpy now tri, 0, nI q, 0, 0, ?_⟩
  unfold fX9_play
  rw [e9]
  rfl
/-- the reference, when it tells them -/
theorem p9_good {n k t : Nat} (ht60 : t ≤ 60) {now book kept isk : Nat → Int32} {F L : Nat → Int64} {B text : Nat → Int32} (Mv tri : Nat → Int32) (h : tellB text t = true) {now' book' kept' : Nat → Int32} {F' L' : Nat → Int64} {B' M' tri' : Nat → Int32} {nn' q : Int32} {ps sm : Int32} (hr : fX9_readAll (nI n) (nI k) (nI t) now book kept isk F L B Mv (cpy now tri) text 1 = some (now', book', kept', F', L', B', M', nn', tri', 1, q, ps, sm)) : fX9_play (nI n) (nI k) (nI t) now book kept isk F L B Mv tri text = if ps = 0 then some (0, now', book', kept', F', L', B', M', nn', tri', 1, q, ps, sm, 2, nI n, nI t) else (fX9_save (nI n) now' book').bind (fun (r_11 : (Nat → Int32) × Int32) => some (sm, cpy tri' now', r_11.1, kept', F', L', B', M', nn', tri', 1, q, ps, sm, 0, r_11.2, 0)) := by
  obtain ⟨gd, q2, e9, h2⟩ := f_readAll0 (tf := text) ht60 (nI n) (nI k) now book kept isk F L B Mv tri
  have : gd = 1 := by
    rcases h2 with ⟨e, _⟩ | ⟨_, _, _, e⟩
    · exact e
    · rw [h] at e
      exact absurd e (by decide)
  subst this
  unfold fX9_play
  rw [e9, Option.bind_some]
  simp only [jn_eq]
  have hr0 : fX9_refused 0 = some (0, 0) := rfl
  have hr2 : fX9_refused 2 = some (1, 2) := rfl
  rw [if_neg (show ¬ (1 : Int32) = 0 by decide), hr0, Option.bind_some, if_pos (show ((0 : Int32), (0 : Int32)).1 = 0 from rfl), hr, Option.bind_some]
  by_cases e : ps = 0
  · rw [if_pos e, if_pos e, hr2, Option.bind_some, if_neg (show ¬ ((1 : Int32), (2 : Int32)).1 = 0 by decide)]
  · rw [if_neg e, if_neg e, Option.bind_some, if_pos (show ((0 : Int32), (0 : Int32)).1 = 0 from rfl)]
    simp only [f_copy', Option.bind_some]
theorem c_playN {K : List HP → Option Nat → Prop} {N : Nat} {hn : List HP} {f : Nat → Int32} {kk sg sn mv gm : Int32} {lt : Option Nat} {w1 w2 dg t1 t2 am so sc : Int32} {sx : Nat → SV} {skf : Nat → Int32} {qx : Nat → SV} {tl : Int32} {tf : Nat → Int32} {nst nn len : Int32} {now book kept isk : Nat → Int32} {F L : Nat → Int64} {B text : Nat → Int32} (hR : REL K N hn (f, kk, sg, sn, mv, gm, lt, w1, w2, dg, t1, t2, am) so sc sx skf qx tl tf nst nn len now book kept isk F L B text) (hN : N < 600) (h1 : hn = []) (fT : Nat → Int32) (kkT sgT sdT mvT gmT w1T w2T dgT t1T t2T amT : Int32) (ltT : Option Nat) (fo : Nat → Int64) (Mv tri : Nat → Int32) : ∃ ans fT' kkT' sgT' sdT' mvT' gmT' ltT' w1T' w2T' dgT' t1T' t2T' amT' now' book' kept' F' L' B' M' nn' tri' gd' pos' ps' sm' q b, fL_playN sn mv gm w1 w2 dg t1 t2 am kk sg f so sc sdT mvT gmT ltT w1T w2T dgT t1T t2T amT kkT sgT fT tl tf fo sx = some (ans, f, kk, sg, sn, mv, gm, w1, w2, dg, t1, t2, am, sx, so, sc, fT', kkT', sgT', sdT', mvT', gmT', ltT', w1T', w2T', dgT', t1T', t2T', amT', tl, fo) ∧ fX9_play nst nn len now book kept isk F L B Mv tri text = some (b, now', book', kept', F', L', B', M', nn', tri', gd', pos', ps', sm', q, nst, len) ∧ AN ans q fo b ∧ REL K (N + 1) hn (f, kk, sg, sn, mv, gm, lt, w1, w2, dg, t1, t2, am) so sc sx skf qx tl tf nst nn' len now' book' kept' isk F' L' B' text := by
  have hR0 := REL_mono hR (K' := K) (N' := N + 1) (fun _ _ x => x) (by omega)
  have hr := REL_RP hR
  have hg := RP_sg hr
  have hs0 : sn = 0 := hr.2.2.2.2.2.2.2.2.2.2.2.2.2.2.2.2.2.2.1.mpr h1
  obtain ⟨hb, hq, C, M, s, n, k, t, ⟨hRS, hBK, hKP, hLV, hk4⟩, rfl, hs6, rfl, rfl, hn6, rfl, hsk, rfl, rfl, ht60, htf, hCM, hMN⟩ := hR
  cases htl : tellB tf t with
  | false =>
    obtain ⟨tri', gd', pos', ps', sm', e9⟩ := p9_bad (n := n) (k := k) ht60 (now := now) (book := book) (kept := kept) (isk := isk) (F := F) (L := L) (B := B) Mv tri ((tell_congr htf).symm.trans htl)
    refine ⟨1, fT, kkT, sgT, sdT, mvT, gmT, ltT, w1T, w2T, dgT, t1T, t2T, amT, now, book, kept, F, L, B, Mv, nI k, tri', gd', pos', ps', sm', 1, 0, ?_, e9, AN_no (by decide), hR0⟩
    unfold fL_playN fX8_playN
    rw [f_tellsMoves tf ht60, htl]
    rfl
  | true =>
    obtain ⟨h5, hok⟩ := tell_ok htl
    obtain ⟨x, hx, hx1, _⟩ := sq_of (i := 0) ht60 (by omega) (by omega) hok
    obtain ⟨y, hy, hy1, _⟩ := sq_of (i := 2) ht60 (by omega) (by omega) hok
    have hf : ∀ b : Nat → Int32, alB sn mv b x y = false := fun b => by
      unfold alB
      rw [hs0]
      rfl
    have hpar : fX4_parts (nI t) = some (nI ((t + 1) / 5)) := by
      unfold fX4_parts
      rw [nI_1]
      have : ∀ m, m < 62 → nI m / 5 = nI (m / 5) := by decide +kernel
      rw [this _ (by omega)]
    have hlen : hn.length ≤ M := hRS.2.2.2
    obtain ⟨now', book', kept', F', L', B', M', nn', tri', q, ps, sm', tkr, u', h', Cb', Ct', ok, e9, e2, e8, hE, hCb, ⟨nl, c6, c7⟩, c8⟩ := lock0 (sg := sg) hn6 (by omega) ht60 htf htl Mv (tri := cpy now tri) (u := (cpb f fT, kk, sn, mv, gm, w1, w2, dg, t1, t2, am)) (h := hn) ⟨hRS, hBK, hKP, hLV, hk4⟩ (TE_cp hr hRS.2.1 hLV fT (cpy now tri)) (by omega) (by omega)
    have htk : tkr = -1 := by
      have : fX8_playOnTrialS_L sg (nI t) tf 14 0 0 (cpb f fT, kk, sn, mv, gm, w1, w2, dg, t1, t2, am) (chP hn) = some (-1, (cpb f fT, kk, sn, mv, gm, w1, w2, dg, t1, t2, am), chP hn) := by
        rw [pt_S]
        unfold fX8_playOnTrialS_B
        rw [hpar, Option.bind_some, if_neg (show ¬ nI ((t + 1) / 5) ≤ 0 from nI_ge (a := 0) (by omega) (by omega))]
        rw [show (5 : Int32) * 0 = nI 0 from rfl, hx1, Option.bind_some, show nI 0 + 2 = nI 2 from rfl, hy1, Option.bind_some]
        show (fX7_allowsMove sn mv (cpb f fT) (nI x) (nI y)).bind _ = _
        rw [f_allowsMove sn mv hx hy, hf, Option.bind_some, if_pos (show b01 false = 0 from rfl)]
      rw [this] at e8
      exact (congrArg Prod.fst (Option.some.inj e8)).symm
    have hokf : ok = false := by
      rcases c8 with ⟨_, b1, b2, _⟩ | ⟨b1, _⟩
      · rw [htk] at b1
        exact absurd b1 (m1_sm b2)
      · exact b1
    rw [hokf] at e2
    have hps : ps = 0 := e2
    obtain ⟨hRn, hBk, hKp, hlb, hnn⟩ := hE
    refine ⟨2, cpb f fT, kk, sg, sn, mv, gm, none, w1, w2, dg, t1, t2, am, now', book', kept', F', L', B', M', nI nn', tri', 1, nI q, ps, nI sm', 2, 0, ?_, ?_, AN_no (by decide), ?_⟩
    · have e0 : fX8_playOnTrialN sn mv (cpb f fT) (nI t) tf = some (-1) := by
        show fX8_playOnTrialN_L4 sn mv (cpb f fT) (nI t) tf 16 0 0 = _
        have s_S : ∀ M v p, fX8_playOnTrialN_L4 sn mv (cpb f fT) (nI t) tf (M + 1) v p = fX8_playOnTrialN_L4_B sn mv (cpb f fT) (nI t) tf (fX8_playOnTrialN_L4 sn mv (cpb f fT) (nI t) tf M) v p := fun _ _ _ => rfl
        rw [s_S]
        unfold fX8_playOnTrialN_L4_B
        rw [hpar, Option.bind_some, if_neg (show ¬ nI ((t + 1) / 5) ≤ 0 from nI_ge (a := 0) (by omega) (by omega))]
        rw [show (5 : Int32) * 0 = nI 0 from rfl, hx1, Option.bind_some, show nI 0 + 2 = nI 2 from rfl, hy1, Option.bind_some, f_allowsMove sn mv hx hy, hf]
        rfl
      unfold fL_playN fX8_playN
      rw [f_tellsMoves tf ht60, htl, Option.bind_some]
      rw [if_neg (show ¬ b01 true = 0 by decide), f_cFN fT sn mv gm w1 w2 dg t1 t2 am kk hg f, Option.bind_some, e0]
      rfl
    · rw [p9_good ht60 Mv tri ((tell_congr htf).symm.trans htl) e9, if_pos hps]
    · exact ⟨hb, hq, Cb', M, s, n, nn', t, ⟨hRn, hBk, hKp, hlb, hnn⟩, rfl, hs6, rfl, rfl, hn6, rfl, hsk, rfl, rfl, ht60, htf, by omega, by omega⟩
theorem c_playS {K : List HP → Option Nat → Prop} {N : Nat} {hn : List HP} {f : Nat → Int32} {kk sg sn mv gm : Int32} {lt : Option Nat} {w1 w2 dg t1 t2 am so sc : Int32} {sx : Nat → SV} {skf : Nat → Int32} {qx : Nat → SV} {tl : Int32} {tf : Nat → Int32} {nst nn len : Int32} {now book kept isk : Nat → Int32} {F L : Nat → Int64} {B text : Nat → Int32} {p : HP} {tt : List HP} (hR : REL K N (p :: tt) (f, kk, sg, sn, mv, gm, lt, w1, w2, dg, t1, t2, am) so sc sx skf qx tl tf nst nn len now book kept isk F L B text) (hN : N < 600) {la : Nat} (hla : lt = some la) (fT : Nat → Int32) (kkT sgT sdT mvT gmT w1T w2T dgT t1T t2T amT : Int32) (fo : Nat → Int64) (Mv tri : Nat → Int32) : ∃ ans f' kk' sg' sn' mv' gm' w1' w2' dg' t1' t2' am' sx' so' sc' fT' kkT' sgT' sdT' mvT' gmT' w1T' w2T' dgT' t1T' t2T' amT' tl' fo' pcs now' book' kept' F' L' B' M' nn' tri' gd' pos' ps' sm' q b nst' len', fL_playS la sn mv gm w1 w2 dg t1 t2 am kk sg f so sc sdT mvT gmT w1T w2T dgT t1T t2T amT kkT sgT fT tl tf fo sx (newPC p tt) (chP tt) = some (ans, f', kk', sg', sn', mv', gm', w1', w2', dg', t1', t2', am', sx', so', sc', fT', kkT', sgT', sdT', mvT', gmT', w1T', w2T', dgT', t1T', t2T', amT', tl', fo', pcs) ∧ fX9_play nst nn len now book kept isk F L B Mv tri text = some (b, now', book', kept', F', L', B', M', nn', tri', gd', pos', ps', sm', q, nst', len') ∧ AN ans q fo' b ∧ ((ans = 0 ∧ ∃ h', chP h' = pcs ++ chP (p :: tt) ∧ ∀ (K' : List HP → Option Nat → Prop) (o : Option Nat), (∀ h o, K h o → K' h o) → K' h' o → REL K' (N + 1) h' (f', kk', sg', sn', mv', gm', o, w1', w2', dg', t1', t2', am') so' sc' sx' skf qx tl' tf nst' nn' len' now' book' kept' isk F' L' B' text) ∨ (ans ≠ 0 ∧ REL K (N + 1) (p :: tt) (f', kk', sg', sn', mv', gm', lt, w1', w2', dg', t1', t2', am') so' sc' sx' skf qx tl' tf nst' nn' len' now' book' kept' isk F' L' B' text)) := by
  have hR0 := REL_mono hR (K' := K) (N' := N + 1) (fun _ _ x => x) (by omega)
  have hr := REL_RP hR
  have hg := RP_sg hr
  subst hla
  obtain ⟨hb, hq, C, M, s, n, k, t, ⟨hRS, hBK, hKP, hLV, hk4⟩, rfl, hs6, rfl, rfl, hn6, rfl, hsk, rfl, rfl, ht60, htf, hCM, hMN⟩ := hR
  cases htl : tellB tf t with
  | false =>
    obtain ⟨tri', gd', pos', ps', sm', e9⟩ := p9_bad (n := n) (k := k) ht60 (now := now) (book := book) (kept := kept) (isk := isk) (F := F) (L := L) (B := B) Mv tri ((tell_congr htf).symm.trans htl)
    refine ⟨1, f, kk, sg, sn, mv, gm, w1, w2, dg, t1, t2, am, sx, nI s, nI n, fT, kkT, sgT, sdT, mvT, gmT, w1T, w2T, dgT, t1T, t2T, amT, nI t, fo, [], now, book, kept, F, L, B, Mv, nI k, tri', gd', pos', ps', sm', 1, 0, nI n, nI t, ?_, e9, AN_no (by decide), Or.inr ⟨by decide, hR0⟩⟩
    unfold fL_playS fX8_playS
    rw [f_tellsMoves tf ht60, htl]
    rfl
  | true =>
    obtain ⟨h5, hok⟩ := tell_ok htl
    have hlen : (p :: tt).length ≤ M := hRS.2.2.2
    obtain ⟨now', book', kept', F', L', B', M', nn', tri', q, ps, sm', tkr, u', h', Cb', Ct', ok, e9, e2, e8, hE, hCb, ⟨nl, c6, c7⟩, c8⟩ := lock0 (sg := sg) hn6 (by omega) ht60 htf htl Mv (tri := cpy now tri) (u := (cpb f fT, kk, sn, mv, gm, w1, w2, dg, t1, t2, am)) (h := p :: tt) ⟨hRS, hBK, hKP, hLV, hk4⟩ (TE_cp hr hRS.2.1 hLV fT (cpy now tri)) (by omega) (by omega)
    obtain ⟨pcs, l1, l2⟩ := chP_app (p :: tt) nl
    rw [← c6] at l2
    have htk : (chP h').take ((chP h').length - ((chP tt).length + 1)) = pcs := by
      rw [l2, List.length_append, chP_len, chP_len, List.length_cons, show pcs.length + (tt.length + 1) - (tt.length + 1) = pcs.length by omega, List.take_left]
    have e0 : fX8_playOnTrialS sn mv gm w1 w2 dg t1 t2 am kk sg (cpb f fT) (nI t) tf (newPC p tt) (chP tt) = some (tkr, u', pcs) := by
      unfold fX8_playOnTrialS
      rw [← chP_cons, e8, Option.bind_some, htk]
    obtain ⟨hRn, hBk, hKp, hlb, hnn⟩ := id hE
    rcases c8 with ⟨b1, b2, b3, b4, b5, b6⟩ | ⟨b1, b2⟩
    · subst b1
      have hps : ¬ ps = 0 := by rw [e2]; decide
      obtain ⟨sx', so2, n2, book2, hb2, p1, p2, hs2, hn2, hB2⟩ := save_ok hs6 hn6 hBk hRn
      obtain ⟨tR, tN, tL⟩ := b4
      have h0 : (0 : Int32) ≤ tkr := by
        rw [b2]
        exact ple (c := 0) (by omega) (by omega)
      refine ⟨0, cpb u'.1 f, u'.2.1, sg, u'.2.2.1, u'.2.2.2.1, u'.2.2.2.2.1, u'.2.2.2.2.2.1, u'.2.2.2.2.2.2.1, u'.2.2.2.2.2.2.2.1, u'.2.2.2.2.2.2.2.2.1, u'.2.2.2.2.2.2.2.2.2.1, u'.2.2.2.2.2.2.2.2.2.2, sx', nI so2, nI n2, u'.1, u'.2.1, sg, u'.2.2.1, u'.2.2.2.1, u'.2.2.2.2.1, u'.2.2.2.2.2.1, u'.2.2.2.2.2.2.1, u'.2.2.2.2.2.2.2.1, u'.2.2.2.2.2.2.2.2.1, u'.2.2.2.2.2.2.2.2.2.1, u'.2.2.2.2.2.2.2.2.2.2, 0, vp_updL fo 0 tkr.toInt64, pcs, cpy tri' now', book2, kept', F', L', B', M', nI nn', tri', 1, nI q, ps, nI sm', 0, nI sm', nI n2, 0, ?_, ?_, ?_, Or.inl ⟨rfl, h', l2, fun K' o hK hq2 => ?_⟩⟩
      · unfold fL_playS fX8_playS
        rw [f_tellsMoves tf ht60, htl, Option.bind_some]
        rw [if_neg (show ¬ b01 true = 0 by decide), f_cFS fT sn mv gm w1 w2 dg t1 t2 am kk hg f, Option.bind_some, e0, Option.bind_some]
        rw [if_pos h0, p1, Option.bind_some, f_cFS f _ _ _ _ _ _ _ _ _ _ hg _]
        rfl
      · rw [p9_good ht60 Mv tri ((tell_congr htf).symm.trans htl) e9, if_neg hps, p2, Option.bind_some]
      · rw [b2]
        exact AN_yes
      · refine ⟨hb2, hq, Ct', M + (t + 1) / 5, so2, n2, nn', 0, ⟨⟨RP_row (fun i hi => cpy_lt (by omega)) (RP_AG (AG_cpb u'.1 f) tR), by rw [cpy_lt (by decide)]; exact tN, hq2, by rw [c6, List.length_append]; omega⟩, BK_sub hB2 hK (by omega) b5, KP_sub hKp hK (by omega) b5, tL, hnn⟩, rfl, hs2, rfl, rfl, hn2, rfl, hsk, rfl, rfl, by omega, fun i hi => absurd hi (by omega), by omega, by omega⟩
    · subst b1
      have hps : ps = 0 := e2
      subst b2
      refine ⟨2, f, kk, sg, sn, mv, gm, w1, w2, dg, t1, t2, am, sx, nI s, nI n, u'.1, u'.2.1, sg, u'.2.2.1, u'.2.2.2.1, u'.2.2.2.2.1, u'.2.2.2.2.2.1, u'.2.2.2.2.2.2.1, u'.2.2.2.2.2.2.2.1, u'.2.2.2.2.2.2.2.2.1, u'.2.2.2.2.2.2.2.2.2.1, u'.2.2.2.2.2.2.2.2.2.2, nI t, fo, pcs, now', book', kept', F', L', B', M', nI nn', tri', 1, nI q, ps, nI sm', 2, 0, nI n, nI t, ?_, ?_, AN_no (by decide), Or.inr ⟨by decide, ?_⟩⟩
      · unfold fL_playS fX8_playS
        rw [f_tellsMoves tf ht60, htl, Option.bind_some]
        rw [if_neg (show ¬ b01 true = 0 by decide), f_cFS fT sn mv gm w1 w2 dg t1 t2 am kk hg f, Option.bind_some, e0, Option.bind_some]
        rw [if_neg (show ¬ (0 : Int32) ≤ -1 by decide)]
        rfl
      · rw [p9_good ht60 Mv tri ((tell_congr htf).symm.trans htl) e9, if_pos hps]
      · exact ⟨hb, hq, Cb', M, s, n, nn', t, ⟨hRn, hBk, hKp, hlb, hnn⟩, rfl, hs6, rfl, rfl, hn6, rfl, hsk, rfl, rfl, ht60, htf, by omega, by omega⟩

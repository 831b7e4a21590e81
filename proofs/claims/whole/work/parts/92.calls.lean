/-! ===== the whole of both objects, related; calls that change them ===== -/
def REL (K : List HP → Option Nat → Prop) (N : Nat) (hn : List HP) (v : SV) (so sc : Int32) (sx : Nat → SV) (skf : Nat → Int32) (qx : Nat → SV) (tl : Int32) (tf : Nat → Int32) (nst nn len : Int32) (now book kept isk : Nat → Int32) (F L : Nat → Int64) (B text : Nat → Int32) : Prop :=
  ∃ (hb hq : Nat → List HP) (C : List Nat) (M s n k t : Nat), EN K M n s sx hb qx hq isk v hn now book kept F L B k C ∧ so = nI s ∧ s < 6 ∧ sc = nI n ∧ nst = nI n ∧ n ≤ 6 ∧ nn = nI k ∧ (∀ j, j < 2 → skf j = isk j) ∧ tl = nI t ∧ len = nI t ∧ t ≤ 60 ∧ (∀ i, i < t → tf i = text i) ∧ C.length ≤ M ∧ M + t ≤ N
theorem REL_RP {K : List HP → Option Nat → Prop} {N : Nat} {hn : List HP} {f : Nat → Int32} {kk sg sn mv gm : Int32} {lt : Option Nat} {w1 w2 dg t1 t2 am so sc : Int32} {sx : Nat → SV} {skf : Nat → Int32} {qx : Nat → SV} {tl : Int32} {tf : Nat → Int32} {nst nn len : Int32} {now book kept isk : Nat → Int32} {F L : Nat → Int64} {B text : Nat → Int32} (hR : REL K N hn (f, kk, sg, sn, mv, gm, lt, w1, w2, dg, t1, t2, am) so sc sx skf qx tl tf nst nn len now book kept isk F L B text) : RP f kk sg sn mv gm w1 w2 dg t1 t2 am now hn := by
  obtain ⟨hb, hq, C, M, s, n, k, t, ⟨hRS, hBK, hKP, hLV, hk4⟩, rfl, hs6, rfl, rfl, hn6, rfl, hsk, rfl, rfl, ht60, htf, hCM, hMN⟩ := hR
  exact hRS.1
theorem REL_K {K : List HP → Option Nat → Prop} {N : Nat} {hn : List HP} {f : Nat → Int32} {kk sg sn mv gm : Int32} {lt : Option Nat} {w1 w2 dg t1 t2 am so sc : Int32} {sx : Nat → SV} {skf : Nat → Int32} {qx : Nat → SV} {tl : Int32} {tf : Nat → Int32} {nst nn len : Int32} {now book kept isk : Nat → Int32} {F L : Nat → Int64} {B text : Nat → Int32} (hR : REL K N hn (f, kk, sg, sn, mv, gm, lt, w1, w2, dg, t1, t2, am) so sc sx skf qx tl tf nst nn len now book kept isk F L B text) : K hn lt := by
  obtain ⟨hb, hq, C, M, s, n, k, t, ⟨hRS, hBK, hKP, hLV, hk4⟩, rfl, hs6, rfl, rfl, hn6, rfl, hsk, rfl, rfl, ht60, htf, hCM, hMN⟩ := hR
  exact hRS.2.2.1
theorem REL_mono {K : List HP → Option Nat → Prop} {N : Nat} {hn : List HP} {f : Nat → Int32} {kk sg sn mv gm : Int32} {lt : Option Nat} {w1 w2 dg t1 t2 am so sc : Int32} {sx : Nat → SV} {skf : Nat → Int32} {qx : Nat → SV} {tl : Int32} {tf : Nat → Int32} {nst nn len : Int32} {now book kept isk : Nat → Int32} {F L : Nat → Int64} {B text : Nat → Int32} (hR : REL K N hn (f, kk, sg, sn, mv, gm, lt, w1, w2, dg, t1, t2, am) so sc sx skf qx tl tf nst nn len now book kept isk F L B text) {K' : List HP → Option Nat → Prop} {N' : Nat} (hK : ∀ h o, K h o → K' h o) (hN : N ≤ N') : REL K' N' hn (f, kk, sg, sn, mv, gm, lt, w1, w2, dg, t1, t2, am) so sc sx skf qx tl tf nst nn len now book kept isk F L B text := by
  obtain ⟨hb, hq, C, M, s, n, k, t, ⟨hRS, hBK, hKP, hLV, hk4⟩, r1, r2, r3, r4, r5, r6, r7, r8, r9, r10, r11, r12, r13⟩ := hR
  exact ⟨hb, hq, C, M, s, n, k, t, ⟨RS_sub hRS hK (Nat.le_refl _) (fun _ x => x), BK_sub hBK hK (Nat.le_refl _) (fun _ x => x), KP_sub hKP hK (Nat.le_refl _) (fun _ x => x), hLV, hk4⟩, r1, r2, r3, r4, r5, r6, r7, r8, r9, r10, r11, r12, by omega⟩
theorem REL_new {K K' : List HP → Option Nat → Prop} {M n2 so2 k n0 t N : Nat} {sx' qx : Nat → SV} {hb' hq : Nat → List HP} {isk skf : Nat → Int32} {F L F' L' : Nat → Int64} {B B' tf text : Nat → Int32} {C : List Nat} {ks : List Int32} {a1 : Int32} {book' kept book'' kept'' now' : Nat → Int32} {rk : Int32 → Int32} {mD : List Nat → List Nat} {rp : Int64 × Int64} (hN : NTc ks a1 n2 book' isk kept F L B k rk mD F' L' B' n0 book'' kept'' rp) (hLV : LV B C k) (hK : ∀ h o, K h o → K' h o) (hBK : BKR K F L B C M n2 so2 sx' hb' book') (hKP : KPR K F L B C M qx hq isk kept) {q : HP} {h : List HP} (hrp : rp = rpos q.1 q.2) (hnd : ND F L B (fun i => i ∈ C) a1 h) {v' : SV} (hRP : RPv v' now' (q :: h)) (h60 : now' 60 = nI n0) (hKq : K' (q :: h) v'.2.2.2.2.2.2.1) (hl : h.length ≤ M) (hCM : C.length ≤ M) (hs : so2 < 6) (hn : n2 ≤ 6) (hsk : ∀ j, j < 2 → skf j = isk j) (ht : t ≤ 60) (htf : ∀ i, i < t → tf i = text i) (hMN : M + t ≤ N) : REL K' (N + 1) (q :: h) v' (nI so2) (nI n2) sx' skf qx (nI t) tf (nI n2) (nI (n0 + 1)) (nI t) now' book'' kept'' isk F' L' B' text := by
  obtain ⟨x1, x2, x3, x4⟩ := hN.2.2.2.2 C hLV
  obtain ⟨y1, y2⟩ := x4 q h hrp hnd
  have h0 := hN.1.1
  refine ⟨hb', hq, n0 :: mD C, M + 1, so2, n2, n0 + 1, t, ⟨⟨hRP, by rw [h60]; exact y2, hKq, by rw [List.length_cons]; omega⟩, BK_sub (NT_BK hN hLV hK (Nat.le_refl _) hBK) (fun _ _ x => x) (by omega) (fun i hi => List.mem_cons_of_mem _ hi), KP_sub (NT_KP hN hLV hK (Nat.le_refl _) hKP) (fun _ _ x => x) (by omega) (fun i hi => List.mem_cons_of_mem _ hi), y1, by omega⟩, rfl, hs, rfl, rfl, hn, rfl, hsk, rfl, rfl, ht, htf, by rw [List.length_cons]; omega, by omega⟩
theorem c_setUp {K : List HP → Option Nat → Prop} {N : Nat} {hn : List HP} {f : Nat → Int32} {kk sg sn mv gm : Int32} {lt : Option Nat} {w1 w2 dg t1 t2 am so sc : Int32} {sx : Nat → SV} {skf : Nat → Int32} {qx : Nat → SV} {tl : Int32} {tf : Nat → Int32} {nst nn len : Int32} {now book kept isk : Nat → Int32} {F L : Nat → Int64} {B text : Nat → Int32} (hR : REL K N hn (f, kk, sg, sn, mv, gm, lt, w1, w2, dg, t1, t2, am) so sc sx skf qx tl tf nst nn len now book kept isk F L B text) (hN : N < 600) (Mv : Nat → Int32) : ∃ ans f' kk' sn' mv' gm' sx' so' sc' now' book' kept' F' L' B' M' nn' nst' q p, fX8_setUp sn mv gm lt w1 w2 dg t1 t2 am kk sg f so sc sx = some (ans, f', kk', sn', mv', gm', sx', so', sc', newPC p []) ∧ fX9_setUp nst nn now book kept isk F L B Mv = some (ans, now', book', kept', F', L', B', M', nn', nst', q) ∧ ∀ (K' : List HP → Option Nat → Prop) (o : Option Nat), (∀ h o, K h o → K' h o) → K' [p] o → REL K' (N + 1) [p] (f', kk', sg, sn', mv', gm', o, w1, w2, dg, t1, t2, am) so' sc' sx' skf qx tl tf nst' nn' len now' book' kept' isk F' L' B' text := by
  obtain ⟨hb, hq, C, M, s, n, k, t, ⟨hRS, hBK, hKP, hLV, hk4⟩, rfl, hs6, rfl, rfl, hn6, rfl, hsk, rfl, rfl, ht60, htf, hCM, hMN⟩ := hR
  obtain ⟨sx', so2, n2, book', hb', p1, p2, hs2, hn2, hB2⟩ := save_ok hs6 hn6 hBK hRS
  obtain ⟨f', ag, hpl⟩ := f_placeAll f
  have hr : RP f kk sg sn mv gm w1 w2 dg t1 t2 am now hn := hRS.1
  have pb' : PB f' := AG_PB (AG_symm ag) set_PB
  have uk' : UK f' := AG_UK (AG_symm ag) set_UK
  have ko' : KO f' := AG_KO (AG_symm ag) set_KO
  have ek : kingN f' = some 24 := by rw [AG_kingN ag]; exact set_king
  have ags : AG f' (su4 now) := AG_trans ag (AG_symm (su_lo now))
  have pbs : PB (su4 now) := AG_PB ags pb'
  obtain ⟨rk, mD, F', L', B', M', book2, kept2, n0, now4, hNT, h4, he⟩ := f_goStart pbs 0 hn2 hk4 hLV (by omega) (book := book') (kept := kept) (isk := isk) Mv (hds (by omega) hB2 hKP (fun k hk => by
    simp only [List.mem_cons, List.not_mem_nil, or_false] at hk
    rw [hk]
    exact HC_m1))
  have ag4 : AG f' now4 := fun s hs => (ags s hs).trans ((h4.2 s (by omega)).trans (stt_ot ⟨by omega, by omega, by omega, by omega⟩)).symm
  have hRP := st_RP hr (Or.inl rfl) ags pb' uk' ko' ⟨24, ek, by decide⟩ (fun i hi _ => su_hi now hi) h4.2
  refine ⟨nI (piN f'), f', 24, 1, 0, 0, sx', nI so2, nI n2, now4, book2, kept2, F', L', B', M', nI (n0 + 1), nI n2, 0, (f', 0), ?_, ?_, fun K' o hK hq => ?_⟩
  · unfold fX8_setUp fX7_beginSetUp
    rw [p1, Option.bind_some, hpl, Option.bind_some, f_begin, Option.bind_some, Option.bind_some, f_countAll, Option.bind_some]
  · unfold fX9_setUp
    rw [p2, Option.bind_some, f_goSetUp, he, Option.bind_some, f_piecesIn _ (AG_PB ag4 pb').pos, Option.bind_some, AG_piN ag4]
    rfl
  · have e24 : (24 : Int32) = enc (kingN f') := by rw [ek]; rfl
    rw [← e24] at hRP
    exact REL_new hNT hLV hK hB2 hKP (q := (f', 0)) (h := []) (rpos_AG (AG_symm ags) 0) rfl hRP h4.1 hq (Nat.zero_le _) hCM hs2 hn2 hsk ht60 htf hMN
theorem f_clear (row : Nat → Int32) (told rf : Int32) (bk : Nat → Int32) (st : Int32) : fX9_clearBoard_L19 told 64 0 row rf bk st = some (told, upd (upd (upd (upd (upd (fun k => if k < 49 then 0 else row k) 50 0) 51 0) 53 0) 49 0) 60 (-1), rf, bk, st) := by
  have h : fX9_clearBoard_L19 told 64 (nI 0) (fun k => if k < 0 then 0 else row k) rf bk st = some (told, upd (upd (upd (upd (upd (fun k => if k < 49 then 0 else row k) 50 0) 51 0) 53 0) 49 0) 60 (-1), rf, bk, st) := by
    refine lp_for (B := fun (zf : Int32 × (Nat → Int32) × Int32 × (Nat → Int32) × Int32 → Option (Int32 × (Nat → Int32) × Int32 × (Nat → Int32) × Int32)) z => fX9_clearBoard_L19_B told (fun a b c d e => zf (a, b, c, d, e)) z.1 z.2.1 z.2.2.1 z.2.2.2.1 z.2.2.2.2) (fun i => (nI i, (fun k => if k < i then 0 else row k), rf, bk, st)) 49 (fun i hi self => ?_) (fun self => ?_) (by omega)
    · show fX9_clearBoard_L19_B told _ (nI i) _ rf bk st = _
      unfold fX9_clearBoard_L19_B
      rw [if_neg (nle (c := 49) hi (by decide)), inB_t (by omega) (by decide), grd_t, nI_clamp (by omega), nI_1]
      rw [show upd (fun k => if k < i then 0 else row k) i 0 = (fun k => if k < i + 1 then 0 else row k) from by
        funext k
        unfold upd
        show (if k = i then (0 : Int32) else if k < i then 0 else row k) = if k < i + 1 then 0 else row k
        by_cases e : k = i
        · rw [if_pos e, if_pos (by omega)]
        · by_cases e2 : k < i
          · rw [if_neg e, if_pos e2, if_pos (by omega)]
          · rw [if_neg e, if_neg e2, if_neg (by omega)]]
    · show fX9_clearBoard_L19_B told _ (nI 49) _ rf bk st = _
      unfold fX9_clearBoard_L19_B
      rw [if_pos (by decide)]
      rfl
  exact h
theorem c_clearBoard {K : List HP → Option Nat → Prop} {N : Nat} {hn : List HP} {f : Nat → Int32} {kk sg sn mv gm : Int32} {lt : Option Nat} {w1 w2 dg t1 t2 am so sc : Int32} {sx : Nat → SV} {skf : Nat → Int32} {qx : Nat → SV} {tl : Int32} {tf : Nat → Int32} {nst nn len : Int32} {now book kept isk : Nat → Int32} {F L : Nat → Int64} {B text : Nat → Int32} (hR : REL K N hn (f, kk, sg, sn, mv, gm, lt, w1, w2, dg, t1, t2, am) so sc sx skf qx tl tf nst nn len now book kept isk F L B text) (hK0 : K [] none) : ∃ ans f' kk' sn' mv' gm' sx' so' sc' now' book' nst' q, fX8_clearBoard sn mv gm lt w1 w2 dg t1 t2 am kk sg f so sc sx = some (ans, f', kk', sn', mv', gm', none, sx', so', sc') ∧ fX9_clearBoard nst now book = some (ans, now', q, book', nst') ∧ REL K (N + 1) [] (f', kk', sg, sn', mv', gm', none, w1, w2, dg, t1, t2, am) so' sc' sx' skf qx tl tf nst' nn len now' book' kept isk F L B text := by
  obtain ⟨hb, hq, C, M, s, n, k, t, ⟨hRS, hBK, hKP, hLV, hk4⟩, rfl, hs6, rfl, rfl, hn6, rfl, hsk, rfl, rfl, ht60, htf, hCM, hMN⟩ := hR
  obtain ⟨sx', so2, n2, book', hb', p1, p2, hs2, hn2, hB2⟩ := save_ok hs6 hn6 hBK hRS
  have hr : RP f kk sg sn mv gm w1 w2 dg t1 t2 am now hn := hRS.1
  obtain ⟨ag, pb, uk, ko, rfl, hsg, h52, h50, h49, hdm, h51, h53, h54, h55, h56, h57, h58, h59, h0, hok, hrun⟩ := hr
  refine ⟨nI (piN f), (fun k => if k < 49 then 0 else f k), -1, 0, 0, 0, sx', nI so2, nI n2, upd (upd (upd (upd (upd (fun k => if k < 49 then 0 else now k) 50 0) 51 0) 53 0) 49 0) 60 (-1), book', nI n2, 0, ?_, ?_, ?_⟩
  · unfold fX8_clearBoard fX7_endAndClear fX1_removeAll
    rw [p1, Option.bind_some, f_countAll, Option.bind_some, f_fill]
    rfl
  · unfold fX9_clearBoard
    rw [p2, Option.bind_some, f_piecesIn _ (AG_PB ag pb).pos, Option.bind_some, ← AG_piN ag, f_clear]
  · have z : ∀ s, s < 49 → (fun k => if k < 49 then (0 : Int32) else f k) s = 0 := fun s hs => if_pos hs
    have kn : kingN (fun k => if k < 49 then (0 : Int32) else f k) = none := king_no (fun s hs => show (if s < 49 then (0 : Int32) else f s) ≠ 3 by rw [if_pos hs]; decide)
    refine ⟨hb', hq, C, M, so2, n2, k, t, ⟨⟨⟨fun s hs => ?_, fun s hs => Or.inl (z s hs), fun s hs u hu h3 _ => ?_, fun s hs _ => Or.inl (z s hs), by rw [kn]; rfl, ?_, ?_, rfl, rfl, Or.inl rfl, rfl, rfl, ?_, ?_, ?_, ?_, ?_, ?_, ⟨fun _ => rfl, fun _ => rfl⟩, fun q hq => (nomatch hq), fun e => absurd (show (0 : Int32) = 1 from e) (by decide)⟩, rfl, hK0, Nat.zero_le _⟩, hB2, hKP, hLV, hk4⟩, rfl, hs2, rfl, rfl, hn2, rfl, hsk, rfl, rfl, ht60, htf, hCM, by omega⟩
    · refine (z s hs).trans ?_
      rw [upd_ne (by omega), upd_ne (by omega), upd_ne (by omega), upd_ne (by omega), upd_ne (by omega)]
      exact (if_pos hs).symm
    · exact absurd ((z s hs).symm.trans h3) (by decide)
    · exact hsg
    · exact h52
    · exact h54
    · exact h55
    · exact h56
    · exact h57
    · exact h58
    · exact h59
theorem c_turnStrong {K : List HP → Option Nat → Prop} {N : Nat} {hn : List HP} {f : Nat → Int32} {kk sg sn mv gm : Int32} {lt : Option Nat} {w1 w2 dg t1 t2 am so sc : Int32} {sx : Nat → SV} {skf : Nat → Int32} {qx : Nat → SV} {tl : Int32} {tf : Nat → Int32} {nst nn len : Int32} {now book kept isk : Nat → Int32} {F L : Nat → Int64} {B text : Nat → Int32} (hR : REL K N hn (f, kk, sg, sn, mv, gm, lt, w1, w2, dg, t1, t2, am) so sc sx skf qx tl tf nst nn len now book kept isk F L B text) : ∃ ans sx' so' sc' now' book' nst' q, fX8_turnStrong sn mv gm lt w1 w2 dg t1 t2 am kk sg f so sc sx = some (ans, ans, sx', so', sc') ∧ fX9_turnStrong nst now book = some (ans, now', q, book', nst') ∧ REL K (N + 1) hn (f, kk, ans, sn, mv, gm, lt, w1, w2, dg, t1, t2, am) so' sc' sx' skf qx tl tf nst' nn len now' book' kept isk F L B text := by
  obtain ⟨hb, hq, C, M, s, n, k, t, ⟨hRS, hBK, hKP, hLV, hk4⟩, rfl, hs6, rfl, rfl, hn6, rfl, hsk, rfl, rfl, ht60, htf, hCM, hMN⟩ := hR
  obtain ⟨sx', so2, n2, book', hb', p1, p2, hs2, hn2, hB2⟩ := save_ok hs6 hn6 hBK hRS
  have hr : RP f kk sg sn mv gm w1 w2 dg t1 t2 am now hn := hRS.1
  obtain ⟨ag, pb, uk, ko, rfl, hsg, h52, h50, h49, hdm, h51, h53, h54, h55, h56, h57, h58, h59, h0, hok, hrun⟩ := hr
  have key : ∀ g : Bool, sg = b01 g → ∃ ans, ans = b01 (!g) ∧ fX8_turnStrong sn mv gm lt w1 w2 dg t1 t2 am (enc (kingN f)) sg f (nI s) (nI n) sx = some (ans, ans, sx', nI so2, nI n2) ∧ fX9_turnStrong (nI n) now book = some (ans, upd now 52 (b01 (!g)), 0, book', nI n2) := by
    intro g hg
    refine ⟨b01 (!g), rfl, ?_, ?_⟩
    · unfold fX8_turnStrong
      rw [p1, Option.bind_some, hg]
      cases g <;> rfl
    · have e : 1 - now 52 = b01 (!g) := by
        rw [h52, hg]
        cases g <;> rfl
      unfold fX9_turnStrong
      rw [p2, Option.bind_some]
      show (if upd now 52 (1 - now 52) 52 = 1 then some ((1 : Int32), upd now 52 (1 - now 52), (0 : Int32), book', nI n2) else some (0, upd now 52 (1 - now 52), 0, book', nI n2)) = _
      rw [e, upd_eq]
      cases g <;> rfl
  obtain ⟨ans, ha, e8, e9⟩ := key _ hsg
  refine ⟨ans, sx', nI so2, nI n2, upd now 52 ans, book', nI n2, 0, e8, by rw [e9, ha], ?_⟩
  refine ⟨hb', hq, C, M, so2, n2, k, t, ⟨⟨⟨fun s hs => (ag s hs).trans (upd_ne (by omega)).symm, pb, uk, ko, rfl, ?_, upd_eq, ?_, ?_, hdm, ?_, ?_, ?_, ?_, ?_, ?_, ?_, ?_, h0, hok, hrun⟩, ?_, hRS.2.2.1, hRS.2.2.2⟩, hB2, hKP, hLV, hk4⟩, rfl, hs2, rfl, rfl, hn2, rfl, hsk, rfl, rfl, ht60, htf, hCM, by omega⟩
  · show ans = _
    rw [upd_eq, ha]
    cases decide (now 52 = 1) <;> rfl
  · rw [upd_ne (by decide)]; exact h50
  · rw [upd_ne (by decide)]; exact h49
  · rw [upd_ne (by decide)]; exact h51
  · rw [upd_ne (by decide)]; exact h53
  · rw [upd_ne (by decide)]; exact h54
  · rw [upd_ne (by decide)]; exact h55
  · rw [upd_ne (by decide)]; exact h56
  · rw [upd_ne (by decide)]; exact h57
  · rw [upd_ne (by decide)]; exact h58
  · rw [upd_ne (by decide)]; exact h59
  · rw [upd_ne (by decide)]; exact hRS.2.1
theorem c_start {K : List HP → Option Nat → Prop} {N : Nat} {hn : List HP} {f : Nat → Int32} {kk sg sn mv gm : Int32} {lt : Option Nat} {w1 w2 dg t1 t2 am so sc : Int32} {sx : Nat → SV} {skf : Nat → Int32} {qx : Nat → SV} {tl : Int32} {tf : Nat → Int32} {nst nn len : Int32} {now book kept isk : Nat → Int32} {F L : Nat → Int64} {B text : Nat → Int32} (hR : REL K N hn (f, kk, sg, sn, mv, gm, lt, w1, w2, dg, t1, t2, am) so sc sx skf qx tl tf nst nn len now book kept isk F L B text) (hN : N < 600) (Mv : Nat → Int32) (fo : Nat → Int64) (a1 : Int32) : ∃ ans sn' mv' gm' sx' so' sc' fo' now' book' kept' F' L' B' M' nn' nst' q b pc, fL_start sn mv gm lt w1 w2 dg t1 t2 am kk sg f so sc fo sx a1 = some (ans, sn', mv', gm', sx', so', sc', fo', pc) ∧ fX9_start nst nn now book kept isk F L B Mv a1 = some (b, now', book', kept', F', L', B', M', nn', nst', q) ∧ AN ans q fo' b ∧ ((ans = 0 ∧ ∃ p, pc = newPC p [] ∧ ∀ (K' : List HP → Option Nat → Prop) (o : Option Nat), (∀ h o, K h o → K' h o) → K' [p] o → REL K' (N + 1) [p] (f, kk, sg, sn', mv', gm', o, w1, w2, dg, t1, t2, am) so' sc' sx' skf qx tl tf nst' nn' len now' book' kept' isk F' L' B' text) ∨ (ans ≠ 0 ∧ REL K (N + 1) hn (f, kk, sg, sn', mv', gm', lt, w1, w2, dg, t1, t2, am) so' sc' sx' skf qx tl tf nst' nn' len now' book' kept' isk F' L' B' text)) := by
  have hR0 := REL_mono hR (K' := K) (N' := N + 1) (fun _ _ x => x) (by omega)
  obtain ⟨hb, hq, C, M, s, n, k, t, ⟨hRS, hBK, hKP, hLV, hk4⟩, rfl, hs6, rfl, rfl, hn6, rfl, hsk, rfl, rfl, ht60, htf, hCM, hMN⟩ := hR
  obtain ⟨sx', so2, n2, book', hb', p1, p2, hs2, hn2, hB2⟩ := save_ok hs6 hn6 hBK hRS
  have hr : RP f kk sg sn mv gm w1 w2 dg t1 t2 am now hn := hRS.1
  obtain ⟨ag, pb, uk, ko, rfl, hsg, h52, h50, h49, hdm, h51, h53, h54, h55, h56, h57, h58, h59, h0, hok, hrun⟩ := id hr
  have pbn : PB now := AG_PB ag pb
  have e51 : (now 51 = 0) = (sn = 0) := by
    rw [h51]
    by_cases e : sn = 0
    · rw [if_pos e]
      exact propext ⟨fun _ => e, fun _ => rfl⟩
    · rw [if_neg e]
      exact propext ⟨fun q => absurd q (by decide), fun q => absurd q e⟩
  by_cases hside : inC a1 0 1 = true
  · have hd : isD a1 := by
      rcases sideC a1 with ⟨_, h⟩ | h
      · exact h
      · rw [hside] at h
        exact absurd h (by decide)
    by_cases hcan : sn = 0 ∧ KIN f
    · obtain ⟨hs0, kg, hk1, hk2⟩ := hcan
      have hkl := king_lt _ hk1
      obtain ⟨rk, mD, F', L', B', M', book2, kept2, n0, now4, hNT, h4, he⟩ := f_goStart pbn a1 hn2 hk4 hLV (by omega) (book := book') (kept := kept) (isk := isk) Mv (hds (by omega) hB2 hKP (fun k hk => by
        simp only [List.mem_cons, List.not_mem_nil, or_false] at hk
        rw [hk]
        exact HC_m1))
      have hRP := st_RP hr hd ag pb uk ko ⟨kg, hk1, hk2⟩ (fun i _ _ => rfl) h4.2
      refine ⟨0, 1, a1, 0, sx', nI so2, nI n2, vp_updL fo 0 (nI (mcN f a1)).toInt64, now4, book2, kept2, F', L', B', M', nI (n0 + 1), nI n2, 0, nI (mcN f a1), newPC (f, a1) [], ?_, ?_, AN_yes, Or.inl ⟨rfl, (f, a1), rfl, fun K' o hK hq => ?_⟩⟩
      · unfold fL_start fX8_start
        rw [f_needSide, hside]
        show ((if sn = 0 then if enc (kingN f) < 0 then _ else _ else _) : Option (Nat × Int32 × Int32 × Int32 × Int32 × (Nat → SV) × Int32 × Int32 × PC)).bind _ = _
        rw [if_pos hs0, if_neg (by rw [enc_lt0 king_lt, hk1]; exact nofun), hk1, show enc (some kg) = nI kg from rfl, f_isCorner8 kg hkl, hk2, Option.bind_some]
        rw [if_pos (show b01 false = 0 from rfl), ← show enc (kingN f) = nI kg from by rw [hk1]; rfl, p1, Option.bind_some, f_begin, Option.bind_some, f_countMoves]
        rfl
      · unfold fX9_start
        rw [f_king, Option.bind_some, show inB 51 61 = true from rfl, grd_t, show (51 : Int32).toNatClampNeg = 51 from rfl, ← AG_kingN ag, hk1, f_isSide, hside]
        simp only [jn_eq, e51]
        rw [if_pos hs0, if_neg (show ¬ enc (some kg) = -1 by show ¬ nI kg = -1; rw [nI_m1 (by omega)]; exact id), show enc (some kg) = nI kg from rfl, f_isCorner9 kg hkl, hk2]
        show ((fX9_save (nI n) now book).bind _) = _
        rw [p2, Option.bind_some, he, Option.bind_some, AG_mcN ag]
      · exact REL_new hNT hLV hK hB2 hKP (q := (f, a1)) (h := []) (rpos_AG (AG_symm ag) a1) rfl hRP h4.1 hq (Nat.zero_le _) hCM hs2 hn2 hsk ht60 htf hMN
    · refine ⟨2, sn, mv, gm, sx, nI s, nI n, fo, now, book, kept, F, L, B, Mv, nI k, nI n, 2, 0, (0, 0, 0, 0), ?_, ?_, AN_no (by decide), Or.inr ⟨by decide, hR0⟩⟩
      · unfold fL_start fX8_start
        rw [f_needSide, hside]
        show ((if sn = 0 then if enc (kingN f) < 0 then _ else _ else _) : Option (Nat × Int32 × Int32 × Int32 × Int32 × (Nat → SV) × Int32 × Int32 × PC)).bind _ = _
        by_cases hs0 : sn = 0
        · rw [if_pos hs0]
          cases hk1 : kingN f with
          | none => rfl
          | some kg =>
            have hkl := king_lt _ hk1
            have hk2 : isCo kg = true := by
              cases q : isCo kg with
              | true => rfl
              | false => exact absurd ⟨hs0, kg, hk1, q⟩ hcan
            rw [if_neg (by rw [show enc (some kg) = nI kg from rfl]; exact nlt0 (by omega)), show enc (some kg) = nI kg from rfl, f_isCorner8 kg hkl, hk2]
            rfl
        · rw [if_neg hs0]
          rfl
      · unfold fX9_start
        rw [f_king, Option.bind_some, show inB 51 61 = true from rfl, grd_t, show (51 : Int32).toNatClampNeg = 51 from rfl, ← AG_kingN ag, f_isSide, hside]
        simp only [jn_eq, e51]
        by_cases hs0 : sn = 0
        · rw [if_pos hs0]
          cases hk1 : kingN f with
          | none => rfl
          | some kg =>
            have hkl := king_lt _ hk1
            have hk2 : isCo kg = true := by
              cases q : isCo kg with
              | true => rfl
              | false => exact absurd ⟨hs0, kg, hk1, q⟩ hcan
            rw [if_neg (show ¬ enc (some kg) = -1 by show ¬ nI kg = -1; rw [nI_m1 (by omega)]; exact id), show enc (some kg) = nI kg from rfl, f_isCorner9 kg hkl, hk2]
            rfl
        · rw [if_neg hs0]
          rfl
  · have hside : inC a1 0 1 = false := by
      cases q : inC a1 0 1 with
      | false => rfl
      | true => exact absurd q hside
    refine ⟨1, sn, mv, gm, sx, nI s, nI n, fo, now, book, kept, F, L, B, Mv, nI k, nI n, 1, 0, (0, 0, 0, 0), ?_, ?_, AN_no (by decide), Or.inr ⟨by decide, hR0⟩⟩
    · unfold fL_start fX8_start
      rw [f_needSide, hside]
      rfl
    · unfold fX9_start
      rw [f_king, Option.bind_some, show inB 51 61 = true from rfl, grd_t, show (51 : Int32).toNatClampNeg = 51 from rfl, ← AG_kingN ag, f_isSide, hside]
      simp only [jn_eq, e51]
      by_cases hs0 : sn = 0
      · rw [if_pos hs0]
        cases hk1 : kingN f with
        | none => rfl
        | some kg =>
          have hkl := king_lt _ hk1
          rw [if_neg (show ¬ enc (some kg) = -1 by show ¬ nI kg = -1; rw [nI_m1 (by omega)]; exact id), show enc (some kg) = nI kg from rfl, f_isCorner9 kg hkl]
          cases isCo kg <;> rfl
      · rw [if_neg hs0]
        rfl
theorem f_needMove {row : Nat → Int32} (hp : ∀ s, s < 49 → 0 ≤ row s) (a1 a2 : Int32) : (inC a1 0 48 && inC a2 0 48) = false ∨ ∃ x y, x < 49 ∧ y < 49 ∧ a1 = nI x ∧ a2 = nI y ∧ inC a1 0 48 = true ∧ inC a2 0 48 = true := by
  rcases sqsC a1 a2 with ⟨hc, x, y, hx, hy, e1, e2⟩ | hc
  · rw [Bool.and_eq_true] at hc
    exact Or.inr ⟨x, y, hx, hy, e1, e2, hc.1, hc.2⟩
  · exact Or.inl hc
theorem m9_no {nst nn : Int32} {now book kept isk : Nat → Int32} {F L : Nat → Int64} {B Mv : Nat → Int32} {a1 a2 : Int32} (h : (inC a1 0 48 && inC a2 0 48) = false) : fX9_move nst nn now book kept isk F L B Mv a1 a2 = some (0, now, book, kept, F, L, B, Mv, nn, nst, 1) := by
  unfold fX9_move
  rw [f_isSquare, f_isSquare, Option.bind_some]
  cases h1 : inC a1 0 48 with
  | false => rfl
  | true =>
    rw [h1, Bool.true_and] at h
    rw [h]
    rfl
theorem m9_ill {nst nn : Int32} {now book kept isk : Nat → Int32} {F L : Nat → Int64} {B Mv : Nat → Int32} (hp : ∀ s, s < 49 → 0 ≤ now s) {x y : Nat} (hx : x < 49) (hy : y < 49) (h1 : inC (nI x) 0 48 = true) (h2 : inC (nI y) 0 48 = true) : fX9_move nst nn now book kept isk F L B Mv (nI x) (nI y) = if alB (now 50) (now 49) now x y then (fX9_save nst now book).bind (fun (r_8 : (Nat → Int32) × Int32) => (fX9_goMoveN r_8.2 nn now r_8.1 kept isk F L B Mv (nI x) (nI y)).bind (fun (r_9 : Int32 × (Nat → Int32) × (Nat → Int32) × (Nat → Int32) × (Nat → Int64) × (Nat → Int64) × (Nat → Int32) × (Nat → Int32) × Int32) => some (r_9.1, r_9.2.1, r_9.2.2.1, r_9.2.2.2.1, r_9.2.2.2.2.1, r_9.2.2.2.2.2.1, r_9.2.2.2.2.2.2.1, r_9.2.2.2.2.2.2.2.1, r_9.2.2.2.2.2.2.2.2, r_8.2, 0))) else some (0, now, book, kept, F, L, B, Mv, nn, nst, 2) := by
  unfold fX9_move
  rw [f_isSquare, f_isSquare, Option.bind_some, h1, h2, f_mayMove hp hx hy]
  cases alB (now 50) (now 49) now x y <;> rfl
theorem c_moveN {K : List HP → Option Nat → Prop} {N : Nat} {hn : List HP} {f : Nat → Int32} {kk sg sn mv gm : Int32} {lt : Option Nat} {w1 w2 dg t1 t2 am so sc : Int32} {sx : Nat → SV} {skf : Nat → Int32} {qx : Nat → SV} {tl : Int32} {tf : Nat → Int32} {nst nn len : Int32} {now book kept isk : Nat → Int32} {F L : Nat → Int64} {B text : Nat → Int32} (hR : REL K N hn (f, kk, sg, sn, mv, gm, lt, w1, w2, dg, t1, t2, am) so sc sx skf qx tl tf nst nn len now book kept isk F L B text) (h1 : hn = []) (Mv : Nat → Int32) (fo : Nat → Int64) (a1 a2 : Int32) : ∃ ans q b, fL_moveN sn mv gm w1 w2 dg t1 t2 am kk sg f so sc fo sx a1 a2 = some (ans, sx, so, sc, fo) ∧ fX9_move nst nn now book kept isk F L B Mv a1 a2 = some (b, now, book, kept, F, L, B, Mv, nn, nst, q) ∧ AN ans q fo b := by
  have hr := REL_RP hR
  have hal := fun x y (hx : x < 49) (hy : y < 49) => alB_RP hr hx hy
  obtain ⟨ag, pb, uk, ko, rfl, hsg, h52, h50, h49, hdm, h51, h53, h54, h55, h56, h57, h58, h59, h0, hok, hrun⟩ := id hr
  have pbn : PB now := AG_PB ag pb
  have hs0 : sn = 0 := h0.mpr h1
  rcases f_needMove pbn.pos a1 a2 with hc | ⟨x, y, hx, hy, rfl, rfl, c1, c2⟩
  · refine ⟨1, 1, 0, ?_, m9_no hc, AN_no (by decide)⟩
    unfold fL_moveN fX8_moveN
    rw [f_needSquares, hc]
    rfl
  · have hf : alB sn mv f x y = false := by
      unfold alB
      rw [hs0]
      rfl
    refine ⟨2, 2, 0, ?_, ?_, AN_no (by decide)⟩
    · unfold fL_moveN fX8_moveN
      rw [f_needSquares, c1, c2]
      show ((fX7_allowsMove sn mv f (nI x) (nI y)).bind _).bind _ = _
      rw [f_allowsMove sn mv hx hy, hf]
      rfl
    · rw [m9_ill pbn.pos hx hy c1 c2, hal x y hx hy, hf]
      rfl
theorem c_moveS {K : List HP → Option Nat → Prop} {N : Nat} {hn : List HP} {f : Nat → Int32} {kk sg sn mv gm : Int32} {lt : Option Nat} {w1 w2 dg t1 t2 am so sc : Int32} {sx : Nat → SV} {skf : Nat → Int32} {qx : Nat → SV} {tl : Int32} {tf : Nat → Int32} {nst nn len : Int32} {now book kept isk : Nat → Int32} {F L : Nat → Int64} {B text : Nat → Int32} {p : HP} {tt : List HP} (hR : REL K N (p :: tt) (f, kk, sg, sn, mv, gm, lt, w1, w2, dg, t1, t2, am) so sc sx skf qx tl tf nst nn len now book kept isk F L B text) (hN : N < 600) {la : Nat} (hla : lt = some la) (Mv : Nat → Int32) (fo : Nat → Int64) (a1 a2 : Int32) : ∃ ans f' kk' sn' mv' gm' w1' w2' dg' t1' t2' am' sx' so' sc' fo' now' book' kept' F' L' B' M' nn' nst' q b pc, fL_moveS la sn mv gm w1 w2 dg t1 t2 am kk sg f so sc fo sx (newPC p tt) (chP tt) a1 a2 = some (ans, f', kk', sn', mv', gm', w1', w2', dg', t1', t2', am', sx', so', sc', fo', pc) ∧ fX9_move nst nn now book kept isk F L B Mv a1 a2 = some (b, now', book', kept', F', L', B', M', nn', nst', q) ∧ AN ans q fo' b ∧ ((ans = 0 ∧ ∃ p', pc = newPC p' (p :: tt) ∧ ∀ (K' : List HP → Option Nat → Prop) (o : Option Nat), (∀ h o, K h o → K' h o) → K' (p' :: p :: tt) o → REL K' (N + 1) (p' :: p :: tt) (f', kk', sg, sn', mv', gm', o, w1', w2', dg', t1', t2', am') so' sc' sx' skf qx tl tf nst' nn' len now' book' kept' isk F' L' B' text) ∨ (ans ≠ 0 ∧ REL K (N + 1) (p :: tt) (f', kk', sg, sn', mv', gm', lt, w1', w2', dg', t1', t2', am') so' sc' sx' skf qx tl tf nst' nn' len now' book' kept' isk F' L' B' text)) := by
  have hR0 := REL_mono hR (K' := K) (N' := N + 1) (fun _ _ x => x) (by omega)
  have hr := REL_RP hR
  have hal := fun x y (hx : x < 49) (hy : y < 49) => alB_RP hr hx hy
  obtain ⟨ag, pb, uk, ko, hkk, hsg, h52, h50, h49, hdm, h51, h53, h54, h55, h56, h57, h58, h59, h0, hok, hrun⟩ := id hr
  have pbn : PB now := AG_PB ag pb
  rcases f_needMove pbn.pos a1 a2 with hc | ⟨x, y, hx, hy, rfl, rfl, c1, c2⟩
  · refine ⟨1, f, kk, sn, mv, gm, w1, w2, dg, t1, t2, am, sx, so, sc, fo, now, book, kept, F, L, B, Mv, nn, nst, 1, 0, (0, 0, 0, 0), ?_, (m9_no hc), AN_no (by decide), Or.inr ⟨by decide, hR0⟩⟩
    unfold fL_moveS fX8_moveS
    rw [f_needSquares, hc]
    rfl
  · cases hf : alB sn mv f x y with
    | false =>
      refine ⟨2, f, kk, sn, mv, gm, w1, w2, dg, t1, t2, am, sx, so, sc, fo, now, book, kept, F, L, B, Mv, nn, nst, 2, 0, (0, 0, 0, 0), ?_, ?_, AN_no (by decide), Or.inr ⟨by decide, hR0⟩⟩
      · unfold fL_moveS fX8_moveS
        rw [f_needSquares, c1, c2]
        show ((fX7_allowsMove sn mv f (nI x) (nI y)).bind _).bind _ = _
        rw [f_allowsMove sn mv hx hy, hf]
        rfl
      · rw [m9_ill pbn.pos hx hy c1 c2, hal x y hx hy, hf]
        rfl
    | true =>
      have hf' := hf
      unfold alB at hf
      rw [Bool.and_eq_true, Bool.and_eq_true, decide_eq_true_eq, decide_eq_true_eq, decide_eq_true_eq] at hf
      obtain ⟨⟨e1, e2⟩, e3⟩ := hf
      subst e1
      subst hla
      obtain ⟨hb, hq, C, M, s, n, k, t, ⟨hRS, hBK, hKP, hLV, hk4⟩, rfl, hs6, rfl, rfl, hn6, rfl, hsk, rfl, rfl, ht60, htf, hCM, hMN⟩ := hR
      obtain ⟨sx', so2, n2, book', hb', p1, p2, hs2, hn2, hB2⟩ := save_ok hs6 hn6 hBK hRS
      have hm : MV f x y := reason_MV hx hy e3
      have hlen : (p :: tt).length ≤ M := hRS.2.2.2
      obtain ⟨rk, mD, F', L', B', M', book2, kept2, n0, now4, hNT, h4, he⟩ := f_goMoveN hr hx hy e2 e3 hn2 hk4 hLV (by omega) (book := book') (kept := kept) (isk := isk) Mv (hds (by omega) hB2 hKP (fun k hk => by
        simp only [List.mem_cons, List.not_mem_nil, or_false] at hk
        rw [hk]
        exact RS_HC (by omega) hRS)) hRS.2.1 (by omega)
      have hgm := gm_RP hr hx hy e2 e3 h4.2
      have hmk := f_makeMove la (sd := 1) (mv := mv) (gm := gm) (w1 := w1) (w2 := w2) (dg := dg) (t1 := t1) (t2 := t2) (am := am) hdm pb uk (g := decide (now 52 = 1)) hm (cx := newPC p tt) (ct := chP tt) (t := p :: tt) (chP_cons p tt).symm (by omega)
      rw [← hkk, ← hsg] at hmk
      have e60 : gmE now4 (wb (mov f (decide (now 52 = 1)) x y) mv) (1 + occ (mov f (decide (now 52 = 1)) x y, 1 - mv) (p :: tt)) 60 = nI n0 := by
        unfold gmE
        rcases gm_w (g := decide (now 52 = 1)) hdm uk hm e2 (hrun rfl).2 with w | w | w
        · rw [w, if_pos rfl]
          split
          · rw [upd_ne (by decide), upd_ne (by decide), h4.1]
          · exact h4.1
        · rw [w, if_neg (by decide)]
          show upd (upd now4 50 (2 + 0)) 55 (now4 55 + 1) 60 = _
          rw [upd_ne (by decide), upd_ne (by decide), h4.1]
        · rw [w, if_neg (by decide)]
          show upd (upd now4 50 (2 + 1)) 56 (now4 56 + 1) 60 = _
          rw [upd_ne (by decide), upd_ne (by decide), h4.1]
      refine ⟨0, _, _, _, _, _, _, _, _, _, _, _, sx', nI so2, nI n2, vp_updL fo 0 (nI (takN f (decide (now 52 = 1)) x y)).toInt64, _, book2, kept2, F', L', B', M', nI (n0 + 1), nI n2, 0, nI (takN f (decide (now 52 = 1)) x y), newPC (mov f (decide (now 52 = 1)) x y, 1 - mv) (p :: tt), ?_, ?_, AN_yes, Or.inl ⟨rfl, (mov f (decide (now 52 = 1)) x y, 1 - mv), rfl, fun K' o hK hq2 => REL_new hNT hLV hK hB2 hKP (q := (mov f (decide (now 52 = 1)) x y, 1 - mv)) rfl hRS.2.1 hgm e60 hq2 hlen hCM hs2 hn2 hsk ht60 htf hMN⟩⟩
      · unfold fL_moveS fX8_moveS
        rw [f_needSquares, c1, c2]
        show ((fX7_allowsMove 1 mv f (nI x) (nI y)).bind _).bind _ = _
        rw [f_allowsMove 1 mv hx hy, hf', Option.bind_some]
        rw [if_neg (show ¬ b01 true = 0 by decide), p1, Option.bind_some, hmk]
        rfl
      · rw [m9_ill pbn.pos hx hy c1 c2, hal x y hx hy, hf', if_pos rfl, p2, Option.bind_some, he]
        rfl

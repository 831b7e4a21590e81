def fX8_pieceAt (f : Nat → Int32) (a1 : Int32) (a2 : Int32) : Option (Nat × Int32) :=
  (fX8_needSquare a1 a2).bind (fun (r_1 : Nat) => if r_1 = 0 then ((fX1_at f ((7 * a1) + a2)).bind (fun (r_3 : Int32) => some (0, r_3))) else (some (r_1, 0)))
set_option maxRecDepth 100000 in
set_option maxHeartbeats 4000000 in
theorem mX8_pieceAt (l : Launch) (hl0 : l.stackTraces = false) (g : GE) (hg st b ca tr sa sk sv mt ml ad kw zc zp : Nat) (sd : Int32) (mv : Int32) (gm : Int32) (lt : Option Nat) (w1 : Int32) (w2 : Int32) (dg : Int32) (t1 : Int32) (t2 : Int32) (am : Int32) (kk : Int32) (sg : Int32) (f : Nat → Int32) (a1 : Int32) (a2 : Int32) (r : Nat × Int32) (hyp : fX8_pieceAt f a1 a2 = some r) : XM l yX8_pieceAt cX8_pieceAt 3 (some .int) 7 111 1 6 g [(hg, .inr (8, [.ref st, .ref tr, .ref sa, .ref sk, .ref sv, .ref mt, .ref ml, .ref ad, .ref kw])), (st, .inr (7, [.ref b, .int sd, .int mv, .int gm, va_rf lt, .int w1, .int w2, .int dg, .int t1, .int t2, .int am])), (b, .inr (1, [.ref ca, .int kk, .int sg])), (ca, .inl (g.2.1, 49, .inl f))] (OZ g zc zp [] none) [.ref hg, .int a1, .int a2] r.1 (some (.int r.2)) (fun na => [(hg, .inr (8, [.ref st, .ref tr, .ref sa, .ref sk, .ref sv, .ref mt, .ref ml, .ref ad, .ref kw])), (st, .inr (7, [.ref b, .int sd, .int mv, .int gm, va_rf lt, .int w1, .int w2, .int dg, .int t1, .int t2, .int am])), (b, .inr (1, [.ref ca, .int kk, .int sg])), (ca, .inl (g.2.1, 49, .inl f))]) (fun _ => [(hg, .inr (8, [.ref st, .ref tr, .ref sa, .ref sk, .ref sv, .ref mt, .ref ml, .ref ad, .ref kw])), (st, .inr (7, [.ref b, .int sd, .int mv, .int gm, va_rf lt, .int w1, .int w2, .int dg, .int t1, .int t2, .int am])), (b, .inr (1, [.ref ca, .int kk, .int sg])), (ca, .inl (g.2.1, 49, .inl f))]) := by
  refine metX_intro (by decide) rfl ?_
  intro p e R s m args below meth c Q A hRf hRl hRc hRs hQ hx hb hml hr hlocks hex hown hts hin hE hSR hA hO H locs hP hD hS ls hl
  have hown : s.vm.findClass "HallGuards" = some m.cls := hown
  have hl : lv_has ls 3 [(0, .ref hg), (1, .int a1), (2, .int a2)] := hl
  unfold fX8_pieceAt at hyp
  refine lv_iload_n hx hb dX8_pieceAt_0 rfl (lv_at hl 1 rfl) ?_
  refine lv_iload_n hx hb dX8_pieceAt_1 rfl (lv_at hl 2 rfl) ?_
  obtain ⟨r_1, hr_1, hyp⟩ := opt_e hyp
  refine xS (As := [.int a1, .int a2]) (rest := []) ⟨hx, hb, hml, hown, hts⟩ hE hSR (mX8_needSquare l hl0 g zc zp a1 a2 r_1 hr_1) (OZ_ok g zc zp _ _) hO cf_X8_needSquare st_X8_needSquare ml_X8_82 ⟨Nat.le_trans (Nat.le_of_ble_eq_true rfl) hRf, Nat.le_trans (Nat.le_of_ble_eq_true rfl) hRl⟩ hP hD hS hA [] [0, 1, 2, 3] rfl (wr := [(hg, .inr (8, [.ref st, .ref tr, .ref sa, .ref sk, .ref sv, .ref mt, .ref ml, .ref ad, .ref kw])), (st, .inr (7, [.ref b, .int sd, .int mv, .int gm, va_rf lt, .int w1, .int w2, .int dg, .int t1, .int t2, .int am])), (b, .inr (1, [.ref ca, .int kk, .int sg])), (ca, .inl (g.2.1, 49, .inl f))]) rfl ⟨by decide, by decide⟩ (by decide) rfl hl.1 rfl (Nat.le_of_ble_eq_true rfl) dX8_pieceAt_2 ⟨Nat.le_trans (Nat.le_of_ble_eq_true rfl) hRc, Nat.le_trans (Nat.le_of_ble_eq_true rfl) hRs⟩ (fun hk0 na_2 H locs hna_2 hP hD hS => ?_) (fun hk0 na9 q9 ce9 H locs hna9 hP hD hS hce hcv hcl => ?_)
  rotate_left 1
  · replace hyp := ite_f hk0 hyp
    have hP : va_P g.1 vwCl [(hg, .inr (8, [.ref st, .ref tr, .ref sa, .ref sk, .ref sv, .ref mt, .ref ml, .ref ad, .ref kw])), (st, .inr (7, [.ref b, .int sd, .int mv, .int gm, va_rf lt, .int w1, .int w2, .int dg, .int t1, .int t2, .int am])), (b, .inr (1, [.ref ca, .int kk, .int sg])), (ca, .inl (g.2.1, 49, .inl f))] H := hP
    have hD : va_D A [(hg, .inr (8, [.ref st, .ref tr, .ref sa, .ref sk, .ref sv, .ref mt, .ref ml, .ref ad, .ref kw])), (st, .inr (7, [.ref b, .int sd, .int mv, .int gm, va_rf lt, .int w1, .int w2, .int dg, .int t1, .int t2, .int am])), (b, .inr (1, [.ref ca, .int kk, .int sg])), (ca, .inl (g.2.1, 49, .inl f))] := hD
    have hyp := some_e hyp
    subst hyp
    subst hQ
    exact xOut hex hlocks hk0 (Nat.le_refl _) hP hD hS hce hcv hcl (Nat.le_of_ble_eq_true rfl) (Nat.le_of_ble_eq_true rfl)
  replace hyp := ite_t hk0 hyp
  have hP : va_P g.1 vwCl [(hg, .inr (8, [.ref st, .ref tr, .ref sa, .ref sk, .ref sv, .ref mt, .ref ml, .ref ad, .ref kw])), (st, .inr (7, [.ref b, .int sd, .int mv, .int gm, va_rf lt, .int w1, .int w2, .int dg, .int t1, .int t2, .int am])), (b, .inr (1, [.ref ca, .int kk, .int sg])), (ca, .inl (g.2.1, 49, .inl f))] H := hP
  have hD : va_D A [(hg, .inr (8, [.ref st, .ref tr, .ref sa, .ref sk, .ref sv, .ref mt, .ref ml, .ref ad, .ref kw])), (st, .inr (7, [.ref b, .int sd, .int mv, .int gm, va_rf lt, .int w1, .int w2, .int dg, .int t1, .int t2, .int am])), (b, .inr (1, [.ref ca, .int kk, .int sg])), (ca, .inl (g.2.1, 49, .inl f))] := hD
  refine lv_aload_n hx hb dX8_pieceAt_5 rfl (lv_at hl 0 rfl) ?_
  refine gf_X8_12 hx hb hts hown hE hP 0 rfl rfl dX8_pieceAt_6 ?_
  refine gf_X8_69 hx hb hts hown hE hP 1 rfl rfl dX8_pieceAt_9 ?_
  refine lv_bipush (v := 7) hx hb dX8_pieceAt_12 (by decide) ?_
  refine lv_iload_n hx hb dX8_pieceAt_14 rfl (lv_at hl 1 rfl) ?_
  refine lv_imul hx hb dX8_pieceAt_15 ?_
  refine lv_iload_n hx hb dX8_pieceAt_16 rfl (lv_at hl 2 rfl) ?_
  refine lv_iadd hx hb dX8_pieceAt_17 ?_
  obtain ⟨r_3, hr_3, hyp⟩ := opt_e hyp
  refine pV (As := [.int ((7 * a1) + a2)]) (rest := []) ⟨hx, hb, hml, hown, hts⟩ hE (mX1_at l g b ca kk sg f ((7 * a1) + a2) r_3 hr_3) cf_X1_at im_X1_at se_X1_at ml_X8_106 ⟨Nat.le_trans (Nat.le_of_ble_eq_true rfl) hRf, Nat.le_trans (Nat.le_of_ble_eq_true rfl) hRl⟩ (hP.sub (ws' := [(b, .inr (1, [.ref ca, .int kk, .int sg])), (ca, .inl (g.2.1, 49, .inl f))]) [2, 3] rfl) (ci := 1) (q0 := 0) rfl rfl rfl rfl hl.1 rfl (Nat.le_of_ble_eq_true rfl) dX8_pieceAt_18 ⟨Nat.le_trans (Nat.le_of_ble_eq_true rfl) hRc, Nat.le_trans (Nat.le_of_ble_eq_true rfl) hRs⟩ ?_
  have hyp := some_e hyp
  subst hyp
  subst hQ
  exact xrI (na := s.heap.size) hx hb hr hlocks (Nat.le_refl _) hP hD hS (Nat.le_of_ble_eq_true rfl) (Nat.le_of_ble_eq_true rfl) dX8_pieceAt_21

def fX8_piecesOf (f : Nat → Int32) (a1 : Int32) : Option (Nat × Int32) :=
  (fX8_needSide a1).bind (fun (r_1 : Nat) => if r_1 = 0 then ((fX1_countPieces f a1).bind (fun (r_3 : Int32) => some (0, r_3))) else (some (r_1, 0)))
set_option maxRecDepth 100000 in
set_option maxHeartbeats 4000000 in
theorem mX8_piecesOf (l : Launch) (hl0 : l.stackTraces = false) (g : GE) (hg st b ca tr sa sk sv mt ml ad kw zc zp : Nat) (sd : Int32) (mv : Int32) (gm : Int32) (lt : Option Nat) (w1 : Int32) (w2 : Int32) (dg : Int32) (t1 : Int32) (t2 : Int32) (am : Int32) (kk : Int32) (sg : Int32) (f : Nat → Int32) (a1 : Int32) (r : Nat × Int32) (hyp : fX8_piecesOf f a1 = some r) : XM l yX8_piecesOf cX8_piecesOf 2 (some .int) 7 110 1 6 g [(hg, .inr (8, [.ref st, .ref tr, .ref sa, .ref sk, .ref sv, .ref mt, .ref ml, .ref ad, .ref kw])), (st, .inr (7, [.ref b, .int sd, .int mv, .int gm, va_rf lt, .int w1, .int w2, .int dg, .int t1, .int t2, .int am])), (b, .inr (1, [.ref ca, .int kk, .int sg])), (ca, .inl (g.2.1, 49, .inl f))] (OZ g zc zp [] none) [.ref hg, .int a1] r.1 (some (.int r.2)) (fun na => [(hg, .inr (8, [.ref st, .ref tr, .ref sa, .ref sk, .ref sv, .ref mt, .ref ml, .ref ad, .ref kw])), (st, .inr (7, [.ref b, .int sd, .int mv, .int gm, va_rf lt, .int w1, .int w2, .int dg, .int t1, .int t2, .int am])), (b, .inr (1, [.ref ca, .int kk, .int sg])), (ca, .inl (g.2.1, 49, .inl f))]) (fun _ => [(hg, .inr (8, [.ref st, .ref tr, .ref sa, .ref sk, .ref sv, .ref mt, .ref ml, .ref ad, .ref kw])), (st, .inr (7, [.ref b, .int sd, .int mv, .int gm, va_rf lt, .int w1, .int w2, .int dg, .int t1, .int t2, .int am])), (b, .inr (1, [.ref ca, .int kk, .int sg])), (ca, .inl (g.2.1, 49, .inl f))]) := by
  refine metX_intro (by decide) rfl ?_
  intro p e R s m args below meth c Q A hRf hRl hRc hRs hQ hx hb hml hr hlocks hex hown hts hin hE hSR hA hO H locs hP hD hS ls hl
  have hown : s.vm.findClass "HallGuards" = some m.cls := hown
  have hl : lv_has ls 2 [(0, .ref hg), (1, .int a1)] := hl
  unfold fX8_piecesOf at hyp
  refine lv_iload_n hx hb dX8_piecesOf_0 rfl (lv_at hl 1 rfl) ?_
  obtain ⟨r_1, hr_1, hyp⟩ := opt_e hyp
  refine xS (As := [.int a1]) (rest := []) ⟨hx, hb, hml, hown, hts⟩ hE hSR (mX8_needSide l hl0 g zc zp a1 r_1 hr_1) (OZ_ok g zc zp _ _) hO cf_X8_needSide st_X8_needSide ml_X8_113 ⟨Nat.le_trans (Nat.le_of_ble_eq_true rfl) hRf, Nat.le_trans (Nat.le_of_ble_eq_true rfl) hRl⟩ hP hD hS hA [] [0, 1, 2, 3] rfl (wr := [(hg, .inr (8, [.ref st, .ref tr, .ref sa, .ref sk, .ref sv, .ref mt, .ref ml, .ref ad, .ref kw])), (st, .inr (7, [.ref b, .int sd, .int mv, .int gm, va_rf lt, .int w1, .int w2, .int dg, .int t1, .int t2, .int am])), (b, .inr (1, [.ref ca, .int kk, .int sg])), (ca, .inl (g.2.1, 49, .inl f))]) rfl ⟨by decide, by decide⟩ (by decide) rfl hl.1 rfl (Nat.le_of_ble_eq_true rfl) dX8_piecesOf_1 ⟨Nat.le_trans (Nat.le_of_ble_eq_true rfl) hRc, Nat.le_trans (Nat.le_of_ble_eq_true rfl) hRs⟩ (fun hk0 na_2 H locs hna_2 hP hD hS => ?_) (fun hk0 na9 q9 ce9 H locs hna9 hP hD hS hce hcv hcl => ?_)
  rotate_left 1
  · replace hyp := ite_f hk0 hyp
    have hP : va_P g.1 vwCl [(hg, .inr (8, [.ref st, .ref tr, .ref sa, .ref sk, .ref sv, .ref mt, .ref ml, .ref ad, .ref kw])), (st, .inr (7, [.ref b, .int sd, .int mv, .int gm, va_rf lt, .int w1, .int w2, .int dg, .int t1, .int t2, .int am])), (b, .inr (1, [.ref ca, .int kk, .int sg])), (ca, .inl (g.2.1, 49, .inl f))] H := hP
    have hD : va_D A [(hg, .inr (8, [.ref st, .ref tr, .ref sa, .ref sk, .ref sv, .ref mt, .ref ml, .ref ad, .ref kw])), (st, .inr (7, [.ref b, .int sd, .int mv, .int gm, va_rf lt, .int w1, .int w2, .int dg, .int t1, .int t2, .int am])), (b, .inr (1, [.ref ca, .int kk, .int sg])), (ca, .inl (g.2.1, 49, .inl f))] := hD
    have hyp := some_e hyp
    subst hyp
    subst hQ
    exact xOut hex hlocks hk0 (Nat.le_refl _) hP hD hS hce hcv hcl (Nat.le_of_ble_eq_true rfl) (Nat.le_of_ble_eq_true rfl)
  replace hyp := ite_t hk0 hyp
  have hP : va_P g.1 vwCl [(hg, .inr (8, [.ref st, .ref tr, .ref sa, .ref sk, .ref sv, .ref mt, .ref ml, .ref ad, .ref kw])), (st, .inr (7, [.ref b, .int sd, .int mv, .int gm, va_rf lt, .int w1, .int w2, .int dg, .int t1, .int t2, .int am])), (b, .inr (1, [.ref ca, .int kk, .int sg])), (ca, .inl (g.2.1, 49, .inl f))] H := hP
  have hD : va_D A [(hg, .inr (8, [.ref st, .ref tr, .ref sa, .ref sk, .ref sv, .ref mt, .ref ml, .ref ad, .ref kw])), (st, .inr (7, [.ref b, .int sd, .int mv, .int gm, va_rf lt, .int w1, .int w2, .int dg, .int t1, .int t2, .int am])), (b, .inr (1, [.ref ca, .int kk, .int sg])), (ca, .inl (g.2.1, 49, .inl f))] := hD
  refine lv_aload_n hx hb dX8_piecesOf_4 rfl (lv_at hl 0 rfl) ?_
  refine gf_X8_12 hx hb hts hown hE hP 0 rfl rfl dX8_piecesOf_5 ?_
  refine gf_X8_69 hx hb hts hown hE hP 1 rfl rfl dX8_piecesOf_8 ?_
  refine lv_iload_n hx hb dX8_piecesOf_11 rfl (lv_at hl 1 rfl) ?_
  obtain ⟨r_3, hr_3, hyp⟩ := opt_e hyp
  refine pV (As := [.int a1]) (rest := []) ⟨hx, hb, hml, hown, hts⟩ hE (mX1_countPieces l g b ca kk sg f a1 r_3 hr_3) cf_X1_countPieces im_X1_countPieces se_X1_countPieces ml_X8_200 ⟨Nat.le_trans (Nat.le_of_ble_eq_true rfl) hRf, Nat.le_trans (Nat.le_of_ble_eq_true rfl) hRl⟩ (hP.sub (ws' := [(b, .inr (1, [.ref ca, .int kk, .int sg])), (ca, .inl (g.2.1, 49, .inl f))]) [2, 3] rfl) (ci := 1) (q0 := 0) rfl rfl rfl rfl hl.1 rfl (Nat.le_of_ble_eq_true rfl) dX8_piecesOf_12 ⟨Nat.le_trans (Nat.le_of_ble_eq_true rfl) hRc, Nat.le_trans (Nat.le_of_ble_eq_true rfl) hRs⟩ ?_
  have hyp := some_e hyp
  subst hyp
  subst hQ
  exact xrI (na := s.heap.size) hx hb hr hlocks (Nat.le_refl _) hP hD hS (Nat.le_of_ble_eq_true rfl) (Nat.le_of_ble_eq_true rfl) dX8_piecesOf_15

def fX8_kingAt (kk : Int32) : Option (Nat × Int32) :=
  (fX8_needKing kk).bind (fun (r_1 : Nat) => if r_1 = 0 then (some (0, kk)) else (some (r_1, 0)))
set_option maxRecDepth 100000 in
set_option maxHeartbeats 4000000 in
theorem mX8_kingAt (l : Launch) (hl0 : l.stackTraces = false) (g : GE) (hg st b ca tr sa sk sv mt ml ad kw zc zp : Nat) (sd : Int32) (mv : Int32) (gm : Int32) (lt : Option Nat) (w1 : Int32) (w2 : Int32) (dg : Int32) (t1 : Int32) (t2 : Int32) (am : Int32) (kk : Int32) (sg : Int32) (f : Nat → Int32) (r : Nat × Int32) (hyp : fX8_kingAt kk = some r) : XM l yX8_kingAt cX8_kingAt 1 (some .int) 7 110 1 6 g [(hg, .inr (8, [.ref st, .ref tr, .ref sa, .ref sk, .ref sv, .ref mt, .ref ml, .ref ad, .ref kw])), (st, .inr (7, [.ref b, .int sd, .int mv, .int gm, va_rf lt, .int w1, .int w2, .int dg, .int t1, .int t2, .int am])), (b, .inr (1, [.ref ca, .int kk, .int sg])), (ca, .inl (g.2.1, 49, .inl f))] (OZ g zc zp [] none) [.ref hg] r.1 (some (.int r.2)) (fun na => [(hg, .inr (8, [.ref st, .ref tr, .ref sa, .ref sk, .ref sv, .ref mt, .ref ml, .ref ad, .ref kw])), (st, .inr (7, [.ref b, .int sd, .int mv, .int gm, va_rf lt, .int w1, .int w2, .int dg, .int t1, .int t2, .int am])), (b, .inr (1, [.ref ca, .int kk, .int sg])), (ca, .inl (g.2.1, 49, .inl f))]) (fun _ => [(hg, .inr (8, [.ref st, .ref tr, .ref sa, .ref sk, .ref sv, .ref mt, .ref ml, .ref ad, .ref kw])), (st, .inr (7, [.ref b, .int sd, .int mv, .int gm, va_rf lt, .int w1, .int w2, .int dg, .int t1, .int t2, .int am])), (b, .inr (1, [.ref ca, .int kk, .int sg])), (ca, .inl (g.2.1, 49, .inl f))]) := by
  refine metX_intro (by decide) rfl ?_
  intro p e R s m args below meth c Q A hRf hRl hRc hRs hQ hx hb hml hr hlocks hex hown hts hin hE hSR hA hO H locs hP hD hS ls hl
  have hown : s.vm.findClass "HallGuards" = some m.cls := hown
  have hl : lv_has ls 1 [(0, .ref hg)] := hl
  unfold fX8_kingAt at hyp
  refine lv_aload_n hx hb dX8_kingAt_0 rfl (lv_at hl 0 rfl) ?_
  obtain ⟨r_1, hr_1, hyp⟩ := opt_e hyp
  refine xV (As := []) (rest := []) ⟨hx, hb, hml, hown, hts⟩ hE hSR (mX8_needKing l hl0 g hg st b tr sa sk sv mt ml ad kw ca zc zp sd mv gm lt w1 w2 dg t1 t2 am kk sg r_1 hr_1) (OZ_ok g zc zp _ _) hO cf_X8_needKing im_X8_needKing se_X8_needKing ml_X8_203 ⟨Nat.le_trans (Nat.le_of_ble_eq_true rfl) hRf, Nat.le_trans (Nat.le_of_ble_eq_true rfl) hRl⟩ hP hD hS hA [0, 1, 2] [3] rfl (wr := [(ca, .inl (g.2.1, 49, .inl f))]) rfl ⟨by decide, by decide⟩ (by decide) (ci := 8) (q0 := 0) rfl rfl rfl rfl hl.1 rfl (Nat.le_of_ble_eq_true rfl) dX8_kingAt_1 ⟨Nat.le_trans (Nat.le_of_ble_eq_true rfl) hRc, Nat.le_trans (Nat.le_of_ble_eq_true rfl) hRs⟩ (fun hk0 na_2 H locs hna_2 hP hD hS => ?_) (fun hk0 na9 q9 ce9 H locs hna9 hP hD hS hce hcv hcl => ?_)
  rotate_left 1
  · replace hyp := ite_f hk0 hyp
    have hP : va_P g.1 vwCl [(ca, .inl (g.2.1, 49, .inl f)), (hg, .inr (8, [.ref st, .ref tr, .ref sa, .ref sk, .ref sv, .ref mt, .ref ml, .ref ad, .ref kw])), (st, .inr (7, [.ref b, .int sd, .int mv, .int gm, va_rf lt, .int w1, .int w2, .int dg, .int t1, .int t2, .int am])), (b, .inr (1, [.ref ca, .int kk, .int sg]))] H := hP
    have hD : va_D A [(ca, .inl (g.2.1, 49, .inl f)), (hg, .inr (8, [.ref st, .ref tr, .ref sa, .ref sk, .ref sv, .ref mt, .ref ml, .ref ad, .ref kw])), (st, .inr (7, [.ref b, .int sd, .int mv, .int gm, va_rf lt, .int w1, .int w2, .int dg, .int t1, .int t2, .int am])), (b, .inr (1, [.ref ca, .int kk, .int sg]))] := hD
    have hP : va_P g.1 vwCl [(hg, .inr (8, [.ref st, .ref tr, .ref sa, .ref sk, .ref sv, .ref mt, .ref ml, .ref ad, .ref kw])), (st, .inr (7, [.ref b, .int sd, .int mv, .int gm, va_rf lt, .int w1, .int w2, .int dg, .int t1, .int t2, .int am])), (b, .inr (1, [.ref ca, .int kk, .int sg])), (ca, .inl (g.2.1, 49, .inl f))] H := hP.sub [1, 2, 3, 0] rfl
    have hD : va_D A [(hg, .inr (8, [.ref st, .ref tr, .ref sa, .ref sk, .ref sv, .ref mt, .ref ml, .ref ad, .ref kw])), (st, .inr (7, [.ref b, .int sd, .int mv, .int gm, va_rf lt, .int w1, .int w2, .int dg, .int t1, .int t2, .int am])), (b, .inr (1, [.ref ca, .int kk, .int sg])), (ca, .inl (g.2.1, 49, .inl f))] := hD.sub [1, 2, 3, 0] (by decide) rfl
    have hyp := some_e hyp
    subst hyp
    subst hQ
    exact xOut hex hlocks hk0 (Nat.le_refl _) hP hD hS hce hcv hcl (Nat.le_of_ble_eq_true rfl) (Nat.le_of_ble_eq_true rfl)
  replace hyp := ite_t hk0 hyp
  have hP : va_P g.1 vwCl [(ca, .inl (g.2.1, 49, .inl f)), (hg, .inr (8, [.ref st, .ref tr, .ref sa, .ref sk, .ref sv, .ref mt, .ref ml, .ref ad, .ref kw])), (st, .inr (7, [.ref b, .int sd, .int mv, .int gm, va_rf lt, .int w1, .int w2, .int dg, .int t1, .int t2, .int am])), (b, .inr (1, [.ref ca, .int kk, .int sg]))] H := hP
  have hD : va_D A [(ca, .inl (g.2.1, 49, .inl f)), (hg, .inr (8, [.ref st, .ref tr, .ref sa, .ref sk, .ref sv, .ref mt, .ref ml, .ref ad, .ref kw])), (st, .inr (7, [.ref b, .int sd, .int mv, .int gm, va_rf lt, .int w1, .int w2, .int dg, .int t1, .int t2, .int am])), (b, .inr (1, [.ref ca, .int kk, .int sg]))] := hD
  refine lv_aload_n hx hb dX8_kingAt_4 rfl (lv_at hl 0 rfl) ?_
  refine gf_X8_12 hx hb hts hown hE hP 1 rfl rfl dX8_kingAt_5 ?_
  refine gf_X8_69 hx hb hts hown hE hP 2 rfl rfl dX8_kingAt_8 ?_
  refine gf_X8_117 hx hb hts hown hE hP 3 rfl rfl dX8_kingAt_11 ?_
  have hP : va_P g.1 vwCl [(hg, .inr (8, [.ref st, .ref tr, .ref sa, .ref sk, .ref sv, .ref mt, .ref ml, .ref ad, .ref kw])), (st, .inr (7, [.ref b, .int sd, .int mv, .int gm, va_rf lt, .int w1, .int w2, .int dg, .int t1, .int t2, .int am])), (b, .inr (1, [.ref ca, .int kk, .int sg])), (ca, .inl (g.2.1, 49, .inl f))] H := hP.sub [1, 2, 3, 0] rfl
  have hD : va_D A [(hg, .inr (8, [.ref st, .ref tr, .ref sa, .ref sk, .ref sv, .ref mt, .ref ml, .ref ad, .ref kw])), (st, .inr (7, [.ref b, .int sd, .int mv, .int gm, va_rf lt, .int w1, .int w2, .int dg, .int t1, .int t2, .int am])), (b, .inr (1, [.ref ca, .int kk, .int sg])), (ca, .inl (g.2.1, 49, .inl f))] := hD.sub [1, 2, 3, 0] (by decide) rfl
  have hyp := some_e hyp
  subst hyp
  subst hQ
  exact xrI (na := s.heap.size) hx hb hr hlocks (Nat.le_refl _) hP hD hS (Nat.le_of_ble_eq_true rfl) (Nat.le_of_ble_eq_true rfl) dX8_kingAt_14

def fX8_isHostile (f : Nat → Int32) (a1 : Int32) (a2 : Int32) (a3 : Int32) : Option (Nat × Int32) :=
  (fX8_needSquare a1 a2).bind (fun (r_1 : Nat) => if r_1 = 0 then ((fX8_needSide a3).bind (fun (r_3 : Nat) => if r_3 = 0 then ((fX1_hostileTo f a3 ((7 * a1) + a2)).bind (fun (r_5 : Int32) => grd (is01 r_5) (some (0, r_5)))) else (some (r_3, 0)))) else (some (r_1, 0)))
set_option maxRecDepth 100000 in
set_option maxHeartbeats 4000000 in
theorem mX8_isHostile (l : Launch) (hl0 : l.stackTraces = false) (g : GE) (hg st b ca tr sa sk sv mt ml ad kw zc zp : Nat) (sd : Int32) (mv : Int32) (gm : Int32) (lt : Option Nat) (w1 : Int32) (w2 : Int32) (dg : Int32) (t1 : Int32) (t2 : Int32) (am : Int32) (kk : Int32) (sg : Int32) (f : Nat → Int32) (a1 : Int32) (a2 : Int32) (a3 : Int32) (r : Nat × Int32) (hyp : fX8_isHostile f a1 a2 a3 = some r) : XM l yX8_isHostile cX8_isHostile 4 (some .boolean) 7 111 2 12 g [(hg, .inr (8, [.ref st, .ref tr, .ref sa, .ref sk, .ref sv, .ref mt, .ref ml, .ref ad, .ref kw])), (st, .inr (7, [.ref b, .int sd, .int mv, .int gm, va_rf lt, .int w1, .int w2, .int dg, .int t1, .int t2, .int am])), (b, .inr (1, [.ref ca, .int kk, .int sg])), (ca, .inl (g.2.1, 49, .inl f))] (OZ g zc zp [] none) [.ref hg, .int a1, .int a2, .int a3] r.1 (some (.int r.2)) (fun na => [(hg, .inr (8, [.ref st, .ref tr, .ref sa, .ref sk, .ref sv, .ref mt, .ref ml, .ref ad, .ref kw])), (st, .inr (7, [.ref b, .int sd, .int mv, .int gm, va_rf lt, .int w1, .int w2, .int dg, .int t1, .int t2, .int am])), (b, .inr (1, [.ref ca, .int kk, .int sg])), (ca, .inl (g.2.1, 49, .inl f))]) (fun _ => [(hg, .inr (8, [.ref st, .ref tr, .ref sa, .ref sk, .ref sv, .ref mt, .ref ml, .ref ad, .ref kw])), (st, .inr (7, [.ref b, .int sd, .int mv, .int gm, va_rf lt, .int w1, .int w2, .int dg, .int t1, .int t2, .int am])), (b, .inr (1, [.ref ca, .int kk, .int sg])), (ca, .inl (g.2.1, 49, .inl f))]) := by
  refine metX_intro (by decide) rfl ?_
  intro p e R s m args below meth c Q A hRf hRl hRc hRs hQ hx hb hml hr hlocks hex hown hts hin hE hSR hA hO H locs hP hD hS ls hl
  have hown : s.vm.findClass "HallGuards" = some m.cls := hown
  have hl : lv_has ls 4 [(0, .ref hg), (1, .int a1), (2, .int a2), (3, .int a3)] := hl
  unfold fX8_isHostile at hyp
  refine lv_iload_n hx hb dX8_isHostile_0 rfl (lv_at hl 1 rfl) ?_
  refine lv_iload_n hx hb dX8_isHostile_1 rfl (lv_at hl 2 rfl) ?_
  obtain ⟨r_1, hr_1, hyp⟩ := opt_e hyp
  refine xS (As := [.int a1, .int a2]) (rest := []) ⟨hx, hb, hml, hown, hts⟩ hE hSR (mX8_needSquare l hl0 g zc zp a1 a2 r_1 hr_1) (OZ_ok g zc zp _ _) hO cf_X8_needSquare st_X8_needSquare ml_X8_82 ⟨Nat.le_trans (Nat.le_of_ble_eq_true rfl) hRf, Nat.le_trans (Nat.le_of_ble_eq_true rfl) hRl⟩ hP hD hS hA [] [0, 1, 2, 3] rfl (wr := [(hg, .inr (8, [.ref st, .ref tr, .ref sa, .ref sk, .ref sv, .ref mt, .ref ml, .ref ad, .ref kw])), (st, .inr (7, [.ref b, .int sd, .int mv, .int gm, va_rf lt, .int w1, .int w2, .int dg, .int t1, .int t2, .int am])), (b, .inr (1, [.ref ca, .int kk, .int sg])), (ca, .inl (g.2.1, 49, .inl f))]) rfl ⟨by decide, by decide⟩ (by decide) rfl hl.1 rfl (Nat.le_of_ble_eq_true rfl) dX8_isHostile_2 ⟨Nat.le_trans (Nat.le_of_ble_eq_true rfl) hRc, Nat.le_trans (Nat.le_of_ble_eq_true rfl) hRs⟩ (fun hk0 na_2 H locs hna_2 hP hD hS => ?_) (fun hk0 na9 q9 ce9 H locs hna9 hP hD hS hce hcv hcl => ?_)
  rotate_left 1
  · replace hyp := ite_f hk0 hyp
    have hP : va_P g.1 vwCl [(hg, .inr (8, [.ref st, .ref tr, .ref sa, .ref sk, .ref sv, .ref mt, .ref ml, .ref ad, .ref kw])), (st, .inr (7, [.ref b, .int sd, .int mv, .int gm, va_rf lt, .int w1, .int w2, .int dg, .int t1, .int t2, .int am])), (b, .inr (1, [.ref ca, .int kk, .int sg])), (ca, .inl (g.2.1, 49, .inl f))] H := hP
    have hD : va_D A [(hg, .inr (8, [.ref st, .ref tr, .ref sa, .ref sk, .ref sv, .ref mt, .ref ml, .ref ad, .ref kw])), (st, .inr (7, [.ref b, .int sd, .int mv, .int gm, va_rf lt, .int w1, .int w2, .int dg, .int t1, .int t2, .int am])), (b, .inr (1, [.ref ca, .int kk, .int sg])), (ca, .inl (g.2.1, 49, .inl f))] := hD
    have hyp := some_e hyp
    subst hyp
    subst hQ
    exact xOut hex hlocks hk0 (Nat.le_refl _) hP hD hS hce hcv hcl (Nat.le_of_ble_eq_true rfl) (Nat.le_of_ble_eq_true rfl)
  replace hyp := ite_t hk0 hyp
  have hP : va_P g.1 vwCl [(hg, .inr (8, [.ref st, .ref tr, .ref sa, .ref sk, .ref sv, .ref mt, .ref ml, .ref ad, .ref kw])), (st, .inr (7, [.ref b, .int sd, .int mv, .int gm, va_rf lt, .int w1, .int w2, .int dg, .int t1, .int t2, .int am])), (b, .inr (1, [.ref ca, .int kk, .int sg])), (ca, .inl (g.2.1, 49, .inl f))] H := hP
  have hD : va_D A [(hg, .inr (8, [.ref st, .ref tr, .ref sa, .ref sk, .ref sv, .ref mt, .ref ml, .ref ad, .ref kw])), (st, .inr (7, [.ref b, .int sd, .int mv, .int gm, va_rf lt, .int w1, .int w2, .int dg, .int t1, .int t2, .int am])), (b, .inr (1, [.ref ca, .int kk, .int sg])), (ca, .inl (g.2.1, 49, .inl f))] := hD
  refine lv_iload_n hx hb dX8_isHostile_5 rfl (lv_at hl 3 rfl) ?_
  obtain ⟨r_3, hr_3, hyp⟩ := opt_e hyp
  refine xS (As := [.int a3]) (rest := []) ⟨hx, hb, hml, hown, hts⟩ hE hSR (mX8_needSide l hl0 g zc zp a3 r_3 hr_3) (OZ_ok g zc zp _ _) hO cf_X8_needSide st_X8_needSide ml_X8_113 ⟨Nat.le_trans (Nat.le_of_ble_eq_true rfl) hRf, Nat.le_trans (Nat.le_of_ble_eq_true rfl) hRl⟩ hP hD hS hA [] [0, 1, 2, 3] rfl (wr := [(hg, .inr (8, [.ref st, .ref tr, .ref sa, .ref sk, .ref sv, .ref mt, .ref ml, .ref ad, .ref kw])), (st, .inr (7, [.ref b, .int sd, .int mv, .int gm, va_rf lt, .int w1, .int w2, .int dg, .int t1, .int t2, .int am])), (b, .inr (1, [.ref ca, .int kk, .int sg])), (ca, .inl (g.2.1, 49, .inl f))]) rfl ⟨by decide, by decide⟩ (by decide) rfl hl.1 rfl (Nat.le_of_ble_eq_true rfl) dX8_isHostile_6 ⟨Nat.le_trans (Nat.le_of_ble_eq_true rfl) hRc, Nat.le_trans (Nat.le_of_ble_eq_true rfl) hRs⟩ (fun hk0 na_4 H locs hna_4 hP hD hS => ?_) (fun hk0 na9 q9 ce9 H locs hna9 hP hD hS hce hcv hcl => ?_)
  rotate_left 1
  · replace hyp := ite_f hk0 hyp
    have hP : va_P g.1 vwCl [(hg, .inr (8, [.ref st, .ref tr, .ref sa, .ref sk, .ref sv, .ref mt, .ref ml, .ref ad, .ref kw])), (st, .inr (7, [.ref b, .int sd, .int mv, .int gm, va_rf lt, .int w1, .int w2, .int dg, .int t1, .int t2, .int am])), (b, .inr (1, [.ref ca, .int kk, .int sg])), (ca, .inl (g.2.1, 49, .inl f))] H := hP
    have hD : va_D A [(hg, .inr (8, [.ref st, .ref tr, .ref sa, .ref sk, .ref sv, .ref mt, .ref ml, .ref ad, .ref kw])), (st, .inr (7, [.ref b, .int sd, .int mv, .int gm, va_rf lt, .int w1, .int w2, .int dg, .int t1, .int t2, .int am])), (b, .inr (1, [.ref ca, .int kk, .int sg])), (ca, .inl (g.2.1, 49, .inl f))] := hD
    have hyp := some_e hyp
    subst hyp
    subst hQ
    exact xOut hex hlocks hk0 (Nat.le_refl _) hP hD hS hce hcv hcl (Nat.le_of_ble_eq_true rfl) (Nat.le_of_ble_eq_true rfl)
  replace hyp := ite_t hk0 hyp
  have hP : va_P g.1 vwCl [(hg, .inr (8, [.ref st, .ref tr, .ref sa, .ref sk, .ref sv, .ref mt, .ref ml, .ref ad, .ref kw])), (st, .inr (7, [.ref b, .int sd, .int mv, .int gm, va_rf lt, .int w1, .int w2, .int dg, .int t1, .int t2, .int am])), (b, .inr (1, [.ref ca, .int kk, .int sg])), (ca, .inl (g.2.1, 49, .inl f))] H := hP
  have hD : va_D A [(hg, .inr (8, [.ref st, .ref tr, .ref sa, .ref sk, .ref sv, .ref mt, .ref ml, .ref ad, .ref kw])), (st, .inr (7, [.ref b, .int sd, .int mv, .int gm, va_rf lt, .int w1, .int w2, .int dg, .int t1, .int t2, .int am])), (b, .inr (1, [.ref ca, .int kk, .int sg])), (ca, .inl (g.2.1, 49, .inl f))] := hD
  refine lv_aload_n hx hb dX8_isHostile_9 rfl (lv_at hl 0 rfl) ?_
  refine gf_X8_12 hx hb hts hown hE hP 0 rfl rfl dX8_isHostile_10 ?_
  refine gf_X8_69 hx hb hts hown hE hP 1 rfl rfl dX8_isHostile_13 ?_
  refine lv_iload_n hx hb dX8_isHostile_16 rfl (lv_at hl 3 rfl) ?_
  refine lv_bipush (v := 7) hx hb dX8_isHostile_17 (by decide) ?_
  refine lv_iload_n hx hb dX8_isHostile_19 rfl (lv_at hl 1 rfl) ?_
  refine lv_imul hx hb dX8_isHostile_20 ?_
  refine lv_iload_n hx hb dX8_isHostile_21 rfl (lv_at hl 2 rfl) ?_
  refine lv_iadd hx hb dX8_isHostile_22 ?_
  obtain ⟨r_5, hr_5, hyp⟩ := opt_e hyp
  refine pV (As := [.int a3, .int ((7 * a1) + a2)]) (rest := []) ⟨hx, hb, hml, hown, hts⟩ hE (mX1_hostileTo l g b ca kk sg f a3 ((7 * a1) + a2) r_5 hr_5) cf_X1_hostileTo im_X1_hostileTo se_X1_hostileTo ml_X8_206 ⟨Nat.le_trans (Nat.le_of_ble_eq_true rfl) hRf, Nat.le_trans (Nat.le_of_ble_eq_true rfl) hRl⟩ (hP.sub (ws' := [(b, .inr (1, [.ref ca, .int kk, .int sg])), (ca, .inl (g.2.1, 49, .inl f))]) [2, 3] rfl) (ci := 1) (q0 := 0) rfl rfl rfl rfl hl.1 rfl (Nat.le_of_ble_eq_true rfl) dX8_isHostile_23 ⟨Nat.le_trans (Nat.le_of_ble_eq_true rfl) hRc, Nat.le_trans (Nat.le_of_ble_eq_true rfl) hRs⟩ ?_
  obtain ⟨h01, hyp⟩ := grd_e hyp
  have hyp := some_e hyp
  subst hyp
  subst hQ
  exact xrZ (na := s.heap.size) hx hb hr hlocks (is01_e h01) (Nat.le_refl _) hP hD hS (Nat.le_of_ble_eq_true rfl) (Nat.le_of_ble_eq_true rfl) dX8_isHostile_26

def fX8_isStrong (sg : Int32) : Option Int32 :=
  grd (is01 sg) (some sg)
set_option maxRecDepth 100000 in
set_option maxHeartbeats 4000000 in
theorem mX8_isStrong (l : Launch) (g : GE) (hg st b ca tr sa sk sv mt ml ad kw : Nat) (sd : Int32) (mv : Int32) (gm : Int32) (lt : Option Nat) (w1 : Int32) (w2 : Int32) (dg : Int32) (t1 : Int32) (t2 : Int32) (am : Int32) (kk : Int32) (sg : Int32) (f : Nat → Int32) (r : Int32) (hyp : fX8_isStrong sg = some r) : PI l yX8_isStrong cX8_isStrong 1 (some .boolean) 0 0 g [(hg, .inr (8, [.ref st, .ref tr, .ref sa, .ref sk, .ref sv, .ref mt, .ref ml, .ref ad, .ref kw])), (st, .inr (7, [.ref b, .int sd, .int mv, .int gm, va_rf lt, .int w1, .int w2, .int dg, .int t1, .int t2, .int am])), (b, .inr (1, [.ref ca, .int kk, .int sg])), (ca, .inl (g.2.1, 49, .inl f))] [.ref hg] r := by
  refine metP_intro (by decide) rfl ?_
  intro p e R s m args below meth c Q hRf hRl hQ hx hb hml hr hlocks hown hts hin hE hP ls hl
  have hown : s.vm.findClass "HallGuards" = some m.cls := hown
  have hl : lv_has ls 1 [(0, .ref hg)] := hl
  unfold fX8_isStrong at hyp
  refine lv_aload_n hx hb dX8_isStrong_0 rfl (lv_at hl 0 rfl) ?_
  refine gf_X8_12 hx hb hts hown hE hP 0 rfl rfl dX8_isStrong_1 ?_
  refine gf_X8_69 hx hb hts hown hE hP 1 rfl rfl dX8_isStrong_4 ?_
  refine gf_X8_132 hx hb hts hown hE hP 2 rfl rfl dX8_isStrong_7 ?_
  obtain ⟨h01, hyp⟩ := grd_e hyp
  subst hQ
  exact rZ hx hb hr hlocks (is01_e h01) (some_e hyp) dX8_isStrong_10

def fX8_standing (sd : Int32) : Option Int32 :=
  some sd
set_option maxRecDepth 100000 in
set_option maxHeartbeats 4000000 in
theorem mX8_standing (l : Launch) (g : GE) (hg st b ca tr sa sk sv mt ml ad kw : Nat) (sd : Int32) (mv : Int32) (gm : Int32) (lt : Option Nat) (w1 : Int32) (w2 : Int32) (dg : Int32) (t1 : Int32) (t2 : Int32) (am : Int32) (kk : Int32) (sg : Int32) (f : Nat → Int32) (r : Int32) (hyp : fX8_standing sd = some r) : PI l yX8_standing cX8_standing 1 (some .int) 0 0 g [(hg, .inr (8, [.ref st, .ref tr, .ref sa, .ref sk, .ref sv, .ref mt, .ref ml, .ref ad, .ref kw])), (st, .inr (7, [.ref b, .int sd, .int mv, .int gm, va_rf lt, .int w1, .int w2, .int dg, .int t1, .int t2, .int am])), (b, .inr (1, [.ref ca, .int kk, .int sg])), (ca, .inl (g.2.1, 49, .inl f))] [.ref hg] r := by
  refine metP_intro (by decide) rfl ?_
  intro p e R s m args below meth c Q hRf hRl hQ hx hb hml hr hlocks hown hts hin hE hP ls hl
  have hown : s.vm.findClass "HallGuards" = some m.cls := hown
  have hl : lv_has ls 1 [(0, .ref hg)] := hl
  unfold fX8_standing at hyp
  refine lv_aload_n hx hb dX8_standing_0 rfl (lv_at hl 0 rfl) ?_
  refine gf_X8_12 hx hb hts hown hE hP 0 rfl rfl dX8_standing_1 ?_
  refine gf_X8_93 hx hb hts hown hE hP 1 rfl rfl dX8_standing_4 ?_
  subst hQ
  exact rI hx hb hr hlocks (some_e hyp) dX8_standing_7

def fX8_moves (gm : Int32) : Option Int32 :=
  some gm
set_option maxRecDepth 100000 in
set_option maxHeartbeats 4000000 in
theorem mX8_moves (l : Launch) (g : GE) (hg st b ca tr sa sk sv mt ml ad kw : Nat) (sd : Int32) (mv : Int32) (gm : Int32) (lt : Option Nat) (w1 : Int32) (w2 : Int32) (dg : Int32) (t1 : Int32) (t2 : Int32) (am : Int32) (kk : Int32) (sg : Int32) (f : Nat → Int32) (r : Int32) (hyp : fX8_moves gm = some r) : PI l yX8_moves cX8_moves 1 (some .int) 0 0 g [(hg, .inr (8, [.ref st, .ref tr, .ref sa, .ref sk, .ref sv, .ref mt, .ref ml, .ref ad, .ref kw])), (st, .inr (7, [.ref b, .int sd, .int mv, .int gm, va_rf lt, .int w1, .int w2, .int dg, .int t1, .int t2, .int am])), (b, .inr (1, [.ref ca, .int kk, .int sg])), (ca, .inl (g.2.1, 49, .inl f))] [.ref hg] r := by
  refine metP_intro (by decide) rfl ?_
  intro p e R s m args below meth c Q hRf hRl hQ hx hb hml hr hlocks hown hts hin hE hP ls hl
  have hown : s.vm.findClass "HallGuards" = some m.cls := hown
  have hl : lv_has ls 1 [(0, .ref hg)] := hl
  unfold fX8_moves at hyp
  refine lv_aload_n hx hb dX8_moves_0 rfl (lv_at hl 0 rfl) ?_
  refine gf_X8_12 hx hb hts hown hE hP 0 rfl rfl dX8_moves_1 ?_
  refine gf_X8_214 hx hb hts hown hE hP 1 rfl rfl dX8_moves_4 ?_
  subst hQ
  exact rI hx hb hr hlocks (some_e hyp) dX8_moves_7

def fX8_turn (sd : Int32) (mv : Int32) : Option (Nat × Int32) :=
  if sd = 1 then (some (0, mv)) else (some (3, 0))
set_option maxRecDepth 100000 in
set_option maxHeartbeats 4000000 in
theorem mX8_turn (l : Launch) (hl0 : l.stackTraces = false) (g : GE) (hg st b ca tr sa sk sv mt ml ad kw zc zp : Nat) (sd : Int32) (mv : Int32) (gm : Int32) (lt : Option Nat) (w1 : Int32) (w2 : Int32) (dg : Int32) (t1 : Int32) (t2 : Int32) (am : Int32) (kk : Int32) (sg : Int32) (f : Nat → Int32) (r : Nat × Int32) (hyp : fX8_turn sd mv = some r) : XM l yX8_turn cX8_turn 1 (some .int) 6 90 1 6 g [(hg, .inr (8, [.ref st, .ref tr, .ref sa, .ref sk, .ref sv, .ref mt, .ref ml, .ref ad, .ref kw])), (st, .inr (7, [.ref b, .int sd, .int mv, .int gm, va_rf lt, .int w1, .int w2, .int dg, .int t1, .int t2, .int am])), (b, .inr (1, [.ref ca, .int kk, .int sg])), (ca, .inl (g.2.1, 49, .inl f))] (OZ g zc zp [] none) [.ref hg] r.1 (some (.int r.2)) (fun na => [(hg, .inr (8, [.ref st, .ref tr, .ref sa, .ref sk, .ref sv, .ref mt, .ref ml, .ref ad, .ref kw])), (st, .inr (7, [.ref b, .int sd, .int mv, .int gm, va_rf lt, .int w1, .int w2, .int dg, .int t1, .int t2, .int am])), (b, .inr (1, [.ref ca, .int kk, .int sg])), (ca, .inl (g.2.1, 49, .inl f))]) (fun _ => [(hg, .inr (8, [.ref st, .ref tr, .ref sa, .ref sk, .ref sv, .ref mt, .ref ml, .ref ad, .ref kw])), (st, .inr (7, [.ref b, .int sd, .int mv, .int gm, va_rf lt, .int w1, .int w2, .int dg, .int t1, .int t2, .int am])), (b, .inr (1, [.ref ca, .int kk, .int sg])), (ca, .inl (g.2.1, 49, .inl f))]) := by
  refine metX_intro (by decide) rfl ?_
  intro p e R s m args below meth c Q A hRf hRl hRc hRs hQ hx hb hml hr hlocks hex hown hts hin hE hSR hA hO H locs hP hD hS ls hl
  have hown : s.vm.findClass "HallGuards" = some m.cls := hown
  have hl : lv_has ls 1 [(0, .ref hg)] := hl
  unfold fX8_turn at hyp
  refine lv_aload_n hx hb dX8_turn_0 rfl (lv_at hl 0 rfl) ?_
  refine gf_X8_12 hx hb hts hown hE hP 0 rfl rfl dX8_turn_1 ?_
  refine gf_X8_93 hx hb hts hown hE hP 1 rfl rfl dX8_turn_4 ?_
  refine lv_iconst (v := 1) hx hb dX8_turn_7 (by decide) ?_
  refine lv_icmp_eq (tgt := 21) hx hb dX8_turn_8 (by decide) (fun h_1 => ?_) (fun h_1 => ?_)
  · replace hyp := ite_t h_1 hyp
    refine lv_aload_n hx hb dX8_turn_21 rfl (lv_at hl 0 rfl) ?_
    refine gf_X8_12 hx hb hts hown hE hP 0 rfl rfl dX8_turn_22 ?_
    refine gf_X8_211 hx hb hts hown hE hP 1 rfl rfl dX8_turn_25 ?_
    have hyp := some_e hyp
    subst hyp
    subst hQ
    exact xrI (na := s.heap.size) hx hb hr hlocks (Nat.le_refl _) hP hD hS (Nat.le_of_ble_eq_true rfl) (Nat.le_of_ble_eq_true rfl) dX8_turn_28
  · replace hyp := ite_f h_1 hyp
    have hyp := some_e hyp
    subst hyp
    subst hQ
    exact xthr (q := (209, "no game goes on")) (cls := "java/lang/IllegalStateException") (by decide) (Nat.succ_ne_zero _) rfl aw3 (by decide) hx hb hl0 hml hlocks hex hown hts hSR hO.2.1 (Nat.le_refl _) hP hD hS hl.1 (Nat.le_of_ble_eq_true rfl) ⟨Nat.le_trans (Nat.le_of_ble_eq_true rfl) hRf, Nat.le_trans (Nat.le_of_ble_eq_true rfl) hRl⟩ ⟨Nat.le_trans (Nat.le_of_ble_eq_true rfl) hRc, Nat.le_trans (Nat.le_of_ble_eq_true rfl) hRs⟩ ⟨Nat.le_of_ble_eq_true rfl, Nat.le_of_ble_eq_true rfl⟩ dX8_turn_11 dX8_turn_14 (Or.inl ⟨dX8_turn_15, dX8_turn_17, dX8_turn_20⟩)

def fX8_timesSeenN (sd : Int32) : Option (Nat × Int32) :=
  if sd = 0 then (some (3, 0)) else ((fX7_timesThereN).bind (fun (r_2 : Int32) => some (0, r_2)))
set_option maxRecDepth 100000 in
set_option maxHeartbeats 4000000 in
theorem mX8_timesSeenN (l : Launch) (hl0 : l.stackTraces = false) (g : GE) (hg st b ca tr sa sk sv mt ml ad kw zc zp : Nat) (sd : Int32) (mv : Int32) (gm : Int32) (w1 : Int32) (w2 : Int32) (dg : Int32) (t1 : Int32) (t2 : Int32) (am : Int32) (kk : Int32) (sg : Int32) (f : Nat → Int32) (r : Nat × Int32) (hyp : fX8_timesSeenN sd = some r) : XM l yX8_timesSeen cX8_timesSeen 1 (some .int) 6 90 1 6 g [(hg, .inr (8, [.ref st, .ref tr, .ref sa, .ref sk, .ref sv, .ref mt, .ref ml, .ref ad, .ref kw])), (st, .inr (7, [.ref b, .int sd, .int mv, .int gm, .null, .int w1, .int w2, .int dg, .int t1, .int t2, .int am])), (b, .inr (1, [.ref ca, .int kk, .int sg])), (ca, .inl (g.2.1, 49, .inl f))] (OZ g zc zp [] none) [.ref hg] r.1 (some (.int r.2)) (fun na => [(hg, .inr (8, [.ref st, .ref tr, .ref sa, .ref sk, .ref sv, .ref mt, .ref ml, .ref ad, .ref kw])), (st, .inr (7, [.ref b, .int sd, .int mv, .int gm, .null, .int w1, .int w2, .int dg, .int t1, .int t2, .int am])), (b, .inr (1, [.ref ca, .int kk, .int sg])), (ca, .inl (g.2.1, 49, .inl f))]) (fun _ => [(hg, .inr (8, [.ref st, .ref tr, .ref sa, .ref sk, .ref sv, .ref mt, .ref ml, .ref ad, .ref kw])), (st, .inr (7, [.ref b, .int sd, .int mv, .int gm, .null, .int w1, .int w2, .int dg, .int t1, .int t2, .int am])), (b, .inr (1, [.ref ca, .int kk, .int sg])), (ca, .inl (g.2.1, 49, .inl f))]) := by
  refine metX_intro (by decide) rfl ?_
  intro p e R s m args below meth c Q A hRf hRl hRc hRs hQ hx hb hml hr hlocks hex hown hts hin hE hSR hA hO H locs hP hD hS ls hl
  have hown : s.vm.findClass "HallGuards" = some m.cls := hown
  have hl : lv_has ls 1 [(0, .ref hg)] := hl
  unfold fX8_timesSeenN at hyp
  refine lv_aload_n hx hb dX8_timesSeen_0 rfl (lv_at hl 0 rfl) ?_
  refine gf_X8_12 hx hb hts hown hE hP 0 rfl rfl dX8_timesSeen_1 ?_
  refine gf_X8_93 hx hb hts hown hE hP 1 rfl rfl dX8_timesSeen_4 ?_
  refine lv_if_ne (tgt := 20) hx hb dX8_timesSeen_7 (by decide) (fun h_1 => ?_) (fun h_1 => ?_)
  · replace hyp := ite_f h_1 hyp
    refine lv_aload_n hx hb dX8_timesSeen_20 rfl (lv_at hl 0 rfl) ?_
    refine gf_X8_12 hx hb hts hown hE hP 0 rfl rfl dX8_timesSeen_21 ?_
    obtain ⟨r_2, hr_2, hyp⟩ := opt_e hyp
    refine pV (As := []) (rest := []) ⟨hx, hb, hml, hown, hts⟩ hE (mX7_timesThereN l g st b sd mv gm w1 w2 dg t1 t2 am r_2 hr_2) cf_X7_timesThere im_X7_timesThere se_X7_timesThere ml_X8_219 ⟨Nat.le_trans (Nat.le_of_ble_eq_true rfl) hRf, Nat.le_trans (Nat.le_of_ble_eq_true rfl) hRl⟩ (hP.sub (ws' := [(st, .inr (7, [.ref b, .int sd, .int mv, .int gm, .null, .int w1, .int w2, .int dg, .int t1, .int t2, .int am]))]) [1] rfl) (ci := 7) (q0 := 0) rfl rfl rfl rfl hl.1 rfl (Nat.le_of_ble_eq_true rfl) dX8_timesSeen_24 ⟨Nat.le_trans (Nat.le_of_ble_eq_true rfl) hRc, Nat.le_trans (Nat.le_of_ble_eq_true rfl) hRs⟩ ?_
    have hyp := some_e hyp
    subst hyp
    subst hQ
    exact xrI (na := s.heap.size) hx hb hr hlocks (Nat.le_refl _) hP hD hS (Nat.le_of_ble_eq_true rfl) (Nat.le_of_ble_eq_true rfl) dX8_timesSeen_27
  · replace hyp := ite_t h_1 hyp
    have hyp := some_e hyp
    subst hyp
    subst hQ
    exact xthr (q := (217, "no game was begun")) (cls := "java/lang/IllegalStateException") (by decide) (Nat.succ_ne_zero _) rfl aw3 (by decide) hx hb hl0 hml hlocks hex hown hts hSR hO.2.1 (Nat.le_refl _) hP hD hS hl.1 (Nat.le_of_ble_eq_true rfl) ⟨Nat.le_trans (Nat.le_of_ble_eq_true rfl) hRf, Nat.le_trans (Nat.le_of_ble_eq_true rfl) hRl⟩ ⟨Nat.le_trans (Nat.le_of_ble_eq_true rfl) hRc, Nat.le_trans (Nat.le_of_ble_eq_true rfl) hRs⟩ ⟨Nat.le_of_ble_eq_true rfl, Nat.le_of_ble_eq_true rfl⟩ dX8_timesSeen_10 dX8_timesSeen_13 (Or.inl ⟨dX8_timesSeen_14, dX8_timesSeen_16, dX8_timesSeen_19⟩)

def fX8_timesSeenS (sd : Int32) (cx : PC) : Option (Nat × Int32) :=
  if sd = 0 then (some (3, 0)) else ((fX7_timesThereS cx).bind (fun (r_2 : Int32) => some (0, r_2)))
set_option maxRecDepth 100000 in
set_option maxHeartbeats 4000000 in
theorem mX8_timesSeenS (l : Launch) (hl0 : l.stackTraces = false) (g : GE) (hg st b ca tr sa sk sv mt ml ad kw la zc zp : Nat) (sd : Int32) (mv : Int32) (gm : Int32) (w1 : Int32) (w2 : Int32) (dg : Int32) (t1 : Int32) (t2 : Int32) (am : Int32) (kk : Int32) (sg : Int32) (f : Nat → Int32) (cx : PC) (ct : List PC) (r : Nat × Int32) (hyp : fX8_timesSeenS sd cx = some r) : XM l yX8_timesSeen cX8_timesSeen 1 (some .int) 6 90 1 6 g [(hg, .inr (8, [.ref st, .ref tr, .ref sa, .ref sk, .ref sv, .ref mt, .ref ml, .ref ad, .ref kw])), (st, .inr (7, [.ref b, .int sd, .int mv, .int gm, .ref la, .int w1, .int w2, .int dg, .int t1, .int t2, .int am])), (b, .inr (1, [.ref ca, .int kk, .int sg])), (ca, .inl (g.2.1, 49, .inl f))] (OZ g zc zp (cx :: ct) (some la)) [.ref hg] r.1 (some (.int r.2)) (fun na => [(hg, .inr (8, [.ref st, .ref tr, .ref sa, .ref sk, .ref sv, .ref mt, .ref ml, .ref ad, .ref kw])), (st, .inr (7, [.ref b, .int sd, .int mv, .int gm, .ref la, .int w1, .int w2, .int dg, .int t1, .int t2, .int am])), (b, .inr (1, [.ref ca, .int kk, .int sg])), (ca, .inl (g.2.1, 49, .inl f))]) (fun _ => [(hg, .inr (8, [.ref st, .ref tr, .ref sa, .ref sk, .ref sv, .ref mt, .ref ml, .ref ad, .ref kw])), (st, .inr (7, [.ref b, .int sd, .int mv, .int gm, .ref la, .int w1, .int w2, .int dg, .int t1, .int t2, .int am])), (b, .inr (1, [.ref ca, .int kk, .int sg])), (ca, .inl (g.2.1, 49, .inl f))]) := by
  refine metX_intro (by decide) rfl ?_
  intro p e R s m args below meth c Q A hRf hRl hRc hRs hQ hx hb hml hr hlocks hex hown hts hin hE hSR hA hO H locs hP hD hS ls hl
  obtain ⟨eb, hC⟩ := OC_head hO.2.2
  have hown : s.vm.findClass "HallGuards" = some m.cls := hown
  have hl : lv_has ls 1 [(0, .ref hg)] := hl
  unfold fX8_timesSeenS at hyp
  refine lv_aload_n hx hb dX8_timesSeen_0 rfl (lv_at hl 0 rfl) ?_
  refine gf_X8_12 hx hb hts hown hE hP 0 rfl rfl dX8_timesSeen_1 ?_
  refine gf_X8_93 hx hb hts hown hE hP 1 rfl rfl dX8_timesSeen_4 ?_
  refine lv_if_ne (tgt := 20) hx hb dX8_timesSeen_7 (by decide) (fun h_1 => ?_) (fun h_1 => ?_)
  · replace hyp := ite_f h_1 hyp
    refine lv_aload_n hx hb dX8_timesSeen_20 rfl (lv_at hl 0 rfl) ?_
    refine gf_X8_12 hx hb hts hown hE hP 0 rfl rfl dX8_timesSeen_21 ?_
    obtain ⟨r_2, hr_2, hyp⟩ := opt_e hyp
    refine wVO (As := []) (rest := []) ⟨hx, hb, hml, hown, hts⟩ hE (mX7_timesThereS l g st b la sd mv gm w1 w2 dg t1 t2 am cx ct r_2 hr_2) (OC_ok g _ _) hO.2.2 cf_X7_timesThere im_X7_timesThere se_X7_timesThere ml_X8_219 ⟨Nat.le_trans (Nat.le_of_ble_eq_true rfl) hRf, Nat.le_trans (Nat.le_of_ble_eq_true rfl) hRl⟩ hP hD hS hA [1] [0, 2, 3] rfl (wr := [(hg, .inr (8, [.ref st, .ref tr, .ref sa, .ref sk, .ref sv, .ref mt, .ref ml, .ref ad, .ref kw])), (b, .inr (1, [.ref ca, .int kk, .int sg])), (ca, .inl (g.2.1, 49, .inl f))]) rfl ⟨by decide, by decide⟩ (by decide) (ci := 7) (q0 := 0) rfl rfl rfl rfl hl.1 rfl (Nat.le_of_ble_eq_true rfl) dX8_timesSeen_24 ⟨Nat.le_trans (Nat.le_of_ble_eq_true rfl) hRc, Nat.le_trans (Nat.le_of_ble_eq_true rfl) hRs⟩ (fun H locs hP hD hS => ?_)
    have hP : va_P g.1 vwCl [(hg, .inr (8, [.ref st, .ref tr, .ref sa, .ref sk, .ref sv, .ref mt, .ref ml, .ref ad, .ref kw])), (b, .inr (1, [.ref ca, .int kk, .int sg])), (ca, .inl (g.2.1, 49, .inl f)), (st, .inr (7, [.ref b, .int sd, .int mv, .int gm, .ref la, .int w1, .int w2, .int dg, .int t1, .int t2, .int am]))] H := hP
    have hD : va_D A [(hg, .inr (8, [.ref st, .ref tr, .ref sa, .ref sk, .ref sv, .ref mt, .ref ml, .ref ad, .ref kw])), (b, .inr (1, [.ref ca, .int kk, .int sg])), (ca, .inl (g.2.1, 49, .inl f)), (st, .inr (7, [.ref b, .int sd, .int mv, .int gm, .ref la, .int w1, .int w2, .int dg, .int t1, .int t2, .int am]))] := hD
    have hP : va_P g.1 vwCl [(hg, .inr (8, [.ref st, .ref tr, .ref sa, .ref sk, .ref sv, .ref mt, .ref ml, .ref ad, .ref kw])), (st, .inr (7, [.ref b, .int sd, .int mv, .int gm, .ref la, .int w1, .int w2, .int dg, .int t1, .int t2, .int am])), (b, .inr (1, [.ref ca, .int kk, .int sg])), (ca, .inl (g.2.1, 49, .inl f))] H := hP.sub [0, 3, 1, 2] rfl
    have hD : va_D A [(hg, .inr (8, [.ref st, .ref tr, .ref sa, .ref sk, .ref sv, .ref mt, .ref ml, .ref ad, .ref kw])), (st, .inr (7, [.ref b, .int sd, .int mv, .int gm, .ref la, .int w1, .int w2, .int dg, .int t1, .int t2, .int am])), (b, .inr (1, [.ref ca, .int kk, .int sg])), (ca, .inl (g.2.1, 49, .inl f))] := hD.sub [0, 3, 1, 2] (by decide) rfl
    have hyp := some_e hyp
    subst hyp
    subst hQ
    exact xrI (na := s.heap.size) hx hb hr hlocks (Nat.le_refl _) hP hD hS (Nat.le_of_ble_eq_true rfl) (Nat.le_of_ble_eq_true rfl) dX8_timesSeen_27
  · replace hyp := ite_t h_1 hyp
    have hyp := some_e hyp
    subst hyp
    subst hQ
    exact xthr (q := (217, "no game was begun")) (cls := "java/lang/IllegalStateException") (by decide) (Nat.succ_ne_zero _) rfl aw3 (by decide) hx hb hl0 hml hlocks hex hown hts hSR hO.2.1 (Nat.le_refl _) hP hD hS hl.1 (Nat.le_of_ble_eq_true rfl) ⟨Nat.le_trans (Nat.le_of_ble_eq_true rfl) hRf, Nat.le_trans (Nat.le_of_ble_eq_true rfl) hRl⟩ ⟨Nat.le_trans (Nat.le_of_ble_eq_true rfl) hRc, Nat.le_trans (Nat.le_of_ble_eq_true rfl) hRs⟩ ⟨Nat.le_of_ble_eq_true rfl, Nat.le_of_ble_eq_true rfl⟩ dX8_timesSeen_10 dX8_timesSeen_13 (Or.inl ⟨dX8_timesSeen_14, dX8_timesSeen_16, dX8_timesSeen_19⟩)

def fX8_canMove (f : Nat → Int32) (a1 : Int32) (a2 : Int32) : Option (Nat × Int32) :=
  (fX8_needSquares a1 a2).bind (fun (r_1 : Nat) => if r_1 = 0 then ((fX1_obstacle f a1 a2).bind (fun (r_3 : Int32) => if r_3 = 0 then (some (0, 1)) else (some (0, 0)))) else (some (r_1, 0)))
set_option maxRecDepth 100000 in
set_option maxHeartbeats 4000000 in
theorem mX8_canMove (l : Launch) (hl0 : l.stackTraces = false) (g : GE) (hg st b ca tr sa sk sv mt ml ad kw zc zp : Nat) (sd : Int32) (mv : Int32) (gm : Int32) (lt : Option Nat) (w1 : Int32) (w2 : Int32) (dg : Int32) (t1 : Int32) (t2 : Int32) (am : Int32) (kk : Int32) (sg : Int32) (f : Nat → Int32) (a1 : Int32) (a2 : Int32) (r : Nat × Int32) (hyp : fX8_canMove f a1 a2 = some r) : XM l yX8_canMove cX8_canMove 3 (some .boolean) 7 111 1 6 g [(hg, .inr (8, [.ref st, .ref tr, .ref sa, .ref sk, .ref sv, .ref mt, .ref ml, .ref ad, .ref kw])), (st, .inr (7, [.ref b, .int sd, .int mv, .int gm, va_rf lt, .int w1, .int w2, .int dg, .int t1, .int t2, .int am])), (b, .inr (1, [.ref ca, .int kk, .int sg])), (ca, .inl (g.2.1, 49, .inl f))] (OZ g zc zp [] none) [.ref hg, .int a1, .int a2] r.1 (some (.int r.2)) (fun na => [(hg, .inr (8, [.ref st, .ref tr, .ref sa, .ref sk, .ref sv, .ref mt, .ref ml, .ref ad, .ref kw])), (st, .inr (7, [.ref b, .int sd, .int mv, .int gm, va_rf lt, .int w1, .int w2, .int dg, .int t1, .int t2, .int am])), (b, .inr (1, [.ref ca, .int kk, .int sg])), (ca, .inl (g.2.1, 49, .inl f))]) (fun _ => [(hg, .inr (8, [.ref st, .ref tr, .ref sa, .ref sk, .ref sv, .ref mt, .ref ml, .ref ad, .ref kw])), (st, .inr (7, [.ref b, .int sd, .int mv, .int gm, va_rf lt, .int w1, .int w2, .int dg, .int t1, .int t2, .int am])), (b, .inr (1, [.ref ca, .int kk, .int sg])), (ca, .inl (g.2.1, 49, .inl f))]) := by
  refine metX_intro (by decide) rfl ?_
  intro p e R s m args below meth c Q A hRf hRl hRc hRs hQ hx hb hml hr hlocks hex hown hts hin hE hSR hA hO H locs hP hD hS ls hl
  have hown : s.vm.findClass "HallGuards" = some m.cls := hown
  have hl : lv_has ls 3 [(0, .ref hg), (1, .int a1), (2, .int a2)] := hl
  unfold fX8_canMove at hyp
  refine lv_iload_n hx hb dX8_canMove_0 rfl (lv_at hl 1 rfl) ?_
  refine lv_iload_n hx hb dX8_canMove_1 rfl (lv_at hl 2 rfl) ?_
  obtain ⟨r_1, hr_1, hyp⟩ := opt_e hyp
  refine xS (As := [.int a1, .int a2]) (rest := []) ⟨hx, hb, hml, hown, hts⟩ hE hSR (mX8_needSquares l hl0 g zc zp a1 a2 r_1 hr_1) (OZ_ok g zc zp _ _) hO cf_X8_needSquares st_X8_needSquares ml_X8_136 ⟨Nat.le_trans (Nat.le_of_ble_eq_true rfl) hRf, Nat.le_trans (Nat.le_of_ble_eq_true rfl) hRl⟩ hP hD hS hA [] [0, 1, 2, 3] rfl (wr := [(hg, .inr (8, [.ref st, .ref tr, .ref sa, .ref sk, .ref sv, .ref mt, .ref ml, .ref ad, .ref kw])), (st, .inr (7, [.ref b, .int sd, .int mv, .int gm, va_rf lt, .int w1, .int w2, .int dg, .int t1, .int t2, .int am])), (b, .inr (1, [.ref ca, .int kk, .int sg])), (ca, .inl (g.2.1, 49, .inl f))]) rfl ⟨by decide, by decide⟩ (by decide) rfl hl.1 rfl (Nat.le_of_ble_eq_true rfl) dX8_canMove_2 ⟨Nat.le_trans (Nat.le_of_ble_eq_true rfl) hRc, Nat.le_trans (Nat.le_of_ble_eq_true rfl) hRs⟩ (fun hk0 na_2 H locs hna_2 hP hD hS => ?_) (fun hk0 na9 q9 ce9 H locs hna9 hP hD hS hce hcv hcl => ?_)
  rotate_left 1
  · replace hyp := ite_f hk0 hyp
    have hP : va_P g.1 vwCl [(hg, .inr (8, [.ref st, .ref tr, .ref sa, .ref sk, .ref sv, .ref mt, .ref ml, .ref ad, .ref kw])), (st, .inr (7, [.ref b, .int sd, .int mv, .int gm, va_rf lt, .int w1, .int w2, .int dg, .int t1, .int t2, .int am])), (b, .inr (1, [.ref ca, .int kk, .int sg])), (ca, .inl (g.2.1, 49, .inl f))] H := hP
    have hD : va_D A [(hg, .inr (8, [.ref st, .ref tr, .ref sa, .ref sk, .ref sv, .ref mt, .ref ml, .ref ad, .ref kw])), (st, .inr (7, [.ref b, .int sd, .int mv, .int gm, va_rf lt, .int w1, .int w2, .int dg, .int t1, .int t2, .int am])), (b, .inr (1, [.ref ca, .int kk, .int sg])), (ca, .inl (g.2.1, 49, .inl f))] := hD
    have hyp := some_e hyp
    subst hyp
    subst hQ
    exact xOut hex hlocks hk0 (Nat.le_refl _) hP hD hS hce hcv hcl (Nat.le_of_ble_eq_true rfl) (Nat.le_of_ble_eq_true rfl)
  replace hyp := ite_t hk0 hyp
  have hP : va_P g.1 vwCl [(hg, .inr (8, [.ref st, .ref tr, .ref sa, .ref sk, .ref sv, .ref mt, .ref ml, .ref ad, .ref kw])), (st, .inr (7, [.ref b, .int sd, .int mv, .int gm, va_rf lt, .int w1, .int w2, .int dg, .int t1, .int t2, .int am])), (b, .inr (1, [.ref ca, .int kk, .int sg])), (ca, .inl (g.2.1, 49, .inl f))] H := hP
  have hD : va_D A [(hg, .inr (8, [.ref st, .ref tr, .ref sa, .ref sk, .ref sv, .ref mt, .ref ml, .ref ad, .ref kw])), (st, .inr (7, [.ref b, .int sd, .int mv, .int gm, va_rf lt, .int w1, .int w2, .int dg, .int t1, .int t2, .int am])), (b, .inr (1, [.ref ca, .int kk, .int sg])), (ca, .inl (g.2.1, 49, .inl f))] := hD
  refine lv_aload_n hx hb dX8_canMove_5 rfl (lv_at hl 0 rfl) ?_
  refine gf_X8_12 hx hb hts hown hE hP 0 rfl rfl dX8_canMove_6 ?_
  refine gf_X8_69 hx hb hts hown hE hP 1 rfl rfl dX8_canMove_9 ?_
  refine lv_iload_n hx hb dX8_canMove_12 rfl (lv_at hl 1 rfl) ?_
  refine lv_iload_n hx hb dX8_canMove_13 rfl (lv_at hl 2 rfl) ?_
  obtain ⟨r_3, hr_3, hyp⟩ := opt_e hyp
  refine pV (As := [.int a1, .int a2]) (rest := []) ⟨hx, hb, hml, hown, hts⟩ hE (mX1_obstacle l g b ca kk sg f a1 a2 r_3 hr_3) cf_X1_obstacle im_X1_obstacle se_X1_obstacle ml_X8_222 ⟨Nat.le_trans (Nat.le_of_ble_eq_true rfl) hRf, Nat.le_trans (Nat.le_of_ble_eq_true rfl) hRl⟩ (hP.sub (ws' := [(b, .inr (1, [.ref ca, .int kk, .int sg])), (ca, .inl (g.2.1, 49, .inl f))]) [2, 3] rfl) (ci := 1) (q0 := 0) rfl rfl rfl rfl hl.1 rfl (Nat.le_of_ble_eq_true rfl) dX8_canMove_14 ⟨Nat.le_trans (Nat.le_of_ble_eq_true rfl) hRc, Nat.le_trans (Nat.le_of_ble_eq_true rfl) hRs⟩ ?_
  refine lv_if_ne (tgt := 24) hx hb dX8_canMove_17 (by decide) (fun h_4 => ?_) (fun h_4 => ?_)
  · replace hyp := ite_f h_4 hyp
    refine lv_iconst (v := 0) hx hb dX8_canMove_24 (by decide) ?_
    have hyp := some_e hyp
    subst hyp
    subst hQ
    exact xrZ (na := s.heap.size) hx hb hr hlocks (Or.inl rfl) (Nat.le_refl _) hP hD hS (Nat.le_of_ble_eq_true rfl) (Nat.le_of_ble_eq_true rfl) dX8_canMove_25
  · replace hyp := ite_t h_4 hyp
    refine lv_iconst (v := 1) hx hb dX8_canMove_20 (by decide) ?_
    refine lv_goto (tgt := 25) hx hb dX8_canMove_21 (by decide) ?_
    have hyp := some_e hyp
    subst hyp
    subst hQ
    exact xrZ (na := s.heap.size) hx hb hr hlocks (Or.inr rfl) (Nat.le_refl _) hP hD hS (Nat.le_of_ble_eq_true rfl) (Nat.le_of_ble_eq_true rfl) dX8_canMove_25

def fX8_reasonAgainst (f : Nat → Int32) (a1 : Int32) (a2 : Int32) : Option (Nat × Int32) :=
  (fX8_needSquares a1 a2).bind (fun (r_1 : Nat) => if r_1 = 0 then ((fX1_obstacle f a1 a2).bind (fun (r_3 : Int32) => some (0, r_3))) else (some (r_1, 0)))
set_option maxRecDepth 100000 in
set_option maxHeartbeats 4000000 in
theorem mX8_reasonAgainst (l : Launch) (hl0 : l.stackTraces = false) (g : GE) (hg st b ca tr sa sk sv mt ml ad kw zc zp : Nat) (sd : Int32) (mv : Int32) (gm : Int32) (lt : Option Nat) (w1 : Int32) (w2 : Int32) (dg : Int32) (t1 : Int32) (t2 : Int32) (am : Int32) (kk : Int32) (sg : Int32) (f : Nat → Int32) (a1 : Int32) (a2 : Int32) (r : Nat × Int32) (hyp : fX8_reasonAgainst f a1 a2 = some r) : XM l yX8_reasonAgainst cX8_reasonAgainst 3 (some .int) 7 111 1 6 g [(hg, .inr (8, [.ref st, .ref tr, .ref sa, .ref sk, .ref sv, .ref mt, .ref ml, .ref ad, .ref kw])), (st, .inr (7, [.ref b, .int sd, .int mv, .int gm, va_rf lt, .int w1, .int w2, .int dg, .int t1, .int t2, .int am])), (b, .inr (1, [.ref ca, .int kk, .int sg])), (ca, .inl (g.2.1, 49, .inl f))] (OZ g zc zp [] none) [.ref hg, .int a1, .int a2] r.1 (some (.int r.2)) (fun na => [(hg, .inr (8, [.ref st, .ref tr, .ref sa, .ref sk, .ref sv, .ref mt, .ref ml, .ref ad, .ref kw])), (st, .inr (7, [.ref b, .int sd, .int mv, .int gm, va_rf lt, .int w1, .int w2, .int dg, .int t1, .int t2, .int am])), (b, .inr (1, [.ref ca, .int kk, .int sg])), (ca, .inl (g.2.1, 49, .inl f))]) (fun _ => [(hg, .inr (8, [.ref st, .ref tr, .ref sa, .ref sk, .ref sv, .ref mt, .ref ml, .ref ad, .ref kw])), (st, .inr (7, [.ref b, .int sd, .int mv, .int gm, va_rf lt, .int w1, .int w2, .int dg, .int t1, .int t2, .int am])), (b, .inr (1, [.ref ca, .int kk, .int sg])), (ca, .inl (g.2.1, 49, .inl f))]) := by
  refine metX_intro (by decide) rfl ?_
  intro p e R s m args below meth c Q A hRf hRl hRc hRs hQ hx hb hml hr hlocks hex hown hts hin hE hSR hA hO H locs hP hD hS ls hl
  have hown : s.vm.findClass "HallGuards" = some m.cls := hown
  have hl : lv_has ls 3 [(0, .ref hg), (1, .int a1), (2, .int a2)] := hl
  unfold fX8_reasonAgainst at hyp
  refine lv_iload_n hx hb dX8_reasonAgainst_0 rfl (lv_at hl 1 rfl) ?_
  refine lv_iload_n hx hb dX8_reasonAgainst_1 rfl (lv_at hl 2 rfl) ?_
  obtain ⟨r_1, hr_1, hyp⟩ := opt_e hyp
  refine xS (As := [.int a1, .int a2]) (rest := []) ⟨hx, hb, hml, hown, hts⟩ hE hSR (mX8_needSquares l hl0 g zc zp a1 a2 r_1 hr_1) (OZ_ok g zc zp _ _) hO cf_X8_needSquares st_X8_needSquares ml_X8_136 ⟨Nat.le_trans (Nat.le_of_ble_eq_true rfl) hRf, Nat.le_trans (Nat.le_of_ble_eq_true rfl) hRl⟩ hP hD hS hA [] [0, 1, 2, 3] rfl (wr := [(hg, .inr (8, [.ref st, .ref tr, .ref sa, .ref sk, .ref sv, .ref mt, .ref ml, .ref ad, .ref kw])), (st, .inr (7, [.ref b, .int sd, .int mv, .int gm, va_rf lt, .int w1, .int w2, .int dg, .int t1, .int t2, .int am])), (b, .inr (1, [.ref ca, .int kk, .int sg])), (ca, .inl (g.2.1, 49, .inl f))]) rfl ⟨by decide, by decide⟩ (by decide) rfl hl.1 rfl (Nat.le_of_ble_eq_true rfl) dX8_reasonAgainst_2 ⟨Nat.le_trans (Nat.le_of_ble_eq_true rfl) hRc, Nat.le_trans (Nat.le_of_ble_eq_true rfl) hRs⟩ (fun hk0 na_2 H locs hna_2 hP hD hS => ?_) (fun hk0 na9 q9 ce9 H locs hna9 hP hD hS hce hcv hcl => ?_)
  rotate_left 1
  · replace hyp := ite_f hk0 hyp
    have hP : va_P g.1 vwCl [(hg, .inr (8, [.ref st, .ref tr, .ref sa, .ref sk, .ref sv, .ref mt, .ref ml, .ref ad, .ref kw])), (st, .inr (7, [.ref b, .int sd, .int mv, .int gm, va_rf lt, .int w1, .int w2, .int dg, .int t1, .int t2, .int am])), (b, .inr (1, [.ref ca, .int kk, .int sg])), (ca, .inl (g.2.1, 49, .inl f))] H := hP
    have hD : va_D A [(hg, .inr (8, [.ref st, .ref tr, .ref sa, .ref sk, .ref sv, .ref mt, .ref ml, .ref ad, .ref kw])), (st, .inr (7, [.ref b, .int sd, .int mv, .int gm, va_rf lt, .int w1, .int w2, .int dg, .int t1, .int t2, .int am])), (b, .inr (1, [.ref ca, .int kk, .int sg])), (ca, .inl (g.2.1, 49, .inl f))] := hD
    have hyp := some_e hyp
    subst hyp
    subst hQ
    exact xOut hex hlocks hk0 (Nat.le_refl _) hP hD hS hce hcv hcl (Nat.le_of_ble_eq_true rfl) (Nat.le_of_ble_eq_true rfl)
  replace hyp := ite_t hk0 hyp
  have hP : va_P g.1 vwCl [(hg, .inr (8, [.ref st, .ref tr, .ref sa, .ref sk, .ref sv, .ref mt, .ref ml, .ref ad, .ref kw])), (st, .inr (7, [.ref b, .int sd, .int mv, .int gm, va_rf lt, .int w1, .int w2, .int dg, .int t1, .int t2, .int am])), (b, .inr (1, [.ref ca, .int kk, .int sg])), (ca, .inl (g.2.1, 49, .inl f))] H := hP
  have hD : va_D A [(hg, .inr (8, [.ref st, .ref tr, .ref sa, .ref sk, .ref sv, .ref mt, .ref ml, .ref ad, .ref kw])), (st, .inr (7, [.ref b, .int sd, .int mv, .int gm, va_rf lt, .int w1, .int w2, .int dg, .int t1, .int t2, .int am])), (b, .inr (1, [.ref ca, .int kk, .int sg])), (ca, .inl (g.2.1, 49, .inl f))] := hD
  refine lv_aload_n hx hb dX8_reasonAgainst_5 rfl (lv_at hl 0 rfl) ?_
  refine gf_X8_12 hx hb hts hown hE hP 0 rfl rfl dX8_reasonAgainst_6 ?_
  refine gf_X8_69 hx hb hts hown hE hP 1 rfl rfl dX8_reasonAgainst_9 ?_
  refine lv_iload_n hx hb dX8_reasonAgainst_12 rfl (lv_at hl 1 rfl) ?_
  refine lv_iload_n hx hb dX8_reasonAgainst_13 rfl (lv_at hl 2 rfl) ?_
  obtain ⟨r_3, hr_3, hyp⟩ := opt_e hyp
  refine pV (As := [.int a1, .int a2]) (rest := []) ⟨hx, hb, hml, hown, hts⟩ hE (mX1_obstacle l g b ca kk sg f a1 a2 r_3 hr_3) cf_X1_obstacle im_X1_obstacle se_X1_obstacle ml_X8_222 ⟨Nat.le_trans (Nat.le_of_ble_eq_true rfl) hRf, Nat.le_trans (Nat.le_of_ble_eq_true rfl) hRl⟩ (hP.sub (ws' := [(b, .inr (1, [.ref ca, .int kk, .int sg])), (ca, .inl (g.2.1, 49, .inl f))]) [2, 3] rfl) (ci := 1) (q0 := 0) rfl rfl rfl rfl hl.1 rfl (Nat.le_of_ble_eq_true rfl) dX8_reasonAgainst_14 ⟨Nat.le_trans (Nat.le_of_ble_eq_true rfl) hRc, Nat.le_trans (Nat.le_of_ble_eq_true rfl) hRs⟩ ?_
  have hyp := some_e hyp
  subst hyp
  subst hQ
  exact xrI (na := s.heap.size) hx hb hr hlocks (Nat.le_refl _) hP hD hS (Nat.le_of_ble_eq_true rfl) (Nat.le_of_ble_eq_true rfl) dX8_reasonAgainst_17

def fX8_movesFrom (f : Nat → Int32) (a1 : Int32) (a2 : Int32) : Option (Nat × Int32) :=
  (fX8_needSquare a1 a2).bind (fun (r_1 : Nat) => if r_1 = 0 then ((fX1_countFrom f ((7 * a1) + a2)).bind (fun (r_3 : Int32) => some (0, r_3))) else (some (r_1, 0)))
set_option maxRecDepth 100000 in
set_option maxHeartbeats 4000000 in
theorem mX8_movesFrom (l : Launch) (hl0 : l.stackTraces = false) (g : GE) (hg st b ca tr sa sk sv mt ml ad kw zc zp : Nat) (sd : Int32) (mv : Int32) (gm : Int32) (lt : Option Nat) (w1 : Int32) (w2 : Int32) (dg : Int32) (t1 : Int32) (t2 : Int32) (am : Int32) (kk : Int32) (sg : Int32) (f : Nat → Int32) (a1 : Int32) (a2 : Int32) (r : Nat × Int32) (hyp : fX8_movesFrom f a1 a2 = some r) : XM l yX8_movesFrom cX8_movesFrom 3 (some .int) 7 111 1 6 g [(hg, .inr (8, [.ref st, .ref tr, .ref sa, .ref sk, .ref sv, .ref mt, .ref ml, .ref ad, .ref kw])), (st, .inr (7, [.ref b, .int sd, .int mv, .int gm, va_rf lt, .int w1, .int w2, .int dg, .int t1, .int t2, .int am])), (b, .inr (1, [.ref ca, .int kk, .int sg])), (ca, .inl (g.2.1, 49, .inl f))] (OZ g zc zp [] none) [.ref hg, .int a1, .int a2] r.1 (some (.int r.2)) (fun na => [(hg, .inr (8, [.ref st, .ref tr, .ref sa, .ref sk, .ref sv, .ref mt, .ref ml, .ref ad, .ref kw])), (st, .inr (7, [.ref b, .int sd, .int mv, .int gm, va_rf lt, .int w1, .int w2, .int dg, .int t1, .int t2, .int am])), (b, .inr (1, [.ref ca, .int kk, .int sg])), (ca, .inl (g.2.1, 49, .inl f))]) (fun _ => [(hg, .inr (8, [.ref st, .ref tr, .ref sa, .ref sk, .ref sv, .ref mt, .ref ml, .ref ad, .ref kw])), (st, .inr (7, [.ref b, .int sd, .int mv, .int gm, va_rf lt, .int w1, .int w2, .int dg, .int t1, .int t2, .int am])), (b, .inr (1, [.ref ca, .int kk, .int sg])), (ca, .inl (g.2.1, 49, .inl f))]) := by
  refine metX_intro (by decide) rfl ?_
  intro p e R s m args below meth c Q A hRf hRl hRc hRs hQ hx hb hml hr hlocks hex hown hts hin hE hSR hA hO H locs hP hD hS ls hl
  have hown : s.vm.findClass "HallGuards" = some m.cls := hown
  have hl : lv_has ls 3 [(0, .ref hg), (1, .int a1), (2, .int a2)] := hl
  unfold fX8_movesFrom at hyp
  refine lv_iload_n hx hb dX8_movesFrom_0 rfl (lv_at hl 1 rfl) ?_
  refine lv_iload_n hx hb dX8_movesFrom_1 rfl (lv_at hl 2 rfl) ?_
  obtain ⟨r_1, hr_1, hyp⟩ := opt_e hyp
  refine xS (As := [.int a1, .int a2]) (rest := []) ⟨hx, hb, hml, hown, hts⟩ hE hSR (mX8_needSquare l hl0 g zc zp a1 a2 r_1 hr_1) (OZ_ok g zc zp _ _) hO cf_X8_needSquare st_X8_needSquare ml_X8_82 ⟨Nat.le_trans (Nat.le_of_ble_eq_true rfl) hRf, Nat.le_trans (Nat.le_of_ble_eq_true rfl) hRl⟩ hP hD hS hA [] [0, 1, 2, 3] rfl (wr := [(hg, .inr (8, [.ref st, .ref tr, .ref sa, .ref sk, .ref sv, .ref mt, .ref ml, .ref ad, .ref kw])), (st, .inr (7, [.ref b, .int sd, .int mv, .int gm, va_rf lt, .int w1, .int w2, .int dg, .int t1, .int t2, .int am])), (b, .inr (1, [.ref ca, .int kk, .int sg])), (ca, .inl (g.2.1, 49, .inl f))]) rfl ⟨by decide, by decide⟩ (by decide) rfl hl.1 rfl (Nat.le_of_ble_eq_true rfl) dX8_movesFrom_2 ⟨Nat.le_trans (Nat.le_of_ble_eq_true rfl) hRc, Nat.le_trans (Nat.le_of_ble_eq_true rfl) hRs⟩ (fun hk0 na_2 H locs hna_2 hP hD hS => ?_) (fun hk0 na9 q9 ce9 H locs hna9 hP hD hS hce hcv hcl => ?_)
  rotate_left 1
  · replace hyp := ite_f hk0 hyp
    have hP : va_P g.1 vwCl [(hg, .inr (8, [.ref st, .ref tr, .ref sa, .ref sk, .ref sv, .ref mt, .ref ml, .ref ad, .ref kw])), (st, .inr (7, [.ref b, .int sd, .int mv, .int gm, va_rf lt, .int w1, .int w2, .int dg, .int t1, .int t2, .int am])), (b, .inr (1, [.ref ca, .int kk, .int sg])), (ca, .inl (g.2.1, 49, .inl f))] H := hP
    have hD : va_D A [(hg, .inr (8, [.ref st, .ref tr, .ref sa, .ref sk, .ref sv, .ref mt, .ref ml, .ref ad, .ref kw])), (st, .inr (7, [.ref b, .int sd, .int mv, .int gm, va_rf lt, .int w1, .int w2, .int dg, .int t1, .int t2, .int am])), (b, .inr (1, [.ref ca, .int kk, .int sg])), (ca, .inl (g.2.1, 49, .inl f))] := hD
    have hyp := some_e hyp
    subst hyp
    subst hQ
    exact xOut hex hlocks hk0 (Nat.le_refl _) hP hD hS hce hcv hcl (Nat.le_of_ble_eq_true rfl) (Nat.le_of_ble_eq_true rfl)
  replace hyp := ite_t hk0 hyp
  have hP : va_P g.1 vwCl [(hg, .inr (8, [.ref st, .ref tr, .ref sa, .ref sk, .ref sv, .ref mt, .ref ml, .ref ad, .ref kw])), (st, .inr (7, [.ref b, .int sd, .int mv, .int gm, va_rf lt, .int w1, .int w2, .int dg, .int t1, .int t2, .int am])), (b, .inr (1, [.ref ca, .int kk, .int sg])), (ca, .inl (g.2.1, 49, .inl f))] H := hP
  have hD : va_D A [(hg, .inr (8, [.ref st, .ref tr, .ref sa, .ref sk, .ref sv, .ref mt, .ref ml, .ref ad, .ref kw])), (st, .inr (7, [.ref b, .int sd, .int mv, .int gm, va_rf lt, .int w1, .int w2, .int dg, .int t1, .int t2, .int am])), (b, .inr (1, [.ref ca, .int kk, .int sg])), (ca, .inl (g.2.1, 49, .inl f))] := hD
  refine lv_aload_n hx hb dX8_movesFrom_5 rfl (lv_at hl 0 rfl) ?_
  refine gf_X8_12 hx hb hts hown hE hP 0 rfl rfl dX8_movesFrom_6 ?_
  refine gf_X8_69 hx hb hts hown hE hP 1 rfl rfl dX8_movesFrom_9 ?_
  refine lv_bipush (v := 7) hx hb dX8_movesFrom_12 (by decide) ?_
  refine lv_iload_n hx hb dX8_movesFrom_14 rfl (lv_at hl 1 rfl) ?_
  refine lv_imul hx hb dX8_movesFrom_15 ?_
  refine lv_iload_n hx hb dX8_movesFrom_16 rfl (lv_at hl 2 rfl) ?_
  refine lv_iadd hx hb dX8_movesFrom_17 ?_
  obtain ⟨r_3, hr_3, hyp⟩ := opt_e hyp
  refine pV (As := [.int ((7 * a1) + a2)]) (rest := []) ⟨hx, hb, hml, hown, hts⟩ hE (mX1_countFrom l g b ca kk sg f ((7 * a1) + a2) r_3 hr_3) cf_X1_countFrom im_X1_countFrom se_X1_countFrom ml_X8_225 ⟨Nat.le_trans (Nat.le_of_ble_eq_true rfl) hRf, Nat.le_trans (Nat.le_of_ble_eq_true rfl) hRl⟩ (hP.sub (ws' := [(b, .inr (1, [.ref ca, .int kk, .int sg])), (ca, .inl (g.2.1, 49, .inl f))]) [2, 3] rfl) (ci := 1) (q0 := 0) rfl rfl rfl rfl hl.1 rfl (Nat.le_of_ble_eq_true rfl) dX8_movesFrom_18 ⟨Nat.le_trans (Nat.le_of_ble_eq_true rfl) hRc, Nat.le_trans (Nat.le_of_ble_eq_true rfl) hRs⟩ ?_
  have hyp := some_e hyp
  subst hyp
  subst hQ
  exact xrI (na := s.heap.size) hx hb hr hlocks (Nat.le_refl _) hP hD hS (Nat.le_of_ble_eq_true rfl) (Nat.le_of_ble_eq_true rfl) dX8_movesFrom_21

def fX8_movesByPieces (f : Nat → Int32) (a1 : Int32) : Option (Nat × Int32) :=
  (fX8_needSide a1).bind (fun (r_1 : Nat) => if r_1 = 0 then ((fX1_countMoves f a1).bind (fun (r_3 : Int32) => some (0, r_3))) else (some (r_1, 0)))
set_option maxRecDepth 100000 in
set_option maxHeartbeats 4000000 in
theorem mX8_movesByPieces (l : Launch) (hl0 : l.stackTraces = false) (g : GE) (hg st b ca tr sa sk sv mt ml ad kw zc zp : Nat) (sd : Int32) (mv : Int32) (gm : Int32) (lt : Option Nat) (w1 : Int32) (w2 : Int32) (dg : Int32) (t1 : Int32) (t2 : Int32) (am : Int32) (kk : Int32) (sg : Int32) (f : Nat → Int32) (a1 : Int32) (r : Nat × Int32) (hyp : fX8_movesByPieces f a1 = some r) : XM l yX8_movesByPieces cX8_movesByPieces 2 (some .int) 7 110 1 6 g [(hg, .inr (8, [.ref st, .ref tr, .ref sa, .ref sk, .ref sv, .ref mt, .ref ml, .ref ad, .ref kw])), (st, .inr (7, [.ref b, .int sd, .int mv, .int gm, va_rf lt, .int w1, .int w2, .int dg, .int t1, .int t2, .int am])), (b, .inr (1, [.ref ca, .int kk, .int sg])), (ca, .inl (g.2.1, 49, .inl f))] (OZ g zc zp [] none) [.ref hg, .int a1] r.1 (some (.int r.2)) (fun na => [(hg, .inr (8, [.ref st, .ref tr, .ref sa, .ref sk, .ref sv, .ref mt, .ref ml, .ref ad, .ref kw])), (st, .inr (7, [.ref b, .int sd, .int mv, .int gm, va_rf lt, .int w1, .int w2, .int dg, .int t1, .int t2, .int am])), (b, .inr (1, [.ref ca, .int kk, .int sg])), (ca, .inl (g.2.1, 49, .inl f))]) (fun _ => [(hg, .inr (8, [.ref st, .ref tr, .ref sa, .ref sk, .ref sv, .ref mt, .ref ml, .ref ad, .ref kw])), (st, .inr (7, [.ref b, .int sd, .int mv, .int gm, va_rf lt, .int w1, .int w2, .int dg, .int t1, .int t2, .int am])), (b, .inr (1, [.ref ca, .int kk, .int sg])), (ca, .inl (g.2.1, 49, .inl f))]) := by
  refine metX_intro (by decide) rfl ?_
  intro p e R s m args below meth c Q A hRf hRl hRc hRs hQ hx hb hml hr hlocks hex hown hts hin hE hSR hA hO H locs hP hD hS ls hl
  have hown : s.vm.findClass "HallGuards" = some m.cls := hown
  have hl : lv_has ls 2 [(0, .ref hg), (1, .int a1)] := hl
  unfold fX8_movesByPieces at hyp
  refine lv_iload_n hx hb dX8_movesByPieces_0 rfl (lv_at hl 1 rfl) ?_
  obtain ⟨r_1, hr_1, hyp⟩ := opt_e hyp
  refine xS (As := [.int a1]) (rest := []) ⟨hx, hb, hml, hown, hts⟩ hE hSR (mX8_needSide l hl0 g zc zp a1 r_1 hr_1) (OZ_ok g zc zp _ _) hO cf_X8_needSide st_X8_needSide ml_X8_113 ⟨Nat.le_trans (Nat.le_of_ble_eq_true rfl) hRf, Nat.le_trans (Nat.le_of_ble_eq_true rfl) hRl⟩ hP hD hS hA [] [0, 1, 2, 3] rfl (wr := [(hg, .inr (8, [.ref st, .ref tr, .ref sa, .ref sk, .ref sv, .ref mt, .ref ml, .ref ad, .ref kw])), (st, .inr (7, [.ref b, .int sd, .int mv, .int gm, va_rf lt, .int w1, .int w2, .int dg, .int t1, .int t2, .int am])), (b, .inr (1, [.ref ca, .int kk, .int sg])), (ca, .inl (g.2.1, 49, .inl f))]) rfl ⟨by decide, by decide⟩ (by decide) rfl hl.1 rfl (Nat.le_of_ble_eq_true rfl) dX8_movesByPieces_1 ⟨Nat.le_trans (Nat.le_of_ble_eq_true rfl) hRc, Nat.le_trans (Nat.le_of_ble_eq_true rfl) hRs⟩ (fun hk0 na_2 H locs hna_2 hP hD hS => ?_) (fun hk0 na9 q9 ce9 H locs hna9 hP hD hS hce hcv hcl => ?_)
  rotate_left 1
  · replace hyp := ite_f hk0 hyp
    have hP : va_P g.1 vwCl [(hg, .inr (8, [.ref st, .ref tr, .ref sa, .ref sk, .ref sv, .ref mt, .ref ml, .ref ad, .ref kw])), (st, .inr (7, [.ref b, .int sd, .int mv, .int gm, va_rf lt, .int w1, .int w2, .int dg, .int t1, .int t2, .int am])), (b, .inr (1, [.ref ca, .int kk, .int sg])), (ca, .inl (g.2.1, 49, .inl f))] H := hP
    have hD : va_D A [(hg, .inr (8, [.ref st, .ref tr, .ref sa, .ref sk, .ref sv, .ref mt, .ref ml, .ref ad, .ref kw])), (st, .inr (7, [.ref b, .int sd, .int mv, .int gm, va_rf lt, .int w1, .int w2, .int dg, .int t1, .int t2, .int am])), (b, .inr (1, [.ref ca, .int kk, .int sg])), (ca, .inl (g.2.1, 49, .inl f))] := hD
    have hyp := some_e hyp
    subst hyp
    subst hQ
    exact xOut hex hlocks hk0 (Nat.le_refl _) hP hD hS hce hcv hcl (Nat.le_of_ble_eq_true rfl) (Nat.le_of_ble_eq_true rfl)
  replace hyp := ite_t hk0 hyp
  have hP : va_P g.1 vwCl [(hg, .inr (8, [.ref st, .ref tr, .ref sa, .ref sk, .ref sv, .ref mt, .ref ml, .ref ad, .ref kw])), (st, .inr (7, [.ref b, .int sd, .int mv, .int gm, va_rf lt, .int w1, .int w2, .int dg, .int t1, .int t2, .int am])), (b, .inr (1, [.ref ca, .int kk, .int sg])), (ca, .inl (g.2.1, 49, .inl f))] H := hP
  have hD : va_D A [(hg, .inr (8, [.ref st, .ref tr, .ref sa, .ref sk, .ref sv, .ref mt, .ref ml, .ref ad, .ref kw])), (st, .inr (7, [.ref b, .int sd, .int mv, .int gm, va_rf lt, .int w1, .int w2, .int dg, .int t1, .int t2, .int am])), (b, .inr (1, [.ref ca, .int kk, .int sg])), (ca, .inl (g.2.1, 49, .inl f))] := hD
  refine lv_aload_n hx hb dX8_movesByPieces_4 rfl (lv_at hl 0 rfl) ?_
  refine gf_X8_12 hx hb hts hown hE hP 0 rfl rfl dX8_movesByPieces_5 ?_
  refine gf_X8_69 hx hb hts hown hE hP 1 rfl rfl dX8_movesByPieces_8 ?_
  refine lv_iload_n hx hb dX8_movesByPieces_11 rfl (lv_at hl 1 rfl) ?_
  obtain ⟨r_3, hr_3, hyp⟩ := opt_e hyp
  refine pV (As := [.int a1]) (rest := []) ⟨hx, hb, hml, hown, hts⟩ hE (mX1_countMoves l g b ca kk sg f a1 r_3 hr_3) cf_X1_countMoves im_X1_countMoves se_X1_countMoves ml_X8_129 ⟨Nat.le_trans (Nat.le_of_ble_eq_true rfl) hRf, Nat.le_trans (Nat.le_of_ble_eq_true rfl) hRl⟩ (hP.sub (ws' := [(b, .inr (1, [.ref ca, .int kk, .int sg])), (ca, .inl (g.2.1, 49, .inl f))]) [2, 3] rfl) (ci := 1) (q0 := 0) rfl rfl rfl rfl hl.1 rfl (Nat.le_of_ble_eq_true rfl) dX8_movesByPieces_12 ⟨Nat.le_trans (Nat.le_of_ble_eq_true rfl) hRc, Nat.le_trans (Nat.le_of_ble_eq_true rfl) hRs⟩ ?_
  have hyp := some_e hyp
  subst hyp
  subst hQ
  exact xrI (na := s.heap.size) hx hb hr hlocks (Nat.le_refl _) hP hD hS (Nat.le_of_ble_eq_true rfl) (Nat.le_of_ble_eq_true rfl) dX8_movesByPieces_15

def fX8_movesBySquares (f : Nat → Int32) (a1 : Int32) : Option (Nat × Int32) :=
  (fX8_needSide a1).bind (fun (r_1 : Nat) => if r_1 = 0 then ((fX1_countArrivals f a1).bind (fun (r_3 : Int32) => some (0, r_3))) else (some (r_1, 0)))
set_option maxRecDepth 100000 in
set_option maxHeartbeats 4000000 in
theorem mX8_movesBySquares (l : Launch) (hl0 : l.stackTraces = false) (g : GE) (hg st b ca tr sa sk sv mt ml ad kw zc zp : Nat) (sd : Int32) (mv : Int32) (gm : Int32) (lt : Option Nat) (w1 : Int32) (w2 : Int32) (dg : Int32) (t1 : Int32) (t2 : Int32) (am : Int32) (kk : Int32) (sg : Int32) (f : Nat → Int32) (a1 : Int32) (r : Nat × Int32) (hyp : fX8_movesBySquares f a1 = some r) : XM l yX8_movesBySquares cX8_movesBySquares 2 (some .int) 7 110 1 6 g [(hg, .inr (8, [.ref st, .ref tr, .ref sa, .ref sk, .ref sv, .ref mt, .ref ml, .ref ad, .ref kw])), (st, .inr (7, [.ref b, .int sd, .int mv, .int gm, va_rf lt, .int w1, .int w2, .int dg, .int t1, .int t2, .int am])), (b, .inr (1, [.ref ca, .int kk, .int sg])), (ca, .inl (g.2.1, 49, .inl f))] (OZ g zc zp [] none) [.ref hg, .int a1] r.1 (some (.int r.2)) (fun na => [(hg, .inr (8, [.ref st, .ref tr, .ref sa, .ref sk, .ref sv, .ref mt, .ref ml, .ref ad, .ref kw])), (st, .inr (7, [.ref b, .int sd, .int mv, .int gm, va_rf lt, .int w1, .int w2, .int dg, .int t1, .int t2, .int am])), (b, .inr (1, [.ref ca, .int kk, .int sg])), (ca, .inl (g.2.1, 49, .inl f))]) (fun _ => [(hg, .inr (8, [.ref st, .ref tr, .ref sa, .ref sk, .ref sv, .ref mt, .ref ml, .ref ad, .ref kw])), (st, .inr (7, [.ref b, .int sd, .int mv, .int gm, va_rf lt, .int w1, .int w2, .int dg, .int t1, .int t2, .int am])), (b, .inr (1, [.ref ca, .int kk, .int sg])), (ca, .inl (g.2.1, 49, .inl f))]) := by
  refine metX_intro (by decide) rfl ?_
  intro p e R s m args below meth c Q A hRf hRl hRc hRs hQ hx hb hml hr hlocks hex hown hts hin hE hSR hA hO H locs hP hD hS ls hl
  have hown : s.vm.findClass "HallGuards" = some m.cls := hown
  have hl : lv_has ls 2 [(0, .ref hg), (1, .int a1)] := hl
  unfold fX8_movesBySquares at hyp
  refine lv_iload_n hx hb dX8_movesBySquares_0 rfl (lv_at hl 1 rfl) ?_
  obtain ⟨r_1, hr_1, hyp⟩ := opt_e hyp
  refine xS (As := [.int a1]) (rest := []) ⟨hx, hb, hml, hown, hts⟩ hE hSR (mX8_needSide l hl0 g zc zp a1 r_1 hr_1) (OZ_ok g zc zp _ _) hO cf_X8_needSide st_X8_needSide ml_X8_113 ⟨Nat.le_trans (Nat.le_of_ble_eq_true rfl) hRf, Nat.le_trans (Nat.le_of_ble_eq_true rfl) hRl⟩ hP hD hS hA [] [0, 1, 2, 3] rfl (wr := [(hg, .inr (8, [.ref st, .ref tr, .ref sa, .ref sk, .ref sv, .ref mt, .ref ml, .ref ad, .ref kw])), (st, .inr (7, [.ref b, .int sd, .int mv, .int gm, va_rf lt, .int w1, .int w2, .int dg, .int t1, .int t2, .int am])), (b, .inr (1, [.ref ca, .int kk, .int sg])), (ca, .inl (g.2.1, 49, .inl f))]) rfl ⟨by decide, by decide⟩ (by decide) rfl hl.1 rfl (Nat.le_of_ble_eq_true rfl) dX8_movesBySquares_1 ⟨Nat.le_trans (Nat.le_of_ble_eq_true rfl) hRc, Nat.le_trans (Nat.le_of_ble_eq_true rfl) hRs⟩ (fun hk0 na_2 H locs hna_2 hP hD hS => ?_) (fun hk0 na9 q9 ce9 H locs hna9 hP hD hS hce hcv hcl => ?_)
  rotate_left 1
  · replace hyp := ite_f hk0 hyp
    have hP : va_P g.1 vwCl [(hg, .inr (8, [.ref st, .ref tr, .ref sa, .ref sk, .ref sv, .ref mt, .ref ml, .ref ad, .ref kw])), (st, .inr (7, [.ref b, .int sd, .int mv, .int gm, va_rf lt, .int w1, .int w2, .int dg, .int t1, .int t2, .int am])), (b, .inr (1, [.ref ca, .int kk, .int sg])), (ca, .inl (g.2.1, 49, .inl f))] H := hP
    have hD : va_D A [(hg, .inr (8, [.ref st, .ref tr, .ref sa, .ref sk, .ref sv, .ref mt, .ref ml, .ref ad, .ref kw])), (st, .inr (7, [.ref b, .int sd, .int mv, .int gm, va_rf lt, .int w1, .int w2, .int dg, .int t1, .int t2, .int am])), (b, .inr (1, [.ref ca, .int kk, .int sg])), (ca, .inl (g.2.1, 49, .inl f))] := hD
    have hyp := some_e hyp
    subst hyp
    subst hQ
    exact xOut hex hlocks hk0 (Nat.le_refl _) hP hD hS hce hcv hcl (Nat.le_of_ble_eq_true rfl) (Nat.le_of_ble_eq_true rfl)
  replace hyp := ite_t hk0 hyp
  have hP : va_P g.1 vwCl [(hg, .inr (8, [.ref st, .ref tr, .ref sa, .ref sk, .ref sv, .ref mt, .ref ml, .ref ad, .ref kw])), (st, .inr (7, [.ref b, .int sd, .int mv, .int gm, va_rf lt, .int w1, .int w2, .int dg, .int t1, .int t2, .int am])), (b, .inr (1, [.ref ca, .int kk, .int sg])), (ca, .inl (g.2.1, 49, .inl f))] H := hP
  have hD : va_D A [(hg, .inr (8, [.ref st, .ref tr, .ref sa, .ref sk, .ref sv, .ref mt, .ref ml, .ref ad, .ref kw])), (st, .inr (7, [.ref b, .int sd, .int mv, .int gm, va_rf lt, .int w1, .int w2, .int dg, .int t1, .int t2, .int am])), (b, .inr (1, [.ref ca, .int kk, .int sg])), (ca, .inl (g.2.1, 49, .inl f))] := hD
  refine lv_aload_n hx hb dX8_movesBySquares_4 rfl (lv_at hl 0 rfl) ?_
  refine gf_X8_12 hx hb hts hown hE hP 0 rfl rfl dX8_movesBySquares_5 ?_
  refine gf_X8_69 hx hb hts hown hE hP 1 rfl rfl dX8_movesBySquares_8 ?_
  refine lv_iload_n hx hb dX8_movesBySquares_11 rfl (lv_at hl 1 rfl) ?_
  obtain ⟨r_3, hr_3, hyp⟩ := opt_e hyp
  refine pV (As := [.int a1]) (rest := []) ⟨hx, hb, hml, hown, hts⟩ hE (mX1_countArrivals l g b ca kk sg f a1 r_3 hr_3) cf_X1_countArrivals im_X1_countArrivals se_X1_countArrivals ml_X8_228 ⟨Nat.le_trans (Nat.le_of_ble_eq_true rfl) hRf, Nat.le_trans (Nat.le_of_ble_eq_true rfl) hRl⟩ (hP.sub (ws' := [(b, .inr (1, [.ref ca, .int kk, .int sg])), (ca, .inl (g.2.1, 49, .inl f))]) [2, 3] rfl) (ci := 1) (q0 := 0) rfl rfl rfl rfl hl.1 rfl (Nat.le_of_ble_eq_true rfl) dX8_movesBySquares_12 ⟨Nat.le_trans (Nat.le_of_ble_eq_true rfl) hRc, Nat.le_trans (Nat.le_of_ble_eq_true rfl) hRs⟩ ?_
  have hyp := some_e hyp
  subst hyp
  subst hQ
  exact xrI (na := s.heap.size) hx hb hr hlocks (Nat.le_refl _) hP hD hS (Nat.le_of_ble_eq_true rfl) (Nat.le_of_ble_eq_true rfl) dX8_movesBySquares_15

def fX8_wouldTake (kk : Int32) (sg : Int32) (f : Nat → Int32) (bk : Int32) (bs : Int32) (bf : Nat → Int32) (a1 : Int32) (a2 : Int32) : Option (Nat × Int32 × (Nat → Int32) × Int32 × Int32) :=
  (fX8_needPossible f a1 a2).bind (fun (r_1 : Nat) => if r_1 = 0 then ((fX0_takes bf kk sg f a1 a2).bind (fun (r_3 : Int32 × (Nat → Int32) × Int32 × Int32) => some (0, r_3.1, r_3.2.1, r_3.2.2.1, r_3.2.2.2))) else (some (r_1, 0, bf, bk, bs)))
set_option maxRecDepth 100000 in
set_option maxHeartbeats 4000000 in
theorem mX8_wouldTake (l : Launch) (hl0 : l.stackTraces = false) (g : GE) (hg st b ca ad be bc tr sa sk sv mt ml kw rp rl zc zp : Nat) (sd : Int32) (mv : Int32) (gm : Int32) (lt : Option Nat) (w1 : Int32) (w2 : Int32) (dg : Int32) (t1 : Int32) (t2 : Int32) (am : Int32) (kk : Int32) (sg : Int32) (f : Nat → Int32) (bk : Int32) (bs : Int32) (bf : Nat → Int32) (a1 : Int32) (a2 : Int32) (r : Nat × Int32 × (Nat → Int32) × Int32 × Int32) (hyp : fX8_wouldTake kk sg f bk bs bf a1 a2 = some r) : XM l yX8_wouldTake cX8_wouldTake 3 (some .int) 8 133 2 12 g [(hg, .inr (8, [.ref st, .ref tr, .ref sa, .ref sk, .ref sv, .ref mt, .ref ml, .ref ad, .ref kw])), (st, .inr (7, [.ref b, .int sd, .int mv, .int gm, va_rf lt, .int w1, .int w2, .int dg, .int t1, .int t2, .int am])), (b, .inr (1, [.ref ca, .int kk, .int sg])), (ca, .inl (g.2.1, 49, .inl f)), (ad, .inr (0, [.ref be, .ref rp, .ref rl])), (be, .inr (1, [.ref bc, .int bk, .int bs])), (bc, .inl (g.2.1, 49, .inl bf))] (OZ g zc zp [] none) [.ref hg, .int a1, .int a2] r.1 (some (.int r.2.1)) (fun na => [(hg, .inr (8, [.ref st, .ref tr, .ref sa, .ref sk, .ref sv, .ref mt, .ref ml, .ref ad, .ref kw])), (st, .inr (7, [.ref b, .int sd, .int mv, .int gm, va_rf lt, .int w1, .int w2, .int dg, .int t1, .int t2, .int am])), (b, .inr (1, [.ref ca, .int kk, .int sg])), (ca, .inl (g.2.1, 49, .inl f)), (ad, .inr (0, [.ref be, .ref rp, .ref rl])), (be, .inr (1, [.ref bc, .int r.2.2.2.1, .int r.2.2.2.2])), (bc, .inl (g.2.1, 49, .inl r.2.2.1))]) (fun _ => [(hg, .inr (8, [.ref st, .ref tr, .ref sa, .ref sk, .ref sv, .ref mt, .ref ml, .ref ad, .ref kw])), (st, .inr (7, [.ref b, .int sd, .int mv, .int gm, va_rf lt, .int w1, .int w2, .int dg, .int t1, .int t2, .int am])), (b, .inr (1, [.ref ca, .int kk, .int sg])), (ca, .inl (g.2.1, 49, .inl f)), (ad, .inr (0, [.ref be, .ref rp, .ref rl])), (be, .inr (1, [.ref bc, .int r.2.2.2.1, .int r.2.2.2.2])), (bc, .inl (g.2.1, 49, .inl r.2.2.1))]) := by
  refine metX_intro (by decide) rfl ?_
  intro p e R s m args below meth c Q A hRf hRl hRc hRs hQ hx hb hml hr hlocks hex hown hts hin hE hSR hA hO H locs hP hD hS ls hl
  have hown : s.vm.findClass "HallGuards" = some m.cls := hown
  have hl : lv_has ls 3 [(0, .ref hg), (1, .int a1), (2, .int a2)] := hl
  unfold fX8_wouldTake at hyp
  refine lv_aload_n hx hb dX8_wouldTake_0 rfl (lv_at hl 0 rfl) ?_
  refine lv_iload_n hx hb dX8_wouldTake_1 rfl (lv_at hl 1 rfl) ?_
  refine lv_iload_n hx hb dX8_wouldTake_2 rfl (lv_at hl 2 rfl) ?_
  obtain ⟨r_1, hr_1, hyp⟩ := opt_e hyp
  refine xV (As := [.int a1, .int a2]) (rest := []) ⟨hx, hb, hml, hown, hts⟩ hE hSR (mX8_needPossible l hl0 g hg st b ca tr sa sk sv mt ml ad kw zc zp sd mv gm lt w1 w2 dg t1 t2 am kk sg f a1 a2 r_1 hr_1) (OZ_ok g zc zp _ _) hO cf_X8_needPossible im_X8_needPossible se_X8_needPossible ml_X8_231 ⟨Nat.le_trans (Nat.le_of_ble_eq_true rfl) hRf, Nat.le_trans (Nat.le_of_ble_eq_true rfl) hRl⟩ hP hD hS hA [0, 1, 2, 3] [4, 5, 6] rfl (wr := [(ad, .inr (0, [.ref be, .ref rp, .ref rl])), (be, .inr (1, [.ref bc, .int bk, .int bs])), (bc, .inl (g.2.1, 49, .inl bf))]) rfl ⟨by decide, by decide⟩ (by decide) (ci := 8) (q0 := 0) rfl rfl rfl rfl hl.1 rfl (Nat.le_of_ble_eq_true rfl) dX8_wouldTake_3 ⟨Nat.le_trans (Nat.le_of_ble_eq_true rfl) hRc, Nat.le_trans (Nat.le_of_ble_eq_true rfl) hRs⟩ (fun hk0 na_2 H locs hna_2 hP hD hS => ?_) (fun hk0 na9 q9 ce9 H locs hna9 hP hD hS hce hcv hcl => ?_)
  rotate_left 1
  · replace hyp := ite_f hk0 hyp
    have hP : va_P g.1 vwCl [(ad, .inr (0, [.ref be, .ref rp, .ref rl])), (be, .inr (1, [.ref bc, .int bk, .int bs])), (bc, .inl (g.2.1, 49, .inl bf)), (hg, .inr (8, [.ref st, .ref tr, .ref sa, .ref sk, .ref sv, .ref mt, .ref ml, .ref ad, .ref kw])), (st, .inr (7, [.ref b, .int sd, .int mv, .int gm, va_rf lt, .int w1, .int w2, .int dg, .int t1, .int t2, .int am])), (b, .inr (1, [.ref ca, .int kk, .int sg])), (ca, .inl (g.2.1, 49, .inl f))] H := hP
    have hD : va_D A [(ad, .inr (0, [.ref be, .ref rp, .ref rl])), (be, .inr (1, [.ref bc, .int bk, .int bs])), (bc, .inl (g.2.1, 49, .inl bf)), (hg, .inr (8, [.ref st, .ref tr, .ref sa, .ref sk, .ref sv, .ref mt, .ref ml, .ref ad, .ref kw])), (st, .inr (7, [.ref b, .int sd, .int mv, .int gm, va_rf lt, .int w1, .int w2, .int dg, .int t1, .int t2, .int am])), (b, .inr (1, [.ref ca, .int kk, .int sg])), (ca, .inl (g.2.1, 49, .inl f))] := hD
    have hP : va_P g.1 vwCl [(hg, .inr (8, [.ref st, .ref tr, .ref sa, .ref sk, .ref sv, .ref mt, .ref ml, .ref ad, .ref kw])), (st, .inr (7, [.ref b, .int sd, .int mv, .int gm, va_rf lt, .int w1, .int w2, .int dg, .int t1, .int t2, .int am])), (b, .inr (1, [.ref ca, .int kk, .int sg])), (ca, .inl (g.2.1, 49, .inl f)), (ad, .inr (0, [.ref be, .ref rp, .ref rl])), (be, .inr (1, [.ref bc, .int bk, .int bs])), (bc, .inl (g.2.1, 49, .inl bf))] H := hP.sub [3, 4, 5, 6, 0, 1, 2] rfl
    have hD : va_D A [(hg, .inr (8, [.ref st, .ref tr, .ref sa, .ref sk, .ref sv, .ref mt, .ref ml, .ref ad, .ref kw])), (st, .inr (7, [.ref b, .int sd, .int mv, .int gm, va_rf lt, .int w1, .int w2, .int dg, .int t1, .int t2, .int am])), (b, .inr (1, [.ref ca, .int kk, .int sg])), (ca, .inl (g.2.1, 49, .inl f)), (ad, .inr (0, [.ref be, .ref rp, .ref rl])), (be, .inr (1, [.ref bc, .int bk, .int bs])), (bc, .inl (g.2.1, 49, .inl bf))] := hD.sub [3, 4, 5, 6, 0, 1, 2] (by decide) rfl
    have hyp := some_e hyp
    subst hyp
    subst hQ
    exact xOut hex hlocks hk0 (Nat.le_refl _) hP hD hS hce hcv hcl (Nat.le_of_ble_eq_true rfl) (Nat.le_of_ble_eq_true rfl)
  replace hyp := ite_t hk0 hyp
  have hP : va_P g.1 vwCl [(ad, .inr (0, [.ref be, .ref rp, .ref rl])), (be, .inr (1, [.ref bc, .int bk, .int bs])), (bc, .inl (g.2.1, 49, .inl bf)), (hg, .inr (8, [.ref st, .ref tr, .ref sa, .ref sk, .ref sv, .ref mt, .ref ml, .ref ad, .ref kw])), (st, .inr (7, [.ref b, .int sd, .int mv, .int gm, va_rf lt, .int w1, .int w2, .int dg, .int t1, .int t2, .int am])), (b, .inr (1, [.ref ca, .int kk, .int sg])), (ca, .inl (g.2.1, 49, .inl f))] H := hP
  have hD : va_D A [(ad, .inr (0, [.ref be, .ref rp, .ref rl])), (be, .inr (1, [.ref bc, .int bk, .int bs])), (bc, .inl (g.2.1, 49, .inl bf)), (hg, .inr (8, [.ref st, .ref tr, .ref sa, .ref sk, .ref sv, .ref mt, .ref ml, .ref ad, .ref kw])), (st, .inr (7, [.ref b, .int sd, .int mv, .int gm, va_rf lt, .int w1, .int w2, .int dg, .int t1, .int t2, .int am])), (b, .inr (1, [.ref ca, .int kk, .int sg])), (ca, .inl (g.2.1, 49, .inl f))] := hD
  refine lv_aload_n hx hb dX8_wouldTake_6 rfl (lv_at hl 0 rfl) ?_
  refine gf_X8_51 hx hb hts hown hE hP 3 rfl rfl dX8_wouldTake_7 ?_
  refine lv_aload_n hx hb dX8_wouldTake_10 rfl (lv_at hl 0 rfl) ?_
  refine gf_X8_12 hx hb hts hown hE hP 3 rfl rfl dX8_wouldTake_11 ?_
  refine gf_X8_69 hx hb hts hown hE hP 4 rfl rfl dX8_wouldTake_14 ?_
  refine lv_iload_n hx hb dX8_wouldTake_17 rfl (lv_at hl 1 rfl) ?_
  refine lv_iload_n hx hb dX8_wouldTake_18 rfl (lv_at hl 2 rfl) ?_
  obtain ⟨r_3, hr_3, hyp⟩ := opt_e hyp
  refine wV (As := [.ref b, .int a1, .int a2]) (rest := []) ⟨hx, hb, hml, hown, hts⟩ hE (mX0_takes l g ad be bc b ca rp rl bk bs bf kk sg f a1 a2 r_3 hr_3) cf_X0_takes im_X0_takes se_X0_takes ml_X8_234 ⟨Nat.le_trans (Nat.le_of_ble_eq_true rfl) hRf, Nat.le_trans (Nat.le_of_ble_eq_true rfl) hRl⟩ hP hD hS hA [0, 1, 2, 5, 6] [3, 4] rfl (wr := [(hg, .inr (8, [.ref st, .ref tr, .ref sa, .ref sk, .ref sv, .ref mt, .ref ml, .ref ad, .ref kw])), (st, .inr (7, [.ref b, .int sd, .int mv, .int gm, va_rf lt, .int w1, .int w2, .int dg, .int t1, .int t2, .int am]))]) rfl ⟨by decide, by decide⟩ (by decide) (ci := 0) (q0 := 0) rfl rfl rfl rfl hl.1 rfl (Nat.le_of_ble_eq_true rfl) dX8_wouldTake_19 ⟨Nat.le_trans (Nat.le_of_ble_eq_true rfl) hRc, Nat.le_trans (Nat.le_of_ble_eq_true rfl) hRs⟩ (fun H locs hP hD hS => ?_)
  have hP : va_P g.1 vwCl [(hg, .inr (8, [.ref st, .ref tr, .ref sa, .ref sk, .ref sv, .ref mt, .ref ml, .ref ad, .ref kw])), (st, .inr (7, [.ref b, .int sd, .int mv, .int gm, va_rf lt, .int w1, .int w2, .int dg, .int t1, .int t2, .int am])), (ad, .inr (0, [.ref be, .ref rp, .ref rl])), (be, .inr (1, [.ref bc, .int r_3.2.2.1, .int r_3.2.2.2])), (bc, .inl (g.2.1, 49, .inl r_3.2.1)), (b, .inr (1, [.ref ca, .int kk, .int sg])), (ca, .inl (g.2.1, 49, .inl f))] H := hP
  have hD : va_D A [(hg, .inr (8, [.ref st, .ref tr, .ref sa, .ref sk, .ref sv, .ref mt, .ref ml, .ref ad, .ref kw])), (st, .inr (7, [.ref b, .int sd, .int mv, .int gm, va_rf lt, .int w1, .int w2, .int dg, .int t1, .int t2, .int am])), (ad, .inr (0, [.ref be, .ref rp, .ref rl])), (be, .inr (1, [.ref bc, .int r_3.2.2.1, .int r_3.2.2.2])), (bc, .inl (g.2.1, 49, .inl r_3.2.1)), (b, .inr (1, [.ref ca, .int kk, .int sg])), (ca, .inl (g.2.1, 49, .inl f))] := hD
  have hP : va_P g.1 vwCl [(hg, .inr (8, [.ref st, .ref tr, .ref sa, .ref sk, .ref sv, .ref mt, .ref ml, .ref ad, .ref kw])), (st, .inr (7, [.ref b, .int sd, .int mv, .int gm, va_rf lt, .int w1, .int w2, .int dg, .int t1, .int t2, .int am])), (b, .inr (1, [.ref ca, .int kk, .int sg])), (ca, .inl (g.2.1, 49, .inl f)), (ad, .inr (0, [.ref be, .ref rp, .ref rl])), (be, .inr (1, [.ref bc, .int r_3.2.2.1, .int r_3.2.2.2])), (bc, .inl (g.2.1, 49, .inl r_3.2.1))] H := hP.sub [0, 1, 5, 6, 2, 3, 4] rfl
  have hD : va_D A [(hg, .inr (8, [.ref st, .ref tr, .ref sa, .ref sk, .ref sv, .ref mt, .ref ml, .ref ad, .ref kw])), (st, .inr (7, [.ref b, .int sd, .int mv, .int gm, va_rf lt, .int w1, .int w2, .int dg, .int t1, .int t2, .int am])), (b, .inr (1, [.ref ca, .int kk, .int sg])), (ca, .inl (g.2.1, 49, .inl f)), (ad, .inr (0, [.ref be, .ref rp, .ref rl])), (be, .inr (1, [.ref bc, .int r_3.2.2.1, .int r_3.2.2.2])), (bc, .inl (g.2.1, 49, .inl r_3.2.1))] := hD.sub [0, 1, 5, 6, 2, 3, 4] (by decide) rfl
  have hyp := some_e hyp
  subst hyp
  subst hQ
  exact xrI (na := s.heap.size) hx hb hr hlocks (Nat.le_refl _) hP hD hS (Nat.le_of_ble_eq_true rfl) (Nat.le_of_ble_eq_true rfl) dX8_wouldTake_22

def fX8_wouldWin (kk : Int32) (sg : Int32) (f : Nat → Int32) (rk : Int32) (rs : Int32) (rf : Nat → Int32) (a1 : Int32) (a2 : Int32) : Option (Nat × Int32 × (Nat → Int32) × Int32 × Int32) :=
  (fX8_needPossible f a1 a2).bind (fun (r_1 : Nat) => if r_1 = 0 then ((fX0_isWinning rf kk sg f a1 a2).bind (fun (r_3 : Int32 × (Nat → Int32) × Int32 × Int32) => grd (is01 r_3.1) (some (0, r_3.1, r_3.2.1, r_3.2.2.1, r_3.2.2.2)))) else (some (r_1, 0, rf, rk, rs)))
set_option maxRecDepth 100000 in
set_option maxHeartbeats 4000000 in
theorem mX8_wouldWin (l : Launch) (hl0 : l.stackTraces = false) (g : GE) (hg st b ca ad rp rc tr sa sk sv mt ml kw be rl zc zp : Nat) (sd : Int32) (mv : Int32) (gm : Int32) (lt : Option Nat) (w1 : Int32) (w2 : Int32) (dg : Int32) (t1 : Int32) (t2 : Int32) (am : Int32) (kk : Int32) (sg : Int32) (f : Nat → Int32) (rk : Int32) (rs : Int32) (rf : Nat → Int32) (a1 : Int32) (a2 : Int32) (r : Nat × Int32 × (Nat → Int32) × Int32 × Int32) (hyp : fX8_wouldWin kk sg f rk rs rf a1 a2 = some r) : XM l yX8_wouldWin cX8_wouldWin 3 (some .boolean) 8 133 2 12 g [(hg, .inr (8, [.ref st, .ref tr, .ref sa, .ref sk, .ref sv, .ref mt, .ref ml, .ref ad, .ref kw])), (st, .inr (7, [.ref b, .int sd, .int mv, .int gm, va_rf lt, .int w1, .int w2, .int dg, .int t1, .int t2, .int am])), (b, .inr (1, [.ref ca, .int kk, .int sg])), (ca, .inl (g.2.1, 49, .inl f)), (ad, .inr (0, [.ref be, .ref rp, .ref rl])), (rp, .inr (1, [.ref rc, .int rk, .int rs])), (rc, .inl (g.2.1, 49, .inl rf))] (OZ g zc zp [] none) [.ref hg, .int a1, .int a2] r.1 (some (.int r.2.1)) (fun na => [(hg, .inr (8, [.ref st, .ref tr, .ref sa, .ref sk, .ref sv, .ref mt, .ref ml, .ref ad, .ref kw])), (st, .inr (7, [.ref b, .int sd, .int mv, .int gm, va_rf lt, .int w1, .int w2, .int dg, .int t1, .int t2, .int am])), (b, .inr (1, [.ref ca, .int kk, .int sg])), (ca, .inl (g.2.1, 49, .inl f)), (ad, .inr (0, [.ref be, .ref rp, .ref rl])), (rp, .inr (1, [.ref rc, .int r.2.2.2.1, .int r.2.2.2.2])), (rc, .inl (g.2.1, 49, .inl r.2.2.1))]) (fun _ => [(hg, .inr (8, [.ref st, .ref tr, .ref sa, .ref sk, .ref sv, .ref mt, .ref ml, .ref ad, .ref kw])), (st, .inr (7, [.ref b, .int sd, .int mv, .int gm, va_rf lt, .int w1, .int w2, .int dg, .int t1, .int t2, .int am])), (b, .inr (1, [.ref ca, .int kk, .int sg])), (ca, .inl (g.2.1, 49, .inl f)), (ad, .inr (0, [.ref be, .ref rp, .ref rl])), (rp, .inr (1, [.ref rc, .int r.2.2.2.1, .int r.2.2.2.2])), (rc, .inl (g.2.1, 49, .inl r.2.2.1))]) := by
  refine metX_intro (by decide) rfl ?_
  intro p e R s m args below meth c Q A hRf hRl hRc hRs hQ hx hb hml hr hlocks hex hown hts hin hE hSR hA hO H locs hP hD hS ls hl
  have hown : s.vm.findClass "HallGuards" = some m.cls := hown
  have hl : lv_has ls 3 [(0, .ref hg), (1, .int a1), (2, .int a2)] := hl
  unfold fX8_wouldWin at hyp
  refine lv_aload_n hx hb dX8_wouldWin_0 rfl (lv_at hl 0 rfl) ?_
  refine lv_iload_n hx hb dX8_wouldWin_1 rfl (lv_at hl 1 rfl) ?_
  refine lv_iload_n hx hb dX8_wouldWin_2 rfl (lv_at hl 2 rfl) ?_
  obtain ⟨r_1, hr_1, hyp⟩ := opt_e hyp
  refine xV (As := [.int a1, .int a2]) (rest := []) ⟨hx, hb, hml, hown, hts⟩ hE hSR (mX8_needPossible l hl0 g hg st b ca tr sa sk sv mt ml ad kw zc zp sd mv gm lt w1 w2 dg t1 t2 am kk sg f a1 a2 r_1 hr_1) (OZ_ok g zc zp _ _) hO cf_X8_needPossible im_X8_needPossible se_X8_needPossible ml_X8_231 ⟨Nat.le_trans (Nat.le_of_ble_eq_true rfl) hRf, Nat.le_trans (Nat.le_of_ble_eq_true rfl) hRl⟩ hP hD hS hA [0, 1, 2, 3] [4, 5, 6] rfl (wr := [(ad, .inr (0, [.ref be, .ref rp, .ref rl])), (rp, .inr (1, [.ref rc, .int rk, .int rs])), (rc, .inl (g.2.1, 49, .inl rf))]) rfl ⟨by decide, by decide⟩ (by decide) (ci := 8) (q0 := 0) rfl rfl rfl rfl hl.1 rfl (Nat.le_of_ble_eq_true rfl) dX8_wouldWin_3 ⟨Nat.le_trans (Nat.le_of_ble_eq_true rfl) hRc, Nat.le_trans (Nat.le_of_ble_eq_true rfl) hRs⟩ (fun hk0 na_2 H locs hna_2 hP hD hS => ?_) (fun hk0 na9 q9 ce9 H locs hna9 hP hD hS hce hcv hcl => ?_)
  rotate_left 1
  · replace hyp := ite_f hk0 hyp
    have hP : va_P g.1 vwCl [(ad, .inr (0, [.ref be, .ref rp, .ref rl])), (rp, .inr (1, [.ref rc, .int rk, .int rs])), (rc, .inl (g.2.1, 49, .inl rf)), (hg, .inr (8, [.ref st, .ref tr, .ref sa, .ref sk, .ref sv, .ref mt, .ref ml, .ref ad, .ref kw])), (st, .inr (7, [.ref b, .int sd, .int mv, .int gm, va_rf lt, .int w1, .int w2, .int dg, .int t1, .int t2, .int am])), (b, .inr (1, [.ref ca, .int kk, .int sg])), (ca, .inl (g.2.1, 49, .inl f))] H := hP
    have hD : va_D A [(ad, .inr (0, [.ref be, .ref rp, .ref rl])), (rp, .inr (1, [.ref rc, .int rk, .int rs])), (rc, .inl (g.2.1, 49, .inl rf)), (hg, .inr (8, [.ref st, .ref tr, .ref sa, .ref sk, .ref sv, .ref mt, .ref ml, .ref ad, .ref kw])), (st, .inr (7, [.ref b, .int sd, .int mv, .int gm, va_rf lt, .int w1, .int w2, .int dg, .int t1, .int t2, .int am])), (b, .inr (1, [.ref ca, .int kk, .int sg])), (ca, .inl (g.2.1, 49, .inl f))] := hD
    have hP : va_P g.1 vwCl [(hg, .inr (8, [.ref st, .ref tr, .ref sa, .ref sk, .ref sv, .ref mt, .ref ml, .ref ad, .ref kw])), (st, .inr (7, [.ref b, .int sd, .int mv, .int gm, va_rf lt, .int w1, .int w2, .int dg, .int t1, .int t2, .int am])), (b, .inr (1, [.ref ca, .int kk, .int sg])), (ca, .inl (g.2.1, 49, .inl f)), (ad, .inr (0, [.ref be, .ref rp, .ref rl])), (rp, .inr (1, [.ref rc, .int rk, .int rs])), (rc, .inl (g.2.1, 49, .inl rf))] H := hP.sub [3, 4, 5, 6, 0, 1, 2] rfl
    have hD : va_D A [(hg, .inr (8, [.ref st, .ref tr, .ref sa, .ref sk, .ref sv, .ref mt, .ref ml, .ref ad, .ref kw])), (st, .inr (7, [.ref b, .int sd, .int mv, .int gm, va_rf lt, .int w1, .int w2, .int dg, .int t1, .int t2, .int am])), (b, .inr (1, [.ref ca, .int kk, .int sg])), (ca, .inl (g.2.1, 49, .inl f)), (ad, .inr (0, [.ref be, .ref rp, .ref rl])), (rp, .inr (1, [.ref rc, .int rk, .int rs])), (rc, .inl (g.2.1, 49, .inl rf))] := hD.sub [3, 4, 5, 6, 0, 1, 2] (by decide) rfl
    have hyp := some_e hyp
    subst hyp
    subst hQ
    exact xOut hex hlocks hk0 (Nat.le_refl _) hP hD hS hce hcv hcl (Nat.le_of_ble_eq_true rfl) (Nat.le_of_ble_eq_true rfl)
  replace hyp := ite_t hk0 hyp
  have hP : va_P g.1 vwCl [(ad, .inr (0, [.ref be, .ref rp, .ref rl])), (rp, .inr (1, [.ref rc, .int rk, .int rs])), (rc, .inl (g.2.1, 49, .inl rf)), (hg, .inr (8, [.ref st, .ref tr, .ref sa, .ref sk, .ref sv, .ref mt, .ref ml, .ref ad, .ref kw])), (st, .inr (7, [.ref b, .int sd, .int mv, .int gm, va_rf lt, .int w1, .int w2, .int dg, .int t1, .int t2, .int am])), (b, .inr (1, [.ref ca, .int kk, .int sg])), (ca, .inl (g.2.1, 49, .inl f))] H := hP
  have hD : va_D A [(ad, .inr (0, [.ref be, .ref rp, .ref rl])), (rp, .inr (1, [.ref rc, .int rk, .int rs])), (rc, .inl (g.2.1, 49, .inl rf)), (hg, .inr (8, [.ref st, .ref tr, .ref sa, .ref sk, .ref sv, .ref mt, .ref ml, .ref ad, .ref kw])), (st, .inr (7, [.ref b, .int sd, .int mv, .int gm, va_rf lt, .int w1, .int w2, .int dg, .int t1, .int t2, .int am])), (b, .inr (1, [.ref ca, .int kk, .int sg])), (ca, .inl (g.2.1, 49, .inl f))] := hD
  refine lv_aload_n hx hb dX8_wouldWin_6 rfl (lv_at hl 0 rfl) ?_
  refine gf_X8_51 hx hb hts hown hE hP 3 rfl rfl dX8_wouldWin_7 ?_
  refine lv_aload_n hx hb dX8_wouldWin_10 rfl (lv_at hl 0 rfl) ?_
  refine gf_X8_12 hx hb hts hown hE hP 3 rfl rfl dX8_wouldWin_11 ?_
  refine gf_X8_69 hx hb hts hown hE hP 4 rfl rfl dX8_wouldWin_14 ?_
  refine lv_iload_n hx hb dX8_wouldWin_17 rfl (lv_at hl 1 rfl) ?_
  refine lv_iload_n hx hb dX8_wouldWin_18 rfl (lv_at hl 2 rfl) ?_
  obtain ⟨r_3, hr_3, hyp⟩ := opt_e hyp
  refine wV (As := [.ref b, .int a1, .int a2]) (rest := []) ⟨hx, hb, hml, hown, hts⟩ hE (mX0_isWinning l g ad rp rc b ca be rl rk rs rf kk sg f a1 a2 r_3 hr_3) cf_X0_isWinning im_X0_isWinning se_X0_isWinning ml_X8_238 ⟨Nat.le_trans (Nat.le_of_ble_eq_true rfl) hRf, Nat.le_trans (Nat.le_of_ble_eq_true rfl) hRl⟩ hP hD hS hA [0, 1, 2, 5, 6] [3, 4] rfl (wr := [(hg, .inr (8, [.ref st, .ref tr, .ref sa, .ref sk, .ref sv, .ref mt, .ref ml, .ref ad, .ref kw])), (st, .inr (7, [.ref b, .int sd, .int mv, .int gm, va_rf lt, .int w1, .int w2, .int dg, .int t1, .int t2, .int am]))]) rfl ⟨by decide, by decide⟩ (by decide) (ci := 0) (q0 := 0) rfl rfl rfl rfl hl.1 rfl (Nat.le_of_ble_eq_true rfl) dX8_wouldWin_19 ⟨Nat.le_trans (Nat.le_of_ble_eq_true rfl) hRc, Nat.le_trans (Nat.le_of_ble_eq_true rfl) hRs⟩ (fun H locs hP hD hS => ?_)
  have hP : va_P g.1 vwCl [(hg, .inr (8, [.ref st, .ref tr, .ref sa, .ref sk, .ref sv, .ref mt, .ref ml, .ref ad, .ref kw])), (st, .inr (7, [.ref b, .int sd, .int mv, .int gm, va_rf lt, .int w1, .int w2, .int dg, .int t1, .int t2, .int am])), (ad, .inr (0, [.ref be, .ref rp, .ref rl])), (rp, .inr (1, [.ref rc, .int r_3.2.2.1, .int r_3.2.2.2])), (rc, .inl (g.2.1, 49, .inl r_3.2.1)), (b, .inr (1, [.ref ca, .int kk, .int sg])), (ca, .inl (g.2.1, 49, .inl f))] H := hP
  have hD : va_D A [(hg, .inr (8, [.ref st, .ref tr, .ref sa, .ref sk, .ref sv, .ref mt, .ref ml, .ref ad, .ref kw])), (st, .inr (7, [.ref b, .int sd, .int mv, .int gm, va_rf lt, .int w1, .int w2, .int dg, .int t1, .int t2, .int am])), (ad, .inr (0, [.ref be, .ref rp, .ref rl])), (rp, .inr (1, [.ref rc, .int r_3.2.2.1, .int r_3.2.2.2])), (rc, .inl (g.2.1, 49, .inl r_3.2.1)), (b, .inr (1, [.ref ca, .int kk, .int sg])), (ca, .inl (g.2.1, 49, .inl f))] := hD
  have hP : va_P g.1 vwCl [(hg, .inr (8, [.ref st, .ref tr, .ref sa, .ref sk, .ref sv, .ref mt, .ref ml, .ref ad, .ref kw])), (st, .inr (7, [.ref b, .int sd, .int mv, .int gm, va_rf lt, .int w1, .int w2, .int dg, .int t1, .int t2, .int am])), (b, .inr (1, [.ref ca, .int kk, .int sg])), (ca, .inl (g.2.1, 49, .inl f)), (ad, .inr (0, [.ref be, .ref rp, .ref rl])), (rp, .inr (1, [.ref rc, .int r_3.2.2.1, .int r_3.2.2.2])), (rc, .inl (g.2.1, 49, .inl r_3.2.1))] H := hP.sub [0, 1, 5, 6, 2, 3, 4] rfl
  have hD : va_D A [(hg, .inr (8, [.ref st, .ref tr, .ref sa, .ref sk, .ref sv, .ref mt, .ref ml, .ref ad, .ref kw])), (st, .inr (7, [.ref b, .int sd, .int mv, .int gm, va_rf lt, .int w1, .int w2, .int dg, .int t1, .int t2, .int am])), (b, .inr (1, [.ref ca, .int kk, .int sg])), (ca, .inl (g.2.1, 49, .inl f)), (ad, .inr (0, [.ref be, .ref rp, .ref rl])), (rp, .inr (1, [.ref rc, .int r_3.2.2.1, .int r_3.2.2.2])), (rc, .inl (g.2.1, 49, .inl r_3.2.1))] := hD.sub [0, 1, 5, 6, 2, 3, 4] (by decide) rfl
  obtain ⟨h01, hyp⟩ := grd_e hyp
  have hyp := some_e hyp
  subst hyp
  subst hQ
  exact xrZ (na := s.heap.size) hx hb hr hlocks (is01_e h01) (Nat.le_refl _) hP hD hS (Nat.le_of_ble_eq_true rfl) (Nat.le_of_ble_eq_true rfl) dX8_wouldWin_22

def fX8_winningMoves (kk : Int32) (sg : Int32) (f : Nat → Int32) (rk : Int32) (rs : Int32) (rf : Nat → Int32) (rn : Int32) (rmf : Nat → Int32) (a1 : Int32) : Option (Nat × Int32 × (Nat → Int32) × Int32 × Int32 × (Nat → Int32) × Int32) :=
  (fX8_needSide a1).bind (fun (r_1 : Nat) => if r_1 = 0 then ((fX0_countWinning rk rs rf rmf kk sg f a1).bind (fun (r_3 : Int32 × (Nat → Int32) × Int32 × Int32 × (Nat → Int32) × Int32) => some (0, r_3.1, r_3.2.1, r_3.2.2.1, r_3.2.2.2.1, r_3.2.2.2.2.1, r_3.2.2.2.2.2))) else (some (r_1, 0, rf, rk, rs, rmf, rn)))
set_option maxRecDepth 100000 in
set_option maxHeartbeats 4000000 in
theorem mX8_winningMoves (l : Launch) (hl0 : l.stackTraces = false) (g : GE) (hg st b ca ad rp rc rl rm tr sa sk sv mt ml kw be zc zp : Nat) (sd : Int32) (mv : Int32) (gm : Int32) (lt : Option Nat) (w1 : Int32) (w2 : Int32) (dg : Int32) (t1 : Int32) (t2 : Int32) (am : Int32) (kk : Int32) (sg : Int32) (f : Nat → Int32) (rk : Int32) (rs : Int32) (rf : Nat → Int32) (rn : Int32) (rmf : Nat → Int32) (a1 : Int32) (r : Nat × Int32 × (Nat → Int32) × Int32 × Int32 × (Nat → Int32) × Int32) (hyp : fX8_winningMoves kk sg f rk rs rf rn rmf a1 = some r) : XM l yX8_winningMoves cX8_winningMoves 2 (some .int) 7 145 1 6 g [(hg, .inr (8, [.ref st, .ref tr, .ref sa, .ref sk, .ref sv, .ref mt, .ref ml, .ref ad, .ref kw])), (st, .inr (7, [.ref b, .int sd, .int mv, .int gm, va_rf lt, .int w1, .int w2, .int dg, .int t1, .int t2, .int am])), (b, .inr (1, [.ref ca, .int kk, .int sg])), (ca, .inl (g.2.1, 49, .inl f)), (ad, .inr (0, [.ref be, .ref rp, .ref rl])), (rp, .inr (1, [.ref rc, .int rk, .int rs])), (rc, .inl (g.2.1, 49, .inl rf)), (rl, .inr (3, [.ref rm, .int rn])), (rm, .inl (g.2.1, 588, .inl rmf))] (OZ g zc zp [] none) [.ref hg, .int a1] r.1 (some (.int r.2.1)) (fun na => [(hg, .inr (8, [.ref st, .ref tr, .ref sa, .ref sk, .ref sv, .ref mt, .ref ml, .ref ad, .ref kw])), (st, .inr (7, [.ref b, .int sd, .int mv, .int gm, va_rf lt, .int w1, .int w2, .int dg, .int t1, .int t2, .int am])), (b, .inr (1, [.ref ca, .int kk, .int sg])), (ca, .inl (g.2.1, 49, .inl f)), (ad, .inr (0, [.ref be, .ref rp, .ref rl])), (rp, .inr (1, [.ref rc, .int r.2.2.2.1, .int r.2.2.2.2.1])), (rc, .inl (g.2.1, 49, .inl r.2.2.1)), (rl, .inr (3, [.ref rm, .int r.2.2.2.2.2.2])), (rm, .inl (g.2.1, 588, .inl r.2.2.2.2.2.1))]) (fun _ => [(hg, .inr (8, [.ref st, .ref tr, .ref sa, .ref sk, .ref sv, .ref mt, .ref ml, .ref ad, .ref kw])), (st, .inr (7, [.ref b, .int sd, .int mv, .int gm, va_rf lt, .int w1, .int w2, .int dg, .int t1, .int t2, .int am])), (b, .inr (1, [.ref ca, .int kk, .int sg])), (ca, .inl (g.2.1, 49, .inl f)), (ad, .inr (0, [.ref be, .ref rp, .ref rl])), (rp, .inr (1, [.ref rc, .int r.2.2.2.1, .int r.2.2.2.2.1])), (rc, .inl (g.2.1, 49, .inl r.2.2.1)), (rl, .inr (3, [.ref rm, .int r.2.2.2.2.2.2])), (rm, .inl (g.2.1, 588, .inl r.2.2.2.2.2.1))]) := by
  refine metX_intro (by decide) rfl ?_
  intro p e R s m args below meth c Q A hRf hRl hRc hRs hQ hx hb hml hr hlocks hex hown hts hin hE hSR hA hO H locs hP hD hS ls hl
  have hown : s.vm.findClass "HallGuards" = some m.cls := hown
  have hl : lv_has ls 2 [(0, .ref hg), (1, .int a1)] := hl
  unfold fX8_winningMoves at hyp
  refine lv_iload_n hx hb dX8_winningMoves_0 rfl (lv_at hl 1 rfl) ?_
  obtain ⟨r_1, hr_1, hyp⟩ := opt_e hyp
  refine xS (As := [.int a1]) (rest := []) ⟨hx, hb, hml, hown, hts⟩ hE hSR (mX8_needSide l hl0 g zc zp a1 r_1 hr_1) (OZ_ok g zc zp _ _) hO cf_X8_needSide st_X8_needSide ml_X8_113 ⟨Nat.le_trans (Nat.le_of_ble_eq_true rfl) hRf, Nat.le_trans (Nat.le_of_ble_eq_true rfl) hRl⟩ hP hD hS hA [] [0, 1, 2, 3, 4, 5, 6, 7, 8] rfl (wr := [(hg, .inr (8, [.ref st, .ref tr, .ref sa, .ref sk, .ref sv, .ref mt, .ref ml, .ref ad, .ref kw])), (st, .inr (7, [.ref b, .int sd, .int mv, .int gm, va_rf lt, .int w1, .int w2, .int dg, .int t1, .int t2, .int am])), (b, .inr (1, [.ref ca, .int kk, .int sg])), (ca, .inl (g.2.1, 49, .inl f)), (ad, .inr (0, [.ref be, .ref rp, .ref rl])), (rp, .inr (1, [.ref rc, .int rk, .int rs])), (rc, .inl (g.2.1, 49, .inl rf)), (rl, .inr (3, [.ref rm, .int rn])), (rm, .inl (g.2.1, 588, .inl rmf))]) rfl ⟨by decide, by decide⟩ (by decide) rfl hl.1 rfl (Nat.le_of_ble_eq_true rfl) dX8_winningMoves_1 ⟨Nat.le_trans (Nat.le_of_ble_eq_true rfl) hRc, Nat.le_trans (Nat.le_of_ble_eq_true rfl) hRs⟩ (fun hk0 na_2 H locs hna_2 hP hD hS => ?_) (fun hk0 na9 q9 ce9 H locs hna9 hP hD hS hce hcv hcl => ?_)
  rotate_left 1
  · replace hyp := ite_f hk0 hyp
    have hP : va_P g.1 vwCl [(hg, .inr (8, [.ref st, .ref tr, .ref sa, .ref sk, .ref sv, .ref mt, .ref ml, .ref ad, .ref kw])), (st, .inr (7, [.ref b, .int sd, .int mv, .int gm, va_rf lt, .int w1, .int w2, .int dg, .int t1, .int t2, .int am])), (b, .inr (1, [.ref ca, .int kk, .int sg])), (ca, .inl (g.2.1, 49, .inl f)), (ad, .inr (0, [.ref be, .ref rp, .ref rl])), (rp, .inr (1, [.ref rc, .int rk, .int rs])), (rc, .inl (g.2.1, 49, .inl rf)), (rl, .inr (3, [.ref rm, .int rn])), (rm, .inl (g.2.1, 588, .inl rmf))] H := hP
    have hD : va_D A [(hg, .inr (8, [.ref st, .ref tr, .ref sa, .ref sk, .ref sv, .ref mt, .ref ml, .ref ad, .ref kw])), (st, .inr (7, [.ref b, .int sd, .int mv, .int gm, va_rf lt, .int w1, .int w2, .int dg, .int t1, .int t2, .int am])), (b, .inr (1, [.ref ca, .int kk, .int sg])), (ca, .inl (g.2.1, 49, .inl f)), (ad, .inr (0, [.ref be, .ref rp, .ref rl])), (rp, .inr (1, [.ref rc, .int rk, .int rs])), (rc, .inl (g.2.1, 49, .inl rf)), (rl, .inr (3, [.ref rm, .int rn])), (rm, .inl (g.2.1, 588, .inl rmf))] := hD
    have hyp := some_e hyp
    subst hyp
    subst hQ
    exact xOut hex hlocks hk0 (Nat.le_refl _) hP hD hS hce hcv hcl (Nat.le_of_ble_eq_true rfl) (Nat.le_of_ble_eq_true rfl)
  replace hyp := ite_t hk0 hyp
  have hP : va_P g.1 vwCl [(hg, .inr (8, [.ref st, .ref tr, .ref sa, .ref sk, .ref sv, .ref mt, .ref ml, .ref ad, .ref kw])), (st, .inr (7, [.ref b, .int sd, .int mv, .int gm, va_rf lt, .int w1, .int w2, .int dg, .int t1, .int t2, .int am])), (b, .inr (1, [.ref ca, .int kk, .int sg])), (ca, .inl (g.2.1, 49, .inl f)), (ad, .inr (0, [.ref be, .ref rp, .ref rl])), (rp, .inr (1, [.ref rc, .int rk, .int rs])), (rc, .inl (g.2.1, 49, .inl rf)), (rl, .inr (3, [.ref rm, .int rn])), (rm, .inl (g.2.1, 588, .inl rmf))] H := hP
  have hD : va_D A [(hg, .inr (8, [.ref st, .ref tr, .ref sa, .ref sk, .ref sv, .ref mt, .ref ml, .ref ad, .ref kw])), (st, .inr (7, [.ref b, .int sd, .int mv, .int gm, va_rf lt, .int w1, .int w2, .int dg, .int t1, .int t2, .int am])), (b, .inr (1, [.ref ca, .int kk, .int sg])), (ca, .inl (g.2.1, 49, .inl f)), (ad, .inr (0, [.ref be, .ref rp, .ref rl])), (rp, .inr (1, [.ref rc, .int rk, .int rs])), (rc, .inl (g.2.1, 49, .inl rf)), (rl, .inr (3, [.ref rm, .int rn])), (rm, .inl (g.2.1, 588, .inl rmf))] := hD
  refine lv_aload_n hx hb dX8_winningMoves_4 rfl (lv_at hl 0 rfl) ?_
  refine gf_X8_51 hx hb hts hown hE hP 0 rfl rfl dX8_winningMoves_5 ?_
  refine lv_aload_n hx hb dX8_winningMoves_8 rfl (lv_at hl 0 rfl) ?_
  refine gf_X8_12 hx hb hts hown hE hP 0 rfl rfl dX8_winningMoves_9 ?_
  refine gf_X8_69 hx hb hts hown hE hP 1 rfl rfl dX8_winningMoves_12 ?_
  refine lv_iload_n hx hb dX8_winningMoves_15 rfl (lv_at hl 1 rfl) ?_
  obtain ⟨r_3, hr_3, hyp⟩ := opt_e hyp
  refine wV (As := [.ref b, .int a1]) (rest := []) ⟨hx, hb, hml, hown, hts⟩ hE (mX0_countWinning l g ad rp rc rl rm b ca be rk rs rf rn rmf kk sg f a1 r_3 hr_3) cf_X0_countWinning im_X0_countWinning se_X0_countWinning ml_X8_242 ⟨Nat.le_trans (Nat.le_of_ble_eq_true rfl) hRf, Nat.le_trans (Nat.le_of_ble_eq_true rfl) hRl⟩ hP hD hS hA [4, 5, 6, 7, 8, 2, 3] [0, 1] rfl (wr := [(hg, .inr (8, [.ref st, .ref tr, .ref sa, .ref sk, .ref sv, .ref mt, .ref ml, .ref ad, .ref kw])), (st, .inr (7, [.ref b, .int sd, .int mv, .int gm, va_rf lt, .int w1, .int w2, .int dg, .int t1, .int t2, .int am]))]) rfl ⟨by decide, by decide⟩ (by decide) (ci := 0) (q0 := 0) rfl rfl rfl rfl hl.1 rfl (Nat.le_of_ble_eq_true rfl) dX8_winningMoves_16 ⟨Nat.le_trans (Nat.le_of_ble_eq_true rfl) hRc, Nat.le_trans (Nat.le_of_ble_eq_true rfl) hRs⟩ (fun H locs hP hD hS => ?_)
  have hP : va_P g.1 vwCl [(hg, .inr (8, [.ref st, .ref tr, .ref sa, .ref sk, .ref sv, .ref mt, .ref ml, .ref ad, .ref kw])), (st, .inr (7, [.ref b, .int sd, .int mv, .int gm, va_rf lt, .int w1, .int w2, .int dg, .int t1, .int t2, .int am])), (ad, .inr (0, [.ref be, .ref rp, .ref rl])), (rp, .inr (1, [.ref rc, .int r_3.2.2.1, .int r_3.2.2.2.1])), (rc, .inl (g.2.1, 49, .inl r_3.2.1)), (rl, .inr (3, [.ref rm, .int r_3.2.2.2.2.2])), (rm, .inl (g.2.1, 588, .inl r_3.2.2.2.2.1)), (b, .inr (1, [.ref ca, .int kk, .int sg])), (ca, .inl (g.2.1, 49, .inl f))] H := hP
  have hD : va_D A [(hg, .inr (8, [.ref st, .ref tr, .ref sa, .ref sk, .ref sv, .ref mt, .ref ml, .ref ad, .ref kw])), (st, .inr (7, [.ref b, .int sd, .int mv, .int gm, va_rf lt, .int w1, .int w2, .int dg, .int t1, .int t2, .int am])), (ad, .inr (0, [.ref be, .ref rp, .ref rl])), (rp, .inr (1, [.ref rc, .int r_3.2.2.1, .int r_3.2.2.2.1])), (rc, .inl (g.2.1, 49, .inl r_3.2.1)), (rl, .inr (3, [.ref rm, .int r_3.2.2.2.2.2])), (rm, .inl (g.2.1, 588, .inl r_3.2.2.2.2.1)), (b, .inr (1, [.ref ca, .int kk, .int sg])), (ca, .inl (g.2.1, 49, .inl f))] := hD
  have hP : va_P g.1 vwCl [(hg, .inr (8, [.ref st, .ref tr, .ref sa, .ref sk, .ref sv, .ref mt, .ref ml, .ref ad, .ref kw])), (st, .inr (7, [.ref b, .int sd, .int mv, .int gm, va_rf lt, .int w1, .int w2, .int dg, .int t1, .int t2, .int am])), (b, .inr (1, [.ref ca, .int kk, .int sg])), (ca, .inl (g.2.1, 49, .inl f)), (ad, .inr (0, [.ref be, .ref rp, .ref rl])), (rp, .inr (1, [.ref rc, .int r_3.2.2.1, .int r_3.2.2.2.1])), (rc, .inl (g.2.1, 49, .inl r_3.2.1)), (rl, .inr (3, [.ref rm, .int r_3.2.2.2.2.2])), (rm, .inl (g.2.1, 588, .inl r_3.2.2.2.2.1))] H := hP.sub [0, 1, 7, 8, 2, 3, 4, 5, 6] rfl
  have hD : va_D A [(hg, .inr (8, [.ref st, .ref tr, .ref sa, .ref sk, .ref sv, .ref mt, .ref ml, .ref ad, .ref kw])), (st, .inr (7, [.ref b, .int sd, .int mv, .int gm, va_rf lt, .int w1, .int w2, .int dg, .int t1, .int t2, .int am])), (b, .inr (1, [.ref ca, .int kk, .int sg])), (ca, .inl (g.2.1, 49, .inl f)), (ad, .inr (0, [.ref be, .ref rp, .ref rl])), (rp, .inr (1, [.ref rc, .int r_3.2.2.1, .int r_3.2.2.2.1])), (rc, .inl (g.2.1, 49, .inl r_3.2.1)), (rl, .inr (3, [.ref rm, .int r_3.2.2.2.2.2])), (rm, .inl (g.2.1, 588, .inl r_3.2.2.2.2.1))] := hD.sub [0, 1, 7, 8, 2, 3, 4, 5, 6] (by decide) rfl
  have hyp := some_e hyp
  subst hyp
  subst hQ
  exact xrI (na := s.heap.size) hx hb hr hlocks (Nat.le_refl _) hP hD hS (Nat.le_of_ble_eq_true rfl) (Nat.le_of_ble_eq_true rfl) dX8_winningMoves_19

def fX8_moveAt (f : Nat → Int32) (cnt : Int32) (mf : Nat → Int32) (a1 : Int32) (a2 : Int32) : Option (Nat × Int32 × (Nat → Int32) × Int32) :=
  (fX8_needSide a1).bind (fun (r_1 : Nat) => if r_1 = 0 then ((fX1_listMoves f mf a1).bind (fun (r_3 : (Nat → Int32) × Int32) => jn (some (1, 0, r_3.1, r_3.2)) (fun J_4 => if a2 < 0 then (J_4) else (if a2 < r_3.2 then ((fX3_codeAt r_3.2 r_3.1 a2).bind (fun (r_7 : Int32) => some (0, r_7, r_3.1, r_3.2))) else (J_4))))) else (some (r_1, 0, mf, cnt)))
set_option maxRecDepth 100000 in
set_option maxHeartbeats 4000000 in
theorem mX8_moveAt (l : Launch) (hl0 : l.stackTraces = false) (g : GE) (hg st b ca ml mc tr sa sk sv mt ad kw zc zp : Nat) (sd : Int32) (mv : Int32) (gm : Int32) (lt : Option Nat) (w1 : Int32) (w2 : Int32) (dg : Int32) (t1 : Int32) (t2 : Int32) (am : Int32) (kk : Int32) (sg : Int32) (f : Nat → Int32) (cnt : Int32) (mf : Nat → Int32) (a1 : Int32) (a2 : Int32) (r : Nat × Int32 × (Nat → Int32) × Int32) (hyp : fX8_moveAt f cnt mf a1 a2 = some r) : XM l yX8_moveAt cX8_moveAt 3 (some .int) 7 110 2 12 g [(hg, .inr (8, [.ref st, .ref tr, .ref sa, .ref sk, .ref sv, .ref mt, .ref ml, .ref ad, .ref kw])), (st, .inr (7, [.ref b, .int sd, .int mv, .int gm, va_rf lt, .int w1, .int w2, .int dg, .int t1, .int t2, .int am])), (b, .inr (1, [.ref ca, .int kk, .int sg])), (ca, .inl (g.2.1, 49, .inl f)), (ml, .inr (3, [.ref mc, .int cnt])), (mc, .inl (g.2.1, 588, .inl mf))] (OZ g zc zp [] none) [.ref hg, .int a1, .int a2] r.1 (some (.int r.2.1)) (fun na => [(hg, .inr (8, [.ref st, .ref tr, .ref sa, .ref sk, .ref sv, .ref mt, .ref ml, .ref ad, .ref kw])), (st, .inr (7, [.ref b, .int sd, .int mv, .int gm, va_rf lt, .int w1, .int w2, .int dg, .int t1, .int t2, .int am])), (b, .inr (1, [.ref ca, .int kk, .int sg])), (ca, .inl (g.2.1, 49, .inl f)), (ml, .inr (3, [.ref mc, .int r.2.2.2])), (mc, .inl (g.2.1, 588, .inl r.2.2.1))]) (fun _ => [(hg, .inr (8, [.ref st, .ref tr, .ref sa, .ref sk, .ref sv, .ref mt, .ref ml, .ref ad, .ref kw])), (st, .inr (7, [.ref b, .int sd, .int mv, .int gm, va_rf lt, .int w1, .int w2, .int dg, .int t1, .int t2, .int am])), (b, .inr (1, [.ref ca, .int kk, .int sg])), (ca, .inl (g.2.1, 49, .inl f)), (ml, .inr (3, [.ref mc, .int r.2.2.2])), (mc, .inl (g.2.1, 588, .inl r.2.2.1))]) := by
  refine metX_intro (by decide) rfl ?_
  intro p e R s m args below meth c Q A hRf hRl hRc hRs hQ hx hb hml hr hlocks hex hown hts hin hE hSR hA hO H locs hP hD hS ls hl
  have hown : s.vm.findClass "HallGuards" = some m.cls := hown
  have hl : lv_has ls 3 [(0, .ref hg), (1, .int a1), (2, .int a2)] := hl
  unfold fX8_moveAt at hyp
  refine lv_iload_n hx hb dX8_moveAt_0 rfl (lv_at hl 1 rfl) ?_
  obtain ⟨r_1, hr_1, hyp⟩ := opt_e hyp
  refine xS (As := [.int a1]) (rest := []) ⟨hx, hb, hml, hown, hts⟩ hE hSR (mX8_needSide l hl0 g zc zp a1 r_1 hr_1) (OZ_ok g zc zp _ _) hO cf_X8_needSide st_X8_needSide ml_X8_113 ⟨Nat.le_trans (Nat.le_of_ble_eq_true rfl) hRf, Nat.le_trans (Nat.le_of_ble_eq_true rfl) hRl⟩ hP hD hS hA [] [0, 1, 2, 3, 4, 5] rfl (wr := [(hg, .inr (8, [.ref st, .ref tr, .ref sa, .ref sk, .ref sv, .ref mt, .ref ml, .ref ad, .ref kw])), (st, .inr (7, [.ref b, .int sd, .int mv, .int gm, va_rf lt, .int w1, .int w2, .int dg, .int t1, .int t2, .int am])), (b, .inr (1, [.ref ca, .int kk, .int sg])), (ca, .inl (g.2.1, 49, .inl f)), (ml, .inr (3, [.ref mc, .int cnt])), (mc, .inl (g.2.1, 588, .inl mf))]) rfl ⟨by decide, by decide⟩ (by decide) rfl hl.1 rfl (Nat.le_of_ble_eq_true rfl) dX8_moveAt_1 ⟨Nat.le_trans (Nat.le_of_ble_eq_true rfl) hRc, Nat.le_trans (Nat.le_of_ble_eq_true rfl) hRs⟩ (fun hk0 na_2 H locs hna_2 hP hD hS => ?_) (fun hk0 na9 q9 ce9 H locs hna9 hP hD hS hce hcv hcl => ?_)
  rotate_left 1
  · replace hyp := ite_f hk0 hyp
    have hP : va_P g.1 vwCl [(hg, .inr (8, [.ref st, .ref tr, .ref sa, .ref sk, .ref sv, .ref mt, .ref ml, .ref ad, .ref kw])), (st, .inr (7, [.ref b, .int sd, .int mv, .int gm, va_rf lt, .int w1, .int w2, .int dg, .int t1, .int t2, .int am])), (b, .inr (1, [.ref ca, .int kk, .int sg])), (ca, .inl (g.2.1, 49, .inl f)), (ml, .inr (3, [.ref mc, .int cnt])), (mc, .inl (g.2.1, 588, .inl mf))] H := hP
    have hD : va_D A [(hg, .inr (8, [.ref st, .ref tr, .ref sa, .ref sk, .ref sv, .ref mt, .ref ml, .ref ad, .ref kw])), (st, .inr (7, [.ref b, .int sd, .int mv, .int gm, va_rf lt, .int w1, .int w2, .int dg, .int t1, .int t2, .int am])), (b, .inr (1, [.ref ca, .int kk, .int sg])), (ca, .inl (g.2.1, 49, .inl f)), (ml, .inr (3, [.ref mc, .int cnt])), (mc, .inl (g.2.1, 588, .inl mf))] := hD
    have hyp := some_e hyp
    subst hyp
    subst hQ
    exact xOut hex hlocks hk0 (Nat.le_refl _) hP hD hS hce hcv hcl (Nat.le_of_ble_eq_true rfl) (Nat.le_of_ble_eq_true rfl)
  replace hyp := ite_t hk0 hyp
  have hP : va_P g.1 vwCl [(hg, .inr (8, [.ref st, .ref tr, .ref sa, .ref sk, .ref sv, .ref mt, .ref ml, .ref ad, .ref kw])), (st, .inr (7, [.ref b, .int sd, .int mv, .int gm, va_rf lt, .int w1, .int w2, .int dg, .int t1, .int t2, .int am])), (b, .inr (1, [.ref ca, .int kk, .int sg])), (ca, .inl (g.2.1, 49, .inl f)), (ml, .inr (3, [.ref mc, .int cnt])), (mc, .inl (g.2.1, 588, .inl mf))] H := hP
  have hD : va_D A [(hg, .inr (8, [.ref st, .ref tr, .ref sa, .ref sk, .ref sv, .ref mt, .ref ml, .ref ad, .ref kw])), (st, .inr (7, [.ref b, .int sd, .int mv, .int gm, va_rf lt, .int w1, .int w2, .int dg, .int t1, .int t2, .int am])), (b, .inr (1, [.ref ca, .int kk, .int sg])), (ca, .inl (g.2.1, 49, .inl f)), (ml, .inr (3, [.ref mc, .int cnt])), (mc, .inl (g.2.1, 588, .inl mf))] := hD
  refine lv_aload_n hx hb dX8_moveAt_4 rfl (lv_at hl 0 rfl) ?_
  refine gf_X8_12 hx hb hts hown hE hP 0 rfl rfl dX8_moveAt_5 ?_
  refine gf_X8_69 hx hb hts hown hE hP 1 rfl rfl dX8_moveAt_8 ?_
  refine lv_iload_n hx hb dX8_moveAt_11 rfl (lv_at hl 1 rfl) ?_
  refine lv_aload_n hx hb dX8_moveAt_12 rfl (lv_at hl 0 rfl) ?_
  refine gf_X8_44 hx hb hts hown hE hP 0 rfl rfl dX8_moveAt_13 ?_
  obtain ⟨r_3, hr_3, hyp⟩ := opt_e hyp
  refine wV (As := [.int a1, .ref ml]) (rest := []) ⟨hx, hb, hml, hown, hts⟩ hE (mX1_listMoves l g b ca ml mc kk sg f cnt mf a1 r_3 hr_3) cf_X1_listMoves im_X1_listMoves se_X1_listMoves ml_X8_246 ⟨Nat.le_trans (Nat.le_of_ble_eq_true rfl) hRf, Nat.le_trans (Nat.le_of_ble_eq_true rfl) hRl⟩ hP hD hS hA [2, 3, 4, 5] [0, 1] rfl (wr := [(hg, .inr (8, [.ref st, .ref tr, .ref sa, .ref sk, .ref sv, .ref mt, .ref ml, .ref ad, .ref kw])), (st, .inr (7, [.ref b, .int sd, .int mv, .int gm, va_rf lt, .int w1, .int w2, .int dg, .int t1, .int t2, .int am]))]) rfl ⟨by decide, by decide⟩ (by decide) (ci := 1) (q0 := 0) rfl rfl rfl rfl hl.1 rfl (Nat.le_of_ble_eq_true rfl) dX8_moveAt_16 ⟨Nat.le_trans (Nat.le_of_ble_eq_true rfl) hRc, Nat.le_trans (Nat.le_of_ble_eq_true rfl) hRs⟩ (fun H locs hP hD hS => ?_)
  have hP : va_P g.1 vwCl [(hg, .inr (8, [.ref st, .ref tr, .ref sa, .ref sk, .ref sv, .ref mt, .ref ml, .ref ad, .ref kw])), (st, .inr (7, [.ref b, .int sd, .int mv, .int gm, va_rf lt, .int w1, .int w2, .int dg, .int t1, .int t2, .int am])), (b, .inr (1, [.ref ca, .int kk, .int sg])), (ca, .inl (g.2.1, 49, .inl f)), (ml, .inr (3, [.ref mc, .int r_3.2])), (mc, .inl (g.2.1, 588, .inl r_3.1))] H := hP
  have hD : va_D A [(hg, .inr (8, [.ref st, .ref tr, .ref sa, .ref sk, .ref sv, .ref mt, .ref ml, .ref ad, .ref kw])), (st, .inr (7, [.ref b, .int sd, .int mv, .int gm, va_rf lt, .int w1, .int w2, .int dg, .int t1, .int t2, .int am])), (b, .inr (1, [.ref ca, .int kk, .int sg])), (ca, .inl (g.2.1, 49, .inl f)), (ml, .inr (3, [.ref mc, .int r_3.2])), (mc, .inl (g.2.1, 588, .inl r_3.1))] := hD
  refine lv_iload_n hx hb dX8_moveAt_19 rfl (lv_at hl 2 rfl) ?_
  obtain ⟨J_4, eJ_4, hyp⟩ := jn_e hyp
  have kJ_4 : ∀ (H : Heap) (locs : List Loc) (ls : Array Slot), J_4 = some r → lv_has ls 3 [] → va_P g.1 vwCl [(hg, .inr (8, [.ref st, .ref tr, .ref sa, .ref sk, .ref sv, .ref mt, .ref ml, .ref ad, .ref kw])), (st, .inr (7, [.ref b, .int sd, .int mv, .int gm, va_rf lt, .int w1, .int w2, .int dg, .int t1, .int t2, .int am])), (b, .inr (1, [.ref ca, .int kk, .int sg])), (ca, .inl (g.2.1, 49, .inl f)), (ml, .inr (3, [.ref mc, .int r_3.2])), (mc, .inl (g.2.1, 588, .inl r_3.1))] H → va_D A [(hg, .inr (8, [.ref st, .ref tr, .ref sa, .ref sk, .ref sv, .ref mt, .ref ml, .ref ad, .ref kw])), (st, .inr (7, [.ref b, .int sd, .int mv, .int gm, va_rf lt, .int w1, .int w2, .int dg, .int t1, .int t2, .int am])), (b, .inr (1, [.ref ca, .int kk, .int sg])), (ca, .inl (g.2.1, 49, .inl f)), (ml, .inr (3, [.ref mc, .int r_3.2])), (mc, .inl (g.2.1, 588, .inl r_3.1))] → va_S A s.heap H locs → W p l e R s m args below meth c H locs 1 6 Q (F0 m 34 ls []) := by
    intro H locs  ls hyp hl hP hD hS
    replace hyp := (eJ_4).symm.trans hyp
    have hyp := some_e hyp
    subst hyp
    subst hQ
    exact xthr (q := (253, "the side has no such move")) (cls := "java/lang/IndexOutOfBoundsException") (by decide) (Nat.succ_ne_zero _) rfl aw1 (by decide) hx hb hl0 hml hlocks hex hown hts hSR hO.2.1 (Nat.le_refl _) hP hD hS hl.1 (Nat.le_of_ble_eq_true rfl) ⟨Nat.le_trans (Nat.le_of_ble_eq_true rfl) hRf, Nat.le_trans (Nat.le_of_ble_eq_true rfl) hRl⟩ ⟨Nat.le_trans (Nat.le_of_ble_eq_true rfl) hRc, Nat.le_trans (Nat.le_of_ble_eq_true rfl) hRs⟩ ⟨Nat.le_of_ble_eq_true rfl, Nat.le_of_ble_eq_true rfl⟩ dX8_moveAt_34 dX8_moveAt_37 (Or.inl ⟨dX8_moveAt_38, dX8_moveAt_40, dX8_moveAt_43⟩)
  refine lv_if_lt (tgt := 34) hx hb dX8_moveAt_20 (by decide) (fun h_5 => ?_) (fun h_5 => ?_)
  · replace hyp := ite_t h_5 hyp
    exact kJ_4 H locs ls hyp (lv_sub hl [] rfl) hP hD hS
  · replace hyp := ite_f h_5 hyp
    refine lv_iload_n hx hb dX8_moveAt_23 rfl (lv_at hl 2 rfl) ?_
    refine lv_aload_n hx hb dX8_moveAt_24 rfl (lv_at hl 0 rfl) ?_
    refine gf_X8_44 hx hb hts hown hE hP 0 rfl rfl dX8_moveAt_25 ?_
    refine gf_X8_250 hx hb hts hown hE hP 4 rfl rfl dX8_moveAt_28 ?_
    refine lv_icmp_lt (tgt := 44) hx hb dX8_moveAt_31 (by decide) (fun h_6 => ?_) (fun h_6 => ?_)
    · replace hyp := ite_t h_6 hyp
      refine lv_aload_n hx hb dX8_moveAt_44 rfl (lv_at hl 0 rfl) ?_
      refine gf_X8_44 hx hb hts hown hE hP 0 rfl rfl dX8_moveAt_45 ?_
      refine lv_iload_n hx hb dX8_moveAt_48 rfl (lv_at hl 2 rfl) ?_
      obtain ⟨r_7, hr_7, hyp⟩ := opt_e hyp
      refine pV (As := [.int a2]) (rest := []) ⟨hx, hb, hml, hown, hts⟩ hE (mX3_codeAt l g ml mc r_3.2 r_3.1 a2 r_7 hr_7) cf_X3_codeAt im_X3_codeAt se_X3_codeAt ml_X8_256 ⟨Nat.le_trans (Nat.le_of_ble_eq_true rfl) hRf, Nat.le_trans (Nat.le_of_ble_eq_true rfl) hRl⟩ (hP.sub (ws' := [(ml, .inr (3, [.ref mc, .int r_3.2])), (mc, .inl (g.2.1, 588, .inl r_3.1))]) [4, 5] rfl) (ci := 3) (q0 := 0) rfl rfl rfl rfl hl.1 rfl (Nat.le_of_ble_eq_true rfl) dX8_moveAt_49 ⟨Nat.le_trans (Nat.le_of_ble_eq_true rfl) hRc, Nat.le_trans (Nat.le_of_ble_eq_true rfl) hRs⟩ ?_
      have hyp := some_e hyp
      subst hyp
      subst hQ
      exact xrI (na := s.heap.size) hx hb hr hlocks (Nat.le_refl _) hP hD hS (Nat.le_of_ble_eq_true rfl) (Nat.le_of_ble_eq_true rfl) dX8_moveAt_52
    · replace hyp := ite_f h_6 hyp
      exact kJ_4 H locs ls hyp (lv_sub hl [] rfl) hP hD hS

def fX8_kingMovesByRounds (kk : Int32) (f : Nat → Int32) (krf : Nat → Int32) (kqf : Nat → Int32) : Option (Nat × Int32 × (Nat → Int32) × (Nat → Int32) × Int32) :=
  (fX2_byRounds krf kqf kk f).bind (fun (r_1 : Int32 × (Nat → Int32) × (Nat → Int32) × Int32) => if 0 ≤ r_1.1 then (some (0, r_1.1, r_1.2.1, r_1.2.2.1, r_1.2.2.2)) else (some (3, 0, r_1.2.1, r_1.2.2.1, r_1.2.2.2)))
set_option maxRecDepth 100000 in
set_option maxHeartbeats 4000000 in
theorem mX8_kingMovesByRounds (l : Launch) (hl0 : l.stackTraces = false) (g : GE) (hg st b ca kw kr kq tr sa sk sv mt ml ad zc zp : Nat) (sd : Int32) (mv : Int32) (gm : Int32) (lt : Option Nat) (w1 : Int32) (w2 : Int32) (dg : Int32) (t1 : Int32) (t2 : Int32) (am : Int32) (kk : Int32) (sg : Int32) (f : Nat → Int32) (kc : Int32) (krf : Nat → Int32) (kqf : Nat → Int32) (r : Nat × Int32 × (Nat → Int32) × (Nat → Int32) × Int32) (hyp : fX8_kingMovesByRounds kk f krf kqf = some r) : XM l yX8_kingMovesByRounds cX8_kingMovesByRounds 2 (some .int) 6 118 1 6 g [(hg, .inr (8, [.ref st, .ref tr, .ref sa, .ref sk, .ref sv, .ref mt, .ref ml, .ref ad, .ref kw])), (st, .inr (7, [.ref b, .int sd, .int mv, .int gm, va_rf lt, .int w1, .int w2, .int dg, .int t1, .int t2, .int am])), (b, .inr (1, [.ref ca, .int kk, .int sg])), (ca, .inl (g.2.1, 49, .inl f)), (kw, .inr (2, [.ref kr, .ref kq, .int kc])), (kr, .inl (g.2.1, 49, .inl krf)), (kq, .inl (g.2.1, 49, .inl kqf))] (OZ g zc zp [] none) [.ref hg] r.1 (some (.int r.2.1)) (fun na => [(hg, .inr (8, [.ref st, .ref tr, .ref sa, .ref sk, .ref sv, .ref mt, .ref ml, .ref ad, .ref kw])), (st, .inr (7, [.ref b, .int sd, .int mv, .int gm, va_rf lt, .int w1, .int w2, .int dg, .int t1, .int t2, .int am])), (b, .inr (1, [.ref ca, .int kk, .int sg])), (ca, .inl (g.2.1, 49, .inl f)), (kw, .inr (2, [.ref kr, .ref kq, .int r.2.2.2.2])), (kr, .inl (g.2.1, 49, .inl r.2.2.1)), (kq, .inl (g.2.1, 49, .inl r.2.2.2.1))]) (fun _ => [(hg, .inr (8, [.ref st, .ref tr, .ref sa, .ref sk, .ref sv, .ref mt, .ref ml, .ref ad, .ref kw])), (st, .inr (7, [.ref b, .int sd, .int mv, .int gm, va_rf lt, .int w1, .int w2, .int dg, .int t1, .int t2, .int am])), (b, .inr (1, [.ref ca, .int kk, .int sg])), (ca, .inl (g.2.1, 49, .inl f)), (kw, .inr (2, [.ref kr, .ref kq, .int r.2.2.2.2])), (kr, .inl (g.2.1, 49, .inl r.2.2.1)), (kq, .inl (g.2.1, 49, .inl r.2.2.2.1))]) := by
  refine metX_intro (by decide) rfl ?_
  intro p e R s m args below meth c Q A hRf hRl hRc hRs hQ hx hb hml hr hlocks hex hown hts hin hE hSR hA hO H locs hP hD hS ls hl
  have hown : s.vm.findClass "HallGuards" = some m.cls := hown
  have hl : lv_has ls 2 [(0, .ref hg)] := hl
  unfold fX8_kingMovesByRounds at hyp
  refine lv_aload_n hx hb dX8_kingMovesByRounds_0 rfl (lv_at hl 0 rfl) ?_
  refine gf_X8_58 hx hb hts hown hE hP 0 rfl rfl dX8_kingMovesByRounds_1 ?_
  refine lv_aload_n hx hb dX8_kingMovesByRounds_4 rfl (lv_at hl 0 rfl) ?_
  refine gf_X8_12 hx hb hts hown hE hP 0 rfl rfl dX8_kingMovesByRounds_5 ?_
  refine gf_X8_69 hx hb hts hown hE hP 1 rfl rfl dX8_kingMovesByRounds_8 ?_
  obtain ⟨r_1, hr_1, hyp⟩ := opt_e hyp
  refine wVO (As := [.ref b]) (rest := []) ⟨hx, hb, hml, hown, hts⟩ hE (mX2_byRounds l g kw kr kq b ca zc zp kc krf kqf kk sg f r_1 hr_1) (OS_ok zc zp) hO.1 cf_X2_byRounds im_X2_byRounds se_X2_byRounds ml_X8_259 ⟨Nat.le_trans (Nat.le_of_ble_eq_true rfl) hRf, Nat.le_trans (Nat.le_of_ble_eq_true rfl) hRl⟩ hP hD hS hA [4, 5, 6, 2, 3] [0, 1] rfl (wr := [(hg, .inr (8, [.ref st, .ref tr, .ref sa, .ref sk, .ref sv, .ref mt, .ref ml, .ref ad, .ref kw])), (st, .inr (7, [.ref b, .int sd, .int mv, .int gm, va_rf lt, .int w1, .int w2, .int dg, .int t1, .int t2, .int am]))]) rfl ⟨by decide, by decide⟩ (by decide) (ci := 2) (q0 := 0) rfl rfl rfl rfl hl.1 rfl (Nat.le_of_ble_eq_true rfl) dX8_kingMovesByRounds_11 ⟨Nat.le_trans (Nat.le_of_ble_eq_true rfl) hRc, Nat.le_trans (Nat.le_of_ble_eq_true rfl) hRs⟩ (fun H locs hP hD hS => ?_)
  have hP : va_P g.1 vwCl [(hg, .inr (8, [.ref st, .ref tr, .ref sa, .ref sk, .ref sv, .ref mt, .ref ml, .ref ad, .ref kw])), (st, .inr (7, [.ref b, .int sd, .int mv, .int gm, va_rf lt, .int w1, .int w2, .int dg, .int t1, .int t2, .int am])), (kw, .inr (2, [.ref kr, .ref kq, .int r_1.2.2.2])), (kr, .inl (g.2.1, 49, .inl r_1.2.1)), (kq, .inl (g.2.1, 49, .inl r_1.2.2.1)), (b, .inr (1, [.ref ca, .int kk, .int sg])), (ca, .inl (g.2.1, 49, .inl f))] H := hP
  have hD : va_D A [(hg, .inr (8, [.ref st, .ref tr, .ref sa, .ref sk, .ref sv, .ref mt, .ref ml, .ref ad, .ref kw])), (st, .inr (7, [.ref b, .int sd, .int mv, .int gm, va_rf lt, .int w1, .int w2, .int dg, .int t1, .int t2, .int am])), (kw, .inr (2, [.ref kr, .ref kq, .int r_1.2.2.2])), (kr, .inl (g.2.1, 49, .inl r_1.2.1)), (kq, .inl (g.2.1, 49, .inl r_1.2.2.1)), (b, .inr (1, [.ref ca, .int kk, .int sg])), (ca, .inl (g.2.1, 49, .inl f))] := hD
  refine lv_istore_n (lv' := [(1, .int r_1.1), (0, .ref hg)]) hx hb dX8_kingMovesByRounds_14 rfl hl (by decide) rfl (fun ls hl => ?_)
  refine lv_iload_n hx hb dX8_kingMovesByRounds_15 rfl (lv_at hl 0 rfl) ?_
  refine lv_if_ge (tgt := 30) hx hb dX8_kingMovesByRounds_16 (by decide) (fun h_2 => ?_) (fun h_2 => ?_)
  · replace hyp := ite_t h_2 hyp
    refine lv_iload_n hx hb dX8_kingMovesByRounds_30 rfl (lv_at hl 0 rfl) ?_
    have hP : va_P g.1 vwCl [(hg, .inr (8, [.ref st, .ref tr, .ref sa, .ref sk, .ref sv, .ref mt, .ref ml, .ref ad, .ref kw])), (st, .inr (7, [.ref b, .int sd, .int mv, .int gm, va_rf lt, .int w1, .int w2, .int dg, .int t1, .int t2, .int am])), (b, .inr (1, [.ref ca, .int kk, .int sg])), (ca, .inl (g.2.1, 49, .inl f)), (kw, .inr (2, [.ref kr, .ref kq, .int r_1.2.2.2])), (kr, .inl (g.2.1, 49, .inl r_1.2.1)), (kq, .inl (g.2.1, 49, .inl r_1.2.2.1))] H := hP.sub [0, 1, 5, 6, 2, 3, 4] rfl
    have hD : va_D A [(hg, .inr (8, [.ref st, .ref tr, .ref sa, .ref sk, .ref sv, .ref mt, .ref ml, .ref ad, .ref kw])), (st, .inr (7, [.ref b, .int sd, .int mv, .int gm, va_rf lt, .int w1, .int w2, .int dg, .int t1, .int t2, .int am])), (b, .inr (1, [.ref ca, .int kk, .int sg])), (ca, .inl (g.2.1, 49, .inl f)), (kw, .inr (2, [.ref kr, .ref kq, .int r_1.2.2.2])), (kr, .inl (g.2.1, 49, .inl r_1.2.1)), (kq, .inl (g.2.1, 49, .inl r_1.2.2.1))] := hD.sub [0, 1, 5, 6, 2, 3, 4] (by decide) rfl
    have hyp := some_e hyp
    subst hyp
    subst hQ
    exact xrI (na := s.heap.size) hx hb hr hlocks (Nat.le_refl _) hP hD hS (Nat.le_of_ble_eq_true rfl) (Nat.le_of_ble_eq_true rfl) dX8_kingMovesByRounds_31
  · replace hyp := ite_f h_2 hyp
    have hP : va_P g.1 vwCl [(hg, .inr (8, [.ref st, .ref tr, .ref sa, .ref sk, .ref sv, .ref mt, .ref ml, .ref ad, .ref kw])), (st, .inr (7, [.ref b, .int sd, .int mv, .int gm, va_rf lt, .int w1, .int w2, .int dg, .int t1, .int t2, .int am])), (b, .inr (1, [.ref ca, .int kk, .int sg])), (ca, .inl (g.2.1, 49, .inl f)), (kw, .inr (2, [.ref kr, .ref kq, .int r_1.2.2.2])), (kr, .inl (g.2.1, 49, .inl r_1.2.1)), (kq, .inl (g.2.1, 49, .inl r_1.2.2.1))] H := hP.sub [0, 1, 5, 6, 2, 3, 4] rfl
    have hD : va_D A [(hg, .inr (8, [.ref st, .ref tr, .ref sa, .ref sk, .ref sv, .ref mt, .ref ml, .ref ad, .ref kw])), (st, .inr (7, [.ref b, .int sd, .int mv, .int gm, va_rf lt, .int w1, .int w2, .int dg, .int t1, .int t2, .int am])), (b, .inr (1, [.ref ca, .int kk, .int sg])), (ca, .inl (g.2.1, 49, .inl f)), (kw, .inr (2, [.ref kr, .ref kq, .int r_1.2.2.2])), (kr, .inl (g.2.1, 49, .inl r_1.2.1)), (kq, .inl (g.2.1, 49, .inl r_1.2.2.1))] := hD.sub [0, 1, 5, 6, 2, 3, 4] (by decide) rfl
    have hyp := some_e hyp
    subst hyp
    subst hQ
    exact xthr (q := (263, "no king can come to a corner")) (cls := "java/lang/IllegalStateException") (by decide) (Nat.succ_ne_zero _) rfl aw3 (by decide) hx hb hl0 hml hlocks hex hown hts hSR hO.2.1 (Nat.le_refl _) hP hD hS hl.1 (Nat.le_of_ble_eq_true rfl) ⟨Nat.le_trans (Nat.le_of_ble_eq_true rfl) hRf, Nat.le_trans (Nat.le_of_ble_eq_true rfl) hRl⟩ ⟨Nat.le_trans (Nat.le_of_ble_eq_true rfl) hRc, Nat.le_trans (Nat.le_of_ble_eq_true rfl) hRs⟩ ⟨Nat.le_of_ble_eq_true rfl, Nat.le_of_ble_eq_true rfl⟩ dX8_kingMovesByRounds_19 dX8_kingMovesByRounds_22 (Or.inr ⟨dX8_kingMovesByRounds_23, dX8_kingMovesByRounds_26, dX8_kingMovesByRounds_29⟩)

def fX8_kingMovesByCorners (kk : Int32) (f : Nat → Int32) (kc : Int32) (krf : Nat → Int32) (kqf : Nat → Int32) : Option (Nat × Int32 × (Nat → Int32) × (Nat → Int32) × Int32) :=
  (fX2_byCorners kc krf kqf kk f).bind (fun (r_1 : Int32 × (Nat → Int32) × (Nat → Int32) × Int32) => if 0 ≤ r_1.1 then (some (0, r_1.1, r_1.2.1, r_1.2.2.1, r_1.2.2.2)) else (some (3, 0, r_1.2.1, r_1.2.2.1, r_1.2.2.2)))
set_option maxRecDepth 100000 in
set_option maxHeartbeats 4000000 in
theorem mX8_kingMovesByCorners (l : Launch) (hl0 : l.stackTraces = false) (g : GE) (hg st b ca kw kr kq tr sa sk sv mt ml ad zc zp : Nat) (sd : Int32) (mv : Int32) (gm : Int32) (lt : Option Nat) (w1 : Int32) (w2 : Int32) (dg : Int32) (t1 : Int32) (t2 : Int32) (am : Int32) (kk : Int32) (sg : Int32) (f : Nat → Int32) (kc : Int32) (krf : Nat → Int32) (kqf : Nat → Int32) (r : Nat × Int32 × (Nat → Int32) × (Nat → Int32) × Int32) (hyp : fX8_kingMovesByCorners kk f kc krf kqf = some r) : XM l yX8_kingMovesByCorners cX8_kingMovesByCorners 2 (some .int) 6 118 1 6 g [(hg, .inr (8, [.ref st, .ref tr, .ref sa, .ref sk, .ref sv, .ref mt, .ref ml, .ref ad, .ref kw])), (st, .inr (7, [.ref b, .int sd, .int mv, .int gm, va_rf lt, .int w1, .int w2, .int dg, .int t1, .int t2, .int am])), (b, .inr (1, [.ref ca, .int kk, .int sg])), (ca, .inl (g.2.1, 49, .inl f)), (kw, .inr (2, [.ref kr, .ref kq, .int kc])), (kr, .inl (g.2.1, 49, .inl krf)), (kq, .inl (g.2.1, 49, .inl kqf))] (OZ g zc zp [] none) [.ref hg] r.1 (some (.int r.2.1)) (fun na => [(hg, .inr (8, [.ref st, .ref tr, .ref sa, .ref sk, .ref sv, .ref mt, .ref ml, .ref ad, .ref kw])), (st, .inr (7, [.ref b, .int sd, .int mv, .int gm, va_rf lt, .int w1, .int w2, .int dg, .int t1, .int t2, .int am])), (b, .inr (1, [.ref ca, .int kk, .int sg])), (ca, .inl (g.2.1, 49, .inl f)), (kw, .inr (2, [.ref kr, .ref kq, .int r.2.2.2.2])), (kr, .inl (g.2.1, 49, .inl r.2.2.1)), (kq, .inl (g.2.1, 49, .inl r.2.2.2.1))]) (fun _ => [(hg, .inr (8, [.ref st, .ref tr, .ref sa, .ref sk, .ref sv, .ref mt, .ref ml, .ref ad, .ref kw])), (st, .inr (7, [.ref b, .int sd, .int mv, .int gm, va_rf lt, .int w1, .int w2, .int dg, .int t1, .int t2, .int am])), (b, .inr (1, [.ref ca, .int kk, .int sg])), (ca, .inl (g.2.1, 49, .inl f)), (kw, .inr (2, [.ref kr, .ref kq, .int r.2.2.2.2])), (kr, .inl (g.2.1, 49, .inl r.2.2.1)), (kq, .inl (g.2.1, 49, .inl r.2.2.2.1))]) := by
  refine metX_intro (by decide) rfl ?_
  intro p e R s m args below meth c Q A hRf hRl hRc hRs hQ hx hb hml hr hlocks hex hown hts hin hE hSR hA hO H locs hP hD hS ls hl
  have hown : s.vm.findClass "HallGuards" = some m.cls := hown
  have hl : lv_has ls 2 [(0, .ref hg)] := hl
  unfold fX8_kingMovesByCorners at hyp
  refine lv_aload_n hx hb dX8_kingMovesByCorners_0 rfl (lv_at hl 0 rfl) ?_
  refine gf_X8_58 hx hb hts hown hE hP 0 rfl rfl dX8_kingMovesByCorners_1 ?_
  refine lv_aload_n hx hb dX8_kingMovesByCorners_4 rfl (lv_at hl 0 rfl) ?_
  refine gf_X8_12 hx hb hts hown hE hP 0 rfl rfl dX8_kingMovesByCorners_5 ?_
  refine gf_X8_69 hx hb hts hown hE hP 1 rfl rfl dX8_kingMovesByCorners_8 ?_
  obtain ⟨r_1, hr_1, hyp⟩ := opt_e hyp
  refine wVO (As := [.ref b]) (rest := []) ⟨hx, hb, hml, hown, hts⟩ hE (mX2_byCorners l g kw kr kq b ca zc zp kc krf kqf kk sg f r_1 hr_1) (OS_ok zc zp) hO.1 cf_X2_byCorners im_X2_byCorners se_X2_byCorners ml_X8_265 ⟨Nat.le_trans (Nat.le_of_ble_eq_true rfl) hRf, Nat.le_trans (Nat.le_of_ble_eq_true rfl) hRl⟩ hP hD hS hA [4, 5, 6, 2, 3] [0, 1] rfl (wr := [(hg, .inr (8, [.ref st, .ref tr, .ref sa, .ref sk, .ref sv, .ref mt, .ref ml, .ref ad, .ref kw])), (st, .inr (7, [.ref b, .int sd, .int mv, .int gm, va_rf lt, .int w1, .int w2, .int dg, .int t1, .int t2, .int am]))]) rfl ⟨by decide, by decide⟩ (by decide) (ci := 2) (q0 := 0) rfl rfl rfl rfl hl.1 rfl (Nat.le_of_ble_eq_true rfl) dX8_kingMovesByCorners_11 ⟨Nat.le_trans (Nat.le_of_ble_eq_true rfl) hRc, Nat.le_trans (Nat.le_of_ble_eq_true rfl) hRs⟩ (fun H locs hP hD hS => ?_)
  have hP : va_P g.1 vwCl [(hg, .inr (8, [.ref st, .ref tr, .ref sa, .ref sk, .ref sv, .ref mt, .ref ml, .ref ad, .ref kw])), (st, .inr (7, [.ref b, .int sd, .int mv, .int gm, va_rf lt, .int w1, .int w2, .int dg, .int t1, .int t2, .int am])), (kw, .inr (2, [.ref kr, .ref kq, .int r_1.2.2.2])), (kr, .inl (g.2.1, 49, .inl r_1.2.1)), (kq, .inl (g.2.1, 49, .inl r_1.2.2.1)), (b, .inr (1, [.ref ca, .int kk, .int sg])), (ca, .inl (g.2.1, 49, .inl f))] H := hP
  have hD : va_D A [(hg, .inr (8, [.ref st, .ref tr, .ref sa, .ref sk, .ref sv, .ref mt, .ref ml, .ref ad, .ref kw])), (st, .inr (7, [.ref b, .int sd, .int mv, .int gm, va_rf lt, .int w1, .int w2, .int dg, .int t1, .int t2, .int am])), (kw, .inr (2, [.ref kr, .ref kq, .int r_1.2.2.2])), (kr, .inl (g.2.1, 49, .inl r_1.2.1)), (kq, .inl (g.2.1, 49, .inl r_1.2.2.1)), (b, .inr (1, [.ref ca, .int kk, .int sg])), (ca, .inl (g.2.1, 49, .inl f))] := hD
  refine lv_istore_n (lv' := [(1, .int r_1.1), (0, .ref hg)]) hx hb dX8_kingMovesByCorners_14 rfl hl (by decide) rfl (fun ls hl => ?_)
  refine lv_iload_n hx hb dX8_kingMovesByCorners_15 rfl (lv_at hl 0 rfl) ?_
  refine lv_if_ge (tgt := 30) hx hb dX8_kingMovesByCorners_16 (by decide) (fun h_2 => ?_) (fun h_2 => ?_)
  · replace hyp := ite_t h_2 hyp
    refine lv_iload_n hx hb dX8_kingMovesByCorners_30 rfl (lv_at hl 0 rfl) ?_
    have hP : va_P g.1 vwCl [(hg, .inr (8, [.ref st, .ref tr, .ref sa, .ref sk, .ref sv, .ref mt, .ref ml, .ref ad, .ref kw])), (st, .inr (7, [.ref b, .int sd, .int mv, .int gm, va_rf lt, .int w1, .int w2, .int dg, .int t1, .int t2, .int am])), (b, .inr (1, [.ref ca, .int kk, .int sg])), (ca, .inl (g.2.1, 49, .inl f)), (kw, .inr (2, [.ref kr, .ref kq, .int r_1.2.2.2])), (kr, .inl (g.2.1, 49, .inl r_1.2.1)), (kq, .inl (g.2.1, 49, .inl r_1.2.2.1))] H := hP.sub [0, 1, 5, 6, 2, 3, 4] rfl
    have hD : va_D A [(hg, .inr (8, [.ref st, .ref tr, .ref sa, .ref sk, .ref sv, .ref mt, .ref ml, .ref ad, .ref kw])), (st, .inr (7, [.ref b, .int sd, .int mv, .int gm, va_rf lt, .int w1, .int w2, .int dg, .int t1, .int t2, .int am])), (b, .inr (1, [.ref ca, .int kk, .int sg])), (ca, .inl (g.2.1, 49, .inl f)), (kw, .inr (2, [.ref kr, .ref kq, .int r_1.2.2.2])), (kr, .inl (g.2.1, 49, .inl r_1.2.1)), (kq, .inl (g.2.1, 49, .inl r_1.2.2.1))] := hD.sub [0, 1, 5, 6, 2, 3, 4] (by decide) rfl
    have hyp := some_e hyp
    subst hyp
    subst hQ
    exact xrI (na := s.heap.size) hx hb hr hlocks (Nat.le_refl _) hP hD hS (Nat.le_of_ble_eq_true rfl) (Nat.le_of_ble_eq_true rfl) dX8_kingMovesByCorners_31
  · replace hyp := ite_f h_2 hyp
    have hP : va_P g.1 vwCl [(hg, .inr (8, [.ref st, .ref tr, .ref sa, .ref sk, .ref sv, .ref mt, .ref ml, .ref ad, .ref kw])), (st, .inr (7, [.ref b, .int sd, .int mv, .int gm, va_rf lt, .int w1, .int w2, .int dg, .int t1, .int t2, .int am])), (b, .inr (1, [.ref ca, .int kk, .int sg])), (ca, .inl (g.2.1, 49, .inl f)), (kw, .inr (2, [.ref kr, .ref kq, .int r_1.2.2.2])), (kr, .inl (g.2.1, 49, .inl r_1.2.1)), (kq, .inl (g.2.1, 49, .inl r_1.2.2.1))] H := hP.sub [0, 1, 5, 6, 2, 3, 4] rfl
    have hD : va_D A [(hg, .inr (8, [.ref st, .ref tr, .ref sa, .ref sk, .ref sv, .ref mt, .ref ml, .ref ad, .ref kw])), (st, .inr (7, [.ref b, .int sd, .int mv, .int gm, va_rf lt, .int w1, .int w2, .int dg, .int t1, .int t2, .int am])), (b, .inr (1, [.ref ca, .int kk, .int sg])), (ca, .inl (g.2.1, 49, .inl f)), (kw, .inr (2, [.ref kr, .ref kq, .int r_1.2.2.2])), (kr, .inl (g.2.1, 49, .inl r_1.2.1)), (kq, .inl (g.2.1, 49, .inl r_1.2.2.1))] := hD.sub [0, 1, 5, 6, 2, 3, 4] (by decide) rfl
    have hyp := some_e hyp
    subst hyp
    subst hQ
    exact xthr (q := (263, "no king can come to a corner")) (cls := "java/lang/IllegalStateException") (by decide) (Nat.succ_ne_zero _) rfl aw3 (by decide) hx hb hl0 hml hlocks hex hown hts hSR hO.2.1 (Nat.le_refl _) hP hD hS hl.1 (Nat.le_of_ble_eq_true rfl) ⟨Nat.le_trans (Nat.le_of_ble_eq_true rfl) hRf, Nat.le_trans (Nat.le_of_ble_eq_true rfl) hRl⟩ ⟨Nat.le_trans (Nat.le_of_ble_eq_true rfl) hRc, Nat.le_trans (Nat.le_of_ble_eq_true rfl) hRs⟩ ⟨Nat.le_of_ble_eq_true rfl, Nat.le_of_ble_eq_true rfl⟩ dX8_kingMovesByCorners_19 dX8_kingMovesByCorners_22 (Or.inr ⟨dX8_kingMovesByCorners_23, dX8_kingMovesByCorners_26, dX8_kingMovesByCorners_29⟩)

def fX8_openCorners (kk : Int32) (f : Nat → Int32) : Option Int32 :=
  (fX1_countOpenCorners kk f).bind (fun (r_1 : Int32) => some (r_1))
set_option maxRecDepth 100000 in
set_option maxHeartbeats 4000000 in
theorem mX8_openCorners (l : Launch) (g : GE) (hg st b ca tr sa sk sv mt ml ad kw zc zp : Nat) (sd : Int32) (mv : Int32) (gm : Int32) (lt : Option Nat) (w1 : Int32) (w2 : Int32) (dg : Int32) (t1 : Int32) (t2 : Int32) (am : Int32) (kk : Int32) (sg : Int32) (f : Nat → Int32) (r : Int32) (hyp : fX8_openCorners kk f = some r) : WMO l yX8_openCorners cX8_openCorners 1 (some .int) 4 95 g [(hg, .inr (8, [.ref st, .ref tr, .ref sa, .ref sk, .ref sv, .ref mt, .ref ml, .ref ad, .ref kw])), (st, .inr (7, [.ref b, .int sd, .int mv, .int gm, va_rf lt, .int w1, .int w2, .int dg, .int t1, .int t2, .int am])), (b, .inr (1, [.ref ca, .int kk, .int sg])), (ca, .inl (g.2.1, 49, .inl f))] (OS zc zp) [.ref hg] (some (.int r)) [(hg, .inr (8, [.ref st, .ref tr, .ref sa, .ref sk, .ref sv, .ref mt, .ref ml, .ref ad, .ref kw])), (st, .inr (7, [.ref b, .int sd, .int mv, .int gm, va_rf lt, .int w1, .int w2, .int dg, .int t1, .int t2, .int am])), (b, .inr (1, [.ref ca, .int kk, .int sg])), (ca, .inl (g.2.1, 49, .inl f))] := by
  refine metWO_intro (by decide) rfl ?_
  intro p e R s m args below meth c Q A hRf hRl hQ hx hb hml hr hlocks hown hts hin hE hA hO H locs hP hD hS ls hl
  have hown : s.vm.findClass "HallGuards" = some m.cls := hown
  have hl : lv_has ls 1 [(0, .ref hg)] := hl
  unfold fX8_openCorners at hyp
  refine lv_aload_n hx hb dX8_openCorners_0 rfl (lv_at hl 0 rfl) ?_
  refine gf_X8_12 hx hb hts hown hE hP 0 rfl rfl dX8_openCorners_1 ?_
  refine gf_X8_69 hx hb hts hown hE hP 1 rfl rfl dX8_openCorners_4 ?_
  obtain ⟨r_1, hr_1, hyp⟩ := opt_e hyp
  refine wVO (As := []) (rest := []) ⟨hx, hb, hml, hown, hts⟩ hE (mX1_countOpenCorners l g b ca zc zp kk sg f r_1 hr_1) (OS_ok zc zp) hO cf_X1_countOpenCorners im_X1_countOpenCorners se_X1_countOpenCorners ml_X8_268 ⟨Nat.le_trans (Nat.le_of_ble_eq_true rfl) hRf, Nat.le_trans (Nat.le_of_ble_eq_true rfl) hRl⟩ hP hD hS hA [2, 3] [0, 1] rfl (wr := [(hg, .inr (8, [.ref st, .ref tr, .ref sa, .ref sk, .ref sv, .ref mt, .ref ml, .ref ad, .ref kw])), (st, .inr (7, [.ref b, .int sd, .int mv, .int gm, va_rf lt, .int w1, .int w2, .int dg, .int t1, .int t2, .int am]))]) rfl ⟨by decide, by decide⟩ (by decide) (ci := 1) (q0 := 0) rfl rfl rfl rfl hl.1 rfl (Nat.le_of_ble_eq_true rfl) dX8_openCorners_7 ⟨Nat.zero_le _, Nat.zero_le _⟩ (fun H locs hP hD hS => ?_)
  have hP : va_P g.1 vwCl [(hg, .inr (8, [.ref st, .ref tr, .ref sa, .ref sk, .ref sv, .ref mt, .ref ml, .ref ad, .ref kw])), (st, .inr (7, [.ref b, .int sd, .int mv, .int gm, va_rf lt, .int w1, .int w2, .int dg, .int t1, .int t2, .int am])), (b, .inr (1, [.ref ca, .int kk, .int sg])), (ca, .inl (g.2.1, 49, .inl f))] H := hP
  have hD : va_D A [(hg, .inr (8, [.ref st, .ref tr, .ref sa, .ref sk, .ref sv, .ref mt, .ref ml, .ref ad, .ref kw])), (st, .inr (7, [.ref b, .int sd, .int mv, .int gm, va_rf lt, .int w1, .int w2, .int dg, .int t1, .int t2, .int am])), (b, .inr (1, [.ref ca, .int kk, .int sg])), (ca, .inl (g.2.1, 49, .inl f))] := hD
  have hyp := some_e hyp
  subst hyp
  subst hQ
  exact rwI hx hb hr hlocks  hP hD hS dX8_openCorners_10

def fX8_kingReach (kk : Int32) (f : Nat → Int32) (krf : Nat → Int32) (kqf : Nat → Int32) : Option (Int32 × (Nat → Int32) × (Nat → Int32) × Int32) :=
  (fX2_countReached krf kqf kk f).bind (fun (r_1 : Int32 × (Nat → Int32) × (Nat → Int32) × Int32) => some (r_1.1, r_1.2.1, r_1.2.2.1, r_1.2.2.2))
set_option maxRecDepth 100000 in
set_option maxHeartbeats 4000000 in
theorem mX8_kingReach (l : Launch) (g : GE) (hg st b ca kw kr kq tr sa sk sv mt ml ad : Nat) (sd : Int32) (mv : Int32) (gm : Int32) (lt : Option Nat) (w1 : Int32) (w2 : Int32) (dg : Int32) (t1 : Int32) (t2 : Int32) (am : Int32) (kk : Int32) (sg : Int32) (f : Nat → Int32) (kc : Int32) (krf : Nat → Int32) (kqf : Nat → Int32) (r : Int32 × (Nat → Int32) × (Nat → Int32) × Int32) (hyp : fX8_kingReach kk f krf kqf = some r) : WM l yX8_kingReach cX8_kingReach 1 (some .int) 5 113 g [(hg, .inr (8, [.ref st, .ref tr, .ref sa, .ref sk, .ref sv, .ref mt, .ref ml, .ref ad, .ref kw])), (st, .inr (7, [.ref b, .int sd, .int mv, .int gm, va_rf lt, .int w1, .int w2, .int dg, .int t1, .int t2, .int am])), (b, .inr (1, [.ref ca, .int kk, .int sg])), (ca, .inl (g.2.1, 49, .inl f)), (kw, .inr (2, [.ref kr, .ref kq, .int kc])), (kr, .inl (g.2.1, 49, .inl krf)), (kq, .inl (g.2.1, 49, .inl kqf))] [.ref hg] (some (.int r.1)) [(hg, .inr (8, [.ref st, .ref tr, .ref sa, .ref sk, .ref sv, .ref mt, .ref ml, .ref ad, .ref kw])), (st, .inr (7, [.ref b, .int sd, .int mv, .int gm, va_rf lt, .int w1, .int w2, .int dg, .int t1, .int t2, .int am])), (b, .inr (1, [.ref ca, .int kk, .int sg])), (ca, .inl (g.2.1, 49, .inl f)), (kw, .inr (2, [.ref kr, .ref kq, .int r.2.2.2])), (kr, .inl (g.2.1, 49, .inl r.2.1)), (kq, .inl (g.2.1, 49, .inl r.2.2.1))] := by
  refine metW_intro (by decide) rfl ?_
  intro p e R s m args below meth c Q A hRf hRl hQ hx hb hml hr hlocks hown hts hin hE hA H locs hP hD hS ls hl
  have hown : s.vm.findClass "HallGuards" = some m.cls := hown
  have hl : lv_has ls 1 [(0, .ref hg)] := hl
  unfold fX8_kingReach at hyp
  refine lv_aload_n hx hb dX8_kingReach_0 rfl (lv_at hl 0 rfl) ?_
  refine gf_X8_58 hx hb hts hown hE hP 0 rfl rfl dX8_kingReach_1 ?_
  refine lv_aload_n hx hb dX8_kingReach_4 rfl (lv_at hl 0 rfl) ?_
  refine gf_X8_12 hx hb hts hown hE hP 0 rfl rfl dX8_kingReach_5 ?_
  refine gf_X8_69 hx hb hts hown hE hP 1 rfl rfl dX8_kingReach_8 ?_
  obtain ⟨r_1, hr_1, hyp⟩ := opt_e hyp
  refine wV (As := [.ref b]) (rest := []) ⟨hx, hb, hml, hown, hts⟩ hE (mX2_countReached l g kw kr kq b ca kc krf kqf kk sg f r_1 hr_1) cf_X2_countReached im_X2_countReached se_X2_countReached ml_X8_271 ⟨Nat.le_trans (Nat.le_of_ble_eq_true rfl) hRf, Nat.le_trans (Nat.le_of_ble_eq_true rfl) hRl⟩ hP hD hS hA [4, 5, 6, 2, 3] [0, 1] rfl (wr := [(hg, .inr (8, [.ref st, .ref tr, .ref sa, .ref sk, .ref sv, .ref mt, .ref ml, .ref ad, .ref kw])), (st, .inr (7, [.ref b, .int sd, .int mv, .int gm, va_rf lt, .int w1, .int w2, .int dg, .int t1, .int t2, .int am]))]) rfl ⟨by decide, by decide⟩ (by decide) (ci := 2) (q0 := 0) rfl rfl rfl rfl hl.1 rfl (Nat.le_of_ble_eq_true rfl) dX8_kingReach_11 ⟨Nat.zero_le _, Nat.zero_le _⟩ (fun H locs hP hD hS => ?_)
  have hP : va_P g.1 vwCl [(hg, .inr (8, [.ref st, .ref tr, .ref sa, .ref sk, .ref sv, .ref mt, .ref ml, .ref ad, .ref kw])), (st, .inr (7, [.ref b, .int sd, .int mv, .int gm, va_rf lt, .int w1, .int w2, .int dg, .int t1, .int t2, .int am])), (kw, .inr (2, [.ref kr, .ref kq, .int r_1.2.2.2])), (kr, .inl (g.2.1, 49, .inl r_1.2.1)), (kq, .inl (g.2.1, 49, .inl r_1.2.2.1)), (b, .inr (1, [.ref ca, .int kk, .int sg])), (ca, .inl (g.2.1, 49, .inl f))] H := hP
  have hD : va_D A [(hg, .inr (8, [.ref st, .ref tr, .ref sa, .ref sk, .ref sv, .ref mt, .ref ml, .ref ad, .ref kw])), (st, .inr (7, [.ref b, .int sd, .int mv, .int gm, va_rf lt, .int w1, .int w2, .int dg, .int t1, .int t2, .int am])), (kw, .inr (2, [.ref kr, .ref kq, .int r_1.2.2.2])), (kr, .inl (g.2.1, 49, .inl r_1.2.1)), (kq, .inl (g.2.1, 49, .inl r_1.2.2.1)), (b, .inr (1, [.ref ca, .int kk, .int sg])), (ca, .inl (g.2.1, 49, .inl f))] := hD
  have hP : va_P g.1 vwCl [(hg, .inr (8, [.ref st, .ref tr, .ref sa, .ref sk, .ref sv, .ref mt, .ref ml, .ref ad, .ref kw])), (st, .inr (7, [.ref b, .int sd, .int mv, .int gm, va_rf lt, .int w1, .int w2, .int dg, .int t1, .int t2, .int am])), (b, .inr (1, [.ref ca, .int kk, .int sg])), (ca, .inl (g.2.1, 49, .inl f)), (kw, .inr (2, [.ref kr, .ref kq, .int r_1.2.2.2])), (kr, .inl (g.2.1, 49, .inl r_1.2.1)), (kq, .inl (g.2.1, 49, .inl r_1.2.2.1))] H := hP.sub [0, 1, 5, 6, 2, 3, 4] rfl
  have hD : va_D A [(hg, .inr (8, [.ref st, .ref tr, .ref sa, .ref sk, .ref sv, .ref mt, .ref ml, .ref ad, .ref kw])), (st, .inr (7, [.ref b, .int sd, .int mv, .int gm, va_rf lt, .int w1, .int w2, .int dg, .int t1, .int t2, .int am])), (b, .inr (1, [.ref ca, .int kk, .int sg])), (ca, .inl (g.2.1, 49, .inl f)), (kw, .inr (2, [.ref kr, .ref kq, .int r_1.2.2.2])), (kr, .inl (g.2.1, 49, .inl r_1.2.1)), (kq, .inl (g.2.1, 49, .inl r_1.2.2.1))] := hD.sub [0, 1, 5, 6, 2, 3, 4] (by decide) rfl
  have hyp := some_e hyp
  subst hyp
  subst hQ
  exact rwI hx hb hr hlocks  hP hD hS dX8_kingReach_14

def fX8_kingPressure (kk : Int32) (f : Nat → Int32) : Option (Nat × Int32) :=
  (fX8_needKing kk).bind (fun (r_1 : Nat) => if r_1 = 0 then ((fX1_countHostileBesideKing kk f).bind (fun (r_3 : Int32) => some (0, r_3))) else (some (r_1, 0)))
set_option maxRecDepth 100000 in
set_option maxHeartbeats 4000000 in
theorem mX8_kingPressure (l : Launch) (hl0 : l.stackTraces = false) (g : GE) (hg st b ca tr sa sk sv mt ml ad kw zc zp : Nat) (sd : Int32) (mv : Int32) (gm : Int32) (lt : Option Nat) (w1 : Int32) (w2 : Int32) (dg : Int32) (t1 : Int32) (t2 : Int32) (am : Int32) (kk : Int32) (sg : Int32) (f : Nat → Int32) (r : Nat × Int32) (hyp : fX8_kingPressure kk f = some r) : XM l yX8_kingPressure cX8_kingPressure 1 (some .int) 7 110 1 6 g [(hg, .inr (8, [.ref st, .ref tr, .ref sa, .ref sk, .ref sv, .ref mt, .ref ml, .ref ad, .ref kw])), (st, .inr (7, [.ref b, .int sd, .int mv, .int gm, va_rf lt, .int w1, .int w2, .int dg, .int t1, .int t2, .int am])), (b, .inr (1, [.ref ca, .int kk, .int sg])), (ca, .inl (g.2.1, 49, .inl f))] (OZ g zc zp [] none) [.ref hg] r.1 (some (.int r.2)) (fun na => [(hg, .inr (8, [.ref st, .ref tr, .ref sa, .ref sk, .ref sv, .ref mt, .ref ml, .ref ad, .ref kw])), (st, .inr (7, [.ref b, .int sd, .int mv, .int gm, va_rf lt, .int w1, .int w2, .int dg, .int t1, .int t2, .int am])), (b, .inr (1, [.ref ca, .int kk, .int sg])), (ca, .inl (g.2.1, 49, .inl f))]) (fun _ => [(hg, .inr (8, [.ref st, .ref tr, .ref sa, .ref sk, .ref sv, .ref mt, .ref ml, .ref ad, .ref kw])), (st, .inr (7, [.ref b, .int sd, .int mv, .int gm, va_rf lt, .int w1, .int w2, .int dg, .int t1, .int t2, .int am])), (b, .inr (1, [.ref ca, .int kk, .int sg])), (ca, .inl (g.2.1, 49, .inl f))]) := by
  refine metX_intro (by decide) rfl ?_
  intro p e R s m args below meth c Q A hRf hRl hRc hRs hQ hx hb hml hr hlocks hex hown hts hin hE hSR hA hO H locs hP hD hS ls hl
  have hown : s.vm.findClass "HallGuards" = some m.cls := hown
  have hl : lv_has ls 1 [(0, .ref hg)] := hl
  unfold fX8_kingPressure at hyp
  refine lv_aload_n hx hb dX8_kingPressure_0 rfl (lv_at hl 0 rfl) ?_
  obtain ⟨r_1, hr_1, hyp⟩ := opt_e hyp
  refine xV (As := []) (rest := []) ⟨hx, hb, hml, hown, hts⟩ hE hSR (mX8_needKing l hl0 g hg st b tr sa sk sv mt ml ad kw ca zc zp sd mv gm lt w1 w2 dg t1 t2 am kk sg r_1 hr_1) (OZ_ok g zc zp _ _) hO cf_X8_needKing im_X8_needKing se_X8_needKing ml_X8_203 ⟨Nat.le_trans (Nat.le_of_ble_eq_true rfl) hRf, Nat.le_trans (Nat.le_of_ble_eq_true rfl) hRl⟩ hP hD hS hA [0, 1, 2] [3] rfl (wr := [(ca, .inl (g.2.1, 49, .inl f))]) rfl ⟨by decide, by decide⟩ (by decide) (ci := 8) (q0 := 0) rfl rfl rfl rfl hl.1 rfl (Nat.le_of_ble_eq_true rfl) dX8_kingPressure_1 ⟨Nat.le_trans (Nat.le_of_ble_eq_true rfl) hRc, Nat.le_trans (Nat.le_of_ble_eq_true rfl) hRs⟩ (fun hk0 na_2 H locs hna_2 hP hD hS => ?_) (fun hk0 na9 q9 ce9 H locs hna9 hP hD hS hce hcv hcl => ?_)
  rotate_left 1
  · replace hyp := ite_f hk0 hyp
    have hP : va_P g.1 vwCl [(ca, .inl (g.2.1, 49, .inl f)), (hg, .inr (8, [.ref st, .ref tr, .ref sa, .ref sk, .ref sv, .ref mt, .ref ml, .ref ad, .ref kw])), (st, .inr (7, [.ref b, .int sd, .int mv, .int gm, va_rf lt, .int w1, .int w2, .int dg, .int t1, .int t2, .int am])), (b, .inr (1, [.ref ca, .int kk, .int sg]))] H := hP
    have hD : va_D A [(ca, .inl (g.2.1, 49, .inl f)), (hg, .inr (8, [.ref st, .ref tr, .ref sa, .ref sk, .ref sv, .ref mt, .ref ml, .ref ad, .ref kw])), (st, .inr (7, [.ref b, .int sd, .int mv, .int gm, va_rf lt, .int w1, .int w2, .int dg, .int t1, .int t2, .int am])), (b, .inr (1, [.ref ca, .int kk, .int sg]))] := hD
    have hP : va_P g.1 vwCl [(hg, .inr (8, [.ref st, .ref tr, .ref sa, .ref sk, .ref sv, .ref mt, .ref ml, .ref ad, .ref kw])), (st, .inr (7, [.ref b, .int sd, .int mv, .int gm, va_rf lt, .int w1, .int w2, .int dg, .int t1, .int t2, .int am])), (b, .inr (1, [.ref ca, .int kk, .int sg])), (ca, .inl (g.2.1, 49, .inl f))] H := hP.sub [1, 2, 3, 0] rfl
    have hD : va_D A [(hg, .inr (8, [.ref st, .ref tr, .ref sa, .ref sk, .ref sv, .ref mt, .ref ml, .ref ad, .ref kw])), (st, .inr (7, [.ref b, .int sd, .int mv, .int gm, va_rf lt, .int w1, .int w2, .int dg, .int t1, .int t2, .int am])), (b, .inr (1, [.ref ca, .int kk, .int sg])), (ca, .inl (g.2.1, 49, .inl f))] := hD.sub [1, 2, 3, 0] (by decide) rfl
    have hyp := some_e hyp
    subst hyp
    subst hQ
    exact xOut hex hlocks hk0 (Nat.le_refl _) hP hD hS hce hcv hcl (Nat.le_of_ble_eq_true rfl) (Nat.le_of_ble_eq_true rfl)
  replace hyp := ite_t hk0 hyp
  have hP : va_P g.1 vwCl [(ca, .inl (g.2.1, 49, .inl f)), (hg, .inr (8, [.ref st, .ref tr, .ref sa, .ref sk, .ref sv, .ref mt, .ref ml, .ref ad, .ref kw])), (st, .inr (7, [.ref b, .int sd, .int mv, .int gm, va_rf lt, .int w1, .int w2, .int dg, .int t1, .int t2, .int am])), (b, .inr (1, [.ref ca, .int kk, .int sg]))] H := hP
  have hD : va_D A [(ca, .inl (g.2.1, 49, .inl f)), (hg, .inr (8, [.ref st, .ref tr, .ref sa, .ref sk, .ref sv, .ref mt, .ref ml, .ref ad, .ref kw])), (st, .inr (7, [.ref b, .int sd, .int mv, .int gm, va_rf lt, .int w1, .int w2, .int dg, .int t1, .int t2, .int am])), (b, .inr (1, [.ref ca, .int kk, .int sg]))] := hD
  refine lv_aload_n hx hb dX8_kingPressure_4 rfl (lv_at hl 0 rfl) ?_
  refine gf_X8_12 hx hb hts hown hE hP 1 rfl rfl dX8_kingPressure_5 ?_
  refine gf_X8_69 hx hb hts hown hE hP 2 rfl rfl dX8_kingPressure_8 ?_
  obtain ⟨r_3, hr_3, hyp⟩ := opt_e hyp
  refine pV (As := []) (rest := []) ⟨hx, hb, hml, hown, hts⟩ hE (mX1_countHostileBesideKing l g b ca kk sg f r_3 hr_3) cf_X1_countHostileBesideKing im_X1_countHostileBesideKing se_X1_countHostileBesideKing ml_X8_274 ⟨Nat.le_trans (Nat.le_of_ble_eq_true rfl) hRf, Nat.le_trans (Nat.le_of_ble_eq_true rfl) hRl⟩ (hP.sub (ws' := [(b, .inr (1, [.ref ca, .int kk, .int sg])), (ca, .inl (g.2.1, 49, .inl f))]) [3, 0] rfl) (ci := 1) (q0 := 0) rfl rfl rfl rfl hl.1 rfl (Nat.le_of_ble_eq_true rfl) dX8_kingPressure_11 ⟨Nat.le_trans (Nat.le_of_ble_eq_true rfl) hRc, Nat.le_trans (Nat.le_of_ble_eq_true rfl) hRs⟩ ?_
  have hP : va_P g.1 vwCl [(hg, .inr (8, [.ref st, .ref tr, .ref sa, .ref sk, .ref sv, .ref mt, .ref ml, .ref ad, .ref kw])), (st, .inr (7, [.ref b, .int sd, .int mv, .int gm, va_rf lt, .int w1, .int w2, .int dg, .int t1, .int t2, .int am])), (b, .inr (1, [.ref ca, .int kk, .int sg])), (ca, .inl (g.2.1, 49, .inl f))] H := hP.sub [1, 2, 3, 0] rfl
  have hD : va_D A [(hg, .inr (8, [.ref st, .ref tr, .ref sa, .ref sk, .ref sv, .ref mt, .ref ml, .ref ad, .ref kw])), (st, .inr (7, [.ref b, .int sd, .int mv, .int gm, va_rf lt, .int w1, .int w2, .int dg, .int t1, .int t2, .int am])), (b, .inr (1, [.ref ca, .int kk, .int sg])), (ca, .inl (g.2.1, 49, .inl f))] := hD.sub [1, 2, 3, 0] (by decide) rfl
  have hyp := some_e hyp
  subst hyp
  subst hQ
  exact xrI (na := s.heap.size) hx hb hr hlocks (Nat.le_refl _) hP hD hS (Nat.le_of_ble_eq_true rfl) (Nat.le_of_ble_eq_true rfl) dX8_kingPressure_14

def fX8_worthOf (kk : Int32) (sg : Int32) (f : Nat → Int32) (bk : Int32) (bs : Int32) (bf : Nat → Int32) (rk : Int32) (rs : Int32) (rf : Nat → Int32) (rn : Int32) (rmf : Nat → Int32) (a1 : Int32) (a2 : Int32) : Option (Nat × Int32 × (Nat → Int32) × Int32 × Int32 × (Nat → Int32) × Int32 × Int32 × (Nat → Int32) × Int32) :=
  (fX8_needPossible f a1 a2).bind (fun (r_1 : Nat) => if r_1 = 0 then ((fX0_worth bf rk rs rf rn rmf kk sg f a1 a2).bind (fun (r_3 : Int32 × (Nat → Int32) × Int32 × Int32 × (Nat → Int32) × Int32 × Int32 × (Nat → Int32) × Int32) => some (0, r_3.1, r_3.2.1, r_3.2.2.1, r_3.2.2.2.1, r_3.2.2.2.2.1, r_3.2.2.2.2.2.1, r_3.2.2.2.2.2.2.1, r_3.2.2.2.2.2.2.2.1, r_3.2.2.2.2.2.2.2.2))) else (some (r_1, 0, bf, bk, bs, rf, rk, rs, rmf, rn)))
set_option maxRecDepth 100000 in
set_option maxHeartbeats 4000000 in
theorem mX8_worthOf (l : Launch) (hl0 : l.stackTraces = false) (g : GE) (hg st b ca ad be bc rp rc rl rm tr sa sk sv mt ml kw zc zp : Nat) (sd : Int32) (mv : Int32) (gm : Int32) (lt : Option Nat) (w1 : Int32) (w2 : Int32) (dg : Int32) (t1 : Int32) (t2 : Int32) (am : Int32) (kk : Int32) (sg : Int32) (f : Nat → Int32) (bk : Int32) (bs : Int32) (bf : Nat → Int32) (rk : Int32) (rs : Int32) (rf : Nat → Int32) (rn : Int32) (rmf : Nat → Int32) (a1 : Int32) (a2 : Int32) (r : Nat × Int32 × (Nat → Int32) × Int32 × Int32 × (Nat → Int32) × Int32 × Int32 × (Nat → Int32) × Int32) (hyp : fX8_worthOf kk sg f bk bs bf rk rs rf rn rmf a1 a2 = some r) : XM l yX8_worthOf cX8_worthOf 3 (some .int) 8 170 2 12 g [(hg, .inr (8, [.ref st, .ref tr, .ref sa, .ref sk, .ref sv, .ref mt, .ref ml, .ref ad, .ref kw])), (st, .inr (7, [.ref b, .int sd, .int mv, .int gm, va_rf lt, .int w1, .int w2, .int dg, .int t1, .int t2, .int am])), (b, .inr (1, [.ref ca, .int kk, .int sg])), (ca, .inl (g.2.1, 49, .inl f)), (ad, .inr (0, [.ref be, .ref rp, .ref rl])), (be, .inr (1, [.ref bc, .int bk, .int bs])), (bc, .inl (g.2.1, 49, .inl bf)), (rp, .inr (1, [.ref rc, .int rk, .int rs])), (rc, .inl (g.2.1, 49, .inl rf)), (rl, .inr (3, [.ref rm, .int rn])), (rm, .inl (g.2.1, 588, .inl rmf))] (OZ g zc zp [] none) [.ref hg, .int a1, .int a2] r.1 (some (.int r.2.1)) (fun na => [(hg, .inr (8, [.ref st, .ref tr, .ref sa, .ref sk, .ref sv, .ref mt, .ref ml, .ref ad, .ref kw])), (st, .inr (7, [.ref b, .int sd, .int mv, .int gm, va_rf lt, .int w1, .int w2, .int dg, .int t1, .int t2, .int am])), (b, .inr (1, [.ref ca, .int kk, .int sg])), (ca, .inl (g.2.1, 49, .inl f)), (ad, .inr (0, [.ref be, .ref rp, .ref rl])), (be, .inr (1, [.ref bc, .int r.2.2.2.1, .int r.2.2.2.2.1])), (bc, .inl (g.2.1, 49, .inl r.2.2.1)), (rp, .inr (1, [.ref rc, .int r.2.2.2.2.2.2.1, .int r.2.2.2.2.2.2.2.1])), (rc, .inl (g.2.1, 49, .inl r.2.2.2.2.2.1)), (rl, .inr (3, [.ref rm, .int r.2.2.2.2.2.2.2.2.2])), (rm, .inl (g.2.1, 588, .inl r.2.2.2.2.2.2.2.2.1))]) (fun _ => [(hg, .inr (8, [.ref st, .ref tr, .ref sa, .ref sk, .ref sv, .ref mt, .ref ml, .ref ad, .ref kw])), (st, .inr (7, [.ref b, .int sd, .int mv, .int gm, va_rf lt, .int w1, .int w2, .int dg, .int t1, .int t2, .int am])), (b, .inr (1, [.ref ca, .int kk, .int sg])), (ca, .inl (g.2.1, 49, .inl f)), (ad, .inr (0, [.ref be, .ref rp, .ref rl])), (be, .inr (1, [.ref bc, .int r.2.2.2.1, .int r.2.2.2.2.1])), (bc, .inl (g.2.1, 49, .inl r.2.2.1)), (rp, .inr (1, [.ref rc, .int r.2.2.2.2.2.2.1, .int r.2.2.2.2.2.2.2.1])), (rc, .inl (g.2.1, 49, .inl r.2.2.2.2.2.1)), (rl, .inr (3, [.ref rm, .int r.2.2.2.2.2.2.2.2.2])), (rm, .inl (g.2.1, 588, .inl r.2.2.2.2.2.2.2.2.1))]) := by
  refine metX_intro (by decide) rfl ?_
  intro p e R s m args below meth c Q A hRf hRl hRc hRs hQ hx hb hml hr hlocks hex hown hts hin hE hSR hA hO H locs hP hD hS ls hl
  have hown : s.vm.findClass "HallGuards" = some m.cls := hown
  have hl : lv_has ls 3 [(0, .ref hg), (1, .int a1), (2, .int a2)] := hl
  unfold fX8_worthOf at hyp
  refine lv_aload_n hx hb dX8_worthOf_0 rfl (lv_at hl 0 rfl) ?_
  refine lv_iload_n hx hb dX8_worthOf_1 rfl (lv_at hl 1 rfl) ?_
  refine lv_iload_n hx hb dX8_worthOf_2 rfl (lv_at hl 2 rfl) ?_
  obtain ⟨r_1, hr_1, hyp⟩ := opt_e hyp
  refine xV (As := [.int a1, .int a2]) (rest := []) ⟨hx, hb, hml, hown, hts⟩ hE hSR (mX8_needPossible l hl0 g hg st b ca tr sa sk sv mt ml ad kw zc zp sd mv gm lt w1 w2 dg t1 t2 am kk sg f a1 a2 r_1 hr_1) (OZ_ok g zc zp _ _) hO cf_X8_needPossible im_X8_needPossible se_X8_needPossible ml_X8_231 ⟨Nat.le_trans (Nat.le_of_ble_eq_true rfl) hRf, Nat.le_trans (Nat.le_of_ble_eq_true rfl) hRl⟩ hP hD hS hA [0, 1, 2, 3] [4, 5, 6, 7, 8, 9, 10] rfl (wr := [(ad, .inr (0, [.ref be, .ref rp, .ref rl])), (be, .inr (1, [.ref bc, .int bk, .int bs])), (bc, .inl (g.2.1, 49, .inl bf)), (rp, .inr (1, [.ref rc, .int rk, .int rs])), (rc, .inl (g.2.1, 49, .inl rf)), (rl, .inr (3, [.ref rm, .int rn])), (rm, .inl (g.2.1, 588, .inl rmf))]) rfl ⟨by decide, by decide⟩ (by decide) (ci := 8) (q0 := 0) rfl rfl rfl rfl hl.1 rfl (Nat.le_of_ble_eq_true rfl) dX8_worthOf_3 ⟨Nat.le_trans (Nat.le_of_ble_eq_true rfl) hRc, Nat.le_trans (Nat.le_of_ble_eq_true rfl) hRs⟩ (fun hk0 na_2 H locs hna_2 hP hD hS => ?_) (fun hk0 na9 q9 ce9 H locs hna9 hP hD hS hce hcv hcl => ?_)
  rotate_left 1
  · replace hyp := ite_f hk0 hyp
    have hP : va_P g.1 vwCl [(ad, .inr (0, [.ref be, .ref rp, .ref rl])), (be, .inr (1, [.ref bc, .int bk, .int bs])), (bc, .inl (g.2.1, 49, .inl bf)), (rp, .inr (1, [.ref rc, .int rk, .int rs])), (rc, .inl (g.2.1, 49, .inl rf)), (rl, .inr (3, [.ref rm, .int rn])), (rm, .inl (g.2.1, 588, .inl rmf)), (hg, .inr (8, [.ref st, .ref tr, .ref sa, .ref sk, .ref sv, .ref mt, .ref ml, .ref ad, .ref kw])), (st, .inr (7, [.ref b, .int sd, .int mv, .int gm, va_rf lt, .int w1, .int w2, .int dg, .int t1, .int t2, .int am])), (b, .inr (1, [.ref ca, .int kk, .int sg])), (ca, .inl (g.2.1, 49, .inl f))] H := hP
    have hD : va_D A [(ad, .inr (0, [.ref be, .ref rp, .ref rl])), (be, .inr (1, [.ref bc, .int bk, .int bs])), (bc, .inl (g.2.1, 49, .inl bf)), (rp, .inr (1, [.ref rc, .int rk, .int rs])), (rc, .inl (g.2.1, 49, .inl rf)), (rl, .inr (3, [.ref rm, .int rn])), (rm, .inl (g.2.1, 588, .inl rmf)), (hg, .inr (8, [.ref st, .ref tr, .ref sa, .ref sk, .ref sv, .ref mt, .ref ml, .ref ad, .ref kw])), (st, .inr (7, [.ref b, .int sd, .int mv, .int gm, va_rf lt, .int w1, .int w2, .int dg, .int t1, .int t2, .int am])), (b, .inr (1, [.ref ca, .int kk, .int sg])), (ca, .inl (g.2.1, 49, .inl f))] := hD
    have hP : va_P g.1 vwCl [(hg, .inr (8, [.ref st, .ref tr, .ref sa, .ref sk, .ref sv, .ref mt, .ref ml, .ref ad, .ref kw])), (st, .inr (7, [.ref b, .int sd, .int mv, .int gm, va_rf lt, .int w1, .int w2, .int dg, .int t1, .int t2, .int am])), (b, .inr (1, [.ref ca, .int kk, .int sg])), (ca, .inl (g.2.1, 49, .inl f)), (ad, .inr (0, [.ref be, .ref rp, .ref rl])), (be, .inr (1, [.ref bc, .int bk, .int bs])), (bc, .inl (g.2.1, 49, .inl bf)), (rp, .inr (1, [.ref rc, .int rk, .int rs])), (rc, .inl (g.2.1, 49, .inl rf)), (rl, .inr (3, [.ref rm, .int rn])), (rm, .inl (g.2.1, 588, .inl rmf))] H := hP.sub [7, 8, 9, 10, 0, 1, 2, 3, 4, 5, 6] rfl
    have hD : va_D A [(hg, .inr (8, [.ref st, .ref tr, .ref sa, .ref sk, .ref sv, .ref mt, .ref ml, .ref ad, .ref kw])), (st, .inr (7, [.ref b, .int sd, .int mv, .int gm, va_rf lt, .int w1, .int w2, .int dg, .int t1, .int t2, .int am])), (b, .inr (1, [.ref ca, .int kk, .int sg])), (ca, .inl (g.2.1, 49, .inl f)), (ad, .inr (0, [.ref be, .ref rp, .ref rl])), (be, .inr (1, [.ref bc, .int bk, .int bs])), (bc, .inl (g.2.1, 49, .inl bf)), (rp, .inr (1, [.ref rc, .int rk, .int rs])), (rc, .inl (g.2.1, 49, .inl rf)), (rl, .inr (3, [.ref rm, .int rn])), (rm, .inl (g.2.1, 588, .inl rmf))] := hD.sub [7, 8, 9, 10, 0, 1, 2, 3, 4, 5, 6] (by decide) rfl
    have hyp := some_e hyp
    subst hyp
    subst hQ
    exact xOut hex hlocks hk0 (Nat.le_refl _) hP hD hS hce hcv hcl (Nat.le_of_ble_eq_true rfl) (Nat.le_of_ble_eq_true rfl)
  replace hyp := ite_t hk0 hyp
  have hP : va_P g.1 vwCl [(ad, .inr (0, [.ref be, .ref rp, .ref rl])), (be, .inr (1, [.ref bc, .int bk, .int bs])), (bc, .inl (g.2.1, 49, .inl bf)), (rp, .inr (1, [.ref rc, .int rk, .int rs])), (rc, .inl (g.2.1, 49, .inl rf)), (rl, .inr (3, [.ref rm, .int rn])), (rm, .inl (g.2.1, 588, .inl rmf)), (hg, .inr (8, [.ref st, .ref tr, .ref sa, .ref sk, .ref sv, .ref mt, .ref ml, .ref ad, .ref kw])), (st, .inr (7, [.ref b, .int sd, .int mv, .int gm, va_rf lt, .int w1, .int w2, .int dg, .int t1, .int t2, .int am])), (b, .inr (1, [.ref ca, .int kk, .int sg])), (ca, .inl (g.2.1, 49, .inl f))] H := hP
  have hD : va_D A [(ad, .inr (0, [.ref be, .ref rp, .ref rl])), (be, .inr (1, [.ref bc, .int bk, .int bs])), (bc, .inl (g.2.1, 49, .inl bf)), (rp, .inr (1, [.ref rc, .int rk, .int rs])), (rc, .inl (g.2.1, 49, .inl rf)), (rl, .inr (3, [.ref rm, .int rn])), (rm, .inl (g.2.1, 588, .inl rmf)), (hg, .inr (8, [.ref st, .ref tr, .ref sa, .ref sk, .ref sv, .ref mt, .ref ml, .ref ad, .ref kw])), (st, .inr (7, [.ref b, .int sd, .int mv, .int gm, va_rf lt, .int w1, .int w2, .int dg, .int t1, .int t2, .int am])), (b, .inr (1, [.ref ca, .int kk, .int sg])), (ca, .inl (g.2.1, 49, .inl f))] := hD
  refine lv_aload_n hx hb dX8_worthOf_6 rfl (lv_at hl 0 rfl) ?_
  refine gf_X8_51 hx hb hts hown hE hP 7 rfl rfl dX8_worthOf_7 ?_
  refine lv_aload_n hx hb dX8_worthOf_10 rfl (lv_at hl 0 rfl) ?_
  refine gf_X8_12 hx hb hts hown hE hP 7 rfl rfl dX8_worthOf_11 ?_
  refine gf_X8_69 hx hb hts hown hE hP 8 rfl rfl dX8_worthOf_14 ?_
  refine lv_iload_n hx hb dX8_worthOf_17 rfl (lv_at hl 1 rfl) ?_
  refine lv_iload_n hx hb dX8_worthOf_18 rfl (lv_at hl 2 rfl) ?_
  obtain ⟨r_3, hr_3, hyp⟩ := opt_e hyp
  refine wV (As := [.ref b, .int a1, .int a2]) (rest := []) ⟨hx, hb, hml, hown, hts⟩ hE (mX0_worth l g ad be bc rp rc rl rm b ca bk bs bf rk rs rf rn rmf kk sg f a1 a2 r_3 hr_3) cf_X0_worth im_X0_worth se_X0_worth ml_X8_277 ⟨Nat.le_trans (Nat.le_of_ble_eq_true rfl) hRf, Nat.le_trans (Nat.le_of_ble_eq_true rfl) hRl⟩ hP hD hS hA [0, 1, 2, 3, 4, 5, 6, 9, 10] [7, 8] rfl (wr := [(hg, .inr (8, [.ref st, .ref tr, .ref sa, .ref sk, .ref sv, .ref mt, .ref ml, .ref ad, .ref kw])), (st, .inr (7, [.ref b, .int sd, .int mv, .int gm, va_rf lt, .int w1, .int w2, .int dg, .int t1, .int t2, .int am]))]) rfl ⟨by decide, by decide⟩ (by decide) (ci := 0) (q0 := 0) rfl rfl rfl rfl hl.1 rfl (Nat.le_of_ble_eq_true rfl) dX8_worthOf_19 ⟨Nat.le_trans (Nat.le_of_ble_eq_true rfl) hRc, Nat.le_trans (Nat.le_of_ble_eq_true rfl) hRs⟩ (fun H locs hP hD hS => ?_)
  have hP : va_P g.1 vwCl [(hg, .inr (8, [.ref st, .ref tr, .ref sa, .ref sk, .ref sv, .ref mt, .ref ml, .ref ad, .ref kw])), (st, .inr (7, [.ref b, .int sd, .int mv, .int gm, va_rf lt, .int w1, .int w2, .int dg, .int t1, .int t2, .int am])), (ad, .inr (0, [.ref be, .ref rp, .ref rl])), (be, .inr (1, [.ref bc, .int r_3.2.2.1, .int r_3.2.2.2.1])), (bc, .inl (g.2.1, 49, .inl r_3.2.1)), (rp, .inr (1, [.ref rc, .int r_3.2.2.2.2.2.1, .int r_3.2.2.2.2.2.2.1])), (rc, .inl (g.2.1, 49, .inl r_3.2.2.2.2.1)), (rl, .inr (3, [.ref rm, .int r_3.2.2.2.2.2.2.2.2])), (rm, .inl (g.2.1, 588, .inl r_3.2.2.2.2.2.2.2.1)), (b, .inr (1, [.ref ca, .int kk, .int sg])), (ca, .inl (g.2.1, 49, .inl f))] H := hP
  have hD : va_D A [(hg, .inr (8, [.ref st, .ref tr, .ref sa, .ref sk, .ref sv, .ref mt, .ref ml, .ref ad, .ref kw])), (st, .inr (7, [.ref b, .int sd, .int mv, .int gm, va_rf lt, .int w1, .int w2, .int dg, .int t1, .int t2, .int am])), (ad, .inr (0, [.ref be, .ref rp, .ref rl])), (be, .inr (1, [.ref bc, .int r_3.2.2.1, .int r_3.2.2.2.1])), (bc, .inl (g.2.1, 49, .inl r_3.2.1)), (rp, .inr (1, [.ref rc, .int r_3.2.2.2.2.2.1, .int r_3.2.2.2.2.2.2.1])), (rc, .inl (g.2.1, 49, .inl r_3.2.2.2.2.1)), (rl, .inr (3, [.ref rm, .int r_3.2.2.2.2.2.2.2.2])), (rm, .inl (g.2.1, 588, .inl r_3.2.2.2.2.2.2.2.1)), (b, .inr (1, [.ref ca, .int kk, .int sg])), (ca, .inl (g.2.1, 49, .inl f))] := hD
  have hP : va_P g.1 vwCl [(hg, .inr (8, [.ref st, .ref tr, .ref sa, .ref sk, .ref sv, .ref mt, .ref ml, .ref ad, .ref kw])), (st, .inr (7, [.ref b, .int sd, .int mv, .int gm, va_rf lt, .int w1, .int w2, .int dg, .int t1, .int t2, .int am])), (b, .inr (1, [.ref ca, .int kk, .int sg])), (ca, .inl (g.2.1, 49, .inl f)), (ad, .inr (0, [.ref be, .ref rp, .ref rl])), (be, .inr (1, [.ref bc, .int r_3.2.2.1, .int r_3.2.2.2.1])), (bc, .inl (g.2.1, 49, .inl r_3.2.1)), (rp, .inr (1, [.ref rc, .int r_3.2.2.2.2.2.1, .int r_3.2.2.2.2.2.2.1])), (rc, .inl (g.2.1, 49, .inl r_3.2.2.2.2.1)), (rl, .inr (3, [.ref rm, .int r_3.2.2.2.2.2.2.2.2])), (rm, .inl (g.2.1, 588, .inl r_3.2.2.2.2.2.2.2.1))] H := hP.sub [0, 1, 9, 10, 2, 3, 4, 5, 6, 7, 8] rfl
  have hD : va_D A [(hg, .inr (8, [.ref st, .ref tr, .ref sa, .ref sk, .ref sv, .ref mt, .ref ml, .ref ad, .ref kw])), (st, .inr (7, [.ref b, .int sd, .int mv, .int gm, va_rf lt, .int w1, .int w2, .int dg, .int t1, .int t2, .int am])), (b, .inr (1, [.ref ca, .int kk, .int sg])), (ca, .inl (g.2.1, 49, .inl f)), (ad, .inr (0, [.ref be, .ref rp, .ref rl])), (be, .inr (1, [.ref bc, .int r_3.2.2.1, .int r_3.2.2.2.1])), (bc, .inl (g.2.1, 49, .inl r_3.2.1)), (rp, .inr (1, [.ref rc, .int r_3.2.2.2.2.2.1, .int r_3.2.2.2.2.2.2.1])), (rc, .inl (g.2.1, 49, .inl r_3.2.2.2.2.1)), (rl, .inr (3, [.ref rm, .int r_3.2.2.2.2.2.2.2.2])), (rm, .inl (g.2.1, 588, .inl r_3.2.2.2.2.2.2.2.1))] := hD.sub [0, 1, 9, 10, 2, 3, 4, 5, 6, 7, 8] (by decide) rfl
  have hyp := some_e hyp
  subst hyp
  subst hQ
  exact xrI (na := s.heap.size) hx hb hr hlocks (Nat.le_refl _) hP hD hS (Nat.le_of_ble_eq_true rfl) (Nat.le_of_ble_eq_true rfl) dX8_worthOf_22

def fX8_bestMove_L47_B (kk : Int32) (sg : Int32) (f : Nat → Int32) (self_18 : Int32 → Int32 → Int32 → (Nat → Int32) → Int32 → Int32 → (Nat → Int32) → Int32 → Int32 → (Nat → Int32) → Int32 → (Nat → Int32) → Int32 → Option (Nat × Int32 × (Nat → Int32) × Int32 × Int32 × (Nat → Int32) × Int32 × Int32 × (Nat → Int32) × Int32 × (Nat → Int32) × Int32)) (v2_5 : Int32) (v3_6 : Int32) (v4_7 : Int32) (wbf_8 : Nat → Int32) (wbk_9 : Int32) (wbs_10 : Int32) (wrf_11 : Nat → Int32) (wrk_12 : Int32) (wrs_13 : Int32) (wrmf_14 : Nat → Int32) (wrn_15 : Int32) (wmf_16 : Nat → Int32) (wcnt_17 : Int32) : Option (Nat × Int32 × (Nat → Int32) × Int32 × Int32 × (Nat → Int32) × Int32 × Int32 × (Nat → Int32) × Int32 × (Nat → Int32) × Int32) :=
  if wcnt_17 ≤ v4_7 then (some (0, v2_5, wbf_8, wbk_9, wbs_10, wrf_11, wrk_12, wrs_13, wrmf_14, wrn_15, wmf_16, wcnt_17)) else ((fX3_codeAt wcnt_17 wmf_16 v4_7).bind (fun (r_20 : Int32) => (fX0_worth wbf_8 wrk_12 wrs_13 wrf_11 wrn_15 wrmf_14 kk sg f (r_20 / 49) (r_20 - r_20 / 49 * 49)).bind (fun (r_21 : Int32 × (Nat → Int32) × Int32 × Int32 × (Nat → Int32) × Int32 × Int32 × (Nat → Int32) × Int32) => jn (self_18 r_20 r_21.1 (v4_7 + 1) r_21.2.1 r_21.2.2.1 r_21.2.2.2.1 r_21.2.2.2.2.1 r_21.2.2.2.2.2.1 r_21.2.2.2.2.2.2.1 r_21.2.2.2.2.2.2.2.1 r_21.2.2.2.2.2.2.2.2 wmf_16 wcnt_17) (fun J_22 => if v2_5 < 0 then (J_22) else (if r_21.1 ≤ v3_6 then (self_18 v2_5 v3_6 (v4_7 + 1) r_21.2.1 r_21.2.2.1 r_21.2.2.2.1 r_21.2.2.2.2.1 r_21.2.2.2.2.2.1 r_21.2.2.2.2.2.2.1 r_21.2.2.2.2.2.2.2.1 r_21.2.2.2.2.2.2.2.2 wmf_16 wcnt_17) else (J_22))))))
def fX8_bestMove_L47 (kk : Int32) (sg : Int32) (f : Nat → Int32) (n : Nat) (v2_5 : Int32) (v3_6 : Int32) (v4_7 : Int32) (wbf_8 : Nat → Int32) (wbk_9 : Int32) (wbs_10 : Int32) (wrf_11 : Nat → Int32) (wrk_12 : Int32) (wrs_13 : Int32) (wrmf_14 : Nat → Int32) (wrn_15 : Int32) (wmf_16 : Nat → Int32) (wcnt_17 : Int32) : Option (Nat × Int32 × (Nat → Int32) × Int32 × Int32 × (Nat → Int32) × Int32 × Int32 × (Nat → Int32) × Int32 × (Nat → Int32) × Int32) := lp (fun zf z => fX8_bestMove_L47_B kk sg f (fun v2_5 v3_6 v4_7 wbf_8 wbk_9 wbs_10 wrf_11 wrk_12 wrs_13 wrmf_14 wrn_15 wmf_16 wcnt_17 => zf (v2_5, v3_6, v4_7, wbf_8, wbk_9, wbs_10, wrf_11, wrk_12, wrs_13, wrmf_14, wrn_15, wmf_16, wcnt_17)) z.1 z.2.1 z.2.2.1 z.2.2.2.1 z.2.2.2.2.1 z.2.2.2.2.2.1 z.2.2.2.2.2.2.1 z.2.2.2.2.2.2.2.1 z.2.2.2.2.2.2.2.2.1 z.2.2.2.2.2.2.2.2.2.1 z.2.2.2.2.2.2.2.2.2.2.1 z.2.2.2.2.2.2.2.2.2.2.2.1 z.2.2.2.2.2.2.2.2.2.2.2.2) n (v2_5, v3_6, v4_7, wbf_8, wbk_9, wbs_10, wrf_11, wrk_12, wrs_13, wrmf_14, wrn_15, wmf_16, wcnt_17)
def fX8_bestMove (kk : Int32) (sg : Int32) (f : Nat → Int32) (bk : Int32) (bs : Int32) (bf : Nat → Int32) (rk : Int32) (rs : Int32) (rf : Nat → Int32) (rn : Int32) (rmf : Nat → Int32) (cnt : Int32) (mf : Nat → Int32) (a1 : Int32) : Option (Nat × Int32 × (Nat → Int32) × Int32 × Int32 × (Nat → Int32) × Int32 × Int32 × (Nat → Int32) × Int32 × (Nat → Int32) × Int32) :=
  (fX8_needSide a1).bind (fun (r_1 : Nat) => if r_1 = 0 then ((fX1_listMoves f mf a1).bind (fun (r_3 : (Nat → Int32) × Int32) => if r_3.2 = 0 then (some (3, 0, bf, bk, bs, rf, rk, rs, rmf, rn, r_3.1, r_3.2)) else (fX8_bestMove_L47 kk sg f 600 (-1) 0 0 bf bk bs rf rk rs rmf rn r_3.1 r_3.2))) else (some (r_1, 0, bf, bk, bs, rf, rk, rs, rmf, rn, mf, cnt)))
set_option maxRecDepth 100000 in
set_option maxHeartbeats 4000000 in
theorem mX8_bestMove (l : Launch) (hl0 : l.stackTraces = false) (g : GE) (hg st b ca ad be bc rp rc rl rm ml mc tr sa sk sv mt kw zc zp : Nat) (sd : Int32) (mv : Int32) (gm : Int32) (lt : Option Nat) (w1 : Int32) (w2 : Int32) (dg : Int32) (t1 : Int32) (t2 : Int32) (am : Int32) (kk : Int32) (sg : Int32) (f : Nat → Int32) (bk : Int32) (bs : Int32) (bf : Nat → Int32) (rk : Int32) (rs : Int32) (rf : Nat → Int32) (rn : Int32) (rmf : Nat → Int32) (cnt : Int32) (mf : Nat → Int32) (a1 : Int32) (r : Nat × Int32 × (Nat → Int32) × Int32 × Int32 × (Nat → Int32) × Int32 × Int32 × (Nat → Int32) × Int32 × (Nat → Int32) × Int32) (hyp : fX8_bestMove kk sg f bk bs bf rk rs rf rn rmf cnt mf a1 = some r) : XM l yX8_bestMove cX8_bestMove 7 (some .int) 7 170 2 12 g [(hg, .inr (8, [.ref st, .ref tr, .ref sa, .ref sk, .ref sv, .ref mt, .ref ml, .ref ad, .ref kw])), (st, .inr (7, [.ref b, .int sd, .int mv, .int gm, va_rf lt, .int w1, .int w2, .int dg, .int t1, .int t2, .int am])), (b, .inr (1, [.ref ca, .int kk, .int sg])), (ca, .inl (g.2.1, 49, .inl f)), (ad, .inr (0, [.ref be, .ref rp, .ref rl])), (be, .inr (1, [.ref bc, .int bk, .int bs])), (bc, .inl (g.2.1, 49, .inl bf)), (rp, .inr (1, [.ref rc, .int rk, .int rs])), (rc, .inl (g.2.1, 49, .inl rf)), (rl, .inr (3, [.ref rm, .int rn])), (rm, .inl (g.2.1, 588, .inl rmf)), (ml, .inr (3, [.ref mc, .int cnt])), (mc, .inl (g.2.1, 588, .inl mf))] (OZ g zc zp [] none) [.ref hg, .int a1] r.1 (some (.int r.2.1)) (fun na => [(hg, .inr (8, [.ref st, .ref tr, .ref sa, .ref sk, .ref sv, .ref mt, .ref ml, .ref ad, .ref kw])), (st, .inr (7, [.ref b, .int sd, .int mv, .int gm, va_rf lt, .int w1, .int w2, .int dg, .int t1, .int t2, .int am])), (b, .inr (1, [.ref ca, .int kk, .int sg])), (ca, .inl (g.2.1, 49, .inl f)), (ad, .inr (0, [.ref be, .ref rp, .ref rl])), (be, .inr (1, [.ref bc, .int r.2.2.2.1, .int r.2.2.2.2.1])), (bc, .inl (g.2.1, 49, .inl r.2.2.1)), (rp, .inr (1, [.ref rc, .int r.2.2.2.2.2.2.1, .int r.2.2.2.2.2.2.2.1])), (rc, .inl (g.2.1, 49, .inl r.2.2.2.2.2.1)), (rl, .inr (3, [.ref rm, .int r.2.2.2.2.2.2.2.2.2.1])), (rm, .inl (g.2.1, 588, .inl r.2.2.2.2.2.2.2.2.1)), (ml, .inr (3, [.ref mc, .int r.2.2.2.2.2.2.2.2.2.2.2])), (mc, .inl (g.2.1, 588, .inl r.2.2.2.2.2.2.2.2.2.2.1))]) (fun _ => [(hg, .inr (8, [.ref st, .ref tr, .ref sa, .ref sk, .ref sv, .ref mt, .ref ml, .ref ad, .ref kw])), (st, .inr (7, [.ref b, .int sd, .int mv, .int gm, va_rf lt, .int w1, .int w2, .int dg, .int t1, .int t2, .int am])), (b, .inr (1, [.ref ca, .int kk, .int sg])), (ca, .inl (g.2.1, 49, .inl f)), (ad, .inr (0, [.ref be, .ref rp, .ref rl])), (be, .inr (1, [.ref bc, .int r.2.2.2.1, .int r.2.2.2.2.1])), (bc, .inl (g.2.1, 49, .inl r.2.2.1)), (rp, .inr (1, [.ref rc, .int r.2.2.2.2.2.2.1, .int r.2.2.2.2.2.2.2.1])), (rc, .inl (g.2.1, 49, .inl r.2.2.2.2.2.1)), (rl, .inr (3, [.ref rm, .int r.2.2.2.2.2.2.2.2.2.1])), (rm, .inl (g.2.1, 588, .inl r.2.2.2.2.2.2.2.2.1)), (ml, .inr (3, [.ref mc, .int r.2.2.2.2.2.2.2.2.2.2.2])), (mc, .inl (g.2.1, 588, .inl r.2.2.2.2.2.2.2.2.2.2.1))]) := by
  refine metX_intro (by decide) rfl ?_
  intro p e R s m args below meth c Q A hRf hRl hRc hRs hQ hx hb hml hr hlocks hex hown hts hin hE hSR hA hO H locs hP hD hS ls hl
  have hown : s.vm.findClass "HallGuards" = some m.cls := hown
  have hl : lv_has ls 7 [(0, .ref hg), (1, .int a1)] := hl
  unfold fX8_bestMove at hyp
  refine lv_iload_n hx hb dX8_bestMove_0 rfl (lv_at hl 1 rfl) ?_
  obtain ⟨r_1, hr_1, hyp⟩ := opt_e hyp
  refine xS (As := [.int a1]) (rest := []) ⟨hx, hb, hml, hown, hts⟩ hE hSR (mX8_needSide l hl0 g zc zp a1 r_1 hr_1) (OZ_ok g zc zp _ _) hO cf_X8_needSide st_X8_needSide ml_X8_113 ⟨Nat.le_trans (Nat.le_of_ble_eq_true rfl) hRf, Nat.le_trans (Nat.le_of_ble_eq_true rfl) hRl⟩ hP hD hS hA [] [0, 1, 2, 3, 4, 5, 6, 7, 8, 9, 10, 11, 12] rfl (wr := [(hg, .inr (8, [.ref st, .ref tr, .ref sa, .ref sk, .ref sv, .ref mt, .ref ml, .ref ad, .ref kw])), (st, .inr (7, [.ref b, .int sd, .int mv, .int gm, va_rf lt, .int w1, .int w2, .int dg, .int t1, .int t2, .int am])), (b, .inr (1, [.ref ca, .int kk, .int sg])), (ca, .inl (g.2.1, 49, .inl f)), (ad, .inr (0, [.ref be, .ref rp, .ref rl])), (be, .inr (1, [.ref bc, .int bk, .int bs])), (bc, .inl (g.2.1, 49, .inl bf)), (rp, .inr (1, [.ref rc, .int rk, .int rs])), (rc, .inl (g.2.1, 49, .inl rf)), (rl, .inr (3, [.ref rm, .int rn])), (rm, .inl (g.2.1, 588, .inl rmf)), (ml, .inr (3, [.ref mc, .int cnt])), (mc, .inl (g.2.1, 588, .inl mf))]) rfl ⟨by decide, by decide⟩ (by decide) rfl hl.1 rfl (Nat.le_of_ble_eq_true rfl) dX8_bestMove_1 ⟨Nat.le_trans (Nat.le_of_ble_eq_true rfl) hRc, Nat.le_trans (Nat.le_of_ble_eq_true rfl) hRs⟩ (fun hk0 na_2 H locs hna_2 hP hD hS => ?_) (fun hk0 na9 q9 ce9 H locs hna9 hP hD hS hce hcv hcl => ?_)
  rotate_left 1
  · replace hyp := ite_f hk0 hyp
    have hP : va_P g.1 vwCl [(hg, .inr (8, [.ref st, .ref tr, .ref sa, .ref sk, .ref sv, .ref mt, .ref ml, .ref ad, .ref kw])), (st, .inr (7, [.ref b, .int sd, .int mv, .int gm, va_rf lt, .int w1, .int w2, .int dg, .int t1, .int t2, .int am])), (b, .inr (1, [.ref ca, .int kk, .int sg])), (ca, .inl (g.2.1, 49, .inl f)), (ad, .inr (0, [.ref be, .ref rp, .ref rl])), (be, .inr (1, [.ref bc, .int bk, .int bs])), (bc, .inl (g.2.1, 49, .inl bf)), (rp, .inr (1, [.ref rc, .int rk, .int rs])), (rc, .inl (g.2.1, 49, .inl rf)), (rl, .inr (3, [.ref rm, .int rn])), (rm, .inl (g.2.1, 588, .inl rmf)), (ml, .inr (3, [.ref mc, .int cnt])), (mc, .inl (g.2.1, 588, .inl mf))] H := hP
    have hD : va_D A [(hg, .inr (8, [.ref st, .ref tr, .ref sa, .ref sk, .ref sv, .ref mt, .ref ml, .ref ad, .ref kw])), (st, .inr (7, [.ref b, .int sd, .int mv, .int gm, va_rf lt, .int w1, .int w2, .int dg, .int t1, .int t2, .int am])), (b, .inr (1, [.ref ca, .int kk, .int sg])), (ca, .inl (g.2.1, 49, .inl f)), (ad, .inr (0, [.ref be, .ref rp, .ref rl])), (be, .inr (1, [.ref bc, .int bk, .int bs])), (bc, .inl (g.2.1, 49, .inl bf)), (rp, .inr (1, [.ref rc, .int rk, .int rs])), (rc, .inl (g.2.1, 49, .inl rf)), (rl, .inr (3, [.ref rm, .int rn])), (rm, .inl (g.2.1, 588, .inl rmf)), (ml, .inr (3, [.ref mc, .int cnt])), (mc, .inl (g.2.1, 588, .inl mf))] := hD
    have hyp := some_e hyp
    subst hyp
    subst hQ
    exact xOut hex hlocks hk0 (Nat.le_refl _) hP hD hS hce hcv hcl (Nat.le_of_ble_eq_true rfl) (Nat.le_of_ble_eq_true rfl)
  replace hyp := ite_t hk0 hyp
  have hP : va_P g.1 vwCl [(hg, .inr (8, [.ref st, .ref tr, .ref sa, .ref sk, .ref sv, .ref mt, .ref ml, .ref ad, .ref kw])), (st, .inr (7, [.ref b, .int sd, .int mv, .int gm, va_rf lt, .int w1, .int w2, .int dg, .int t1, .int t2, .int am])), (b, .inr (1, [.ref ca, .int kk, .int sg])), (ca, .inl (g.2.1, 49, .inl f)), (ad, .inr (0, [.ref be, .ref rp, .ref rl])), (be, .inr (1, [.ref bc, .int bk, .int bs])), (bc, .inl (g.2.1, 49, .inl bf)), (rp, .inr (1, [.ref rc, .int rk, .int rs])), (rc, .inl (g.2.1, 49, .inl rf)), (rl, .inr (3, [.ref rm, .int rn])), (rm, .inl (g.2.1, 588, .inl rmf)), (ml, .inr (3, [.ref mc, .int cnt])), (mc, .inl (g.2.1, 588, .inl mf))] H := hP
  have hD : va_D A [(hg, .inr (8, [.ref st, .ref tr, .ref sa, .ref sk, .ref sv, .ref mt, .ref ml, .ref ad, .ref kw])), (st, .inr (7, [.ref b, .int sd, .int mv, .int gm, va_rf lt, .int w1, .int w2, .int dg, .int t1, .int t2, .int am])), (b, .inr (1, [.ref ca, .int kk, .int sg])), (ca, .inl (g.2.1, 49, .inl f)), (ad, .inr (0, [.ref be, .ref rp, .ref rl])), (be, .inr (1, [.ref bc, .int bk, .int bs])), (bc, .inl (g.2.1, 49, .inl bf)), (rp, .inr (1, [.ref rc, .int rk, .int rs])), (rc, .inl (g.2.1, 49, .inl rf)), (rl, .inr (3, [.ref rm, .int rn])), (rm, .inl (g.2.1, 588, .inl rmf)), (ml, .inr (3, [.ref mc, .int cnt])), (mc, .inl (g.2.1, 588, .inl mf))] := hD
  refine lv_aload_n hx hb dX8_bestMove_4 rfl (lv_at hl 0 rfl) ?_
  refine gf_X8_12 hx hb hts hown hE hP 0 rfl rfl dX8_bestMove_5 ?_
  refine gf_X8_69 hx hb hts hown hE hP 1 rfl rfl dX8_bestMove_8 ?_
  refine lv_iload_n hx hb dX8_bestMove_11 rfl (lv_at hl 1 rfl) ?_
  refine lv_aload_n hx hb dX8_bestMove_12 rfl (lv_at hl 0 rfl) ?_
  refine gf_X8_44 hx hb hts hown hE hP 0 rfl rfl dX8_bestMove_13 ?_
  obtain ⟨r_3, hr_3, hyp⟩ := opt_e hyp
  refine wV (As := [.int a1, .ref ml]) (rest := []) ⟨hx, hb, hml, hown, hts⟩ hE (mX1_listMoves l g b ca ml mc kk sg f cnt mf a1 r_3 hr_3) cf_X1_listMoves im_X1_listMoves se_X1_listMoves ml_X8_246 ⟨Nat.le_trans (Nat.le_of_ble_eq_true rfl) hRf, Nat.le_trans (Nat.le_of_ble_eq_true rfl) hRl⟩ hP hD hS hA [2, 3, 11, 12] [0, 1, 4, 5, 6, 7, 8, 9, 10] rfl (wr := [(hg, .inr (8, [.ref st, .ref tr, .ref sa, .ref sk, .ref sv, .ref mt, .ref ml, .ref ad, .ref kw])), (st, .inr (7, [.ref b, .int sd, .int mv, .int gm, va_rf lt, .int w1, .int w2, .int dg, .int t1, .int t2, .int am])), (ad, .inr (0, [.ref be, .ref rp, .ref rl])), (be, .inr (1, [.ref bc, .int bk, .int bs])), (bc, .inl (g.2.1, 49, .inl bf)), (rp, .inr (1, [.ref rc, .int rk, .int rs])), (rc, .inl (g.2.1, 49, .inl rf)), (rl, .inr (3, [.ref rm, .int rn])), (rm, .inl (g.2.1, 588, .inl rmf))]) rfl ⟨by decide, by decide⟩ (by decide) (ci := 1) (q0 := 0) rfl rfl rfl rfl hl.1 rfl (Nat.le_of_ble_eq_true rfl) dX8_bestMove_16 ⟨Nat.le_trans (Nat.le_of_ble_eq_true rfl) hRc, Nat.le_trans (Nat.le_of_ble_eq_true rfl) hRs⟩ (fun H locs hP hD hS => ?_)
  have hP : va_P g.1 vwCl [(hg, .inr (8, [.ref st, .ref tr, .ref sa, .ref sk, .ref sv, .ref mt, .ref ml, .ref ad, .ref kw])), (st, .inr (7, [.ref b, .int sd, .int mv, .int gm, va_rf lt, .int w1, .int w2, .int dg, .int t1, .int t2, .int am])), (ad, .inr (0, [.ref be, .ref rp, .ref rl])), (be, .inr (1, [.ref bc, .int bk, .int bs])), (bc, .inl (g.2.1, 49, .inl bf)), (rp, .inr (1, [.ref rc, .int rk, .int rs])), (rc, .inl (g.2.1, 49, .inl rf)), (rl, .inr (3, [.ref rm, .int rn])), (rm, .inl (g.2.1, 588, .inl rmf)), (b, .inr (1, [.ref ca, .int kk, .int sg])), (ca, .inl (g.2.1, 49, .inl f)), (ml, .inr (3, [.ref mc, .int r_3.2])), (mc, .inl (g.2.1, 588, .inl r_3.1))] H := hP
  have hD : va_D A [(hg, .inr (8, [.ref st, .ref tr, .ref sa, .ref sk, .ref sv, .ref mt, .ref ml, .ref ad, .ref kw])), (st, .inr (7, [.ref b, .int sd, .int mv, .int gm, va_rf lt, .int w1, .int w2, .int dg, .int t1, .int t2, .int am])), (ad, .inr (0, [.ref be, .ref rp, .ref rl])), (be, .inr (1, [.ref bc, .int bk, .int bs])), (bc, .inl (g.2.1, 49, .inl bf)), (rp, .inr (1, [.ref rc, .int rk, .int rs])), (rc, .inl (g.2.1, 49, .inl rf)), (rl, .inr (3, [.ref rm, .int rn])), (rm, .inl (g.2.1, 588, .inl rmf)), (b, .inr (1, [.ref ca, .int kk, .int sg])), (ca, .inl (g.2.1, 49, .inl f)), (ml, .inr (3, [.ref mc, .int r_3.2])), (mc, .inl (g.2.1, 588, .inl r_3.1))] := hD
  refine lv_aload_n hx hb dX8_bestMove_19 rfl (lv_at hl 0 rfl) ?_
  refine gf_X8_44 hx hb hts hown hE hP 0 rfl rfl dX8_bestMove_20 ?_
  refine gf_X8_250 hx hb hts hown hE hP 11 rfl rfl dX8_bestMove_23 ?_
  refine lv_if_ne (tgt := 40) hx hb dX8_bestMove_26 (by decide) (fun h_4 => ?_) (fun h_4 => ?_)
  · replace hyp := ite_f h_4 hyp
    refine lv_iconst (v := (-1)) hx hb dX8_bestMove_40 (by decide) ?_
    refine lv_istore_n (lv' := [(2, .int (-1)), (0, .ref hg), (1, .int a1)]) hx hb dX8_bestMove_41 rfl hl (by decide) rfl (fun ls hl => ?_)
    refine lv_iconst (v := 0) hx hb dX8_bestMove_42 (by decide) ?_
    refine lv_istore_n (lv' := [(3, .int 0), (2, .int (-1)), (0, .ref hg), (1, .int a1)]) hx hb dX8_bestMove_43 rfl hl (by decide) rfl (fun ls hl => ?_)
    refine lv_iconst (v := 0) hx hb dX8_bestMove_44 (by decide) ?_
    refine lv_istore (lv' := [(4, .int 0), (3, .int 0), (2, .int (-1)), (0, .ref hg), (1, .int a1)]) hx hb dX8_bestMove_45 hl (by decide) rfl (fun ls hl => ?_)
    have hP : va_P g.1 vwCl [(hg, .inr (8, [.ref st, .ref tr, .ref sa, .ref sk, .ref sv, .ref mt, .ref ml, .ref ad, .ref kw])), (st, .inr (7, [.ref b, .int sd, .int mv, .int gm, va_rf lt, .int w1, .int w2, .int dg, .int t1, .int t2, .int am])), (b, .inr (1, [.ref ca, .int kk, .int sg])), (ca, .inl (g.2.1, 49, .inl f)), (ad, .inr (0, [.ref be, .ref rp, .ref rl])), (be, .inr (1, [.ref bc, .int bk, .int bs])), (bc, .inl (g.2.1, 49, .inl bf)), (rp, .inr (1, [.ref rc, .int rk, .int rs])), (rc, .inl (g.2.1, 49, .inl rf)), (rl, .inr (3, [.ref rm, .int rn])), (rm, .inl (g.2.1, 588, .inl rmf)), (ml, .inr (3, [.ref mc, .int r_3.2])), (mc, .inl (g.2.1, 588, .inl r_3.1))] H := hP.sub [0, 1, 9, 10, 2, 3, 4, 5, 6, 7, 8, 11, 12] rfl
    have hD : va_D A [(hg, .inr (8, [.ref st, .ref tr, .ref sa, .ref sk, .ref sv, .ref mt, .ref ml, .ref ad, .ref kw])), (st, .inr (7, [.ref b, .int sd, .int mv, .int gm, va_rf lt, .int w1, .int w2, .int dg, .int t1, .int t2, .int am])), (b, .inr (1, [.ref ca, .int kk, .int sg])), (ca, .inl (g.2.1, 49, .inl f)), (ad, .inr (0, [.ref be, .ref rp, .ref rl])), (be, .inr (1, [.ref bc, .int bk, .int bs])), (bc, .inl (g.2.1, 49, .inl bf)), (rp, .inr (1, [.ref rc, .int rk, .int rs])), (rc, .inl (g.2.1, 49, .inl rf)), (rl, .inr (3, [.ref rm, .int rn])), (rm, .inl (g.2.1, 588, .inl rmf)), (ml, .inr (3, [.ref mc, .int r_3.2])), (mc, .inl (g.2.1, 588, .inl r_3.1))] := hD.sub [0, 1, 9, 10, 2, 3, 4, 5, 6, 7, 8, 11, 12] (by decide) rfl
    refine lp_i (r := r) (fun z : Int32 × Int32 × Int32 × (Nat → Int32) × Int32 × Int32 × (Nat → Int32) × Int32 × Int32 × (Nat → Int32) × Int32 × (Nat → Int32) × Int32 => ∀ (H : Heap) (locs : List Loc) (ls : Array Slot), lv_has ls 7 [(0, .ref hg), (2, .int z.1), (3, .int z.2.1), (4, .int z.2.2.1)] → va_P g.1 vwCl [(hg, .inr (8, [.ref st, .ref tr, .ref sa, .ref sk, .ref sv, .ref mt, .ref ml, .ref ad, .ref kw])), (st, .inr (7, [.ref b, .int sd, .int mv, .int gm, va_rf lt, .int w1, .int w2, .int dg, .int t1, .int t2, .int am])), (b, .inr (1, [.ref ca, .int kk, .int sg])), (ca, .inl (g.2.1, 49, .inl f)), (ad, .inr (0, [.ref be, .ref rp, .ref rl])), (be, .inr (1, [.ref bc, .int z.2.2.2.2.1, .int z.2.2.2.2.2.1])), (bc, .inl (g.2.1, 49, .inl z.2.2.2.1)), (rp, .inr (1, [.ref rc, .int z.2.2.2.2.2.2.2.1, .int z.2.2.2.2.2.2.2.2.1])), (rc, .inl (g.2.1, 49, .inl z.2.2.2.2.2.2.1)), (rl, .inr (3, [.ref rm, .int z.2.2.2.2.2.2.2.2.2.2.1])), (rm, .inl (g.2.1, 588, .inl z.2.2.2.2.2.2.2.2.2.1)), (ml, .inr (3, [.ref mc, .int z.2.2.2.2.2.2.2.2.2.2.2.2])), (mc, .inl (g.2.1, 588, .inl z.2.2.2.2.2.2.2.2.2.2.2.1))] H → va_D A [(hg, .inr (8, [.ref st, .ref tr, .ref sa, .ref sk, .ref sv, .ref mt, .ref ml, .ref ad, .ref kw])), (st, .inr (7, [.ref b, .int sd, .int mv, .int gm, va_rf lt, .int w1, .int w2, .int dg, .int t1, .int t2, .int am])), (b, .inr (1, [.ref ca, .int kk, .int sg])), (ca, .inl (g.2.1, 49, .inl f)), (ad, .inr (0, [.ref be, .ref rp, .ref rl])), (be, .inr (1, [.ref bc, .int z.2.2.2.2.1, .int z.2.2.2.2.2.1])), (bc, .inl (g.2.1, 49, .inl z.2.2.2.1)), (rp, .inr (1, [.ref rc, .int z.2.2.2.2.2.2.2.1, .int z.2.2.2.2.2.2.2.2.1])), (rc, .inl (g.2.1, 49, .inl z.2.2.2.2.2.2.1)), (rl, .inr (3, [.ref rm, .int z.2.2.2.2.2.2.2.2.2.2.1])), (rm, .inl (g.2.1, 588, .inl z.2.2.2.2.2.2.2.2.2.1)), (ml, .inr (3, [.ref mc, .int z.2.2.2.2.2.2.2.2.2.2.2.2])), (mc, .inl (g.2.1, 588, .inl z.2.2.2.2.2.2.2.2.2.2.2.1))] → va_S A s.heap H locs → W p l e R s m args below meth c H locs 1 6 Q (F0 m 47 ls [])) ?_ 600 ((-1), 0, 0, bf, bk, bs, rf, rk, rs, rmf, rn, r_3.1, r_3.2) hyp _ _ ls (lv_sub hl [3, 2, 1, 0] rfl) hP hD hS
    intro self_18T ihself_18T z hyp H locs ls hl hP hD hS
    obtain ⟨v2_5, v3_6, v4_7, wbf_8, wbk_9, wbs_10, wrf_11, wrk_12, wrs_13, wrmf_14, wrn_15, wmf_16, wcnt_17⟩ := z
    obtain ⟨self_18, eself_18⟩ : ∃ f9 : Int32 → Int32 → Int32 → (Nat → Int32) → Int32 → Int32 → (Nat → Int32) → Int32 → Int32 → (Nat → Int32) → Int32 → (Nat → Int32) → Int32 → Option (Nat × Int32 × (Nat → Int32) × Int32 × Int32 × (Nat → Int32) × Int32 × Int32 × (Nat → Int32) × Int32 × (Nat → Int32) × Int32), f9 = fun v2_5 v3_6 v4_7 wbf_8 wbk_9 wbs_10 wrf_11 wrk_12 wrs_13 wrmf_14 wrn_15 wmf_16 wcnt_17 => self_18T (v2_5, v3_6, v4_7, wbf_8, wbk_9, wbs_10, wrf_11, wrk_12, wrs_13, wrmf_14, wrn_15, wmf_16, wcnt_17) := ⟨_, rfl⟩
    have ihself_18 := fun (v2_5 : Int32) (v3_6 : Int32) (v4_7 : Int32) (wbf_8 : Nat → Int32) (wbk_9 : Int32) (wbs_10 : Int32) (wrf_11 : Nat → Int32) (wrk_12 : Int32) (wrs_13 : Int32) (wrmf_14 : Nat → Int32) (wrn_15 : Int32) (wmf_16 : Nat → Int32) (wcnt_17 : Int32) (h9 : self_18 v2_5 v3_6 v4_7 wbf_8 wbk_9 wbs_10 wrf_11 wrk_12 wrs_13 wrmf_14 wrn_15 wmf_16 wcnt_17 = some r) => ihself_18T (v2_5, v3_6, v4_7, wbf_8, wbk_9, wbs_10, wrf_11, wrk_12, wrs_13, wrmf_14, wrn_15, wmf_16, wcnt_17) (by rw [eself_18] at h9; exact h9)
    replace hyp : fX8_bestMove_L47_B kk sg f self_18 v2_5 v3_6 v4_7 wbf_8 wbk_9 wbs_10 wrf_11 wrk_12 wrs_13 wrmf_14 wrn_15 wmf_16 wcnt_17 = some r := by rw [eself_18]; exact hyp
    have hl : lv_has ls 7 [(0, .ref hg), (2, .int v2_5), (3, .int v3_6), (4, .int v4_7)] := hl
    have hP : va_P g.1 vwCl [(hg, .inr (8, [.ref st, .ref tr, .ref sa, .ref sk, .ref sv, .ref mt, .ref ml, .ref ad, .ref kw])), (st, .inr (7, [.ref b, .int sd, .int mv, .int gm, va_rf lt, .int w1, .int w2, .int dg, .int t1, .int t2, .int am])), (b, .inr (1, [.ref ca, .int kk, .int sg])), (ca, .inl (g.2.1, 49, .inl f)), (ad, .inr (0, [.ref be, .ref rp, .ref rl])), (be, .inr (1, [.ref bc, .int wbk_9, .int wbs_10])), (bc, .inl (g.2.1, 49, .inl wbf_8)), (rp, .inr (1, [.ref rc, .int wrk_12, .int wrs_13])), (rc, .inl (g.2.1, 49, .inl wrf_11)), (rl, .inr (3, [.ref rm, .int wrn_15])), (rm, .inl (g.2.1, 588, .inl wrmf_14)), (ml, .inr (3, [.ref mc, .int wcnt_17])), (mc, .inl (g.2.1, 588, .inl wmf_16))] H := hP
    have hD : va_D A [(hg, .inr (8, [.ref st, .ref tr, .ref sa, .ref sk, .ref sv, .ref mt, .ref ml, .ref ad, .ref kw])), (st, .inr (7, [.ref b, .int sd, .int mv, .int gm, va_rf lt, .int w1, .int w2, .int dg, .int t1, .int t2, .int am])), (b, .inr (1, [.ref ca, .int kk, .int sg])), (ca, .inl (g.2.1, 49, .inl f)), (ad, .inr (0, [.ref be, .ref rp, .ref rl])), (be, .inr (1, [.ref bc, .int wbk_9, .int wbs_10])), (bc, .inl (g.2.1, 49, .inl wbf_8)), (rp, .inr (1, [.ref rc, .int wrk_12, .int wrs_13])), (rc, .inl (g.2.1, 49, .inl wrf_11)), (rl, .inr (3, [.ref rm, .int wrn_15])), (rm, .inl (g.2.1, 588, .inl wrmf_14)), (ml, .inr (3, [.ref mc, .int wcnt_17])), (mc, .inl (g.2.1, 588, .inl wmf_16))] := hD
    show W p l e R s m args below meth c H locs 1 6 Q (F0 m 47 ls [])
    unfold fX8_bestMove_L47_B at hyp
    refine lv_iload hx hb dX8_bestMove_47 (lv_at hl 3 rfl) ?_
    refine lv_aload_n hx hb dX8_bestMove_49 rfl (lv_at hl 0 rfl) ?_
    refine gf_X8_44 hx hb hts hown hE hP 0 rfl rfl dX8_bestMove_50 ?_
    refine gf_X8_250 hx hb hts hown hE hP 11 rfl rfl dX8_bestMove_53 ?_
    refine lv_icmp_ge (tgt := 118) hx hb dX8_bestMove_56 (by decide) (fun h_19 => ?_) (fun h_19 => ?_)
    · replace hyp := ite_t h_19 hyp
      refine lv_iload_n hx hb dX8_bestMove_118 rfl (lv_at hl 1 rfl) ?_
      have hyp := some_e hyp
      subst hyp
      subst hQ
      exact xrI (na := s.heap.size) hx hb hr hlocks (Nat.le_refl _) hP hD hS (Nat.le_of_ble_eq_true rfl) (Nat.le_of_ble_eq_true rfl) dX8_bestMove_119
    · replace hyp := ite_f h_19 hyp
      refine lv_aload_n hx hb dX8_bestMove_59 rfl (lv_at hl 0 rfl) ?_
      refine gf_X8_44 hx hb hts hown hE hP 0 rfl rfl dX8_bestMove_60 ?_
      refine lv_iload hx hb dX8_bestMove_63 (lv_at hl 3 rfl) ?_
      obtain ⟨r_20, hr_20, hyp⟩ := opt_e hyp
      refine pV (As := [.int v4_7]) (rest := []) ⟨hx, hb, hml, hown, hts⟩ hE (mX3_codeAt l g ml mc wcnt_17 wmf_16 v4_7 r_20 hr_20) cf_X3_codeAt im_X3_codeAt se_X3_codeAt ml_X8_256 ⟨Nat.le_trans (Nat.le_of_ble_eq_true rfl) hRf, Nat.le_trans (Nat.le_of_ble_eq_true rfl) hRl⟩ (hP.sub (ws' := [(ml, .inr (3, [.ref mc, .int wcnt_17])), (mc, .inl (g.2.1, 588, .inl wmf_16))]) [11, 12] rfl) (ci := 3) (q0 := 0) rfl rfl rfl rfl hl.1 rfl (Nat.le_of_ble_eq_true rfl) dX8_bestMove_65 ⟨Nat.le_trans (Nat.le_of_ble_eq_true rfl) hRc, Nat.le_trans (Nat.le_of_ble_eq_true rfl) hRs⟩ ?_
      refine lv_istore (lv' := [(5, .int r_20), (0, .ref hg), (2, .int v2_5), (3, .int v3_6), (4, .int v4_7)]) hx hb dX8_bestMove_68 hl (by decide) rfl (fun ls hl => ?_)
      refine lv_aload_n hx hb dX8_bestMove_70 rfl (lv_at hl 1 rfl) ?_
      refine gf_X8_51 hx hb hts hown hE hP 0 rfl rfl dX8_bestMove_71 ?_
      refine lv_aload_n hx hb dX8_bestMove_74 rfl (lv_at hl 1 rfl) ?_
      refine gf_X8_12 hx hb hts hown hE hP 0 rfl rfl dX8_bestMove_75 ?_
      refine gf_X8_69 hx hb hts hown hE hP 1 rfl rfl dX8_bestMove_78 ?_
      refine lv_iload hx hb dX8_bestMove_81 (lv_at hl 0 rfl) ?_
      refine lv_bipush (v := 49) hx hb dX8_bestMove_83 (by decide) ?_
      refine lv_idiv hx hb dX8_bestMove_85 (by decide) ?_
      refine lv_iload hx hb dX8_bestMove_86 (lv_at hl 0 rfl) ?_
      refine lv_bipush (v := 49) hx hb dX8_bestMove_88 (by decide) ?_
      refine lv_irem hx hb dX8_bestMove_90 (by decide) ?_
      obtain ⟨r_21, hr_21, hyp⟩ := opt_e hyp
      refine wV (As := [.ref b, .int (r_20 / 49), .int (r_20 - r_20 / 49 * 49)]) (rest := []) ⟨hx, hb, hml, hown, hts⟩ hE (mX0_worth l g ad be bc rp rc rl rm b ca wbk_9 wbs_10 wbf_8 wrk_12 wrs_13 wrf_11 wrn_15 wrmf_14 kk sg f (r_20 / 49) (r_20 - r_20 / 49 * 49) r_21 hr_21) cf_X0_worth im_X0_worth se_X0_worth ml_X8_277 ⟨Nat.le_trans (Nat.le_of_ble_eq_true rfl) hRf, Nat.le_trans (Nat.le_of_ble_eq_true rfl) hRl⟩ hP hD hS hA [4, 5, 6, 7, 8, 9, 10, 2, 3] [0, 1, 11, 12] rfl (wr := [(hg, .inr (8, [.ref st, .ref tr, .ref sa, .ref sk, .ref sv, .ref mt, .ref ml, .ref ad, .ref kw])), (st, .inr (7, [.ref b, .int sd, .int mv, .int gm, va_rf lt, .int w1, .int w2, .int dg, .int t1, .int t2, .int am])), (ml, .inr (3, [.ref mc, .int wcnt_17])), (mc, .inl (g.2.1, 588, .inl wmf_16))]) rfl ⟨by decide, by decide⟩ (by decide) (ci := 0) (q0 := 0) rfl rfl rfl rfl hl.1 rfl (Nat.le_of_ble_eq_true rfl) dX8_bestMove_91 ⟨Nat.le_trans (Nat.le_of_ble_eq_true rfl) hRc, Nat.le_trans (Nat.le_of_ble_eq_true rfl) hRs⟩ (fun H locs hP hD hS => ?_)
      have hP : va_P g.1 vwCl [(hg, .inr (8, [.ref st, .ref tr, .ref sa, .ref sk, .ref sv, .ref mt, .ref ml, .ref ad, .ref kw])), (st, .inr (7, [.ref b, .int sd, .int mv, .int gm, va_rf lt, .int w1, .int w2, .int dg, .int t1, .int t2, .int am])), (ml, .inr (3, [.ref mc, .int wcnt_17])), (mc, .inl (g.2.1, 588, .inl wmf_16)), (ad, .inr (0, [.ref be, .ref rp, .ref rl])), (be, .inr (1, [.ref bc, .int r_21.2.2.1, .int r_21.2.2.2.1])), (bc, .inl (g.2.1, 49, .inl r_21.2.1)), (rp, .inr (1, [.ref rc, .int r_21.2.2.2.2.2.1, .int r_21.2.2.2.2.2.2.1])), (rc, .inl (g.2.1, 49, .inl r_21.2.2.2.2.1)), (rl, .inr (3, [.ref rm, .int r_21.2.2.2.2.2.2.2.2])), (rm, .inl (g.2.1, 588, .inl r_21.2.2.2.2.2.2.2.1)), (b, .inr (1, [.ref ca, .int kk, .int sg])), (ca, .inl (g.2.1, 49, .inl f))] H := hP
      have hD : va_D A [(hg, .inr (8, [.ref st, .ref tr, .ref sa, .ref sk, .ref sv, .ref mt, .ref ml, .ref ad, .ref kw])), (st, .inr (7, [.ref b, .int sd, .int mv, .int gm, va_rf lt, .int w1, .int w2, .int dg, .int t1, .int t2, .int am])), (ml, .inr (3, [.ref mc, .int wcnt_17])), (mc, .inl (g.2.1, 588, .inl wmf_16)), (ad, .inr (0, [.ref be, .ref rp, .ref rl])), (be, .inr (1, [.ref bc, .int r_21.2.2.1, .int r_21.2.2.2.1])), (bc, .inl (g.2.1, 49, .inl r_21.2.1)), (rp, .inr (1, [.ref rc, .int r_21.2.2.2.2.2.1, .int r_21.2.2.2.2.2.2.1])), (rc, .inl (g.2.1, 49, .inl r_21.2.2.2.2.1)), (rl, .inr (3, [.ref rm, .int r_21.2.2.2.2.2.2.2.2])), (rm, .inl (g.2.1, 588, .inl r_21.2.2.2.2.2.2.2.1)), (b, .inr (1, [.ref ca, .int kk, .int sg])), (ca, .inl (g.2.1, 49, .inl f))] := hD
      refine lv_istore (lv' := [(6, .int r_21.1), (5, .int r_20), (0, .ref hg), (2, .int v2_5), (3, .int v3_6), (4, .int v4_7)]) hx hb dX8_bestMove_94 hl (by decide) rfl (fun ls hl => ?_)
      refine lv_iload_n hx hb dX8_bestMove_96 rfl (lv_at hl 3 rfl) ?_
      have hP : va_P g.1 vwCl [(hg, .inr (8, [.ref st, .ref tr, .ref sa, .ref sk, .ref sv, .ref mt, .ref ml, .ref ad, .ref kw])), (st, .inr (7, [.ref b, .int sd, .int mv, .int gm, va_rf lt, .int w1, .int w2, .int dg, .int t1, .int t2, .int am])), (b, .inr (1, [.ref ca, .int kk, .int sg])), (ca, .inl (g.2.1, 49, .inl f)), (ad, .inr (0, [.ref be, .ref rp, .ref rl])), (be, .inr (1, [.ref bc, .int r_21.2.2.1, .int r_21.2.2.2.1])), (bc, .inl (g.2.1, 49, .inl r_21.2.1)), (rp, .inr (1, [.ref rc, .int r_21.2.2.2.2.2.1, .int r_21.2.2.2.2.2.2.1])), (rc, .inl (g.2.1, 49, .inl r_21.2.2.2.2.1)), (rl, .inr (3, [.ref rm, .int r_21.2.2.2.2.2.2.2.2])), (rm, .inl (g.2.1, 588, .inl r_21.2.2.2.2.2.2.2.1)), (ml, .inr (3, [.ref mc, .int wcnt_17])), (mc, .inl (g.2.1, 588, .inl wmf_16))] H := hP.sub [0, 1, 11, 12, 4, 5, 6, 7, 8, 9, 10, 2, 3] rfl
      have hD : va_D A [(hg, .inr (8, [.ref st, .ref tr, .ref sa, .ref sk, .ref sv, .ref mt, .ref ml, .ref ad, .ref kw])), (st, .inr (7, [.ref b, .int sd, .int mv, .int gm, va_rf lt, .int w1, .int w2, .int dg, .int t1, .int t2, .int am])), (b, .inr (1, [.ref ca, .int kk, .int sg])), (ca, .inl (g.2.1, 49, .inl f)), (ad, .inr (0, [.ref be, .ref rp, .ref rl])), (be, .inr (1, [.ref bc, .int r_21.2.2.1, .int r_21.2.2.2.1])), (bc, .inl (g.2.1, 49, .inl r_21.2.1)), (rp, .inr (1, [.ref rc, .int r_21.2.2.2.2.2.1, .int r_21.2.2.2.2.2.2.1])), (rc, .inl (g.2.1, 49, .inl r_21.2.2.2.2.1)), (rl, .inr (3, [.ref rm, .int r_21.2.2.2.2.2.2.2.2])), (rm, .inl (g.2.1, 588, .inl r_21.2.2.2.2.2.2.2.1)), (ml, .inr (3, [.ref mc, .int wcnt_17])), (mc, .inl (g.2.1, 588, .inl wmf_16))] := hD.sub [0, 1, 11, 12, 4, 5, 6, 7, 8, 9, 10, 2, 3] (by decide) rfl
      obtain ⟨J_22, eJ_22, hyp⟩ := jn_e hyp
      have kJ_22 : ∀ (H : Heap) (locs : List Loc) (ls : Array Slot), J_22 = some r → lv_has ls 7 [(0, .ref hg), (4, .int v4_7), (5, .int r_20), (6, .int r_21.1)] → va_P g.1 vwCl [(hg, .inr (8, [.ref st, .ref tr, .ref sa, .ref sk, .ref sv, .ref mt, .ref ml, .ref ad, .ref kw])), (st, .inr (7, [.ref b, .int sd, .int mv, .int gm, va_rf lt, .int w1, .int w2, .int dg, .int t1, .int t2, .int am])), (b, .inr (1, [.ref ca, .int kk, .int sg])), (ca, .inl (g.2.1, 49, .inl f)), (ad, .inr (0, [.ref be, .ref rp, .ref rl])), (be, .inr (1, [.ref bc, .int r_21.2.2.1, .int r_21.2.2.2.1])), (bc, .inl (g.2.1, 49, .inl r_21.2.1)), (rp, .inr (1, [.ref rc, .int r_21.2.2.2.2.2.1, .int r_21.2.2.2.2.2.2.1])), (rc, .inl (g.2.1, 49, .inl r_21.2.2.2.2.1)), (rl, .inr (3, [.ref rm, .int r_21.2.2.2.2.2.2.2.2])), (rm, .inl (g.2.1, 588, .inl r_21.2.2.2.2.2.2.2.1)), (ml, .inr (3, [.ref mc, .int wcnt_17])), (mc, .inl (g.2.1, 588, .inl wmf_16))] H → va_D A [(hg, .inr (8, [.ref st, .ref tr, .ref sa, .ref sk, .ref sv, .ref mt, .ref ml, .ref ad, .ref kw])), (st, .inr (7, [.ref b, .int sd, .int mv, .int gm, va_rf lt, .int w1, .int w2, .int dg, .int t1, .int t2, .int am])), (b, .inr (1, [.ref ca, .int kk, .int sg])), (ca, .inl (g.2.1, 49, .inl f)), (ad, .inr (0, [.ref be, .ref rp, .ref rl])), (be, .inr (1, [.ref bc, .int r_21.2.2.1, .int r_21.2.2.2.1])), (bc, .inl (g.2.1, 49, .inl r_21.2.1)), (rp, .inr (1, [.ref rc, .int r_21.2.2.2.2.2.1, .int r_21.2.2.2.2.2.2.1])), (rc, .inl (g.2.1, 49, .inl r_21.2.2.2.2.1)), (rl, .inr (3, [.ref rm, .int r_21.2.2.2.2.2.2.2.2])), (rm, .inl (g.2.1, 588, .inl r_21.2.2.2.2.2.2.2.1)), (ml, .inr (3, [.ref mc, .int wcnt_17])), (mc, .inl (g.2.1, 588, .inl wmf_16))] → va_S A s.heap H locs → W p l e R s m args below meth c H locs 1 6 Q (F0 m 106 ls []) := by
        intro H locs  ls hyp hl hP hD hS
        replace hyp := (eJ_22).symm.trans hyp
        refine lv_iload hx hb dX8_bestMove_106 (lv_at hl 2 rfl) ?_
        refine lv_istore_n (lv' := [(2, .int r_20), (0, .ref hg), (4, .int v4_7), (5, .int r_20), (6, .int r_21.1)]) hx hb dX8_bestMove_108 rfl hl (by decide) rfl (fun ls hl => ?_)
        refine lv_iload hx hb dX8_bestMove_109 (lv_at hl 4 rfl) ?_
        refine lv_istore_n (lv' := [(3, .int r_21.1), (2, .int r_20), (0, .ref hg), (4, .int v4_7), (5, .int r_20), (6, .int r_21.1)]) hx hb dX8_bestMove_111 rfl hl (by decide) rfl (fun ls hl => ?_)
        refine lv_iinc (v := v4_7 + 1) (lv' := [(4, .int (v4_7 + 1)), (3, .int r_21.1), (2, .int r_20), (0, .ref hg), (5, .int r_20), (6, .int r_21.1)]) hx hb dX8_bestMove_112 hl (k := 3) rfl rfl (by decide) rfl (fun ls hl => ?_)
        refine lv_goto (tgt := 47) hx hb dX8_bestMove_115 (by decide) ?_
        exact ihself_18 r_20 r_21.1 (v4_7 + 1) r_21.2.1 r_21.2.2.1 r_21.2.2.2.1 r_21.2.2.2.2.1 r_21.2.2.2.2.2.1 r_21.2.2.2.2.2.2.1 r_21.2.2.2.2.2.2.2.1 r_21.2.2.2.2.2.2.2.2 wmf_16 wcnt_17 hyp H locs ls (lv_sub hl [3, 2, 1, 0] rfl) hP hD hS
      refine lv_if_lt (tgt := 106) hx hb dX8_bestMove_97 (by decide) (fun h_23 => ?_) (fun h_23 => ?_)
      · replace hyp := ite_t h_23 hyp
        exact kJ_22 H locs ls hyp (lv_sub hl [2, 5, 1, 0] rfl) hP hD hS
      · replace hyp := ite_f h_23 hyp
        refine lv_iload hx hb dX8_bestMove_100 (lv_at hl 0 rfl) ?_
        refine lv_iload_n hx hb dX8_bestMove_102 rfl (lv_at hl 4 rfl) ?_
        refine lv_icmp_le (tgt := 112) hx hb dX8_bestMove_103 (by decide) (fun h_24 => ?_) (fun h_24 => ?_)
        · replace hyp := ite_t h_24 hyp
          refine lv_iinc (v := v4_7 + 1) (lv' := [(4, .int (v4_7 + 1)), (6, .int r_21.1), (5, .int r_20), (0, .ref hg), (2, .int v2_5), (3, .int v3_6)]) hx hb dX8_bestMove_112 hl (k := 5) rfl rfl (by decide) rfl (fun ls hl => ?_)
          refine lv_goto (tgt := 47) hx hb dX8_bestMove_115 (by decide) ?_
          exact ihself_18 v2_5 v3_6 (v4_7 + 1) r_21.2.1 r_21.2.2.1 r_21.2.2.2.1 r_21.2.2.2.2.1 r_21.2.2.2.2.2.1 r_21.2.2.2.2.2.2.1 r_21.2.2.2.2.2.2.2.1 r_21.2.2.2.2.2.2.2.2 wmf_16 wcnt_17 hyp H locs ls (lv_sub hl [3, 4, 5, 0] rfl) hP hD hS
        · replace hyp := ite_f h_24 hyp
          exact kJ_22 H locs ls hyp (lv_sub hl [2, 5, 1, 0] rfl) hP hD hS
  · replace hyp := ite_t h_4 hyp
    have hP : va_P g.1 vwCl [(hg, .inr (8, [.ref st, .ref tr, .ref sa, .ref sk, .ref sv, .ref mt, .ref ml, .ref ad, .ref kw])), (st, .inr (7, [.ref b, .int sd, .int mv, .int gm, va_rf lt, .int w1, .int w2, .int dg, .int t1, .int t2, .int am])), (b, .inr (1, [.ref ca, .int kk, .int sg])), (ca, .inl (g.2.1, 49, .inl f)), (ad, .inr (0, [.ref be, .ref rp, .ref rl])), (be, .inr (1, [.ref bc, .int bk, .int bs])), (bc, .inl (g.2.1, 49, .inl bf)), (rp, .inr (1, [.ref rc, .int rk, .int rs])), (rc, .inl (g.2.1, 49, .inl rf)), (rl, .inr (3, [.ref rm, .int rn])), (rm, .inl (g.2.1, 588, .inl rmf)), (ml, .inr (3, [.ref mc, .int r_3.2])), (mc, .inl (g.2.1, 588, .inl r_3.1))] H := hP.sub [0, 1, 9, 10, 2, 3, 4, 5, 6, 7, 8, 11, 12] rfl
    have hD : va_D A [(hg, .inr (8, [.ref st, .ref tr, .ref sa, .ref sk, .ref sv, .ref mt, .ref ml, .ref ad, .ref kw])), (st, .inr (7, [.ref b, .int sd, .int mv, .int gm, va_rf lt, .int w1, .int w2, .int dg, .int t1, .int t2, .int am])), (b, .inr (1, [.ref ca, .int kk, .int sg])), (ca, .inl (g.2.1, 49, .inl f)), (ad, .inr (0, [.ref be, .ref rp, .ref rl])), (be, .inr (1, [.ref bc, .int bk, .int bs])), (bc, .inl (g.2.1, 49, .inl bf)), (rp, .inr (1, [.ref rc, .int rk, .int rs])), (rc, .inl (g.2.1, 49, .inl rf)), (rl, .inr (3, [.ref rm, .int rn])), (rm, .inl (g.2.1, 588, .inl rmf)), (ml, .inr (3, [.ref mc, .int r_3.2])), (mc, .inl (g.2.1, 588, .inl r_3.1))] := hD.sub [0, 1, 9, 10, 2, 3, 4, 5, 6, 7, 8, 11, 12] (by decide) rfl
    have hyp := some_e hyp
    subst hyp
    subst hQ
    exact xthr (q := (280, "the side has no move")) (cls := "java/lang/IllegalStateException") (by decide) (Nat.succ_ne_zero _) rfl aw3 (by decide) hx hb hl0 hml hlocks hex hown hts hSR hO.2.1 (Nat.le_refl _) hP hD hS hl.1 (Nat.le_of_ble_eq_true rfl) ⟨Nat.le_trans (Nat.le_of_ble_eq_true rfl) hRf, Nat.le_trans (Nat.le_of_ble_eq_true rfl) hRl⟩ ⟨Nat.le_trans (Nat.le_of_ble_eq_true rfl) hRc, Nat.le_trans (Nat.le_of_ble_eq_true rfl) hRs⟩ ⟨Nat.le_of_ble_eq_true rfl, Nat.le_of_ble_eq_true rfl⟩ dX8_bestMove_29 dX8_bestMove_32 (Or.inr ⟨dX8_bestMove_33, dX8_bestMove_36, dX8_bestMove_39⟩)

def fX8_wins (w1 : Int32) (w2 : Int32) (a1 : Int32) : Option (Nat × Int32) :=
  (fX8_needSide a1).bind (fun (r_1 : Nat) => if r_1 = 0 then (if a1 = 0 then (some (0, w1)) else (some (0, w2))) else (some (r_1, 0)))
set_option maxRecDepth 100000 in
set_option maxHeartbeats 4000000 in
theorem mX8_wins (l : Launch) (hl0 : l.stackTraces = false) (g : GE) (hg st b ca tr sa sk sv mt ml ad kw zc zp : Nat) (sd : Int32) (mv : Int32) (gm : Int32) (lt : Option Nat) (w1 : Int32) (w2 : Int32) (dg : Int32) (t1 : Int32) (t2 : Int32) (am : Int32) (kk : Int32) (sg : Int32) (f : Nat → Int32) (a1 : Int32) (r : Nat × Int32) (hyp : fX8_wins w1 w2 a1 = some r) : XM l yX8_wins cX8_wins 2 (some .int) 7 110 1 6 g [(hg, .inr (8, [.ref st, .ref tr, .ref sa, .ref sk, .ref sv, .ref mt, .ref ml, .ref ad, .ref kw])), (st, .inr (7, [.ref b, .int sd, .int mv, .int gm, va_rf lt, .int w1, .int w2, .int dg, .int t1, .int t2, .int am])), (b, .inr (1, [.ref ca, .int kk, .int sg])), (ca, .inl (g.2.1, 49, .inl f))] (OZ g zc zp [] none) [.ref hg, .int a1] r.1 (some (.int r.2)) (fun na => [(hg, .inr (8, [.ref st, .ref tr, .ref sa, .ref sk, .ref sv, .ref mt, .ref ml, .ref ad, .ref kw])), (st, .inr (7, [.ref b, .int sd, .int mv, .int gm, va_rf lt, .int w1, .int w2, .int dg, .int t1, .int t2, .int am])), (b, .inr (1, [.ref ca, .int kk, .int sg])), (ca, .inl (g.2.1, 49, .inl f))]) (fun _ => [(hg, .inr (8, [.ref st, .ref tr, .ref sa, .ref sk, .ref sv, .ref mt, .ref ml, .ref ad, .ref kw])), (st, .inr (7, [.ref b, .int sd, .int mv, .int gm, va_rf lt, .int w1, .int w2, .int dg, .int t1, .int t2, .int am])), (b, .inr (1, [.ref ca, .int kk, .int sg])), (ca, .inl (g.2.1, 49, .inl f))]) := by
  refine metX_intro (by decide) rfl ?_
  intro p e R s m args below meth c Q A hRf hRl hRc hRs hQ hx hb hml hr hlocks hex hown hts hin hE hSR hA hO H locs hP hD hS ls hl
  have hown : s.vm.findClass "HallGuards" = some m.cls := hown
  have hl : lv_has ls 2 [(0, .ref hg), (1, .int a1)] := hl
  unfold fX8_wins at hyp
  refine lv_iload_n hx hb dX8_wins_0 rfl (lv_at hl 1 rfl) ?_
  obtain ⟨r_1, hr_1, hyp⟩ := opt_e hyp
  refine xS (As := [.int a1]) (rest := []) ⟨hx, hb, hml, hown, hts⟩ hE hSR (mX8_needSide l hl0 g zc zp a1 r_1 hr_1) (OZ_ok g zc zp _ _) hO cf_X8_needSide st_X8_needSide ml_X8_113 ⟨Nat.le_trans (Nat.le_of_ble_eq_true rfl) hRf, Nat.le_trans (Nat.le_of_ble_eq_true rfl) hRl⟩ hP hD hS hA [] [0, 1, 2, 3] rfl (wr := [(hg, .inr (8, [.ref st, .ref tr, .ref sa, .ref sk, .ref sv, .ref mt, .ref ml, .ref ad, .ref kw])), (st, .inr (7, [.ref b, .int sd, .int mv, .int gm, va_rf lt, .int w1, .int w2, .int dg, .int t1, .int t2, .int am])), (b, .inr (1, [.ref ca, .int kk, .int sg])), (ca, .inl (g.2.1, 49, .inl f))]) rfl ⟨by decide, by decide⟩ (by decide) rfl hl.1 rfl (Nat.le_of_ble_eq_true rfl) dX8_wins_1 ⟨Nat.le_trans (Nat.le_of_ble_eq_true rfl) hRc, Nat.le_trans (Nat.le_of_ble_eq_true rfl) hRs⟩ (fun hk0 na_2 H locs hna_2 hP hD hS => ?_) (fun hk0 na9 q9 ce9 H locs hna9 hP hD hS hce hcv hcl => ?_)
  rotate_left 1
  · replace hyp := ite_f hk0 hyp
    have hP : va_P g.1 vwCl [(hg, .inr (8, [.ref st, .ref tr, .ref sa, .ref sk, .ref sv, .ref mt, .ref ml, .ref ad, .ref kw])), (st, .inr (7, [.ref b, .int sd, .int mv, .int gm, va_rf lt, .int w1, .int w2, .int dg, .int t1, .int t2, .int am])), (b, .inr (1, [.ref ca, .int kk, .int sg])), (ca, .inl (g.2.1, 49, .inl f))] H := hP
    have hD : va_D A [(hg, .inr (8, [.ref st, .ref tr, .ref sa, .ref sk, .ref sv, .ref mt, .ref ml, .ref ad, .ref kw])), (st, .inr (7, [.ref b, .int sd, .int mv, .int gm, va_rf lt, .int w1, .int w2, .int dg, .int t1, .int t2, .int am])), (b, .inr (1, [.ref ca, .int kk, .int sg])), (ca, .inl (g.2.1, 49, .inl f))] := hD
    have hyp := some_e hyp
    subst hyp
    subst hQ
    exact xOut hex hlocks hk0 (Nat.le_refl _) hP hD hS hce hcv hcl (Nat.le_of_ble_eq_true rfl) (Nat.le_of_ble_eq_true rfl)
  replace hyp := ite_t hk0 hyp
  have hP : va_P g.1 vwCl [(hg, .inr (8, [.ref st, .ref tr, .ref sa, .ref sk, .ref sv, .ref mt, .ref ml, .ref ad, .ref kw])), (st, .inr (7, [.ref b, .int sd, .int mv, .int gm, va_rf lt, .int w1, .int w2, .int dg, .int t1, .int t2, .int am])), (b, .inr (1, [.ref ca, .int kk, .int sg])), (ca, .inl (g.2.1, 49, .inl f))] H := hP
  have hD : va_D A [(hg, .inr (8, [.ref st, .ref tr, .ref sa, .ref sk, .ref sv, .ref mt, .ref ml, .ref ad, .ref kw])), (st, .inr (7, [.ref b, .int sd, .int mv, .int gm, va_rf lt, .int w1, .int w2, .int dg, .int t1, .int t2, .int am])), (b, .inr (1, [.ref ca, .int kk, .int sg])), (ca, .inl (g.2.1, 49, .inl f))] := hD
  refine lv_iload_n hx hb dX8_wins_4 rfl (lv_at hl 1 rfl) ?_
  refine lv_if_ne (tgt := 18) hx hb dX8_wins_5 (by decide) (fun h_3 => ?_) (fun h_3 => ?_)
  · replace hyp := ite_f h_3 hyp
    refine lv_aload_n hx hb dX8_wins_18 rfl (lv_at hl 0 rfl) ?_
    refine gf_X8_12 hx hb hts hown hE hP 0 rfl rfl dX8_wins_19 ?_
    refine gf_X8_285 hx hb hts hown hE hP 1 rfl rfl dX8_wins_22 ?_
    have hyp := some_e hyp
    subst hyp
    subst hQ
    exact xrI (na := s.heap.size) hx hb hr hlocks (Nat.le_refl _) hP hD hS (Nat.le_of_ble_eq_true rfl) (Nat.le_of_ble_eq_true rfl) dX8_wins_25
  · replace hyp := ite_t h_3 hyp
    refine lv_aload_n hx hb dX8_wins_8 rfl (lv_at hl 0 rfl) ?_
    refine gf_X8_12 hx hb hts hown hE hP 0 rfl rfl dX8_wins_9 ?_
    refine gf_X8_282 hx hb hts hown hE hP 1 rfl rfl dX8_wins_12 ?_
    refine lv_goto (tgt := 25) hx hb dX8_wins_15 (by decide) ?_
    have hyp := some_e hyp
    subst hyp
    subst hQ
    exact xrI (na := s.heap.size) hx hb hr hlocks (Nat.le_refl _) hP hD hS (Nat.le_of_ble_eq_true rfl) (Nat.le_of_ble_eq_true rfl) dX8_wins_25

def fX8_takenOf (t1 : Int32) (t2 : Int32) (a1 : Int32) : Option (Nat × Int32) :=
  (fX8_needSide a1).bind (fun (r_1 : Nat) => if r_1 = 0 then (if a1 = 0 then (some (0, t1)) else (some (0, t2))) else (some (r_1, 0)))
set_option maxRecDepth 100000 in
set_option maxHeartbeats 4000000 in
theorem mX8_takenOf (l : Launch) (hl0 : l.stackTraces = false) (g : GE) (hg st b ca tr sa sk sv mt ml ad kw zc zp : Nat) (sd : Int32) (mv : Int32) (gm : Int32) (lt : Option Nat) (w1 : Int32) (w2 : Int32) (dg : Int32) (t1 : Int32) (t2 : Int32) (am : Int32) (kk : Int32) (sg : Int32) (f : Nat → Int32) (a1 : Int32) (r : Nat × Int32) (hyp : fX8_takenOf t1 t2 a1 = some r) : XM l yX8_takenOf cX8_takenOf 2 (some .int) 7 110 1 6 g [(hg, .inr (8, [.ref st, .ref tr, .ref sa, .ref sk, .ref sv, .ref mt, .ref ml, .ref ad, .ref kw])), (st, .inr (7, [.ref b, .int sd, .int mv, .int gm, va_rf lt, .int w1, .int w2, .int dg, .int t1, .int t2, .int am])), (b, .inr (1, [.ref ca, .int kk, .int sg])), (ca, .inl (g.2.1, 49, .inl f))] (OZ g zc zp [] none) [.ref hg, .int a1] r.1 (some (.int r.2)) (fun na => [(hg, .inr (8, [.ref st, .ref tr, .ref sa, .ref sk, .ref sv, .ref mt, .ref ml, .ref ad, .ref kw])), (st, .inr (7, [.ref b, .int sd, .int mv, .int gm, va_rf lt, .int w1, .int w2, .int dg, .int t1, .int t2, .int am])), (b, .inr (1, [.ref ca, .int kk, .int sg])), (ca, .inl (g.2.1, 49, .inl f))]) (fun _ => [(hg, .inr (8, [.ref st, .ref tr, .ref sa, .ref sk, .ref sv, .ref mt, .ref ml, .ref ad, .ref kw])), (st, .inr (7, [.ref b, .int sd, .int mv, .int gm, va_rf lt, .int w1, .int w2, .int dg, .int t1, .int t2, .int am])), (b, .inr (1, [.ref ca, .int kk, .int sg])), (ca, .inl (g.2.1, 49, .inl f))]) := by
  refine metX_intro (by decide) rfl ?_
  intro p e R s m args below meth c Q A hRf hRl hRc hRs hQ hx hb hml hr hlocks hex hown hts hin hE hSR hA hO H locs hP hD hS ls hl
  have hown : s.vm.findClass "HallGuards" = some m.cls := hown
  have hl : lv_has ls 2 [(0, .ref hg), (1, .int a1)] := hl
  unfold fX8_takenOf at hyp
  refine lv_iload_n hx hb dX8_takenOf_0 rfl (lv_at hl 1 rfl) ?_
  obtain ⟨r_1, hr_1, hyp⟩ := opt_e hyp
  refine xS (As := [.int a1]) (rest := []) ⟨hx, hb, hml, hown, hts⟩ hE hSR (mX8_needSide l hl0 g zc zp a1 r_1 hr_1) (OZ_ok g zc zp _ _) hO cf_X8_needSide st_X8_needSide ml_X8_113 ⟨Nat.le_trans (Nat.le_of_ble_eq_true rfl) hRf, Nat.le_trans (Nat.le_of_ble_eq_true rfl) hRl⟩ hP hD hS hA [] [0, 1, 2, 3] rfl (wr := [(hg, .inr (8, [.ref st, .ref tr, .ref sa, .ref sk, .ref sv, .ref mt, .ref ml, .ref ad, .ref kw])), (st, .inr (7, [.ref b, .int sd, .int mv, .int gm, va_rf lt, .int w1, .int w2, .int dg, .int t1, .int t2, .int am])), (b, .inr (1, [.ref ca, .int kk, .int sg])), (ca, .inl (g.2.1, 49, .inl f))]) rfl ⟨by decide, by decide⟩ (by decide) rfl hl.1 rfl (Nat.le_of_ble_eq_true rfl) dX8_takenOf_1 ⟨Nat.le_trans (Nat.le_of_ble_eq_true rfl) hRc, Nat.le_trans (Nat.le_of_ble_eq_true rfl) hRs⟩ (fun hk0 na_2 H locs hna_2 hP hD hS => ?_) (fun hk0 na9 q9 ce9 H locs hna9 hP hD hS hce hcv hcl => ?_)
  rotate_left 1
  · replace hyp := ite_f hk0 hyp
    have hP : va_P g.1 vwCl [(hg, .inr (8, [.ref st, .ref tr, .ref sa, .ref sk, .ref sv, .ref mt, .ref ml, .ref ad, .ref kw])), (st, .inr (7, [.ref b, .int sd, .int mv, .int gm, va_rf lt, .int w1, .int w2, .int dg, .int t1, .int t2, .int am])), (b, .inr (1, [.ref ca, .int kk, .int sg])), (ca, .inl (g.2.1, 49, .inl f))] H := hP
    have hD : va_D A [(hg, .inr (8, [.ref st, .ref tr, .ref sa, .ref sk, .ref sv, .ref mt, .ref ml, .ref ad, .ref kw])), (st, .inr (7, [.ref b, .int sd, .int mv, .int gm, va_rf lt, .int w1, .int w2, .int dg, .int t1, .int t2, .int am])), (b, .inr (1, [.ref ca, .int kk, .int sg])), (ca, .inl (g.2.1, 49, .inl f))] := hD
    have hyp := some_e hyp
    subst hyp
    subst hQ
    exact xOut hex hlocks hk0 (Nat.le_refl _) hP hD hS hce hcv hcl (Nat.le_of_ble_eq_true rfl) (Nat.le_of_ble_eq_true rfl)
  replace hyp := ite_t hk0 hyp
  have hP : va_P g.1 vwCl [(hg, .inr (8, [.ref st, .ref tr, .ref sa, .ref sk, .ref sv, .ref mt, .ref ml, .ref ad, .ref kw])), (st, .inr (7, [.ref b, .int sd, .int mv, .int gm, va_rf lt, .int w1, .int w2, .int dg, .int t1, .int t2, .int am])), (b, .inr (1, [.ref ca, .int kk, .int sg])), (ca, .inl (g.2.1, 49, .inl f))] H := hP
  have hD : va_D A [(hg, .inr (8, [.ref st, .ref tr, .ref sa, .ref sk, .ref sv, .ref mt, .ref ml, .ref ad, .ref kw])), (st, .inr (7, [.ref b, .int sd, .int mv, .int gm, va_rf lt, .int w1, .int w2, .int dg, .int t1, .int t2, .int am])), (b, .inr (1, [.ref ca, .int kk, .int sg])), (ca, .inl (g.2.1, 49, .inl f))] := hD
  refine lv_iload_n hx hb dX8_takenOf_4 rfl (lv_at hl 1 rfl) ?_
  refine lv_if_ne (tgt := 18) hx hb dX8_takenOf_5 (by decide) (fun h_3 => ?_) (fun h_3 => ?_)
  · replace hyp := ite_f h_3 hyp
    refine lv_aload_n hx hb dX8_takenOf_18 rfl (lv_at hl 0 rfl) ?_
    refine gf_X8_12 hx hb hts hown hE hP 0 rfl rfl dX8_takenOf_19 ?_
    refine gf_X8_294 hx hb hts hown hE hP 1 rfl rfl dX8_takenOf_22 ?_
    have hyp := some_e hyp
    subst hyp
    subst hQ
    exact xrI (na := s.heap.size) hx hb hr hlocks (Nat.le_refl _) hP hD hS (Nat.le_of_ble_eq_true rfl) (Nat.le_of_ble_eq_true rfl) dX8_takenOf_25
  · replace hyp := ite_t h_3 hyp
    refine lv_aload_n hx hb dX8_takenOf_8 rfl (lv_at hl 0 rfl) ?_
    refine gf_X8_12 hx hb hts hown hE hP 0 rfl rfl dX8_takenOf_9 ?_
    refine gf_X8_291 hx hb hts hown hE hP 1 rfl rfl dX8_takenOf_12 ?_
    refine lv_goto (tgt := 25) hx hb dX8_takenOf_15 (by decide) ?_
    have hyp := some_e hyp
    subst hyp
    subst hQ
    exact xrI (na := s.heap.size) hx hb hr hlocks (Nat.le_refl _) hP hD hS (Nat.le_of_ble_eq_true rfl) (Nat.le_of_ble_eq_true rfl) dX8_takenOf_25

def fX8_allMoves (am : Int32) : Option Int32 :=
  some am
set_option maxRecDepth 100000 in
set_option maxHeartbeats 4000000 in
theorem mX8_allMoves (l : Launch) (g : GE) (hg st b ca tr sa sk sv mt ml ad kw : Nat) (sd : Int32) (mv : Int32) (gm : Int32) (lt : Option Nat) (w1 : Int32) (w2 : Int32) (dg : Int32) (t1 : Int32) (t2 : Int32) (am : Int32) (kk : Int32) (sg : Int32) (f : Nat → Int32) (r : Int32) (hyp : fX8_allMoves am = some r) : PI l yX8_allMoves cX8_allMoves 1 (some .int) 0 0 g [(hg, .inr (8, [.ref st, .ref tr, .ref sa, .ref sk, .ref sv, .ref mt, .ref ml, .ref ad, .ref kw])), (st, .inr (7, [.ref b, .int sd, .int mv, .int gm, va_rf lt, .int w1, .int w2, .int dg, .int t1, .int t2, .int am])), (b, .inr (1, [.ref ca, .int kk, .int sg])), (ca, .inl (g.2.1, 49, .inl f))] [.ref hg] r := by
  refine metP_intro (by decide) rfl ?_
  intro p e R s m args below meth c Q hRf hRl hQ hx hb hml hr hlocks hown hts hin hE hP ls hl
  have hown : s.vm.findClass "HallGuards" = some m.cls := hown
  have hl : lv_has ls 1 [(0, .ref hg)] := hl
  unfold fX8_allMoves at hyp
  refine lv_aload_n hx hb dX8_allMoves_0 rfl (lv_at hl 0 rfl) ?_
  refine gf_X8_12 hx hb hts hown hE hP 0 rfl rfl dX8_allMoves_1 ?_
  refine gf_X8_297 hx hb hts hown hE hP 1 rfl rfl dX8_allMoves_4 ?_
  subst hQ
  exact rI hx hb hr hlocks (some_e hyp) dX8_allMoves_7

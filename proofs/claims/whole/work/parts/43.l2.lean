def fL_pieceAt (f : Nat → Int32) (fo : Nat → Int64) (a1 : Int32) (a2 : Int32) : Option (Int32 × (Nat → Int64)) :=
  (fX8_pieceAt f a1 a2).bind (fun (r_1 : Nat × Int32) => if r_1.1 = 0 then (grd (inB 0 1) (some (0, vp_updL fo (0 : Int32).toNatClampNeg r_1.2.toInt64))) else (if r_1.1 = 1 then (some (1, fo)) else (none)))
set_option maxRecDepth 100000 in
set_option maxHeartbeats 4000000 in
theorem mL_pieceAt (l : Launch) (hl0 : l.stackTraces = false) (g : GE) (hg st b ca ou tr sa sk sv mt ml ad kw zc zp : Nat) (sd : Int32) (mv : Int32) (gm : Int32) (lt : Option Nat) (w1 : Int32) (w2 : Int32) (dg : Int32) (t1 : Int32) (t2 : Int32) (am : Int32) (kk : Int32) (sg : Int32) (f : Nat → Int32) (fo : Nat → Int64) (a1 : Int32) (a2 : Int32) (r : Int32 × (Nat → Int64)) (hyp : fL_pieceAt f fo a1 a2 = some r) : LM l yL_pieceAt cL_pieceAt 5 [(0, 10, 13, 13)] 8 133 1 6 g [(hg, .inr (8, [.ref st, .ref tr, .ref sa, .ref sk, .ref sv, .ref mt, .ref ml, .ref ad, .ref kw])), (st, .inr (7, [.ref b, .int sd, .int mv, .int gm, va_rf lt, .int w1, .int w2, .int dg, .int t1, .int t2, .int am])), (b, .inr (1, [.ref ca, .int kk, .int sg])), (ca, .inl (g.2.1, 49, .inl f)), (ou, .inl (g.2.2.1, 1, .inr (.inl fo)))] (OZ g zc zp [] none) [.ref hg, .int a1, .int a2, .ref ou] (some (.int r.1)) (fun na => [(hg, .inr (8, [.ref st, .ref tr, .ref sa, .ref sk, .ref sv, .ref mt, .ref ml, .ref ad, .ref kw])), (st, .inr (7, [.ref b, .int sd, .int mv, .int gm, va_rf lt, .int w1, .int w2, .int dg, .int t1, .int t2, .int am])), (b, .inr (1, [.ref ca, .int kk, .int sg])), (ca, .inl (g.2.1, 49, .inl f)), (ou, .inl (g.2.2.1, 1, .inr (.inl r.2)))]) := by
  refine metL_intro (by decide) rfl ?_
  intro p e R s m args below meth c Q A hRf hRl hRc hRs hQ hx hb hml hr hlocks htab hown hts hin hE hSR hNC hA hO H locs hP hD hS ls hl
  have hown : s.vm.findClass "HallGuardsLaw" = some m.cls := hown
  have hl : lv_has ls 5 [(0, .ref hg), (1, .int a1), (2, .int a2), (3, .ref ou)] := hl
  unfold fL_pieceAt at hyp
  refine lv_aload_n hx hb dL_pieceAt_0 rfl (lv_at hl 3 rfl) ?_
  refine lv_iconst (v := 0) hx hb dL_pieceAt_1 (by decide) ?_
  refine lv_aload_n hx hb dL_pieceAt_2 rfl (lv_at hl 0 rfl) ?_
  refine lv_iload_n hx hb dL_pieceAt_3 rfl (lv_at hl 1 rfl) ?_
  refine lv_iload_n hx hb dL_pieceAt_4 rfl (lv_at hl 2 rfl) ?_
  obtain ⟨r_1, hr_1, hyp⟩ := opt_e hyp
  refine xV (As := [.int a1, .int a2]) (rest := [.int 0, .ref ou]) ⟨hx, hb, hml, hown, hts⟩ hE hSR (mX8_pieceAt l hl0 g hg st b ca tr sa sk sv mt ml ad kw zc zp sd mv gm lt w1 w2 dg t1 t2 am kk sg f a1 a2 r_1 hr_1) (OZ_ok g zc zp _ _) hO cf_X8_pieceAt im_X8_pieceAt se_X8_pieceAt ml_L_44 ⟨Nat.le_trans (Nat.le_of_ble_eq_true rfl) hRf, Nat.le_trans (Nat.le_of_ble_eq_true rfl) hRl⟩ hP hD hS hA [0, 1, 2, 3] [4] rfl (wr := [(ou, .inl (g.2.2.1, 1, .inr (.inl fo)))]) rfl ⟨by decide, by decide⟩ (by decide) (ci := 8) (q0 := 0) rfl rfl rfl rfl hl.1 rfl (Nat.le_of_ble_eq_true rfl) dL_pieceAt_5 ⟨Nat.le_trans (Nat.le_of_ble_eq_true rfl) hRc, Nat.le_trans (Nat.le_of_ble_eq_true rfl) hRs⟩ (fun hk0 na_2 H locs hna_2 hP hD hS => ?_) (fun hk0 na9 q9 ce9 H locs hna9 hP hD hS hce hcv hcl => ?_)
  rotate_left 1
  · replace hyp := ite_f hk0 hyp
    have hP : va_P g.1 vwCl [(ou, .inl (g.2.2.1, 1, .inr (.inl fo))), (hg, .inr (8, [.ref st, .ref tr, .ref sa, .ref sk, .ref sv, .ref mt, .ref ml, .ref ad, .ref kw])), (st, .inr (7, [.ref b, .int sd, .int mv, .int gm, va_rf lt, .int w1, .int w2, .int dg, .int t1, .int t2, .int am])), (b, .inr (1, [.ref ca, .int kk, .int sg])), (ca, .inl (g.2.1, 49, .inl f))] H := hP
    have hD : va_D A [(ou, .inl (g.2.2.1, 1, .inr (.inl fo))), (hg, .inr (8, [.ref st, .ref tr, .ref sa, .ref sk, .ref sv, .ref mt, .ref ml, .ref ad, .ref kw])), (st, .inr (7, [.ref b, .int sd, .int mv, .int gm, va_rf lt, .int w1, .int w2, .int dg, .int t1, .int t2, .int am])), (b, .inr (1, [.ref ca, .int kk, .int sg])), (ca, .inl (g.2.1, 49, .inl f))] := hD
    have hP : va_P g.1 vwCl [(hg, .inr (8, [.ref st, .ref tr, .ref sa, .ref sk, .ref sv, .ref mt, .ref ml, .ref ad, .ref kw])), (st, .inr (7, [.ref b, .int sd, .int mv, .int gm, va_rf lt, .int w1, .int w2, .int dg, .int t1, .int t2, .int am])), (b, .inr (1, [.ref ca, .int kk, .int sg])), (ca, .inl (g.2.1, 49, .inl f)), (ou, .inl (g.2.2.1, 1, .inr (.inl fo)))] H := hP.sub [1, 2, 3, 4, 0] rfl
    have hD : va_D A [(hg, .inr (8, [.ref st, .ref tr, .ref sa, .ref sk, .ref sv, .ref mt, .ref ml, .ref ad, .ref kw])), (st, .inr (7, [.ref b, .int sd, .int mv, .int gm, va_rf lt, .int w1, .int w2, .int dg, .int t1, .int t2, .int am])), (b, .inr (1, [.ref ca, .int kk, .int sg])), (ca, .inl (g.2.1, 49, .inl f)), (ou, .inl (g.2.2.1, 1, .inr (.inl fo)))] := hD.sub [1, 2, 3, 4, 0] (by decide) rfl
    by_cases h_3 : r_1.1 = 1
    · replace hyp := ite_t h_3 hyp
      rw [h_3] at hcl
      refine catK 0 ⟨0, 10, 13, 13⟩ 1 htab rfl hown (fun z hz => nomatch hz) (by decide) (by decide) hts hSR cl_L_13 cast_1 hce hcv hcl ?_
      refine lv_astore (lv' := [(4, .ref q9), (0, .ref hg), (1, .int a1), (2, .int a2), (3, .ref ou)]) hx hb dL_pieceAt_13 hl (by decide) rfl (fun ls hl => ?_)
      refine lv_iconst (v := 1) hx hb dL_pieceAt_15 (by decide) ?_
      have hyp := some_e hyp
      subst hyp
      subst hQ
      exact xrI (na := s.heap.size) hx hb hr hlocks (Nat.le_refl _) hP hD hS (Nat.le_of_ble_eq_true rfl) (Nat.le_of_ble_eq_true rfl) dL_pieceAt_16
    · replace hyp := ite_f h_3 hyp
      cases hyp
  replace hyp := ite_t hk0 hyp
  have hP : va_P g.1 vwCl [(ou, .inl (g.2.2.1, 1, .inr (.inl fo))), (hg, .inr (8, [.ref st, .ref tr, .ref sa, .ref sk, .ref sv, .ref mt, .ref ml, .ref ad, .ref kw])), (st, .inr (7, [.ref b, .int sd, .int mv, .int gm, va_rf lt, .int w1, .int w2, .int dg, .int t1, .int t2, .int am])), (b, .inr (1, [.ref ca, .int kk, .int sg])), (ca, .inl (g.2.1, 49, .inl f))] H := hP
  have hD : va_D A [(ou, .inl (g.2.2.1, 1, .inr (.inl fo))), (hg, .inr (8, [.ref st, .ref tr, .ref sa, .ref sk, .ref sv, .ref mt, .ref ml, .ref ad, .ref kw])), (st, .inr (7, [.ref b, .int sd, .int mv, .int gm, va_rf lt, .int w1, .int w2, .int dg, .int t1, .int t2, .int am])), (b, .inr (1, [.ref ca, .int kk, .int sg])), (ca, .inl (g.2.1, 49, .inl f))] := hD
  refine lv_i2l hx hb dL_pieceAt_8 rfl ?_
  obtain ⟨hi, hyp⟩ := grd_e hyp
  refine va_last hx hb hE.1 hP hD hS 0 1 rfl rfl (inB_vp hi) dL_pieceAt_9 (fun H locs hP hD hS => ?_)
  have hP : va_P g.1 vwCl [(ou, .inl (g.2.2.1, 1, .inr (.inl (vp_updL fo (0 : Int32).toNatClampNeg r_1.2.toInt64)))), (hg, .inr (8, [.ref st, .ref tr, .ref sa, .ref sk, .ref sv, .ref mt, .ref ml, .ref ad, .ref kw])), (st, .inr (7, [.ref b, .int sd, .int mv, .int gm, va_rf lt, .int w1, .int w2, .int dg, .int t1, .int t2, .int am])), (b, .inr (1, [.ref ca, .int kk, .int sg])), (ca, .inl (g.2.1, 49, .inl f))] H := hP
  have hD : va_D A [(ou, .inl (g.2.2.1, 1, .inr (.inl (vp_updL fo (0 : Int32).toNatClampNeg r_1.2.toInt64)))), (hg, .inr (8, [.ref st, .ref tr, .ref sa, .ref sk, .ref sv, .ref mt, .ref ml, .ref ad, .ref kw])), (st, .inr (7, [.ref b, .int sd, .int mv, .int gm, va_rf lt, .int w1, .int w2, .int dg, .int t1, .int t2, .int am])), (b, .inr (1, [.ref ca, .int kk, .int sg])), (ca, .inl (g.2.1, 49, .inl f))] := hD
  refine lv_goto (tgt := 17) hx hb dL_pieceAt_10 (by decide) ?_
  refine lv_iconst (v := 0) hx hb dL_pieceAt_17 (by decide) ?_
  have hP : va_P g.1 vwCl [(hg, .inr (8, [.ref st, .ref tr, .ref sa, .ref sk, .ref sv, .ref mt, .ref ml, .ref ad, .ref kw])), (st, .inr (7, [.ref b, .int sd, .int mv, .int gm, va_rf lt, .int w1, .int w2, .int dg, .int t1, .int t2, .int am])), (b, .inr (1, [.ref ca, .int kk, .int sg])), (ca, .inl (g.2.1, 49, .inl f)), (ou, .inl (g.2.2.1, 1, .inr (.inl (vp_updL fo (0 : Int32).toNatClampNeg r_1.2.toInt64))))] H := hP.sub [1, 2, 3, 4, 0] rfl
  have hD : va_D A [(hg, .inr (8, [.ref st, .ref tr, .ref sa, .ref sk, .ref sv, .ref mt, .ref ml, .ref ad, .ref kw])), (st, .inr (7, [.ref b, .int sd, .int mv, .int gm, va_rf lt, .int w1, .int w2, .int dg, .int t1, .int t2, .int am])), (b, .inr (1, [.ref ca, .int kk, .int sg])), (ca, .inl (g.2.1, 49, .inl f)), (ou, .inl (g.2.2.1, 1, .inr (.inl (vp_updL fo (0 : Int32).toNatClampNeg r_1.2.toInt64))))] := hD.sub [1, 2, 3, 4, 0] (by decide) rfl
  have hyp := some_e hyp
  subst hyp
  subst hQ
  exact xrI (na := s.heap.size) hx hb hr hlocks (Nat.le_refl _) hP hD hS (Nat.le_of_ble_eq_true rfl) (Nat.le_of_ble_eq_true rfl) dL_pieceAt_18

def fL_piecesOf (f : Nat → Int32) (fo : Nat → Int64) (a1 : Int32) : Option (Int32 × (Nat → Int64)) :=
  (fX8_piecesOf f a1).bind (fun (r_1 : Nat × Int32) => if r_1.1 = 0 then (grd (inB 0 1) (some (0, vp_updL fo (0 : Int32).toNatClampNeg r_1.2.toInt64))) else (if r_1.1 = 1 then (some (1, fo)) else (none)))
set_option maxRecDepth 100000 in
set_option maxHeartbeats 4000000 in
theorem mL_piecesOf (l : Launch) (hl0 : l.stackTraces = false) (g : GE) (hg st b ca ou tr sa sk sv mt ml ad kw zc zp : Nat) (sd : Int32) (mv : Int32) (gm : Int32) (lt : Option Nat) (w1 : Int32) (w2 : Int32) (dg : Int32) (t1 : Int32) (t2 : Int32) (am : Int32) (kk : Int32) (sg : Int32) (f : Nat → Int32) (fo : Nat → Int64) (a1 : Int32) (r : Int32 × (Nat → Int64)) (hyp : fL_piecesOf f fo a1 = some r) : LM l yL_piecesOf cL_piecesOf 4 [(0, 9, 12, 13)] 8 131 1 6 g [(hg, .inr (8, [.ref st, .ref tr, .ref sa, .ref sk, .ref sv, .ref mt, .ref ml, .ref ad, .ref kw])), (st, .inr (7, [.ref b, .int sd, .int mv, .int gm, va_rf lt, .int w1, .int w2, .int dg, .int t1, .int t2, .int am])), (b, .inr (1, [.ref ca, .int kk, .int sg])), (ca, .inl (g.2.1, 49, .inl f)), (ou, .inl (g.2.2.1, 1, .inr (.inl fo)))] (OZ g zc zp [] none) [.ref hg, .int a1, .ref ou] (some (.int r.1)) (fun na => [(hg, .inr (8, [.ref st, .ref tr, .ref sa, .ref sk, .ref sv, .ref mt, .ref ml, .ref ad, .ref kw])), (st, .inr (7, [.ref b, .int sd, .int mv, .int gm, va_rf lt, .int w1, .int w2, .int dg, .int t1, .int t2, .int am])), (b, .inr (1, [.ref ca, .int kk, .int sg])), (ca, .inl (g.2.1, 49, .inl f)), (ou, .inl (g.2.2.1, 1, .inr (.inl r.2)))]) := by
  refine metL_intro (by decide) rfl ?_
  intro p e R s m args below meth c Q A hRf hRl hRc hRs hQ hx hb hml hr hlocks htab hown hts hin hE hSR hNC hA hO H locs hP hD hS ls hl
  have hown : s.vm.findClass "HallGuardsLaw" = some m.cls := hown
  have hl : lv_has ls 4 [(0, .ref hg), (1, .int a1), (2, .ref ou)] := hl
  unfold fL_piecesOf at hyp
  refine lv_aload_n hx hb dL_piecesOf_0 rfl (lv_at hl 2 rfl) ?_
  refine lv_iconst (v := 0) hx hb dL_piecesOf_1 (by decide) ?_
  refine lv_aload_n hx hb dL_piecesOf_2 rfl (lv_at hl 0 rfl) ?_
  refine lv_iload_n hx hb dL_piecesOf_3 rfl (lv_at hl 1 rfl) ?_
  obtain ⟨r_1, hr_1, hyp⟩ := opt_e hyp
  refine xV (As := [.int a1]) (rest := [.int 0, .ref ou]) ⟨hx, hb, hml, hown, hts⟩ hE hSR (mX8_piecesOf l hl0 g hg st b ca tr sa sk sv mt ml ad kw zc zp sd mv gm lt w1 w2 dg t1 t2 am kk sg f a1 r_1 hr_1) (OZ_ok g zc zp _ _) hO cf_X8_piecesOf im_X8_piecesOf se_X8_piecesOf ml_L_47 ⟨Nat.le_trans (Nat.le_of_ble_eq_true rfl) hRf, Nat.le_trans (Nat.le_of_ble_eq_true rfl) hRl⟩ hP hD hS hA [0, 1, 2, 3] [4] rfl (wr := [(ou, .inl (g.2.2.1, 1, .inr (.inl fo)))]) rfl ⟨by decide, by decide⟩ (by decide) (ci := 8) (q0 := 0) rfl rfl rfl rfl hl.1 rfl (Nat.le_of_ble_eq_true rfl) dL_piecesOf_4 ⟨Nat.le_trans (Nat.le_of_ble_eq_true rfl) hRc, Nat.le_trans (Nat.le_of_ble_eq_true rfl) hRs⟩ (fun hk0 na_2 H locs hna_2 hP hD hS => ?_) (fun hk0 na9 q9 ce9 H locs hna9 hP hD hS hce hcv hcl => ?_)
  rotate_left 1
  · replace hyp := ite_f hk0 hyp
    have hP : va_P g.1 vwCl [(ou, .inl (g.2.2.1, 1, .inr (.inl fo))), (hg, .inr (8, [.ref st, .ref tr, .ref sa, .ref sk, .ref sv, .ref mt, .ref ml, .ref ad, .ref kw])), (st, .inr (7, [.ref b, .int sd, .int mv, .int gm, va_rf lt, .int w1, .int w2, .int dg, .int t1, .int t2, .int am])), (b, .inr (1, [.ref ca, .int kk, .int sg])), (ca, .inl (g.2.1, 49, .inl f))] H := hP
    have hD : va_D A [(ou, .inl (g.2.2.1, 1, .inr (.inl fo))), (hg, .inr (8, [.ref st, .ref tr, .ref sa, .ref sk, .ref sv, .ref mt, .ref ml, .ref ad, .ref kw])), (st, .inr (7, [.ref b, .int sd, .int mv, .int gm, va_rf lt, .int w1, .int w2, .int dg, .int t1, .int t2, .int am])), (b, .inr (1, [.ref ca, .int kk, .int sg])), (ca, .inl (g.2.1, 49, .inl f))] := hD
    have hP : va_P g.1 vwCl [(hg, .inr (8, [.ref st, .ref tr, .ref sa, .ref sk, .ref sv, .ref mt, .ref ml, .ref ad, .ref kw])), (st, .inr (7, [.ref b, .int sd, .int mv, .int gm, va_rf lt, .int w1, .int w2, .int dg, .int t1, .int t2, .int am])), (b, .inr (1, [.ref ca, .int kk, .int sg])), (ca, .inl (g.2.1, 49, .inl f)), (ou, .inl (g.2.2.1, 1, .inr (.inl fo)))] H := hP.sub [1, 2, 3, 4, 0] rfl
    have hD : va_D A [(hg, .inr (8, [.ref st, .ref tr, .ref sa, .ref sk, .ref sv, .ref mt, .ref ml, .ref ad, .ref kw])), (st, .inr (7, [.ref b, .int sd, .int mv, .int gm, va_rf lt, .int w1, .int w2, .int dg, .int t1, .int t2, .int am])), (b, .inr (1, [.ref ca, .int kk, .int sg])), (ca, .inl (g.2.1, 49, .inl f)), (ou, .inl (g.2.2.1, 1, .inr (.inl fo)))] := hD.sub [1, 2, 3, 4, 0] (by decide) rfl
    by_cases h_3 : r_1.1 = 1
    · replace hyp := ite_t h_3 hyp
      rw [h_3] at hcl
      refine catK 0 ⟨0, 9, 12, 13⟩ 1 htab rfl hown (fun z hz => nomatch hz) (by decide) (by decide) hts hSR cl_L_13 cast_1 hce hcv hcl ?_
      refine lv_astore_n (lv' := [(3, .ref q9), (0, .ref hg), (1, .int a1), (2, .ref ou)]) hx hb dL_piecesOf_12 rfl hl (by decide) rfl (fun ls hl => ?_)
      refine lv_iconst (v := 1) hx hb dL_piecesOf_13 (by decide) ?_
      have hyp := some_e hyp
      subst hyp
      subst hQ
      exact xrI (na := s.heap.size) hx hb hr hlocks (Nat.le_refl _) hP hD hS (Nat.le_of_ble_eq_true rfl) (Nat.le_of_ble_eq_true rfl) dL_piecesOf_14
    · replace hyp := ite_f h_3 hyp
      cases hyp
  replace hyp := ite_t hk0 hyp
  have hP : va_P g.1 vwCl [(ou, .inl (g.2.2.1, 1, .inr (.inl fo))), (hg, .inr (8, [.ref st, .ref tr, .ref sa, .ref sk, .ref sv, .ref mt, .ref ml, .ref ad, .ref kw])), (st, .inr (7, [.ref b, .int sd, .int mv, .int gm, va_rf lt, .int w1, .int w2, .int dg, .int t1, .int t2, .int am])), (b, .inr (1, [.ref ca, .int kk, .int sg])), (ca, .inl (g.2.1, 49, .inl f))] H := hP
  have hD : va_D A [(ou, .inl (g.2.2.1, 1, .inr (.inl fo))), (hg, .inr (8, [.ref st, .ref tr, .ref sa, .ref sk, .ref sv, .ref mt, .ref ml, .ref ad, .ref kw])), (st, .inr (7, [.ref b, .int sd, .int mv, .int gm, va_rf lt, .int w1, .int w2, .int dg, .int t1, .int t2, .int am])), (b, .inr (1, [.ref ca, .int kk, .int sg])), (ca, .inl (g.2.1, 49, .inl f))] := hD
  refine lv_i2l hx hb dL_piecesOf_7 rfl ?_
  obtain ⟨hi, hyp⟩ := grd_e hyp
  refine va_last hx hb hE.1 hP hD hS 0 1 rfl rfl (inB_vp hi) dL_piecesOf_8 (fun H locs hP hD hS => ?_)
  have hP : va_P g.1 vwCl [(ou, .inl (g.2.2.1, 1, .inr (.inl (vp_updL fo (0 : Int32).toNatClampNeg r_1.2.toInt64)))), (hg, .inr (8, [.ref st, .ref tr, .ref sa, .ref sk, .ref sv, .ref mt, .ref ml, .ref ad, .ref kw])), (st, .inr (7, [.ref b, .int sd, .int mv, .int gm, va_rf lt, .int w1, .int w2, .int dg, .int t1, .int t2, .int am])), (b, .inr (1, [.ref ca, .int kk, .int sg])), (ca, .inl (g.2.1, 49, .inl f))] H := hP
  have hD : va_D A [(ou, .inl (g.2.2.1, 1, .inr (.inl (vp_updL fo (0 : Int32).toNatClampNeg r_1.2.toInt64)))), (hg, .inr (8, [.ref st, .ref tr, .ref sa, .ref sk, .ref sv, .ref mt, .ref ml, .ref ad, .ref kw])), (st, .inr (7, [.ref b, .int sd, .int mv, .int gm, va_rf lt, .int w1, .int w2, .int dg, .int t1, .int t2, .int am])), (b, .inr (1, [.ref ca, .int kk, .int sg])), (ca, .inl (g.2.1, 49, .inl f))] := hD
  refine lv_goto (tgt := 15) hx hb dL_piecesOf_9 (by decide) ?_
  refine lv_iconst (v := 0) hx hb dL_piecesOf_15 (by decide) ?_
  have hP : va_P g.1 vwCl [(hg, .inr (8, [.ref st, .ref tr, .ref sa, .ref sk, .ref sv, .ref mt, .ref ml, .ref ad, .ref kw])), (st, .inr (7, [.ref b, .int sd, .int mv, .int gm, va_rf lt, .int w1, .int w2, .int dg, .int t1, .int t2, .int am])), (b, .inr (1, [.ref ca, .int kk, .int sg])), (ca, .inl (g.2.1, 49, .inl f)), (ou, .inl (g.2.2.1, 1, .inr (.inl (vp_updL fo (0 : Int32).toNatClampNeg r_1.2.toInt64))))] H := hP.sub [1, 2, 3, 4, 0] rfl
  have hD : va_D A [(hg, .inr (8, [.ref st, .ref tr, .ref sa, .ref sk, .ref sv, .ref mt, .ref ml, .ref ad, .ref kw])), (st, .inr (7, [.ref b, .int sd, .int mv, .int gm, va_rf lt, .int w1, .int w2, .int dg, .int t1, .int t2, .int am])), (b, .inr (1, [.ref ca, .int kk, .int sg])), (ca, .inl (g.2.1, 49, .inl f)), (ou, .inl (g.2.2.1, 1, .inr (.inl (vp_updL fo (0 : Int32).toNatClampNeg r_1.2.toInt64))))] := hD.sub [1, 2, 3, 4, 0] (by decide) rfl
  have hyp := some_e hyp
  subst hyp
  subst hQ
  exact xrI (na := s.heap.size) hx hb hr hlocks (Nat.le_refl _) hP hD hS (Nat.le_of_ble_eq_true rfl) (Nat.le_of_ble_eq_true rfl) dL_piecesOf_16

def fL_kingAt (kk : Int32) (fo : Nat → Int64) : Option (Int32 × (Nat → Int64)) :=
  (fX8_kingAt kk).bind (fun (r_1 : Nat × Int32) => if r_1.1 = 0 then (grd (inB 0 1) (some (0, vp_updL fo (0 : Int32).toNatClampNeg r_1.2.toInt64))) else (if r_1.1 = 3 then (some (1, fo)) else (none)))
set_option maxRecDepth 100000 in
set_option maxHeartbeats 4000000 in
theorem mL_kingAt (l : Launch) (hl0 : l.stackTraces = false) (g : GE) (hg st b ca ou tr sa sk sv mt ml ad kw zc zp : Nat) (sd : Int32) (mv : Int32) (gm : Int32) (lt : Option Nat) (w1 : Int32) (w2 : Int32) (dg : Int32) (t1 : Int32) (t2 : Int32) (am : Int32) (kk : Int32) (sg : Int32) (f : Nat → Int32) (fo : Nat → Int64) (r : Int32 × (Nat → Int64)) (hyp : fL_kingAt kk fo = some r) : LM l yL_kingAt cL_kingAt 3 [(0, 8, 11, 17)] 8 130 1 6 g [(hg, .inr (8, [.ref st, .ref tr, .ref sa, .ref sk, .ref sv, .ref mt, .ref ml, .ref ad, .ref kw])), (st, .inr (7, [.ref b, .int sd, .int mv, .int gm, va_rf lt, .int w1, .int w2, .int dg, .int t1, .int t2, .int am])), (b, .inr (1, [.ref ca, .int kk, .int sg])), (ca, .inl (g.2.1, 49, .inl f)), (ou, .inl (g.2.2.1, 1, .inr (.inl fo)))] (OZ g zc zp [] none) [.ref hg, .ref ou] (some (.int r.1)) (fun na => [(hg, .inr (8, [.ref st, .ref tr, .ref sa, .ref sk, .ref sv, .ref mt, .ref ml, .ref ad, .ref kw])), (st, .inr (7, [.ref b, .int sd, .int mv, .int gm, va_rf lt, .int w1, .int w2, .int dg, .int t1, .int t2, .int am])), (b, .inr (1, [.ref ca, .int kk, .int sg])), (ca, .inl (g.2.1, 49, .inl f)), (ou, .inl (g.2.2.1, 1, .inr (.inl r.2)))]) := by
  refine metL_intro (by decide) rfl ?_
  intro p e R s m args below meth c Q A hRf hRl hRc hRs hQ hx hb hml hr hlocks htab hown hts hin hE hSR hNC hA hO H locs hP hD hS ls hl
  have hown : s.vm.findClass "HallGuardsLaw" = some m.cls := hown
  have hl : lv_has ls 3 [(0, .ref hg), (1, .ref ou)] := hl
  unfold fL_kingAt at hyp
  refine lv_aload_n hx hb dL_kingAt_0 rfl (lv_at hl 1 rfl) ?_
  refine lv_iconst (v := 0) hx hb dL_kingAt_1 (by decide) ?_
  refine lv_aload_n hx hb dL_kingAt_2 rfl (lv_at hl 0 rfl) ?_
  obtain ⟨r_1, hr_1, hyp⟩ := opt_e hyp
  refine xV (As := []) (rest := [.int 0, .ref ou]) ⟨hx, hb, hml, hown, hts⟩ hE hSR (mX8_kingAt l hl0 g hg st b ca tr sa sk sv mt ml ad kw zc zp sd mv gm lt w1 w2 dg t1 t2 am kk sg f r_1 hr_1) (OZ_ok g zc zp _ _) hO cf_X8_kingAt im_X8_kingAt se_X8_kingAt ml_L_50 ⟨Nat.le_trans (Nat.le_of_ble_eq_true rfl) hRf, Nat.le_trans (Nat.le_of_ble_eq_true rfl) hRl⟩ hP hD hS hA [0, 1, 2, 3] [4] rfl (wr := [(ou, .inl (g.2.2.1, 1, .inr (.inl fo)))]) rfl ⟨by decide, by decide⟩ (by decide) (ci := 8) (q0 := 0) rfl rfl rfl rfl hl.1 rfl (Nat.le_of_ble_eq_true rfl) dL_kingAt_3 ⟨Nat.le_trans (Nat.le_of_ble_eq_true rfl) hRc, Nat.le_trans (Nat.le_of_ble_eq_true rfl) hRs⟩ (fun hk0 na_2 H locs hna_2 hP hD hS => ?_) (fun hk0 na9 q9 ce9 H locs hna9 hP hD hS hce hcv hcl => ?_)
  rotate_left 1
  · replace hyp := ite_f hk0 hyp
    have hP : va_P g.1 vwCl [(ou, .inl (g.2.2.1, 1, .inr (.inl fo))), (hg, .inr (8, [.ref st, .ref tr, .ref sa, .ref sk, .ref sv, .ref mt, .ref ml, .ref ad, .ref kw])), (st, .inr (7, [.ref b, .int sd, .int mv, .int gm, va_rf lt, .int w1, .int w2, .int dg, .int t1, .int t2, .int am])), (b, .inr (1, [.ref ca, .int kk, .int sg])), (ca, .inl (g.2.1, 49, .inl f))] H := hP
    have hD : va_D A [(ou, .inl (g.2.2.1, 1, .inr (.inl fo))), (hg, .inr (8, [.ref st, .ref tr, .ref sa, .ref sk, .ref sv, .ref mt, .ref ml, .ref ad, .ref kw])), (st, .inr (7, [.ref b, .int sd, .int mv, .int gm, va_rf lt, .int w1, .int w2, .int dg, .int t1, .int t2, .int am])), (b, .inr (1, [.ref ca, .int kk, .int sg])), (ca, .inl (g.2.1, 49, .inl f))] := hD
    have hP : va_P g.1 vwCl [(hg, .inr (8, [.ref st, .ref tr, .ref sa, .ref sk, .ref sv, .ref mt, .ref ml, .ref ad, .ref kw])), (st, .inr (7, [.ref b, .int sd, .int mv, .int gm, va_rf lt, .int w1, .int w2, .int dg, .int t1, .int t2, .int am])), (b, .inr (1, [.ref ca, .int kk, .int sg])), (ca, .inl (g.2.1, 49, .inl f)), (ou, .inl (g.2.2.1, 1, .inr (.inl fo)))] H := hP.sub [1, 2, 3, 4, 0] rfl
    have hD : va_D A [(hg, .inr (8, [.ref st, .ref tr, .ref sa, .ref sk, .ref sv, .ref mt, .ref ml, .ref ad, .ref kw])), (st, .inr (7, [.ref b, .int sd, .int mv, .int gm, va_rf lt, .int w1, .int w2, .int dg, .int t1, .int t2, .int am])), (b, .inr (1, [.ref ca, .int kk, .int sg])), (ca, .inl (g.2.1, 49, .inl f)), (ou, .inl (g.2.2.1, 1, .inr (.inl fo)))] := hD.sub [1, 2, 3, 4, 0] (by decide) rfl
    by_cases h_3 : r_1.1 = 3
    · replace hyp := ite_t h_3 hyp
      rw [h_3] at hcl
      refine catK 0 ⟨0, 8, 11, 17⟩ 3 htab rfl hown (fun z hz => nomatch hz) (by decide) (by decide) hts hSR cl_L_17 cast_3 hce hcv hcl ?_
      refine lv_astore_n (lv' := [(2, .ref q9), (0, .ref hg), (1, .ref ou)]) hx hb dL_kingAt_11 rfl hl (by decide) rfl (fun ls hl => ?_)
      refine lv_iconst (v := 1) hx hb dL_kingAt_12 (by decide) ?_
      have hyp := some_e hyp
      subst hyp
      subst hQ
      exact xrI (na := s.heap.size) hx hb hr hlocks (Nat.le_refl _) hP hD hS (Nat.le_of_ble_eq_true rfl) (Nat.le_of_ble_eq_true rfl) dL_kingAt_13
    · replace hyp := ite_f h_3 hyp
      cases hyp
  replace hyp := ite_t hk0 hyp
  have hP : va_P g.1 vwCl [(ou, .inl (g.2.2.1, 1, .inr (.inl fo))), (hg, .inr (8, [.ref st, .ref tr, .ref sa, .ref sk, .ref sv, .ref mt, .ref ml, .ref ad, .ref kw])), (st, .inr (7, [.ref b, .int sd, .int mv, .int gm, va_rf lt, .int w1, .int w2, .int dg, .int t1, .int t2, .int am])), (b, .inr (1, [.ref ca, .int kk, .int sg])), (ca, .inl (g.2.1, 49, .inl f))] H := hP
  have hD : va_D A [(ou, .inl (g.2.2.1, 1, .inr (.inl fo))), (hg, .inr (8, [.ref st, .ref tr, .ref sa, .ref sk, .ref sv, .ref mt, .ref ml, .ref ad, .ref kw])), (st, .inr (7, [.ref b, .int sd, .int mv, .int gm, va_rf lt, .int w1, .int w2, .int dg, .int t1, .int t2, .int am])), (b, .inr (1, [.ref ca, .int kk, .int sg])), (ca, .inl (g.2.1, 49, .inl f))] := hD
  refine lv_i2l hx hb dL_kingAt_6 rfl ?_
  obtain ⟨hi, hyp⟩ := grd_e hyp
  refine va_last hx hb hE.1 hP hD hS 0 1 rfl rfl (inB_vp hi) dL_kingAt_7 (fun H locs hP hD hS => ?_)
  have hP : va_P g.1 vwCl [(ou, .inl (g.2.2.1, 1, .inr (.inl (vp_updL fo (0 : Int32).toNatClampNeg r_1.2.toInt64)))), (hg, .inr (8, [.ref st, .ref tr, .ref sa, .ref sk, .ref sv, .ref mt, .ref ml, .ref ad, .ref kw])), (st, .inr (7, [.ref b, .int sd, .int mv, .int gm, va_rf lt, .int w1, .int w2, .int dg, .int t1, .int t2, .int am])), (b, .inr (1, [.ref ca, .int kk, .int sg])), (ca, .inl (g.2.1, 49, .inl f))] H := hP
  have hD : va_D A [(ou, .inl (g.2.2.1, 1, .inr (.inl (vp_updL fo (0 : Int32).toNatClampNeg r_1.2.toInt64)))), (hg, .inr (8, [.ref st, .ref tr, .ref sa, .ref sk, .ref sv, .ref mt, .ref ml, .ref ad, .ref kw])), (st, .inr (7, [.ref b, .int sd, .int mv, .int gm, va_rf lt, .int w1, .int w2, .int dg, .int t1, .int t2, .int am])), (b, .inr (1, [.ref ca, .int kk, .int sg])), (ca, .inl (g.2.1, 49, .inl f))] := hD
  refine lv_goto (tgt := 14) hx hb dL_kingAt_8 (by decide) ?_
  refine lv_iconst (v := 0) hx hb dL_kingAt_14 (by decide) ?_
  have hP : va_P g.1 vwCl [(hg, .inr (8, [.ref st, .ref tr, .ref sa, .ref sk, .ref sv, .ref mt, .ref ml, .ref ad, .ref kw])), (st, .inr (7, [.ref b, .int sd, .int mv, .int gm, va_rf lt, .int w1, .int w2, .int dg, .int t1, .int t2, .int am])), (b, .inr (1, [.ref ca, .int kk, .int sg])), (ca, .inl (g.2.1, 49, .inl f)), (ou, .inl (g.2.2.1, 1, .inr (.inl (vp_updL fo (0 : Int32).toNatClampNeg r_1.2.toInt64))))] H := hP.sub [1, 2, 3, 4, 0] rfl
  have hD : va_D A [(hg, .inr (8, [.ref st, .ref tr, .ref sa, .ref sk, .ref sv, .ref mt, .ref ml, .ref ad, .ref kw])), (st, .inr (7, [.ref b, .int sd, .int mv, .int gm, va_rf lt, .int w1, .int w2, .int dg, .int t1, .int t2, .int am])), (b, .inr (1, [.ref ca, .int kk, .int sg])), (ca, .inl (g.2.1, 49, .inl f)), (ou, .inl (g.2.2.1, 1, .inr (.inl (vp_updL fo (0 : Int32).toNatClampNeg r_1.2.toInt64))))] := hD.sub [1, 2, 3, 4, 0] (by decide) rfl
  have hyp := some_e hyp
  subst hyp
  subst hQ
  exact xrI (na := s.heap.size) hx hb hr hlocks (Nat.le_refl _) hP hD hS (Nat.le_of_ble_eq_true rfl) (Nat.le_of_ble_eq_true rfl) dL_kingAt_15

def fL_isHostile (f : Nat → Int32) (fo : Nat → Int64) (a1 : Int32) (a2 : Int32) (a3 : Int32) : Option (Int32 × (Nat → Int64)) :=
  (fX8_isHostile f a1 a2 a3).bind (fun (r_1 : Nat × Int32) => if r_1.1 = 0 then (jn (fun (t_4 : Int64) => grd (inB 0 1) (some (0, vp_updL fo (0 : Int32).toNatClampNeg t_4))) (fun J_5 => if r_1.2 = 0 then (J_5 0) else (J_5 1))) else (if r_1.1 = 1 then (some (1, fo)) else (none)))
set_option maxRecDepth 100000 in
set_option maxHeartbeats 4000000 in
theorem mL_isHostile (l : Launch) (hl0 : l.stackTraces = false) (g : GE) (hg st b ca ou tr sa sk sv mt ml ad kw zc zp : Nat) (sd : Int32) (mv : Int32) (gm : Int32) (lt : Option Nat) (w1 : Int32) (w2 : Int32) (dg : Int32) (t1 : Int32) (t2 : Int32) (am : Int32) (kk : Int32) (sg : Int32) (f : Nat → Int32) (fo : Nat → Int64) (a1 : Int32) (a2 : Int32) (a3 : Int32) (r : Int32 × (Nat → Int64)) (hyp : fL_isHostile f fo a1 a2 a3 = some r) : LM l yL_isHostile cL_isHostile 6 [(0, 19, 22, 13)] 8 134 2 12 g [(hg, .inr (8, [.ref st, .ref tr, .ref sa, .ref sk, .ref sv, .ref mt, .ref ml, .ref ad, .ref kw])), (st, .inr (7, [.ref b, .int sd, .int mv, .int gm, va_rf lt, .int w1, .int w2, .int dg, .int t1, .int t2, .int am])), (b, .inr (1, [.ref ca, .int kk, .int sg])), (ca, .inl (g.2.1, 49, .inl f)), (ou, .inl (g.2.2.1, 1, .inr (.inl fo)))] (OZ g zc zp [] none) [.ref hg, .int a1, .int a2, .int a3, .ref ou] (some (.int r.1)) (fun na => [(hg, .inr (8, [.ref st, .ref tr, .ref sa, .ref sk, .ref sv, .ref mt, .ref ml, .ref ad, .ref kw])), (st, .inr (7, [.ref b, .int sd, .int mv, .int gm, va_rf lt, .int w1, .int w2, .int dg, .int t1, .int t2, .int am])), (b, .inr (1, [.ref ca, .int kk, .int sg])), (ca, .inl (g.2.1, 49, .inl f)), (ou, .inl (g.2.2.1, 1, .inr (.inl r.2)))]) := by
  refine metL_intro (by decide) rfl ?_
  intro p e R s m args below meth c Q A hRf hRl hRc hRs hQ hx hb hml hr hlocks htab hown hts hin hE hSR hNC hA hO H locs hP hD hS ls hl
  have hown : s.vm.findClass "HallGuardsLaw" = some m.cls := hown
  have hl : lv_has ls 6 [(0, .ref hg), (1, .int a1), (2, .int a2), (3, .int a3), (4, .ref ou)] := hl
  unfold fL_isHostile at hyp
  refine lv_aload hx hb dL_isHostile_0 (lv_at hl 4 rfl) ?_
  refine lv_iconst (v := 0) hx hb dL_isHostile_2 (by decide) ?_
  refine lv_aload_n hx hb dL_isHostile_3 rfl (lv_at hl 0 rfl) ?_
  refine lv_iload_n hx hb dL_isHostile_4 rfl (lv_at hl 1 rfl) ?_
  refine lv_iload_n hx hb dL_isHostile_5 rfl (lv_at hl 2 rfl) ?_
  refine lv_iload_n hx hb dL_isHostile_6 rfl (lv_at hl 3 rfl) ?_
  obtain ⟨r_1, hr_1, hyp⟩ := opt_e hyp
  refine xV (As := [.int a1, .int a2, .int a3]) (rest := [.int 0, .ref ou]) ⟨hx, hb, hml, hown, hts⟩ hE hSR (mX8_isHostile l hl0 g hg st b ca tr sa sk sv mt ml ad kw zc zp sd mv gm lt w1 w2 dg t1 t2 am kk sg f a1 a2 a3 r_1 hr_1) (OZ_ok g zc zp _ _) hO cf_X8_isHostile im_X8_isHostile se_X8_isHostile ml_L_53 ⟨Nat.le_trans (Nat.le_of_ble_eq_true rfl) hRf, Nat.le_trans (Nat.le_of_ble_eq_true rfl) hRl⟩ hP hD hS hA [0, 1, 2, 3] [4] rfl (wr := [(ou, .inl (g.2.2.1, 1, .inr (.inl fo)))]) rfl ⟨by decide, by decide⟩ (by decide) (ci := 8) (q0 := 0) rfl rfl rfl rfl hl.1 rfl (Nat.le_of_ble_eq_true rfl) dL_isHostile_7 ⟨Nat.le_trans (Nat.le_of_ble_eq_true rfl) hRc, Nat.le_trans (Nat.le_of_ble_eq_true rfl) hRs⟩ (fun hk0 na_2 H locs hna_2 hP hD hS => ?_) (fun hk0 na9 q9 ce9 H locs hna9 hP hD hS hce hcv hcl => ?_)
  rotate_left 1
  · replace hyp := ite_f hk0 hyp
    have hP : va_P g.1 vwCl [(ou, .inl (g.2.2.1, 1, .inr (.inl fo))), (hg, .inr (8, [.ref st, .ref tr, .ref sa, .ref sk, .ref sv, .ref mt, .ref ml, .ref ad, .ref kw])), (st, .inr (7, [.ref b, .int sd, .int mv, .int gm, va_rf lt, .int w1, .int w2, .int dg, .int t1, .int t2, .int am])), (b, .inr (1, [.ref ca, .int kk, .int sg])), (ca, .inl (g.2.1, 49, .inl f))] H := hP
    have hD : va_D A [(ou, .inl (g.2.2.1, 1, .inr (.inl fo))), (hg, .inr (8, [.ref st, .ref tr, .ref sa, .ref sk, .ref sv, .ref mt, .ref ml, .ref ad, .ref kw])), (st, .inr (7, [.ref b, .int sd, .int mv, .int gm, va_rf lt, .int w1, .int w2, .int dg, .int t1, .int t2, .int am])), (b, .inr (1, [.ref ca, .int kk, .int sg])), (ca, .inl (g.2.1, 49, .inl f))] := hD
    have hP : va_P g.1 vwCl [(hg, .inr (8, [.ref st, .ref tr, .ref sa, .ref sk, .ref sv, .ref mt, .ref ml, .ref ad, .ref kw])), (st, .inr (7, [.ref b, .int sd, .int mv, .int gm, va_rf lt, .int w1, .int w2, .int dg, .int t1, .int t2, .int am])), (b, .inr (1, [.ref ca, .int kk, .int sg])), (ca, .inl (g.2.1, 49, .inl f)), (ou, .inl (g.2.2.1, 1, .inr (.inl fo)))] H := hP.sub [1, 2, 3, 4, 0] rfl
    have hD : va_D A [(hg, .inr (8, [.ref st, .ref tr, .ref sa, .ref sk, .ref sv, .ref mt, .ref ml, .ref ad, .ref kw])), (st, .inr (7, [.ref b, .int sd, .int mv, .int gm, va_rf lt, .int w1, .int w2, .int dg, .int t1, .int t2, .int am])), (b, .inr (1, [.ref ca, .int kk, .int sg])), (ca, .inl (g.2.1, 49, .inl f)), (ou, .inl (g.2.2.1, 1, .inr (.inl fo)))] := hD.sub [1, 2, 3, 4, 0] (by decide) rfl
    by_cases h_3 : r_1.1 = 1
    · replace hyp := ite_t h_3 hyp
      rw [h_3] at hcl
      refine catK 0 ⟨0, 19, 22, 13⟩ 1 htab rfl hown (fun z hz => nomatch hz) (by decide) (by decide) hts hSR cl_L_13 cast_1 hce hcv hcl ?_
      refine lv_astore (lv' := [(5, .ref q9), (0, .ref hg), (1, .int a1), (2, .int a2), (3, .int a3), (4, .ref ou)]) hx hb dL_isHostile_22 hl (by decide) rfl (fun ls hl => ?_)
      refine lv_iconst (v := 1) hx hb dL_isHostile_24 (by decide) ?_
      have hyp := some_e hyp
      subst hyp
      subst hQ
      exact xrI (na := s.heap.size) hx hb hr hlocks (Nat.le_refl _) hP hD hS (Nat.le_of_ble_eq_true rfl) (Nat.le_of_ble_eq_true rfl) dL_isHostile_25
    · replace hyp := ite_f h_3 hyp
      cases hyp
  replace hyp := ite_t hk0 hyp
  have hP : va_P g.1 vwCl [(ou, .inl (g.2.2.1, 1, .inr (.inl fo))), (hg, .inr (8, [.ref st, .ref tr, .ref sa, .ref sk, .ref sv, .ref mt, .ref ml, .ref ad, .ref kw])), (st, .inr (7, [.ref b, .int sd, .int mv, .int gm, va_rf lt, .int w1, .int w2, .int dg, .int t1, .int t2, .int am])), (b, .inr (1, [.ref ca, .int kk, .int sg])), (ca, .inl (g.2.1, 49, .inl f))] H := hP
  have hD : va_D A [(ou, .inl (g.2.2.1, 1, .inr (.inl fo))), (hg, .inr (8, [.ref st, .ref tr, .ref sa, .ref sk, .ref sv, .ref mt, .ref ml, .ref ad, .ref kw])), (st, .inr (7, [.ref b, .int sd, .int mv, .int gm, va_rf lt, .int w1, .int w2, .int dg, .int t1, .int t2, .int am])), (b, .inr (1, [.ref ca, .int kk, .int sg])), (ca, .inl (g.2.1, 49, .inl f))] := hD
  have hP : va_P g.1 vwCl [(hg, .inr (8, [.ref st, .ref tr, .ref sa, .ref sk, .ref sv, .ref mt, .ref ml, .ref ad, .ref kw])), (st, .inr (7, [.ref b, .int sd, .int mv, .int gm, va_rf lt, .int w1, .int w2, .int dg, .int t1, .int t2, .int am])), (b, .inr (1, [.ref ca, .int kk, .int sg])), (ca, .inl (g.2.1, 49, .inl f)), (ou, .inl (g.2.2.1, 1, .inr (.inl fo)))] H := hP.sub [1, 2, 3, 4, 0] rfl
  have hD : va_D A [(hg, .inr (8, [.ref st, .ref tr, .ref sa, .ref sk, .ref sv, .ref mt, .ref ml, .ref ad, .ref kw])), (st, .inr (7, [.ref b, .int sd, .int mv, .int gm, va_rf lt, .int w1, .int w2, .int dg, .int t1, .int t2, .int am])), (b, .inr (1, [.ref ca, .int kk, .int sg])), (ca, .inl (g.2.1, 49, .inl f)), (ou, .inl (g.2.2.1, 1, .inr (.inl fo)))] := hD.sub [1, 2, 3, 4, 0] (by decide) rfl
  obtain ⟨J_5, eJ_5, hyp⟩ := jn_e hyp
  have kJ_5 : ∀ (t_4 : Int64) (H : Heap) (locs : List Loc) (ls : Array Slot), J_5 t_4 = some r → lv_has ls 6 [] → va_P g.1 vwCl [(hg, .inr (8, [.ref st, .ref tr, .ref sa, .ref sk, .ref sv, .ref mt, .ref ml, .ref ad, .ref kw])), (st, .inr (7, [.ref b, .int sd, .int mv, .int gm, va_rf lt, .int w1, .int w2, .int dg, .int t1, .int t2, .int am])), (b, .inr (1, [.ref ca, .int kk, .int sg])), (ca, .inl (g.2.1, 49, .inl f)), (ou, .inl (g.2.2.1, 1, .inr (.inl fo)))] H → va_D A [(hg, .inr (8, [.ref st, .ref tr, .ref sa, .ref sk, .ref sv, .ref mt, .ref ml, .ref ad, .ref kw])), (st, .inr (7, [.ref b, .int sd, .int mv, .int gm, va_rf lt, .int w1, .int w2, .int dg, .int t1, .int t2, .int am])), (b, .inr (1, [.ref ca, .int kk, .int sg])), (ca, .inl (g.2.1, 49, .inl f)), (ou, .inl (g.2.2.1, 1, .inr (.inl fo)))] → va_S A s.heap H locs → W p l e R s m args below meth c H locs 2 12 Q (F0 m 18 ls [.long t_4, .int 0, .ref ou]) := by
    intro t_4 H locs  ls hyp hl hP hD hS
    replace hyp := (congrFun (eJ_5) t_4).symm.trans hyp
    obtain ⟨hi, hyp⟩ := grd_e hyp
    refine va_last hx hb hE.1 hP hD hS 4 1 rfl rfl (inB_vp hi) dL_isHostile_18 (fun H locs hP hD hS => ?_)
    have hP : va_P g.1 vwCl [(hg, .inr (8, [.ref st, .ref tr, .ref sa, .ref sk, .ref sv, .ref mt, .ref ml, .ref ad, .ref kw])), (st, .inr (7, [.ref b, .int sd, .int mv, .int gm, va_rf lt, .int w1, .int w2, .int dg, .int t1, .int t2, .int am])), (b, .inr (1, [.ref ca, .int kk, .int sg])), (ca, .inl (g.2.1, 49, .inl f)), (ou, .inl (g.2.2.1, 1, .inr (.inl (vp_updL fo (0 : Int32).toNatClampNeg t_4))))] H := hP
    have hD : va_D A [(hg, .inr (8, [.ref st, .ref tr, .ref sa, .ref sk, .ref sv, .ref mt, .ref ml, .ref ad, .ref kw])), (st, .inr (7, [.ref b, .int sd, .int mv, .int gm, va_rf lt, .int w1, .int w2, .int dg, .int t1, .int t2, .int am])), (b, .inr (1, [.ref ca, .int kk, .int sg])), (ca, .inl (g.2.1, 49, .inl f)), (ou, .inl (g.2.2.1, 1, .inr (.inl (vp_updL fo (0 : Int32).toNatClampNeg t_4))))] := hD
    refine lv_goto (tgt := 26) hx hb dL_isHostile_19 (by decide) ?_
    refine lv_iconst (v := 0) hx hb dL_isHostile_26 (by decide) ?_
    have hyp := some_e hyp
    subst hyp
    subst hQ
    exact xrI (na := s.heap.size) hx hb hr hlocks (Nat.le_refl _) hP hD hS (Nat.le_of_ble_eq_true rfl) (Nat.le_of_ble_eq_true rfl) dL_isHostile_27
  refine lv_if_eq (tgt := 17) hx hb dL_isHostile_10 (by decide) (fun h_6 => ?_) (fun h_6 => ?_)
  · replace hyp := ite_t h_6 hyp
    refine lv_lconst (v := 0) hx hb dL_isHostile_17 (by decide) ?_
    exact kJ_5 0 H locs ls hyp (lv_sub hl [] rfl) hP hD hS
  · replace hyp := ite_f h_6 hyp
    refine lv_lconst (v := 1) hx hb dL_isHostile_13 (by decide) ?_
    refine lv_goto (tgt := 18) hx hb dL_isHostile_14 (by decide) ?_
    exact kJ_5 1 H locs ls hyp (lv_sub hl [] rfl) hP hD hS

def fL_turn (sd : Int32) (mv : Int32) (fo : Nat → Int64) : Option (Int32 × (Nat → Int64)) :=
  (fX8_turn sd mv).bind (fun (r_1 : Nat × Int32) => if r_1.1 = 0 then (grd (inB 0 1) (some (0, vp_updL fo (0 : Int32).toNatClampNeg r_1.2.toInt64))) else (if r_1.1 = 3 then (some (1, fo)) else (none)))
set_option maxRecDepth 100000 in
set_option maxHeartbeats 4000000 in
theorem mL_turn (l : Launch) (hl0 : l.stackTraces = false) (g : GE) (hg st b ca ou tr sa sk sv mt ml ad kw zc zp : Nat) (sd : Int32) (mv : Int32) (gm : Int32) (lt : Option Nat) (w1 : Int32) (w2 : Int32) (dg : Int32) (t1 : Int32) (t2 : Int32) (am : Int32) (kk : Int32) (sg : Int32) (f : Nat → Int32) (fo : Nat → Int64) (r : Int32 × (Nat → Int64)) (hyp : fL_turn sd mv fo = some r) : LM l yL_turn cL_turn 3 [(0, 8, 11, 17)] 7 110 1 6 g [(hg, .inr (8, [.ref st, .ref tr, .ref sa, .ref sk, .ref sv, .ref mt, .ref ml, .ref ad, .ref kw])), (st, .inr (7, [.ref b, .int sd, .int mv, .int gm, va_rf lt, .int w1, .int w2, .int dg, .int t1, .int t2, .int am])), (b, .inr (1, [.ref ca, .int kk, .int sg])), (ca, .inl (g.2.1, 49, .inl f)), (ou, .inl (g.2.2.1, 1, .inr (.inl fo)))] (OZ g zc zp [] none) [.ref hg, .ref ou] (some (.int r.1)) (fun na => [(hg, .inr (8, [.ref st, .ref tr, .ref sa, .ref sk, .ref sv, .ref mt, .ref ml, .ref ad, .ref kw])), (st, .inr (7, [.ref b, .int sd, .int mv, .int gm, va_rf lt, .int w1, .int w2, .int dg, .int t1, .int t2, .int am])), (b, .inr (1, [.ref ca, .int kk, .int sg])), (ca, .inl (g.2.1, 49, .inl f)), (ou, .inl (g.2.2.1, 1, .inr (.inl r.2)))]) := by
  refine metL_intro (by decide) rfl ?_
  intro p e R s m args below meth c Q A hRf hRl hRc hRs hQ hx hb hml hr hlocks htab hown hts hin hE hSR hNC hA hO H locs hP hD hS ls hl
  have hown : s.vm.findClass "HallGuardsLaw" = some m.cls := hown
  have hl : lv_has ls 3 [(0, .ref hg), (1, .ref ou)] := hl
  unfold fL_turn at hyp
  refine lv_aload_n hx hb dL_turn_0 rfl (lv_at hl 1 rfl) ?_
  refine lv_iconst (v := 0) hx hb dL_turn_1 (by decide) ?_
  refine lv_aload_n hx hb dL_turn_2 rfl (lv_at hl 0 rfl) ?_
  obtain ⟨r_1, hr_1, hyp⟩ := opt_e hyp
  refine xV (As := []) (rest := [.int 0, .ref ou]) ⟨hx, hb, hml, hown, hts⟩ hE hSR (mX8_turn l hl0 g hg st b ca tr sa sk sv mt ml ad kw zc zp sd mv gm lt w1 w2 dg t1 t2 am kk sg f r_1 hr_1) (OZ_ok g zc zp _ _) hO cf_X8_turn im_X8_turn se_X8_turn ml_L_57 ⟨Nat.le_trans (Nat.le_of_ble_eq_true rfl) hRf, Nat.le_trans (Nat.le_of_ble_eq_true rfl) hRl⟩ hP hD hS hA [0, 1, 2, 3] [4] rfl (wr := [(ou, .inl (g.2.2.1, 1, .inr (.inl fo)))]) rfl ⟨by decide, by decide⟩ (by decide) (ci := 8) (q0 := 0) rfl rfl rfl rfl hl.1 rfl (Nat.le_of_ble_eq_true rfl) dL_turn_3 ⟨Nat.le_trans (Nat.le_of_ble_eq_true rfl) hRc, Nat.le_trans (Nat.le_of_ble_eq_true rfl) hRs⟩ (fun hk0 na_2 H locs hna_2 hP hD hS => ?_) (fun hk0 na9 q9 ce9 H locs hna9 hP hD hS hce hcv hcl => ?_)
  rotate_left 1
  · replace hyp := ite_f hk0 hyp
    have hP : va_P g.1 vwCl [(ou, .inl (g.2.2.1, 1, .inr (.inl fo))), (hg, .inr (8, [.ref st, .ref tr, .ref sa, .ref sk, .ref sv, .ref mt, .ref ml, .ref ad, .ref kw])), (st, .inr (7, [.ref b, .int sd, .int mv, .int gm, va_rf lt, .int w1, .int w2, .int dg, .int t1, .int t2, .int am])), (b, .inr (1, [.ref ca, .int kk, .int sg])), (ca, .inl (g.2.1, 49, .inl f))] H := hP
    have hD : va_D A [(ou, .inl (g.2.2.1, 1, .inr (.inl fo))), (hg, .inr (8, [.ref st, .ref tr, .ref sa, .ref sk, .ref sv, .ref mt, .ref ml, .ref ad, .ref kw])), (st, .inr (7, [.ref b, .int sd, .int mv, .int gm, va_rf lt, .int w1, .int w2, .int dg, .int t1, .int t2, .int am])), (b, .inr (1, [.ref ca, .int kk, .int sg])), (ca, .inl (g.2.1, 49, .inl f))] := hD
    have hP : va_P g.1 vwCl [(hg, .inr (8, [.ref st, .ref tr, .ref sa, .ref sk, .ref sv, .ref mt, .ref ml, .ref ad, .ref kw])), (st, .inr (7, [.ref b, .int sd, .int mv, .int gm, va_rf lt, .int w1, .int w2, .int dg, .int t1, .int t2, .int am])), (b, .inr (1, [.ref ca, .int kk, .int sg])), (ca, .inl (g.2.1, 49, .inl f)), (ou, .inl (g.2.2.1, 1, .inr (.inl fo)))] H := hP.sub [1, 2, 3, 4, 0] rfl
    have hD : va_D A [(hg, .inr (8, [.ref st, .ref tr, .ref sa, .ref sk, .ref sv, .ref mt, .ref ml, .ref ad, .ref kw])), (st, .inr (7, [.ref b, .int sd, .int mv, .int gm, va_rf lt, .int w1, .int w2, .int dg, .int t1, .int t2, .int am])), (b, .inr (1, [.ref ca, .int kk, .int sg])), (ca, .inl (g.2.1, 49, .inl f)), (ou, .inl (g.2.2.1, 1, .inr (.inl fo)))] := hD.sub [1, 2, 3, 4, 0] (by decide) rfl
    by_cases h_3 : r_1.1 = 3
    · replace hyp := ite_t h_3 hyp
      rw [h_3] at hcl
      refine catK 0 ⟨0, 8, 11, 17⟩ 3 htab rfl hown (fun z hz => nomatch hz) (by decide) (by decide) hts hSR cl_L_17 cast_3 hce hcv hcl ?_
      refine lv_astore_n (lv' := [(2, .ref q9), (0, .ref hg), (1, .ref ou)]) hx hb dL_turn_11 rfl hl (by decide) rfl (fun ls hl => ?_)
      refine lv_iconst (v := 1) hx hb dL_turn_12 (by decide) ?_
      have hyp := some_e hyp
      subst hyp
      subst hQ
      exact xrI (na := s.heap.size) hx hb hr hlocks (Nat.le_refl _) hP hD hS (Nat.le_of_ble_eq_true rfl) (Nat.le_of_ble_eq_true rfl) dL_turn_13
    · replace hyp := ite_f h_3 hyp
      cases hyp
  replace hyp := ite_t hk0 hyp
  have hP : va_P g.1 vwCl [(ou, .inl (g.2.2.1, 1, .inr (.inl fo))), (hg, .inr (8, [.ref st, .ref tr, .ref sa, .ref sk, .ref sv, .ref mt, .ref ml, .ref ad, .ref kw])), (st, .inr (7, [.ref b, .int sd, .int mv, .int gm, va_rf lt, .int w1, .int w2, .int dg, .int t1, .int t2, .int am])), (b, .inr (1, [.ref ca, .int kk, .int sg])), (ca, .inl (g.2.1, 49, .inl f))] H := hP
  have hD : va_D A [(ou, .inl (g.2.2.1, 1, .inr (.inl fo))), (hg, .inr (8, [.ref st, .ref tr, .ref sa, .ref sk, .ref sv, .ref mt, .ref ml, .ref ad, .ref kw])), (st, .inr (7, [.ref b, .int sd, .int mv, .int gm, va_rf lt, .int w1, .int w2, .int dg, .int t1, .int t2, .int am])), (b, .inr (1, [.ref ca, .int kk, .int sg])), (ca, .inl (g.2.1, 49, .inl f))] := hD
  refine lv_i2l hx hb dL_turn_6 rfl ?_
  obtain ⟨hi, hyp⟩ := grd_e hyp
  refine va_last hx hb hE.1 hP hD hS 0 1 rfl rfl (inB_vp hi) dL_turn_7 (fun H locs hP hD hS => ?_)
  have hP : va_P g.1 vwCl [(ou, .inl (g.2.2.1, 1, .inr (.inl (vp_updL fo (0 : Int32).toNatClampNeg r_1.2.toInt64)))), (hg, .inr (8, [.ref st, .ref tr, .ref sa, .ref sk, .ref sv, .ref mt, .ref ml, .ref ad, .ref kw])), (st, .inr (7, [.ref b, .int sd, .int mv, .int gm, va_rf lt, .int w1, .int w2, .int dg, .int t1, .int t2, .int am])), (b, .inr (1, [.ref ca, .int kk, .int sg])), (ca, .inl (g.2.1, 49, .inl f))] H := hP
  have hD : va_D A [(ou, .inl (g.2.2.1, 1, .inr (.inl (vp_updL fo (0 : Int32).toNatClampNeg r_1.2.toInt64)))), (hg, .inr (8, [.ref st, .ref tr, .ref sa, .ref sk, .ref sv, .ref mt, .ref ml, .ref ad, .ref kw])), (st, .inr (7, [.ref b, .int sd, .int mv, .int gm, va_rf lt, .int w1, .int w2, .int dg, .int t1, .int t2, .int am])), (b, .inr (1, [.ref ca, .int kk, .int sg])), (ca, .inl (g.2.1, 49, .inl f))] := hD
  refine lv_goto (tgt := 14) hx hb dL_turn_8 (by decide) ?_
  refine lv_iconst (v := 0) hx hb dL_turn_14 (by decide) ?_
  have hP : va_P g.1 vwCl [(hg, .inr (8, [.ref st, .ref tr, .ref sa, .ref sk, .ref sv, .ref mt, .ref ml, .ref ad, .ref kw])), (st, .inr (7, [.ref b, .int sd, .int mv, .int gm, va_rf lt, .int w1, .int w2, .int dg, .int t1, .int t2, .int am])), (b, .inr (1, [.ref ca, .int kk, .int sg])), (ca, .inl (g.2.1, 49, .inl f)), (ou, .inl (g.2.2.1, 1, .inr (.inl (vp_updL fo (0 : Int32).toNatClampNeg r_1.2.toInt64))))] H := hP.sub [1, 2, 3, 4, 0] rfl
  have hD : va_D A [(hg, .inr (8, [.ref st, .ref tr, .ref sa, .ref sk, .ref sv, .ref mt, .ref ml, .ref ad, .ref kw])), (st, .inr (7, [.ref b, .int sd, .int mv, .int gm, va_rf lt, .int w1, .int w2, .int dg, .int t1, .int t2, .int am])), (b, .inr (1, [.ref ca, .int kk, .int sg])), (ca, .inl (g.2.1, 49, .inl f)), (ou, .inl (g.2.2.1, 1, .inr (.inl (vp_updL fo (0 : Int32).toNatClampNeg r_1.2.toInt64))))] := hD.sub [1, 2, 3, 4, 0] (by decide) rfl
  have hyp := some_e hyp
  subst hyp
  subst hQ
  exact xrI (na := s.heap.size) hx hb hr hlocks (Nat.le_refl _) hP hD hS (Nat.le_of_ble_eq_true rfl) (Nat.le_of_ble_eq_true rfl) dL_turn_15

def fL_timesSeenN (sd : Int32) (fo : Nat → Int64) : Option (Int32 × (Nat → Int64)) :=
  (fX8_timesSeenN sd).bind (fun (r_1 : Nat × Int32) => if r_1.1 = 0 then (grd (inB 0 1) (some (0, vp_updL fo (0 : Int32).toNatClampNeg r_1.2.toInt64))) else (if r_1.1 = 3 then (some (1, fo)) else (none)))
set_option maxRecDepth 100000 in
set_option maxHeartbeats 4000000 in
theorem mL_timesSeenN (l : Launch) (hl0 : l.stackTraces = false) (g : GE) (hg st b ca ou tr sa sk sv mt ml ad kw zc zp : Nat) (sd : Int32) (mv : Int32) (gm : Int32) (w1 : Int32) (w2 : Int32) (dg : Int32) (t1 : Int32) (t2 : Int32) (am : Int32) (kk : Int32) (sg : Int32) (f : Nat → Int32) (fo : Nat → Int64) (r : Int32 × (Nat → Int64)) (hyp : fL_timesSeenN sd fo = some r) : LM l yL_timesSeen cL_timesSeen 3 [(0, 8, 11, 17)] 7 110 1 6 g [(hg, .inr (8, [.ref st, .ref tr, .ref sa, .ref sk, .ref sv, .ref mt, .ref ml, .ref ad, .ref kw])), (st, .inr (7, [.ref b, .int sd, .int mv, .int gm, .null, .int w1, .int w2, .int dg, .int t1, .int t2, .int am])), (b, .inr (1, [.ref ca, .int kk, .int sg])), (ca, .inl (g.2.1, 49, .inl f)), (ou, .inl (g.2.2.1, 1, .inr (.inl fo)))] (OZ g zc zp [] none) [.ref hg, .ref ou] (some (.int r.1)) (fun na => [(hg, .inr (8, [.ref st, .ref tr, .ref sa, .ref sk, .ref sv, .ref mt, .ref ml, .ref ad, .ref kw])), (st, .inr (7, [.ref b, .int sd, .int mv, .int gm, .null, .int w1, .int w2, .int dg, .int t1, .int t2, .int am])), (b, .inr (1, [.ref ca, .int kk, .int sg])), (ca, .inl (g.2.1, 49, .inl f)), (ou, .inl (g.2.2.1, 1, .inr (.inl r.2)))]) := by
  refine metL_intro (by decide) rfl ?_
  intro p e R s m args below meth c Q A hRf hRl hRc hRs hQ hx hb hml hr hlocks htab hown hts hin hE hSR hNC hA hO H locs hP hD hS ls hl
  have hown : s.vm.findClass "HallGuardsLaw" = some m.cls := hown
  have hl : lv_has ls 3 [(0, .ref hg), (1, .ref ou)] := hl
  unfold fL_timesSeenN at hyp
  refine lv_aload_n hx hb dL_timesSeen_0 rfl (lv_at hl 1 rfl) ?_
  refine lv_iconst (v := 0) hx hb dL_timesSeen_1 (by decide) ?_
  refine lv_aload_n hx hb dL_timesSeen_2 rfl (lv_at hl 0 rfl) ?_
  obtain ⟨r_1, hr_1, hyp⟩ := opt_e hyp
  refine xV (As := []) (rest := [.int 0, .ref ou]) ⟨hx, hb, hml, hown, hts⟩ hE hSR (mX8_timesSeenN l hl0 g hg st b ca tr sa sk sv mt ml ad kw zc zp sd mv gm w1 w2 dg t1 t2 am kk sg f r_1 hr_1) (OZ_ok g zc zp _ _) hO cf_X8_timesSeen im_X8_timesSeen se_X8_timesSeen ml_L_60 ⟨Nat.le_trans (Nat.le_of_ble_eq_true rfl) hRf, Nat.le_trans (Nat.le_of_ble_eq_true rfl) hRl⟩ hP hD hS hA [0, 1, 2, 3] [4] rfl (wr := [(ou, .inl (g.2.2.1, 1, .inr (.inl fo)))]) rfl ⟨by decide, by decide⟩ (by decide) (ci := 8) (q0 := 0) rfl rfl rfl rfl hl.1 rfl (Nat.le_of_ble_eq_true rfl) dL_timesSeen_3 ⟨Nat.le_trans (Nat.le_of_ble_eq_true rfl) hRc, Nat.le_trans (Nat.le_of_ble_eq_true rfl) hRs⟩ (fun hk0 na_2 H locs hna_2 hP hD hS => ?_) (fun hk0 na9 q9 ce9 H locs hna9 hP hD hS hce hcv hcl => ?_)
  rotate_left 1
  · replace hyp := ite_f hk0 hyp
    have hP : va_P g.1 vwCl [(ou, .inl (g.2.2.1, 1, .inr (.inl fo))), (hg, .inr (8, [.ref st, .ref tr, .ref sa, .ref sk, .ref sv, .ref mt, .ref ml, .ref ad, .ref kw])), (st, .inr (7, [.ref b, .int sd, .int mv, .int gm, .null, .int w1, .int w2, .int dg, .int t1, .int t2, .int am])), (b, .inr (1, [.ref ca, .int kk, .int sg])), (ca, .inl (g.2.1, 49, .inl f))] H := hP
    have hD : va_D A [(ou, .inl (g.2.2.1, 1, .inr (.inl fo))), (hg, .inr (8, [.ref st, .ref tr, .ref sa, .ref sk, .ref sv, .ref mt, .ref ml, .ref ad, .ref kw])), (st, .inr (7, [.ref b, .int sd, .int mv, .int gm, .null, .int w1, .int w2, .int dg, .int t1, .int t2, .int am])), (b, .inr (1, [.ref ca, .int kk, .int sg])), (ca, .inl (g.2.1, 49, .inl f))] := hD
    have hP : va_P g.1 vwCl [(hg, .inr (8, [.ref st, .ref tr, .ref sa, .ref sk, .ref sv, .ref mt, .ref ml, .ref ad, .ref kw])), (st, .inr (7, [.ref b, .int sd, .int mv, .int gm, .null, .int w1, .int w2, .int dg, .int t1, .int t2, .int am])), (b, .inr (1, [.ref ca, .int kk, .int sg])), (ca, .inl (g.2.1, 49, .inl f)), (ou, .inl (g.2.2.1, 1, .inr (.inl fo)))] H := hP.sub [1, 2, 3, 4, 0] rfl
    have hD : va_D A [(hg, .inr (8, [.ref st, .ref tr, .ref sa, .ref sk, .ref sv, .ref mt, .ref ml, .ref ad, .ref kw])), (st, .inr (7, [.ref b, .int sd, .int mv, .int gm, .null, .int w1, .int w2, .int dg, .int t1, .int t2, .int am])), (b, .inr (1, [.ref ca, .int kk, .int sg])), (ca, .inl (g.2.1, 49, .inl f)), (ou, .inl (g.2.2.1, 1, .inr (.inl fo)))] := hD.sub [1, 2, 3, 4, 0] (by decide) rfl
    by_cases h_3 : r_1.1 = 3
    · replace hyp := ite_t h_3 hyp
      rw [h_3] at hcl
      refine catK 0 ⟨0, 8, 11, 17⟩ 3 htab rfl hown (fun z hz => nomatch hz) (by decide) (by decide) hts hSR cl_L_17 cast_3 hce hcv hcl ?_
      refine lv_astore_n (lv' := [(2, .ref q9), (0, .ref hg), (1, .ref ou)]) hx hb dL_timesSeen_11 rfl hl (by decide) rfl (fun ls hl => ?_)
      refine lv_iconst (v := 1) hx hb dL_timesSeen_12 (by decide) ?_
      have hyp := some_e hyp
      subst hyp
      subst hQ
      exact xrI (na := s.heap.size) hx hb hr hlocks (Nat.le_refl _) hP hD hS (Nat.le_of_ble_eq_true rfl) (Nat.le_of_ble_eq_true rfl) dL_timesSeen_13
    · replace hyp := ite_f h_3 hyp
      cases hyp
  replace hyp := ite_t hk0 hyp
  have hP : va_P g.1 vwCl [(ou, .inl (g.2.2.1, 1, .inr (.inl fo))), (hg, .inr (8, [.ref st, .ref tr, .ref sa, .ref sk, .ref sv, .ref mt, .ref ml, .ref ad, .ref kw])), (st, .inr (7, [.ref b, .int sd, .int mv, .int gm, .null, .int w1, .int w2, .int dg, .int t1, .int t2, .int am])), (b, .inr (1, [.ref ca, .int kk, .int sg])), (ca, .inl (g.2.1, 49, .inl f))] H := hP
  have hD : va_D A [(ou, .inl (g.2.2.1, 1, .inr (.inl fo))), (hg, .inr (8, [.ref st, .ref tr, .ref sa, .ref sk, .ref sv, .ref mt, .ref ml, .ref ad, .ref kw])), (st, .inr (7, [.ref b, .int sd, .int mv, .int gm, .null, .int w1, .int w2, .int dg, .int t1, .int t2, .int am])), (b, .inr (1, [.ref ca, .int kk, .int sg])), (ca, .inl (g.2.1, 49, .inl f))] := hD
  refine lv_i2l hx hb dL_timesSeen_6 rfl ?_
  obtain ⟨hi, hyp⟩ := grd_e hyp
  refine va_last hx hb hE.1 hP hD hS 0 1 rfl rfl (inB_vp hi) dL_timesSeen_7 (fun H locs hP hD hS => ?_)
  have hP : va_P g.1 vwCl [(ou, .inl (g.2.2.1, 1, .inr (.inl (vp_updL fo (0 : Int32).toNatClampNeg r_1.2.toInt64)))), (hg, .inr (8, [.ref st, .ref tr, .ref sa, .ref sk, .ref sv, .ref mt, .ref ml, .ref ad, .ref kw])), (st, .inr (7, [.ref b, .int sd, .int mv, .int gm, .null, .int w1, .int w2, .int dg, .int t1, .int t2, .int am])), (b, .inr (1, [.ref ca, .int kk, .int sg])), (ca, .inl (g.2.1, 49, .inl f))] H := hP
  have hD : va_D A [(ou, .inl (g.2.2.1, 1, .inr (.inl (vp_updL fo (0 : Int32).toNatClampNeg r_1.2.toInt64)))), (hg, .inr (8, [.ref st, .ref tr, .ref sa, .ref sk, .ref sv, .ref mt, .ref ml, .ref ad, .ref kw])), (st, .inr (7, [.ref b, .int sd, .int mv, .int gm, .null, .int w1, .int w2, .int dg, .int t1, .int t2, .int am])), (b, .inr (1, [.ref ca, .int kk, .int sg])), (ca, .inl (g.2.1, 49, .inl f))] := hD
  refine lv_goto (tgt := 14) hx hb dL_timesSeen_8 (by decide) ?_
  refine lv_iconst (v := 0) hx hb dL_timesSeen_14 (by decide) ?_
  have hP : va_P g.1 vwCl [(hg, .inr (8, [.ref st, .ref tr, .ref sa, .ref sk, .ref sv, .ref mt, .ref ml, .ref ad, .ref kw])), (st, .inr (7, [.ref b, .int sd, .int mv, .int gm, .null, .int w1, .int w2, .int dg, .int t1, .int t2, .int am])), (b, .inr (1, [.ref ca, .int kk, .int sg])), (ca, .inl (g.2.1, 49, .inl f)), (ou, .inl (g.2.2.1, 1, .inr (.inl (vp_updL fo (0 : Int32).toNatClampNeg r_1.2.toInt64))))] H := hP.sub [1, 2, 3, 4, 0] rfl
  have hD : va_D A [(hg, .inr (8, [.ref st, .ref tr, .ref sa, .ref sk, .ref sv, .ref mt, .ref ml, .ref ad, .ref kw])), (st, .inr (7, [.ref b, .int sd, .int mv, .int gm, .null, .int w1, .int w2, .int dg, .int t1, .int t2, .int am])), (b, .inr (1, [.ref ca, .int kk, .int sg])), (ca, .inl (g.2.1, 49, .inl f)), (ou, .inl (g.2.2.1, 1, .inr (.inl (vp_updL fo (0 : Int32).toNatClampNeg r_1.2.toInt64))))] := hD.sub [1, 2, 3, 4, 0] (by decide) rfl
  have hyp := some_e hyp
  subst hyp
  subst hQ
  exact xrI (na := s.heap.size) hx hb hr hlocks (Nat.le_refl _) hP hD hS (Nat.le_of_ble_eq_true rfl) (Nat.le_of_ble_eq_true rfl) dL_timesSeen_15

def fL_timesSeenS (sd : Int32) (fo : Nat → Int64) (cx : PC) : Option (Int32 × (Nat → Int64)) :=
  (fX8_timesSeenS sd cx).bind (fun (r_1 : Nat × Int32) => if r_1.1 = 0 then (grd (inB 0 1) (some (0, vp_updL fo (0 : Int32).toNatClampNeg r_1.2.toInt64))) else (if r_1.1 = 3 then (some (1, fo)) else (none)))
set_option maxRecDepth 100000 in
set_option maxHeartbeats 4000000 in
theorem mL_timesSeenS (l : Launch) (hl0 : l.stackTraces = false) (g : GE) (hg st b ca ou tr sa sk sv mt ml ad kw la zc zp : Nat) (sd : Int32) (mv : Int32) (gm : Int32) (w1 : Int32) (w2 : Int32) (dg : Int32) (t1 : Int32) (t2 : Int32) (am : Int32) (kk : Int32) (sg : Int32) (f : Nat → Int32) (fo : Nat → Int64) (cx : PC) (ct : List PC) (r : Int32 × (Nat → Int64)) (hyp : fL_timesSeenS sd fo cx = some r) : LM l yL_timesSeen cL_timesSeen 3 [(0, 8, 11, 17)] 7 110 1 6 g [(hg, .inr (8, [.ref st, .ref tr, .ref sa, .ref sk, .ref sv, .ref mt, .ref ml, .ref ad, .ref kw])), (st, .inr (7, [.ref b, .int sd, .int mv, .int gm, .ref la, .int w1, .int w2, .int dg, .int t1, .int t2, .int am])), (b, .inr (1, [.ref ca, .int kk, .int sg])), (ca, .inl (g.2.1, 49, .inl f)), (ou, .inl (g.2.2.1, 1, .inr (.inl fo)))] (OZ g zc zp (cx :: ct) (some la)) [.ref hg, .ref ou] (some (.int r.1)) (fun na => [(hg, .inr (8, [.ref st, .ref tr, .ref sa, .ref sk, .ref sv, .ref mt, .ref ml, .ref ad, .ref kw])), (st, .inr (7, [.ref b, .int sd, .int mv, .int gm, .ref la, .int w1, .int w2, .int dg, .int t1, .int t2, .int am])), (b, .inr (1, [.ref ca, .int kk, .int sg])), (ca, .inl (g.2.1, 49, .inl f)), (ou, .inl (g.2.2.1, 1, .inr (.inl r.2)))]) := by
  refine metL_intro (by decide) rfl ?_
  intro p e R s m args below meth c Q A hRf hRl hRc hRs hQ hx hb hml hr hlocks htab hown hts hin hE hSR hNC hA hO H locs hP hD hS ls hl
  obtain ⟨eb, hC⟩ := OC_head hO.2.2
  have hown : s.vm.findClass "HallGuardsLaw" = some m.cls := hown
  have hl : lv_has ls 3 [(0, .ref hg), (1, .ref ou)] := hl
  unfold fL_timesSeenS at hyp
  refine lv_aload_n hx hb dL_timesSeen_0 rfl (lv_at hl 1 rfl) ?_
  refine lv_iconst (v := 0) hx hb dL_timesSeen_1 (by decide) ?_
  refine lv_aload_n hx hb dL_timesSeen_2 rfl (lv_at hl 0 rfl) ?_
  obtain ⟨r_1, hr_1, hyp⟩ := opt_e hyp
  refine xV (As := []) (rest := [.int 0, .ref ou]) ⟨hx, hb, hml, hown, hts⟩ hE hSR (mX8_timesSeenS l hl0 g hg st b ca tr sa sk sv mt ml ad kw la zc zp sd mv gm w1 w2 dg t1 t2 am kk sg f cx ct r_1 hr_1) (OZ_ok g zc zp _ _) hO cf_X8_timesSeen im_X8_timesSeen se_X8_timesSeen ml_L_60 ⟨Nat.le_trans (Nat.le_of_ble_eq_true rfl) hRf, Nat.le_trans (Nat.le_of_ble_eq_true rfl) hRl⟩ hP hD hS hA [0, 1, 2, 3] [4] rfl (wr := [(ou, .inl (g.2.2.1, 1, .inr (.inl fo)))]) rfl ⟨by decide, by decide⟩ (by decide) (ci := 8) (q0 := 0) rfl rfl rfl rfl hl.1 rfl (Nat.le_of_ble_eq_true rfl) dL_timesSeen_3 ⟨Nat.le_trans (Nat.le_of_ble_eq_true rfl) hRc, Nat.le_trans (Nat.le_of_ble_eq_true rfl) hRs⟩ (fun hk0 na_2 H locs hna_2 hP hD hS => ?_) (fun hk0 na9 q9 ce9 H locs hna9 hP hD hS hce hcv hcl => ?_)
  rotate_left 1
  · replace hyp := ite_f hk0 hyp
    have hP : va_P g.1 vwCl [(ou, .inl (g.2.2.1, 1, .inr (.inl fo))), (hg, .inr (8, [.ref st, .ref tr, .ref sa, .ref sk, .ref sv, .ref mt, .ref ml, .ref ad, .ref kw])), (st, .inr (7, [.ref b, .int sd, .int mv, .int gm, .ref la, .int w1, .int w2, .int dg, .int t1, .int t2, .int am])), (b, .inr (1, [.ref ca, .int kk, .int sg])), (ca, .inl (g.2.1, 49, .inl f))] H := hP
    have hD : va_D A [(ou, .inl (g.2.2.1, 1, .inr (.inl fo))), (hg, .inr (8, [.ref st, .ref tr, .ref sa, .ref sk, .ref sv, .ref mt, .ref ml, .ref ad, .ref kw])), (st, .inr (7, [.ref b, .int sd, .int mv, .int gm, .ref la, .int w1, .int w2, .int dg, .int t1, .int t2, .int am])), (b, .inr (1, [.ref ca, .int kk, .int sg])), (ca, .inl (g.2.1, 49, .inl f))] := hD
    have hP : va_P g.1 vwCl [(hg, .inr (8, [.ref st, .ref tr, .ref sa, .ref sk, .ref sv, .ref mt, .ref ml, .ref ad, .ref kw])), (st, .inr (7, [.ref b, .int sd, .int mv, .int gm, .ref la, .int w1, .int w2, .int dg, .int t1, .int t2, .int am])), (b, .inr (1, [.ref ca, .int kk, .int sg])), (ca, .inl (g.2.1, 49, .inl f)), (ou, .inl (g.2.2.1, 1, .inr (.inl fo)))] H := hP.sub [1, 2, 3, 4, 0] rfl
    have hD : va_D A [(hg, .inr (8, [.ref st, .ref tr, .ref sa, .ref sk, .ref sv, .ref mt, .ref ml, .ref ad, .ref kw])), (st, .inr (7, [.ref b, .int sd, .int mv, .int gm, .ref la, .int w1, .int w2, .int dg, .int t1, .int t2, .int am])), (b, .inr (1, [.ref ca, .int kk, .int sg])), (ca, .inl (g.2.1, 49, .inl f)), (ou, .inl (g.2.2.1, 1, .inr (.inl fo)))] := hD.sub [1, 2, 3, 4, 0] (by decide) rfl
    by_cases h_3 : r_1.1 = 3
    · replace hyp := ite_t h_3 hyp
      rw [h_3] at hcl
      refine catK 0 ⟨0, 8, 11, 17⟩ 3 htab rfl hown (fun z hz => nomatch hz) (by decide) (by decide) hts hSR cl_L_17 cast_3 hce hcv hcl ?_
      refine lv_astore_n (lv' := [(2, .ref q9), (0, .ref hg), (1, .ref ou)]) hx hb dL_timesSeen_11 rfl hl (by decide) rfl (fun ls hl => ?_)
      refine lv_iconst (v := 1) hx hb dL_timesSeen_12 (by decide) ?_
      have hyp := some_e hyp
      subst hyp
      subst hQ
      exact xrI (na := s.heap.size) hx hb hr hlocks (Nat.le_refl _) hP hD hS (Nat.le_of_ble_eq_true rfl) (Nat.le_of_ble_eq_true rfl) dL_timesSeen_13
    · replace hyp := ite_f h_3 hyp
      cases hyp
  replace hyp := ite_t hk0 hyp
  have hP : va_P g.1 vwCl [(ou, .inl (g.2.2.1, 1, .inr (.inl fo))), (hg, .inr (8, [.ref st, .ref tr, .ref sa, .ref sk, .ref sv, .ref mt, .ref ml, .ref ad, .ref kw])), (st, .inr (7, [.ref b, .int sd, .int mv, .int gm, .ref la, .int w1, .int w2, .int dg, .int t1, .int t2, .int am])), (b, .inr (1, [.ref ca, .int kk, .int sg])), (ca, .inl (g.2.1, 49, .inl f))] H := hP
  have hD : va_D A [(ou, .inl (g.2.2.1, 1, .inr (.inl fo))), (hg, .inr (8, [.ref st, .ref tr, .ref sa, .ref sk, .ref sv, .ref mt, .ref ml, .ref ad, .ref kw])), (st, .inr (7, [.ref b, .int sd, .int mv, .int gm, .ref la, .int w1, .int w2, .int dg, .int t1, .int t2, .int am])), (b, .inr (1, [.ref ca, .int kk, .int sg])), (ca, .inl (g.2.1, 49, .inl f))] := hD
  refine lv_i2l hx hb dL_timesSeen_6 rfl ?_
  obtain ⟨hi, hyp⟩ := grd_e hyp
  refine va_last hx hb hE.1 hP hD hS 0 1 rfl rfl (inB_vp hi) dL_timesSeen_7 (fun H locs hP hD hS => ?_)
  have hP : va_P g.1 vwCl [(ou, .inl (g.2.2.1, 1, .inr (.inl (vp_updL fo (0 : Int32).toNatClampNeg r_1.2.toInt64)))), (hg, .inr (8, [.ref st, .ref tr, .ref sa, .ref sk, .ref sv, .ref mt, .ref ml, .ref ad, .ref kw])), (st, .inr (7, [.ref b, .int sd, .int mv, .int gm, .ref la, .int w1, .int w2, .int dg, .int t1, .int t2, .int am])), (b, .inr (1, [.ref ca, .int kk, .int sg])), (ca, .inl (g.2.1, 49, .inl f))] H := hP
  have hD : va_D A [(ou, .inl (g.2.2.1, 1, .inr (.inl (vp_updL fo (0 : Int32).toNatClampNeg r_1.2.toInt64)))), (hg, .inr (8, [.ref st, .ref tr, .ref sa, .ref sk, .ref sv, .ref mt, .ref ml, .ref ad, .ref kw])), (st, .inr (7, [.ref b, .int sd, .int mv, .int gm, .ref la, .int w1, .int w2, .int dg, .int t1, .int t2, .int am])), (b, .inr (1, [.ref ca, .int kk, .int sg])), (ca, .inl (g.2.1, 49, .inl f))] := hD
  refine lv_goto (tgt := 14) hx hb dL_timesSeen_8 (by decide) ?_
  refine lv_iconst (v := 0) hx hb dL_timesSeen_14 (by decide) ?_
  have hP : va_P g.1 vwCl [(hg, .inr (8, [.ref st, .ref tr, .ref sa, .ref sk, .ref sv, .ref mt, .ref ml, .ref ad, .ref kw])), (st, .inr (7, [.ref b, .int sd, .int mv, .int gm, .ref la, .int w1, .int w2, .int dg, .int t1, .int t2, .int am])), (b, .inr (1, [.ref ca, .int kk, .int sg])), (ca, .inl (g.2.1, 49, .inl f)), (ou, .inl (g.2.2.1, 1, .inr (.inl (vp_updL fo (0 : Int32).toNatClampNeg r_1.2.toInt64))))] H := hP.sub [1, 2, 3, 4, 0] rfl
  have hD : va_D A [(hg, .inr (8, [.ref st, .ref tr, .ref sa, .ref sk, .ref sv, .ref mt, .ref ml, .ref ad, .ref kw])), (st, .inr (7, [.ref b, .int sd, .int mv, .int gm, .ref la, .int w1, .int w2, .int dg, .int t1, .int t2, .int am])), (b, .inr (1, [.ref ca, .int kk, .int sg])), (ca, .inl (g.2.1, 49, .inl f)), (ou, .inl (g.2.2.1, 1, .inr (.inl (vp_updL fo (0 : Int32).toNatClampNeg r_1.2.toInt64))))] := hD.sub [1, 2, 3, 4, 0] (by decide) rfl
  have hyp := some_e hyp
  subst hyp
  subst hQ
  exact xrI (na := s.heap.size) hx hb hr hlocks (Nat.le_refl _) hP hD hS (Nat.le_of_ble_eq_true rfl) (Nat.le_of_ble_eq_true rfl) dL_timesSeen_15

def fL_canMove (f : Nat → Int32) (fo : Nat → Int64) (a1 : Int32) (a2 : Int32) : Option (Int32 × (Nat → Int64)) :=
  (fX8_canMove f a1 a2).bind (fun (r_1 : Nat × Int32) => if r_1.1 = 0 then (jn (fun (t_4 : Int64) => grd (inB 0 1) (some (0, vp_updL fo (0 : Int32).toNatClampNeg t_4))) (fun J_5 => if r_1.2 = 0 then (J_5 0) else (J_5 1))) else (if r_1.1 = 1 then (some (1, fo)) else (none)))
set_option maxRecDepth 100000 in
set_option maxHeartbeats 4000000 in
theorem mL_canMove (l : Launch) (hl0 : l.stackTraces = false) (g : GE) (hg st b ca ou tr sa sk sv mt ml ad kw zc zp : Nat) (sd : Int32) (mv : Int32) (gm : Int32) (lt : Option Nat) (w1 : Int32) (w2 : Int32) (dg : Int32) (t1 : Int32) (t2 : Int32) (am : Int32) (kk : Int32) (sg : Int32) (f : Nat → Int32) (fo : Nat → Int64) (a1 : Int32) (a2 : Int32) (r : Int32 × (Nat → Int64)) (hyp : fL_canMove f fo a1 a2 = some r) : LM l yL_canMove cL_canMove 5 [(0, 17, 20, 13)] 8 133 1 6 g [(hg, .inr (8, [.ref st, .ref tr, .ref sa, .ref sk, .ref sv, .ref mt, .ref ml, .ref ad, .ref kw])), (st, .inr (7, [.ref b, .int sd, .int mv, .int gm, va_rf lt, .int w1, .int w2, .int dg, .int t1, .int t2, .int am])), (b, .inr (1, [.ref ca, .int kk, .int sg])), (ca, .inl (g.2.1, 49, .inl f)), (ou, .inl (g.2.2.1, 1, .inr (.inl fo)))] (OZ g zc zp [] none) [.ref hg, .int a1, .int a2, .ref ou] (some (.int r.1)) (fun na => [(hg, .inr (8, [.ref st, .ref tr, .ref sa, .ref sk, .ref sv, .ref mt, .ref ml, .ref ad, .ref kw])), (st, .inr (7, [.ref b, .int sd, .int mv, .int gm, va_rf lt, .int w1, .int w2, .int dg, .int t1, .int t2, .int am])), (b, .inr (1, [.ref ca, .int kk, .int sg])), (ca, .inl (g.2.1, 49, .inl f)), (ou, .inl (g.2.2.1, 1, .inr (.inl r.2)))]) := by
  refine metL_intro (by decide) rfl ?_
  intro p e R s m args below meth c Q A hRf hRl hRc hRs hQ hx hb hml hr hlocks htab hown hts hin hE hSR hNC hA hO H locs hP hD hS ls hl
  have hown : s.vm.findClass "HallGuardsLaw" = some m.cls := hown
  have hl : lv_has ls 5 [(0, .ref hg), (1, .int a1), (2, .int a2), (3, .ref ou)] := hl
  unfold fL_canMove at hyp
  refine lv_aload_n hx hb dL_canMove_0 rfl (lv_at hl 3 rfl) ?_
  refine lv_iconst (v := 0) hx hb dL_canMove_1 (by decide) ?_
  refine lv_aload_n hx hb dL_canMove_2 rfl (lv_at hl 0 rfl) ?_
  refine lv_iload_n hx hb dL_canMove_3 rfl (lv_at hl 1 rfl) ?_
  refine lv_iload_n hx hb dL_canMove_4 rfl (lv_at hl 2 rfl) ?_
  obtain ⟨r_1, hr_1, hyp⟩ := opt_e hyp
  refine xV (As := [.int a1, .int a2]) (rest := [.int 0, .ref ou]) ⟨hx, hb, hml, hown, hts⟩ hE hSR (mX8_canMove l hl0 g hg st b ca tr sa sk sv mt ml ad kw zc zp sd mv gm lt w1 w2 dg t1 t2 am kk sg f a1 a2 r_1 hr_1) (OZ_ok g zc zp _ _) hO cf_X8_canMove im_X8_canMove se_X8_canMove ml_L_63 ⟨Nat.le_trans (Nat.le_of_ble_eq_true rfl) hRf, Nat.le_trans (Nat.le_of_ble_eq_true rfl) hRl⟩ hP hD hS hA [0, 1, 2, 3] [4] rfl (wr := [(ou, .inl (g.2.2.1, 1, .inr (.inl fo)))]) rfl ⟨by decide, by decide⟩ (by decide) (ci := 8) (q0 := 0) rfl rfl rfl rfl hl.1 rfl (Nat.le_of_ble_eq_true rfl) dL_canMove_5 ⟨Nat.le_trans (Nat.le_of_ble_eq_true rfl) hRc, Nat.le_trans (Nat.le_of_ble_eq_true rfl) hRs⟩ (fun hk0 na_2 H locs hna_2 hP hD hS => ?_) (fun hk0 na9 q9 ce9 H locs hna9 hP hD hS hce hcv hcl => ?_)
  rotate_left 1
  · replace hyp := ite_f hk0 hyp
    have hP : va_P g.1 vwCl [(ou, .inl (g.2.2.1, 1, .inr (.inl fo))), (hg, .inr (8, [.ref st, .ref tr, .ref sa, .ref sk, .ref sv, .ref mt, .ref ml, .ref ad, .ref kw])), (st, .inr (7, [.ref b, .int sd, .int mv, .int gm, va_rf lt, .int w1, .int w2, .int dg, .int t1, .int t2, .int am])), (b, .inr (1, [.ref ca, .int kk, .int sg])), (ca, .inl (g.2.1, 49, .inl f))] H := hP
    have hD : va_D A [(ou, .inl (g.2.2.1, 1, .inr (.inl fo))), (hg, .inr (8, [.ref st, .ref tr, .ref sa, .ref sk, .ref sv, .ref mt, .ref ml, .ref ad, .ref kw])), (st, .inr (7, [.ref b, .int sd, .int mv, .int gm, va_rf lt, .int w1, .int w2, .int dg, .int t1, .int t2, .int am])), (b, .inr (1, [.ref ca, .int kk, .int sg])), (ca, .inl (g.2.1, 49, .inl f))] := hD
    have hP : va_P g.1 vwCl [(hg, .inr (8, [.ref st, .ref tr, .ref sa, .ref sk, .ref sv, .ref mt, .ref ml, .ref ad, .ref kw])), (st, .inr (7, [.ref b, .int sd, .int mv, .int gm, va_rf lt, .int w1, .int w2, .int dg, .int t1, .int t2, .int am])), (b, .inr (1, [.ref ca, .int kk, .int sg])), (ca, .inl (g.2.1, 49, .inl f)), (ou, .inl (g.2.2.1, 1, .inr (.inl fo)))] H := hP.sub [1, 2, 3, 4, 0] rfl
    have hD : va_D A [(hg, .inr (8, [.ref st, .ref tr, .ref sa, .ref sk, .ref sv, .ref mt, .ref ml, .ref ad, .ref kw])), (st, .inr (7, [.ref b, .int sd, .int mv, .int gm, va_rf lt, .int w1, .int w2, .int dg, .int t1, .int t2, .int am])), (b, .inr (1, [.ref ca, .int kk, .int sg])), (ca, .inl (g.2.1, 49, .inl f)), (ou, .inl (g.2.2.1, 1, .inr (.inl fo)))] := hD.sub [1, 2, 3, 4, 0] (by decide) rfl
    by_cases h_3 : r_1.1 = 1
    · replace hyp := ite_t h_3 hyp
      rw [h_3] at hcl
      refine catK 0 ⟨0, 17, 20, 13⟩ 1 htab rfl hown (fun z hz => nomatch hz) (by decide) (by decide) hts hSR cl_L_13 cast_1 hce hcv hcl ?_
      refine lv_astore (lv' := [(4, .ref q9), (0, .ref hg), (1, .int a1), (2, .int a2), (3, .ref ou)]) hx hb dL_canMove_20 hl (by decide) rfl (fun ls hl => ?_)
      refine lv_iconst (v := 1) hx hb dL_canMove_22 (by decide) ?_
      have hyp := some_e hyp
      subst hyp
      subst hQ
      exact xrI (na := s.heap.size) hx hb hr hlocks (Nat.le_refl _) hP hD hS (Nat.le_of_ble_eq_true rfl) (Nat.le_of_ble_eq_true rfl) dL_canMove_23
    · replace hyp := ite_f h_3 hyp
      cases hyp
  replace hyp := ite_t hk0 hyp
  have hP : va_P g.1 vwCl [(ou, .inl (g.2.2.1, 1, .inr (.inl fo))), (hg, .inr (8, [.ref st, .ref tr, .ref sa, .ref sk, .ref sv, .ref mt, .ref ml, .ref ad, .ref kw])), (st, .inr (7, [.ref b, .int sd, .int mv, .int gm, va_rf lt, .int w1, .int w2, .int dg, .int t1, .int t2, .int am])), (b, .inr (1, [.ref ca, .int kk, .int sg])), (ca, .inl (g.2.1, 49, .inl f))] H := hP
  have hD : va_D A [(ou, .inl (g.2.2.1, 1, .inr (.inl fo))), (hg, .inr (8, [.ref st, .ref tr, .ref sa, .ref sk, .ref sv, .ref mt, .ref ml, .ref ad, .ref kw])), (st, .inr (7, [.ref b, .int sd, .int mv, .int gm, va_rf lt, .int w1, .int w2, .int dg, .int t1, .int t2, .int am])), (b, .inr (1, [.ref ca, .int kk, .int sg])), (ca, .inl (g.2.1, 49, .inl f))] := hD
  have hP : va_P g.1 vwCl [(hg, .inr (8, [.ref st, .ref tr, .ref sa, .ref sk, .ref sv, .ref mt, .ref ml, .ref ad, .ref kw])), (st, .inr (7, [.ref b, .int sd, .int mv, .int gm, va_rf lt, .int w1, .int w2, .int dg, .int t1, .int t2, .int am])), (b, .inr (1, [.ref ca, .int kk, .int sg])), (ca, .inl (g.2.1, 49, .inl f)), (ou, .inl (g.2.2.1, 1, .inr (.inl fo)))] H := hP.sub [1, 2, 3, 4, 0] rfl
  have hD : va_D A [(hg, .inr (8, [.ref st, .ref tr, .ref sa, .ref sk, .ref sv, .ref mt, .ref ml, .ref ad, .ref kw])), (st, .inr (7, [.ref b, .int sd, .int mv, .int gm, va_rf lt, .int w1, .int w2, .int dg, .int t1, .int t2, .int am])), (b, .inr (1, [.ref ca, .int kk, .int sg])), (ca, .inl (g.2.1, 49, .inl f)), (ou, .inl (g.2.2.1, 1, .inr (.inl fo)))] := hD.sub [1, 2, 3, 4, 0] (by decide) rfl
  obtain ⟨J_5, eJ_5, hyp⟩ := jn_e hyp
  have kJ_5 : ∀ (t_4 : Int64) (H : Heap) (locs : List Loc) (ls : Array Slot), J_5 t_4 = some r → lv_has ls 5 [] → va_P g.1 vwCl [(hg, .inr (8, [.ref st, .ref tr, .ref sa, .ref sk, .ref sv, .ref mt, .ref ml, .ref ad, .ref kw])), (st, .inr (7, [.ref b, .int sd, .int mv, .int gm, va_rf lt, .int w1, .int w2, .int dg, .int t1, .int t2, .int am])), (b, .inr (1, [.ref ca, .int kk, .int sg])), (ca, .inl (g.2.1, 49, .inl f)), (ou, .inl (g.2.2.1, 1, .inr (.inl fo)))] H → va_D A [(hg, .inr (8, [.ref st, .ref tr, .ref sa, .ref sk, .ref sv, .ref mt, .ref ml, .ref ad, .ref kw])), (st, .inr (7, [.ref b, .int sd, .int mv, .int gm, va_rf lt, .int w1, .int w2, .int dg, .int t1, .int t2, .int am])), (b, .inr (1, [.ref ca, .int kk, .int sg])), (ca, .inl (g.2.1, 49, .inl f)), (ou, .inl (g.2.2.1, 1, .inr (.inl fo)))] → va_S A s.heap H locs → W p l e R s m args below meth c H locs 1 6 Q (F0 m 16 ls [.long t_4, .int 0, .ref ou]) := by
    intro t_4 H locs  ls hyp hl hP hD hS
    replace hyp := (congrFun (eJ_5) t_4).symm.trans hyp
    obtain ⟨hi, hyp⟩ := grd_e hyp
    refine va_last hx hb hE.1 hP hD hS 4 1 rfl rfl (inB_vp hi) dL_canMove_16 (fun H locs hP hD hS => ?_)
    have hP : va_P g.1 vwCl [(hg, .inr (8, [.ref st, .ref tr, .ref sa, .ref sk, .ref sv, .ref mt, .ref ml, .ref ad, .ref kw])), (st, .inr (7, [.ref b, .int sd, .int mv, .int gm, va_rf lt, .int w1, .int w2, .int dg, .int t1, .int t2, .int am])), (b, .inr (1, [.ref ca, .int kk, .int sg])), (ca, .inl (g.2.1, 49, .inl f)), (ou, .inl (g.2.2.1, 1, .inr (.inl (vp_updL fo (0 : Int32).toNatClampNeg t_4))))] H := hP
    have hD : va_D A [(hg, .inr (8, [.ref st, .ref tr, .ref sa, .ref sk, .ref sv, .ref mt, .ref ml, .ref ad, .ref kw])), (st, .inr (7, [.ref b, .int sd, .int mv, .int gm, va_rf lt, .int w1, .int w2, .int dg, .int t1, .int t2, .int am])), (b, .inr (1, [.ref ca, .int kk, .int sg])), (ca, .inl (g.2.1, 49, .inl f)), (ou, .inl (g.2.2.1, 1, .inr (.inl (vp_updL fo (0 : Int32).toNatClampNeg t_4))))] := hD
    refine lv_goto (tgt := 24) hx hb dL_canMove_17 (by decide) ?_
    refine lv_iconst (v := 0) hx hb dL_canMove_24 (by decide) ?_
    have hyp := some_e hyp
    subst hyp
    subst hQ
    exact xrI (na := s.heap.size) hx hb hr hlocks (Nat.le_refl _) hP hD hS (Nat.le_of_ble_eq_true rfl) (Nat.le_of_ble_eq_true rfl) dL_canMove_25
  refine lv_if_eq (tgt := 15) hx hb dL_canMove_8 (by decide) (fun h_6 => ?_) (fun h_6 => ?_)
  · replace hyp := ite_t h_6 hyp
    refine lv_lconst (v := 0) hx hb dL_canMove_15 (by decide) ?_
    exact kJ_5 0 H locs ls hyp (lv_sub hl [] rfl) hP hD hS
  · replace hyp := ite_f h_6 hyp
    refine lv_lconst (v := 1) hx hb dL_canMove_11 (by decide) ?_
    refine lv_goto (tgt := 16) hx hb dL_canMove_12 (by decide) ?_
    exact kJ_5 1 H locs ls hyp (lv_sub hl [] rfl) hP hD hS

def fL_reasonAgainst (f : Nat → Int32) (fo : Nat → Int64) (a1 : Int32) (a2 : Int32) : Option (Int32 × (Nat → Int64)) :=
  (fX8_reasonAgainst f a1 a2).bind (fun (r_1 : Nat × Int32) => if r_1.1 = 0 then (grd (inB 0 1) (some (0, vp_updL fo (0 : Int32).toNatClampNeg r_1.2.toInt64))) else (if r_1.1 = 1 then (some (1, fo)) else (none)))
set_option maxRecDepth 100000 in
set_option maxHeartbeats 4000000 in
theorem mL_reasonAgainst (l : Launch) (hl0 : l.stackTraces = false) (g : GE) (hg st b ca ou tr sa sk sv mt ml ad kw zc zp : Nat) (sd : Int32) (mv : Int32) (gm : Int32) (lt : Option Nat) (w1 : Int32) (w2 : Int32) (dg : Int32) (t1 : Int32) (t2 : Int32) (am : Int32) (kk : Int32) (sg : Int32) (f : Nat → Int32) (fo : Nat → Int64) (a1 : Int32) (a2 : Int32) (r : Int32 × (Nat → Int64)) (hyp : fL_reasonAgainst f fo a1 a2 = some r) : LM l yL_reasonAgainst cL_reasonAgainst 5 [(0, 10, 13, 13)] 8 133 1 6 g [(hg, .inr (8, [.ref st, .ref tr, .ref sa, .ref sk, .ref sv, .ref mt, .ref ml, .ref ad, .ref kw])), (st, .inr (7, [.ref b, .int sd, .int mv, .int gm, va_rf lt, .int w1, .int w2, .int dg, .int t1, .int t2, .int am])), (b, .inr (1, [.ref ca, .int kk, .int sg])), (ca, .inl (g.2.1, 49, .inl f)), (ou, .inl (g.2.2.1, 1, .inr (.inl fo)))] (OZ g zc zp [] none) [.ref hg, .int a1, .int a2, .ref ou] (some (.int r.1)) (fun na => [(hg, .inr (8, [.ref st, .ref tr, .ref sa, .ref sk, .ref sv, .ref mt, .ref ml, .ref ad, .ref kw])), (st, .inr (7, [.ref b, .int sd, .int mv, .int gm, va_rf lt, .int w1, .int w2, .int dg, .int t1, .int t2, .int am])), (b, .inr (1, [.ref ca, .int kk, .int sg])), (ca, .inl (g.2.1, 49, .inl f)), (ou, .inl (g.2.2.1, 1, .inr (.inl r.2)))]) := by
  refine metL_intro (by decide) rfl ?_
  intro p e R s m args below meth c Q A hRf hRl hRc hRs hQ hx hb hml hr hlocks htab hown hts hin hE hSR hNC hA hO H locs hP hD hS ls hl
  have hown : s.vm.findClass "HallGuardsLaw" = some m.cls := hown
  have hl : lv_has ls 5 [(0, .ref hg), (1, .int a1), (2, .int a2), (3, .ref ou)] := hl
  unfold fL_reasonAgainst at hyp
  refine lv_aload_n hx hb dL_reasonAgainst_0 rfl (lv_at hl 3 rfl) ?_
  refine lv_iconst (v := 0) hx hb dL_reasonAgainst_1 (by decide) ?_
  refine lv_aload_n hx hb dL_reasonAgainst_2 rfl (lv_at hl 0 rfl) ?_
  refine lv_iload_n hx hb dL_reasonAgainst_3 rfl (lv_at hl 1 rfl) ?_
  refine lv_iload_n hx hb dL_reasonAgainst_4 rfl (lv_at hl 2 rfl) ?_
  obtain ⟨r_1, hr_1, hyp⟩ := opt_e hyp
  refine xV (As := [.int a1, .int a2]) (rest := [.int 0, .ref ou]) ⟨hx, hb, hml, hown, hts⟩ hE hSR (mX8_reasonAgainst l hl0 g hg st b ca tr sa sk sv mt ml ad kw zc zp sd mv gm lt w1 w2 dg t1 t2 am kk sg f a1 a2 r_1 hr_1) (OZ_ok g zc zp _ _) hO cf_X8_reasonAgainst im_X8_reasonAgainst se_X8_reasonAgainst ml_L_67 ⟨Nat.le_trans (Nat.le_of_ble_eq_true rfl) hRf, Nat.le_trans (Nat.le_of_ble_eq_true rfl) hRl⟩ hP hD hS hA [0, 1, 2, 3] [4] rfl (wr := [(ou, .inl (g.2.2.1, 1, .inr (.inl fo)))]) rfl ⟨by decide, by decide⟩ (by decide) (ci := 8) (q0 := 0) rfl rfl rfl rfl hl.1 rfl (Nat.le_of_ble_eq_true rfl) dL_reasonAgainst_5 ⟨Nat.le_trans (Nat.le_of_ble_eq_true rfl) hRc, Nat.le_trans (Nat.le_of_ble_eq_true rfl) hRs⟩ (fun hk0 na_2 H locs hna_2 hP hD hS => ?_) (fun hk0 na9 q9 ce9 H locs hna9 hP hD hS hce hcv hcl => ?_)
  rotate_left 1
  · replace hyp := ite_f hk0 hyp
    have hP : va_P g.1 vwCl [(ou, .inl (g.2.2.1, 1, .inr (.inl fo))), (hg, .inr (8, [.ref st, .ref tr, .ref sa, .ref sk, .ref sv, .ref mt, .ref ml, .ref ad, .ref kw])), (st, .inr (7, [.ref b, .int sd, .int mv, .int gm, va_rf lt, .int w1, .int w2, .int dg, .int t1, .int t2, .int am])), (b, .inr (1, [.ref ca, .int kk, .int sg])), (ca, .inl (g.2.1, 49, .inl f))] H := hP
    have hD : va_D A [(ou, .inl (g.2.2.1, 1, .inr (.inl fo))), (hg, .inr (8, [.ref st, .ref tr, .ref sa, .ref sk, .ref sv, .ref mt, .ref ml, .ref ad, .ref kw])), (st, .inr (7, [.ref b, .int sd, .int mv, .int gm, va_rf lt, .int w1, .int w2, .int dg, .int t1, .int t2, .int am])), (b, .inr (1, [.ref ca, .int kk, .int sg])), (ca, .inl (g.2.1, 49, .inl f))] := hD
    have hP : va_P g.1 vwCl [(hg, .inr (8, [.ref st, .ref tr, .ref sa, .ref sk, .ref sv, .ref mt, .ref ml, .ref ad, .ref kw])), (st, .inr (7, [.ref b, .int sd, .int mv, .int gm, va_rf lt, .int w1, .int w2, .int dg, .int t1, .int t2, .int am])), (b, .inr (1, [.ref ca, .int kk, .int sg])), (ca, .inl (g.2.1, 49, .inl f)), (ou, .inl (g.2.2.1, 1, .inr (.inl fo)))] H := hP.sub [1, 2, 3, 4, 0] rfl
    have hD : va_D A [(hg, .inr (8, [.ref st, .ref tr, .ref sa, .ref sk, .ref sv, .ref mt, .ref ml, .ref ad, .ref kw])), (st, .inr (7, [.ref b, .int sd, .int mv, .int gm, va_rf lt, .int w1, .int w2, .int dg, .int t1, .int t2, .int am])), (b, .inr (1, [.ref ca, .int kk, .int sg])), (ca, .inl (g.2.1, 49, .inl f)), (ou, .inl (g.2.2.1, 1, .inr (.inl fo)))] := hD.sub [1, 2, 3, 4, 0] (by decide) rfl
    by_cases h_3 : r_1.1 = 1
    · replace hyp := ite_t h_3 hyp
      rw [h_3] at hcl
      refine catK 0 ⟨0, 10, 13, 13⟩ 1 htab rfl hown (fun z hz => nomatch hz) (by decide) (by decide) hts hSR cl_L_13 cast_1 hce hcv hcl ?_
      refine lv_astore (lv' := [(4, .ref q9), (0, .ref hg), (1, .int a1), (2, .int a2), (3, .ref ou)]) hx hb dL_reasonAgainst_13 hl (by decide) rfl (fun ls hl => ?_)
      refine lv_iconst (v := 1) hx hb dL_reasonAgainst_15 (by decide) ?_
      have hyp := some_e hyp
      subst hyp
      subst hQ
      exact xrI (na := s.heap.size) hx hb hr hlocks (Nat.le_refl _) hP hD hS (Nat.le_of_ble_eq_true rfl) (Nat.le_of_ble_eq_true rfl) dL_reasonAgainst_16
    · replace hyp := ite_f h_3 hyp
      cases hyp
  replace hyp := ite_t hk0 hyp
  have hP : va_P g.1 vwCl [(ou, .inl (g.2.2.1, 1, .inr (.inl fo))), (hg, .inr (8, [.ref st, .ref tr, .ref sa, .ref sk, .ref sv, .ref mt, .ref ml, .ref ad, .ref kw])), (st, .inr (7, [.ref b, .int sd, .int mv, .int gm, va_rf lt, .int w1, .int w2, .int dg, .int t1, .int t2, .int am])), (b, .inr (1, [.ref ca, .int kk, .int sg])), (ca, .inl (g.2.1, 49, .inl f))] H := hP
  have hD : va_D A [(ou, .inl (g.2.2.1, 1, .inr (.inl fo))), (hg, .inr (8, [.ref st, .ref tr, .ref sa, .ref sk, .ref sv, .ref mt, .ref ml, .ref ad, .ref kw])), (st, .inr (7, [.ref b, .int sd, .int mv, .int gm, va_rf lt, .int w1, .int w2, .int dg, .int t1, .int t2, .int am])), (b, .inr (1, [.ref ca, .int kk, .int sg])), (ca, .inl (g.2.1, 49, .inl f))] := hD
  refine lv_i2l hx hb dL_reasonAgainst_8 rfl ?_
  obtain ⟨hi, hyp⟩ := grd_e hyp
  refine va_last hx hb hE.1 hP hD hS 0 1 rfl rfl (inB_vp hi) dL_reasonAgainst_9 (fun H locs hP hD hS => ?_)
  have hP : va_P g.1 vwCl [(ou, .inl (g.2.2.1, 1, .inr (.inl (vp_updL fo (0 : Int32).toNatClampNeg r_1.2.toInt64)))), (hg, .inr (8, [.ref st, .ref tr, .ref sa, .ref sk, .ref sv, .ref mt, .ref ml, .ref ad, .ref kw])), (st, .inr (7, [.ref b, .int sd, .int mv, .int gm, va_rf lt, .int w1, .int w2, .int dg, .int t1, .int t2, .int am])), (b, .inr (1, [.ref ca, .int kk, .int sg])), (ca, .inl (g.2.1, 49, .inl f))] H := hP
  have hD : va_D A [(ou, .inl (g.2.2.1, 1, .inr (.inl (vp_updL fo (0 : Int32).toNatClampNeg r_1.2.toInt64)))), (hg, .inr (8, [.ref st, .ref tr, .ref sa, .ref sk, .ref sv, .ref mt, .ref ml, .ref ad, .ref kw])), (st, .inr (7, [.ref b, .int sd, .int mv, .int gm, va_rf lt, .int w1, .int w2, .int dg, .int t1, .int t2, .int am])), (b, .inr (1, [.ref ca, .int kk, .int sg])), (ca, .inl (g.2.1, 49, .inl f))] := hD
  refine lv_goto (tgt := 17) hx hb dL_reasonAgainst_10 (by decide) ?_
  refine lv_iconst (v := 0) hx hb dL_reasonAgainst_17 (by decide) ?_
  have hP : va_P g.1 vwCl [(hg, .inr (8, [.ref st, .ref tr, .ref sa, .ref sk, .ref sv, .ref mt, .ref ml, .ref ad, .ref kw])), (st, .inr (7, [.ref b, .int sd, .int mv, .int gm, va_rf lt, .int w1, .int w2, .int dg, .int t1, .int t2, .int am])), (b, .inr (1, [.ref ca, .int kk, .int sg])), (ca, .inl (g.2.1, 49, .inl f)), (ou, .inl (g.2.2.1, 1, .inr (.inl (vp_updL fo (0 : Int32).toNatClampNeg r_1.2.toInt64))))] H := hP.sub [1, 2, 3, 4, 0] rfl
  have hD : va_D A [(hg, .inr (8, [.ref st, .ref tr, .ref sa, .ref sk, .ref sv, .ref mt, .ref ml, .ref ad, .ref kw])), (st, .inr (7, [.ref b, .int sd, .int mv, .int gm, va_rf lt, .int w1, .int w2, .int dg, .int t1, .int t2, .int am])), (b, .inr (1, [.ref ca, .int kk, .int sg])), (ca, .inl (g.2.1, 49, .inl f)), (ou, .inl (g.2.2.1, 1, .inr (.inl (vp_updL fo (0 : Int32).toNatClampNeg r_1.2.toInt64))))] := hD.sub [1, 2, 3, 4, 0] (by decide) rfl
  have hyp := some_e hyp
  subst hyp
  subst hQ
  exact xrI (na := s.heap.size) hx hb hr hlocks (Nat.le_refl _) hP hD hS (Nat.le_of_ble_eq_true rfl) (Nat.le_of_ble_eq_true rfl) dL_reasonAgainst_18

def fL_movesFrom (f : Nat → Int32) (fo : Nat → Int64) (a1 : Int32) (a2 : Int32) : Option (Int32 × (Nat → Int64)) :=
  (fX8_movesFrom f a1 a2).bind (fun (r_1 : Nat × Int32) => if r_1.1 = 0 then (grd (inB 0 1) (some (0, vp_updL fo (0 : Int32).toNatClampNeg r_1.2.toInt64))) else (if r_1.1 = 1 then (some (1, fo)) else (none)))
set_option maxRecDepth 100000 in
set_option maxHeartbeats 4000000 in
theorem mL_movesFrom (l : Launch) (hl0 : l.stackTraces = false) (g : GE) (hg st b ca ou tr sa sk sv mt ml ad kw zc zp : Nat) (sd : Int32) (mv : Int32) (gm : Int32) (lt : Option Nat) (w1 : Int32) (w2 : Int32) (dg : Int32) (t1 : Int32) (t2 : Int32) (am : Int32) (kk : Int32) (sg : Int32) (f : Nat → Int32) (fo : Nat → Int64) (a1 : Int32) (a2 : Int32) (r : Int32 × (Nat → Int64)) (hyp : fL_movesFrom f fo a1 a2 = some r) : LM l yL_movesFrom cL_movesFrom 5 [(0, 10, 13, 13)] 8 133 1 6 g [(hg, .inr (8, [.ref st, .ref tr, .ref sa, .ref sk, .ref sv, .ref mt, .ref ml, .ref ad, .ref kw])), (st, .inr (7, [.ref b, .int sd, .int mv, .int gm, va_rf lt, .int w1, .int w2, .int dg, .int t1, .int t2, .int am])), (b, .inr (1, [.ref ca, .int kk, .int sg])), (ca, .inl (g.2.1, 49, .inl f)), (ou, .inl (g.2.2.1, 1, .inr (.inl fo)))] (OZ g zc zp [] none) [.ref hg, .int a1, .int a2, .ref ou] (some (.int r.1)) (fun na => [(hg, .inr (8, [.ref st, .ref tr, .ref sa, .ref sk, .ref sv, .ref mt, .ref ml, .ref ad, .ref kw])), (st, .inr (7, [.ref b, .int sd, .int mv, .int gm, va_rf lt, .int w1, .int w2, .int dg, .int t1, .int t2, .int am])), (b, .inr (1, [.ref ca, .int kk, .int sg])), (ca, .inl (g.2.1, 49, .inl f)), (ou, .inl (g.2.2.1, 1, .inr (.inl r.2)))]) := by
  refine metL_intro (by decide) rfl ?_
  intro p e R s m args below meth c Q A hRf hRl hRc hRs hQ hx hb hml hr hlocks htab hown hts hin hE hSR hNC hA hO H locs hP hD hS ls hl
  have hown : s.vm.findClass "HallGuardsLaw" = some m.cls := hown
  have hl : lv_has ls 5 [(0, .ref hg), (1, .int a1), (2, .int a2), (3, .ref ou)] := hl
  unfold fL_movesFrom at hyp
  refine lv_aload_n hx hb dL_movesFrom_0 rfl (lv_at hl 3 rfl) ?_
  refine lv_iconst (v := 0) hx hb dL_movesFrom_1 (by decide) ?_
  refine lv_aload_n hx hb dL_movesFrom_2 rfl (lv_at hl 0 rfl) ?_
  refine lv_iload_n hx hb dL_movesFrom_3 rfl (lv_at hl 1 rfl) ?_
  refine lv_iload_n hx hb dL_movesFrom_4 rfl (lv_at hl 2 rfl) ?_
  obtain ⟨r_1, hr_1, hyp⟩ := opt_e hyp
  refine xV (As := [.int a1, .int a2]) (rest := [.int 0, .ref ou]) ⟨hx, hb, hml, hown, hts⟩ hE hSR (mX8_movesFrom l hl0 g hg st b ca tr sa sk sv mt ml ad kw zc zp sd mv gm lt w1 w2 dg t1 t2 am kk sg f a1 a2 r_1 hr_1) (OZ_ok g zc zp _ _) hO cf_X8_movesFrom im_X8_movesFrom se_X8_movesFrom ml_L_70 ⟨Nat.le_trans (Nat.le_of_ble_eq_true rfl) hRf, Nat.le_trans (Nat.le_of_ble_eq_true rfl) hRl⟩ hP hD hS hA [0, 1, 2, 3] [4] rfl (wr := [(ou, .inl (g.2.2.1, 1, .inr (.inl fo)))]) rfl ⟨by decide, by decide⟩ (by decide) (ci := 8) (q0 := 0) rfl rfl rfl rfl hl.1 rfl (Nat.le_of_ble_eq_true rfl) dL_movesFrom_5 ⟨Nat.le_trans (Nat.le_of_ble_eq_true rfl) hRc, Nat.le_trans (Nat.le_of_ble_eq_true rfl) hRs⟩ (fun hk0 na_2 H locs hna_2 hP hD hS => ?_) (fun hk0 na9 q9 ce9 H locs hna9 hP hD hS hce hcv hcl => ?_)
  rotate_left 1
  · replace hyp := ite_f hk0 hyp
    have hP : va_P g.1 vwCl [(ou, .inl (g.2.2.1, 1, .inr (.inl fo))), (hg, .inr (8, [.ref st, .ref tr, .ref sa, .ref sk, .ref sv, .ref mt, .ref ml, .ref ad, .ref kw])), (st, .inr (7, [.ref b, .int sd, .int mv, .int gm, va_rf lt, .int w1, .int w2, .int dg, .int t1, .int t2, .int am])), (b, .inr (1, [.ref ca, .int kk, .int sg])), (ca, .inl (g.2.1, 49, .inl f))] H := hP
    have hD : va_D A [(ou, .inl (g.2.2.1, 1, .inr (.inl fo))), (hg, .inr (8, [.ref st, .ref tr, .ref sa, .ref sk, .ref sv, .ref mt, .ref ml, .ref ad, .ref kw])), (st, .inr (7, [.ref b, .int sd, .int mv, .int gm, va_rf lt, .int w1, .int w2, .int dg, .int t1, .int t2, .int am])), (b, .inr (1, [.ref ca, .int kk, .int sg])), (ca, .inl (g.2.1, 49, .inl f))] := hD
    have hP : va_P g.1 vwCl [(hg, .inr (8, [.ref st, .ref tr, .ref sa, .ref sk, .ref sv, .ref mt, .ref ml, .ref ad, .ref kw])), (st, .inr (7, [.ref b, .int sd, .int mv, .int gm, va_rf lt, .int w1, .int w2, .int dg, .int t1, .int t2, .int am])), (b, .inr (1, [.ref ca, .int kk, .int sg])), (ca, .inl (g.2.1, 49, .inl f)), (ou, .inl (g.2.2.1, 1, .inr (.inl fo)))] H := hP.sub [1, 2, 3, 4, 0] rfl
    have hD : va_D A [(hg, .inr (8, [.ref st, .ref tr, .ref sa, .ref sk, .ref sv, .ref mt, .ref ml, .ref ad, .ref kw])), (st, .inr (7, [.ref b, .int sd, .int mv, .int gm, va_rf lt, .int w1, .int w2, .int dg, .int t1, .int t2, .int am])), (b, .inr (1, [.ref ca, .int kk, .int sg])), (ca, .inl (g.2.1, 49, .inl f)), (ou, .inl (g.2.2.1, 1, .inr (.inl fo)))] := hD.sub [1, 2, 3, 4, 0] (by decide) rfl
    by_cases h_3 : r_1.1 = 1
    · replace hyp := ite_t h_3 hyp
      rw [h_3] at hcl
      refine catK 0 ⟨0, 10, 13, 13⟩ 1 htab rfl hown (fun z hz => nomatch hz) (by decide) (by decide) hts hSR cl_L_13 cast_1 hce hcv hcl ?_
      refine lv_astore (lv' := [(4, .ref q9), (0, .ref hg), (1, .int a1), (2, .int a2), (3, .ref ou)]) hx hb dL_movesFrom_13 hl (by decide) rfl (fun ls hl => ?_)
      refine lv_iconst (v := 1) hx hb dL_movesFrom_15 (by decide) ?_
      have hyp := some_e hyp
      subst hyp
      subst hQ
      exact xrI (na := s.heap.size) hx hb hr hlocks (Nat.le_refl _) hP hD hS (Nat.le_of_ble_eq_true rfl) (Nat.le_of_ble_eq_true rfl) dL_movesFrom_16
    · replace hyp := ite_f h_3 hyp
      cases hyp
  replace hyp := ite_t hk0 hyp
  have hP : va_P g.1 vwCl [(ou, .inl (g.2.2.1, 1, .inr (.inl fo))), (hg, .inr (8, [.ref st, .ref tr, .ref sa, .ref sk, .ref sv, .ref mt, .ref ml, .ref ad, .ref kw])), (st, .inr (7, [.ref b, .int sd, .int mv, .int gm, va_rf lt, .int w1, .int w2, .int dg, .int t1, .int t2, .int am])), (b, .inr (1, [.ref ca, .int kk, .int sg])), (ca, .inl (g.2.1, 49, .inl f))] H := hP
  have hD : va_D A [(ou, .inl (g.2.2.1, 1, .inr (.inl fo))), (hg, .inr (8, [.ref st, .ref tr, .ref sa, .ref sk, .ref sv, .ref mt, .ref ml, .ref ad, .ref kw])), (st, .inr (7, [.ref b, .int sd, .int mv, .int gm, va_rf lt, .int w1, .int w2, .int dg, .int t1, .int t2, .int am])), (b, .inr (1, [.ref ca, .int kk, .int sg])), (ca, .inl (g.2.1, 49, .inl f))] := hD
  refine lv_i2l hx hb dL_movesFrom_8 rfl ?_
  obtain ⟨hi, hyp⟩ := grd_e hyp
  refine va_last hx hb hE.1 hP hD hS 0 1 rfl rfl (inB_vp hi) dL_movesFrom_9 (fun H locs hP hD hS => ?_)
  have hP : va_P g.1 vwCl [(ou, .inl (g.2.2.1, 1, .inr (.inl (vp_updL fo (0 : Int32).toNatClampNeg r_1.2.toInt64)))), (hg, .inr (8, [.ref st, .ref tr, .ref sa, .ref sk, .ref sv, .ref mt, .ref ml, .ref ad, .ref kw])), (st, .inr (7, [.ref b, .int sd, .int mv, .int gm, va_rf lt, .int w1, .int w2, .int dg, .int t1, .int t2, .int am])), (b, .inr (1, [.ref ca, .int kk, .int sg])), (ca, .inl (g.2.1, 49, .inl f))] H := hP
  have hD : va_D A [(ou, .inl (g.2.2.1, 1, .inr (.inl (vp_updL fo (0 : Int32).toNatClampNeg r_1.2.toInt64)))), (hg, .inr (8, [.ref st, .ref tr, .ref sa, .ref sk, .ref sv, .ref mt, .ref ml, .ref ad, .ref kw])), (st, .inr (7, [.ref b, .int sd, .int mv, .int gm, va_rf lt, .int w1, .int w2, .int dg, .int t1, .int t2, .int am])), (b, .inr (1, [.ref ca, .int kk, .int sg])), (ca, .inl (g.2.1, 49, .inl f))] := hD
  refine lv_goto (tgt := 17) hx hb dL_movesFrom_10 (by decide) ?_
  refine lv_iconst (v := 0) hx hb dL_movesFrom_17 (by decide) ?_
  have hP : va_P g.1 vwCl [(hg, .inr (8, [.ref st, .ref tr, .ref sa, .ref sk, .ref sv, .ref mt, .ref ml, .ref ad, .ref kw])), (st, .inr (7, [.ref b, .int sd, .int mv, .int gm, va_rf lt, .int w1, .int w2, .int dg, .int t1, .int t2, .int am])), (b, .inr (1, [.ref ca, .int kk, .int sg])), (ca, .inl (g.2.1, 49, .inl f)), (ou, .inl (g.2.2.1, 1, .inr (.inl (vp_updL fo (0 : Int32).toNatClampNeg r_1.2.toInt64))))] H := hP.sub [1, 2, 3, 4, 0] rfl
  have hD : va_D A [(hg, .inr (8, [.ref st, .ref tr, .ref sa, .ref sk, .ref sv, .ref mt, .ref ml, .ref ad, .ref kw])), (st, .inr (7, [.ref b, .int sd, .int mv, .int gm, va_rf lt, .int w1, .int w2, .int dg, .int t1, .int t2, .int am])), (b, .inr (1, [.ref ca, .int kk, .int sg])), (ca, .inl (g.2.1, 49, .inl f)), (ou, .inl (g.2.2.1, 1, .inr (.inl (vp_updL fo (0 : Int32).toNatClampNeg r_1.2.toInt64))))] := hD.sub [1, 2, 3, 4, 0] (by decide) rfl
  have hyp := some_e hyp
  subst hyp
  subst hQ
  exact xrI (na := s.heap.size) hx hb hr hlocks (Nat.le_refl _) hP hD hS (Nat.le_of_ble_eq_true rfl) (Nat.le_of_ble_eq_true rfl) dL_movesFrom_18

def fL_movesByPieces (f : Nat → Int32) (fo : Nat → Int64) (a1 : Int32) : Option (Int32 × (Nat → Int64)) :=
  (fX8_movesByPieces f a1).bind (fun (r_1 : Nat × Int32) => if r_1.1 = 0 then (grd (inB 0 1) (some (0, vp_updL fo (0 : Int32).toNatClampNeg r_1.2.toInt64))) else (if r_1.1 = 1 then (some (1, fo)) else (none)))
set_option maxRecDepth 100000 in
set_option maxHeartbeats 4000000 in
theorem mL_movesByPieces (l : Launch) (hl0 : l.stackTraces = false) (g : GE) (hg st b ca ou tr sa sk sv mt ml ad kw zc zp : Nat) (sd : Int32) (mv : Int32) (gm : Int32) (lt : Option Nat) (w1 : Int32) (w2 : Int32) (dg : Int32) (t1 : Int32) (t2 : Int32) (am : Int32) (kk : Int32) (sg : Int32) (f : Nat → Int32) (fo : Nat → Int64) (a1 : Int32) (r : Int32 × (Nat → Int64)) (hyp : fL_movesByPieces f fo a1 = some r) : LM l yL_movesByPieces cL_movesByPieces 4 [(0, 9, 12, 13)] 8 131 1 6 g [(hg, .inr (8, [.ref st, .ref tr, .ref sa, .ref sk, .ref sv, .ref mt, .ref ml, .ref ad, .ref kw])), (st, .inr (7, [.ref b, .int sd, .int mv, .int gm, va_rf lt, .int w1, .int w2, .int dg, .int t1, .int t2, .int am])), (b, .inr (1, [.ref ca, .int kk, .int sg])), (ca, .inl (g.2.1, 49, .inl f)), (ou, .inl (g.2.2.1, 1, .inr (.inl fo)))] (OZ g zc zp [] none) [.ref hg, .int a1, .ref ou] (some (.int r.1)) (fun na => [(hg, .inr (8, [.ref st, .ref tr, .ref sa, .ref sk, .ref sv, .ref mt, .ref ml, .ref ad, .ref kw])), (st, .inr (7, [.ref b, .int sd, .int mv, .int gm, va_rf lt, .int w1, .int w2, .int dg, .int t1, .int t2, .int am])), (b, .inr (1, [.ref ca, .int kk, .int sg])), (ca, .inl (g.2.1, 49, .inl f)), (ou, .inl (g.2.2.1, 1, .inr (.inl r.2)))]) := by
  refine metL_intro (by decide) rfl ?_
  intro p e R s m args below meth c Q A hRf hRl hRc hRs hQ hx hb hml hr hlocks htab hown hts hin hE hSR hNC hA hO H locs hP hD hS ls hl
  have hown : s.vm.findClass "HallGuardsLaw" = some m.cls := hown
  have hl : lv_has ls 4 [(0, .ref hg), (1, .int a1), (2, .ref ou)] := hl
  unfold fL_movesByPieces at hyp
  refine lv_aload_n hx hb dL_movesByPieces_0 rfl (lv_at hl 2 rfl) ?_
  refine lv_iconst (v := 0) hx hb dL_movesByPieces_1 (by decide) ?_
  refine lv_aload_n hx hb dL_movesByPieces_2 rfl (lv_at hl 0 rfl) ?_
  refine lv_iload_n hx hb dL_movesByPieces_3 rfl (lv_at hl 1 rfl) ?_
  obtain ⟨r_1, hr_1, hyp⟩ := opt_e hyp
  refine xV (As := [.int a1]) (rest := [.int 0, .ref ou]) ⟨hx, hb, hml, hown, hts⟩ hE hSR (mX8_movesByPieces l hl0 g hg st b ca tr sa sk sv mt ml ad kw zc zp sd mv gm lt w1 w2 dg t1 t2 am kk sg f a1 r_1 hr_1) (OZ_ok g zc zp _ _) hO cf_X8_movesByPieces im_X8_movesByPieces se_X8_movesByPieces ml_L_73 ⟨Nat.le_trans (Nat.le_of_ble_eq_true rfl) hRf, Nat.le_trans (Nat.le_of_ble_eq_true rfl) hRl⟩ hP hD hS hA [0, 1, 2, 3] [4] rfl (wr := [(ou, .inl (g.2.2.1, 1, .inr (.inl fo)))]) rfl ⟨by decide, by decide⟩ (by decide) (ci := 8) (q0 := 0) rfl rfl rfl rfl hl.1 rfl (Nat.le_of_ble_eq_true rfl) dL_movesByPieces_4 ⟨Nat.le_trans (Nat.le_of_ble_eq_true rfl) hRc, Nat.le_trans (Nat.le_of_ble_eq_true rfl) hRs⟩ (fun hk0 na_2 H locs hna_2 hP hD hS => ?_) (fun hk0 na9 q9 ce9 H locs hna9 hP hD hS hce hcv hcl => ?_)
  rotate_left 1
  · replace hyp := ite_f hk0 hyp
    have hP : va_P g.1 vwCl [(ou, .inl (g.2.2.1, 1, .inr (.inl fo))), (hg, .inr (8, [.ref st, .ref tr, .ref sa, .ref sk, .ref sv, .ref mt, .ref ml, .ref ad, .ref kw])), (st, .inr (7, [.ref b, .int sd, .int mv, .int gm, va_rf lt, .int w1, .int w2, .int dg, .int t1, .int t2, .int am])), (b, .inr (1, [.ref ca, .int kk, .int sg])), (ca, .inl (g.2.1, 49, .inl f))] H := hP
    have hD : va_D A [(ou, .inl (g.2.2.1, 1, .inr (.inl fo))), (hg, .inr (8, [.ref st, .ref tr, .ref sa, .ref sk, .ref sv, .ref mt, .ref ml, .ref ad, .ref kw])), (st, .inr (7, [.ref b, .int sd, .int mv, .int gm, va_rf lt, .int w1, .int w2, .int dg, .int t1, .int t2, .int am])), (b, .inr (1, [.ref ca, .int kk, .int sg])), (ca, .inl (g.2.1, 49, .inl f))] := hD
    have hP : va_P g.1 vwCl [(hg, .inr (8, [.ref st, .ref tr, .ref sa, .ref sk, .ref sv, .ref mt, .ref ml, .ref ad, .ref kw])), (st, .inr (7, [.ref b, .int sd, .int mv, .int gm, va_rf lt, .int w1, .int w2, .int dg, .int t1, .int t2, .int am])), (b, .inr (1, [.ref ca, .int kk, .int sg])), (ca, .inl (g.2.1, 49, .inl f)), (ou, .inl (g.2.2.1, 1, .inr (.inl fo)))] H := hP.sub [1, 2, 3, 4, 0] rfl
    have hD : va_D A [(hg, .inr (8, [.ref st, .ref tr, .ref sa, .ref sk, .ref sv, .ref mt, .ref ml, .ref ad, .ref kw])), (st, .inr (7, [.ref b, .int sd, .int mv, .int gm, va_rf lt, .int w1, .int w2, .int dg, .int t1, .int t2, .int am])), (b, .inr (1, [.ref ca, .int kk, .int sg])), (ca, .inl (g.2.1, 49, .inl f)), (ou, .inl (g.2.2.1, 1, .inr (.inl fo)))] := hD.sub [1, 2, 3, 4, 0] (by decide) rfl
    by_cases h_3 : r_1.1 = 1
    · replace hyp := ite_t h_3 hyp
      rw [h_3] at hcl
      refine catK 0 ⟨0, 9, 12, 13⟩ 1 htab rfl hown (fun z hz => nomatch hz) (by decide) (by decide) hts hSR cl_L_13 cast_1 hce hcv hcl ?_
      refine lv_astore_n (lv' := [(3, .ref q9), (0, .ref hg), (1, .int a1), (2, .ref ou)]) hx hb dL_movesByPieces_12 rfl hl (by decide) rfl (fun ls hl => ?_)
      refine lv_iconst (v := 1) hx hb dL_movesByPieces_13 (by decide) ?_
      have hyp := some_e hyp
      subst hyp
      subst hQ
      exact xrI (na := s.heap.size) hx hb hr hlocks (Nat.le_refl _) hP hD hS (Nat.le_of_ble_eq_true rfl) (Nat.le_of_ble_eq_true rfl) dL_movesByPieces_14
    · replace hyp := ite_f h_3 hyp
      cases hyp
  replace hyp := ite_t hk0 hyp
  have hP : va_P g.1 vwCl [(ou, .inl (g.2.2.1, 1, .inr (.inl fo))), (hg, .inr (8, [.ref st, .ref tr, .ref sa, .ref sk, .ref sv, .ref mt, .ref ml, .ref ad, .ref kw])), (st, .inr (7, [.ref b, .int sd, .int mv, .int gm, va_rf lt, .int w1, .int w2, .int dg, .int t1, .int t2, .int am])), (b, .inr (1, [.ref ca, .int kk, .int sg])), (ca, .inl (g.2.1, 49, .inl f))] H := hP
  have hD : va_D A [(ou, .inl (g.2.2.1, 1, .inr (.inl fo))), (hg, .inr (8, [.ref st, .ref tr, .ref sa, .ref sk, .ref sv, .ref mt, .ref ml, .ref ad, .ref kw])), (st, .inr (7, [.ref b, .int sd, .int mv, .int gm, va_rf lt, .int w1, .int w2, .int dg, .int t1, .int t2, .int am])), (b, .inr (1, [.ref ca, .int kk, .int sg])), (ca, .inl (g.2.1, 49, .inl f))] := hD
  refine lv_i2l hx hb dL_movesByPieces_7 rfl ?_
  obtain ⟨hi, hyp⟩ := grd_e hyp
  refine va_last hx hb hE.1 hP hD hS 0 1 rfl rfl (inB_vp hi) dL_movesByPieces_8 (fun H locs hP hD hS => ?_)
  have hP : va_P g.1 vwCl [(ou, .inl (g.2.2.1, 1, .inr (.inl (vp_updL fo (0 : Int32).toNatClampNeg r_1.2.toInt64)))), (hg, .inr (8, [.ref st, .ref tr, .ref sa, .ref sk, .ref sv, .ref mt, .ref ml, .ref ad, .ref kw])), (st, .inr (7, [.ref b, .int sd, .int mv, .int gm, va_rf lt, .int w1, .int w2, .int dg, .int t1, .int t2, .int am])), (b, .inr (1, [.ref ca, .int kk, .int sg])), (ca, .inl (g.2.1, 49, .inl f))] H := hP
  have hD : va_D A [(ou, .inl (g.2.2.1, 1, .inr (.inl (vp_updL fo (0 : Int32).toNatClampNeg r_1.2.toInt64)))), (hg, .inr (8, [.ref st, .ref tr, .ref sa, .ref sk, .ref sv, .ref mt, .ref ml, .ref ad, .ref kw])), (st, .inr (7, [.ref b, .int sd, .int mv, .int gm, va_rf lt, .int w1, .int w2, .int dg, .int t1, .int t2, .int am])), (b, .inr (1, [.ref ca, .int kk, .int sg])), (ca, .inl (g.2.1, 49, .inl f))] := hD
  refine lv_goto (tgt := 15) hx hb dL_movesByPieces_9 (by decide) ?_
  refine lv_iconst (v := 0) hx hb dL_movesByPieces_15 (by decide) ?_
  have hP : va_P g.1 vwCl [(hg, .inr (8, [.ref st, .ref tr, .ref sa, .ref sk, .ref sv, .ref mt, .ref ml, .ref ad, .ref kw])), (st, .inr (7, [.ref b, .int sd, .int mv, .int gm, va_rf lt, .int w1, .int w2, .int dg, .int t1, .int t2, .int am])), (b, .inr (1, [.ref ca, .int kk, .int sg])), (ca, .inl (g.2.1, 49, .inl f)), (ou, .inl (g.2.2.1, 1, .inr (.inl (vp_updL fo (0 : Int32).toNatClampNeg r_1.2.toInt64))))] H := hP.sub [1, 2, 3, 4, 0] rfl
  have hD : va_D A [(hg, .inr (8, [.ref st, .ref tr, .ref sa, .ref sk, .ref sv, .ref mt, .ref ml, .ref ad, .ref kw])), (st, .inr (7, [.ref b, .int sd, .int mv, .int gm, va_rf lt, .int w1, .int w2, .int dg, .int t1, .int t2, .int am])), (b, .inr (1, [.ref ca, .int kk, .int sg])), (ca, .inl (g.2.1, 49, .inl f)), (ou, .inl (g.2.2.1, 1, .inr (.inl (vp_updL fo (0 : Int32).toNatClampNeg r_1.2.toInt64))))] := hD.sub [1, 2, 3, 4, 0] (by decide) rfl
  have hyp := some_e hyp
  subst hyp
  subst hQ
  exact xrI (na := s.heap.size) hx hb hr hlocks (Nat.le_refl _) hP hD hS (Nat.le_of_ble_eq_true rfl) (Nat.le_of_ble_eq_true rfl) dL_movesByPieces_16

def fL_movesBySquares (f : Nat → Int32) (fo : Nat → Int64) (a1 : Int32) : Option (Int32 × (Nat → Int64)) :=
  (fX8_movesBySquares f a1).bind (fun (r_1 : Nat × Int32) => if r_1.1 = 0 then (grd (inB 0 1) (some (0, vp_updL fo (0 : Int32).toNatClampNeg r_1.2.toInt64))) else (if r_1.1 = 1 then (some (1, fo)) else (none)))
set_option maxRecDepth 100000 in
set_option maxHeartbeats 4000000 in
theorem mL_movesBySquares (l : Launch) (hl0 : l.stackTraces = false) (g : GE) (hg st b ca ou tr sa sk sv mt ml ad kw zc zp : Nat) (sd : Int32) (mv : Int32) (gm : Int32) (lt : Option Nat) (w1 : Int32) (w2 : Int32) (dg : Int32) (t1 : Int32) (t2 : Int32) (am : Int32) (kk : Int32) (sg : Int32) (f : Nat → Int32) (fo : Nat → Int64) (a1 : Int32) (r : Int32 × (Nat → Int64)) (hyp : fL_movesBySquares f fo a1 = some r) : LM l yL_movesBySquares cL_movesBySquares 4 [(0, 9, 12, 13)] 8 131 1 6 g [(hg, .inr (8, [.ref st, .ref tr, .ref sa, .ref sk, .ref sv, .ref mt, .ref ml, .ref ad, .ref kw])), (st, .inr (7, [.ref b, .int sd, .int mv, .int gm, va_rf lt, .int w1, .int w2, .int dg, .int t1, .int t2, .int am])), (b, .inr (1, [.ref ca, .int kk, .int sg])), (ca, .inl (g.2.1, 49, .inl f)), (ou, .inl (g.2.2.1, 1, .inr (.inl fo)))] (OZ g zc zp [] none) [.ref hg, .int a1, .ref ou] (some (.int r.1)) (fun na => [(hg, .inr (8, [.ref st, .ref tr, .ref sa, .ref sk, .ref sv, .ref mt, .ref ml, .ref ad, .ref kw])), (st, .inr (7, [.ref b, .int sd, .int mv, .int gm, va_rf lt, .int w1, .int w2, .int dg, .int t1, .int t2, .int am])), (b, .inr (1, [.ref ca, .int kk, .int sg])), (ca, .inl (g.2.1, 49, .inl f)), (ou, .inl (g.2.2.1, 1, .inr (.inl r.2)))]) := by
  refine metL_intro (by decide) rfl ?_
  intro p e R s m args below meth c Q A hRf hRl hRc hRs hQ hx hb hml hr hlocks htab hown hts hin hE hSR hNC hA hO H locs hP hD hS ls hl
  have hown : s.vm.findClass "HallGuardsLaw" = some m.cls := hown
  have hl : lv_has ls 4 [(0, .ref hg), (1, .int a1), (2, .ref ou)] := hl
  unfold fL_movesBySquares at hyp
  refine lv_aload_n hx hb dL_movesBySquares_0 rfl (lv_at hl 2 rfl) ?_
  refine lv_iconst (v := 0) hx hb dL_movesBySquares_1 (by decide) ?_
  refine lv_aload_n hx hb dL_movesBySquares_2 rfl (lv_at hl 0 rfl) ?_
  refine lv_iload_n hx hb dL_movesBySquares_3 rfl (lv_at hl 1 rfl) ?_
  obtain ⟨r_1, hr_1, hyp⟩ := opt_e hyp
  refine xV (As := [.int a1]) (rest := [.int 0, .ref ou]) ⟨hx, hb, hml, hown, hts⟩ hE hSR (mX8_movesBySquares l hl0 g hg st b ca tr sa sk sv mt ml ad kw zc zp sd mv gm lt w1 w2 dg t1 t2 am kk sg f a1 r_1 hr_1) (OZ_ok g zc zp _ _) hO cf_X8_movesBySquares im_X8_movesBySquares se_X8_movesBySquares ml_L_76 ⟨Nat.le_trans (Nat.le_of_ble_eq_true rfl) hRf, Nat.le_trans (Nat.le_of_ble_eq_true rfl) hRl⟩ hP hD hS hA [0, 1, 2, 3] [4] rfl (wr := [(ou, .inl (g.2.2.1, 1, .inr (.inl fo)))]) rfl ⟨by decide, by decide⟩ (by decide) (ci := 8) (q0 := 0) rfl rfl rfl rfl hl.1 rfl (Nat.le_of_ble_eq_true rfl) dL_movesBySquares_4 ⟨Nat.le_trans (Nat.le_of_ble_eq_true rfl) hRc, Nat.le_trans (Nat.le_of_ble_eq_true rfl) hRs⟩ (fun hk0 na_2 H locs hna_2 hP hD hS => ?_) (fun hk0 na9 q9 ce9 H locs hna9 hP hD hS hce hcv hcl => ?_)
  rotate_left 1
  · replace hyp := ite_f hk0 hyp
    have hP : va_P g.1 vwCl [(ou, .inl (g.2.2.1, 1, .inr (.inl fo))), (hg, .inr (8, [.ref st, .ref tr, .ref sa, .ref sk, .ref sv, .ref mt, .ref ml, .ref ad, .ref kw])), (st, .inr (7, [.ref b, .int sd, .int mv, .int gm, va_rf lt, .int w1, .int w2, .int dg, .int t1, .int t2, .int am])), (b, .inr (1, [.ref ca, .int kk, .int sg])), (ca, .inl (g.2.1, 49, .inl f))] H := hP
    have hD : va_D A [(ou, .inl (g.2.2.1, 1, .inr (.inl fo))), (hg, .inr (8, [.ref st, .ref tr, .ref sa, .ref sk, .ref sv, .ref mt, .ref ml, .ref ad, .ref kw])), (st, .inr (7, [.ref b, .int sd, .int mv, .int gm, va_rf lt, .int w1, .int w2, .int dg, .int t1, .int t2, .int am])), (b, .inr (1, [.ref ca, .int kk, .int sg])), (ca, .inl (g.2.1, 49, .inl f))] := hD
    have hP : va_P g.1 vwCl [(hg, .inr (8, [.ref st, .ref tr, .ref sa, .ref sk, .ref sv, .ref mt, .ref ml, .ref ad, .ref kw])), (st, .inr (7, [.ref b, .int sd, .int mv, .int gm, va_rf lt, .int w1, .int w2, .int dg, .int t1, .int t2, .int am])), (b, .inr (1, [.ref ca, .int kk, .int sg])), (ca, .inl (g.2.1, 49, .inl f)), (ou, .inl (g.2.2.1, 1, .inr (.inl fo)))] H := hP.sub [1, 2, 3, 4, 0] rfl
    have hD : va_D A [(hg, .inr (8, [.ref st, .ref tr, .ref sa, .ref sk, .ref sv, .ref mt, .ref ml, .ref ad, .ref kw])), (st, .inr (7, [.ref b, .int sd, .int mv, .int gm, va_rf lt, .int w1, .int w2, .int dg, .int t1, .int t2, .int am])), (b, .inr (1, [.ref ca, .int kk, .int sg])), (ca, .inl (g.2.1, 49, .inl f)), (ou, .inl (g.2.2.1, 1, .inr (.inl fo)))] := hD.sub [1, 2, 3, 4, 0] (by decide) rfl
    by_cases h_3 : r_1.1 = 1
    · replace hyp := ite_t h_3 hyp
      rw [h_3] at hcl
      refine catK 0 ⟨0, 9, 12, 13⟩ 1 htab rfl hown (fun z hz => nomatch hz) (by decide) (by decide) hts hSR cl_L_13 cast_1 hce hcv hcl ?_
      refine lv_astore_n (lv' := [(3, .ref q9), (0, .ref hg), (1, .int a1), (2, .ref ou)]) hx hb dL_movesBySquares_12 rfl hl (by decide) rfl (fun ls hl => ?_)
      refine lv_iconst (v := 1) hx hb dL_movesBySquares_13 (by decide) ?_
      have hyp := some_e hyp
      subst hyp
      subst hQ
      exact xrI (na := s.heap.size) hx hb hr hlocks (Nat.le_refl _) hP hD hS (Nat.le_of_ble_eq_true rfl) (Nat.le_of_ble_eq_true rfl) dL_movesBySquares_14
    · replace hyp := ite_f h_3 hyp
      cases hyp
  replace hyp := ite_t hk0 hyp
  have hP : va_P g.1 vwCl [(ou, .inl (g.2.2.1, 1, .inr (.inl fo))), (hg, .inr (8, [.ref st, .ref tr, .ref sa, .ref sk, .ref sv, .ref mt, .ref ml, .ref ad, .ref kw])), (st, .inr (7, [.ref b, .int sd, .int mv, .int gm, va_rf lt, .int w1, .int w2, .int dg, .int t1, .int t2, .int am])), (b, .inr (1, [.ref ca, .int kk, .int sg])), (ca, .inl (g.2.1, 49, .inl f))] H := hP
  have hD : va_D A [(ou, .inl (g.2.2.1, 1, .inr (.inl fo))), (hg, .inr (8, [.ref st, .ref tr, .ref sa, .ref sk, .ref sv, .ref mt, .ref ml, .ref ad, .ref kw])), (st, .inr (7, [.ref b, .int sd, .int mv, .int gm, va_rf lt, .int w1, .int w2, .int dg, .int t1, .int t2, .int am])), (b, .inr (1, [.ref ca, .int kk, .int sg])), (ca, .inl (g.2.1, 49, .inl f))] := hD
  refine lv_i2l hx hb dL_movesBySquares_7 rfl ?_
  obtain ⟨hi, hyp⟩ := grd_e hyp
  refine va_last hx hb hE.1 hP hD hS 0 1 rfl rfl (inB_vp hi) dL_movesBySquares_8 (fun H locs hP hD hS => ?_)
  have hP : va_P g.1 vwCl [(ou, .inl (g.2.2.1, 1, .inr (.inl (vp_updL fo (0 : Int32).toNatClampNeg r_1.2.toInt64)))), (hg, .inr (8, [.ref st, .ref tr, .ref sa, .ref sk, .ref sv, .ref mt, .ref ml, .ref ad, .ref kw])), (st, .inr (7, [.ref b, .int sd, .int mv, .int gm, va_rf lt, .int w1, .int w2, .int dg, .int t1, .int t2, .int am])), (b, .inr (1, [.ref ca, .int kk, .int sg])), (ca, .inl (g.2.1, 49, .inl f))] H := hP
  have hD : va_D A [(ou, .inl (g.2.2.1, 1, .inr (.inl (vp_updL fo (0 : Int32).toNatClampNeg r_1.2.toInt64)))), (hg, .inr (8, [.ref st, .ref tr, .ref sa, .ref sk, .ref sv, .ref mt, .ref ml, .ref ad, .ref kw])), (st, .inr (7, [.ref b, .int sd, .int mv, .int gm, va_rf lt, .int w1, .int w2, .int dg, .int t1, .int t2, .int am])), (b, .inr (1, [.ref ca, .int kk, .int sg])), (ca, .inl (g.2.1, 49, .inl f))] := hD
  refine lv_goto (tgt := 15) hx hb dL_movesBySquares_9 (by decide) ?_
  refine lv_iconst (v := 0) hx hb dL_movesBySquares_15 (by decide) ?_
  have hP : va_P g.1 vwCl [(hg, .inr (8, [.ref st, .ref tr, .ref sa, .ref sk, .ref sv, .ref mt, .ref ml, .ref ad, .ref kw])), (st, .inr (7, [.ref b, .int sd, .int mv, .int gm, va_rf lt, .int w1, .int w2, .int dg, .int t1, .int t2, .int am])), (b, .inr (1, [.ref ca, .int kk, .int sg])), (ca, .inl (g.2.1, 49, .inl f)), (ou, .inl (g.2.2.1, 1, .inr (.inl (vp_updL fo (0 : Int32).toNatClampNeg r_1.2.toInt64))))] H := hP.sub [1, 2, 3, 4, 0] rfl
  have hD : va_D A [(hg, .inr (8, [.ref st, .ref tr, .ref sa, .ref sk, .ref sv, .ref mt, .ref ml, .ref ad, .ref kw])), (st, .inr (7, [.ref b, .int sd, .int mv, .int gm, va_rf lt, .int w1, .int w2, .int dg, .int t1, .int t2, .int am])), (b, .inr (1, [.ref ca, .int kk, .int sg])), (ca, .inl (g.2.1, 49, .inl f)), (ou, .inl (g.2.2.1, 1, .inr (.inl (vp_updL fo (0 : Int32).toNatClampNeg r_1.2.toInt64))))] := hD.sub [1, 2, 3, 4, 0] (by decide) rfl
  have hyp := some_e hyp
  subst hyp
  subst hQ
  exact xrI (na := s.heap.size) hx hb hr hlocks (Nat.le_refl _) hP hD hS (Nat.le_of_ble_eq_true rfl) (Nat.le_of_ble_eq_true rfl) dL_movesBySquares_16

def fL_wouldTake (kk : Int32) (sg : Int32) (f : Nat → Int32) (bk : Int32) (bs : Int32) (bf : Nat → Int32) (fo : Nat → Int64) (a1 : Int32) (a2 : Int32) : Option (Int32 × (Nat → Int32) × Int32 × Int32 × (Nat → Int64)) :=
  (fX8_wouldTake kk sg f bk bs bf a1 a2).bind (fun (r_1 : Nat × Int32 × (Nat → Int32) × Int32 × Int32) => if r_1.1 = 0 then (grd (inB 0 1) (some (0, r_1.2.2.1, r_1.2.2.2.1, r_1.2.2.2.2, vp_updL fo (0 : Int32).toNatClampNeg r_1.2.1.toInt64))) else (if r_1.1 = 1 then (some (1, r_1.2.2.1, r_1.2.2.2.1, r_1.2.2.2.2, fo)) else (if r_1.1 = 3 then (some (2, r_1.2.2.1, r_1.2.2.2.1, r_1.2.2.2.2, fo)) else (none))))
set_option maxRecDepth 100000 in
set_option maxHeartbeats 4000000 in
theorem mL_wouldTake (l : Launch) (hl0 : l.stackTraces = false) (g : GE) (hg st b ca ad be bc ou tr sa sk sv mt ml kw rp rl zc zp : Nat) (sd : Int32) (mv : Int32) (gm : Int32) (lt : Option Nat) (w1 : Int32) (w2 : Int32) (dg : Int32) (t1 : Int32) (t2 : Int32) (am : Int32) (kk : Int32) (sg : Int32) (f : Nat → Int32) (bk : Int32) (bs : Int32) (bf : Nat → Int32) (fo : Nat → Int64) (a1 : Int32) (a2 : Int32) (r : Int32 × (Nat → Int32) × Int32 × Int32 × (Nat → Int64)) (hyp : fL_wouldTake kk sg f bk bs bf fo a1 a2 = some r) : LM l yL_wouldTake cL_wouldTake 5 [(0, 10, 13, 13), (0, 10, 17, 17)] 9 155 2 12 g [(hg, .inr (8, [.ref st, .ref tr, .ref sa, .ref sk, .ref sv, .ref mt, .ref ml, .ref ad, .ref kw])), (st, .inr (7, [.ref b, .int sd, .int mv, .int gm, va_rf lt, .int w1, .int w2, .int dg, .int t1, .int t2, .int am])), (b, .inr (1, [.ref ca, .int kk, .int sg])), (ca, .inl (g.2.1, 49, .inl f)), (ad, .inr (0, [.ref be, .ref rp, .ref rl])), (be, .inr (1, [.ref bc, .int bk, .int bs])), (bc, .inl (g.2.1, 49, .inl bf)), (ou, .inl (g.2.2.1, 1, .inr (.inl fo)))] (OZ g zc zp [] none) [.ref hg, .int a1, .int a2, .ref ou] (some (.int r.1)) (fun na => [(hg, .inr (8, [.ref st, .ref tr, .ref sa, .ref sk, .ref sv, .ref mt, .ref ml, .ref ad, .ref kw])), (st, .inr (7, [.ref b, .int sd, .int mv, .int gm, va_rf lt, .int w1, .int w2, .int dg, .int t1, .int t2, .int am])), (b, .inr (1, [.ref ca, .int kk, .int sg])), (ca, .inl (g.2.1, 49, .inl f)), (ad, .inr (0, [.ref be, .ref rp, .ref rl])), (be, .inr (1, [.ref bc, .int r.2.2.1, .int r.2.2.2.1])), (bc, .inl (g.2.1, 49, .inl r.2.1)), (ou, .inl (g.2.2.1, 1, .inr (.inl r.2.2.2.2)))]) := by
  refine metL_intro (by decide) rfl ?_
  intro p e R s m args below meth c Q A hRf hRl hRc hRs hQ hx hb hml hr hlocks htab hown hts hin hE hSR hNC hA hO H locs hP hD hS ls hl
  have hown : s.vm.findClass "HallGuardsLaw" = some m.cls := hown
  have hl : lv_has ls 5 [(0, .ref hg), (1, .int a1), (2, .int a2), (3, .ref ou)] := hl
  unfold fL_wouldTake at hyp
  refine lv_aload_n hx hb dL_wouldTake_0 rfl (lv_at hl 3 rfl) ?_
  refine lv_iconst (v := 0) hx hb dL_wouldTake_1 (by decide) ?_
  refine lv_aload_n hx hb dL_wouldTake_2 rfl (lv_at hl 0 rfl) ?_
  refine lv_iload_n hx hb dL_wouldTake_3 rfl (lv_at hl 1 rfl) ?_
  refine lv_iload_n hx hb dL_wouldTake_4 rfl (lv_at hl 2 rfl) ?_
  obtain ⟨r_1, hr_1, hyp⟩ := opt_e hyp
  refine xV (As := [.int a1, .int a2]) (rest := [.int 0, .ref ou]) ⟨hx, hb, hml, hown, hts⟩ hE hSR (mX8_wouldTake l hl0 g hg st b ca ad be bc tr sa sk sv mt ml kw rp rl zc zp sd mv gm lt w1 w2 dg t1 t2 am kk sg f bk bs bf a1 a2 r_1 hr_1) (OZ_ok g zc zp _ _) hO cf_X8_wouldTake im_X8_wouldTake se_X8_wouldTake ml_L_79 ⟨Nat.le_trans (Nat.le_of_ble_eq_true rfl) hRf, Nat.le_trans (Nat.le_of_ble_eq_true rfl) hRl⟩ hP hD hS hA [0, 1, 2, 3, 4, 5, 6] [7] rfl (wr := [(ou, .inl (g.2.2.1, 1, .inr (.inl fo)))]) rfl ⟨by decide, by decide⟩ (by decide) (ci := 8) (q0 := 0) rfl rfl rfl rfl hl.1 rfl (Nat.le_of_ble_eq_true rfl) dL_wouldTake_5 ⟨Nat.le_trans (Nat.le_of_ble_eq_true rfl) hRc, Nat.le_trans (Nat.le_of_ble_eq_true rfl) hRs⟩ (fun hk0 na_2 H locs hna_2 hP hD hS => ?_) (fun hk0 na9 q9 ce9 H locs hna9 hP hD hS hce hcv hcl => ?_)
  rotate_left 1
  · replace hyp := ite_f hk0 hyp
    have hP : va_P g.1 vwCl [(ou, .inl (g.2.2.1, 1, .inr (.inl fo))), (hg, .inr (8, [.ref st, .ref tr, .ref sa, .ref sk, .ref sv, .ref mt, .ref ml, .ref ad, .ref kw])), (st, .inr (7, [.ref b, .int sd, .int mv, .int gm, va_rf lt, .int w1, .int w2, .int dg, .int t1, .int t2, .int am])), (b, .inr (1, [.ref ca, .int kk, .int sg])), (ca, .inl (g.2.1, 49, .inl f)), (ad, .inr (0, [.ref be, .ref rp, .ref rl])), (be, .inr (1, [.ref bc, .int r_1.2.2.2.1, .int r_1.2.2.2.2])), (bc, .inl (g.2.1, 49, .inl r_1.2.2.1))] H := hP
    have hD : va_D A [(ou, .inl (g.2.2.1, 1, .inr (.inl fo))), (hg, .inr (8, [.ref st, .ref tr, .ref sa, .ref sk, .ref sv, .ref mt, .ref ml, .ref ad, .ref kw])), (st, .inr (7, [.ref b, .int sd, .int mv, .int gm, va_rf lt, .int w1, .int w2, .int dg, .int t1, .int t2, .int am])), (b, .inr (1, [.ref ca, .int kk, .int sg])), (ca, .inl (g.2.1, 49, .inl f)), (ad, .inr (0, [.ref be, .ref rp, .ref rl])), (be, .inr (1, [.ref bc, .int r_1.2.2.2.1, .int r_1.2.2.2.2])), (bc, .inl (g.2.1, 49, .inl r_1.2.2.1))] := hD
    have hP : va_P g.1 vwCl [(hg, .inr (8, [.ref st, .ref tr, .ref sa, .ref sk, .ref sv, .ref mt, .ref ml, .ref ad, .ref kw])), (st, .inr (7, [.ref b, .int sd, .int mv, .int gm, va_rf lt, .int w1, .int w2, .int dg, .int t1, .int t2, .int am])), (b, .inr (1, [.ref ca, .int kk, .int sg])), (ca, .inl (g.2.1, 49, .inl f)), (ad, .inr (0, [.ref be, .ref rp, .ref rl])), (be, .inr (1, [.ref bc, .int r_1.2.2.2.1, .int r_1.2.2.2.2])), (bc, .inl (g.2.1, 49, .inl r_1.2.2.1)), (ou, .inl (g.2.2.1, 1, .inr (.inl fo)))] H := hP.sub [1, 2, 3, 4, 5, 6, 7, 0] rfl
    have hD : va_D A [(hg, .inr (8, [.ref st, .ref tr, .ref sa, .ref sk, .ref sv, .ref mt, .ref ml, .ref ad, .ref kw])), (st, .inr (7, [.ref b, .int sd, .int mv, .int gm, va_rf lt, .int w1, .int w2, .int dg, .int t1, .int t2, .int am])), (b, .inr (1, [.ref ca, .int kk, .int sg])), (ca, .inl (g.2.1, 49, .inl f)), (ad, .inr (0, [.ref be, .ref rp, .ref rl])), (be, .inr (1, [.ref bc, .int r_1.2.2.2.1, .int r_1.2.2.2.2])), (bc, .inl (g.2.1, 49, .inl r_1.2.2.1)), (ou, .inl (g.2.2.1, 1, .inr (.inl fo)))] := hD.sub [1, 2, 3, 4, 5, 6, 7, 0] (by decide) rfl
    by_cases h_3 : r_1.1 = 1
    · replace hyp := ite_t h_3 hyp
      rw [h_3] at hcl
      refine catK 0 ⟨0, 10, 13, 13⟩ 1 htab rfl hown (fun z hz => nomatch hz) (by decide) (by decide) hts hSR cl_L_13 cast_1 hce hcv hcl ?_
      refine lv_astore (lv' := [(4, .ref q9), (0, .ref hg), (1, .int a1), (2, .int a2), (3, .ref ou)]) hx hb dL_wouldTake_13 hl (by decide) rfl (fun ls hl => ?_)
      refine lv_iconst (v := 1) hx hb dL_wouldTake_15 (by decide) ?_
      have hyp := some_e hyp
      subst hyp
      subst hQ
      exact xrI (na := s.heap.size) hx hb hr hlocks (Nat.le_refl _) hP hD hS (Nat.le_of_ble_eq_true rfl) (Nat.le_of_ble_eq_true rfl) dL_wouldTake_16
    · replace hyp := ite_f h_3 hyp
      by_cases h_4 : r_1.1 = 3
      · replace hyp := ite_t h_4 hyp
        rw [h_4] at hcl
        refine catK 1 ⟨0, 10, 17, 17⟩ 3 htab rfl hown (List.forall_mem_cons.mpr ⟨⟨by decide, _, hts _ cl_L_13, hNC.2.1⟩, fun z hz => nomatch hz⟩) (by decide) (by decide) hts hSR cl_L_17 cast_3 hce hcv hcl ?_
        refine lv_astore (lv' := [(4, .ref q9), (0, .ref hg), (1, .int a1), (2, .int a2), (3, .ref ou)]) hx hb dL_wouldTake_17 hl (by decide) rfl (fun ls hl => ?_)
        refine lv_iconst (v := 2) hx hb dL_wouldTake_19 (by decide) ?_
        have hyp := some_e hyp
        subst hyp
        subst hQ
        exact xrI (na := s.heap.size) hx hb hr hlocks (Nat.le_refl _) hP hD hS (Nat.le_of_ble_eq_true rfl) (Nat.le_of_ble_eq_true rfl) dL_wouldTake_20
      · replace hyp := ite_f h_4 hyp
        cases hyp
  replace hyp := ite_t hk0 hyp
  have hP : va_P g.1 vwCl [(ou, .inl (g.2.2.1, 1, .inr (.inl fo))), (hg, .inr (8, [.ref st, .ref tr, .ref sa, .ref sk, .ref sv, .ref mt, .ref ml, .ref ad, .ref kw])), (st, .inr (7, [.ref b, .int sd, .int mv, .int gm, va_rf lt, .int w1, .int w2, .int dg, .int t1, .int t2, .int am])), (b, .inr (1, [.ref ca, .int kk, .int sg])), (ca, .inl (g.2.1, 49, .inl f)), (ad, .inr (0, [.ref be, .ref rp, .ref rl])), (be, .inr (1, [.ref bc, .int r_1.2.2.2.1, .int r_1.2.2.2.2])), (bc, .inl (g.2.1, 49, .inl r_1.2.2.1))] H := hP
  have hD : va_D A [(ou, .inl (g.2.2.1, 1, .inr (.inl fo))), (hg, .inr (8, [.ref st, .ref tr, .ref sa, .ref sk, .ref sv, .ref mt, .ref ml, .ref ad, .ref kw])), (st, .inr (7, [.ref b, .int sd, .int mv, .int gm, va_rf lt, .int w1, .int w2, .int dg, .int t1, .int t2, .int am])), (b, .inr (1, [.ref ca, .int kk, .int sg])), (ca, .inl (g.2.1, 49, .inl f)), (ad, .inr (0, [.ref be, .ref rp, .ref rl])), (be, .inr (1, [.ref bc, .int r_1.2.2.2.1, .int r_1.2.2.2.2])), (bc, .inl (g.2.1, 49, .inl r_1.2.2.1))] := hD
  refine lv_i2l hx hb dL_wouldTake_8 rfl ?_
  obtain ⟨hi, hyp⟩ := grd_e hyp
  refine va_last hx hb hE.1 hP hD hS 0 1 rfl rfl (inB_vp hi) dL_wouldTake_9 (fun H locs hP hD hS => ?_)
  have hP : va_P g.1 vwCl [(ou, .inl (g.2.2.1, 1, .inr (.inl (vp_updL fo (0 : Int32).toNatClampNeg r_1.2.1.toInt64)))), (hg, .inr (8, [.ref st, .ref tr, .ref sa, .ref sk, .ref sv, .ref mt, .ref ml, .ref ad, .ref kw])), (st, .inr (7, [.ref b, .int sd, .int mv, .int gm, va_rf lt, .int w1, .int w2, .int dg, .int t1, .int t2, .int am])), (b, .inr (1, [.ref ca, .int kk, .int sg])), (ca, .inl (g.2.1, 49, .inl f)), (ad, .inr (0, [.ref be, .ref rp, .ref rl])), (be, .inr (1, [.ref bc, .int r_1.2.2.2.1, .int r_1.2.2.2.2])), (bc, .inl (g.2.1, 49, .inl r_1.2.2.1))] H := hP
  have hD : va_D A [(ou, .inl (g.2.2.1, 1, .inr (.inl (vp_updL fo (0 : Int32).toNatClampNeg r_1.2.1.toInt64)))), (hg, .inr (8, [.ref st, .ref tr, .ref sa, .ref sk, .ref sv, .ref mt, .ref ml, .ref ad, .ref kw])), (st, .inr (7, [.ref b, .int sd, .int mv, .int gm, va_rf lt, .int w1, .int w2, .int dg, .int t1, .int t2, .int am])), (b, .inr (1, [.ref ca, .int kk, .int sg])), (ca, .inl (g.2.1, 49, .inl f)), (ad, .inr (0, [.ref be, .ref rp, .ref rl])), (be, .inr (1, [.ref bc, .int r_1.2.2.2.1, .int r_1.2.2.2.2])), (bc, .inl (g.2.1, 49, .inl r_1.2.2.1))] := hD
  refine lv_goto (tgt := 21) hx hb dL_wouldTake_10 (by decide) ?_
  refine lv_iconst (v := 0) hx hb dL_wouldTake_21 (by decide) ?_
  have hP : va_P g.1 vwCl [(hg, .inr (8, [.ref st, .ref tr, .ref sa, .ref sk, .ref sv, .ref mt, .ref ml, .ref ad, .ref kw])), (st, .inr (7, [.ref b, .int sd, .int mv, .int gm, va_rf lt, .int w1, .int w2, .int dg, .int t1, .int t2, .int am])), (b, .inr (1, [.ref ca, .int kk, .int sg])), (ca, .inl (g.2.1, 49, .inl f)), (ad, .inr (0, [.ref be, .ref rp, .ref rl])), (be, .inr (1, [.ref bc, .int r_1.2.2.2.1, .int r_1.2.2.2.2])), (bc, .inl (g.2.1, 49, .inl r_1.2.2.1)), (ou, .inl (g.2.2.1, 1, .inr (.inl (vp_updL fo (0 : Int32).toNatClampNeg r_1.2.1.toInt64))))] H := hP.sub [1, 2, 3, 4, 5, 6, 7, 0] rfl
  have hD : va_D A [(hg, .inr (8, [.ref st, .ref tr, .ref sa, .ref sk, .ref sv, .ref mt, .ref ml, .ref ad, .ref kw])), (st, .inr (7, [.ref b, .int sd, .int mv, .int gm, va_rf lt, .int w1, .int w2, .int dg, .int t1, .int t2, .int am])), (b, .inr (1, [.ref ca, .int kk, .int sg])), (ca, .inl (g.2.1, 49, .inl f)), (ad, .inr (0, [.ref be, .ref rp, .ref rl])), (be, .inr (1, [.ref bc, .int r_1.2.2.2.1, .int r_1.2.2.2.2])), (bc, .inl (g.2.1, 49, .inl r_1.2.2.1)), (ou, .inl (g.2.2.1, 1, .inr (.inl (vp_updL fo (0 : Int32).toNatClampNeg r_1.2.1.toInt64))))] := hD.sub [1, 2, 3, 4, 5, 6, 7, 0] (by decide) rfl
  have hyp := some_e hyp
  subst hyp
  subst hQ
  exact xrI (na := s.heap.size) hx hb hr hlocks (Nat.le_refl _) hP hD hS (Nat.le_of_ble_eq_true rfl) (Nat.le_of_ble_eq_true rfl) dL_wouldTake_22

def fL_wouldWin (kk : Int32) (sg : Int32) (f : Nat → Int32) (rk : Int32) (rs : Int32) (rf : Nat → Int32) (fo : Nat → Int64) (a1 : Int32) (a2 : Int32) : Option (Int32 × (Nat → Int32) × Int32 × Int32 × (Nat → Int64)) :=
  (fX8_wouldWin kk sg f rk rs rf a1 a2).bind (fun (r_1 : Nat × Int32 × (Nat → Int32) × Int32 × Int32) => if r_1.1 = 0 then (jn (fun (t_5 : Int64) => grd (inB 0 1) (some (0, r_1.2.2.1, r_1.2.2.2.1, r_1.2.2.2.2, vp_updL fo (0 : Int32).toNatClampNeg t_5))) (fun J_6 => if r_1.2.1 = 0 then (J_6 0) else (J_6 1))) else (if r_1.1 = 1 then (some (1, r_1.2.2.1, r_1.2.2.2.1, r_1.2.2.2.2, fo)) else (if r_1.1 = 3 then (some (2, r_1.2.2.1, r_1.2.2.2.1, r_1.2.2.2.2, fo)) else (none))))
set_option maxRecDepth 100000 in
set_option maxHeartbeats 4000000 in
theorem mL_wouldWin (l : Launch) (hl0 : l.stackTraces = false) (g : GE) (hg st b ca ad rp rc ou tr sa sk sv mt ml kw be rl zc zp : Nat) (sd : Int32) (mv : Int32) (gm : Int32) (lt : Option Nat) (w1 : Int32) (w2 : Int32) (dg : Int32) (t1 : Int32) (t2 : Int32) (am : Int32) (kk : Int32) (sg : Int32) (f : Nat → Int32) (rk : Int32) (rs : Int32) (rf : Nat → Int32) (fo : Nat → Int64) (a1 : Int32) (a2 : Int32) (r : Int32 × (Nat → Int32) × Int32 × Int32 × (Nat → Int64)) (hyp : fL_wouldWin kk sg f rk rs rf fo a1 a2 = some r) : LM l yL_wouldWin cL_wouldWin 5 [(0, 17, 20, 13), (0, 17, 24, 17)] 9 155 2 12 g [(hg, .inr (8, [.ref st, .ref tr, .ref sa, .ref sk, .ref sv, .ref mt, .ref ml, .ref ad, .ref kw])), (st, .inr (7, [.ref b, .int sd, .int mv, .int gm, va_rf lt, .int w1, .int w2, .int dg, .int t1, .int t2, .int am])), (b, .inr (1, [.ref ca, .int kk, .int sg])), (ca, .inl (g.2.1, 49, .inl f)), (ad, .inr (0, [.ref be, .ref rp, .ref rl])), (rp, .inr (1, [.ref rc, .int rk, .int rs])), (rc, .inl (g.2.1, 49, .inl rf)), (ou, .inl (g.2.2.1, 1, .inr (.inl fo)))] (OZ g zc zp [] none) [.ref hg, .int a1, .int a2, .ref ou] (some (.int r.1)) (fun na => [(hg, .inr (8, [.ref st, .ref tr, .ref sa, .ref sk, .ref sv, .ref mt, .ref ml, .ref ad, .ref kw])), (st, .inr (7, [.ref b, .int sd, .int mv, .int gm, va_rf lt, .int w1, .int w2, .int dg, .int t1, .int t2, .int am])), (b, .inr (1, [.ref ca, .int kk, .int sg])), (ca, .inl (g.2.1, 49, .inl f)), (ad, .inr (0, [.ref be, .ref rp, .ref rl])), (rp, .inr (1, [.ref rc, .int r.2.2.1, .int r.2.2.2.1])), (rc, .inl (g.2.1, 49, .inl r.2.1)), (ou, .inl (g.2.2.1, 1, .inr (.inl r.2.2.2.2)))]) := by
  refine metL_intro (by decide) rfl ?_
  intro p e R s m args below meth c Q A hRf hRl hRc hRs hQ hx hb hml hr hlocks htab hown hts hin hE hSR hNC hA hO H locs hP hD hS ls hl
  have hown : s.vm.findClass "HallGuardsLaw" = some m.cls := hown
  have hl : lv_has ls 5 [(0, .ref hg), (1, .int a1), (2, .int a2), (3, .ref ou)] := hl
  unfold fL_wouldWin at hyp
  refine lv_aload_n hx hb dL_wouldWin_0 rfl (lv_at hl 3 rfl) ?_
  refine lv_iconst (v := 0) hx hb dL_wouldWin_1 (by decide) ?_
  refine lv_aload_n hx hb dL_wouldWin_2 rfl (lv_at hl 0 rfl) ?_
  refine lv_iload_n hx hb dL_wouldWin_3 rfl (lv_at hl 1 rfl) ?_
  refine lv_iload_n hx hb dL_wouldWin_4 rfl (lv_at hl 2 rfl) ?_
  obtain ⟨r_1, hr_1, hyp⟩ := opt_e hyp
  refine xV (As := [.int a1, .int a2]) (rest := [.int 0, .ref ou]) ⟨hx, hb, hml, hown, hts⟩ hE hSR (mX8_wouldWin l hl0 g hg st b ca ad rp rc tr sa sk sv mt ml kw be rl zc zp sd mv gm lt w1 w2 dg t1 t2 am kk sg f rk rs rf a1 a2 r_1 hr_1) (OZ_ok g zc zp _ _) hO cf_X8_wouldWin im_X8_wouldWin se_X8_wouldWin ml_L_82 ⟨Nat.le_trans (Nat.le_of_ble_eq_true rfl) hRf, Nat.le_trans (Nat.le_of_ble_eq_true rfl) hRl⟩ hP hD hS hA [0, 1, 2, 3, 4, 5, 6] [7] rfl (wr := [(ou, .inl (g.2.2.1, 1, .inr (.inl fo)))]) rfl ⟨by decide, by decide⟩ (by decide) (ci := 8) (q0 := 0) rfl rfl rfl rfl hl.1 rfl (Nat.le_of_ble_eq_true rfl) dL_wouldWin_5 ⟨Nat.le_trans (Nat.le_of_ble_eq_true rfl) hRc, Nat.le_trans (Nat.le_of_ble_eq_true rfl) hRs⟩ (fun hk0 na_2 H locs hna_2 hP hD hS => ?_) (fun hk0 na9 q9 ce9 H locs hna9 hP hD hS hce hcv hcl => ?_)
  rotate_left 1
  · replace hyp := ite_f hk0 hyp
    have hP : va_P g.1 vwCl [(ou, .inl (g.2.2.1, 1, .inr (.inl fo))), (hg, .inr (8, [.ref st, .ref tr, .ref sa, .ref sk, .ref sv, .ref mt, .ref ml, .ref ad, .ref kw])), (st, .inr (7, [.ref b, .int sd, .int mv, .int gm, va_rf lt, .int w1, .int w2, .int dg, .int t1, .int t2, .int am])), (b, .inr (1, [.ref ca, .int kk, .int sg])), (ca, .inl (g.2.1, 49, .inl f)), (ad, .inr (0, [.ref be, .ref rp, .ref rl])), (rp, .inr (1, [.ref rc, .int r_1.2.2.2.1, .int r_1.2.2.2.2])), (rc, .inl (g.2.1, 49, .inl r_1.2.2.1))] H := hP
    have hD : va_D A [(ou, .inl (g.2.2.1, 1, .inr (.inl fo))), (hg, .inr (8, [.ref st, .ref tr, .ref sa, .ref sk, .ref sv, .ref mt, .ref ml, .ref ad, .ref kw])), (st, .inr (7, [.ref b, .int sd, .int mv, .int gm, va_rf lt, .int w1, .int w2, .int dg, .int t1, .int t2, .int am])), (b, .inr (1, [.ref ca, .int kk, .int sg])), (ca, .inl (g.2.1, 49, .inl f)), (ad, .inr (0, [.ref be, .ref rp, .ref rl])), (rp, .inr (1, [.ref rc, .int r_1.2.2.2.1, .int r_1.2.2.2.2])), (rc, .inl (g.2.1, 49, .inl r_1.2.2.1))] := hD
    have hP : va_P g.1 vwCl [(hg, .inr (8, [.ref st, .ref tr, .ref sa, .ref sk, .ref sv, .ref mt, .ref ml, .ref ad, .ref kw])), (st, .inr (7, [.ref b, .int sd, .int mv, .int gm, va_rf lt, .int w1, .int w2, .int dg, .int t1, .int t2, .int am])), (b, .inr (1, [.ref ca, .int kk, .int sg])), (ca, .inl (g.2.1, 49, .inl f)), (ad, .inr (0, [.ref be, .ref rp, .ref rl])), (rp, .inr (1, [.ref rc, .int r_1.2.2.2.1, .int r_1.2.2.2.2])), (rc, .inl (g.2.1, 49, .inl r_1.2.2.1)), (ou, .inl (g.2.2.1, 1, .inr (.inl fo)))] H := hP.sub [1, 2, 3, 4, 5, 6, 7, 0] rfl
    have hD : va_D A [(hg, .inr (8, [.ref st, .ref tr, .ref sa, .ref sk, .ref sv, .ref mt, .ref ml, .ref ad, .ref kw])), (st, .inr (7, [.ref b, .int sd, .int mv, .int gm, va_rf lt, .int w1, .int w2, .int dg, .int t1, .int t2, .int am])), (b, .inr (1, [.ref ca, .int kk, .int sg])), (ca, .inl (g.2.1, 49, .inl f)), (ad, .inr (0, [.ref be, .ref rp, .ref rl])), (rp, .inr (1, [.ref rc, .int r_1.2.2.2.1, .int r_1.2.2.2.2])), (rc, .inl (g.2.1, 49, .inl r_1.2.2.1)), (ou, .inl (g.2.2.1, 1, .inr (.inl fo)))] := hD.sub [1, 2, 3, 4, 5, 6, 7, 0] (by decide) rfl
    by_cases h_3 : r_1.1 = 1
    · replace hyp := ite_t h_3 hyp
      rw [h_3] at hcl
      refine catK 0 ⟨0, 17, 20, 13⟩ 1 htab rfl hown (fun z hz => nomatch hz) (by decide) (by decide) hts hSR cl_L_13 cast_1 hce hcv hcl ?_
      refine lv_astore (lv' := [(4, .ref q9), (0, .ref hg), (1, .int a1), (2, .int a2), (3, .ref ou)]) hx hb dL_wouldWin_20 hl (by decide) rfl (fun ls hl => ?_)
      refine lv_iconst (v := 1) hx hb dL_wouldWin_22 (by decide) ?_
      have hyp := some_e hyp
      subst hyp
      subst hQ
      exact xrI (na := s.heap.size) hx hb hr hlocks (Nat.le_refl _) hP hD hS (Nat.le_of_ble_eq_true rfl) (Nat.le_of_ble_eq_true rfl) dL_wouldWin_23
    · replace hyp := ite_f h_3 hyp
      by_cases h_4 : r_1.1 = 3
      · replace hyp := ite_t h_4 hyp
        rw [h_4] at hcl
        refine catK 1 ⟨0, 17, 24, 17⟩ 3 htab rfl hown (List.forall_mem_cons.mpr ⟨⟨by decide, _, hts _ cl_L_13, hNC.2.1⟩, fun z hz => nomatch hz⟩) (by decide) (by decide) hts hSR cl_L_17 cast_3 hce hcv hcl ?_
        refine lv_astore (lv' := [(4, .ref q9), (0, .ref hg), (1, .int a1), (2, .int a2), (3, .ref ou)]) hx hb dL_wouldWin_24 hl (by decide) rfl (fun ls hl => ?_)
        refine lv_iconst (v := 2) hx hb dL_wouldWin_26 (by decide) ?_
        have hyp := some_e hyp
        subst hyp
        subst hQ
        exact xrI (na := s.heap.size) hx hb hr hlocks (Nat.le_refl _) hP hD hS (Nat.le_of_ble_eq_true rfl) (Nat.le_of_ble_eq_true rfl) dL_wouldWin_27
      · replace hyp := ite_f h_4 hyp
        cases hyp
  replace hyp := ite_t hk0 hyp
  have hP : va_P g.1 vwCl [(ou, .inl (g.2.2.1, 1, .inr (.inl fo))), (hg, .inr (8, [.ref st, .ref tr, .ref sa, .ref sk, .ref sv, .ref mt, .ref ml, .ref ad, .ref kw])), (st, .inr (7, [.ref b, .int sd, .int mv, .int gm, va_rf lt, .int w1, .int w2, .int dg, .int t1, .int t2, .int am])), (b, .inr (1, [.ref ca, .int kk, .int sg])), (ca, .inl (g.2.1, 49, .inl f)), (ad, .inr (0, [.ref be, .ref rp, .ref rl])), (rp, .inr (1, [.ref rc, .int r_1.2.2.2.1, .int r_1.2.2.2.2])), (rc, .inl (g.2.1, 49, .inl r_1.2.2.1))] H := hP
  have hD : va_D A [(ou, .inl (g.2.2.1, 1, .inr (.inl fo))), (hg, .inr (8, [.ref st, .ref tr, .ref sa, .ref sk, .ref sv, .ref mt, .ref ml, .ref ad, .ref kw])), (st, .inr (7, [.ref b, .int sd, .int mv, .int gm, va_rf lt, .int w1, .int w2, .int dg, .int t1, .int t2, .int am])), (b, .inr (1, [.ref ca, .int kk, .int sg])), (ca, .inl (g.2.1, 49, .inl f)), (ad, .inr (0, [.ref be, .ref rp, .ref rl])), (rp, .inr (1, [.ref rc, .int r_1.2.2.2.1, .int r_1.2.2.2.2])), (rc, .inl (g.2.1, 49, .inl r_1.2.2.1))] := hD
  have hP : va_P g.1 vwCl [(hg, .inr (8, [.ref st, .ref tr, .ref sa, .ref sk, .ref sv, .ref mt, .ref ml, .ref ad, .ref kw])), (st, .inr (7, [.ref b, .int sd, .int mv, .int gm, va_rf lt, .int w1, .int w2, .int dg, .int t1, .int t2, .int am])), (b, .inr (1, [.ref ca, .int kk, .int sg])), (ca, .inl (g.2.1, 49, .inl f)), (ad, .inr (0, [.ref be, .ref rp, .ref rl])), (rp, .inr (1, [.ref rc, .int r_1.2.2.2.1, .int r_1.2.2.2.2])), (rc, .inl (g.2.1, 49, .inl r_1.2.2.1)), (ou, .inl (g.2.2.1, 1, .inr (.inl fo)))] H := hP.sub [1, 2, 3, 4, 5, 6, 7, 0] rfl
  have hD : va_D A [(hg, .inr (8, [.ref st, .ref tr, .ref sa, .ref sk, .ref sv, .ref mt, .ref ml, .ref ad, .ref kw])), (st, .inr (7, [.ref b, .int sd, .int mv, .int gm, va_rf lt, .int w1, .int w2, .int dg, .int t1, .int t2, .int am])), (b, .inr (1, [.ref ca, .int kk, .int sg])), (ca, .inl (g.2.1, 49, .inl f)), (ad, .inr (0, [.ref be, .ref rp, .ref rl])), (rp, .inr (1, [.ref rc, .int r_1.2.2.2.1, .int r_1.2.2.2.2])), (rc, .inl (g.2.1, 49, .inl r_1.2.2.1)), (ou, .inl (g.2.2.1, 1, .inr (.inl fo)))] := hD.sub [1, 2, 3, 4, 5, 6, 7, 0] (by decide) rfl
  obtain ⟨J_6, eJ_6, hyp⟩ := jn_e hyp
  have kJ_6 : ∀ (t_5 : Int64) (H : Heap) (locs : List Loc) (ls : Array Slot), J_6 t_5 = some r → lv_has ls 5 [] → va_P g.1 vwCl [(hg, .inr (8, [.ref st, .ref tr, .ref sa, .ref sk, .ref sv, .ref mt, .ref ml, .ref ad, .ref kw])), (st, .inr (7, [.ref b, .int sd, .int mv, .int gm, va_rf lt, .int w1, .int w2, .int dg, .int t1, .int t2, .int am])), (b, .inr (1, [.ref ca, .int kk, .int sg])), (ca, .inl (g.2.1, 49, .inl f)), (ad, .inr (0, [.ref be, .ref rp, .ref rl])), (rp, .inr (1, [.ref rc, .int r_1.2.2.2.1, .int r_1.2.2.2.2])), (rc, .inl (g.2.1, 49, .inl r_1.2.2.1)), (ou, .inl (g.2.2.1, 1, .inr (.inl fo)))] H → va_D A [(hg, .inr (8, [.ref st, .ref tr, .ref sa, .ref sk, .ref sv, .ref mt, .ref ml, .ref ad, .ref kw])), (st, .inr (7, [.ref b, .int sd, .int mv, .int gm, va_rf lt, .int w1, .int w2, .int dg, .int t1, .int t2, .int am])), (b, .inr (1, [.ref ca, .int kk, .int sg])), (ca, .inl (g.2.1, 49, .inl f)), (ad, .inr (0, [.ref be, .ref rp, .ref rl])), (rp, .inr (1, [.ref rc, .int r_1.2.2.2.1, .int r_1.2.2.2.2])), (rc, .inl (g.2.1, 49, .inl r_1.2.2.1)), (ou, .inl (g.2.2.1, 1, .inr (.inl fo)))] → va_S A s.heap H locs → W p l e R s m args below meth c H locs 2 12 Q (F0 m 16 ls [.long t_5, .int 0, .ref ou]) := by
    intro t_5 H locs  ls hyp hl hP hD hS
    replace hyp := (congrFun (eJ_6) t_5).symm.trans hyp
    obtain ⟨hi, hyp⟩ := grd_e hyp
    refine va_last hx hb hE.1 hP hD hS 7 1 rfl rfl (inB_vp hi) dL_wouldWin_16 (fun H locs hP hD hS => ?_)
    have hP : va_P g.1 vwCl [(hg, .inr (8, [.ref st, .ref tr, .ref sa, .ref sk, .ref sv, .ref mt, .ref ml, .ref ad, .ref kw])), (st, .inr (7, [.ref b, .int sd, .int mv, .int gm, va_rf lt, .int w1, .int w2, .int dg, .int t1, .int t2, .int am])), (b, .inr (1, [.ref ca, .int kk, .int sg])), (ca, .inl (g.2.1, 49, .inl f)), (ad, .inr (0, [.ref be, .ref rp, .ref rl])), (rp, .inr (1, [.ref rc, .int r_1.2.2.2.1, .int r_1.2.2.2.2])), (rc, .inl (g.2.1, 49, .inl r_1.2.2.1)), (ou, .inl (g.2.2.1, 1, .inr (.inl (vp_updL fo (0 : Int32).toNatClampNeg t_5))))] H := hP
    have hD : va_D A [(hg, .inr (8, [.ref st, .ref tr, .ref sa, .ref sk, .ref sv, .ref mt, .ref ml, .ref ad, .ref kw])), (st, .inr (7, [.ref b, .int sd, .int mv, .int gm, va_rf lt, .int w1, .int w2, .int dg, .int t1, .int t2, .int am])), (b, .inr (1, [.ref ca, .int kk, .int sg])), (ca, .inl (g.2.1, 49, .inl f)), (ad, .inr (0, [.ref be, .ref rp, .ref rl])), (rp, .inr (1, [.ref rc, .int r_1.2.2.2.1, .int r_1.2.2.2.2])), (rc, .inl (g.2.1, 49, .inl r_1.2.2.1)), (ou, .inl (g.2.2.1, 1, .inr (.inl (vp_updL fo (0 : Int32).toNatClampNeg t_5))))] := hD
    refine lv_goto (tgt := 28) hx hb dL_wouldWin_17 (by decide) ?_
    refine lv_iconst (v := 0) hx hb dL_wouldWin_28 (by decide) ?_
    have hyp := some_e hyp
    subst hyp
    subst hQ
    exact xrI (na := s.heap.size) hx hb hr hlocks (Nat.le_refl _) hP hD hS (Nat.le_of_ble_eq_true rfl) (Nat.le_of_ble_eq_true rfl) dL_wouldWin_29
  refine lv_if_eq (tgt := 15) hx hb dL_wouldWin_8 (by decide) (fun h_7 => ?_) (fun h_7 => ?_)
  · replace hyp := ite_t h_7 hyp
    refine lv_lconst (v := 0) hx hb dL_wouldWin_15 (by decide) ?_
    exact kJ_6 0 H locs ls hyp (lv_sub hl [] rfl) hP hD hS
  · replace hyp := ite_f h_7 hyp
    refine lv_lconst (v := 1) hx hb dL_wouldWin_11 (by decide) ?_
    refine lv_goto (tgt := 16) hx hb dL_wouldWin_12 (by decide) ?_
    exact kJ_6 1 H locs ls hyp (lv_sub hl [] rfl) hP hD hS

def fL_winningMoves (kk : Int32) (sg : Int32) (f : Nat → Int32) (rk : Int32) (rs : Int32) (rf : Nat → Int32) (rn : Int32) (rmf : Nat → Int32) (fo : Nat → Int64) (a1 : Int32) : Option (Int32 × (Nat → Int32) × Int32 × Int32 × (Nat → Int32) × Int32 × (Nat → Int64)) :=
  (fX8_winningMoves kk sg f rk rs rf rn rmf a1).bind (fun (r_1 : Nat × Int32 × (Nat → Int32) × Int32 × Int32 × (Nat → Int32) × Int32) => if r_1.1 = 0 then (grd (inB 0 1) (some (0, r_1.2.2.1, r_1.2.2.2.1, r_1.2.2.2.2.1, r_1.2.2.2.2.2.1, r_1.2.2.2.2.2.2, vp_updL fo (0 : Int32).toNatClampNeg r_1.2.1.toInt64))) else (if r_1.1 = 1 then (some (1, r_1.2.2.1, r_1.2.2.2.1, r_1.2.2.2.2.1, r_1.2.2.2.2.2.1, r_1.2.2.2.2.2.2, fo)) else (none)))
set_option maxRecDepth 100000 in
set_option maxHeartbeats 4000000 in
theorem mL_winningMoves (l : Launch) (hl0 : l.stackTraces = false) (g : GE) (hg st b ca ad rp rc rl rm ou tr sa sk sv mt ml kw be zc zp : Nat) (sd : Int32) (mv : Int32) (gm : Int32) (lt : Option Nat) (w1 : Int32) (w2 : Int32) (dg : Int32) (t1 : Int32) (t2 : Int32) (am : Int32) (kk : Int32) (sg : Int32) (f : Nat → Int32) (rk : Int32) (rs : Int32) (rf : Nat → Int32) (rn : Int32) (rmf : Nat → Int32) (fo : Nat → Int64) (a1 : Int32) (r : Int32 × (Nat → Int32) × Int32 × Int32 × (Nat → Int32) × Int32 × (Nat → Int64)) (hyp : fL_winningMoves kk sg f rk rs rf rn rmf fo a1 = some r) : LM l yL_winningMoves cL_winningMoves 4 [(0, 9, 12, 13)] 8 166 1 6 g [(hg, .inr (8, [.ref st, .ref tr, .ref sa, .ref sk, .ref sv, .ref mt, .ref ml, .ref ad, .ref kw])), (st, .inr (7, [.ref b, .int sd, .int mv, .int gm, va_rf lt, .int w1, .int w2, .int dg, .int t1, .int t2, .int am])), (b, .inr (1, [.ref ca, .int kk, .int sg])), (ca, .inl (g.2.1, 49, .inl f)), (ad, .inr (0, [.ref be, .ref rp, .ref rl])), (rp, .inr (1, [.ref rc, .int rk, .int rs])), (rc, .inl (g.2.1, 49, .inl rf)), (rl, .inr (3, [.ref rm, .int rn])), (rm, .inl (g.2.1, 588, .inl rmf)), (ou, .inl (g.2.2.1, 1, .inr (.inl fo)))] (OZ g zc zp [] none) [.ref hg, .int a1, .ref ou] (some (.int r.1)) (fun na => [(hg, .inr (8, [.ref st, .ref tr, .ref sa, .ref sk, .ref sv, .ref mt, .ref ml, .ref ad, .ref kw])), (st, .inr (7, [.ref b, .int sd, .int mv, .int gm, va_rf lt, .int w1, .int w2, .int dg, .int t1, .int t2, .int am])), (b, .inr (1, [.ref ca, .int kk, .int sg])), (ca, .inl (g.2.1, 49, .inl f)), (ad, .inr (0, [.ref be, .ref rp, .ref rl])), (rp, .inr (1, [.ref rc, .int r.2.2.1, .int r.2.2.2.1])), (rc, .inl (g.2.1, 49, .inl r.2.1)), (rl, .inr (3, [.ref rm, .int r.2.2.2.2.2.1])), (rm, .inl (g.2.1, 588, .inl r.2.2.2.2.1)), (ou, .inl (g.2.2.1, 1, .inr (.inl r.2.2.2.2.2.2)))]) := by
  refine metL_intro (by decide) rfl ?_
  intro p e R s m args below meth c Q A hRf hRl hRc hRs hQ hx hb hml hr hlocks htab hown hts hin hE hSR hNC hA hO H locs hP hD hS ls hl
  have hown : s.vm.findClass "HallGuardsLaw" = some m.cls := hown
  have hl : lv_has ls 4 [(0, .ref hg), (1, .int a1), (2, .ref ou)] := hl
  unfold fL_winningMoves at hyp
  refine lv_aload_n hx hb dL_winningMoves_0 rfl (lv_at hl 2 rfl) ?_
  refine lv_iconst (v := 0) hx hb dL_winningMoves_1 (by decide) ?_
  refine lv_aload_n hx hb dL_winningMoves_2 rfl (lv_at hl 0 rfl) ?_
  refine lv_iload_n hx hb dL_winningMoves_3 rfl (lv_at hl 1 rfl) ?_
  obtain ⟨r_1, hr_1, hyp⟩ := opt_e hyp
  refine xV (As := [.int a1]) (rest := [.int 0, .ref ou]) ⟨hx, hb, hml, hown, hts⟩ hE hSR (mX8_winningMoves l hl0 g hg st b ca ad rp rc rl rm tr sa sk sv mt ml kw be zc zp sd mv gm lt w1 w2 dg t1 t2 am kk sg f rk rs rf rn rmf a1 r_1 hr_1) (OZ_ok g zc zp _ _) hO cf_X8_winningMoves im_X8_winningMoves se_X8_winningMoves ml_L_85 ⟨Nat.le_trans (Nat.le_of_ble_eq_true rfl) hRf, Nat.le_trans (Nat.le_of_ble_eq_true rfl) hRl⟩ hP hD hS hA [0, 1, 2, 3, 4, 5, 6, 7, 8] [9] rfl (wr := [(ou, .inl (g.2.2.1, 1, .inr (.inl fo)))]) rfl ⟨by decide, by decide⟩ (by decide) (ci := 8) (q0 := 0) rfl rfl rfl rfl hl.1 rfl (Nat.le_of_ble_eq_true rfl) dL_winningMoves_4 ⟨Nat.le_trans (Nat.le_of_ble_eq_true rfl) hRc, Nat.le_trans (Nat.le_of_ble_eq_true rfl) hRs⟩ (fun hk0 na_2 H locs hna_2 hP hD hS => ?_) (fun hk0 na9 q9 ce9 H locs hna9 hP hD hS hce hcv hcl => ?_)
  rotate_left 1
  · replace hyp := ite_f hk0 hyp
    have hP : va_P g.1 vwCl [(ou, .inl (g.2.2.1, 1, .inr (.inl fo))), (hg, .inr (8, [.ref st, .ref tr, .ref sa, .ref sk, .ref sv, .ref mt, .ref ml, .ref ad, .ref kw])), (st, .inr (7, [.ref b, .int sd, .int mv, .int gm, va_rf lt, .int w1, .int w2, .int dg, .int t1, .int t2, .int am])), (b, .inr (1, [.ref ca, .int kk, .int sg])), (ca, .inl (g.2.1, 49, .inl f)), (ad, .inr (0, [.ref be, .ref rp, .ref rl])), (rp, .inr (1, [.ref rc, .int r_1.2.2.2.1, .int r_1.2.2.2.2.1])), (rc, .inl (g.2.1, 49, .inl r_1.2.2.1)), (rl, .inr (3, [.ref rm, .int r_1.2.2.2.2.2.2])), (rm, .inl (g.2.1, 588, .inl r_1.2.2.2.2.2.1))] H := hP
    have hD : va_D A [(ou, .inl (g.2.2.1, 1, .inr (.inl fo))), (hg, .inr (8, [.ref st, .ref tr, .ref sa, .ref sk, .ref sv, .ref mt, .ref ml, .ref ad, .ref kw])), (st, .inr (7, [.ref b, .int sd, .int mv, .int gm, va_rf lt, .int w1, .int w2, .int dg, .int t1, .int t2, .int am])), (b, .inr (1, [.ref ca, .int kk, .int sg])), (ca, .inl (g.2.1, 49, .inl f)), (ad, .inr (0, [.ref be, .ref rp, .ref rl])), (rp, .inr (1, [.ref rc, .int r_1.2.2.2.1, .int r_1.2.2.2.2.1])), (rc, .inl (g.2.1, 49, .inl r_1.2.2.1)), (rl, .inr (3, [.ref rm, .int r_1.2.2.2.2.2.2])), (rm, .inl (g.2.1, 588, .inl r_1.2.2.2.2.2.1))] := hD
    have hP : va_P g.1 vwCl [(hg, .inr (8, [.ref st, .ref tr, .ref sa, .ref sk, .ref sv, .ref mt, .ref ml, .ref ad, .ref kw])), (st, .inr (7, [.ref b, .int sd, .int mv, .int gm, va_rf lt, .int w1, .int w2, .int dg, .int t1, .int t2, .int am])), (b, .inr (1, [.ref ca, .int kk, .int sg])), (ca, .inl (g.2.1, 49, .inl f)), (ad, .inr (0, [.ref be, .ref rp, .ref rl])), (rp, .inr (1, [.ref rc, .int r_1.2.2.2.1, .int r_1.2.2.2.2.1])), (rc, .inl (g.2.1, 49, .inl r_1.2.2.1)), (rl, .inr (3, [.ref rm, .int r_1.2.2.2.2.2.2])), (rm, .inl (g.2.1, 588, .inl r_1.2.2.2.2.2.1)), (ou, .inl (g.2.2.1, 1, .inr (.inl fo)))] H := hP.sub [1, 2, 3, 4, 5, 6, 7, 8, 9, 0] rfl
    have hD : va_D A [(hg, .inr (8, [.ref st, .ref tr, .ref sa, .ref sk, .ref sv, .ref mt, .ref ml, .ref ad, .ref kw])), (st, .inr (7, [.ref b, .int sd, .int mv, .int gm, va_rf lt, .int w1, .int w2, .int dg, .int t1, .int t2, .int am])), (b, .inr (1, [.ref ca, .int kk, .int sg])), (ca, .inl (g.2.1, 49, .inl f)), (ad, .inr (0, [.ref be, .ref rp, .ref rl])), (rp, .inr (1, [.ref rc, .int r_1.2.2.2.1, .int r_1.2.2.2.2.1])), (rc, .inl (g.2.1, 49, .inl r_1.2.2.1)), (rl, .inr (3, [.ref rm, .int r_1.2.2.2.2.2.2])), (rm, .inl (g.2.1, 588, .inl r_1.2.2.2.2.2.1)), (ou, .inl (g.2.2.1, 1, .inr (.inl fo)))] := hD.sub [1, 2, 3, 4, 5, 6, 7, 8, 9, 0] (by decide) rfl
    by_cases h_3 : r_1.1 = 1
    · replace hyp := ite_t h_3 hyp
      rw [h_3] at hcl
      refine catK 0 ⟨0, 9, 12, 13⟩ 1 htab rfl hown (fun z hz => nomatch hz) (by decide) (by decide) hts hSR cl_L_13 cast_1 hce hcv hcl ?_
      refine lv_astore_n (lv' := [(3, .ref q9), (0, .ref hg), (1, .int a1), (2, .ref ou)]) hx hb dL_winningMoves_12 rfl hl (by decide) rfl (fun ls hl => ?_)
      refine lv_iconst (v := 1) hx hb dL_winningMoves_13 (by decide) ?_
      have hyp := some_e hyp
      subst hyp
      subst hQ
      exact xrI (na := s.heap.size) hx hb hr hlocks (Nat.le_refl _) hP hD hS (Nat.le_of_ble_eq_true rfl) (Nat.le_of_ble_eq_true rfl) dL_winningMoves_14
    · replace hyp := ite_f h_3 hyp
      cases hyp
  replace hyp := ite_t hk0 hyp
  have hP : va_P g.1 vwCl [(ou, .inl (g.2.2.1, 1, .inr (.inl fo))), (hg, .inr (8, [.ref st, .ref tr, .ref sa, .ref sk, .ref sv, .ref mt, .ref ml, .ref ad, .ref kw])), (st, .inr (7, [.ref b, .int sd, .int mv, .int gm, va_rf lt, .int w1, .int w2, .int dg, .int t1, .int t2, .int am])), (b, .inr (1, [.ref ca, .int kk, .int sg])), (ca, .inl (g.2.1, 49, .inl f)), (ad, .inr (0, [.ref be, .ref rp, .ref rl])), (rp, .inr (1, [.ref rc, .int r_1.2.2.2.1, .int r_1.2.2.2.2.1])), (rc, .inl (g.2.1, 49, .inl r_1.2.2.1)), (rl, .inr (3, [.ref rm, .int r_1.2.2.2.2.2.2])), (rm, .inl (g.2.1, 588, .inl r_1.2.2.2.2.2.1))] H := hP
  have hD : va_D A [(ou, .inl (g.2.2.1, 1, .inr (.inl fo))), (hg, .inr (8, [.ref st, .ref tr, .ref sa, .ref sk, .ref sv, .ref mt, .ref ml, .ref ad, .ref kw])), (st, .inr (7, [.ref b, .int sd, .int mv, .int gm, va_rf lt, .int w1, .int w2, .int dg, .int t1, .int t2, .int am])), (b, .inr (1, [.ref ca, .int kk, .int sg])), (ca, .inl (g.2.1, 49, .inl f)), (ad, .inr (0, [.ref be, .ref rp, .ref rl])), (rp, .inr (1, [.ref rc, .int r_1.2.2.2.1, .int r_1.2.2.2.2.1])), (rc, .inl (g.2.1, 49, .inl r_1.2.2.1)), (rl, .inr (3, [.ref rm, .int r_1.2.2.2.2.2.2])), (rm, .inl (g.2.1, 588, .inl r_1.2.2.2.2.2.1))] := hD
  refine lv_i2l hx hb dL_winningMoves_7 rfl ?_
  obtain ⟨hi, hyp⟩ := grd_e hyp
  refine va_last hx hb hE.1 hP hD hS 0 1 rfl rfl (inB_vp hi) dL_winningMoves_8 (fun H locs hP hD hS => ?_)
  have hP : va_P g.1 vwCl [(ou, .inl (g.2.2.1, 1, .inr (.inl (vp_updL fo (0 : Int32).toNatClampNeg r_1.2.1.toInt64)))), (hg, .inr (8, [.ref st, .ref tr, .ref sa, .ref sk, .ref sv, .ref mt, .ref ml, .ref ad, .ref kw])), (st, .inr (7, [.ref b, .int sd, .int mv, .int gm, va_rf lt, .int w1, .int w2, .int dg, .int t1, .int t2, .int am])), (b, .inr (1, [.ref ca, .int kk, .int sg])), (ca, .inl (g.2.1, 49, .inl f)), (ad, .inr (0, [.ref be, .ref rp, .ref rl])), (rp, .inr (1, [.ref rc, .int r_1.2.2.2.1, .int r_1.2.2.2.2.1])), (rc, .inl (g.2.1, 49, .inl r_1.2.2.1)), (rl, .inr (3, [.ref rm, .int r_1.2.2.2.2.2.2])), (rm, .inl (g.2.1, 588, .inl r_1.2.2.2.2.2.1))] H := hP
  have hD : va_D A [(ou, .inl (g.2.2.1, 1, .inr (.inl (vp_updL fo (0 : Int32).toNatClampNeg r_1.2.1.toInt64)))), (hg, .inr (8, [.ref st, .ref tr, .ref sa, .ref sk, .ref sv, .ref mt, .ref ml, .ref ad, .ref kw])), (st, .inr (7, [.ref b, .int sd, .int mv, .int gm, va_rf lt, .int w1, .int w2, .int dg, .int t1, .int t2, .int am])), (b, .inr (1, [.ref ca, .int kk, .int sg])), (ca, .inl (g.2.1, 49, .inl f)), (ad, .inr (0, [.ref be, .ref rp, .ref rl])), (rp, .inr (1, [.ref rc, .int r_1.2.2.2.1, .int r_1.2.2.2.2.1])), (rc, .inl (g.2.1, 49, .inl r_1.2.2.1)), (rl, .inr (3, [.ref rm, .int r_1.2.2.2.2.2.2])), (rm, .inl (g.2.1, 588, .inl r_1.2.2.2.2.2.1))] := hD
  refine lv_goto (tgt := 15) hx hb dL_winningMoves_9 (by decide) ?_
  refine lv_iconst (v := 0) hx hb dL_winningMoves_15 (by decide) ?_
  have hP : va_P g.1 vwCl [(hg, .inr (8, [.ref st, .ref tr, .ref sa, .ref sk, .ref sv, .ref mt, .ref ml, .ref ad, .ref kw])), (st, .inr (7, [.ref b, .int sd, .int mv, .int gm, va_rf lt, .int w1, .int w2, .int dg, .int t1, .int t2, .int am])), (b, .inr (1, [.ref ca, .int kk, .int sg])), (ca, .inl (g.2.1, 49, .inl f)), (ad, .inr (0, [.ref be, .ref rp, .ref rl])), (rp, .inr (1, [.ref rc, .int r_1.2.2.2.1, .int r_1.2.2.2.2.1])), (rc, .inl (g.2.1, 49, .inl r_1.2.2.1)), (rl, .inr (3, [.ref rm, .int r_1.2.2.2.2.2.2])), (rm, .inl (g.2.1, 588, .inl r_1.2.2.2.2.2.1)), (ou, .inl (g.2.2.1, 1, .inr (.inl (vp_updL fo (0 : Int32).toNatClampNeg r_1.2.1.toInt64))))] H := hP.sub [1, 2, 3, 4, 5, 6, 7, 8, 9, 0] rfl
  have hD : va_D A [(hg, .inr (8, [.ref st, .ref tr, .ref sa, .ref sk, .ref sv, .ref mt, .ref ml, .ref ad, .ref kw])), (st, .inr (7, [.ref b, .int sd, .int mv, .int gm, va_rf lt, .int w1, .int w2, .int dg, .int t1, .int t2, .int am])), (b, .inr (1, [.ref ca, .int kk, .int sg])), (ca, .inl (g.2.1, 49, .inl f)), (ad, .inr (0, [.ref be, .ref rp, .ref rl])), (rp, .inr (1, [.ref rc, .int r_1.2.2.2.1, .int r_1.2.2.2.2.1])), (rc, .inl (g.2.1, 49, .inl r_1.2.2.1)), (rl, .inr (3, [.ref rm, .int r_1.2.2.2.2.2.2])), (rm, .inl (g.2.1, 588, .inl r_1.2.2.2.2.2.1)), (ou, .inl (g.2.2.1, 1, .inr (.inl (vp_updL fo (0 : Int32).toNatClampNeg r_1.2.1.toInt64))))] := hD.sub [1, 2, 3, 4, 5, 6, 7, 8, 9, 0] (by decide) rfl
  have hyp := some_e hyp
  subst hyp
  subst hQ
  exact xrI (na := s.heap.size) hx hb hr hlocks (Nat.le_refl _) hP hD hS (Nat.le_of_ble_eq_true rfl) (Nat.le_of_ble_eq_true rfl) dL_winningMoves_16

def fL_moveAt (f : Nat → Int32) (cnt : Int32) (mf : Nat → Int32) (fo : Nat → Int64) (a1 : Int32) (a2 : Int32) : Option (Int32 × (Nat → Int32) × Int32 × (Nat → Int64)) :=
  (fX8_moveAt f cnt mf a1 a2).bind (fun (r_1 : Nat × Int32 × (Nat → Int32) × Int32) => if r_1.1 = 0 then (grd (inB 0 1) (some (0, r_1.2.2.1, r_1.2.2.2, vp_updL fo (0 : Int32).toNatClampNeg r_1.2.1.toInt64))) else (if r_1.1 = 1 then (some (1, r_1.2.2.1, r_1.2.2.2, fo)) else (none)))
set_option maxRecDepth 100000 in
set_option maxHeartbeats 4000000 in
theorem mL_moveAt (l : Launch) (hl0 : l.stackTraces = false) (g : GE) (hg st b ca ml mc ou tr sa sk sv mt ad kw zc zp : Nat) (sd : Int32) (mv : Int32) (gm : Int32) (lt : Option Nat) (w1 : Int32) (w2 : Int32) (dg : Int32) (t1 : Int32) (t2 : Int32) (am : Int32) (kk : Int32) (sg : Int32) (f : Nat → Int32) (cnt : Int32) (mf : Nat → Int32) (fo : Nat → Int64) (a1 : Int32) (a2 : Int32) (r : Int32 × (Nat → Int32) × Int32 × (Nat → Int64)) (hyp : fL_moveAt f cnt mf fo a1 a2 = some r) : LM l yL_moveAt cL_moveAt 5 [(0, 10, 13, 13)] 8 132 2 12 g [(hg, .inr (8, [.ref st, .ref tr, .ref sa, .ref sk, .ref sv, .ref mt, .ref ml, .ref ad, .ref kw])), (st, .inr (7, [.ref b, .int sd, .int mv, .int gm, va_rf lt, .int w1, .int w2, .int dg, .int t1, .int t2, .int am])), (b, .inr (1, [.ref ca, .int kk, .int sg])), (ca, .inl (g.2.1, 49, .inl f)), (ml, .inr (3, [.ref mc, .int cnt])), (mc, .inl (g.2.1, 588, .inl mf)), (ou, .inl (g.2.2.1, 1, .inr (.inl fo)))] (OZ g zc zp [] none) [.ref hg, .int a1, .int a2, .ref ou] (some (.int r.1)) (fun na => [(hg, .inr (8, [.ref st, .ref tr, .ref sa, .ref sk, .ref sv, .ref mt, .ref ml, .ref ad, .ref kw])), (st, .inr (7, [.ref b, .int sd, .int mv, .int gm, va_rf lt, .int w1, .int w2, .int dg, .int t1, .int t2, .int am])), (b, .inr (1, [.ref ca, .int kk, .int sg])), (ca, .inl (g.2.1, 49, .inl f)), (ml, .inr (3, [.ref mc, .int r.2.2.1])), (mc, .inl (g.2.1, 588, .inl r.2.1)), (ou, .inl (g.2.2.1, 1, .inr (.inl r.2.2.2)))]) := by
  refine metL_intro (by decide) rfl ?_
  intro p e R s m args below meth c Q A hRf hRl hRc hRs hQ hx hb hml hr hlocks htab hown hts hin hE hSR hNC hA hO H locs hP hD hS ls hl
  have hown : s.vm.findClass "HallGuardsLaw" = some m.cls := hown
  have hl : lv_has ls 5 [(0, .ref hg), (1, .int a1), (2, .int a2), (3, .ref ou)] := hl
  unfold fL_moveAt at hyp
  refine lv_aload_n hx hb dL_moveAt_0 rfl (lv_at hl 3 rfl) ?_
  refine lv_iconst (v := 0) hx hb dL_moveAt_1 (by decide) ?_
  refine lv_aload_n hx hb dL_moveAt_2 rfl (lv_at hl 0 rfl) ?_
  refine lv_iload_n hx hb dL_moveAt_3 rfl (lv_at hl 1 rfl) ?_
  refine lv_iload_n hx hb dL_moveAt_4 rfl (lv_at hl 2 rfl) ?_
  obtain ⟨r_1, hr_1, hyp⟩ := opt_e hyp
  refine xV (As := [.int a1, .int a2]) (rest := [.int 0, .ref ou]) ⟨hx, hb, hml, hown, hts⟩ hE hSR (mX8_moveAt l hl0 g hg st b ca ml mc tr sa sk sv mt ad kw zc zp sd mv gm lt w1 w2 dg t1 t2 am kk sg f cnt mf a1 a2 r_1 hr_1) (OZ_ok g zc zp _ _) hO cf_X8_moveAt im_X8_moveAt se_X8_moveAt ml_L_88 ⟨Nat.le_trans (Nat.le_of_ble_eq_true rfl) hRf, Nat.le_trans (Nat.le_of_ble_eq_true rfl) hRl⟩ hP hD hS hA [0, 1, 2, 3, 4, 5] [6] rfl (wr := [(ou, .inl (g.2.2.1, 1, .inr (.inl fo)))]) rfl ⟨by decide, by decide⟩ (by decide) (ci := 8) (q0 := 0) rfl rfl rfl rfl hl.1 rfl (Nat.le_of_ble_eq_true rfl) dL_moveAt_5 ⟨Nat.le_trans (Nat.le_of_ble_eq_true rfl) hRc, Nat.le_trans (Nat.le_of_ble_eq_true rfl) hRs⟩ (fun hk0 na_2 H locs hna_2 hP hD hS => ?_) (fun hk0 na9 q9 ce9 H locs hna9 hP hD hS hce hcv hcl => ?_)
  rotate_left 1
  · replace hyp := ite_f hk0 hyp
    have hP : va_P g.1 vwCl [(ou, .inl (g.2.2.1, 1, .inr (.inl fo))), (hg, .inr (8, [.ref st, .ref tr, .ref sa, .ref sk, .ref sv, .ref mt, .ref ml, .ref ad, .ref kw])), (st, .inr (7, [.ref b, .int sd, .int mv, .int gm, va_rf lt, .int w1, .int w2, .int dg, .int t1, .int t2, .int am])), (b, .inr (1, [.ref ca, .int kk, .int sg])), (ca, .inl (g.2.1, 49, .inl f)), (ml, .inr (3, [.ref mc, .int r_1.2.2.2])), (mc, .inl (g.2.1, 588, .inl r_1.2.2.1))] H := hP
    have hD : va_D A [(ou, .inl (g.2.2.1, 1, .inr (.inl fo))), (hg, .inr (8, [.ref st, .ref tr, .ref sa, .ref sk, .ref sv, .ref mt, .ref ml, .ref ad, .ref kw])), (st, .inr (7, [.ref b, .int sd, .int mv, .int gm, va_rf lt, .int w1, .int w2, .int dg, .int t1, .int t2, .int am])), (b, .inr (1, [.ref ca, .int kk, .int sg])), (ca, .inl (g.2.1, 49, .inl f)), (ml, .inr (3, [.ref mc, .int r_1.2.2.2])), (mc, .inl (g.2.1, 588, .inl r_1.2.2.1))] := hD
    have hP : va_P g.1 vwCl [(hg, .inr (8, [.ref st, .ref tr, .ref sa, .ref sk, .ref sv, .ref mt, .ref ml, .ref ad, .ref kw])), (st, .inr (7, [.ref b, .int sd, .int mv, .int gm, va_rf lt, .int w1, .int w2, .int dg, .int t1, .int t2, .int am])), (b, .inr (1, [.ref ca, .int kk, .int sg])), (ca, .inl (g.2.1, 49, .inl f)), (ml, .inr (3, [.ref mc, .int r_1.2.2.2])), (mc, .inl (g.2.1, 588, .inl r_1.2.2.1)), (ou, .inl (g.2.2.1, 1, .inr (.inl fo)))] H := hP.sub [1, 2, 3, 4, 5, 6, 0] rfl
    have hD : va_D A [(hg, .inr (8, [.ref st, .ref tr, .ref sa, .ref sk, .ref sv, .ref mt, .ref ml, .ref ad, .ref kw])), (st, .inr (7, [.ref b, .int sd, .int mv, .int gm, va_rf lt, .int w1, .int w2, .int dg, .int t1, .int t2, .int am])), (b, .inr (1, [.ref ca, .int kk, .int sg])), (ca, .inl (g.2.1, 49, .inl f)), (ml, .inr (3, [.ref mc, .int r_1.2.2.2])), (mc, .inl (g.2.1, 588, .inl r_1.2.2.1)), (ou, .inl (g.2.2.1, 1, .inr (.inl fo)))] := hD.sub [1, 2, 3, 4, 5, 6, 0] (by decide) rfl
    by_cases h_3 : r_1.1 = 1
    · replace hyp := ite_t h_3 hyp
      rw [h_3] at hcl
      refine catK 0 ⟨0, 10, 13, 13⟩ 1 htab rfl hown (fun z hz => nomatch hz) (by decide) (by decide) hts hSR cl_L_13 cast_1 hce hcv hcl ?_
      refine lv_astore (lv' := [(4, .ref q9), (0, .ref hg), (1, .int a1), (2, .int a2), (3, .ref ou)]) hx hb dL_moveAt_13 hl (by decide) rfl (fun ls hl => ?_)
      refine lv_iconst (v := 1) hx hb dL_moveAt_15 (by decide) ?_
      have hyp := some_e hyp
      subst hyp
      subst hQ
      exact xrI (na := s.heap.size) hx hb hr hlocks (Nat.le_refl _) hP hD hS (Nat.le_of_ble_eq_true rfl) (Nat.le_of_ble_eq_true rfl) dL_moveAt_16
    · replace hyp := ite_f h_3 hyp
      cases hyp
  replace hyp := ite_t hk0 hyp
  have hP : va_P g.1 vwCl [(ou, .inl (g.2.2.1, 1, .inr (.inl fo))), (hg, .inr (8, [.ref st, .ref tr, .ref sa, .ref sk, .ref sv, .ref mt, .ref ml, .ref ad, .ref kw])), (st, .inr (7, [.ref b, .int sd, .int mv, .int gm, va_rf lt, .int w1, .int w2, .int dg, .int t1, .int t2, .int am])), (b, .inr (1, [.ref ca, .int kk, .int sg])), (ca, .inl (g.2.1, 49, .inl f)), (ml, .inr (3, [.ref mc, .int r_1.2.2.2])), (mc, .inl (g.2.1, 588, .inl r_1.2.2.1))] H := hP
  have hD : va_D A [(ou, .inl (g.2.2.1, 1, .inr (.inl fo))), (hg, .inr (8, [.ref st, .ref tr, .ref sa, .ref sk, .ref sv, .ref mt, .ref ml, .ref ad, .ref kw])), (st, .inr (7, [.ref b, .int sd, .int mv, .int gm, va_rf lt, .int w1, .int w2, .int dg, .int t1, .int t2, .int am])), (b, .inr (1, [.ref ca, .int kk, .int sg])), (ca, .inl (g.2.1, 49, .inl f)), (ml, .inr (3, [.ref mc, .int r_1.2.2.2])), (mc, .inl (g.2.1, 588, .inl r_1.2.2.1))] := hD
  refine lv_i2l hx hb dL_moveAt_8 rfl ?_
  obtain ⟨hi, hyp⟩ := grd_e hyp
  refine va_last hx hb hE.1 hP hD hS 0 1 rfl rfl (inB_vp hi) dL_moveAt_9 (fun H locs hP hD hS => ?_)
  have hP : va_P g.1 vwCl [(ou, .inl (g.2.2.1, 1, .inr (.inl (vp_updL fo (0 : Int32).toNatClampNeg r_1.2.1.toInt64)))), (hg, .inr (8, [.ref st, .ref tr, .ref sa, .ref sk, .ref sv, .ref mt, .ref ml, .ref ad, .ref kw])), (st, .inr (7, [.ref b, .int sd, .int mv, .int gm, va_rf lt, .int w1, .int w2, .int dg, .int t1, .int t2, .int am])), (b, .inr (1, [.ref ca, .int kk, .int sg])), (ca, .inl (g.2.1, 49, .inl f)), (ml, .inr (3, [.ref mc, .int r_1.2.2.2])), (mc, .inl (g.2.1, 588, .inl r_1.2.2.1))] H := hP
  have hD : va_D A [(ou, .inl (g.2.2.1, 1, .inr (.inl (vp_updL fo (0 : Int32).toNatClampNeg r_1.2.1.toInt64)))), (hg, .inr (8, [.ref st, .ref tr, .ref sa, .ref sk, .ref sv, .ref mt, .ref ml, .ref ad, .ref kw])), (st, .inr (7, [.ref b, .int sd, .int mv, .int gm, va_rf lt, .int w1, .int w2, .int dg, .int t1, .int t2, .int am])), (b, .inr (1, [.ref ca, .int kk, .int sg])), (ca, .inl (g.2.1, 49, .inl f)), (ml, .inr (3, [.ref mc, .int r_1.2.2.2])), (mc, .inl (g.2.1, 588, .inl r_1.2.2.1))] := hD
  refine lv_goto (tgt := 17) hx hb dL_moveAt_10 (by decide) ?_
  refine lv_iconst (v := 0) hx hb dL_moveAt_17 (by decide) ?_
  have hP : va_P g.1 vwCl [(hg, .inr (8, [.ref st, .ref tr, .ref sa, .ref sk, .ref sv, .ref mt, .ref ml, .ref ad, .ref kw])), (st, .inr (7, [.ref b, .int sd, .int mv, .int gm, va_rf lt, .int w1, .int w2, .int dg, .int t1, .int t2, .int am])), (b, .inr (1, [.ref ca, .int kk, .int sg])), (ca, .inl (g.2.1, 49, .inl f)), (ml, .inr (3, [.ref mc, .int r_1.2.2.2])), (mc, .inl (g.2.1, 588, .inl r_1.2.2.1)), (ou, .inl (g.2.2.1, 1, .inr (.inl (vp_updL fo (0 : Int32).toNatClampNeg r_1.2.1.toInt64))))] H := hP.sub [1, 2, 3, 4, 5, 6, 0] rfl
  have hD : va_D A [(hg, .inr (8, [.ref st, .ref tr, .ref sa, .ref sk, .ref sv, .ref mt, .ref ml, .ref ad, .ref kw])), (st, .inr (7, [.ref b, .int sd, .int mv, .int gm, va_rf lt, .int w1, .int w2, .int dg, .int t1, .int t2, .int am])), (b, .inr (1, [.ref ca, .int kk, .int sg])), (ca, .inl (g.2.1, 49, .inl f)), (ml, .inr (3, [.ref mc, .int r_1.2.2.2])), (mc, .inl (g.2.1, 588, .inl r_1.2.2.1)), (ou, .inl (g.2.2.1, 1, .inr (.inl (vp_updL fo (0 : Int32).toNatClampNeg r_1.2.1.toInt64))))] := hD.sub [1, 2, 3, 4, 5, 6, 0] (by decide) rfl
  have hyp := some_e hyp
  subst hyp
  subst hQ
  exact xrI (na := s.heap.size) hx hb hr hlocks (Nat.le_refl _) hP hD hS (Nat.le_of_ble_eq_true rfl) (Nat.le_of_ble_eq_true rfl) dL_moveAt_18

def fL_kingMovesByRounds (kk : Int32) (f : Nat → Int32) (krf : Nat → Int32) (kqf : Nat → Int32) (fo : Nat → Int64) : Option (Int32 × (Nat → Int32) × (Nat → Int32) × Int32 × (Nat → Int64)) :=
  (fX8_kingMovesByRounds kk f krf kqf).bind (fun (r_1 : Nat × Int32 × (Nat → Int32) × (Nat → Int32) × Int32) => if r_1.1 = 0 then (grd (inB 0 1) (some (0, r_1.2.2.1, r_1.2.2.2.1, r_1.2.2.2.2, vp_updL fo (0 : Int32).toNatClampNeg r_1.2.1.toInt64))) else (if r_1.1 = 3 then (some (1, r_1.2.2.1, r_1.2.2.2.1, r_1.2.2.2.2, fo)) else (none)))
set_option maxRecDepth 100000 in
set_option maxHeartbeats 4000000 in
theorem mL_kingMovesByRounds (l : Launch) (hl0 : l.stackTraces = false) (g : GE) (hg st b ca kw kr kq ou tr sa sk sv mt ml ad zc zp : Nat) (sd : Int32) (mv : Int32) (gm : Int32) (lt : Option Nat) (w1 : Int32) (w2 : Int32) (dg : Int32) (t1 : Int32) (t2 : Int32) (am : Int32) (kk : Int32) (sg : Int32) (f : Nat → Int32) (kc : Int32) (krf : Nat → Int32) (kqf : Nat → Int32) (fo : Nat → Int64) (r : Int32 × (Nat → Int32) × (Nat → Int32) × Int32 × (Nat → Int64)) (hyp : fL_kingMovesByRounds kk f krf kqf fo = some r) : LM l yL_kingMovesByRounds cL_kingMovesByRounds 3 [(0, 8, 11, 17)] 7 139 1 6 g [(hg, .inr (8, [.ref st, .ref tr, .ref sa, .ref sk, .ref sv, .ref mt, .ref ml, .ref ad, .ref kw])), (st, .inr (7, [.ref b, .int sd, .int mv, .int gm, va_rf lt, .int w1, .int w2, .int dg, .int t1, .int t2, .int am])), (b, .inr (1, [.ref ca, .int kk, .int sg])), (ca, .inl (g.2.1, 49, .inl f)), (kw, .inr (2, [.ref kr, .ref kq, .int kc])), (kr, .inl (g.2.1, 49, .inl krf)), (kq, .inl (g.2.1, 49, .inl kqf)), (ou, .inl (g.2.2.1, 1, .inr (.inl fo)))] (OZ g zc zp [] none) [.ref hg, .ref ou] (some (.int r.1)) (fun na => [(hg, .inr (8, [.ref st, .ref tr, .ref sa, .ref sk, .ref sv, .ref mt, .ref ml, .ref ad, .ref kw])), (st, .inr (7, [.ref b, .int sd, .int mv, .int gm, va_rf lt, .int w1, .int w2, .int dg, .int t1, .int t2, .int am])), (b, .inr (1, [.ref ca, .int kk, .int sg])), (ca, .inl (g.2.1, 49, .inl f)), (kw, .inr (2, [.ref kr, .ref kq, .int r.2.2.2.1])), (kr, .inl (g.2.1, 49, .inl r.2.1)), (kq, .inl (g.2.1, 49, .inl r.2.2.1)), (ou, .inl (g.2.2.1, 1, .inr (.inl r.2.2.2.2)))]) := by
  refine metL_intro (by decide) rfl ?_
  intro p e R s m args below meth c Q A hRf hRl hRc hRs hQ hx hb hml hr hlocks htab hown hts hin hE hSR hNC hA hO H locs hP hD hS ls hl
  have hown : s.vm.findClass "HallGuardsLaw" = some m.cls := hown
  have hl : lv_has ls 3 [(0, .ref hg), (1, .ref ou)] := hl
  unfold fL_kingMovesByRounds at hyp
  refine lv_aload_n hx hb dL_kingMovesByRounds_0 rfl (lv_at hl 1 rfl) ?_
  refine lv_iconst (v := 0) hx hb dL_kingMovesByRounds_1 (by decide) ?_
  refine lv_aload_n hx hb dL_kingMovesByRounds_2 rfl (lv_at hl 0 rfl) ?_
  obtain ⟨r_1, hr_1, hyp⟩ := opt_e hyp
  refine xV (As := []) (rest := [.int 0, .ref ou]) ⟨hx, hb, hml, hown, hts⟩ hE hSR (mX8_kingMovesByRounds l hl0 g hg st b ca kw kr kq tr sa sk sv mt ml ad zc zp sd mv gm lt w1 w2 dg t1 t2 am kk sg f kc krf kqf r_1 hr_1) (OZ_ok g zc zp _ _) hO cf_X8_kingMovesByRounds im_X8_kingMovesByRounds se_X8_kingMovesByRounds ml_L_91 ⟨Nat.le_trans (Nat.le_of_ble_eq_true rfl) hRf, Nat.le_trans (Nat.le_of_ble_eq_true rfl) hRl⟩ hP hD hS hA [0, 1, 2, 3, 4, 5, 6] [7] rfl (wr := [(ou, .inl (g.2.2.1, 1, .inr (.inl fo)))]) rfl ⟨by decide, by decide⟩ (by decide) (ci := 8) (q0 := 0) rfl rfl rfl rfl hl.1 rfl (Nat.le_of_ble_eq_true rfl) dL_kingMovesByRounds_3 ⟨Nat.le_trans (Nat.le_of_ble_eq_true rfl) hRc, Nat.le_trans (Nat.le_of_ble_eq_true rfl) hRs⟩ (fun hk0 na_2 H locs hna_2 hP hD hS => ?_) (fun hk0 na9 q9 ce9 H locs hna9 hP hD hS hce hcv hcl => ?_)
  rotate_left 1
  · replace hyp := ite_f hk0 hyp
    have hP : va_P g.1 vwCl [(ou, .inl (g.2.2.1, 1, .inr (.inl fo))), (hg, .inr (8, [.ref st, .ref tr, .ref sa, .ref sk, .ref sv, .ref mt, .ref ml, .ref ad, .ref kw])), (st, .inr (7, [.ref b, .int sd, .int mv, .int gm, va_rf lt, .int w1, .int w2, .int dg, .int t1, .int t2, .int am])), (b, .inr (1, [.ref ca, .int kk, .int sg])), (ca, .inl (g.2.1, 49, .inl f)), (kw, .inr (2, [.ref kr, .ref kq, .int r_1.2.2.2.2])), (kr, .inl (g.2.1, 49, .inl r_1.2.2.1)), (kq, .inl (g.2.1, 49, .inl r_1.2.2.2.1))] H := hP
    have hD : va_D A [(ou, .inl (g.2.2.1, 1, .inr (.inl fo))), (hg, .inr (8, [.ref st, .ref tr, .ref sa, .ref sk, .ref sv, .ref mt, .ref ml, .ref ad, .ref kw])), (st, .inr (7, [.ref b, .int sd, .int mv, .int gm, va_rf lt, .int w1, .int w2, .int dg, .int t1, .int t2, .int am])), (b, .inr (1, [.ref ca, .int kk, .int sg])), (ca, .inl (g.2.1, 49, .inl f)), (kw, .inr (2, [.ref kr, .ref kq, .int r_1.2.2.2.2])), (kr, .inl (g.2.1, 49, .inl r_1.2.2.1)), (kq, .inl (g.2.1, 49, .inl r_1.2.2.2.1))] := hD
    have hP : va_P g.1 vwCl [(hg, .inr (8, [.ref st, .ref tr, .ref sa, .ref sk, .ref sv, .ref mt, .ref ml, .ref ad, .ref kw])), (st, .inr (7, [.ref b, .int sd, .int mv, .int gm, va_rf lt, .int w1, .int w2, .int dg, .int t1, .int t2, .int am])), (b, .inr (1, [.ref ca, .int kk, .int sg])), (ca, .inl (g.2.1, 49, .inl f)), (kw, .inr (2, [.ref kr, .ref kq, .int r_1.2.2.2.2])), (kr, .inl (g.2.1, 49, .inl r_1.2.2.1)), (kq, .inl (g.2.1, 49, .inl r_1.2.2.2.1)), (ou, .inl (g.2.2.1, 1, .inr (.inl fo)))] H := hP.sub [1, 2, 3, 4, 5, 6, 7, 0] rfl
    have hD : va_D A [(hg, .inr (8, [.ref st, .ref tr, .ref sa, .ref sk, .ref sv, .ref mt, .ref ml, .ref ad, .ref kw])), (st, .inr (7, [.ref b, .int sd, .int mv, .int gm, va_rf lt, .int w1, .int w2, .int dg, .int t1, .int t2, .int am])), (b, .inr (1, [.ref ca, .int kk, .int sg])), (ca, .inl (g.2.1, 49, .inl f)), (kw, .inr (2, [.ref kr, .ref kq, .int r_1.2.2.2.2])), (kr, .inl (g.2.1, 49, .inl r_1.2.2.1)), (kq, .inl (g.2.1, 49, .inl r_1.2.2.2.1)), (ou, .inl (g.2.2.1, 1, .inr (.inl fo)))] := hD.sub [1, 2, 3, 4, 5, 6, 7, 0] (by decide) rfl
    by_cases h_3 : r_1.1 = 3
    · replace hyp := ite_t h_3 hyp
      rw [h_3] at hcl
      refine catK 0 ⟨0, 8, 11, 17⟩ 3 htab rfl hown (fun z hz => nomatch hz) (by decide) (by decide) hts hSR cl_L_17 cast_3 hce hcv hcl ?_
      refine lv_astore_n (lv' := [(2, .ref q9), (0, .ref hg), (1, .ref ou)]) hx hb dL_kingMovesByRounds_11 rfl hl (by decide) rfl (fun ls hl => ?_)
      refine lv_iconst (v := 1) hx hb dL_kingMovesByRounds_12 (by decide) ?_
      have hyp := some_e hyp
      subst hyp
      subst hQ
      exact xrI (na := s.heap.size) hx hb hr hlocks (Nat.le_refl _) hP hD hS (Nat.le_of_ble_eq_true rfl) (Nat.le_of_ble_eq_true rfl) dL_kingMovesByRounds_13
    · replace hyp := ite_f h_3 hyp
      cases hyp
  replace hyp := ite_t hk0 hyp
  have hP : va_P g.1 vwCl [(ou, .inl (g.2.2.1, 1, .inr (.inl fo))), (hg, .inr (8, [.ref st, .ref tr, .ref sa, .ref sk, .ref sv, .ref mt, .ref ml, .ref ad, .ref kw])), (st, .inr (7, [.ref b, .int sd, .int mv, .int gm, va_rf lt, .int w1, .int w2, .int dg, .int t1, .int t2, .int am])), (b, .inr (1, [.ref ca, .int kk, .int sg])), (ca, .inl (g.2.1, 49, .inl f)), (kw, .inr (2, [.ref kr, .ref kq, .int r_1.2.2.2.2])), (kr, .inl (g.2.1, 49, .inl r_1.2.2.1)), (kq, .inl (g.2.1, 49, .inl r_1.2.2.2.1))] H := hP
  have hD : va_D A [(ou, .inl (g.2.2.1, 1, .inr (.inl fo))), (hg, .inr (8, [.ref st, .ref tr, .ref sa, .ref sk, .ref sv, .ref mt, .ref ml, .ref ad, .ref kw])), (st, .inr (7, [.ref b, .int sd, .int mv, .int gm, va_rf lt, .int w1, .int w2, .int dg, .int t1, .int t2, .int am])), (b, .inr (1, [.ref ca, .int kk, .int sg])), (ca, .inl (g.2.1, 49, .inl f)), (kw, .inr (2, [.ref kr, .ref kq, .int r_1.2.2.2.2])), (kr, .inl (g.2.1, 49, .inl r_1.2.2.1)), (kq, .inl (g.2.1, 49, .inl r_1.2.2.2.1))] := hD
  refine lv_i2l hx hb dL_kingMovesByRounds_6 rfl ?_
  obtain ⟨hi, hyp⟩ := grd_e hyp
  refine va_last hx hb hE.1 hP hD hS 0 1 rfl rfl (inB_vp hi) dL_kingMovesByRounds_7 (fun H locs hP hD hS => ?_)
  have hP : va_P g.1 vwCl [(ou, .inl (g.2.2.1, 1, .inr (.inl (vp_updL fo (0 : Int32).toNatClampNeg r_1.2.1.toInt64)))), (hg, .inr (8, [.ref st, .ref tr, .ref sa, .ref sk, .ref sv, .ref mt, .ref ml, .ref ad, .ref kw])), (st, .inr (7, [.ref b, .int sd, .int mv, .int gm, va_rf lt, .int w1, .int w2, .int dg, .int t1, .int t2, .int am])), (b, .inr (1, [.ref ca, .int kk, .int sg])), (ca, .inl (g.2.1, 49, .inl f)), (kw, .inr (2, [.ref kr, .ref kq, .int r_1.2.2.2.2])), (kr, .inl (g.2.1, 49, .inl r_1.2.2.1)), (kq, .inl (g.2.1, 49, .inl r_1.2.2.2.1))] H := hP
  have hD : va_D A [(ou, .inl (g.2.2.1, 1, .inr (.inl (vp_updL fo (0 : Int32).toNatClampNeg r_1.2.1.toInt64)))), (hg, .inr (8, [.ref st, .ref tr, .ref sa, .ref sk, .ref sv, .ref mt, .ref ml, .ref ad, .ref kw])), (st, .inr (7, [.ref b, .int sd, .int mv, .int gm, va_rf lt, .int w1, .int w2, .int dg, .int t1, .int t2, .int am])), (b, .inr (1, [.ref ca, .int kk, .int sg])), (ca, .inl (g.2.1, 49, .inl f)), (kw, .inr (2, [.ref kr, .ref kq, .int r_1.2.2.2.2])), (kr, .inl (g.2.1, 49, .inl r_1.2.2.1)), (kq, .inl (g.2.1, 49, .inl r_1.2.2.2.1))] := hD
  refine lv_goto (tgt := 14) hx hb dL_kingMovesByRounds_8 (by decide) ?_
  refine lv_iconst (v := 0) hx hb dL_kingMovesByRounds_14 (by decide) ?_
  have hP : va_P g.1 vwCl [(hg, .inr (8, [.ref st, .ref tr, .ref sa, .ref sk, .ref sv, .ref mt, .ref ml, .ref ad, .ref kw])), (st, .inr (7, [.ref b, .int sd, .int mv, .int gm, va_rf lt, .int w1, .int w2, .int dg, .int t1, .int t2, .int am])), (b, .inr (1, [.ref ca, .int kk, .int sg])), (ca, .inl (g.2.1, 49, .inl f)), (kw, .inr (2, [.ref kr, .ref kq, .int r_1.2.2.2.2])), (kr, .inl (g.2.1, 49, .inl r_1.2.2.1)), (kq, .inl (g.2.1, 49, .inl r_1.2.2.2.1)), (ou, .inl (g.2.2.1, 1, .inr (.inl (vp_updL fo (0 : Int32).toNatClampNeg r_1.2.1.toInt64))))] H := hP.sub [1, 2, 3, 4, 5, 6, 7, 0] rfl
  have hD : va_D A [(hg, .inr (8, [.ref st, .ref tr, .ref sa, .ref sk, .ref sv, .ref mt, .ref ml, .ref ad, .ref kw])), (st, .inr (7, [.ref b, .int sd, .int mv, .int gm, va_rf lt, .int w1, .int w2, .int dg, .int t1, .int t2, .int am])), (b, .inr (1, [.ref ca, .int kk, .int sg])), (ca, .inl (g.2.1, 49, .inl f)), (kw, .inr (2, [.ref kr, .ref kq, .int r_1.2.2.2.2])), (kr, .inl (g.2.1, 49, .inl r_1.2.2.1)), (kq, .inl (g.2.1, 49, .inl r_1.2.2.2.1)), (ou, .inl (g.2.2.1, 1, .inr (.inl (vp_updL fo (0 : Int32).toNatClampNeg r_1.2.1.toInt64))))] := hD.sub [1, 2, 3, 4, 5, 6, 7, 0] (by decide) rfl
  have hyp := some_e hyp
  subst hyp
  subst hQ
  exact xrI (na := s.heap.size) hx hb hr hlocks (Nat.le_refl _) hP hD hS (Nat.le_of_ble_eq_true rfl) (Nat.le_of_ble_eq_true rfl) dL_kingMovesByRounds_15

def fL_kingMovesByCorners (kk : Int32) (f : Nat → Int32) (kc : Int32) (krf : Nat → Int32) (kqf : Nat → Int32) (fo : Nat → Int64) : Option (Int32 × (Nat → Int32) × (Nat → Int32) × Int32 × (Nat → Int64)) :=
  (fX8_kingMovesByCorners kk f kc krf kqf).bind (fun (r_1 : Nat × Int32 × (Nat → Int32) × (Nat → Int32) × Int32) => if r_1.1 = 0 then (grd (inB 0 1) (some (0, r_1.2.2.1, r_1.2.2.2.1, r_1.2.2.2.2, vp_updL fo (0 : Int32).toNatClampNeg r_1.2.1.toInt64))) else (if r_1.1 = 3 then (some (1, r_1.2.2.1, r_1.2.2.2.1, r_1.2.2.2.2, fo)) else (none)))
set_option maxRecDepth 100000 in
set_option maxHeartbeats 4000000 in
theorem mL_kingMovesByCorners (l : Launch) (hl0 : l.stackTraces = false) (g : GE) (hg st b ca kw kr kq ou tr sa sk sv mt ml ad zc zp : Nat) (sd : Int32) (mv : Int32) (gm : Int32) (lt : Option Nat) (w1 : Int32) (w2 : Int32) (dg : Int32) (t1 : Int32) (t2 : Int32) (am : Int32) (kk : Int32) (sg : Int32) (f : Nat → Int32) (kc : Int32) (krf : Nat → Int32) (kqf : Nat → Int32) (fo : Nat → Int64) (r : Int32 × (Nat → Int32) × (Nat → Int32) × Int32 × (Nat → Int64)) (hyp : fL_kingMovesByCorners kk f kc krf kqf fo = some r) : LM l yL_kingMovesByCorners cL_kingMovesByCorners 3 [(0, 8, 11, 17)] 7 139 1 6 g [(hg, .inr (8, [.ref st, .ref tr, .ref sa, .ref sk, .ref sv, .ref mt, .ref ml, .ref ad, .ref kw])), (st, .inr (7, [.ref b, .int sd, .int mv, .int gm, va_rf lt, .int w1, .int w2, .int dg, .int t1, .int t2, .int am])), (b, .inr (1, [.ref ca, .int kk, .int sg])), (ca, .inl (g.2.1, 49, .inl f)), (kw, .inr (2, [.ref kr, .ref kq, .int kc])), (kr, .inl (g.2.1, 49, .inl krf)), (kq, .inl (g.2.1, 49, .inl kqf)), (ou, .inl (g.2.2.1, 1, .inr (.inl fo)))] (OZ g zc zp [] none) [.ref hg, .ref ou] (some (.int r.1)) (fun na => [(hg, .inr (8, [.ref st, .ref tr, .ref sa, .ref sk, .ref sv, .ref mt, .ref ml, .ref ad, .ref kw])), (st, .inr (7, [.ref b, .int sd, .int mv, .int gm, va_rf lt, .int w1, .int w2, .int dg, .int t1, .int t2, .int am])), (b, .inr (1, [.ref ca, .int kk, .int sg])), (ca, .inl (g.2.1, 49, .inl f)), (kw, .inr (2, [.ref kr, .ref kq, .int r.2.2.2.1])), (kr, .inl (g.2.1, 49, .inl r.2.1)), (kq, .inl (g.2.1, 49, .inl r.2.2.1)), (ou, .inl (g.2.2.1, 1, .inr (.inl r.2.2.2.2)))]) := by
  refine metL_intro (by decide) rfl ?_
  intro p e R s m args below meth c Q A hRf hRl hRc hRs hQ hx hb hml hr hlocks htab hown hts hin hE hSR hNC hA hO H locs hP hD hS ls hl
  have hown : s.vm.findClass "HallGuardsLaw" = some m.cls := hown
  have hl : lv_has ls 3 [(0, .ref hg), (1, .ref ou)] := hl
  unfold fL_kingMovesByCorners at hyp
  refine lv_aload_n hx hb dL_kingMovesByCorners_0 rfl (lv_at hl 1 rfl) ?_
  refine lv_iconst (v := 0) hx hb dL_kingMovesByCorners_1 (by decide) ?_
  refine lv_aload_n hx hb dL_kingMovesByCorners_2 rfl (lv_at hl 0 rfl) ?_
  obtain ⟨r_1, hr_1, hyp⟩ := opt_e hyp
  refine xV (As := []) (rest := [.int 0, .ref ou]) ⟨hx, hb, hml, hown, hts⟩ hE hSR (mX8_kingMovesByCorners l hl0 g hg st b ca kw kr kq tr sa sk sv mt ml ad zc zp sd mv gm lt w1 w2 dg t1 t2 am kk sg f kc krf kqf r_1 hr_1) (OZ_ok g zc zp _ _) hO cf_X8_kingMovesByCorners im_X8_kingMovesByCorners se_X8_kingMovesByCorners ml_L_94 ⟨Nat.le_trans (Nat.le_of_ble_eq_true rfl) hRf, Nat.le_trans (Nat.le_of_ble_eq_true rfl) hRl⟩ hP hD hS hA [0, 1, 2, 3, 4, 5, 6] [7] rfl (wr := [(ou, .inl (g.2.2.1, 1, .inr (.inl fo)))]) rfl ⟨by decide, by decide⟩ (by decide) (ci := 8) (q0 := 0) rfl rfl rfl rfl hl.1 rfl (Nat.le_of_ble_eq_true rfl) dL_kingMovesByCorners_3 ⟨Nat.le_trans (Nat.le_of_ble_eq_true rfl) hRc, Nat.le_trans (Nat.le_of_ble_eq_true rfl) hRs⟩ (fun hk0 na_2 H locs hna_2 hP hD hS => ?_) (fun hk0 na9 q9 ce9 H locs hna9 hP hD hS hce hcv hcl => ?_)
  rotate_left 1
  · replace hyp := ite_f hk0 hyp
    have hP : va_P g.1 vwCl [(ou, .inl (g.2.2.1, 1, .inr (.inl fo))), (hg, .inr (8, [.ref st, .ref tr, .ref sa, .ref sk, .ref sv, .ref mt, .ref ml, .ref ad, .ref kw])), (st, .inr (7, [.ref b, .int sd, .int mv, .int gm, va_rf lt, .int w1, .int w2, .int dg, .int t1, .int t2, .int am])), (b, .inr (1, [.ref ca, .int kk, .int sg])), (ca, .inl (g.2.1, 49, .inl f)), (kw, .inr (2, [.ref kr, .ref kq, .int r_1.2.2.2.2])), (kr, .inl (g.2.1, 49, .inl r_1.2.2.1)), (kq, .inl (g.2.1, 49, .inl r_1.2.2.2.1))] H := hP
    have hD : va_D A [(ou, .inl (g.2.2.1, 1, .inr (.inl fo))), (hg, .inr (8, [.ref st, .ref tr, .ref sa, .ref sk, .ref sv, .ref mt, .ref ml, .ref ad, .ref kw])), (st, .inr (7, [.ref b, .int sd, .int mv, .int gm, va_rf lt, .int w1, .int w2, .int dg, .int t1, .int t2, .int am])), (b, .inr (1, [.ref ca, .int kk, .int sg])), (ca, .inl (g.2.1, 49, .inl f)), (kw, .inr (2, [.ref kr, .ref kq, .int r_1.2.2.2.2])), (kr, .inl (g.2.1, 49, .inl r_1.2.2.1)), (kq, .inl (g.2.1, 49, .inl r_1.2.2.2.1))] := hD
    have hP : va_P g.1 vwCl [(hg, .inr (8, [.ref st, .ref tr, .ref sa, .ref sk, .ref sv, .ref mt, .ref ml, .ref ad, .ref kw])), (st, .inr (7, [.ref b, .int sd, .int mv, .int gm, va_rf lt, .int w1, .int w2, .int dg, .int t1, .int t2, .int am])), (b, .inr (1, [.ref ca, .int kk, .int sg])), (ca, .inl (g.2.1, 49, .inl f)), (kw, .inr (2, [.ref kr, .ref kq, .int r_1.2.2.2.2])), (kr, .inl (g.2.1, 49, .inl r_1.2.2.1)), (kq, .inl (g.2.1, 49, .inl r_1.2.2.2.1)), (ou, .inl (g.2.2.1, 1, .inr (.inl fo)))] H := hP.sub [1, 2, 3, 4, 5, 6, 7, 0] rfl
    have hD : va_D A [(hg, .inr (8, [.ref st, .ref tr, .ref sa, .ref sk, .ref sv, .ref mt, .ref ml, .ref ad, .ref kw])), (st, .inr (7, [.ref b, .int sd, .int mv, .int gm, va_rf lt, .int w1, .int w2, .int dg, .int t1, .int t2, .int am])), (b, .inr (1, [.ref ca, .int kk, .int sg])), (ca, .inl (g.2.1, 49, .inl f)), (kw, .inr (2, [.ref kr, .ref kq, .int r_1.2.2.2.2])), (kr, .inl (g.2.1, 49, .inl r_1.2.2.1)), (kq, .inl (g.2.1, 49, .inl r_1.2.2.2.1)), (ou, .inl (g.2.2.1, 1, .inr (.inl fo)))] := hD.sub [1, 2, 3, 4, 5, 6, 7, 0] (by decide) rfl
    by_cases h_3 : r_1.1 = 3
    · replace hyp := ite_t h_3 hyp
      rw [h_3] at hcl
      refine catK 0 ⟨0, 8, 11, 17⟩ 3 htab rfl hown (fun z hz => nomatch hz) (by decide) (by decide) hts hSR cl_L_17 cast_3 hce hcv hcl ?_
      refine lv_astore_n (lv' := [(2, .ref q9), (0, .ref hg), (1, .ref ou)]) hx hb dL_kingMovesByCorners_11 rfl hl (by decide) rfl (fun ls hl => ?_)
      refine lv_iconst (v := 1) hx hb dL_kingMovesByCorners_12 (by decide) ?_
      have hyp := some_e hyp
      subst hyp
      subst hQ
      exact xrI (na := s.heap.size) hx hb hr hlocks (Nat.le_refl _) hP hD hS (Nat.le_of_ble_eq_true rfl) (Nat.le_of_ble_eq_true rfl) dL_kingMovesByCorners_13
    · replace hyp := ite_f h_3 hyp
      cases hyp
  replace hyp := ite_t hk0 hyp
  have hP : va_P g.1 vwCl [(ou, .inl (g.2.2.1, 1, .inr (.inl fo))), (hg, .inr (8, [.ref st, .ref tr, .ref sa, .ref sk, .ref sv, .ref mt, .ref ml, .ref ad, .ref kw])), (st, .inr (7, [.ref b, .int sd, .int mv, .int gm, va_rf lt, .int w1, .int w2, .int dg, .int t1, .int t2, .int am])), (b, .inr (1, [.ref ca, .int kk, .int sg])), (ca, .inl (g.2.1, 49, .inl f)), (kw, .inr (2, [.ref kr, .ref kq, .int r_1.2.2.2.2])), (kr, .inl (g.2.1, 49, .inl r_1.2.2.1)), (kq, .inl (g.2.1, 49, .inl r_1.2.2.2.1))] H := hP
  have hD : va_D A [(ou, .inl (g.2.2.1, 1, .inr (.inl fo))), (hg, .inr (8, [.ref st, .ref tr, .ref sa, .ref sk, .ref sv, .ref mt, .ref ml, .ref ad, .ref kw])), (st, .inr (7, [.ref b, .int sd, .int mv, .int gm, va_rf lt, .int w1, .int w2, .int dg, .int t1, .int t2, .int am])), (b, .inr (1, [.ref ca, .int kk, .int sg])), (ca, .inl (g.2.1, 49, .inl f)), (kw, .inr (2, [.ref kr, .ref kq, .int r_1.2.2.2.2])), (kr, .inl (g.2.1, 49, .inl r_1.2.2.1)), (kq, .inl (g.2.1, 49, .inl r_1.2.2.2.1))] := hD
  refine lv_i2l hx hb dL_kingMovesByCorners_6 rfl ?_
  obtain ⟨hi, hyp⟩ := grd_e hyp
  refine va_last hx hb hE.1 hP hD hS 0 1 rfl rfl (inB_vp hi) dL_kingMovesByCorners_7 (fun H locs hP hD hS => ?_)
  have hP : va_P g.1 vwCl [(ou, .inl (g.2.2.1, 1, .inr (.inl (vp_updL fo (0 : Int32).toNatClampNeg r_1.2.1.toInt64)))), (hg, .inr (8, [.ref st, .ref tr, .ref sa, .ref sk, .ref sv, .ref mt, .ref ml, .ref ad, .ref kw])), (st, .inr (7, [.ref b, .int sd, .int mv, .int gm, va_rf lt, .int w1, .int w2, .int dg, .int t1, .int t2, .int am])), (b, .inr (1, [.ref ca, .int kk, .int sg])), (ca, .inl (g.2.1, 49, .inl f)), (kw, .inr (2, [.ref kr, .ref kq, .int r_1.2.2.2.2])), (kr, .inl (g.2.1, 49, .inl r_1.2.2.1)), (kq, .inl (g.2.1, 49, .inl r_1.2.2.2.1))] H := hP
  have hD : va_D A [(ou, .inl (g.2.2.1, 1, .inr (.inl (vp_updL fo (0 : Int32).toNatClampNeg r_1.2.1.toInt64)))), (hg, .inr (8, [.ref st, .ref tr, .ref sa, .ref sk, .ref sv, .ref mt, .ref ml, .ref ad, .ref kw])), (st, .inr (7, [.ref b, .int sd, .int mv, .int gm, va_rf lt, .int w1, .int w2, .int dg, .int t1, .int t2, .int am])), (b, .inr (1, [.ref ca, .int kk, .int sg])), (ca, .inl (g.2.1, 49, .inl f)), (kw, .inr (2, [.ref kr, .ref kq, .int r_1.2.2.2.2])), (kr, .inl (g.2.1, 49, .inl r_1.2.2.1)), (kq, .inl (g.2.1, 49, .inl r_1.2.2.2.1))] := hD
  refine lv_goto (tgt := 14) hx hb dL_kingMovesByCorners_8 (by decide) ?_
  refine lv_iconst (v := 0) hx hb dL_kingMovesByCorners_14 (by decide) ?_
  have hP : va_P g.1 vwCl [(hg, .inr (8, [.ref st, .ref tr, .ref sa, .ref sk, .ref sv, .ref mt, .ref ml, .ref ad, .ref kw])), (st, .inr (7, [.ref b, .int sd, .int mv, .int gm, va_rf lt, .int w1, .int w2, .int dg, .int t1, .int t2, .int am])), (b, .inr (1, [.ref ca, .int kk, .int sg])), (ca, .inl (g.2.1, 49, .inl f)), (kw, .inr (2, [.ref kr, .ref kq, .int r_1.2.2.2.2])), (kr, .inl (g.2.1, 49, .inl r_1.2.2.1)), (kq, .inl (g.2.1, 49, .inl r_1.2.2.2.1)), (ou, .inl (g.2.2.1, 1, .inr (.inl (vp_updL fo (0 : Int32).toNatClampNeg r_1.2.1.toInt64))))] H := hP.sub [1, 2, 3, 4, 5, 6, 7, 0] rfl
  have hD : va_D A [(hg, .inr (8, [.ref st, .ref tr, .ref sa, .ref sk, .ref sv, .ref mt, .ref ml, .ref ad, .ref kw])), (st, .inr (7, [.ref b, .int sd, .int mv, .int gm, va_rf lt, .int w1, .int w2, .int dg, .int t1, .int t2, .int am])), (b, .inr (1, [.ref ca, .int kk, .int sg])), (ca, .inl (g.2.1, 49, .inl f)), (kw, .inr (2, [.ref kr, .ref kq, .int r_1.2.2.2.2])), (kr, .inl (g.2.1, 49, .inl r_1.2.2.1)), (kq, .inl (g.2.1, 49, .inl r_1.2.2.2.1)), (ou, .inl (g.2.2.1, 1, .inr (.inl (vp_updL fo (0 : Int32).toNatClampNeg r_1.2.1.toInt64))))] := hD.sub [1, 2, 3, 4, 5, 6, 7, 0] (by decide) rfl
  have hyp := some_e hyp
  subst hyp
  subst hQ
  exact xrI (na := s.heap.size) hx hb hr hlocks (Nat.le_refl _) hP hD hS (Nat.le_of_ble_eq_true rfl) (Nat.le_of_ble_eq_true rfl) dL_kingMovesByCorners_15

def fL_kingPressure (kk : Int32) (f : Nat → Int32) (fo : Nat → Int64) : Option (Int32 × (Nat → Int64)) :=
  (fX8_kingPressure kk f).bind (fun (r_1 : Nat × Int32) => if r_1.1 = 0 then (grd (inB 0 1) (some (0, vp_updL fo (0 : Int32).toNatClampNeg r_1.2.toInt64))) else (if r_1.1 = 3 then (some (1, fo)) else (none)))
set_option maxRecDepth 100000 in
set_option maxHeartbeats 4000000 in
theorem mL_kingPressure (l : Launch) (hl0 : l.stackTraces = false) (g : GE) (hg st b ca ou tr sa sk sv mt ml ad kw zc zp : Nat) (sd : Int32) (mv : Int32) (gm : Int32) (lt : Option Nat) (w1 : Int32) (w2 : Int32) (dg : Int32) (t1 : Int32) (t2 : Int32) (am : Int32) (kk : Int32) (sg : Int32) (f : Nat → Int32) (fo : Nat → Int64) (r : Int32 × (Nat → Int64)) (hyp : fL_kingPressure kk f fo = some r) : LM l yL_kingPressure cL_kingPressure 3 [(0, 8, 11, 17)] 8 130 1 6 g [(hg, .inr (8, [.ref st, .ref tr, .ref sa, .ref sk, .ref sv, .ref mt, .ref ml, .ref ad, .ref kw])), (st, .inr (7, [.ref b, .int sd, .int mv, .int gm, va_rf lt, .int w1, .int w2, .int dg, .int t1, .int t2, .int am])), (b, .inr (1, [.ref ca, .int kk, .int sg])), (ca, .inl (g.2.1, 49, .inl f)), (ou, .inl (g.2.2.1, 1, .inr (.inl fo)))] (OZ g zc zp [] none) [.ref hg, .ref ou] (some (.int r.1)) (fun na => [(hg, .inr (8, [.ref st, .ref tr, .ref sa, .ref sk, .ref sv, .ref mt, .ref ml, .ref ad, .ref kw])), (st, .inr (7, [.ref b, .int sd, .int mv, .int gm, va_rf lt, .int w1, .int w2, .int dg, .int t1, .int t2, .int am])), (b, .inr (1, [.ref ca, .int kk, .int sg])), (ca, .inl (g.2.1, 49, .inl f)), (ou, .inl (g.2.2.1, 1, .inr (.inl r.2)))]) := by
  refine metL_intro (by decide) rfl ?_
  intro p e R s m args below meth c Q A hRf hRl hRc hRs hQ hx hb hml hr hlocks htab hown hts hin hE hSR hNC hA hO H locs hP hD hS ls hl
  have hown : s.vm.findClass "HallGuardsLaw" = some m.cls := hown
  have hl : lv_has ls 3 [(0, .ref hg), (1, .ref ou)] := hl
  unfold fL_kingPressure at hyp
  refine lv_aload_n hx hb dL_kingPressure_0 rfl (lv_at hl 1 rfl) ?_
  refine lv_iconst (v := 0) hx hb dL_kingPressure_1 (by decide) ?_
  refine lv_aload_n hx hb dL_kingPressure_2 rfl (lv_at hl 0 rfl) ?_
  obtain ⟨r_1, hr_1, hyp⟩ := opt_e hyp
  refine xV (As := []) (rest := [.int 0, .ref ou]) ⟨hx, hb, hml, hown, hts⟩ hE hSR (mX8_kingPressure l hl0 g hg st b ca tr sa sk sv mt ml ad kw zc zp sd mv gm lt w1 w2 dg t1 t2 am kk sg f r_1 hr_1) (OZ_ok g zc zp _ _) hO cf_X8_kingPressure im_X8_kingPressure se_X8_kingPressure ml_L_97 ⟨Nat.le_trans (Nat.le_of_ble_eq_true rfl) hRf, Nat.le_trans (Nat.le_of_ble_eq_true rfl) hRl⟩ hP hD hS hA [0, 1, 2, 3] [4] rfl (wr := [(ou, .inl (g.2.2.1, 1, .inr (.inl fo)))]) rfl ⟨by decide, by decide⟩ (by decide) (ci := 8) (q0 := 0) rfl rfl rfl rfl hl.1 rfl (Nat.le_of_ble_eq_true rfl) dL_kingPressure_3 ⟨Nat.le_trans (Nat.le_of_ble_eq_true rfl) hRc, Nat.le_trans (Nat.le_of_ble_eq_true rfl) hRs⟩ (fun hk0 na_2 H locs hna_2 hP hD hS => ?_) (fun hk0 na9 q9 ce9 H locs hna9 hP hD hS hce hcv hcl => ?_)
  rotate_left 1
  · replace hyp := ite_f hk0 hyp
    have hP : va_P g.1 vwCl [(ou, .inl (g.2.2.1, 1, .inr (.inl fo))), (hg, .inr (8, [.ref st, .ref tr, .ref sa, .ref sk, .ref sv, .ref mt, .ref ml, .ref ad, .ref kw])), (st, .inr (7, [.ref b, .int sd, .int mv, .int gm, va_rf lt, .int w1, .int w2, .int dg, .int t1, .int t2, .int am])), (b, .inr (1, [.ref ca, .int kk, .int sg])), (ca, .inl (g.2.1, 49, .inl f))] H := hP
    have hD : va_D A [(ou, .inl (g.2.2.1, 1, .inr (.inl fo))), (hg, .inr (8, [.ref st, .ref tr, .ref sa, .ref sk, .ref sv, .ref mt, .ref ml, .ref ad, .ref kw])), (st, .inr (7, [.ref b, .int sd, .int mv, .int gm, va_rf lt, .int w1, .int w2, .int dg, .int t1, .int t2, .int am])), (b, .inr (1, [.ref ca, .int kk, .int sg])), (ca, .inl (g.2.1, 49, .inl f))] := hD
    have hP : va_P g.1 vwCl [(hg, .inr (8, [.ref st, .ref tr, .ref sa, .ref sk, .ref sv, .ref mt, .ref ml, .ref ad, .ref kw])), (st, .inr (7, [.ref b, .int sd, .int mv, .int gm, va_rf lt, .int w1, .int w2, .int dg, .int t1, .int t2, .int am])), (b, .inr (1, [.ref ca, .int kk, .int sg])), (ca, .inl (g.2.1, 49, .inl f)), (ou, .inl (g.2.2.1, 1, .inr (.inl fo)))] H := hP.sub [1, 2, 3, 4, 0] rfl
    have hD : va_D A [(hg, .inr (8, [.ref st, .ref tr, .ref sa, .ref sk, .ref sv, .ref mt, .ref ml, .ref ad, .ref kw])), (st, .inr (7, [.ref b, .int sd, .int mv, .int gm, va_rf lt, .int w1, .int w2, .int dg, .int t1, .int t2, .int am])), (b, .inr (1, [.ref ca, .int kk, .int sg])), (ca, .inl (g.2.1, 49, .inl f)), (ou, .inl (g.2.2.1, 1, .inr (.inl fo)))] := hD.sub [1, 2, 3, 4, 0] (by decide) rfl
    by_cases h_3 : r_1.1 = 3
    · replace hyp := ite_t h_3 hyp
      rw [h_3] at hcl
      refine catK 0 ⟨0, 8, 11, 17⟩ 3 htab rfl hown (fun z hz => nomatch hz) (by decide) (by decide) hts hSR cl_L_17 cast_3 hce hcv hcl ?_
      refine lv_astore_n (lv' := [(2, .ref q9), (0, .ref hg), (1, .ref ou)]) hx hb dL_kingPressure_11 rfl hl (by decide) rfl (fun ls hl => ?_)
      refine lv_iconst (v := 1) hx hb dL_kingPressure_12 (by decide) ?_
      have hyp := some_e hyp
      subst hyp
      subst hQ
      exact xrI (na := s.heap.size) hx hb hr hlocks (Nat.le_refl _) hP hD hS (Nat.le_of_ble_eq_true rfl) (Nat.le_of_ble_eq_true rfl) dL_kingPressure_13
    · replace hyp := ite_f h_3 hyp
      cases hyp
  replace hyp := ite_t hk0 hyp
  have hP : va_P g.1 vwCl [(ou, .inl (g.2.2.1, 1, .inr (.inl fo))), (hg, .inr (8, [.ref st, .ref tr, .ref sa, .ref sk, .ref sv, .ref mt, .ref ml, .ref ad, .ref kw])), (st, .inr (7, [.ref b, .int sd, .int mv, .int gm, va_rf lt, .int w1, .int w2, .int dg, .int t1, .int t2, .int am])), (b, .inr (1, [.ref ca, .int kk, .int sg])), (ca, .inl (g.2.1, 49, .inl f))] H := hP
  have hD : va_D A [(ou, .inl (g.2.2.1, 1, .inr (.inl fo))), (hg, .inr (8, [.ref st, .ref tr, .ref sa, .ref sk, .ref sv, .ref mt, .ref ml, .ref ad, .ref kw])), (st, .inr (7, [.ref b, .int sd, .int mv, .int gm, va_rf lt, .int w1, .int w2, .int dg, .int t1, .int t2, .int am])), (b, .inr (1, [.ref ca, .int kk, .int sg])), (ca, .inl (g.2.1, 49, .inl f))] := hD
  refine lv_i2l hx hb dL_kingPressure_6 rfl ?_
  obtain ⟨hi, hyp⟩ := grd_e hyp
  refine va_last hx hb hE.1 hP hD hS 0 1 rfl rfl (inB_vp hi) dL_kingPressure_7 (fun H locs hP hD hS => ?_)
  have hP : va_P g.1 vwCl [(ou, .inl (g.2.2.1, 1, .inr (.inl (vp_updL fo (0 : Int32).toNatClampNeg r_1.2.toInt64)))), (hg, .inr (8, [.ref st, .ref tr, .ref sa, .ref sk, .ref sv, .ref mt, .ref ml, .ref ad, .ref kw])), (st, .inr (7, [.ref b, .int sd, .int mv, .int gm, va_rf lt, .int w1, .int w2, .int dg, .int t1, .int t2, .int am])), (b, .inr (1, [.ref ca, .int kk, .int sg])), (ca, .inl (g.2.1, 49, .inl f))] H := hP
  have hD : va_D A [(ou, .inl (g.2.2.1, 1, .inr (.inl (vp_updL fo (0 : Int32).toNatClampNeg r_1.2.toInt64)))), (hg, .inr (8, [.ref st, .ref tr, .ref sa, .ref sk, .ref sv, .ref mt, .ref ml, .ref ad, .ref kw])), (st, .inr (7, [.ref b, .int sd, .int mv, .int gm, va_rf lt, .int w1, .int w2, .int dg, .int t1, .int t2, .int am])), (b, .inr (1, [.ref ca, .int kk, .int sg])), (ca, .inl (g.2.1, 49, .inl f))] := hD
  refine lv_goto (tgt := 14) hx hb dL_kingPressure_8 (by decide) ?_
  refine lv_iconst (v := 0) hx hb dL_kingPressure_14 (by decide) ?_
  have hP : va_P g.1 vwCl [(hg, .inr (8, [.ref st, .ref tr, .ref sa, .ref sk, .ref sv, .ref mt, .ref ml, .ref ad, .ref kw])), (st, .inr (7, [.ref b, .int sd, .int mv, .int gm, va_rf lt, .int w1, .int w2, .int dg, .int t1, .int t2, .int am])), (b, .inr (1, [.ref ca, .int kk, .int sg])), (ca, .inl (g.2.1, 49, .inl f)), (ou, .inl (g.2.2.1, 1, .inr (.inl (vp_updL fo (0 : Int32).toNatClampNeg r_1.2.toInt64))))] H := hP.sub [1, 2, 3, 4, 0] rfl
  have hD : va_D A [(hg, .inr (8, [.ref st, .ref tr, .ref sa, .ref sk, .ref sv, .ref mt, .ref ml, .ref ad, .ref kw])), (st, .inr (7, [.ref b, .int sd, .int mv, .int gm, va_rf lt, .int w1, .int w2, .int dg, .int t1, .int t2, .int am])), (b, .inr (1, [.ref ca, .int kk, .int sg])), (ca, .inl (g.2.1, 49, .inl f)), (ou, .inl (g.2.2.1, 1, .inr (.inl (vp_updL fo (0 : Int32).toNatClampNeg r_1.2.toInt64))))] := hD.sub [1, 2, 3, 4, 0] (by decide) rfl
  have hyp := some_e hyp
  subst hyp
  subst hQ
  exact xrI (na := s.heap.size) hx hb hr hlocks (Nat.le_refl _) hP hD hS (Nat.le_of_ble_eq_true rfl) (Nat.le_of_ble_eq_true rfl) dL_kingPressure_15

def fL_worthOf (kk : Int32) (sg : Int32) (f : Nat → Int32) (bk : Int32) (bs : Int32) (bf : Nat → Int32) (rk : Int32) (rs : Int32) (rf : Nat → Int32) (rn : Int32) (rmf : Nat → Int32) (fo : Nat → Int64) (a1 : Int32) (a2 : Int32) : Option (Int32 × (Nat → Int32) × Int32 × Int32 × (Nat → Int32) × Int32 × Int32 × (Nat → Int32) × Int32 × (Nat → Int64)) :=
  (fX8_worthOf kk sg f bk bs bf rk rs rf rn rmf a1 a2).bind (fun (r_1 : Nat × Int32 × (Nat → Int32) × Int32 × Int32 × (Nat → Int32) × Int32 × Int32 × (Nat → Int32) × Int32) => if r_1.1 = 0 then (grd (inB 0 1) (some (0, r_1.2.2.1, r_1.2.2.2.1, r_1.2.2.2.2.1, r_1.2.2.2.2.2.1, r_1.2.2.2.2.2.2.1, r_1.2.2.2.2.2.2.2.1, r_1.2.2.2.2.2.2.2.2.1, r_1.2.2.2.2.2.2.2.2.2, vp_updL fo (0 : Int32).toNatClampNeg r_1.2.1.toInt64))) else (if r_1.1 = 1 then (some (1, r_1.2.2.1, r_1.2.2.2.1, r_1.2.2.2.2.1, r_1.2.2.2.2.2.1, r_1.2.2.2.2.2.2.1, r_1.2.2.2.2.2.2.2.1, r_1.2.2.2.2.2.2.2.2.1, r_1.2.2.2.2.2.2.2.2.2, fo)) else (if r_1.1 = 3 then (some (2, r_1.2.2.1, r_1.2.2.2.1, r_1.2.2.2.2.1, r_1.2.2.2.2.2.1, r_1.2.2.2.2.2.2.1, r_1.2.2.2.2.2.2.2.1, r_1.2.2.2.2.2.2.2.2.1, r_1.2.2.2.2.2.2.2.2.2, fo)) else (none))))
set_option maxRecDepth 100000 in
set_option maxHeartbeats 4000000 in
theorem mL_worthOf (l : Launch) (hl0 : l.stackTraces = false) (g : GE) (hg st b ca ad be bc rp rc rl rm ou tr sa sk sv mt ml kw zc zp : Nat) (sd : Int32) (mv : Int32) (gm : Int32) (lt : Option Nat) (w1 : Int32) (w2 : Int32) (dg : Int32) (t1 : Int32) (t2 : Int32) (am : Int32) (kk : Int32) (sg : Int32) (f : Nat → Int32) (bk : Int32) (bs : Int32) (bf : Nat → Int32) (rk : Int32) (rs : Int32) (rf : Nat → Int32) (rn : Int32) (rmf : Nat → Int32) (fo : Nat → Int64) (a1 : Int32) (a2 : Int32) (r : Int32 × (Nat → Int32) × Int32 × Int32 × (Nat → Int32) × Int32 × Int32 × (Nat → Int32) × Int32 × (Nat → Int64)) (hyp : fL_worthOf kk sg f bk bs bf rk rs rf rn rmf fo a1 a2 = some r) : LM l yL_worthOf cL_worthOf 5 [(0, 10, 13, 13), (0, 10, 17, 17)] 9 192 2 12 g [(hg, .inr (8, [.ref st, .ref tr, .ref sa, .ref sk, .ref sv, .ref mt, .ref ml, .ref ad, .ref kw])), (st, .inr (7, [.ref b, .int sd, .int mv, .int gm, va_rf lt, .int w1, .int w2, .int dg, .int t1, .int t2, .int am])), (b, .inr (1, [.ref ca, .int kk, .int sg])), (ca, .inl (g.2.1, 49, .inl f)), (ad, .inr (0, [.ref be, .ref rp, .ref rl])), (be, .inr (1, [.ref bc, .int bk, .int bs])), (bc, .inl (g.2.1, 49, .inl bf)), (rp, .inr (1, [.ref rc, .int rk, .int rs])), (rc, .inl (g.2.1, 49, .inl rf)), (rl, .inr (3, [.ref rm, .int rn])), (rm, .inl (g.2.1, 588, .inl rmf)), (ou, .inl (g.2.2.1, 1, .inr (.inl fo)))] (OZ g zc zp [] none) [.ref hg, .int a1, .int a2, .ref ou] (some (.int r.1)) (fun na => [(hg, .inr (8, [.ref st, .ref tr, .ref sa, .ref sk, .ref sv, .ref mt, .ref ml, .ref ad, .ref kw])), (st, .inr (7, [.ref b, .int sd, .int mv, .int gm, va_rf lt, .int w1, .int w2, .int dg, .int t1, .int t2, .int am])), (b, .inr (1, [.ref ca, .int kk, .int sg])), (ca, .inl (g.2.1, 49, .inl f)), (ad, .inr (0, [.ref be, .ref rp, .ref rl])), (be, .inr (1, [.ref bc, .int r.2.2.1, .int r.2.2.2.1])), (bc, .inl (g.2.1, 49, .inl r.2.1)), (rp, .inr (1, [.ref rc, .int r.2.2.2.2.2.1, .int r.2.2.2.2.2.2.1])), (rc, .inl (g.2.1, 49, .inl r.2.2.2.2.1)), (rl, .inr (3, [.ref rm, .int r.2.2.2.2.2.2.2.2.1])), (rm, .inl (g.2.1, 588, .inl r.2.2.2.2.2.2.2.1)), (ou, .inl (g.2.2.1, 1, .inr (.inl r.2.2.2.2.2.2.2.2.2)))]) := by
  refine metL_intro (by decide) rfl ?_
  intro p e R s m args below meth c Q A hRf hRl hRc hRs hQ hx hb hml hr hlocks htab hown hts hin hE hSR hNC hA hO H locs hP hD hS ls hl
  have hown : s.vm.findClass "HallGuardsLaw" = some m.cls := hown
  have hl : lv_has ls 5 [(0, .ref hg), (1, .int a1), (2, .int a2), (3, .ref ou)] := hl
  unfold fL_worthOf at hyp
  refine lv_aload_n hx hb dL_worthOf_0 rfl (lv_at hl 3 rfl) ?_
  refine lv_iconst (v := 0) hx hb dL_worthOf_1 (by decide) ?_
  refine lv_aload_n hx hb dL_worthOf_2 rfl (lv_at hl 0 rfl) ?_
  refine lv_iload_n hx hb dL_worthOf_3 rfl (lv_at hl 1 rfl) ?_
  refine lv_iload_n hx hb dL_worthOf_4 rfl (lv_at hl 2 rfl) ?_
  obtain ⟨r_1, hr_1, hyp⟩ := opt_e hyp
  refine xV (As := [.int a1, .int a2]) (rest := [.int 0, .ref ou]) ⟨hx, hb, hml, hown, hts⟩ hE hSR (mX8_worthOf l hl0 g hg st b ca ad be bc rp rc rl rm tr sa sk sv mt ml kw zc zp sd mv gm lt w1 w2 dg t1 t2 am kk sg f bk bs bf rk rs rf rn rmf a1 a2 r_1 hr_1) (OZ_ok g zc zp _ _) hO cf_X8_worthOf im_X8_worthOf se_X8_worthOf ml_L_100 ⟨Nat.le_trans (Nat.le_of_ble_eq_true rfl) hRf, Nat.le_trans (Nat.le_of_ble_eq_true rfl) hRl⟩ hP hD hS hA [0, 1, 2, 3, 4, 5, 6, 7, 8, 9, 10] [11] rfl (wr := [(ou, .inl (g.2.2.1, 1, .inr (.inl fo)))]) rfl ⟨by decide, by decide⟩ (by decide) (ci := 8) (q0 := 0) rfl rfl rfl rfl hl.1 rfl (Nat.le_of_ble_eq_true rfl) dL_worthOf_5 ⟨Nat.le_trans (Nat.le_of_ble_eq_true rfl) hRc, Nat.le_trans (Nat.le_of_ble_eq_true rfl) hRs⟩ (fun hk0 na_2 H locs hna_2 hP hD hS => ?_) (fun hk0 na9 q9 ce9 H locs hna9 hP hD hS hce hcv hcl => ?_)
  rotate_left 1
  · replace hyp := ite_f hk0 hyp
    have hP : va_P g.1 vwCl [(ou, .inl (g.2.2.1, 1, .inr (.inl fo))), (hg, .inr (8, [.ref st, .ref tr, .ref sa, .ref sk, .ref sv, .ref mt, .ref ml, .ref ad, .ref kw])), (st, .inr (7, [.ref b, .int sd, .int mv, .int gm, va_rf lt, .int w1, .int w2, .int dg, .int t1, .int t2, .int am])), (b, .inr (1, [.ref ca, .int kk, .int sg])), (ca, .inl (g.2.1, 49, .inl f)), (ad, .inr (0, [.ref be, .ref rp, .ref rl])), (be, .inr (1, [.ref bc, .int r_1.2.2.2.1, .int r_1.2.2.2.2.1])), (bc, .inl (g.2.1, 49, .inl r_1.2.2.1)), (rp, .inr (1, [.ref rc, .int r_1.2.2.2.2.2.2.1, .int r_1.2.2.2.2.2.2.2.1])), (rc, .inl (g.2.1, 49, .inl r_1.2.2.2.2.2.1)), (rl, .inr (3, [.ref rm, .int r_1.2.2.2.2.2.2.2.2.2])), (rm, .inl (g.2.1, 588, .inl r_1.2.2.2.2.2.2.2.2.1))] H := hP
    have hD : va_D A [(ou, .inl (g.2.2.1, 1, .inr (.inl fo))), (hg, .inr (8, [.ref st, .ref tr, .ref sa, .ref sk, .ref sv, .ref mt, .ref ml, .ref ad, .ref kw])), (st, .inr (7, [.ref b, .int sd, .int mv, .int gm, va_rf lt, .int w1, .int w2, .int dg, .int t1, .int t2, .int am])), (b, .inr (1, [.ref ca, .int kk, .int sg])), (ca, .inl (g.2.1, 49, .inl f)), (ad, .inr (0, [.ref be, .ref rp, .ref rl])), (be, .inr (1, [.ref bc, .int r_1.2.2.2.1, .int r_1.2.2.2.2.1])), (bc, .inl (g.2.1, 49, .inl r_1.2.2.1)), (rp, .inr (1, [.ref rc, .int r_1.2.2.2.2.2.2.1, .int r_1.2.2.2.2.2.2.2.1])), (rc, .inl (g.2.1, 49, .inl r_1.2.2.2.2.2.1)), (rl, .inr (3, [.ref rm, .int r_1.2.2.2.2.2.2.2.2.2])), (rm, .inl (g.2.1, 588, .inl r_1.2.2.2.2.2.2.2.2.1))] := hD
    have hP : va_P g.1 vwCl [(hg, .inr (8, [.ref st, .ref tr, .ref sa, .ref sk, .ref sv, .ref mt, .ref ml, .ref ad, .ref kw])), (st, .inr (7, [.ref b, .int sd, .int mv, .int gm, va_rf lt, .int w1, .int w2, .int dg, .int t1, .int t2, .int am])), (b, .inr (1, [.ref ca, .int kk, .int sg])), (ca, .inl (g.2.1, 49, .inl f)), (ad, .inr (0, [.ref be, .ref rp, .ref rl])), (be, .inr (1, [.ref bc, .int r_1.2.2.2.1, .int r_1.2.2.2.2.1])), (bc, .inl (g.2.1, 49, .inl r_1.2.2.1)), (rp, .inr (1, [.ref rc, .int r_1.2.2.2.2.2.2.1, .int r_1.2.2.2.2.2.2.2.1])), (rc, .inl (g.2.1, 49, .inl r_1.2.2.2.2.2.1)), (rl, .inr (3, [.ref rm, .int r_1.2.2.2.2.2.2.2.2.2])), (rm, .inl (g.2.1, 588, .inl r_1.2.2.2.2.2.2.2.2.1)), (ou, .inl (g.2.2.1, 1, .inr (.inl fo)))] H := hP.sub [1, 2, 3, 4, 5, 6, 7, 8, 9, 10, 11, 0] rfl
    have hD : va_D A [(hg, .inr (8, [.ref st, .ref tr, .ref sa, .ref sk, .ref sv, .ref mt, .ref ml, .ref ad, .ref kw])), (st, .inr (7, [.ref b, .int sd, .int mv, .int gm, va_rf lt, .int w1, .int w2, .int dg, .int t1, .int t2, .int am])), (b, .inr (1, [.ref ca, .int kk, .int sg])), (ca, .inl (g.2.1, 49, .inl f)), (ad, .inr (0, [.ref be, .ref rp, .ref rl])), (be, .inr (1, [.ref bc, .int r_1.2.2.2.1, .int r_1.2.2.2.2.1])), (bc, .inl (g.2.1, 49, .inl r_1.2.2.1)), (rp, .inr (1, [.ref rc, .int r_1.2.2.2.2.2.2.1, .int r_1.2.2.2.2.2.2.2.1])), (rc, .inl (g.2.1, 49, .inl r_1.2.2.2.2.2.1)), (rl, .inr (3, [.ref rm, .int r_1.2.2.2.2.2.2.2.2.2])), (rm, .inl (g.2.1, 588, .inl r_1.2.2.2.2.2.2.2.2.1)), (ou, .inl (g.2.2.1, 1, .inr (.inl fo)))] := hD.sub [1, 2, 3, 4, 5, 6, 7, 8, 9, 10, 11, 0] (by decide) rfl
    by_cases h_3 : r_1.1 = 1
    · replace hyp := ite_t h_3 hyp
      rw [h_3] at hcl
      refine catK 0 ⟨0, 10, 13, 13⟩ 1 htab rfl hown (fun z hz => nomatch hz) (by decide) (by decide) hts hSR cl_L_13 cast_1 hce hcv hcl ?_
      refine lv_astore (lv' := [(4, .ref q9), (0, .ref hg), (1, .int a1), (2, .int a2), (3, .ref ou)]) hx hb dL_worthOf_13 hl (by decide) rfl (fun ls hl => ?_)
      refine lv_iconst (v := 1) hx hb dL_worthOf_15 (by decide) ?_
      have hyp := some_e hyp
      subst hyp
      subst hQ
      exact xrI (na := s.heap.size) hx hb hr hlocks (Nat.le_refl _) hP hD hS (Nat.le_of_ble_eq_true rfl) (Nat.le_of_ble_eq_true rfl) dL_worthOf_16
    · replace hyp := ite_f h_3 hyp
      by_cases h_4 : r_1.1 = 3
      · replace hyp := ite_t h_4 hyp
        rw [h_4] at hcl
        refine catK 1 ⟨0, 10, 17, 17⟩ 3 htab rfl hown (List.forall_mem_cons.mpr ⟨⟨by decide, _, hts _ cl_L_13, hNC.2.1⟩, fun z hz => nomatch hz⟩) (by decide) (by decide) hts hSR cl_L_17 cast_3 hce hcv hcl ?_
        refine lv_astore (lv' := [(4, .ref q9), (0, .ref hg), (1, .int a1), (2, .int a2), (3, .ref ou)]) hx hb dL_worthOf_17 hl (by decide) rfl (fun ls hl => ?_)
        refine lv_iconst (v := 2) hx hb dL_worthOf_19 (by decide) ?_
        have hyp := some_e hyp
        subst hyp
        subst hQ
        exact xrI (na := s.heap.size) hx hb hr hlocks (Nat.le_refl _) hP hD hS (Nat.le_of_ble_eq_true rfl) (Nat.le_of_ble_eq_true rfl) dL_worthOf_20
      · replace hyp := ite_f h_4 hyp
        cases hyp
  replace hyp := ite_t hk0 hyp
  have hP : va_P g.1 vwCl [(ou, .inl (g.2.2.1, 1, .inr (.inl fo))), (hg, .inr (8, [.ref st, .ref tr, .ref sa, .ref sk, .ref sv, .ref mt, .ref ml, .ref ad, .ref kw])), (st, .inr (7, [.ref b, .int sd, .int mv, .int gm, va_rf lt, .int w1, .int w2, .int dg, .int t1, .int t2, .int am])), (b, .inr (1, [.ref ca, .int kk, .int sg])), (ca, .inl (g.2.1, 49, .inl f)), (ad, .inr (0, [.ref be, .ref rp, .ref rl])), (be, .inr (1, [.ref bc, .int r_1.2.2.2.1, .int r_1.2.2.2.2.1])), (bc, .inl (g.2.1, 49, .inl r_1.2.2.1)), (rp, .inr (1, [.ref rc, .int r_1.2.2.2.2.2.2.1, .int r_1.2.2.2.2.2.2.2.1])), (rc, .inl (g.2.1, 49, .inl r_1.2.2.2.2.2.1)), (rl, .inr (3, [.ref rm, .int r_1.2.2.2.2.2.2.2.2.2])), (rm, .inl (g.2.1, 588, .inl r_1.2.2.2.2.2.2.2.2.1))] H := hP
  have hD : va_D A [(ou, .inl (g.2.2.1, 1, .inr (.inl fo))), (hg, .inr (8, [.ref st, .ref tr, .ref sa, .ref sk, .ref sv, .ref mt, .ref ml, .ref ad, .ref kw])), (st, .inr (7, [.ref b, .int sd, .int mv, .int gm, va_rf lt, .int w1, .int w2, .int dg, .int t1, .int t2, .int am])), (b, .inr (1, [.ref ca, .int kk, .int sg])), (ca, .inl (g.2.1, 49, .inl f)), (ad, .inr (0, [.ref be, .ref rp, .ref rl])), (be, .inr (1, [.ref bc, .int r_1.2.2.2.1, .int r_1.2.2.2.2.1])), (bc, .inl (g.2.1, 49, .inl r_1.2.2.1)), (rp, .inr (1, [.ref rc, .int r_1.2.2.2.2.2.2.1, .int r_1.2.2.2.2.2.2.2.1])), (rc, .inl (g.2.1, 49, .inl r_1.2.2.2.2.2.1)), (rl, .inr (3, [.ref rm, .int r_1.2.2.2.2.2.2.2.2.2])), (rm, .inl (g.2.1, 588, .inl r_1.2.2.2.2.2.2.2.2.1))] := hD
  refine lv_i2l hx hb dL_worthOf_8 rfl ?_
  obtain ⟨hi, hyp⟩ := grd_e hyp
  refine va_last hx hb hE.1 hP hD hS 0 1 rfl rfl (inB_vp hi) dL_worthOf_9 (fun H locs hP hD hS => ?_)
  have hP : va_P g.1 vwCl [(ou, .inl (g.2.2.1, 1, .inr (.inl (vp_updL fo (0 : Int32).toNatClampNeg r_1.2.1.toInt64)))), (hg, .inr (8, [.ref st, .ref tr, .ref sa, .ref sk, .ref sv, .ref mt, .ref ml, .ref ad, .ref kw])), (st, .inr (7, [.ref b, .int sd, .int mv, .int gm, va_rf lt, .int w1, .int w2, .int dg, .int t1, .int t2, .int am])), (b, .inr (1, [.ref ca, .int kk, .int sg])), (ca, .inl (g.2.1, 49, .inl f)), (ad, .inr (0, [.ref be, .ref rp, .ref rl])), (be, .inr (1, [.ref bc, .int r_1.2.2.2.1, .int r_1.2.2.2.2.1])), (bc, .inl (g.2.1, 49, .inl r_1.2.2.1)), (rp, .inr (1, [.ref rc, .int r_1.2.2.2.2.2.2.1, .int r_1.2.2.2.2.2.2.2.1])), (rc, .inl (g.2.1, 49, .inl r_1.2.2.2.2.2.1)), (rl, .inr (3, [.ref rm, .int r_1.2.2.2.2.2.2.2.2.2])), (rm, .inl (g.2.1, 588, .inl r_1.2.2.2.2.2.2.2.2.1))] H := hP
  have hD : va_D A [(ou, .inl (g.2.2.1, 1, .inr (.inl (vp_updL fo (0 : Int32).toNatClampNeg r_1.2.1.toInt64)))), (hg, .inr (8, [.ref st, .ref tr, .ref sa, .ref sk, .ref sv, .ref mt, .ref ml, .ref ad, .ref kw])), (st, .inr (7, [.ref b, .int sd, .int mv, .int gm, va_rf lt, .int w1, .int w2, .int dg, .int t1, .int t2, .int am])), (b, .inr (1, [.ref ca, .int kk, .int sg])), (ca, .inl (g.2.1, 49, .inl f)), (ad, .inr (0, [.ref be, .ref rp, .ref rl])), (be, .inr (1, [.ref bc, .int r_1.2.2.2.1, .int r_1.2.2.2.2.1])), (bc, .inl (g.2.1, 49, .inl r_1.2.2.1)), (rp, .inr (1, [.ref rc, .int r_1.2.2.2.2.2.2.1, .int r_1.2.2.2.2.2.2.2.1])), (rc, .inl (g.2.1, 49, .inl r_1.2.2.2.2.2.1)), (rl, .inr (3, [.ref rm, .int r_1.2.2.2.2.2.2.2.2.2])), (rm, .inl (g.2.1, 588, .inl r_1.2.2.2.2.2.2.2.2.1))] := hD
  refine lv_goto (tgt := 21) hx hb dL_worthOf_10 (by decide) ?_
  refine lv_iconst (v := 0) hx hb dL_worthOf_21 (by decide) ?_
  have hP : va_P g.1 vwCl [(hg, .inr (8, [.ref st, .ref tr, .ref sa, .ref sk, .ref sv, .ref mt, .ref ml, .ref ad, .ref kw])), (st, .inr (7, [.ref b, .int sd, .int mv, .int gm, va_rf lt, .int w1, .int w2, .int dg, .int t1, .int t2, .int am])), (b, .inr (1, [.ref ca, .int kk, .int sg])), (ca, .inl (g.2.1, 49, .inl f)), (ad, .inr (0, [.ref be, .ref rp, .ref rl])), (be, .inr (1, [.ref bc, .int r_1.2.2.2.1, .int r_1.2.2.2.2.1])), (bc, .inl (g.2.1, 49, .inl r_1.2.2.1)), (rp, .inr (1, [.ref rc, .int r_1.2.2.2.2.2.2.1, .int r_1.2.2.2.2.2.2.2.1])), (rc, .inl (g.2.1, 49, .inl r_1.2.2.2.2.2.1)), (rl, .inr (3, [.ref rm, .int r_1.2.2.2.2.2.2.2.2.2])), (rm, .inl (g.2.1, 588, .inl r_1.2.2.2.2.2.2.2.2.1)), (ou, .inl (g.2.2.1, 1, .inr (.inl (vp_updL fo (0 : Int32).toNatClampNeg r_1.2.1.toInt64))))] H := hP.sub [1, 2, 3, 4, 5, 6, 7, 8, 9, 10, 11, 0] rfl
  have hD : va_D A [(hg, .inr (8, [.ref st, .ref tr, .ref sa, .ref sk, .ref sv, .ref mt, .ref ml, .ref ad, .ref kw])), (st, .inr (7, [.ref b, .int sd, .int mv, .int gm, va_rf lt, .int w1, .int w2, .int dg, .int t1, .int t2, .int am])), (b, .inr (1, [.ref ca, .int kk, .int sg])), (ca, .inl (g.2.1, 49, .inl f)), (ad, .inr (0, [.ref be, .ref rp, .ref rl])), (be, .inr (1, [.ref bc, .int r_1.2.2.2.1, .int r_1.2.2.2.2.1])), (bc, .inl (g.2.1, 49, .inl r_1.2.2.1)), (rp, .inr (1, [.ref rc, .int r_1.2.2.2.2.2.2.1, .int r_1.2.2.2.2.2.2.2.1])), (rc, .inl (g.2.1, 49, .inl r_1.2.2.2.2.2.1)), (rl, .inr (3, [.ref rm, .int r_1.2.2.2.2.2.2.2.2.2])), (rm, .inl (g.2.1, 588, .inl r_1.2.2.2.2.2.2.2.2.1)), (ou, .inl (g.2.2.1, 1, .inr (.inl (vp_updL fo (0 : Int32).toNatClampNeg r_1.2.1.toInt64))))] := hD.sub [1, 2, 3, 4, 5, 6, 7, 8, 9, 10, 11, 0] (by decide) rfl
  have hyp := some_e hyp
  subst hyp
  subst hQ
  exact xrI (na := s.heap.size) hx hb hr hlocks (Nat.le_refl _) hP hD hS (Nat.le_of_ble_eq_true rfl) (Nat.le_of_ble_eq_true rfl) dL_worthOf_22

def fL_bestMove (kk : Int32) (sg : Int32) (f : Nat → Int32) (bk : Int32) (bs : Int32) (bf : Nat → Int32) (rk : Int32) (rs : Int32) (rf : Nat → Int32) (rn : Int32) (rmf : Nat → Int32) (cnt : Int32) (mf : Nat → Int32) (fo : Nat → Int64) (a1 : Int32) : Option (Int32 × (Nat → Int32) × Int32 × Int32 × (Nat → Int32) × Int32 × Int32 × (Nat → Int32) × Int32 × (Nat → Int32) × Int32 × (Nat → Int64)) :=
  (fX8_bestMove kk sg f bk bs bf rk rs rf rn rmf cnt mf a1).bind (fun (r_1 : Nat × Int32 × (Nat → Int32) × Int32 × Int32 × (Nat → Int32) × Int32 × Int32 × (Nat → Int32) × Int32 × (Nat → Int32) × Int32) => if r_1.1 = 0 then (grd (inB 0 1) (some (0, r_1.2.2.1, r_1.2.2.2.1, r_1.2.2.2.2.1, r_1.2.2.2.2.2.1, r_1.2.2.2.2.2.2.1, r_1.2.2.2.2.2.2.2.1, r_1.2.2.2.2.2.2.2.2.1, r_1.2.2.2.2.2.2.2.2.2.1, r_1.2.2.2.2.2.2.2.2.2.2.1, r_1.2.2.2.2.2.2.2.2.2.2.2, vp_updL fo (0 : Int32).toNatClampNeg r_1.2.1.toInt64))) else (if r_1.1 = 1 then (some (1, r_1.2.2.1, r_1.2.2.2.1, r_1.2.2.2.2.1, r_1.2.2.2.2.2.1, r_1.2.2.2.2.2.2.1, r_1.2.2.2.2.2.2.2.1, r_1.2.2.2.2.2.2.2.2.1, r_1.2.2.2.2.2.2.2.2.2.1, r_1.2.2.2.2.2.2.2.2.2.2.1, r_1.2.2.2.2.2.2.2.2.2.2.2, fo)) else (if r_1.1 = 3 then (some (2, r_1.2.2.1, r_1.2.2.2.1, r_1.2.2.2.2.1, r_1.2.2.2.2.2.1, r_1.2.2.2.2.2.2.1, r_1.2.2.2.2.2.2.2.1, r_1.2.2.2.2.2.2.2.2.1, r_1.2.2.2.2.2.2.2.2.2.1, r_1.2.2.2.2.2.2.2.2.2.2.1, r_1.2.2.2.2.2.2.2.2.2.2.2, fo)) else (none))))
set_option maxRecDepth 100000 in
set_option maxHeartbeats 4000000 in
theorem mL_bestMove (l : Launch) (hl0 : l.stackTraces = false) (g : GE) (hg st b ca ad be bc rp rc rl rm ml mc ou tr sa sk sv mt kw zc zp : Nat) (sd : Int32) (mv : Int32) (gm : Int32) (lt : Option Nat) (w1 : Int32) (w2 : Int32) (dg : Int32) (t1 : Int32) (t2 : Int32) (am : Int32) (kk : Int32) (sg : Int32) (f : Nat → Int32) (bk : Int32) (bs : Int32) (bf : Nat → Int32) (rk : Int32) (rs : Int32) (rf : Nat → Int32) (rn : Int32) (rmf : Nat → Int32) (cnt : Int32) (mf : Nat → Int32) (fo : Nat → Int64) (a1 : Int32) (r : Int32 × (Nat → Int32) × Int32 × Int32 × (Nat → Int32) × Int32 × Int32 × (Nat → Int32) × Int32 × (Nat → Int32) × Int32 × (Nat → Int64)) (hyp : fL_bestMove kk sg f bk bs bf rk rs rf rn rmf cnt mf fo a1 = some r) : LM l yL_bestMove cL_bestMove 4 [(0, 9, 12, 13), (0, 9, 15, 17)] 8 196 2 12 g [(hg, .inr (8, [.ref st, .ref tr, .ref sa, .ref sk, .ref sv, .ref mt, .ref ml, .ref ad, .ref kw])), (st, .inr (7, [.ref b, .int sd, .int mv, .int gm, va_rf lt, .int w1, .int w2, .int dg, .int t1, .int t2, .int am])), (b, .inr (1, [.ref ca, .int kk, .int sg])), (ca, .inl (g.2.1, 49, .inl f)), (ad, .inr (0, [.ref be, .ref rp, .ref rl])), (be, .inr (1, [.ref bc, .int bk, .int bs])), (bc, .inl (g.2.1, 49, .inl bf)), (rp, .inr (1, [.ref rc, .int rk, .int rs])), (rc, .inl (g.2.1, 49, .inl rf)), (rl, .inr (3, [.ref rm, .int rn])), (rm, .inl (g.2.1, 588, .inl rmf)), (ml, .inr (3, [.ref mc, .int cnt])), (mc, .inl (g.2.1, 588, .inl mf)), (ou, .inl (g.2.2.1, 1, .inr (.inl fo)))] (OZ g zc zp [] none) [.ref hg, .int a1, .ref ou] (some (.int r.1)) (fun na => [(hg, .inr (8, [.ref st, .ref tr, .ref sa, .ref sk, .ref sv, .ref mt, .ref ml, .ref ad, .ref kw])), (st, .inr (7, [.ref b, .int sd, .int mv, .int gm, va_rf lt, .int w1, .int w2, .int dg, .int t1, .int t2, .int am])), (b, .inr (1, [.ref ca, .int kk, .int sg])), (ca, .inl (g.2.1, 49, .inl f)), (ad, .inr (0, [.ref be, .ref rp, .ref rl])), (be, .inr (1, [.ref bc, .int r.2.2.1, .int r.2.2.2.1])), (bc, .inl (g.2.1, 49, .inl r.2.1)), (rp, .inr (1, [.ref rc, .int r.2.2.2.2.2.1, .int r.2.2.2.2.2.2.1])), (rc, .inl (g.2.1, 49, .inl r.2.2.2.2.1)), (rl, .inr (3, [.ref rm, .int r.2.2.2.2.2.2.2.2.1])), (rm, .inl (g.2.1, 588, .inl r.2.2.2.2.2.2.2.1)), (ml, .inr (3, [.ref mc, .int r.2.2.2.2.2.2.2.2.2.2.1])), (mc, .inl (g.2.1, 588, .inl r.2.2.2.2.2.2.2.2.2.1)), (ou, .inl (g.2.2.1, 1, .inr (.inl r.2.2.2.2.2.2.2.2.2.2.2)))]) := by
  refine metL_intro (by decide) rfl ?_
  intro p e R s m args below meth c Q A hRf hRl hRc hRs hQ hx hb hml hr hlocks htab hown hts hin hE hSR hNC hA hO H locs hP hD hS ls hl
  have hown : s.vm.findClass "HallGuardsLaw" = some m.cls := hown
  have hl : lv_has ls 4 [(0, .ref hg), (1, .int a1), (2, .ref ou)] := hl
  unfold fL_bestMove at hyp
  refine lv_aload_n hx hb dL_bestMove_0 rfl (lv_at hl 2 rfl) ?_
  refine lv_iconst (v := 0) hx hb dL_bestMove_1 (by decide) ?_
  refine lv_aload_n hx hb dL_bestMove_2 rfl (lv_at hl 0 rfl) ?_
  refine lv_iload_n hx hb dL_bestMove_3 rfl (lv_at hl 1 rfl) ?_
  obtain ⟨r_1, hr_1, hyp⟩ := opt_e hyp
  refine xV (As := [.int a1]) (rest := [.int 0, .ref ou]) ⟨hx, hb, hml, hown, hts⟩ hE hSR (mX8_bestMove l hl0 g hg st b ca ad be bc rp rc rl rm ml mc tr sa sk sv mt kw zc zp sd mv gm lt w1 w2 dg t1 t2 am kk sg f bk bs bf rk rs rf rn rmf cnt mf a1 r_1 hr_1) (OZ_ok g zc zp _ _) hO cf_X8_bestMove im_X8_bestMove se_X8_bestMove ml_L_103 ⟨Nat.le_trans (Nat.le_of_ble_eq_true rfl) hRf, Nat.le_trans (Nat.le_of_ble_eq_true rfl) hRl⟩ hP hD hS hA [0, 1, 2, 3, 4, 5, 6, 7, 8, 9, 10, 11, 12] [13] rfl (wr := [(ou, .inl (g.2.2.1, 1, .inr (.inl fo)))]) rfl ⟨by decide, by decide⟩ (by decide) (ci := 8) (q0 := 0) rfl rfl rfl rfl hl.1 rfl (Nat.le_of_ble_eq_true rfl) dL_bestMove_4 ⟨Nat.le_trans (Nat.le_of_ble_eq_true rfl) hRc, Nat.le_trans (Nat.le_of_ble_eq_true rfl) hRs⟩ (fun hk0 na_2 H locs hna_2 hP hD hS => ?_) (fun hk0 na9 q9 ce9 H locs hna9 hP hD hS hce hcv hcl => ?_)
  rotate_left 1
  · replace hyp := ite_f hk0 hyp
    have hP : va_P g.1 vwCl [(ou, .inl (g.2.2.1, 1, .inr (.inl fo))), (hg, .inr (8, [.ref st, .ref tr, .ref sa, .ref sk, .ref sv, .ref mt, .ref ml, .ref ad, .ref kw])), (st, .inr (7, [.ref b, .int sd, .int mv, .int gm, va_rf lt, .int w1, .int w2, .int dg, .int t1, .int t2, .int am])), (b, .inr (1, [.ref ca, .int kk, .int sg])), (ca, .inl (g.2.1, 49, .inl f)), (ad, .inr (0, [.ref be, .ref rp, .ref rl])), (be, .inr (1, [.ref bc, .int r_1.2.2.2.1, .int r_1.2.2.2.2.1])), (bc, .inl (g.2.1, 49, .inl r_1.2.2.1)), (rp, .inr (1, [.ref rc, .int r_1.2.2.2.2.2.2.1, .int r_1.2.2.2.2.2.2.2.1])), (rc, .inl (g.2.1, 49, .inl r_1.2.2.2.2.2.1)), (rl, .inr (3, [.ref rm, .int r_1.2.2.2.2.2.2.2.2.2.1])), (rm, .inl (g.2.1, 588, .inl r_1.2.2.2.2.2.2.2.2.1)), (ml, .inr (3, [.ref mc, .int r_1.2.2.2.2.2.2.2.2.2.2.2])), (mc, .inl (g.2.1, 588, .inl r_1.2.2.2.2.2.2.2.2.2.2.1))] H := hP
    have hD : va_D A [(ou, .inl (g.2.2.1, 1, .inr (.inl fo))), (hg, .inr (8, [.ref st, .ref tr, .ref sa, .ref sk, .ref sv, .ref mt, .ref ml, .ref ad, .ref kw])), (st, .inr (7, [.ref b, .int sd, .int mv, .int gm, va_rf lt, .int w1, .int w2, .int dg, .int t1, .int t2, .int am])), (b, .inr (1, [.ref ca, .int kk, .int sg])), (ca, .inl (g.2.1, 49, .inl f)), (ad, .inr (0, [.ref be, .ref rp, .ref rl])), (be, .inr (1, [.ref bc, .int r_1.2.2.2.1, .int r_1.2.2.2.2.1])), (bc, .inl (g.2.1, 49, .inl r_1.2.2.1)), (rp, .inr (1, [.ref rc, .int r_1.2.2.2.2.2.2.1, .int r_1.2.2.2.2.2.2.2.1])), (rc, .inl (g.2.1, 49, .inl r_1.2.2.2.2.2.1)), (rl, .inr (3, [.ref rm, .int r_1.2.2.2.2.2.2.2.2.2.1])), (rm, .inl (g.2.1, 588, .inl r_1.2.2.2.2.2.2.2.2.1)), (ml, .inr (3, [.ref mc, .int r_1.2.2.2.2.2.2.2.2.2.2.2])), (mc, .inl (g.2.1, 588, .inl r_1.2.2.2.2.2.2.2.2.2.2.1))] := hD
    have hP : va_P g.1 vwCl [(hg, .inr (8, [.ref st, .ref tr, .ref sa, .ref sk, .ref sv, .ref mt, .ref ml, .ref ad, .ref kw])), (st, .inr (7, [.ref b, .int sd, .int mv, .int gm, va_rf lt, .int w1, .int w2, .int dg, .int t1, .int t2, .int am])), (b, .inr (1, [.ref ca, .int kk, .int sg])), (ca, .inl (g.2.1, 49, .inl f)), (ad, .inr (0, [.ref be, .ref rp, .ref rl])), (be, .inr (1, [.ref bc, .int r_1.2.2.2.1, .int r_1.2.2.2.2.1])), (bc, .inl (g.2.1, 49, .inl r_1.2.2.1)), (rp, .inr (1, [.ref rc, .int r_1.2.2.2.2.2.2.1, .int r_1.2.2.2.2.2.2.2.1])), (rc, .inl (g.2.1, 49, .inl r_1.2.2.2.2.2.1)), (rl, .inr (3, [.ref rm, .int r_1.2.2.2.2.2.2.2.2.2.1])), (rm, .inl (g.2.1, 588, .inl r_1.2.2.2.2.2.2.2.2.1)), (ml, .inr (3, [.ref mc, .int r_1.2.2.2.2.2.2.2.2.2.2.2])), (mc, .inl (g.2.1, 588, .inl r_1.2.2.2.2.2.2.2.2.2.2.1)), (ou, .inl (g.2.2.1, 1, .inr (.inl fo)))] H := hP.sub [1, 2, 3, 4, 5, 6, 7, 8, 9, 10, 11, 12, 13, 0] rfl
    have hD : va_D A [(hg, .inr (8, [.ref st, .ref tr, .ref sa, .ref sk, .ref sv, .ref mt, .ref ml, .ref ad, .ref kw])), (st, .inr (7, [.ref b, .int sd, .int mv, .int gm, va_rf lt, .int w1, .int w2, .int dg, .int t1, .int t2, .int am])), (b, .inr (1, [.ref ca, .int kk, .int sg])), (ca, .inl (g.2.1, 49, .inl f)), (ad, .inr (0, [.ref be, .ref rp, .ref rl])), (be, .inr (1, [.ref bc, .int r_1.2.2.2.1, .int r_1.2.2.2.2.1])), (bc, .inl (g.2.1, 49, .inl r_1.2.2.1)), (rp, .inr (1, [.ref rc, .int r_1.2.2.2.2.2.2.1, .int r_1.2.2.2.2.2.2.2.1])), (rc, .inl (g.2.1, 49, .inl r_1.2.2.2.2.2.1)), (rl, .inr (3, [.ref rm, .int r_1.2.2.2.2.2.2.2.2.2.1])), (rm, .inl (g.2.1, 588, .inl r_1.2.2.2.2.2.2.2.2.1)), (ml, .inr (3, [.ref mc, .int r_1.2.2.2.2.2.2.2.2.2.2.2])), (mc, .inl (g.2.1, 588, .inl r_1.2.2.2.2.2.2.2.2.2.2.1)), (ou, .inl (g.2.2.1, 1, .inr (.inl fo)))] := hD.sub [1, 2, 3, 4, 5, 6, 7, 8, 9, 10, 11, 12, 13, 0] (by decide) rfl
    by_cases h_3 : r_1.1 = 1
    · replace hyp := ite_t h_3 hyp
      rw [h_3] at hcl
      refine catK 0 ⟨0, 9, 12, 13⟩ 1 htab rfl hown (fun z hz => nomatch hz) (by decide) (by decide) hts hSR cl_L_13 cast_1 hce hcv hcl ?_
      refine lv_astore_n (lv' := [(3, .ref q9), (0, .ref hg), (1, .int a1), (2, .ref ou)]) hx hb dL_bestMove_12 rfl hl (by decide) rfl (fun ls hl => ?_)
      refine lv_iconst (v := 1) hx hb dL_bestMove_13 (by decide) ?_
      have hyp := some_e hyp
      subst hyp
      subst hQ
      exact xrI (na := s.heap.size) hx hb hr hlocks (Nat.le_refl _) hP hD hS (Nat.le_of_ble_eq_true rfl) (Nat.le_of_ble_eq_true rfl) dL_bestMove_14
    · replace hyp := ite_f h_3 hyp
      by_cases h_4 : r_1.1 = 3
      · replace hyp := ite_t h_4 hyp
        rw [h_4] at hcl
        refine catK 1 ⟨0, 9, 15, 17⟩ 3 htab rfl hown (List.forall_mem_cons.mpr ⟨⟨by decide, _, hts _ cl_L_13, hNC.2.1⟩, fun z hz => nomatch hz⟩) (by decide) (by decide) hts hSR cl_L_17 cast_3 hce hcv hcl ?_
        refine lv_astore_n (lv' := [(3, .ref q9), (0, .ref hg), (1, .int a1), (2, .ref ou)]) hx hb dL_bestMove_15 rfl hl (by decide) rfl (fun ls hl => ?_)
        refine lv_iconst (v := 2) hx hb dL_bestMove_16 (by decide) ?_
        have hyp := some_e hyp
        subst hyp
        subst hQ
        exact xrI (na := s.heap.size) hx hb hr hlocks (Nat.le_refl _) hP hD hS (Nat.le_of_ble_eq_true rfl) (Nat.le_of_ble_eq_true rfl) dL_bestMove_17
      · replace hyp := ite_f h_4 hyp
        cases hyp
  replace hyp := ite_t hk0 hyp
  have hP : va_P g.1 vwCl [(ou, .inl (g.2.2.1, 1, .inr (.inl fo))), (hg, .inr (8, [.ref st, .ref tr, .ref sa, .ref sk, .ref sv, .ref mt, .ref ml, .ref ad, .ref kw])), (st, .inr (7, [.ref b, .int sd, .int mv, .int gm, va_rf lt, .int w1, .int w2, .int dg, .int t1, .int t2, .int am])), (b, .inr (1, [.ref ca, .int kk, .int sg])), (ca, .inl (g.2.1, 49, .inl f)), (ad, .inr (0, [.ref be, .ref rp, .ref rl])), (be, .inr (1, [.ref bc, .int r_1.2.2.2.1, .int r_1.2.2.2.2.1])), (bc, .inl (g.2.1, 49, .inl r_1.2.2.1)), (rp, .inr (1, [.ref rc, .int r_1.2.2.2.2.2.2.1, .int r_1.2.2.2.2.2.2.2.1])), (rc, .inl (g.2.1, 49, .inl r_1.2.2.2.2.2.1)), (rl, .inr (3, [.ref rm, .int r_1.2.2.2.2.2.2.2.2.2.1])), (rm, .inl (g.2.1, 588, .inl r_1.2.2.2.2.2.2.2.2.1)), (ml, .inr (3, [.ref mc, .int r_1.2.2.2.2.2.2.2.2.2.2.2])), (mc, .inl (g.2.1, 588, .inl r_1.2.2.2.2.2.2.2.2.2.2.1))] H := hP
  have hD : va_D A [(ou, .inl (g.2.2.1, 1, .inr (.inl fo))), (hg, .inr (8, [.ref st, .ref tr, .ref sa, .ref sk, .ref sv, .ref mt, .ref ml, .ref ad, .ref kw])), (st, .inr (7, [.ref b, .int sd, .int mv, .int gm, va_rf lt, .int w1, .int w2, .int dg, .int t1, .int t2, .int am])), (b, .inr (1, [.ref ca, .int kk, .int sg])), (ca, .inl (g.2.1, 49, .inl f)), (ad, .inr (0, [.ref be, .ref rp, .ref rl])), (be, .inr (1, [.ref bc, .int r_1.2.2.2.1, .int r_1.2.2.2.2.1])), (bc, .inl (g.2.1, 49, .inl r_1.2.2.1)), (rp, .inr (1, [.ref rc, .int r_1.2.2.2.2.2.2.1, .int r_1.2.2.2.2.2.2.2.1])), (rc, .inl (g.2.1, 49, .inl r_1.2.2.2.2.2.1)), (rl, .inr (3, [.ref rm, .int r_1.2.2.2.2.2.2.2.2.2.1])), (rm, .inl (g.2.1, 588, .inl r_1.2.2.2.2.2.2.2.2.1)), (ml, .inr (3, [.ref mc, .int r_1.2.2.2.2.2.2.2.2.2.2.2])), (mc, .inl (g.2.1, 588, .inl r_1.2.2.2.2.2.2.2.2.2.2.1))] := hD
  refine lv_i2l hx hb dL_bestMove_7 rfl ?_
  obtain ⟨hi, hyp⟩ := grd_e hyp
  refine va_last hx hb hE.1 hP hD hS 0 1 rfl rfl (inB_vp hi) dL_bestMove_8 (fun H locs hP hD hS => ?_)
  have hP : va_P g.1 vwCl [(ou, .inl (g.2.2.1, 1, .inr (.inl (vp_updL fo (0 : Int32).toNatClampNeg r_1.2.1.toInt64)))), (hg, .inr (8, [.ref st, .ref tr, .ref sa, .ref sk, .ref sv, .ref mt, .ref ml, .ref ad, .ref kw])), (st, .inr (7, [.ref b, .int sd, .int mv, .int gm, va_rf lt, .int w1, .int w2, .int dg, .int t1, .int t2, .int am])), (b, .inr (1, [.ref ca, .int kk, .int sg])), (ca, .inl (g.2.1, 49, .inl f)), (ad, .inr (0, [.ref be, .ref rp, .ref rl])), (be, .inr (1, [.ref bc, .int r_1.2.2.2.1, .int r_1.2.2.2.2.1])), (bc, .inl (g.2.1, 49, .inl r_1.2.2.1)), (rp, .inr (1, [.ref rc, .int r_1.2.2.2.2.2.2.1, .int r_1.2.2.2.2.2.2.2.1])), (rc, .inl (g.2.1, 49, .inl r_1.2.2.2.2.2.1)), (rl, .inr (3, [.ref rm, .int r_1.2.2.2.2.2.2.2.2.2.1])), (rm, .inl (g.2.1, 588, .inl r_1.2.2.2.2.2.2.2.2.1)), (ml, .inr (3, [.ref mc, .int r_1.2.2.2.2.2.2.2.2.2.2.2])), (mc, .inl (g.2.1, 588, .inl r_1.2.2.2.2.2.2.2.2.2.2.1))] H := hP
  have hD : va_D A [(ou, .inl (g.2.2.1, 1, .inr (.inl (vp_updL fo (0 : Int32).toNatClampNeg r_1.2.1.toInt64)))), (hg, .inr (8, [.ref st, .ref tr, .ref sa, .ref sk, .ref sv, .ref mt, .ref ml, .ref ad, .ref kw])), (st, .inr (7, [.ref b, .int sd, .int mv, .int gm, va_rf lt, .int w1, .int w2, .int dg, .int t1, .int t2, .int am])), (b, .inr (1, [.ref ca, .int kk, .int sg])), (ca, .inl (g.2.1, 49, .inl f)), (ad, .inr (0, [.ref be, .ref rp, .ref rl])), (be, .inr (1, [.ref bc, .int r_1.2.2.2.1, .int r_1.2.2.2.2.1])), (bc, .inl (g.2.1, 49, .inl r_1.2.2.1)), (rp, .inr (1, [.ref rc, .int r_1.2.2.2.2.2.2.1, .int r_1.2.2.2.2.2.2.2.1])), (rc, .inl (g.2.1, 49, .inl r_1.2.2.2.2.2.1)), (rl, .inr (3, [.ref rm, .int r_1.2.2.2.2.2.2.2.2.2.1])), (rm, .inl (g.2.1, 588, .inl r_1.2.2.2.2.2.2.2.2.1)), (ml, .inr (3, [.ref mc, .int r_1.2.2.2.2.2.2.2.2.2.2.2])), (mc, .inl (g.2.1, 588, .inl r_1.2.2.2.2.2.2.2.2.2.2.1))] := hD
  refine lv_goto (tgt := 18) hx hb dL_bestMove_9 (by decide) ?_
  refine lv_iconst (v := 0) hx hb dL_bestMove_18 (by decide) ?_
  have hP : va_P g.1 vwCl [(hg, .inr (8, [.ref st, .ref tr, .ref sa, .ref sk, .ref sv, .ref mt, .ref ml, .ref ad, .ref kw])), (st, .inr (7, [.ref b, .int sd, .int mv, .int gm, va_rf lt, .int w1, .int w2, .int dg, .int t1, .int t2, .int am])), (b, .inr (1, [.ref ca, .int kk, .int sg])), (ca, .inl (g.2.1, 49, .inl f)), (ad, .inr (0, [.ref be, .ref rp, .ref rl])), (be, .inr (1, [.ref bc, .int r_1.2.2.2.1, .int r_1.2.2.2.2.1])), (bc, .inl (g.2.1, 49, .inl r_1.2.2.1)), (rp, .inr (1, [.ref rc, .int r_1.2.2.2.2.2.2.1, .int r_1.2.2.2.2.2.2.2.1])), (rc, .inl (g.2.1, 49, .inl r_1.2.2.2.2.2.1)), (rl, .inr (3, [.ref rm, .int r_1.2.2.2.2.2.2.2.2.2.1])), (rm, .inl (g.2.1, 588, .inl r_1.2.2.2.2.2.2.2.2.1)), (ml, .inr (3, [.ref mc, .int r_1.2.2.2.2.2.2.2.2.2.2.2])), (mc, .inl (g.2.1, 588, .inl r_1.2.2.2.2.2.2.2.2.2.2.1)), (ou, .inl (g.2.2.1, 1, .inr (.inl (vp_updL fo (0 : Int32).toNatClampNeg r_1.2.1.toInt64))))] H := hP.sub [1, 2, 3, 4, 5, 6, 7, 8, 9, 10, 11, 12, 13, 0] rfl
  have hD : va_D A [(hg, .inr (8, [.ref st, .ref tr, .ref sa, .ref sk, .ref sv, .ref mt, .ref ml, .ref ad, .ref kw])), (st, .inr (7, [.ref b, .int sd, .int mv, .int gm, va_rf lt, .int w1, .int w2, .int dg, .int t1, .int t2, .int am])), (b, .inr (1, [.ref ca, .int kk, .int sg])), (ca, .inl (g.2.1, 49, .inl f)), (ad, .inr (0, [.ref be, .ref rp, .ref rl])), (be, .inr (1, [.ref bc, .int r_1.2.2.2.1, .int r_1.2.2.2.2.1])), (bc, .inl (g.2.1, 49, .inl r_1.2.2.1)), (rp, .inr (1, [.ref rc, .int r_1.2.2.2.2.2.2.1, .int r_1.2.2.2.2.2.2.2.1])), (rc, .inl (g.2.1, 49, .inl r_1.2.2.2.2.2.1)), (rl, .inr (3, [.ref rm, .int r_1.2.2.2.2.2.2.2.2.2.1])), (rm, .inl (g.2.1, 588, .inl r_1.2.2.2.2.2.2.2.2.1)), (ml, .inr (3, [.ref mc, .int r_1.2.2.2.2.2.2.2.2.2.2.2])), (mc, .inl (g.2.1, 588, .inl r_1.2.2.2.2.2.2.2.2.2.2.1)), (ou, .inl (g.2.2.1, 1, .inr (.inl (vp_updL fo (0 : Int32).toNatClampNeg r_1.2.1.toInt64))))] := hD.sub [1, 2, 3, 4, 5, 6, 7, 8, 9, 10, 11, 12, 13, 0] (by decide) rfl
  have hyp := some_e hyp
  subst hyp
  subst hQ
  exact xrI (na := s.heap.size) hx hb hr hlocks (Nat.le_refl _) hP hD hS (Nat.le_of_ble_eq_true rfl) (Nat.le_of_ble_eq_true rfl) dL_bestMove_19

def fL_wins (w1 : Int32) (w2 : Int32) (fo : Nat → Int64) (a1 : Int32) : Option (Int32 × (Nat → Int64)) :=
  (fX8_wins w1 w2 a1).bind (fun (r_1 : Nat × Int32) => if r_1.1 = 0 then (grd (inB 0 1) (some (0, vp_updL fo (0 : Int32).toNatClampNeg r_1.2.toInt64))) else (if r_1.1 = 1 then (some (1, fo)) else (none)))
set_option maxRecDepth 100000 in
set_option maxHeartbeats 4000000 in
theorem mL_wins (l : Launch) (hl0 : l.stackTraces = false) (g : GE) (hg st b ca ou tr sa sk sv mt ml ad kw zc zp : Nat) (sd : Int32) (mv : Int32) (gm : Int32) (lt : Option Nat) (w1 : Int32) (w2 : Int32) (dg : Int32) (t1 : Int32) (t2 : Int32) (am : Int32) (kk : Int32) (sg : Int32) (f : Nat → Int32) (fo : Nat → Int64) (a1 : Int32) (r : Int32 × (Nat → Int64)) (hyp : fL_wins w1 w2 fo a1 = some r) : LM l yL_wins cL_wins 4 [(0, 9, 12, 13)] 8 131 1 6 g [(hg, .inr (8, [.ref st, .ref tr, .ref sa, .ref sk, .ref sv, .ref mt, .ref ml, .ref ad, .ref kw])), (st, .inr (7, [.ref b, .int sd, .int mv, .int gm, va_rf lt, .int w1, .int w2, .int dg, .int t1, .int t2, .int am])), (b, .inr (1, [.ref ca, .int kk, .int sg])), (ca, .inl (g.2.1, 49, .inl f)), (ou, .inl (g.2.2.1, 1, .inr (.inl fo)))] (OZ g zc zp [] none) [.ref hg, .int a1, .ref ou] (some (.int r.1)) (fun na => [(hg, .inr (8, [.ref st, .ref tr, .ref sa, .ref sk, .ref sv, .ref mt, .ref ml, .ref ad, .ref kw])), (st, .inr (7, [.ref b, .int sd, .int mv, .int gm, va_rf lt, .int w1, .int w2, .int dg, .int t1, .int t2, .int am])), (b, .inr (1, [.ref ca, .int kk, .int sg])), (ca, .inl (g.2.1, 49, .inl f)), (ou, .inl (g.2.2.1, 1, .inr (.inl r.2)))]) := by
  refine metL_intro (by decide) rfl ?_
  intro p e R s m args below meth c Q A hRf hRl hRc hRs hQ hx hb hml hr hlocks htab hown hts hin hE hSR hNC hA hO H locs hP hD hS ls hl
  have hown : s.vm.findClass "HallGuardsLaw" = some m.cls := hown
  have hl : lv_has ls 4 [(0, .ref hg), (1, .int a1), (2, .ref ou)] := hl
  unfold fL_wins at hyp
  refine lv_aload_n hx hb dL_wins_0 rfl (lv_at hl 2 rfl) ?_
  refine lv_iconst (v := 0) hx hb dL_wins_1 (by decide) ?_
  refine lv_aload_n hx hb dL_wins_2 rfl (lv_at hl 0 rfl) ?_
  refine lv_iload_n hx hb dL_wins_3 rfl (lv_at hl 1 rfl) ?_
  obtain ⟨r_1, hr_1, hyp⟩ := opt_e hyp
  refine xV (As := [.int a1]) (rest := [.int 0, .ref ou]) ⟨hx, hb, hml, hown, hts⟩ hE hSR (mX8_wins l hl0 g hg st b ca tr sa sk sv mt ml ad kw zc zp sd mv gm lt w1 w2 dg t1 t2 am kk sg f a1 r_1 hr_1) (OZ_ok g zc zp _ _) hO cf_X8_wins im_X8_wins se_X8_wins ml_L_106 ⟨Nat.le_trans (Nat.le_of_ble_eq_true rfl) hRf, Nat.le_trans (Nat.le_of_ble_eq_true rfl) hRl⟩ hP hD hS hA [0, 1, 2, 3] [4] rfl (wr := [(ou, .inl (g.2.2.1, 1, .inr (.inl fo)))]) rfl ⟨by decide, by decide⟩ (by decide) (ci := 8) (q0 := 0) rfl rfl rfl rfl hl.1 rfl (Nat.le_of_ble_eq_true rfl) dL_wins_4 ⟨Nat.le_trans (Nat.le_of_ble_eq_true rfl) hRc, Nat.le_trans (Nat.le_of_ble_eq_true rfl) hRs⟩ (fun hk0 na_2 H locs hna_2 hP hD hS => ?_) (fun hk0 na9 q9 ce9 H locs hna9 hP hD hS hce hcv hcl => ?_)
  rotate_left 1
  · replace hyp := ite_f hk0 hyp
    have hP : va_P g.1 vwCl [(ou, .inl (g.2.2.1, 1, .inr (.inl fo))), (hg, .inr (8, [.ref st, .ref tr, .ref sa, .ref sk, .ref sv, .ref mt, .ref ml, .ref ad, .ref kw])), (st, .inr (7, [.ref b, .int sd, .int mv, .int gm, va_rf lt, .int w1, .int w2, .int dg, .int t1, .int t2, .int am])), (b, .inr (1, [.ref ca, .int kk, .int sg])), (ca, .inl (g.2.1, 49, .inl f))] H := hP
    have hD : va_D A [(ou, .inl (g.2.2.1, 1, .inr (.inl fo))), (hg, .inr (8, [.ref st, .ref tr, .ref sa, .ref sk, .ref sv, .ref mt, .ref ml, .ref ad, .ref kw])), (st, .inr (7, [.ref b, .int sd, .int mv, .int gm, va_rf lt, .int w1, .int w2, .int dg, .int t1, .int t2, .int am])), (b, .inr (1, [.ref ca, .int kk, .int sg])), (ca, .inl (g.2.1, 49, .inl f))] := hD
    have hP : va_P g.1 vwCl [(hg, .inr (8, [.ref st, .ref tr, .ref sa, .ref sk, .ref sv, .ref mt, .ref ml, .ref ad, .ref kw])), (st, .inr (7, [.ref b, .int sd, .int mv, .int gm, va_rf lt, .int w1, .int w2, .int dg, .int t1, .int t2, .int am])), (b, .inr (1, [.ref ca, .int kk, .int sg])), (ca, .inl (g.2.1, 49, .inl f)), (ou, .inl (g.2.2.1, 1, .inr (.inl fo)))] H := hP.sub [1, 2, 3, 4, 0] rfl
    have hD : va_D A [(hg, .inr (8, [.ref st, .ref tr, .ref sa, .ref sk, .ref sv, .ref mt, .ref ml, .ref ad, .ref kw])), (st, .inr (7, [.ref b, .int sd, .int mv, .int gm, va_rf lt, .int w1, .int w2, .int dg, .int t1, .int t2, .int am])), (b, .inr (1, [.ref ca, .int kk, .int sg])), (ca, .inl (g.2.1, 49, .inl f)), (ou, .inl (g.2.2.1, 1, .inr (.inl fo)))] := hD.sub [1, 2, 3, 4, 0] (by decide) rfl
    by_cases h_3 : r_1.1 = 1
    · replace hyp := ite_t h_3 hyp
      rw [h_3] at hcl
      refine catK 0 ⟨0, 9, 12, 13⟩ 1 htab rfl hown (fun z hz => nomatch hz) (by decide) (by decide) hts hSR cl_L_13 cast_1 hce hcv hcl ?_
      refine lv_astore_n (lv' := [(3, .ref q9), (0, .ref hg), (1, .int a1), (2, .ref ou)]) hx hb dL_wins_12 rfl hl (by decide) rfl (fun ls hl => ?_)
      refine lv_iconst (v := 1) hx hb dL_wins_13 (by decide) ?_
      have hyp := some_e hyp
      subst hyp
      subst hQ
      exact xrI (na := s.heap.size) hx hb hr hlocks (Nat.le_refl _) hP hD hS (Nat.le_of_ble_eq_true rfl) (Nat.le_of_ble_eq_true rfl) dL_wins_14
    · replace hyp := ite_f h_3 hyp
      cases hyp
  replace hyp := ite_t hk0 hyp
  have hP : va_P g.1 vwCl [(ou, .inl (g.2.2.1, 1, .inr (.inl fo))), (hg, .inr (8, [.ref st, .ref tr, .ref sa, .ref sk, .ref sv, .ref mt, .ref ml, .ref ad, .ref kw])), (st, .inr (7, [.ref b, .int sd, .int mv, .int gm, va_rf lt, .int w1, .int w2, .int dg, .int t1, .int t2, .int am])), (b, .inr (1, [.ref ca, .int kk, .int sg])), (ca, .inl (g.2.1, 49, .inl f))] H := hP
  have hD : va_D A [(ou, .inl (g.2.2.1, 1, .inr (.inl fo))), (hg, .inr (8, [.ref st, .ref tr, .ref sa, .ref sk, .ref sv, .ref mt, .ref ml, .ref ad, .ref kw])), (st, .inr (7, [.ref b, .int sd, .int mv, .int gm, va_rf lt, .int w1, .int w2, .int dg, .int t1, .int t2, .int am])), (b, .inr (1, [.ref ca, .int kk, .int sg])), (ca, .inl (g.2.1, 49, .inl f))] := hD
  refine lv_i2l hx hb dL_wins_7 rfl ?_
  obtain ⟨hi, hyp⟩ := grd_e hyp
  refine va_last hx hb hE.1 hP hD hS 0 1 rfl rfl (inB_vp hi) dL_wins_8 (fun H locs hP hD hS => ?_)
  have hP : va_P g.1 vwCl [(ou, .inl (g.2.2.1, 1, .inr (.inl (vp_updL fo (0 : Int32).toNatClampNeg r_1.2.toInt64)))), (hg, .inr (8, [.ref st, .ref tr, .ref sa, .ref sk, .ref sv, .ref mt, .ref ml, .ref ad, .ref kw])), (st, .inr (7, [.ref b, .int sd, .int mv, .int gm, va_rf lt, .int w1, .int w2, .int dg, .int t1, .int t2, .int am])), (b, .inr (1, [.ref ca, .int kk, .int sg])), (ca, .inl (g.2.1, 49, .inl f))] H := hP
  have hD : va_D A [(ou, .inl (g.2.2.1, 1, .inr (.inl (vp_updL fo (0 : Int32).toNatClampNeg r_1.2.toInt64)))), (hg, .inr (8, [.ref st, .ref tr, .ref sa, .ref sk, .ref sv, .ref mt, .ref ml, .ref ad, .ref kw])), (st, .inr (7, [.ref b, .int sd, .int mv, .int gm, va_rf lt, .int w1, .int w2, .int dg, .int t1, .int t2, .int am])), (b, .inr (1, [.ref ca, .int kk, .int sg])), (ca, .inl (g.2.1, 49, .inl f))] := hD
  refine lv_goto (tgt := 15) hx hb dL_wins_9 (by decide) ?_
  refine lv_iconst (v := 0) hx hb dL_wins_15 (by decide) ?_
  have hP : va_P g.1 vwCl [(hg, .inr (8, [.ref st, .ref tr, .ref sa, .ref sk, .ref sv, .ref mt, .ref ml, .ref ad, .ref kw])), (st, .inr (7, [.ref b, .int sd, .int mv, .int gm, va_rf lt, .int w1, .int w2, .int dg, .int t1, .int t2, .int am])), (b, .inr (1, [.ref ca, .int kk, .int sg])), (ca, .inl (g.2.1, 49, .inl f)), (ou, .inl (g.2.2.1, 1, .inr (.inl (vp_updL fo (0 : Int32).toNatClampNeg r_1.2.toInt64))))] H := hP.sub [1, 2, 3, 4, 0] rfl
  have hD : va_D A [(hg, .inr (8, [.ref st, .ref tr, .ref sa, .ref sk, .ref sv, .ref mt, .ref ml, .ref ad, .ref kw])), (st, .inr (7, [.ref b, .int sd, .int mv, .int gm, va_rf lt, .int w1, .int w2, .int dg, .int t1, .int t2, .int am])), (b, .inr (1, [.ref ca, .int kk, .int sg])), (ca, .inl (g.2.1, 49, .inl f)), (ou, .inl (g.2.2.1, 1, .inr (.inl (vp_updL fo (0 : Int32).toNatClampNeg r_1.2.toInt64))))] := hD.sub [1, 2, 3, 4, 0] (by decide) rfl
  have hyp := some_e hyp
  subst hyp
  subst hQ
  exact xrI (na := s.heap.size) hx hb hr hlocks (Nat.le_refl _) hP hD hS (Nat.le_of_ble_eq_true rfl) (Nat.le_of_ble_eq_true rfl) dL_wins_16

def fL_takenOf (t1 : Int32) (t2 : Int32) (fo : Nat → Int64) (a1 : Int32) : Option (Int32 × (Nat → Int64)) :=
  (fX8_takenOf t1 t2 a1).bind (fun (r_1 : Nat × Int32) => if r_1.1 = 0 then (grd (inB 0 1) (some (0, vp_updL fo (0 : Int32).toNatClampNeg r_1.2.toInt64))) else (if r_1.1 = 1 then (some (1, fo)) else (none)))
set_option maxRecDepth 100000 in
set_option maxHeartbeats 4000000 in
theorem mL_takenOf (l : Launch) (hl0 : l.stackTraces = false) (g : GE) (hg st b ca ou tr sa sk sv mt ml ad kw zc zp : Nat) (sd : Int32) (mv : Int32) (gm : Int32) (lt : Option Nat) (w1 : Int32) (w2 : Int32) (dg : Int32) (t1 : Int32) (t2 : Int32) (am : Int32) (kk : Int32) (sg : Int32) (f : Nat → Int32) (fo : Nat → Int64) (a1 : Int32) (r : Int32 × (Nat → Int64)) (hyp : fL_takenOf t1 t2 fo a1 = some r) : LM l yL_takenOf cL_takenOf 4 [(0, 9, 12, 13)] 8 131 1 6 g [(hg, .inr (8, [.ref st, .ref tr, .ref sa, .ref sk, .ref sv, .ref mt, .ref ml, .ref ad, .ref kw])), (st, .inr (7, [.ref b, .int sd, .int mv, .int gm, va_rf lt, .int w1, .int w2, .int dg, .int t1, .int t2, .int am])), (b, .inr (1, [.ref ca, .int kk, .int sg])), (ca, .inl (g.2.1, 49, .inl f)), (ou, .inl (g.2.2.1, 1, .inr (.inl fo)))] (OZ g zc zp [] none) [.ref hg, .int a1, .ref ou] (some (.int r.1)) (fun na => [(hg, .inr (8, [.ref st, .ref tr, .ref sa, .ref sk, .ref sv, .ref mt, .ref ml, .ref ad, .ref kw])), (st, .inr (7, [.ref b, .int sd, .int mv, .int gm, va_rf lt, .int w1, .int w2, .int dg, .int t1, .int t2, .int am])), (b, .inr (1, [.ref ca, .int kk, .int sg])), (ca, .inl (g.2.1, 49, .inl f)), (ou, .inl (g.2.2.1, 1, .inr (.inl r.2)))]) := by
  refine metL_intro (by decide) rfl ?_
  intro p e R s m args below meth c Q A hRf hRl hRc hRs hQ hx hb hml hr hlocks htab hown hts hin hE hSR hNC hA hO H locs hP hD hS ls hl
  have hown : s.vm.findClass "HallGuardsLaw" = some m.cls := hown
  have hl : lv_has ls 4 [(0, .ref hg), (1, .int a1), (2, .ref ou)] := hl
  unfold fL_takenOf at hyp
  refine lv_aload_n hx hb dL_takenOf_0 rfl (lv_at hl 2 rfl) ?_
  refine lv_iconst (v := 0) hx hb dL_takenOf_1 (by decide) ?_
  refine lv_aload_n hx hb dL_takenOf_2 rfl (lv_at hl 0 rfl) ?_
  refine lv_iload_n hx hb dL_takenOf_3 rfl (lv_at hl 1 rfl) ?_
  obtain ⟨r_1, hr_1, hyp⟩ := opt_e hyp
  refine xV (As := [.int a1]) (rest := [.int 0, .ref ou]) ⟨hx, hb, hml, hown, hts⟩ hE hSR (mX8_takenOf l hl0 g hg st b ca tr sa sk sv mt ml ad kw zc zp sd mv gm lt w1 w2 dg t1 t2 am kk sg f a1 r_1 hr_1) (OZ_ok g zc zp _ _) hO cf_X8_takenOf im_X8_takenOf se_X8_takenOf ml_L_109 ⟨Nat.le_trans (Nat.le_of_ble_eq_true rfl) hRf, Nat.le_trans (Nat.le_of_ble_eq_true rfl) hRl⟩ hP hD hS hA [0, 1, 2, 3] [4] rfl (wr := [(ou, .inl (g.2.2.1, 1, .inr (.inl fo)))]) rfl ⟨by decide, by decide⟩ (by decide) (ci := 8) (q0 := 0) rfl rfl rfl rfl hl.1 rfl (Nat.le_of_ble_eq_true rfl) dL_takenOf_4 ⟨Nat.le_trans (Nat.le_of_ble_eq_true rfl) hRc, Nat.le_trans (Nat.le_of_ble_eq_true rfl) hRs⟩ (fun hk0 na_2 H locs hna_2 hP hD hS => ?_) (fun hk0 na9 q9 ce9 H locs hna9 hP hD hS hce hcv hcl => ?_)
  rotate_left 1
  · replace hyp := ite_f hk0 hyp
    have hP : va_P g.1 vwCl [(ou, .inl (g.2.2.1, 1, .inr (.inl fo))), (hg, .inr (8, [.ref st, .ref tr, .ref sa, .ref sk, .ref sv, .ref mt, .ref ml, .ref ad, .ref kw])), (st, .inr (7, [.ref b, .int sd, .int mv, .int gm, va_rf lt, .int w1, .int w2, .int dg, .int t1, .int t2, .int am])), (b, .inr (1, [.ref ca, .int kk, .int sg])), (ca, .inl (g.2.1, 49, .inl f))] H := hP
    have hD : va_D A [(ou, .inl (g.2.2.1, 1, .inr (.inl fo))), (hg, .inr (8, [.ref st, .ref tr, .ref sa, .ref sk, .ref sv, .ref mt, .ref ml, .ref ad, .ref kw])), (st, .inr (7, [.ref b, .int sd, .int mv, .int gm, va_rf lt, .int w1, .int w2, .int dg, .int t1, .int t2, .int am])), (b, .inr (1, [.ref ca, .int kk, .int sg])), (ca, .inl (g.2.1, 49, .inl f))] := hD
    have hP : va_P g.1 vwCl [(hg, .inr (8, [.ref st, .ref tr, .ref sa, .ref sk, .ref sv, .ref mt, .ref ml, .ref ad, .ref kw])), (st, .inr (7, [.ref b, .int sd, .int mv, .int gm, va_rf lt, .int w1, .int w2, .int dg, .int t1, .int t2, .int am])), (b, .inr (1, [.ref ca, .int kk, .int sg])), (ca, .inl (g.2.1, 49, .inl f)), (ou, .inl (g.2.2.1, 1, .inr (.inl fo)))] H := hP.sub [1, 2, 3, 4, 0] rfl
    have hD : va_D A [(hg, .inr (8, [.ref st, .ref tr, .ref sa, .ref sk, .ref sv, .ref mt, .ref ml, .ref ad, .ref kw])), (st, .inr (7, [.ref b, .int sd, .int mv, .int gm, va_rf lt, .int w1, .int w2, .int dg, .int t1, .int t2, .int am])), (b, .inr (1, [.ref ca, .int kk, .int sg])), (ca, .inl (g.2.1, 49, .inl f)), (ou, .inl (g.2.2.1, 1, .inr (.inl fo)))] := hD.sub [1, 2, 3, 4, 0] (by decide) rfl
    by_cases h_3 : r_1.1 = 1
    · replace hyp := ite_t h_3 hyp
      rw [h_3] at hcl
      refine catK 0 ⟨0, 9, 12, 13⟩ 1 htab rfl hown (fun z hz => nomatch hz) (by decide) (by decide) hts hSR cl_L_13 cast_1 hce hcv hcl ?_
      refine lv_astore_n (lv' := [(3, .ref q9), (0, .ref hg), (1, .int a1), (2, .ref ou)]) hx hb dL_takenOf_12 rfl hl (by decide) rfl (fun ls hl => ?_)
      refine lv_iconst (v := 1) hx hb dL_takenOf_13 (by decide) ?_
      have hyp := some_e hyp
      subst hyp
      subst hQ
      exact xrI (na := s.heap.size) hx hb hr hlocks (Nat.le_refl _) hP hD hS (Nat.le_of_ble_eq_true rfl) (Nat.le_of_ble_eq_true rfl) dL_takenOf_14
    · replace hyp := ite_f h_3 hyp
      cases hyp
  replace hyp := ite_t hk0 hyp
  have hP : va_P g.1 vwCl [(ou, .inl (g.2.2.1, 1, .inr (.inl fo))), (hg, .inr (8, [.ref st, .ref tr, .ref sa, .ref sk, .ref sv, .ref mt, .ref ml, .ref ad, .ref kw])), (st, .inr (7, [.ref b, .int sd, .int mv, .int gm, va_rf lt, .int w1, .int w2, .int dg, .int t1, .int t2, .int am])), (b, .inr (1, [.ref ca, .int kk, .int sg])), (ca, .inl (g.2.1, 49, .inl f))] H := hP
  have hD : va_D A [(ou, .inl (g.2.2.1, 1, .inr (.inl fo))), (hg, .inr (8, [.ref st, .ref tr, .ref sa, .ref sk, .ref sv, .ref mt, .ref ml, .ref ad, .ref kw])), (st, .inr (7, [.ref b, .int sd, .int mv, .int gm, va_rf lt, .int w1, .int w2, .int dg, .int t1, .int t2, .int am])), (b, .inr (1, [.ref ca, .int kk, .int sg])), (ca, .inl (g.2.1, 49, .inl f))] := hD
  refine lv_i2l hx hb dL_takenOf_7 rfl ?_
  obtain ⟨hi, hyp⟩ := grd_e hyp
  refine va_last hx hb hE.1 hP hD hS 0 1 rfl rfl (inB_vp hi) dL_takenOf_8 (fun H locs hP hD hS => ?_)
  have hP : va_P g.1 vwCl [(ou, .inl (g.2.2.1, 1, .inr (.inl (vp_updL fo (0 : Int32).toNatClampNeg r_1.2.toInt64)))), (hg, .inr (8, [.ref st, .ref tr, .ref sa, .ref sk, .ref sv, .ref mt, .ref ml, .ref ad, .ref kw])), (st, .inr (7, [.ref b, .int sd, .int mv, .int gm, va_rf lt, .int w1, .int w2, .int dg, .int t1, .int t2, .int am])), (b, .inr (1, [.ref ca, .int kk, .int sg])), (ca, .inl (g.2.1, 49, .inl f))] H := hP
  have hD : va_D A [(ou, .inl (g.2.2.1, 1, .inr (.inl (vp_updL fo (0 : Int32).toNatClampNeg r_1.2.toInt64)))), (hg, .inr (8, [.ref st, .ref tr, .ref sa, .ref sk, .ref sv, .ref mt, .ref ml, .ref ad, .ref kw])), (st, .inr (7, [.ref b, .int sd, .int mv, .int gm, va_rf lt, .int w1, .int w2, .int dg, .int t1, .int t2, .int am])), (b, .inr (1, [.ref ca, .int kk, .int sg])), (ca, .inl (g.2.1, 49, .inl f))] := hD
  refine lv_goto (tgt := 15) hx hb dL_takenOf_9 (by decide) ?_
  refine lv_iconst (v := 0) hx hb dL_takenOf_15 (by decide) ?_
  have hP : va_P g.1 vwCl [(hg, .inr (8, [.ref st, .ref tr, .ref sa, .ref sk, .ref sv, .ref mt, .ref ml, .ref ad, .ref kw])), (st, .inr (7, [.ref b, .int sd, .int mv, .int gm, va_rf lt, .int w1, .int w2, .int dg, .int t1, .int t2, .int am])), (b, .inr (1, [.ref ca, .int kk, .int sg])), (ca, .inl (g.2.1, 49, .inl f)), (ou, .inl (g.2.2.1, 1, .inr (.inl (vp_updL fo (0 : Int32).toNatClampNeg r_1.2.toInt64))))] H := hP.sub [1, 2, 3, 4, 0] rfl
  have hD : va_D A [(hg, .inr (8, [.ref st, .ref tr, .ref sa, .ref sk, .ref sv, .ref mt, .ref ml, .ref ad, .ref kw])), (st, .inr (7, [.ref b, .int sd, .int mv, .int gm, va_rf lt, .int w1, .int w2, .int dg, .int t1, .int t2, .int am])), (b, .inr (1, [.ref ca, .int kk, .int sg])), (ca, .inl (g.2.1, 49, .inl f)), (ou, .inl (g.2.2.1, 1, .inr (.inl (vp_updL fo (0 : Int32).toNatClampNeg r_1.2.toInt64))))] := hD.sub [1, 2, 3, 4, 0] (by decide) rfl
  have hyp := some_e hyp
  subst hyp
  subst hQ
  exact xrI (na := s.heap.size) hx hb hr hlocks (Nat.le_refl _) hP hD hS (Nat.le_of_ble_eq_true rfl) (Nat.le_of_ble_eq_true rfl) dL_takenOf_16

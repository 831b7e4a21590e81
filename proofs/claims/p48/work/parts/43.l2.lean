def fL_pieceAt (f : Nat → Int32) (a1 : Int32) (a2 : Int32) : Option (Nat × Int64) :=
  (fX8_pieceAt f a1 a2).bind (fun (r_1 : Nat × Int32) => if r_1.1 = 0 then (some (0, r_1.2.toInt64)) else (if r_1.1 = 1 then (some (1, (-9000000000000000001))) else (none)))
set_option maxRecDepth 100000 in
set_option maxHeartbeats 4000000 in
theorem mL_pieceAt (l : Launch) (hl0 : l.stackTraces = false) (g : GE) (hg st b ca tr sa sk sv mt ml ad kw zc zp : Nat) (sd : Int32) (mv : Int32) (gm : Int32) (lt : Option Nat) (w1 : Int32) (w2 : Int32) (dg : Int32) (t1 : Int32) (t2 : Int32) (am : Int32) (kk : Int32) (sg : Int32) (f : Nat → Int32) (a1 : Int32) (a2 : Int32) (r : Nat × Int64) (hyp : fL_pieceAt f a1 a2 = some r) : LM l yL_pieceAt cL_pieceAt 4 [(0, 7, 8, 15)] 8 133 1 6 g [(hg, .inr (8, [.ref st, .ref tr, .ref sa, .ref sk, .ref sv, .ref mt, .ref ml, .ref ad, .ref kw])), (st, .inr (7, [.ref b, .int sd, .int mv, .int gm, va_rf lt, .int w1, .int w2, .int dg, .int t1, .int t2, .int am])), (b, .inr (1, [.ref ca, .int kk, .int sg])), (ca, .inl (g.2.1, 49, .inl f))] (OZ g zc zp [] none) [.ref hg, .int a1, .int a2] (some (.long r.2)) (fun na => [(hg, .inr (8, [.ref st, .ref tr, .ref sa, .ref sk, .ref sv, .ref mt, .ref ml, .ref ad, .ref kw])), (st, .inr (7, [.ref b, .int sd, .int mv, .int gm, va_rf lt, .int w1, .int w2, .int dg, .int t1, .int t2, .int am])), (b, .inr (1, [.ref ca, .int kk, .int sg])), (ca, .inl (g.2.1, 49, .inl f))]) := by
  refine metL_intro (by decide) rfl ?_
  intro p e R s m args below meth c Q A hRf hRl hRc hRs hQ hx hb hml hr hlocks htab hown hts hin hE hSR hNC hA hO H locs hP hD hS ls hl
  have hown : s.vm.findClass "HallGuardsLaw" = some m.cls := hown
  have hl : lv_has ls 4 [(0, .ref hg), (1, .int a1), (2, .int a2)] := hl
  unfold fL_pieceAt at hyp
  refine lv_aload_n hx hb dL_pieceAt_0 rfl (lv_at hl 0 rfl) ?_
  refine lv_iload_n hx hb dL_pieceAt_1 rfl (lv_at hl 1 rfl) ?_
  refine lv_iload_n hx hb dL_pieceAt_2 rfl (lv_at hl 2 rfl) ?_
  obtain ⟨r_1, hr_1, hyp⟩ := opt_e hyp
  refine xV (As := [.int a1, .int a2]) (rest := []) ⟨hx, hb, hml, hown, hts⟩ hE hSR (mX8_pieceAt l hl0 g hg st b ca tr sa sk sv mt ml ad kw zc zp sd mv gm lt w1 w2 dg t1 t2 am kk sg f a1 a2 r_1 hr_1) (OZ_ok g zc zp _ _) hO cf_X8_pieceAt im_X8_pieceAt se_X8_pieceAt ml_L_42 ⟨Nat.le_trans (Nat.le_of_ble_eq_true rfl) hRf, Nat.le_trans (Nat.le_of_ble_eq_true rfl) hRl⟩ hP hD hS hA [0, 1, 2, 3] [] rfl (wr := []) rfl ⟨by decide, by decide⟩ (by decide) (ci := 8) (q0 := 0) rfl rfl rfl rfl hl.1 rfl (Nat.le_of_ble_eq_true rfl) dL_pieceAt_3 ⟨Nat.le_trans (Nat.le_of_ble_eq_true rfl) hRc, Nat.le_trans (Nat.le_of_ble_eq_true rfl) hRs⟩ (fun hk0 na_2 H locs hna_2 hP hD hS => ?_) (fun hk0 na9 q9 ce9 H locs hna9 hP hD hS hce hcv hcl => ?_)
  rotate_left 1
  · replace hyp := ite_f hk0 hyp
    have hP : va_P g.1 vwCl [(hg, .inr (8, [.ref st, .ref tr, .ref sa, .ref sk, .ref sv, .ref mt, .ref ml, .ref ad, .ref kw])), (st, .inr (7, [.ref b, .int sd, .int mv, .int gm, va_rf lt, .int w1, .int w2, .int dg, .int t1, .int t2, .int am])), (b, .inr (1, [.ref ca, .int kk, .int sg])), (ca, .inl (g.2.1, 49, .inl f))] H := hP
    have hD : va_D A [(hg, .inr (8, [.ref st, .ref tr, .ref sa, .ref sk, .ref sv, .ref mt, .ref ml, .ref ad, .ref kw])), (st, .inr (7, [.ref b, .int sd, .int mv, .int gm, va_rf lt, .int w1, .int w2, .int dg, .int t1, .int t2, .int am])), (b, .inr (1, [.ref ca, .int kk, .int sg])), (ca, .inl (g.2.1, 49, .inl f))] := hD
    by_cases h_3 : r_1.1 = 1
    · replace hyp := ite_t h_3 hyp
      rw [h_3] at hcl
      refine catK 0 ⟨0, 7, 8, 15⟩ 1 htab rfl hown (fun z hz => nomatch hz) (by decide) (by decide) hts hSR cl_L_15 cast_1 hce hcv hcl ?_
      refine lv_astore_n (lv' := [(3, .ref q9), (0, .ref hg), (1, .int a1), (2, .int a2)]) hx hb dL_pieceAt_8 rfl hl (by decide) rfl (fun ls hl => ?_)
      refine lv_ldc2 (v := (-9000000000000000001)) hx hb hown (hts _ ct_L_17) dL_pieceAt_9 ?_
      have hyp := some_e hyp
      subst hyp
      subst hQ
      exact xrJ (na := s.heap.size) hx hb hr hlocks (Nat.le_refl _) hP hD hS (Nat.le_of_ble_eq_true rfl) (Nat.le_of_ble_eq_true rfl) dL_pieceAt_12
    · replace hyp := ite_f h_3 hyp
      cases hyp
  replace hyp := ite_t hk0 hyp
  have hP : va_P g.1 vwCl [(hg, .inr (8, [.ref st, .ref tr, .ref sa, .ref sk, .ref sv, .ref mt, .ref ml, .ref ad, .ref kw])), (st, .inr (7, [.ref b, .int sd, .int mv, .int gm, va_rf lt, .int w1, .int w2, .int dg, .int t1, .int t2, .int am])), (b, .inr (1, [.ref ca, .int kk, .int sg])), (ca, .inl (g.2.1, 49, .inl f))] H := hP
  have hD : va_D A [(hg, .inr (8, [.ref st, .ref tr, .ref sa, .ref sk, .ref sv, .ref mt, .ref ml, .ref ad, .ref kw])), (st, .inr (7, [.ref b, .int sd, .int mv, .int gm, va_rf lt, .int w1, .int w2, .int dg, .int t1, .int t2, .int am])), (b, .inr (1, [.ref ca, .int kk, .int sg])), (ca, .inl (g.2.1, 49, .inl f))] := hD
  refine lv_i2l hx hb dL_pieceAt_6 rfl ?_
  have hyp := some_e hyp
  subst hyp
  subst hQ
  exact xrJ (na := s.heap.size) hx hb hr hlocks (Nat.le_refl _) hP hD hS (Nat.le_of_ble_eq_true rfl) (Nat.le_of_ble_eq_true rfl) dL_pieceAt_7

def fL_piecesOf (f : Nat → Int32) (a1 : Int32) : Option (Nat × Int64) :=
  (fX8_piecesOf f a1).bind (fun (r_1 : Nat × Int32) => if r_1.1 = 0 then (some (0, r_1.2.toInt64)) else (if r_1.1 = 1 then (some (1, (-9000000000000000001))) else (none)))
set_option maxRecDepth 100000 in
set_option maxHeartbeats 4000000 in
theorem mL_piecesOf (l : Launch) (hl0 : l.stackTraces = false) (g : GE) (hg st b ca tr sa sk sv mt ml ad kw zc zp : Nat) (sd : Int32) (mv : Int32) (gm : Int32) (lt : Option Nat) (w1 : Int32) (w2 : Int32) (dg : Int32) (t1 : Int32) (t2 : Int32) (am : Int32) (kk : Int32) (sg : Int32) (f : Nat → Int32) (a1 : Int32) (r : Nat × Int64) (hyp : fL_piecesOf f a1 = some r) : LM l yL_piecesOf cL_piecesOf 3 [(0, 6, 7, 15)] 8 131 1 6 g [(hg, .inr (8, [.ref st, .ref tr, .ref sa, .ref sk, .ref sv, .ref mt, .ref ml, .ref ad, .ref kw])), (st, .inr (7, [.ref b, .int sd, .int mv, .int gm, va_rf lt, .int w1, .int w2, .int dg, .int t1, .int t2, .int am])), (b, .inr (1, [.ref ca, .int kk, .int sg])), (ca, .inl (g.2.1, 49, .inl f))] (OZ g zc zp [] none) [.ref hg, .int a1] (some (.long r.2)) (fun na => [(hg, .inr (8, [.ref st, .ref tr, .ref sa, .ref sk, .ref sv, .ref mt, .ref ml, .ref ad, .ref kw])), (st, .inr (7, [.ref b, .int sd, .int mv, .int gm, va_rf lt, .int w1, .int w2, .int dg, .int t1, .int t2, .int am])), (b, .inr (1, [.ref ca, .int kk, .int sg])), (ca, .inl (g.2.1, 49, .inl f))]) := by
  refine metL_intro (by decide) rfl ?_
  intro p e R s m args below meth c Q A hRf hRl hRc hRs hQ hx hb hml hr hlocks htab hown hts hin hE hSR hNC hA hO H locs hP hD hS ls hl
  have hown : s.vm.findClass "HallGuardsLaw" = some m.cls := hown
  have hl : lv_has ls 3 [(0, .ref hg), (1, .int a1)] := hl
  unfold fL_piecesOf at hyp
  refine lv_aload_n hx hb dL_piecesOf_0 rfl (lv_at hl 0 rfl) ?_
  refine lv_iload_n hx hb dL_piecesOf_1 rfl (lv_at hl 1 rfl) ?_
  obtain ⟨r_1, hr_1, hyp⟩ := opt_e hyp
  refine xV (As := [.int a1]) (rest := []) ⟨hx, hb, hml, hown, hts⟩ hE hSR (mX8_piecesOf l hl0 g hg st b ca tr sa sk sv mt ml ad kw zc zp sd mv gm lt w1 w2 dg t1 t2 am kk sg f a1 r_1 hr_1) (OZ_ok g zc zp _ _) hO cf_X8_piecesOf im_X8_piecesOf se_X8_piecesOf ml_L_45 ⟨Nat.le_trans (Nat.le_of_ble_eq_true rfl) hRf, Nat.le_trans (Nat.le_of_ble_eq_true rfl) hRl⟩ hP hD hS hA [0, 1, 2, 3] [] rfl (wr := []) rfl ⟨by decide, by decide⟩ (by decide) (ci := 8) (q0 := 0) rfl rfl rfl rfl hl.1 rfl (Nat.le_of_ble_eq_true rfl) dL_piecesOf_2 ⟨Nat.le_trans (Nat.le_of_ble_eq_true rfl) hRc, Nat.le_trans (Nat.le_of_ble_eq_true rfl) hRs⟩ (fun hk0 na_2 H locs hna_2 hP hD hS => ?_) (fun hk0 na9 q9 ce9 H locs hna9 hP hD hS hce hcv hcl => ?_)
  rotate_left 1
  · replace hyp := ite_f hk0 hyp
    have hP : va_P g.1 vwCl [(hg, .inr (8, [.ref st, .ref tr, .ref sa, .ref sk, .ref sv, .ref mt, .ref ml, .ref ad, .ref kw])), (st, .inr (7, [.ref b, .int sd, .int mv, .int gm, va_rf lt, .int w1, .int w2, .int dg, .int t1, .int t2, .int am])), (b, .inr (1, [.ref ca, .int kk, .int sg])), (ca, .inl (g.2.1, 49, .inl f))] H := hP
    have hD : va_D A [(hg, .inr (8, [.ref st, .ref tr, .ref sa, .ref sk, .ref sv, .ref mt, .ref ml, .ref ad, .ref kw])), (st, .inr (7, [.ref b, .int sd, .int mv, .int gm, va_rf lt, .int w1, .int w2, .int dg, .int t1, .int t2, .int am])), (b, .inr (1, [.ref ca, .int kk, .int sg])), (ca, .inl (g.2.1, 49, .inl f))] := hD
    by_cases h_3 : r_1.1 = 1
    · replace hyp := ite_t h_3 hyp
      rw [h_3] at hcl
      refine catK 0 ⟨0, 6, 7, 15⟩ 1 htab rfl hown (fun z hz => nomatch hz) (by decide) (by decide) hts hSR cl_L_15 cast_1 hce hcv hcl ?_
      refine lv_astore_n (lv' := [(2, .ref q9), (0, .ref hg), (1, .int a1)]) hx hb dL_piecesOf_7 rfl hl (by decide) rfl (fun ls hl => ?_)
      refine lv_ldc2 (v := (-9000000000000000001)) hx hb hown (hts _ ct_L_17) dL_piecesOf_8 ?_
      have hyp := some_e hyp
      subst hyp
      subst hQ
      exact xrJ (na := s.heap.size) hx hb hr hlocks (Nat.le_refl _) hP hD hS (Nat.le_of_ble_eq_true rfl) (Nat.le_of_ble_eq_true rfl) dL_piecesOf_11
    · replace hyp := ite_f h_3 hyp
      cases hyp
  replace hyp := ite_t hk0 hyp
  have hP : va_P g.1 vwCl [(hg, .inr (8, [.ref st, .ref tr, .ref sa, .ref sk, .ref sv, .ref mt, .ref ml, .ref ad, .ref kw])), (st, .inr (7, [.ref b, .int sd, .int mv, .int gm, va_rf lt, .int w1, .int w2, .int dg, .int t1, .int t2, .int am])), (b, .inr (1, [.ref ca, .int kk, .int sg])), (ca, .inl (g.2.1, 49, .inl f))] H := hP
  have hD : va_D A [(hg, .inr (8, [.ref st, .ref tr, .ref sa, .ref sk, .ref sv, .ref mt, .ref ml, .ref ad, .ref kw])), (st, .inr (7, [.ref b, .int sd, .int mv, .int gm, va_rf lt, .int w1, .int w2, .int dg, .int t1, .int t2, .int am])), (b, .inr (1, [.ref ca, .int kk, .int sg])), (ca, .inl (g.2.1, 49, .inl f))] := hD
  refine lv_i2l hx hb dL_piecesOf_5 rfl ?_
  have hyp := some_e hyp
  subst hyp
  subst hQ
  exact xrJ (na := s.heap.size) hx hb hr hlocks (Nat.le_refl _) hP hD hS (Nat.le_of_ble_eq_true rfl) (Nat.le_of_ble_eq_true rfl) dL_piecesOf_6

def fL_kingAt (kk : Int32) : Option (Nat × Int64) :=
  (fX8_kingAt kk).bind (fun (r_1 : Nat × Int32) => if r_1.1 = 0 then (some (0, r_1.2.toInt64)) else (if r_1.1 = 3 then (some (3, (-9000000000000000003))) else (none)))
set_option maxRecDepth 100000 in
set_option maxHeartbeats 4000000 in
theorem mL_kingAt (l : Launch) (hl0 : l.stackTraces = false) (g : GE) (hg st b ca tr sa sk sv mt ml ad kw zc zp : Nat) (sd : Int32) (mv : Int32) (gm : Int32) (lt : Option Nat) (w1 : Int32) (w2 : Int32) (dg : Int32) (t1 : Int32) (t2 : Int32) (am : Int32) (kk : Int32) (sg : Int32) (f : Nat → Int32) (r : Nat × Int64) (hyp : fL_kingAt kk = some r) : LM l yL_kingAt cL_kingAt 2 [(0, 5, 6, 23)] 8 130 1 6 g [(hg, .inr (8, [.ref st, .ref tr, .ref sa, .ref sk, .ref sv, .ref mt, .ref ml, .ref ad, .ref kw])), (st, .inr (7, [.ref b, .int sd, .int mv, .int gm, va_rf lt, .int w1, .int w2, .int dg, .int t1, .int t2, .int am])), (b, .inr (1, [.ref ca, .int kk, .int sg])), (ca, .inl (g.2.1, 49, .inl f))] (OZ g zc zp [] none) [.ref hg] (some (.long r.2)) (fun na => [(hg, .inr (8, [.ref st, .ref tr, .ref sa, .ref sk, .ref sv, .ref mt, .ref ml, .ref ad, .ref kw])), (st, .inr (7, [.ref b, .int sd, .int mv, .int gm, va_rf lt, .int w1, .int w2, .int dg, .int t1, .int t2, .int am])), (b, .inr (1, [.ref ca, .int kk, .int sg])), (ca, .inl (g.2.1, 49, .inl f))]) := by
  refine metL_intro (by decide) rfl ?_
  intro p e R s m args below meth c Q A hRf hRl hRc hRs hQ hx hb hml hr hlocks htab hown hts hin hE hSR hNC hA hO H locs hP hD hS ls hl
  have hown : s.vm.findClass "HallGuardsLaw" = some m.cls := hown
  have hl : lv_has ls 2 [(0, .ref hg)] := hl
  unfold fL_kingAt at hyp
  refine lv_aload_n hx hb dL_kingAt_0 rfl (lv_at hl 0 rfl) ?_
  obtain ⟨r_1, hr_1, hyp⟩ := opt_e hyp
  refine xV (As := []) (rest := []) ⟨hx, hb, hml, hown, hts⟩ hE hSR (mX8_kingAt l hl0 g hg st b ca tr sa sk sv mt ml ad kw zc zp sd mv gm lt w1 w2 dg t1 t2 am kk sg f r_1 hr_1) (OZ_ok g zc zp _ _) hO cf_X8_kingAt im_X8_kingAt se_X8_kingAt ml_L_48 ⟨Nat.le_trans (Nat.le_of_ble_eq_true rfl) hRf, Nat.le_trans (Nat.le_of_ble_eq_true rfl) hRl⟩ hP hD hS hA [0, 1, 2, 3] [] rfl (wr := []) rfl ⟨by decide, by decide⟩ (by decide) (ci := 8) (q0 := 0) rfl rfl rfl rfl hl.1 rfl (Nat.le_of_ble_eq_true rfl) dL_kingAt_1 ⟨Nat.le_trans (Nat.le_of_ble_eq_true rfl) hRc, Nat.le_trans (Nat.le_of_ble_eq_true rfl) hRs⟩ (fun hk0 na_2 H locs hna_2 hP hD hS => ?_) (fun hk0 na9 q9 ce9 H locs hna9 hP hD hS hce hcv hcl => ?_)
  rotate_left 1
  · replace hyp := ite_f hk0 hyp
    have hP : va_P g.1 vwCl [(hg, .inr (8, [.ref st, .ref tr, .ref sa, .ref sk, .ref sv, .ref mt, .ref ml, .ref ad, .ref kw])), (st, .inr (7, [.ref b, .int sd, .int mv, .int gm, va_rf lt, .int w1, .int w2, .int dg, .int t1, .int t2, .int am])), (b, .inr (1, [.ref ca, .int kk, .int sg])), (ca, .inl (g.2.1, 49, .inl f))] H := hP
    have hD : va_D A [(hg, .inr (8, [.ref st, .ref tr, .ref sa, .ref sk, .ref sv, .ref mt, .ref ml, .ref ad, .ref kw])), (st, .inr (7, [.ref b, .int sd, .int mv, .int gm, va_rf lt, .int w1, .int w2, .int dg, .int t1, .int t2, .int am])), (b, .inr (1, [.ref ca, .int kk, .int sg])), (ca, .inl (g.2.1, 49, .inl f))] := hD
    by_cases h_3 : r_1.1 = 3
    · replace hyp := ite_t h_3 hyp
      rw [h_3] at hcl
      refine catK 0 ⟨0, 5, 6, 23⟩ 3 htab rfl hown (fun z hz => nomatch hz) (by decide) (by decide) hts hSR cl_L_23 cast_3 hce hcv hcl ?_
      refine lv_astore_n (lv' := [(1, .ref q9), (0, .ref hg)]) hx hb dL_kingAt_6 rfl hl (by decide) rfl (fun ls hl => ?_)
      refine lv_ldc2 (v := (-9000000000000000003)) hx hb hown (hts _ ct_L_25) dL_kingAt_7 ?_
      have hyp := some_e hyp
      subst hyp
      subst hQ
      exact xrJ (na := s.heap.size) hx hb hr hlocks (Nat.le_refl _) hP hD hS (Nat.le_of_ble_eq_true rfl) (Nat.le_of_ble_eq_true rfl) dL_kingAt_10
    · replace hyp := ite_f h_3 hyp
      cases hyp
  replace hyp := ite_t hk0 hyp
  have hP : va_P g.1 vwCl [(hg, .inr (8, [.ref st, .ref tr, .ref sa, .ref sk, .ref sv, .ref mt, .ref ml, .ref ad, .ref kw])), (st, .inr (7, [.ref b, .int sd, .int mv, .int gm, va_rf lt, .int w1, .int w2, .int dg, .int t1, .int t2, .int am])), (b, .inr (1, [.ref ca, .int kk, .int sg])), (ca, .inl (g.2.1, 49, .inl f))] H := hP
  have hD : va_D A [(hg, .inr (8, [.ref st, .ref tr, .ref sa, .ref sk, .ref sv, .ref mt, .ref ml, .ref ad, .ref kw])), (st, .inr (7, [.ref b, .int sd, .int mv, .int gm, va_rf lt, .int w1, .int w2, .int dg, .int t1, .int t2, .int am])), (b, .inr (1, [.ref ca, .int kk, .int sg])), (ca, .inl (g.2.1, 49, .inl f))] := hD
  refine lv_i2l hx hb dL_kingAt_4 rfl ?_
  have hyp := some_e hyp
  subst hyp
  subst hQ
  exact xrJ (na := s.heap.size) hx hb hr hlocks (Nat.le_refl _) hP hD hS (Nat.le_of_ble_eq_true rfl) (Nat.le_of_ble_eq_true rfl) dL_kingAt_5

def fL_hostile (f : Nat → Int32) (a1 : Int32) (a2 : Int32) (a3 : Int32) : Option (Nat × Int64) :=
  (fX8_isHostile f a1 a2 a3).bind (fun (r_1 : Nat × Int32) => if r_1.1 = 0 then (if r_1.2 = 0 then (some (0, 0)) else (some (0, 1))) else (if r_1.1 = 1 then (some (1, (-9000000000000000001))) else (none)))
set_option maxRecDepth 100000 in
set_option maxHeartbeats 4000000 in
theorem mL_hostile (l : Launch) (hl0 : l.stackTraces = false) (g : GE) (hg st b ca tr sa sk sv mt ml ad kw zc zp : Nat) (sd : Int32) (mv : Int32) (gm : Int32) (lt : Option Nat) (w1 : Int32) (w2 : Int32) (dg : Int32) (t1 : Int32) (t2 : Int32) (am : Int32) (kk : Int32) (sg : Int32) (f : Nat → Int32) (a1 : Int32) (a2 : Int32) (a3 : Int32) (r : Nat × Int64) (hyp : fL_hostile f a1 a2 a3 = some r) : LM l yL_hostile cL_hostile 5 [(0, 15, 16, 15)] 8 134 2 12 g [(hg, .inr (8, [.ref st, .ref tr, .ref sa, .ref sk, .ref sv, .ref mt, .ref ml, .ref ad, .ref kw])), (st, .inr (7, [.ref b, .int sd, .int mv, .int gm, va_rf lt, .int w1, .int w2, .int dg, .int t1, .int t2, .int am])), (b, .inr (1, [.ref ca, .int kk, .int sg])), (ca, .inl (g.2.1, 49, .inl f))] (OZ g zc zp [] none) [.ref hg, .int a1, .int a2, .int a3] (some (.long r.2)) (fun na => [(hg, .inr (8, [.ref st, .ref tr, .ref sa, .ref sk, .ref sv, .ref mt, .ref ml, .ref ad, .ref kw])), (st, .inr (7, [.ref b, .int sd, .int mv, .int gm, va_rf lt, .int w1, .int w2, .int dg, .int t1, .int t2, .int am])), (b, .inr (1, [.ref ca, .int kk, .int sg])), (ca, .inl (g.2.1, 49, .inl f))]) := by
  refine metL_intro (by decide) rfl ?_
  intro p e R s m args below meth c Q A hRf hRl hRc hRs hQ hx hb hml hr hlocks htab hown hts hin hE hSR hNC hA hO H locs hP hD hS ls hl
  have hown : s.vm.findClass "HallGuardsLaw" = some m.cls := hown
  have hl : lv_has ls 5 [(0, .ref hg), (1, .int a1), (2, .int a2), (3, .int a3)] := hl
  unfold fL_hostile at hyp
  refine lv_aload_n hx hb dL_hostile_0 rfl (lv_at hl 0 rfl) ?_
  refine lv_iload_n hx hb dL_hostile_1 rfl (lv_at hl 1 rfl) ?_
  refine lv_iload_n hx hb dL_hostile_2 rfl (lv_at hl 2 rfl) ?_
  refine lv_iload_n hx hb dL_hostile_3 rfl (lv_at hl 3 rfl) ?_
  obtain ⟨r_1, hr_1, hyp⟩ := opt_e hyp
  refine xV (As := [.int a1, .int a2, .int a3]) (rest := []) ⟨hx, hb, hml, hown, hts⟩ hE hSR (mX8_isHostile l hl0 g hg st b ca tr sa sk sv mt ml ad kw zc zp sd mv gm lt w1 w2 dg t1 t2 am kk sg f a1 a2 a3 r_1 hr_1) (OZ_ok g zc zp _ _) hO cf_X8_isHostile im_X8_isHostile se_X8_isHostile ml_L_51 ⟨Nat.le_trans (Nat.le_of_ble_eq_true rfl) hRf, Nat.le_trans (Nat.le_of_ble_eq_true rfl) hRl⟩ hP hD hS hA [0, 1, 2, 3] [] rfl (wr := []) rfl ⟨by decide, by decide⟩ (by decide) (ci := 8) (q0 := 0) rfl rfl rfl rfl hl.1 rfl (Nat.le_of_ble_eq_true rfl) dL_hostile_4 ⟨Nat.le_trans (Nat.le_of_ble_eq_true rfl) hRc, Nat.le_trans (Nat.le_of_ble_eq_true rfl) hRs⟩ (fun hk0 na_2 H locs hna_2 hP hD hS => ?_) (fun hk0 na9 q9 ce9 H locs hna9 hP hD hS hce hcv hcl => ?_)
  rotate_left 1
  · replace hyp := ite_f hk0 hyp
    have hP : va_P g.1 vwCl [(hg, .inr (8, [.ref st, .ref tr, .ref sa, .ref sk, .ref sv, .ref mt, .ref ml, .ref ad, .ref kw])), (st, .inr (7, [.ref b, .int sd, .int mv, .int gm, va_rf lt, .int w1, .int w2, .int dg, .int t1, .int t2, .int am])), (b, .inr (1, [.ref ca, .int kk, .int sg])), (ca, .inl (g.2.1, 49, .inl f))] H := hP
    have hD : va_D A [(hg, .inr (8, [.ref st, .ref tr, .ref sa, .ref sk, .ref sv, .ref mt, .ref ml, .ref ad, .ref kw])), (st, .inr (7, [.ref b, .int sd, .int mv, .int gm, va_rf lt, .int w1, .int w2, .int dg, .int t1, .int t2, .int am])), (b, .inr (1, [.ref ca, .int kk, .int sg])), (ca, .inl (g.2.1, 49, .inl f))] := hD
    by_cases h_3 : r_1.1 = 1
    · replace hyp := ite_t h_3 hyp
      rw [h_3] at hcl
      refine catK 0 ⟨0, 15, 16, 15⟩ 1 htab rfl hown (fun z hz => nomatch hz) (by decide) (by decide) hts hSR cl_L_15 cast_1 hce hcv hcl ?_
      refine lv_astore (lv' := [(4, .ref q9), (0, .ref hg), (1, .int a1), (2, .int a2), (3, .int a3)]) hx hb dL_hostile_16 hl (by decide) rfl (fun ls hl => ?_)
      refine lv_ldc2 (v := (-9000000000000000001)) hx hb hown (hts _ ct_L_17) dL_hostile_18 ?_
      have hyp := some_e hyp
      subst hyp
      subst hQ
      exact xrJ (na := s.heap.size) hx hb hr hlocks (Nat.le_refl _) hP hD hS (Nat.le_of_ble_eq_true rfl) (Nat.le_of_ble_eq_true rfl) dL_hostile_21
    · replace hyp := ite_f h_3 hyp
      cases hyp
  replace hyp := ite_t hk0 hyp
  have hP : va_P g.1 vwCl [(hg, .inr (8, [.ref st, .ref tr, .ref sa, .ref sk, .ref sv, .ref mt, .ref ml, .ref ad, .ref kw])), (st, .inr (7, [.ref b, .int sd, .int mv, .int gm, va_rf lt, .int w1, .int w2, .int dg, .int t1, .int t2, .int am])), (b, .inr (1, [.ref ca, .int kk, .int sg])), (ca, .inl (g.2.1, 49, .inl f))] H := hP
  have hD : va_D A [(hg, .inr (8, [.ref st, .ref tr, .ref sa, .ref sk, .ref sv, .ref mt, .ref ml, .ref ad, .ref kw])), (st, .inr (7, [.ref b, .int sd, .int mv, .int gm, va_rf lt, .int w1, .int w2, .int dg, .int t1, .int t2, .int am])), (b, .inr (1, [.ref ca, .int kk, .int sg])), (ca, .inl (g.2.1, 49, .inl f))] := hD
  refine lv_if_eq (tgt := 14) hx hb dL_hostile_7 (by decide) (fun h_4 => ?_) (fun h_4 => ?_)
  · replace hyp := ite_t h_4 hyp
    refine lv_lconst (v := 0) hx hb dL_hostile_14 (by decide) ?_
    have hyp := some_e hyp
    subst hyp
    subst hQ
    exact xrJ (na := s.heap.size) hx hb hr hlocks (Nat.le_refl _) hP hD hS (Nat.le_of_ble_eq_true rfl) (Nat.le_of_ble_eq_true rfl) dL_hostile_15
  · replace hyp := ite_f h_4 hyp
    refine lv_lconst (v := 1) hx hb dL_hostile_10 (by decide) ?_
    refine lv_goto (tgt := 15) hx hb dL_hostile_11 (by decide) ?_
    have hyp := some_e hyp
    subst hyp
    subst hQ
    exact xrJ (na := s.heap.size) hx hb hr hlocks (Nat.le_refl _) hP hD hS (Nat.le_of_ble_eq_true rfl) (Nat.le_of_ble_eq_true rfl) dL_hostile_15

def fL_turn (sd : Int32) (mv : Int32) : Option (Nat × Int64) :=
  (fX8_turn sd mv).bind (fun (r_1 : Nat × Int32) => if r_1.1 = 0 then (some (0, r_1.2.toInt64)) else (if r_1.1 = 3 then (some (3, (-9000000000000000003))) else (none)))
set_option maxRecDepth 100000 in
set_option maxHeartbeats 4000000 in
theorem mL_turn (l : Launch) (hl0 : l.stackTraces = false) (g : GE) (hg st b ca tr sa sk sv mt ml ad kw zc zp : Nat) (sd : Int32) (mv : Int32) (gm : Int32) (lt : Option Nat) (w1 : Int32) (w2 : Int32) (dg : Int32) (t1 : Int32) (t2 : Int32) (am : Int32) (kk : Int32) (sg : Int32) (f : Nat → Int32) (r : Nat × Int64) (hyp : fL_turn sd mv = some r) : LM l yL_turn cL_turn 2 [(0, 5, 6, 23)] 7 110 1 6 g [(hg, .inr (8, [.ref st, .ref tr, .ref sa, .ref sk, .ref sv, .ref mt, .ref ml, .ref ad, .ref kw])), (st, .inr (7, [.ref b, .int sd, .int mv, .int gm, va_rf lt, .int w1, .int w2, .int dg, .int t1, .int t2, .int am])), (b, .inr (1, [.ref ca, .int kk, .int sg])), (ca, .inl (g.2.1, 49, .inl f))] (OZ g zc zp [] none) [.ref hg] (some (.long r.2)) (fun na => [(hg, .inr (8, [.ref st, .ref tr, .ref sa, .ref sk, .ref sv, .ref mt, .ref ml, .ref ad, .ref kw])), (st, .inr (7, [.ref b, .int sd, .int mv, .int gm, va_rf lt, .int w1, .int w2, .int dg, .int t1, .int t2, .int am])), (b, .inr (1, [.ref ca, .int kk, .int sg])), (ca, .inl (g.2.1, 49, .inl f))]) := by
  refine metL_intro (by decide) rfl ?_
  intro p e R s m args below meth c Q A hRf hRl hRc hRs hQ hx hb hml hr hlocks htab hown hts hin hE hSR hNC hA hO H locs hP hD hS ls hl
  have hown : s.vm.findClass "HallGuardsLaw" = some m.cls := hown
  have hl : lv_has ls 2 [(0, .ref hg)] := hl
  unfold fL_turn at hyp
  refine lv_aload_n hx hb dL_turn_0 rfl (lv_at hl 0 rfl) ?_
  obtain ⟨r_1, hr_1, hyp⟩ := opt_e hyp
  refine xV (As := []) (rest := []) ⟨hx, hb, hml, hown, hts⟩ hE hSR (mX8_turn l hl0 g hg st b ca tr sa sk sv mt ml ad kw zc zp sd mv gm lt w1 w2 dg t1 t2 am kk sg f r_1 hr_1) (OZ_ok g zc zp _ _) hO cf_X8_turn im_X8_turn se_X8_turn ml_L_55 ⟨Nat.le_trans (Nat.le_of_ble_eq_true rfl) hRf, Nat.le_trans (Nat.le_of_ble_eq_true rfl) hRl⟩ hP hD hS hA [0, 1, 2, 3] [] rfl (wr := []) rfl ⟨by decide, by decide⟩ (by decide) (ci := 8) (q0 := 0) rfl rfl rfl rfl hl.1 rfl (Nat.le_of_ble_eq_true rfl) dL_turn_1 ⟨Nat.le_trans (Nat.le_of_ble_eq_true rfl) hRc, Nat.le_trans (Nat.le_of_ble_eq_true rfl) hRs⟩ (fun hk0 na_2 H locs hna_2 hP hD hS => ?_) (fun hk0 na9 q9 ce9 H locs hna9 hP hD hS hce hcv hcl => ?_)
  rotate_left 1
  · replace hyp := ite_f hk0 hyp
    have hP : va_P g.1 vwCl [(hg, .inr (8, [.ref st, .ref tr, .ref sa, .ref sk, .ref sv, .ref mt, .ref ml, .ref ad, .ref kw])), (st, .inr (7, [.ref b, .int sd, .int mv, .int gm, va_rf lt, .int w1, .int w2, .int dg, .int t1, .int t2, .int am])), (b, .inr (1, [.ref ca, .int kk, .int sg])), (ca, .inl (g.2.1, 49, .inl f))] H := hP
    have hD : va_D A [(hg, .inr (8, [.ref st, .ref tr, .ref sa, .ref sk, .ref sv, .ref mt, .ref ml, .ref ad, .ref kw])), (st, .inr (7, [.ref b, .int sd, .int mv, .int gm, va_rf lt, .int w1, .int w2, .int dg, .int t1, .int t2, .int am])), (b, .inr (1, [.ref ca, .int kk, .int sg])), (ca, .inl (g.2.1, 49, .inl f))] := hD
    by_cases h_3 : r_1.1 = 3
    · replace hyp := ite_t h_3 hyp
      rw [h_3] at hcl
      refine catK 0 ⟨0, 5, 6, 23⟩ 3 htab rfl hown (fun z hz => nomatch hz) (by decide) (by decide) hts hSR cl_L_23 cast_3 hce hcv hcl ?_
      refine lv_astore_n (lv' := [(1, .ref q9), (0, .ref hg)]) hx hb dL_turn_6 rfl hl (by decide) rfl (fun ls hl => ?_)
      refine lv_ldc2 (v := (-9000000000000000003)) hx hb hown (hts _ ct_L_25) dL_turn_7 ?_
      have hyp := some_e hyp
      subst hyp
      subst hQ
      exact xrJ (na := s.heap.size) hx hb hr hlocks (Nat.le_refl _) hP hD hS (Nat.le_of_ble_eq_true rfl) (Nat.le_of_ble_eq_true rfl) dL_turn_10
    · replace hyp := ite_f h_3 hyp
      cases hyp
  replace hyp := ite_t hk0 hyp
  have hP : va_P g.1 vwCl [(hg, .inr (8, [.ref st, .ref tr, .ref sa, .ref sk, .ref sv, .ref mt, .ref ml, .ref ad, .ref kw])), (st, .inr (7, [.ref b, .int sd, .int mv, .int gm, va_rf lt, .int w1, .int w2, .int dg, .int t1, .int t2, .int am])), (b, .inr (1, [.ref ca, .int kk, .int sg])), (ca, .inl (g.2.1, 49, .inl f))] H := hP
  have hD : va_D A [(hg, .inr (8, [.ref st, .ref tr, .ref sa, .ref sk, .ref sv, .ref mt, .ref ml, .ref ad, .ref kw])), (st, .inr (7, [.ref b, .int sd, .int mv, .int gm, va_rf lt, .int w1, .int w2, .int dg, .int t1, .int t2, .int am])), (b, .inr (1, [.ref ca, .int kk, .int sg])), (ca, .inl (g.2.1, 49, .inl f))] := hD
  refine lv_i2l hx hb dL_turn_4 rfl ?_
  have hyp := some_e hyp
  subst hyp
  subst hQ
  exact xrJ (na := s.heap.size) hx hb hr hlocks (Nat.le_refl _) hP hD hS (Nat.le_of_ble_eq_true rfl) (Nat.le_of_ble_eq_true rfl) dL_turn_5

def fL_timesSeenN (sd : Int32) : Option (Nat × Int64) :=
  (fX8_timesSeenN sd).bind (fun (r_1 : Nat × Int32) => if r_1.1 = 0 then (some (0, r_1.2.toInt64)) else (if r_1.1 = 3 then (some (3, (-9000000000000000003))) else (none)))
set_option maxRecDepth 100000 in
set_option maxHeartbeats 4000000 in
theorem mL_timesSeenN (l : Launch) (hl0 : l.stackTraces = false) (g : GE) (hg st b ca tr sa sk sv mt ml ad kw zc zp : Nat) (sd : Int32) (mv : Int32) (gm : Int32) (w1 : Int32) (w2 : Int32) (dg : Int32) (t1 : Int32) (t2 : Int32) (am : Int32) (kk : Int32) (sg : Int32) (f : Nat → Int32) (r : Nat × Int64) (hyp : fL_timesSeenN sd = some r) : LM l yL_timesSeen cL_timesSeen 2 [(0, 5, 6, 23)] 7 110 1 6 g [(hg, .inr (8, [.ref st, .ref tr, .ref sa, .ref sk, .ref sv, .ref mt, .ref ml, .ref ad, .ref kw])), (st, .inr (7, [.ref b, .int sd, .int mv, .int gm, .null, .int w1, .int w2, .int dg, .int t1, .int t2, .int am])), (b, .inr (1, [.ref ca, .int kk, .int sg])), (ca, .inl (g.2.1, 49, .inl f))] (OZ g zc zp [] none) [.ref hg] (some (.long r.2)) (fun na => [(hg, .inr (8, [.ref st, .ref tr, .ref sa, .ref sk, .ref sv, .ref mt, .ref ml, .ref ad, .ref kw])), (st, .inr (7, [.ref b, .int sd, .int mv, .int gm, .null, .int w1, .int w2, .int dg, .int t1, .int t2, .int am])), (b, .inr (1, [.ref ca, .int kk, .int sg])), (ca, .inl (g.2.1, 49, .inl f))]) := by
  refine metL_intro (by decide) rfl ?_
  intro p e R s m args below meth c Q A hRf hRl hRc hRs hQ hx hb hml hr hlocks htab hown hts hin hE hSR hNC hA hO H locs hP hD hS ls hl
  have hown : s.vm.findClass "HallGuardsLaw" = some m.cls := hown
  have hl : lv_has ls 2 [(0, .ref hg)] := hl
  unfold fL_timesSeenN at hyp
  refine lv_aload_n hx hb dL_timesSeen_0 rfl (lv_at hl 0 rfl) ?_
  obtain ⟨r_1, hr_1, hyp⟩ := opt_e hyp
  refine xV (As := []) (rest := []) ⟨hx, hb, hml, hown, hts⟩ hE hSR (mX8_timesSeenN l hl0 g hg st b ca tr sa sk sv mt ml ad kw zc zp sd mv gm w1 w2 dg t1 t2 am kk sg f r_1 hr_1) (OZ_ok g zc zp _ _) hO cf_X8_timesSeen im_X8_timesSeen se_X8_timesSeen ml_L_58 ⟨Nat.le_trans (Nat.le_of_ble_eq_true rfl) hRf, Nat.le_trans (Nat.le_of_ble_eq_true rfl) hRl⟩ hP hD hS hA [0, 1, 2, 3] [] rfl (wr := []) rfl ⟨by decide, by decide⟩ (by decide) (ci := 8) (q0 := 0) rfl rfl rfl rfl hl.1 rfl (Nat.le_of_ble_eq_true rfl) dL_timesSeen_1 ⟨Nat.le_trans (Nat.le_of_ble_eq_true rfl) hRc, Nat.le_trans (Nat.le_of_ble_eq_true rfl) hRs⟩ (fun hk0 na_2 H locs hna_2 hP hD hS => ?_) (fun hk0 na9 q9 ce9 H locs hna9 hP hD hS hce hcv hcl => ?_)
  rotate_left 1
  · replace hyp := ite_f hk0 hyp
    have hP : va_P g.1 vwCl [(hg, .inr (8, [.ref st, .ref tr, .ref sa, .ref sk, .ref sv, .ref mt, .ref ml, .ref ad, .ref kw])), (st, .inr (7, [.ref b, .int sd, .int mv, .int gm, .null, .int w1, .int w2, .int dg, .int t1, .int t2, .int am])), (b, .inr (1, [.ref ca, .int kk, .int sg])), (ca, .inl (g.2.1, 49, .inl f))] H := hP
    have hD : va_D A [(hg, .inr (8, [.ref st, .ref tr, .ref sa, .ref sk, .ref sv, .ref mt, .ref ml, .ref ad, .ref kw])), (st, .inr (7, [.ref b, .int sd, .int mv, .int gm, .null, .int w1, .int w2, .int dg, .int t1, .int t2, .int am])), (b, .inr (1, [.ref ca, .int kk, .int sg])), (ca, .inl (g.2.1, 49, .inl f))] := hD
    by_cases h_3 : r_1.1 = 3
    · replace hyp := ite_t h_3 hyp
      rw [h_3] at hcl
      refine catK 0 ⟨0, 5, 6, 23⟩ 3 htab rfl hown (fun z hz => nomatch hz) (by decide) (by decide) hts hSR cl_L_23 cast_3 hce hcv hcl ?_
      refine lv_astore_n (lv' := [(1, .ref q9), (0, .ref hg)]) hx hb dL_timesSeen_6 rfl hl (by decide) rfl (fun ls hl => ?_)
      refine lv_ldc2 (v := (-9000000000000000003)) hx hb hown (hts _ ct_L_25) dL_timesSeen_7 ?_
      have hyp := some_e hyp
      subst hyp
      subst hQ
      exact xrJ (na := s.heap.size) hx hb hr hlocks (Nat.le_refl _) hP hD hS (Nat.le_of_ble_eq_true rfl) (Nat.le_of_ble_eq_true rfl) dL_timesSeen_10
    · replace hyp := ite_f h_3 hyp
      cases hyp
  replace hyp := ite_t hk0 hyp
  have hP : va_P g.1 vwCl [(hg, .inr (8, [.ref st, .ref tr, .ref sa, .ref sk, .ref sv, .ref mt, .ref ml, .ref ad, .ref kw])), (st, .inr (7, [.ref b, .int sd, .int mv, .int gm, .null, .int w1, .int w2, .int dg, .int t1, .int t2, .int am])), (b, .inr (1, [.ref ca, .int kk, .int sg])), (ca, .inl (g.2.1, 49, .inl f))] H := hP
  have hD : va_D A [(hg, .inr (8, [.ref st, .ref tr, .ref sa, .ref sk, .ref sv, .ref mt, .ref ml, .ref ad, .ref kw])), (st, .inr (7, [.ref b, .int sd, .int mv, .int gm, .null, .int w1, .int w2, .int dg, .int t1, .int t2, .int am])), (b, .inr (1, [.ref ca, .int kk, .int sg])), (ca, .inl (g.2.1, 49, .inl f))] := hD
  refine lv_i2l hx hb dL_timesSeen_4 rfl ?_
  have hyp := some_e hyp
  subst hyp
  subst hQ
  exact xrJ (na := s.heap.size) hx hb hr hlocks (Nat.le_refl _) hP hD hS (Nat.le_of_ble_eq_true rfl) (Nat.le_of_ble_eq_true rfl) dL_timesSeen_5

def fL_timesSeenS (sd : Int32) (cx : PC) : Option (Nat × Int64) :=
  (fX8_timesSeenS sd cx).bind (fun (r_1 : Nat × Int32) => if r_1.1 = 0 then (some (0, r_1.2.toInt64)) else (if r_1.1 = 3 then (some (3, (-9000000000000000003))) else (none)))
set_option maxRecDepth 100000 in
set_option maxHeartbeats 4000000 in
theorem mL_timesSeenS (l : Launch) (hl0 : l.stackTraces = false) (g : GE) (hg st b ca tr sa sk sv mt ml ad kw la zc zp : Nat) (sd : Int32) (mv : Int32) (gm : Int32) (w1 : Int32) (w2 : Int32) (dg : Int32) (t1 : Int32) (t2 : Int32) (am : Int32) (kk : Int32) (sg : Int32) (f : Nat → Int32) (cx : PC) (ct : List PC) (r : Nat × Int64) (hyp : fL_timesSeenS sd cx = some r) : LM l yL_timesSeen cL_timesSeen 2 [(0, 5, 6, 23)] 7 110 1 6 g [(hg, .inr (8, [.ref st, .ref tr, .ref sa, .ref sk, .ref sv, .ref mt, .ref ml, .ref ad, .ref kw])), (st, .inr (7, [.ref b, .int sd, .int mv, .int gm, .ref la, .int w1, .int w2, .int dg, .int t1, .int t2, .int am])), (b, .inr (1, [.ref ca, .int kk, .int sg])), (ca, .inl (g.2.1, 49, .inl f))] (OZ g zc zp (cx :: ct) (some la)) [.ref hg] (some (.long r.2)) (fun na => [(hg, .inr (8, [.ref st, .ref tr, .ref sa, .ref sk, .ref sv, .ref mt, .ref ml, .ref ad, .ref kw])), (st, .inr (7, [.ref b, .int sd, .int mv, .int gm, .ref la, .int w1, .int w2, .int dg, .int t1, .int t2, .int am])), (b, .inr (1, [.ref ca, .int kk, .int sg])), (ca, .inl (g.2.1, 49, .inl f))]) := by
  refine metL_intro (by decide) rfl ?_
  intro p e R s m args below meth c Q A hRf hRl hRc hRs hQ hx hb hml hr hlocks htab hown hts hin hE hSR hNC hA hO H locs hP hD hS ls hl
  obtain ⟨eb, hC⟩ := OC_head hO.2.2
  have hown : s.vm.findClass "HallGuardsLaw" = some m.cls := hown
  have hl : lv_has ls 2 [(0, .ref hg)] := hl
  unfold fL_timesSeenS at hyp
  refine lv_aload_n hx hb dL_timesSeen_0 rfl (lv_at hl 0 rfl) ?_
  obtain ⟨r_1, hr_1, hyp⟩ := opt_e hyp
  refine xV (As := []) (rest := []) ⟨hx, hb, hml, hown, hts⟩ hE hSR (mX8_timesSeenS l hl0 g hg st b ca tr sa sk sv mt ml ad kw la zc zp sd mv gm w1 w2 dg t1 t2 am kk sg f cx ct r_1 hr_1) (OZ_ok g zc zp _ _) hO cf_X8_timesSeen im_X8_timesSeen se_X8_timesSeen ml_L_58 ⟨Nat.le_trans (Nat.le_of_ble_eq_true rfl) hRf, Nat.le_trans (Nat.le_of_ble_eq_true rfl) hRl⟩ hP hD hS hA [0, 1, 2, 3] [] rfl (wr := []) rfl ⟨by decide, by decide⟩ (by decide) (ci := 8) (q0 := 0) rfl rfl rfl rfl hl.1 rfl (Nat.le_of_ble_eq_true rfl) dL_timesSeen_1 ⟨Nat.le_trans (Nat.le_of_ble_eq_true rfl) hRc, Nat.le_trans (Nat.le_of_ble_eq_true rfl) hRs⟩ (fun hk0 na_2 H locs hna_2 hP hD hS => ?_) (fun hk0 na9 q9 ce9 H locs hna9 hP hD hS hce hcv hcl => ?_)
  rotate_left 1
  · replace hyp := ite_f hk0 hyp
    have hP : va_P g.1 vwCl [(hg, .inr (8, [.ref st, .ref tr, .ref sa, .ref sk, .ref sv, .ref mt, .ref ml, .ref ad, .ref kw])), (st, .inr (7, [.ref b, .int sd, .int mv, .int gm, .ref la, .int w1, .int w2, .int dg, .int t1, .int t2, .int am])), (b, .inr (1, [.ref ca, .int kk, .int sg])), (ca, .inl (g.2.1, 49, .inl f))] H := hP
    have hD : va_D A [(hg, .inr (8, [.ref st, .ref tr, .ref sa, .ref sk, .ref sv, .ref mt, .ref ml, .ref ad, .ref kw])), (st, .inr (7, [.ref b, .int sd, .int mv, .int gm, .ref la, .int w1, .int w2, .int dg, .int t1, .int t2, .int am])), (b, .inr (1, [.ref ca, .int kk, .int sg])), (ca, .inl (g.2.1, 49, .inl f))] := hD
    by_cases h_3 : r_1.1 = 3
    · replace hyp := ite_t h_3 hyp
      rw [h_3] at hcl
      refine catK 0 ⟨0, 5, 6, 23⟩ 3 htab rfl hown (fun z hz => nomatch hz) (by decide) (by decide) hts hSR cl_L_23 cast_3 hce hcv hcl ?_
      refine lv_astore_n (lv' := [(1, .ref q9), (0, .ref hg)]) hx hb dL_timesSeen_6 rfl hl (by decide) rfl (fun ls hl => ?_)
      refine lv_ldc2 (v := (-9000000000000000003)) hx hb hown (hts _ ct_L_25) dL_timesSeen_7 ?_
      have hyp := some_e hyp
      subst hyp
      subst hQ
      exact xrJ (na := s.heap.size) hx hb hr hlocks (Nat.le_refl _) hP hD hS (Nat.le_of_ble_eq_true rfl) (Nat.le_of_ble_eq_true rfl) dL_timesSeen_10
    · replace hyp := ite_f h_3 hyp
      cases hyp
  replace hyp := ite_t hk0 hyp
  have hP : va_P g.1 vwCl [(hg, .inr (8, [.ref st, .ref tr, .ref sa, .ref sk, .ref sv, .ref mt, .ref ml, .ref ad, .ref kw])), (st, .inr (7, [.ref b, .int sd, .int mv, .int gm, .ref la, .int w1, .int w2, .int dg, .int t1, .int t2, .int am])), (b, .inr (1, [.ref ca, .int kk, .int sg])), (ca, .inl (g.2.1, 49, .inl f))] H := hP
  have hD : va_D A [(hg, .inr (8, [.ref st, .ref tr, .ref sa, .ref sk, .ref sv, .ref mt, .ref ml, .ref ad, .ref kw])), (st, .inr (7, [.ref b, .int sd, .int mv, .int gm, .ref la, .int w1, .int w2, .int dg, .int t1, .int t2, .int am])), (b, .inr (1, [.ref ca, .int kk, .int sg])), (ca, .inl (g.2.1, 49, .inl f))] := hD
  refine lv_i2l hx hb dL_timesSeen_4 rfl ?_
  have hyp := some_e hyp
  subst hyp
  subst hQ
  exact xrJ (na := s.heap.size) hx hb hr hlocks (Nat.le_refl _) hP hD hS (Nat.le_of_ble_eq_true rfl) (Nat.le_of_ble_eq_true rfl) dL_timesSeen_5

def fL_canMove (f : Nat → Int32) (a1 : Int32) (a2 : Int32) : Option (Nat × Int64) :=
  (fX8_canMove f a1 a2).bind (fun (r_1 : Nat × Int32) => if r_1.1 = 0 then (if r_1.2 = 0 then (some (0, 0)) else (some (0, 1))) else (if r_1.1 = 1 then (some (1, (-9000000000000000001))) else (none)))
set_option maxRecDepth 100000 in
set_option maxHeartbeats 4000000 in
theorem mL_canMove (l : Launch) (hl0 : l.stackTraces = false) (g : GE) (hg st b ca tr sa sk sv mt ml ad kw zc zp : Nat) (sd : Int32) (mv : Int32) (gm : Int32) (lt : Option Nat) (w1 : Int32) (w2 : Int32) (dg : Int32) (t1 : Int32) (t2 : Int32) (am : Int32) (kk : Int32) (sg : Int32) (f : Nat → Int32) (a1 : Int32) (a2 : Int32) (r : Nat × Int64) (hyp : fL_canMove f a1 a2 = some r) : LM l yL_canMove cL_canMove 4 [(0, 14, 15, 15)] 8 133 1 6 g [(hg, .inr (8, [.ref st, .ref tr, .ref sa, .ref sk, .ref sv, .ref mt, .ref ml, .ref ad, .ref kw])), (st, .inr (7, [.ref b, .int sd, .int mv, .int gm, va_rf lt, .int w1, .int w2, .int dg, .int t1, .int t2, .int am])), (b, .inr (1, [.ref ca, .int kk, .int sg])), (ca, .inl (g.2.1, 49, .inl f))] (OZ g zc zp [] none) [.ref hg, .int a1, .int a2] (some (.long r.2)) (fun na => [(hg, .inr (8, [.ref st, .ref tr, .ref sa, .ref sk, .ref sv, .ref mt, .ref ml, .ref ad, .ref kw])), (st, .inr (7, [.ref b, .int sd, .int mv, .int gm, va_rf lt, .int w1, .int w2, .int dg, .int t1, .int t2, .int am])), (b, .inr (1, [.ref ca, .int kk, .int sg])), (ca, .inl (g.2.1, 49, .inl f))]) := by
  refine metL_intro (by decide) rfl ?_
  intro p e R s m args below meth c Q A hRf hRl hRc hRs hQ hx hb hml hr hlocks htab hown hts hin hE hSR hNC hA hO H locs hP hD hS ls hl
  have hown : s.vm.findClass "HallGuardsLaw" = some m.cls := hown
  have hl : lv_has ls 4 [(0, .ref hg), (1, .int a1), (2, .int a2)] := hl
  unfold fL_canMove at hyp
  refine lv_aload_n hx hb dL_canMove_0 rfl (lv_at hl 0 rfl) ?_
  refine lv_iload_n hx hb dL_canMove_1 rfl (lv_at hl 1 rfl) ?_
  refine lv_iload_n hx hb dL_canMove_2 rfl (lv_at hl 2 rfl) ?_
  obtain ⟨r_1, hr_1, hyp⟩ := opt_e hyp
  refine xV (As := [.int a1, .int a2]) (rest := []) ⟨hx, hb, hml, hown, hts⟩ hE hSR (mX8_canMove l hl0 g hg st b ca tr sa sk sv mt ml ad kw zc zp sd mv gm lt w1 w2 dg t1 t2 am kk sg f a1 a2 r_1 hr_1) (OZ_ok g zc zp _ _) hO cf_X8_canMove im_X8_canMove se_X8_canMove ml_L_61 ⟨Nat.le_trans (Nat.le_of_ble_eq_true rfl) hRf, Nat.le_trans (Nat.le_of_ble_eq_true rfl) hRl⟩ hP hD hS hA [0, 1, 2, 3] [] rfl (wr := []) rfl ⟨by decide, by decide⟩ (by decide) (ci := 8) (q0 := 0) rfl rfl rfl rfl hl.1 rfl (Nat.le_of_ble_eq_true rfl) dL_canMove_3 ⟨Nat.le_trans (Nat.le_of_ble_eq_true rfl) hRc, Nat.le_trans (Nat.le_of_ble_eq_true rfl) hRs⟩ (fun hk0 na_2 H locs hna_2 hP hD hS => ?_) (fun hk0 na9 q9 ce9 H locs hna9 hP hD hS hce hcv hcl => ?_)
  rotate_left 1
  · replace hyp := ite_f hk0 hyp
    have hP : va_P g.1 vwCl [(hg, .inr (8, [.ref st, .ref tr, .ref sa, .ref sk, .ref sv, .ref mt, .ref ml, .ref ad, .ref kw])), (st, .inr (7, [.ref b, .int sd, .int mv, .int gm, va_rf lt, .int w1, .int w2, .int dg, .int t1, .int t2, .int am])), (b, .inr (1, [.ref ca, .int kk, .int sg])), (ca, .inl (g.2.1, 49, .inl f))] H := hP
    have hD : va_D A [(hg, .inr (8, [.ref st, .ref tr, .ref sa, .ref sk, .ref sv, .ref mt, .ref ml, .ref ad, .ref kw])), (st, .inr (7, [.ref b, .int sd, .int mv, .int gm, va_rf lt, .int w1, .int w2, .int dg, .int t1, .int t2, .int am])), (b, .inr (1, [.ref ca, .int kk, .int sg])), (ca, .inl (g.2.1, 49, .inl f))] := hD
    by_cases h_3 : r_1.1 = 1
    · replace hyp := ite_t h_3 hyp
      rw [h_3] at hcl
      refine catK 0 ⟨0, 14, 15, 15⟩ 1 htab rfl hown (fun z hz => nomatch hz) (by decide) (by decide) hts hSR cl_L_15 cast_1 hce hcv hcl ?_
      refine lv_astore_n (lv' := [(3, .ref q9), (0, .ref hg), (1, .int a1), (2, .int a2)]) hx hb dL_canMove_15 rfl hl (by decide) rfl (fun ls hl => ?_)
      refine lv_ldc2 (v := (-9000000000000000001)) hx hb hown (hts _ ct_L_17) dL_canMove_16 ?_
      have hyp := some_e hyp
      subst hyp
      subst hQ
      exact xrJ (na := s.heap.size) hx hb hr hlocks (Nat.le_refl _) hP hD hS (Nat.le_of_ble_eq_true rfl) (Nat.le_of_ble_eq_true rfl) dL_canMove_19
    · replace hyp := ite_f h_3 hyp
      cases hyp
  replace hyp := ite_t hk0 hyp
  have hP : va_P g.1 vwCl [(hg, .inr (8, [.ref st, .ref tr, .ref sa, .ref sk, .ref sv, .ref mt, .ref ml, .ref ad, .ref kw])), (st, .inr (7, [.ref b, .int sd, .int mv, .int gm, va_rf lt, .int w1, .int w2, .int dg, .int t1, .int t2, .int am])), (b, .inr (1, [.ref ca, .int kk, .int sg])), (ca, .inl (g.2.1, 49, .inl f))] H := hP
  have hD : va_D A [(hg, .inr (8, [.ref st, .ref tr, .ref sa, .ref sk, .ref sv, .ref mt, .ref ml, .ref ad, .ref kw])), (st, .inr (7, [.ref b, .int sd, .int mv, .int gm, va_rf lt, .int w1, .int w2, .int dg, .int t1, .int t2, .int am])), (b, .inr (1, [.ref ca, .int kk, .int sg])), (ca, .inl (g.2.1, 49, .inl f))] := hD
  refine lv_if_eq (tgt := 13) hx hb dL_canMove_6 (by decide) (fun h_4 => ?_) (fun h_4 => ?_)
  · replace hyp := ite_t h_4 hyp
    refine lv_lconst (v := 0) hx hb dL_canMove_13 (by decide) ?_
    have hyp := some_e hyp
    subst hyp
    subst hQ
    exact xrJ (na := s.heap.size) hx hb hr hlocks (Nat.le_refl _) hP hD hS (Nat.le_of_ble_eq_true rfl) (Nat.le_of_ble_eq_true rfl) dL_canMove_14
  · replace hyp := ite_f h_4 hyp
    refine lv_lconst (v := 1) hx hb dL_canMove_9 (by decide) ?_
    refine lv_goto (tgt := 14) hx hb dL_canMove_10 (by decide) ?_
    have hyp := some_e hyp
    subst hyp
    subst hQ
    exact xrJ (na := s.heap.size) hx hb hr hlocks (Nat.le_refl _) hP hD hS (Nat.le_of_ble_eq_true rfl) (Nat.le_of_ble_eq_true rfl) dL_canMove_14

def fL_against (f : Nat → Int32) (a1 : Int32) (a2 : Int32) : Option (Nat × Int64) :=
  (fX8_reasonAgainst f a1 a2).bind (fun (r_1 : Nat × Int32) => if r_1.1 = 0 then (some (0, r_1.2.toInt64)) else (if r_1.1 = 1 then (some (1, (-9000000000000000001))) else (none)))
set_option maxRecDepth 100000 in
set_option maxHeartbeats 4000000 in
theorem mL_against (l : Launch) (hl0 : l.stackTraces = false) (g : GE) (hg st b ca tr sa sk sv mt ml ad kw zc zp : Nat) (sd : Int32) (mv : Int32) (gm : Int32) (lt : Option Nat) (w1 : Int32) (w2 : Int32) (dg : Int32) (t1 : Int32) (t2 : Int32) (am : Int32) (kk : Int32) (sg : Int32) (f : Nat → Int32) (a1 : Int32) (a2 : Int32) (r : Nat × Int64) (hyp : fL_against f a1 a2 = some r) : LM l yL_against cL_against 4 [(0, 7, 8, 15)] 8 133 1 6 g [(hg, .inr (8, [.ref st, .ref tr, .ref sa, .ref sk, .ref sv, .ref mt, .ref ml, .ref ad, .ref kw])), (st, .inr (7, [.ref b, .int sd, .int mv, .int gm, va_rf lt, .int w1, .int w2, .int dg, .int t1, .int t2, .int am])), (b, .inr (1, [.ref ca, .int kk, .int sg])), (ca, .inl (g.2.1, 49, .inl f))] (OZ g zc zp [] none) [.ref hg, .int a1, .int a2] (some (.long r.2)) (fun na => [(hg, .inr (8, [.ref st, .ref tr, .ref sa, .ref sk, .ref sv, .ref mt, .ref ml, .ref ad, .ref kw])), (st, .inr (7, [.ref b, .int sd, .int mv, .int gm, va_rf lt, .int w1, .int w2, .int dg, .int t1, .int t2, .int am])), (b, .inr (1, [.ref ca, .int kk, .int sg])), (ca, .inl (g.2.1, 49, .inl f))]) := by
  refine metL_intro (by decide) rfl ?_
  intro p e R s m args below meth c Q A hRf hRl hRc hRs hQ hx hb hml hr hlocks htab hown hts hin hE hSR hNC hA hO H locs hP hD hS ls hl
  have hown : s.vm.findClass "HallGuardsLaw" = some m.cls := hown
  have hl : lv_has ls 4 [(0, .ref hg), (1, .int a1), (2, .int a2)] := hl
  unfold fL_against at hyp
  refine lv_aload_n hx hb dL_against_0 rfl (lv_at hl 0 rfl) ?_
  refine lv_iload_n hx hb dL_against_1 rfl (lv_at hl 1 rfl) ?_
  refine lv_iload_n hx hb dL_against_2 rfl (lv_at hl 2 rfl) ?_
  obtain ⟨r_1, hr_1, hyp⟩ := opt_e hyp
  refine xV (As := [.int a1, .int a2]) (rest := []) ⟨hx, hb, hml, hown, hts⟩ hE hSR (mX8_reasonAgainst l hl0 g hg st b ca tr sa sk sv mt ml ad kw zc zp sd mv gm lt w1 w2 dg t1 t2 am kk sg f a1 a2 r_1 hr_1) (OZ_ok g zc zp _ _) hO cf_X8_reasonAgainst im_X8_reasonAgainst se_X8_reasonAgainst ml_L_65 ⟨Nat.le_trans (Nat.le_of_ble_eq_true rfl) hRf, Nat.le_trans (Nat.le_of_ble_eq_true rfl) hRl⟩ hP hD hS hA [0, 1, 2, 3] [] rfl (wr := []) rfl ⟨by decide, by decide⟩ (by decide) (ci := 8) (q0 := 0) rfl rfl rfl rfl hl.1 rfl (Nat.le_of_ble_eq_true rfl) dL_against_3 ⟨Nat.le_trans (Nat.le_of_ble_eq_true rfl) hRc, Nat.le_trans (Nat.le_of_ble_eq_true rfl) hRs⟩ (fun hk0 na_2 H locs hna_2 hP hD hS => ?_) (fun hk0 na9 q9 ce9 H locs hna9 hP hD hS hce hcv hcl => ?_)
  rotate_left 1
  · replace hyp := ite_f hk0 hyp
    have hP : va_P g.1 vwCl [(hg, .inr (8, [.ref st, .ref tr, .ref sa, .ref sk, .ref sv, .ref mt, .ref ml, .ref ad, .ref kw])), (st, .inr (7, [.ref b, .int sd, .int mv, .int gm, va_rf lt, .int w1, .int w2, .int dg, .int t1, .int t2, .int am])), (b, .inr (1, [.ref ca, .int kk, .int sg])), (ca, .inl (g.2.1, 49, .inl f))] H := hP
    have hD : va_D A [(hg, .inr (8, [.ref st, .ref tr, .ref sa, .ref sk, .ref sv, .ref mt, .ref ml, .ref ad, .ref kw])), (st, .inr (7, [.ref b, .int sd, .int mv, .int gm, va_rf lt, .int w1, .int w2, .int dg, .int t1, .int t2, .int am])), (b, .inr (1, [.ref ca, .int kk, .int sg])), (ca, .inl (g.2.1, 49, .inl f))] := hD
    by_cases h_3 : r_1.1 = 1
    · replace hyp := ite_t h_3 hyp
      rw [h_3] at hcl
      refine catK 0 ⟨0, 7, 8, 15⟩ 1 htab rfl hown (fun z hz => nomatch hz) (by decide) (by decide) hts hSR cl_L_15 cast_1 hce hcv hcl ?_
      refine lv_astore_n (lv' := [(3, .ref q9), (0, .ref hg), (1, .int a1), (2, .int a2)]) hx hb dL_against_8 rfl hl (by decide) rfl (fun ls hl => ?_)
      refine lv_ldc2 (v := (-9000000000000000001)) hx hb hown (hts _ ct_L_17) dL_against_9 ?_
      have hyp := some_e hyp
      subst hyp
      subst hQ
      exact xrJ (na := s.heap.size) hx hb hr hlocks (Nat.le_refl _) hP hD hS (Nat.le_of_ble_eq_true rfl) (Nat.le_of_ble_eq_true rfl) dL_against_12
    · replace hyp := ite_f h_3 hyp
      cases hyp
  replace hyp := ite_t hk0 hyp
  have hP : va_P g.1 vwCl [(hg, .inr (8, [.ref st, .ref tr, .ref sa, .ref sk, .ref sv, .ref mt, .ref ml, .ref ad, .ref kw])), (st, .inr (7, [.ref b, .int sd, .int mv, .int gm, va_rf lt, .int w1, .int w2, .int dg, .int t1, .int t2, .int am])), (b, .inr (1, [.ref ca, .int kk, .int sg])), (ca, .inl (g.2.1, 49, .inl f))] H := hP
  have hD : va_D A [(hg, .inr (8, [.ref st, .ref tr, .ref sa, .ref sk, .ref sv, .ref mt, .ref ml, .ref ad, .ref kw])), (st, .inr (7, [.ref b, .int sd, .int mv, .int gm, va_rf lt, .int w1, .int w2, .int dg, .int t1, .int t2, .int am])), (b, .inr (1, [.ref ca, .int kk, .int sg])), (ca, .inl (g.2.1, 49, .inl f))] := hD
  refine lv_i2l hx hb dL_against_6 rfl ?_
  have hyp := some_e hyp
  subst hyp
  subst hQ
  exact xrJ (na := s.heap.size) hx hb hr hlocks (Nat.le_refl _) hP hD hS (Nat.le_of_ble_eq_true rfl) (Nat.le_of_ble_eq_true rfl) dL_against_7

def fL_movesFrom (f : Nat → Int32) (a1 : Int32) (a2 : Int32) : Option (Nat × Int64) :=
  (fX8_movesFrom f a1 a2).bind (fun (r_1 : Nat × Int32) => if r_1.1 = 0 then (some (0, r_1.2.toInt64)) else (if r_1.1 = 1 then (some (1, (-9000000000000000001))) else (none)))
set_option maxRecDepth 100000 in
set_option maxHeartbeats 4000000 in
theorem mL_movesFrom (l : Launch) (hl0 : l.stackTraces = false) (g : GE) (hg st b ca tr sa sk sv mt ml ad kw zc zp : Nat) (sd : Int32) (mv : Int32) (gm : Int32) (lt : Option Nat) (w1 : Int32) (w2 : Int32) (dg : Int32) (t1 : Int32) (t2 : Int32) (am : Int32) (kk : Int32) (sg : Int32) (f : Nat → Int32) (a1 : Int32) (a2 : Int32) (r : Nat × Int64) (hyp : fL_movesFrom f a1 a2 = some r) : LM l yL_movesFrom cL_movesFrom 4 [(0, 7, 8, 15)] 8 133 1 6 g [(hg, .inr (8, [.ref st, .ref tr, .ref sa, .ref sk, .ref sv, .ref mt, .ref ml, .ref ad, .ref kw])), (st, .inr (7, [.ref b, .int sd, .int mv, .int gm, va_rf lt, .int w1, .int w2, .int dg, .int t1, .int t2, .int am])), (b, .inr (1, [.ref ca, .int kk, .int sg])), (ca, .inl (g.2.1, 49, .inl f))] (OZ g zc zp [] none) [.ref hg, .int a1, .int a2] (some (.long r.2)) (fun na => [(hg, .inr (8, [.ref st, .ref tr, .ref sa, .ref sk, .ref sv, .ref mt, .ref ml, .ref ad, .ref kw])), (st, .inr (7, [.ref b, .int sd, .int mv, .int gm, va_rf lt, .int w1, .int w2, .int dg, .int t1, .int t2, .int am])), (b, .inr (1, [.ref ca, .int kk, .int sg])), (ca, .inl (g.2.1, 49, .inl f))]) := by
  refine metL_intro (by decide) rfl ?_
  intro p e R s m args below meth c Q A hRf hRl hRc hRs hQ hx hb hml hr hlocks htab hown hts hin hE hSR hNC hA hO H locs hP hD hS ls hl
  have hown : s.vm.findClass "HallGuardsLaw" = some m.cls := hown
  have hl : lv_has ls 4 [(0, .ref hg), (1, .int a1), (2, .int a2)] := hl
  unfold fL_movesFrom at hyp
  refine lv_aload_n hx hb dL_movesFrom_0 rfl (lv_at hl 0 rfl) ?_
  refine lv_iload_n hx hb dL_movesFrom_1 rfl (lv_at hl 1 rfl) ?_
  refine lv_iload_n hx hb dL_movesFrom_2 rfl (lv_at hl 2 rfl) ?_
  obtain ⟨r_1, hr_1, hyp⟩ := opt_e hyp
  refine xV (As := [.int a1, .int a2]) (rest := []) ⟨hx, hb, hml, hown, hts⟩ hE hSR (mX8_movesFrom l hl0 g hg st b ca tr sa sk sv mt ml ad kw zc zp sd mv gm lt w1 w2 dg t1 t2 am kk sg f a1 a2 r_1 hr_1) (OZ_ok g zc zp _ _) hO cf_X8_movesFrom im_X8_movesFrom se_X8_movesFrom ml_L_68 ⟨Nat.le_trans (Nat.le_of_ble_eq_true rfl) hRf, Nat.le_trans (Nat.le_of_ble_eq_true rfl) hRl⟩ hP hD hS hA [0, 1, 2, 3] [] rfl (wr := []) rfl ⟨by decide, by decide⟩ (by decide) (ci := 8) (q0 := 0) rfl rfl rfl rfl hl.1 rfl (Nat.le_of_ble_eq_true rfl) dL_movesFrom_3 ⟨Nat.le_trans (Nat.le_of_ble_eq_true rfl) hRc, Nat.le_trans (Nat.le_of_ble_eq_true rfl) hRs⟩ (fun hk0 na_2 H locs hna_2 hP hD hS => ?_) (fun hk0 na9 q9 ce9 H locs hna9 hP hD hS hce hcv hcl => ?_)
  rotate_left 1
  · replace hyp := ite_f hk0 hyp
    have hP : va_P g.1 vwCl [(hg, .inr (8, [.ref st, .ref tr, .ref sa, .ref sk, .ref sv, .ref mt, .ref ml, .ref ad, .ref kw])), (st, .inr (7, [.ref b, .int sd, .int mv, .int gm, va_rf lt, .int w1, .int w2, .int dg, .int t1, .int t2, .int am])), (b, .inr (1, [.ref ca, .int kk, .int sg])), (ca, .inl (g.2.1, 49, .inl f))] H := hP
    have hD : va_D A [(hg, .inr (8, [.ref st, .ref tr, .ref sa, .ref sk, .ref sv, .ref mt, .ref ml, .ref ad, .ref kw])), (st, .inr (7, [.ref b, .int sd, .int mv, .int gm, va_rf lt, .int w1, .int w2, .int dg, .int t1, .int t2, .int am])), (b, .inr (1, [.ref ca, .int kk, .int sg])), (ca, .inl (g.2.1, 49, .inl f))] := hD
    by_cases h_3 : r_1.1 = 1
    · replace hyp := ite_t h_3 hyp
      rw [h_3] at hcl
      refine catK 0 ⟨0, 7, 8, 15⟩ 1 htab rfl hown (fun z hz => nomatch hz) (by decide) (by decide) hts hSR cl_L_15 cast_1 hce hcv hcl ?_
      refine lv_astore_n (lv' := [(3, .ref q9), (0, .ref hg), (1, .int a1), (2, .int a2)]) hx hb dL_movesFrom_8 rfl hl (by decide) rfl (fun ls hl => ?_)
      refine lv_ldc2 (v := (-9000000000000000001)) hx hb hown (hts _ ct_L_17) dL_movesFrom_9 ?_
      have hyp := some_e hyp
      subst hyp
      subst hQ
      exact xrJ (na := s.heap.size) hx hb hr hlocks (Nat.le_refl _) hP hD hS (Nat.le_of_ble_eq_true rfl) (Nat.le_of_ble_eq_true rfl) dL_movesFrom_12
    · replace hyp := ite_f h_3 hyp
      cases hyp
  replace hyp := ite_t hk0 hyp
  have hP : va_P g.1 vwCl [(hg, .inr (8, [.ref st, .ref tr, .ref sa, .ref sk, .ref sv, .ref mt, .ref ml, .ref ad, .ref kw])), (st, .inr (7, [.ref b, .int sd, .int mv, .int gm, va_rf lt, .int w1, .int w2, .int dg, .int t1, .int t2, .int am])), (b, .inr (1, [.ref ca, .int kk, .int sg])), (ca, .inl (g.2.1, 49, .inl f))] H := hP
  have hD : va_D A [(hg, .inr (8, [.ref st, .ref tr, .ref sa, .ref sk, .ref sv, .ref mt, .ref ml, .ref ad, .ref kw])), (st, .inr (7, [.ref b, .int sd, .int mv, .int gm, va_rf lt, .int w1, .int w2, .int dg, .int t1, .int t2, .int am])), (b, .inr (1, [.ref ca, .int kk, .int sg])), (ca, .inl (g.2.1, 49, .inl f))] := hD
  refine lv_i2l hx hb dL_movesFrom_6 rfl ?_
  have hyp := some_e hyp
  subst hyp
  subst hQ
  exact xrJ (na := s.heap.size) hx hb hr hlocks (Nat.le_refl _) hP hD hS (Nat.le_of_ble_eq_true rfl) (Nat.le_of_ble_eq_true rfl) dL_movesFrom_7

def fL_byPieces (f : Nat → Int32) (a1 : Int32) : Option (Nat × Int64) :=
  (fX8_movesByPieces f a1).bind (fun (r_1 : Nat × Int32) => if r_1.1 = 0 then (some (0, r_1.2.toInt64)) else (if r_1.1 = 1 then (some (1, (-9000000000000000001))) else (none)))
set_option maxRecDepth 100000 in
set_option maxHeartbeats 4000000 in
theorem mL_byPieces (l : Launch) (hl0 : l.stackTraces = false) (g : GE) (hg st b ca tr sa sk sv mt ml ad kw zc zp : Nat) (sd : Int32) (mv : Int32) (gm : Int32) (lt : Option Nat) (w1 : Int32) (w2 : Int32) (dg : Int32) (t1 : Int32) (t2 : Int32) (am : Int32) (kk : Int32) (sg : Int32) (f : Nat → Int32) (a1 : Int32) (r : Nat × Int64) (hyp : fL_byPieces f a1 = some r) : LM l yL_byPieces cL_byPieces 3 [(0, 6, 7, 15)] 8 131 1 6 g [(hg, .inr (8, [.ref st, .ref tr, .ref sa, .ref sk, .ref sv, .ref mt, .ref ml, .ref ad, .ref kw])), (st, .inr (7, [.ref b, .int sd, .int mv, .int gm, va_rf lt, .int w1, .int w2, .int dg, .int t1, .int t2, .int am])), (b, .inr (1, [.ref ca, .int kk, .int sg])), (ca, .inl (g.2.1, 49, .inl f))] (OZ g zc zp [] none) [.ref hg, .int a1] (some (.long r.2)) (fun na => [(hg, .inr (8, [.ref st, .ref tr, .ref sa, .ref sk, .ref sv, .ref mt, .ref ml, .ref ad, .ref kw])), (st, .inr (7, [.ref b, .int sd, .int mv, .int gm, va_rf lt, .int w1, .int w2, .int dg, .int t1, .int t2, .int am])), (b, .inr (1, [.ref ca, .int kk, .int sg])), (ca, .inl (g.2.1, 49, .inl f))]) := by
  refine metL_intro (by decide) rfl ?_
  intro p e R s m args below meth c Q A hRf hRl hRc hRs hQ hx hb hml hr hlocks htab hown hts hin hE hSR hNC hA hO H locs hP hD hS ls hl
  have hown : s.vm.findClass "HallGuardsLaw" = some m.cls := hown
  have hl : lv_has ls 3 [(0, .ref hg), (1, .int a1)] := hl
  unfold fL_byPieces at hyp
  refine lv_aload_n hx hb dL_byPieces_0 rfl (lv_at hl 0 rfl) ?_
  refine lv_iload_n hx hb dL_byPieces_1 rfl (lv_at hl 1 rfl) ?_
  obtain ⟨r_1, hr_1, hyp⟩ := opt_e hyp
  refine xV (As := [.int a1]) (rest := []) ⟨hx, hb, hml, hown, hts⟩ hE hSR (mX8_movesByPieces l hl0 g hg st b ca tr sa sk sv mt ml ad kw zc zp sd mv gm lt w1 w2 dg t1 t2 am kk sg f a1 r_1 hr_1) (OZ_ok g zc zp _ _) hO cf_X8_movesByPieces im_X8_movesByPieces se_X8_movesByPieces ml_L_71 ⟨Nat.le_trans (Nat.le_of_ble_eq_true rfl) hRf, Nat.le_trans (Nat.le_of_ble_eq_true rfl) hRl⟩ hP hD hS hA [0, 1, 2, 3] [] rfl (wr := []) rfl ⟨by decide, by decide⟩ (by decide) (ci := 8) (q0 := 0) rfl rfl rfl rfl hl.1 rfl (Nat.le_of_ble_eq_true rfl) dL_byPieces_2 ⟨Nat.le_trans (Nat.le_of_ble_eq_true rfl) hRc, Nat.le_trans (Nat.le_of_ble_eq_true rfl) hRs⟩ (fun hk0 na_2 H locs hna_2 hP hD hS => ?_) (fun hk0 na9 q9 ce9 H locs hna9 hP hD hS hce hcv hcl => ?_)
  rotate_left 1
  · replace hyp := ite_f hk0 hyp
    have hP : va_P g.1 vwCl [(hg, .inr (8, [.ref st, .ref tr, .ref sa, .ref sk, .ref sv, .ref mt, .ref ml, .ref ad, .ref kw])), (st, .inr (7, [.ref b, .int sd, .int mv, .int gm, va_rf lt, .int w1, .int w2, .int dg, .int t1, .int t2, .int am])), (b, .inr (1, [.ref ca, .int kk, .int sg])), (ca, .inl (g.2.1, 49, .inl f))] H := hP
    have hD : va_D A [(hg, .inr (8, [.ref st, .ref tr, .ref sa, .ref sk, .ref sv, .ref mt, .ref ml, .ref ad, .ref kw])), (st, .inr (7, [.ref b, .int sd, .int mv, .int gm, va_rf lt, .int w1, .int w2, .int dg, .int t1, .int t2, .int am])), (b, .inr (1, [.ref ca, .int kk, .int sg])), (ca, .inl (g.2.1, 49, .inl f))] := hD
    by_cases h_3 : r_1.1 = 1
    · replace hyp := ite_t h_3 hyp
      rw [h_3] at hcl
      refine catK 0 ⟨0, 6, 7, 15⟩ 1 htab rfl hown (fun z hz => nomatch hz) (by decide) (by decide) hts hSR cl_L_15 cast_1 hce hcv hcl ?_
      refine lv_astore_n (lv' := [(2, .ref q9), (0, .ref hg), (1, .int a1)]) hx hb dL_byPieces_7 rfl hl (by decide) rfl (fun ls hl => ?_)
      refine lv_ldc2 (v := (-9000000000000000001)) hx hb hown (hts _ ct_L_17) dL_byPieces_8 ?_
      have hyp := some_e hyp
      subst hyp
      subst hQ
      exact xrJ (na := s.heap.size) hx hb hr hlocks (Nat.le_refl _) hP hD hS (Nat.le_of_ble_eq_true rfl) (Nat.le_of_ble_eq_true rfl) dL_byPieces_11
    · replace hyp := ite_f h_3 hyp
      cases hyp
  replace hyp := ite_t hk0 hyp
  have hP : va_P g.1 vwCl [(hg, .inr (8, [.ref st, .ref tr, .ref sa, .ref sk, .ref sv, .ref mt, .ref ml, .ref ad, .ref kw])), (st, .inr (7, [.ref b, .int sd, .int mv, .int gm, va_rf lt, .int w1, .int w2, .int dg, .int t1, .int t2, .int am])), (b, .inr (1, [.ref ca, .int kk, .int sg])), (ca, .inl (g.2.1, 49, .inl f))] H := hP
  have hD : va_D A [(hg, .inr (8, [.ref st, .ref tr, .ref sa, .ref sk, .ref sv, .ref mt, .ref ml, .ref ad, .ref kw])), (st, .inr (7, [.ref b, .int sd, .int mv, .int gm, va_rf lt, .int w1, .int w2, .int dg, .int t1, .int t2, .int am])), (b, .inr (1, [.ref ca, .int kk, .int sg])), (ca, .inl (g.2.1, 49, .inl f))] := hD
  refine lv_i2l hx hb dL_byPieces_5 rfl ?_
  have hyp := some_e hyp
  subst hyp
  subst hQ
  exact xrJ (na := s.heap.size) hx hb hr hlocks (Nat.le_refl _) hP hD hS (Nat.le_of_ble_eq_true rfl) (Nat.le_of_ble_eq_true rfl) dL_byPieces_6

def fL_bySquares (f : Nat → Int32) (a1 : Int32) : Option (Nat × Int64) :=
  (fX8_movesBySquares f a1).bind (fun (r_1 : Nat × Int32) => if r_1.1 = 0 then (some (0, r_1.2.toInt64)) else (if r_1.1 = 1 then (some (1, (-9000000000000000001))) else (none)))
set_option maxRecDepth 100000 in
set_option maxHeartbeats 4000000 in
theorem mL_bySquares (l : Launch) (hl0 : l.stackTraces = false) (g : GE) (hg st b ca tr sa sk sv mt ml ad kw zc zp : Nat) (sd : Int32) (mv : Int32) (gm : Int32) (lt : Option Nat) (w1 : Int32) (w2 : Int32) (dg : Int32) (t1 : Int32) (t2 : Int32) (am : Int32) (kk : Int32) (sg : Int32) (f : Nat → Int32) (a1 : Int32) (r : Nat × Int64) (hyp : fL_bySquares f a1 = some r) : LM l yL_bySquares cL_bySquares 3 [(0, 6, 7, 15)] 8 131 1 6 g [(hg, .inr (8, [.ref st, .ref tr, .ref sa, .ref sk, .ref sv, .ref mt, .ref ml, .ref ad, .ref kw])), (st, .inr (7, [.ref b, .int sd, .int mv, .int gm, va_rf lt, .int w1, .int w2, .int dg, .int t1, .int t2, .int am])), (b, .inr (1, [.ref ca, .int kk, .int sg])), (ca, .inl (g.2.1, 49, .inl f))] (OZ g zc zp [] none) [.ref hg, .int a1] (some (.long r.2)) (fun na => [(hg, .inr (8, [.ref st, .ref tr, .ref sa, .ref sk, .ref sv, .ref mt, .ref ml, .ref ad, .ref kw])), (st, .inr (7, [.ref b, .int sd, .int mv, .int gm, va_rf lt, .int w1, .int w2, .int dg, .int t1, .int t2, .int am])), (b, .inr (1, [.ref ca, .int kk, .int sg])), (ca, .inl (g.2.1, 49, .inl f))]) := by
  refine metL_intro (by decide) rfl ?_
  intro p e R s m args below meth c Q A hRf hRl hRc hRs hQ hx hb hml hr hlocks htab hown hts hin hE hSR hNC hA hO H locs hP hD hS ls hl
  have hown : s.vm.findClass "HallGuardsLaw" = some m.cls := hown
  have hl : lv_has ls 3 [(0, .ref hg), (1, .int a1)] := hl
  unfold fL_bySquares at hyp
  refine lv_aload_n hx hb dL_bySquares_0 rfl (lv_at hl 0 rfl) ?_
  refine lv_iload_n hx hb dL_bySquares_1 rfl (lv_at hl 1 rfl) ?_
  obtain ⟨r_1, hr_1, hyp⟩ := opt_e hyp
  refine xV (As := [.int a1]) (rest := []) ⟨hx, hb, hml, hown, hts⟩ hE hSR (mX8_movesBySquares l hl0 g hg st b ca tr sa sk sv mt ml ad kw zc zp sd mv gm lt w1 w2 dg t1 t2 am kk sg f a1 r_1 hr_1) (OZ_ok g zc zp _ _) hO cf_X8_movesBySquares im_X8_movesBySquares se_X8_movesBySquares ml_L_74 ⟨Nat.le_trans (Nat.le_of_ble_eq_true rfl) hRf, Nat.le_trans (Nat.le_of_ble_eq_true rfl) hRl⟩ hP hD hS hA [0, 1, 2, 3] [] rfl (wr := []) rfl ⟨by decide, by decide⟩ (by decide) (ci := 8) (q0 := 0) rfl rfl rfl rfl hl.1 rfl (Nat.le_of_ble_eq_true rfl) dL_bySquares_2 ⟨Nat.le_trans (Nat.le_of_ble_eq_true rfl) hRc, Nat.le_trans (Nat.le_of_ble_eq_true rfl) hRs⟩ (fun hk0 na_2 H locs hna_2 hP hD hS => ?_) (fun hk0 na9 q9 ce9 H locs hna9 hP hD hS hce hcv hcl => ?_)
  rotate_left 1
  · replace hyp := ite_f hk0 hyp
    have hP : va_P g.1 vwCl [(hg, .inr (8, [.ref st, .ref tr, .ref sa, .ref sk, .ref sv, .ref mt, .ref ml, .ref ad, .ref kw])), (st, .inr (7, [.ref b, .int sd, .int mv, .int gm, va_rf lt, .int w1, .int w2, .int dg, .int t1, .int t2, .int am])), (b, .inr (1, [.ref ca, .int kk, .int sg])), (ca, .inl (g.2.1, 49, .inl f))] H := hP
    have hD : va_D A [(hg, .inr (8, [.ref st, .ref tr, .ref sa, .ref sk, .ref sv, .ref mt, .ref ml, .ref ad, .ref kw])), (st, .inr (7, [.ref b, .int sd, .int mv, .int gm, va_rf lt, .int w1, .int w2, .int dg, .int t1, .int t2, .int am])), (b, .inr (1, [.ref ca, .int kk, .int sg])), (ca, .inl (g.2.1, 49, .inl f))] := hD
    by_cases h_3 : r_1.1 = 1
    · replace hyp := ite_t h_3 hyp
      rw [h_3] at hcl
      refine catK 0 ⟨0, 6, 7, 15⟩ 1 htab rfl hown (fun z hz => nomatch hz) (by decide) (by decide) hts hSR cl_L_15 cast_1 hce hcv hcl ?_
      refine lv_astore_n (lv' := [(2, .ref q9), (0, .ref hg), (1, .int a1)]) hx hb dL_bySquares_7 rfl hl (by decide) rfl (fun ls hl => ?_)
      refine lv_ldc2 (v := (-9000000000000000001)) hx hb hown (hts _ ct_L_17) dL_bySquares_8 ?_
      have hyp := some_e hyp
      subst hyp
      subst hQ
      exact xrJ (na := s.heap.size) hx hb hr hlocks (Nat.le_refl _) hP hD hS (Nat.le_of_ble_eq_true rfl) (Nat.le_of_ble_eq_true rfl) dL_bySquares_11
    · replace hyp := ite_f h_3 hyp
      cases hyp
  replace hyp := ite_t hk0 hyp
  have hP : va_P g.1 vwCl [(hg, .inr (8, [.ref st, .ref tr, .ref sa, .ref sk, .ref sv, .ref mt, .ref ml, .ref ad, .ref kw])), (st, .inr (7, [.ref b, .int sd, .int mv, .int gm, va_rf lt, .int w1, .int w2, .int dg, .int t1, .int t2, .int am])), (b, .inr (1, [.ref ca, .int kk, .int sg])), (ca, .inl (g.2.1, 49, .inl f))] H := hP
  have hD : va_D A [(hg, .inr (8, [.ref st, .ref tr, .ref sa, .ref sk, .ref sv, .ref mt, .ref ml, .ref ad, .ref kw])), (st, .inr (7, [.ref b, .int sd, .int mv, .int gm, va_rf lt, .int w1, .int w2, .int dg, .int t1, .int t2, .int am])), (b, .inr (1, [.ref ca, .int kk, .int sg])), (ca, .inl (g.2.1, 49, .inl f))] := hD
  refine lv_i2l hx hb dL_bySquares_5 rfl ?_
  have hyp := some_e hyp
  subst hyp
  subst hQ
  exact xrJ (na := s.heap.size) hx hb hr hlocks (Nat.le_refl _) hP hD hS (Nat.le_of_ble_eq_true rfl) (Nat.le_of_ble_eq_true rfl) dL_bySquares_6

def fL_wouldTake (kk : Int32) (sg : Int32) (f : Nat → Int32) (bk : Int32) (bs : Int32) (bf : Nat → Int32) (a1 : Int32) (a2 : Int32) : Option (Nat × Int64 × (Nat → Int32) × Int32 × Int32) :=
  (fX8_wouldTake kk sg f bk bs bf a1 a2).bind (fun (r_1 : Nat × Int32 × (Nat → Int32) × Int32 × Int32) => if r_1.1 = 0 then (some (0, r_1.2.1.toInt64, r_1.2.2.1, r_1.2.2.2.1, r_1.2.2.2.2)) else (if r_1.1 = 1 then (some (1, (-9000000000000000001), r_1.2.2.1, r_1.2.2.2.1, r_1.2.2.2.2)) else (if r_1.1 = 3 then (some (3, (-9000000000000000003), r_1.2.2.1, r_1.2.2.2.1, r_1.2.2.2.2)) else (none))))
set_option maxRecDepth 100000 in
set_option maxHeartbeats 4000000 in
theorem mL_wouldTake (l : Launch) (hl0 : l.stackTraces = false) (g : GE) (hg st b ca ad be bc tr sa sk sv mt ml kw rp rl zc zp : Nat) (sd : Int32) (mv : Int32) (gm : Int32) (lt : Option Nat) (w1 : Int32) (w2 : Int32) (dg : Int32) (t1 : Int32) (t2 : Int32) (am : Int32) (kk : Int32) (sg : Int32) (f : Nat → Int32) (bk : Int32) (bs : Int32) (bf : Nat → Int32) (a1 : Int32) (a2 : Int32) (r : Nat × Int64 × (Nat → Int32) × Int32 × Int32) (hyp : fL_wouldTake kk sg f bk bs bf a1 a2 = some r) : LM l yL_wouldTake cL_wouldTake 4 [(0, 7, 8, 15), (0, 7, 13, 23)] 9 155 2 12 g [(hg, .inr (8, [.ref st, .ref tr, .ref sa, .ref sk, .ref sv, .ref mt, .ref ml, .ref ad, .ref kw])), (st, .inr (7, [.ref b, .int sd, .int mv, .int gm, va_rf lt, .int w1, .int w2, .int dg, .int t1, .int t2, .int am])), (b, .inr (1, [.ref ca, .int kk, .int sg])), (ca, .inl (g.2.1, 49, .inl f)), (ad, .inr (0, [.ref be, .ref rp, .ref rl])), (be, .inr (1, [.ref bc, .int bk, .int bs])), (bc, .inl (g.2.1, 49, .inl bf))] (OZ g zc zp [] none) [.ref hg, .int a1, .int a2] (some (.long r.2.1)) (fun na => [(hg, .inr (8, [.ref st, .ref tr, .ref sa, .ref sk, .ref sv, .ref mt, .ref ml, .ref ad, .ref kw])), (st, .inr (7, [.ref b, .int sd, .int mv, .int gm, va_rf lt, .int w1, .int w2, .int dg, .int t1, .int t2, .int am])), (b, .inr (1, [.ref ca, .int kk, .int sg])), (ca, .inl (g.2.1, 49, .inl f)), (ad, .inr (0, [.ref be, .ref rp, .ref rl])), (be, .inr (1, [.ref bc, .int r.2.2.2.1, .int r.2.2.2.2])), (bc, .inl (g.2.1, 49, .inl r.2.2.1))]) := by
  refine metL_intro (by decide) rfl ?_
  intro p e R s m args below meth c Q A hRf hRl hRc hRs hQ hx hb hml hr hlocks htab hown hts hin hE hSR hNC hA hO H locs hP hD hS ls hl
  have hown : s.vm.findClass "HallGuardsLaw" = some m.cls := hown
  have hl : lv_has ls 4 [(0, .ref hg), (1, .int a1), (2, .int a2)] := hl
  unfold fL_wouldTake at hyp
  refine lv_aload_n hx hb dL_wouldTake_0 rfl (lv_at hl 0 rfl) ?_
  refine lv_iload_n hx hb dL_wouldTake_1 rfl (lv_at hl 1 rfl) ?_
  refine lv_iload_n hx hb dL_wouldTake_2 rfl (lv_at hl 2 rfl) ?_
  obtain ⟨r_1, hr_1, hyp⟩ := opt_e hyp
  refine xV (As := [.int a1, .int a2]) (rest := []) ⟨hx, hb, hml, hown, hts⟩ hE hSR (mX8_wouldTake l hl0 g hg st b ca ad be bc tr sa sk sv mt ml kw rp rl zc zp sd mv gm lt w1 w2 dg t1 t2 am kk sg f bk bs bf a1 a2 r_1 hr_1) (OZ_ok g zc zp _ _) hO cf_X8_wouldTake im_X8_wouldTake se_X8_wouldTake ml_L_77 ⟨Nat.le_trans (Nat.le_of_ble_eq_true rfl) hRf, Nat.le_trans (Nat.le_of_ble_eq_true rfl) hRl⟩ hP hD hS hA [0, 1, 2, 3, 4, 5, 6] [] rfl (wr := []) rfl ⟨by decide, by decide⟩ (by decide) (ci := 8) (q0 := 0) rfl rfl rfl rfl hl.1 rfl (Nat.le_of_ble_eq_true rfl) dL_wouldTake_3 ⟨Nat.le_trans (Nat.le_of_ble_eq_true rfl) hRc, Nat.le_trans (Nat.le_of_ble_eq_true rfl) hRs⟩ (fun hk0 na_2 H locs hna_2 hP hD hS => ?_) (fun hk0 na9 q9 ce9 H locs hna9 hP hD hS hce hcv hcl => ?_)
  rotate_left 1
  · replace hyp := ite_f hk0 hyp
    have hP : va_P g.1 vwCl [(hg, .inr (8, [.ref st, .ref tr, .ref sa, .ref sk, .ref sv, .ref mt, .ref ml, .ref ad, .ref kw])), (st, .inr (7, [.ref b, .int sd, .int mv, .int gm, va_rf lt, .int w1, .int w2, .int dg, .int t1, .int t2, .int am])), (b, .inr (1, [.ref ca, .int kk, .int sg])), (ca, .inl (g.2.1, 49, .inl f)), (ad, .inr (0, [.ref be, .ref rp, .ref rl])), (be, .inr (1, [.ref bc, .int r_1.2.2.2.1, .int r_1.2.2.2.2])), (bc, .inl (g.2.1, 49, .inl r_1.2.2.1))] H := hP
    have hD : va_D A [(hg, .inr (8, [.ref st, .ref tr, .ref sa, .ref sk, .ref sv, .ref mt, .ref ml, .ref ad, .ref kw])), (st, .inr (7, [.ref b, .int sd, .int mv, .int gm, va_rf lt, .int w1, .int w2, .int dg, .int t1, .int t2, .int am])), (b, .inr (1, [.ref ca, .int kk, .int sg])), (ca, .inl (g.2.1, 49, .inl f)), (ad, .inr (0, [.ref be, .ref rp, .ref rl])), (be, .inr (1, [.ref bc, .int r_1.2.2.2.1, .int r_1.2.2.2.2])), (bc, .inl (g.2.1, 49, .inl r_1.2.2.1))] := hD
    by_cases h_3 : r_1.1 = 1
    · replace hyp := ite_t h_3 hyp
      rw [h_3] at hcl
      refine catK 0 ⟨0, 7, 8, 15⟩ 1 htab rfl hown (fun z hz => nomatch hz) (by decide) (by decide) hts hSR cl_L_15 cast_1 hce hcv hcl ?_
      refine lv_astore_n (lv' := [(3, .ref q9), (0, .ref hg), (1, .int a1), (2, .int a2)]) hx hb dL_wouldTake_8 rfl hl (by decide) rfl (fun ls hl => ?_)
      refine lv_ldc2 (v := (-9000000000000000001)) hx hb hown (hts _ ct_L_17) dL_wouldTake_9 ?_
      have hyp := some_e hyp
      subst hyp
      subst hQ
      exact xrJ (na := s.heap.size) hx hb hr hlocks (Nat.le_refl _) hP hD hS (Nat.le_of_ble_eq_true rfl) (Nat.le_of_ble_eq_true rfl) dL_wouldTake_12
    · replace hyp := ite_f h_3 hyp
      by_cases h_4 : r_1.1 = 3
      · replace hyp := ite_t h_4 hyp
        rw [h_4] at hcl
        refine catK 1 ⟨0, 7, 13, 23⟩ 3 htab rfl hown (List.forall_mem_cons.mpr ⟨⟨by decide, _, hts _ cl_L_15, hNC.2.1⟩, fun z hz => nomatch hz⟩) (by decide) (by decide) hts hSR cl_L_23 cast_3 hce hcv hcl ?_
        refine lv_astore_n (lv' := [(3, .ref q9), (0, .ref hg), (1, .int a1), (2, .int a2)]) hx hb dL_wouldTake_13 rfl hl (by decide) rfl (fun ls hl => ?_)
        refine lv_ldc2 (v := (-9000000000000000003)) hx hb hown (hts _ ct_L_25) dL_wouldTake_14 ?_
        have hyp := some_e hyp
        subst hyp
        subst hQ
        exact xrJ (na := s.heap.size) hx hb hr hlocks (Nat.le_refl _) hP hD hS (Nat.le_of_ble_eq_true rfl) (Nat.le_of_ble_eq_true rfl) dL_wouldTake_17
      · replace hyp := ite_f h_4 hyp
        cases hyp
  replace hyp := ite_t hk0 hyp
  have hP : va_P g.1 vwCl [(hg, .inr (8, [.ref st, .ref tr, .ref sa, .ref sk, .ref sv, .ref mt, .ref ml, .ref ad, .ref kw])), (st, .inr (7, [.ref b, .int sd, .int mv, .int gm, va_rf lt, .int w1, .int w2, .int dg, .int t1, .int t2, .int am])), (b, .inr (1, [.ref ca, .int kk, .int sg])), (ca, .inl (g.2.1, 49, .inl f)), (ad, .inr (0, [.ref be, .ref rp, .ref rl])), (be, .inr (1, [.ref bc, .int r_1.2.2.2.1, .int r_1.2.2.2.2])), (bc, .inl (g.2.1, 49, .inl r_1.2.2.1))] H := hP
  have hD : va_D A [(hg, .inr (8, [.ref st, .ref tr, .ref sa, .ref sk, .ref sv, .ref mt, .ref ml, .ref ad, .ref kw])), (st, .inr (7, [.ref b, .int sd, .int mv, .int gm, va_rf lt, .int w1, .int w2, .int dg, .int t1, .int t2, .int am])), (b, .inr (1, [.ref ca, .int kk, .int sg])), (ca, .inl (g.2.1, 49, .inl f)), (ad, .inr (0, [.ref be, .ref rp, .ref rl])), (be, .inr (1, [.ref bc, .int r_1.2.2.2.1, .int r_1.2.2.2.2])), (bc, .inl (g.2.1, 49, .inl r_1.2.2.1))] := hD
  refine lv_i2l hx hb dL_wouldTake_6 rfl ?_
  have hyp := some_e hyp
  subst hyp
  subst hQ
  exact xrJ (na := s.heap.size) hx hb hr hlocks (Nat.le_refl _) hP hD hS (Nat.le_of_ble_eq_true rfl) (Nat.le_of_ble_eq_true rfl) dL_wouldTake_7

def fL_wouldWin (kk : Int32) (sg : Int32) (f : Nat → Int32) (rk : Int32) (rs : Int32) (rf : Nat → Int32) (a1 : Int32) (a2 : Int32) : Option (Nat × Int64 × (Nat → Int32) × Int32 × Int32) :=
  (fX8_wouldWin kk sg f rk rs rf a1 a2).bind (fun (r_1 : Nat × Int32 × (Nat → Int32) × Int32 × Int32) => if r_1.1 = 0 then (if r_1.2.1 = 0 then (some (0, 0, r_1.2.2.1, r_1.2.2.2.1, r_1.2.2.2.2)) else (some (0, 1, r_1.2.2.1, r_1.2.2.2.1, r_1.2.2.2.2))) else (if r_1.1 = 1 then (some (1, (-9000000000000000001), r_1.2.2.1, r_1.2.2.2.1, r_1.2.2.2.2)) else (if r_1.1 = 3 then (some (3, (-9000000000000000003), r_1.2.2.1, r_1.2.2.2.1, r_1.2.2.2.2)) else (none))))
set_option maxRecDepth 100000 in
set_option maxHeartbeats 4000000 in
theorem mL_wouldWin (l : Launch) (hl0 : l.stackTraces = false) (g : GE) (hg st b ca ad rp rc tr sa sk sv mt ml kw be rl zc zp : Nat) (sd : Int32) (mv : Int32) (gm : Int32) (lt : Option Nat) (w1 : Int32) (w2 : Int32) (dg : Int32) (t1 : Int32) (t2 : Int32) (am : Int32) (kk : Int32) (sg : Int32) (f : Nat → Int32) (rk : Int32) (rs : Int32) (rf : Nat → Int32) (a1 : Int32) (a2 : Int32) (r : Nat × Int64 × (Nat → Int32) × Int32 × Int32) (hyp : fL_wouldWin kk sg f rk rs rf a1 a2 = some r) : LM l yL_wouldWin cL_wouldWin 4 [(0, 14, 15, 15), (0, 14, 20, 23)] 9 155 2 12 g [(hg, .inr (8, [.ref st, .ref tr, .ref sa, .ref sk, .ref sv, .ref mt, .ref ml, .ref ad, .ref kw])), (st, .inr (7, [.ref b, .int sd, .int mv, .int gm, va_rf lt, .int w1, .int w2, .int dg, .int t1, .int t2, .int am])), (b, .inr (1, [.ref ca, .int kk, .int sg])), (ca, .inl (g.2.1, 49, .inl f)), (ad, .inr (0, [.ref be, .ref rp, .ref rl])), (rp, .inr (1, [.ref rc, .int rk, .int rs])), (rc, .inl (g.2.1, 49, .inl rf))] (OZ g zc zp [] none) [.ref hg, .int a1, .int a2] (some (.long r.2.1)) (fun na => [(hg, .inr (8, [.ref st, .ref tr, .ref sa, .ref sk, .ref sv, .ref mt, .ref ml, .ref ad, .ref kw])), (st, .inr (7, [.ref b, .int sd, .int mv, .int gm, va_rf lt, .int w1, .int w2, .int dg, .int t1, .int t2, .int am])), (b, .inr (1, [.ref ca, .int kk, .int sg])), (ca, .inl (g.2.1, 49, .inl f)), (ad, .inr (0, [.ref be, .ref rp, .ref rl])), (rp, .inr (1, [.ref rc, .int r.2.2.2.1, .int r.2.2.2.2])), (rc, .inl (g.2.1, 49, .inl r.2.2.1))]) := by
  refine metL_intro (by decide) rfl ?_
  intro p e R s m args below meth c Q A hRf hRl hRc hRs hQ hx hb hml hr hlocks htab hown hts hin hE hSR hNC hA hO H locs hP hD hS ls hl
  have hown : s.vm.findClass "HallGuardsLaw" = some m.cls := hown
  have hl : lv_has ls 4 [(0, .ref hg), (1, .int a1), (2, .int a2)] := hl
  unfold fL_wouldWin at hyp
  refine lv_aload_n hx hb dL_wouldWin_0 rfl (lv_at hl 0 rfl) ?_
  refine lv_iload_n hx hb dL_wouldWin_1 rfl (lv_at hl 1 rfl) ?_
  refine lv_iload_n hx hb dL_wouldWin_2 rfl (lv_at hl 2 rfl) ?_
  obtain ⟨r_1, hr_1, hyp⟩ := opt_e hyp
  refine xV (As := [.int a1, .int a2]) (rest := []) ⟨hx, hb, hml, hown, hts⟩ hE hSR (mX8_wouldWin l hl0 g hg st b ca ad rp rc tr sa sk sv mt ml kw be rl zc zp sd mv gm lt w1 w2 dg t1 t2 am kk sg f rk rs rf a1 a2 r_1 hr_1) (OZ_ok g zc zp _ _) hO cf_X8_wouldWin im_X8_wouldWin se_X8_wouldWin ml_L_80 ⟨Nat.le_trans (Nat.le_of_ble_eq_true rfl) hRf, Nat.le_trans (Nat.le_of_ble_eq_true rfl) hRl⟩ hP hD hS hA [0, 1, 2, 3, 4, 5, 6] [] rfl (wr := []) rfl ⟨by decide, by decide⟩ (by decide) (ci := 8) (q0 := 0) rfl rfl rfl rfl hl.1 rfl (Nat.le_of_ble_eq_true rfl) dL_wouldWin_3 ⟨Nat.le_trans (Nat.le_of_ble_eq_true rfl) hRc, Nat.le_trans (Nat.le_of_ble_eq_true rfl) hRs⟩ (fun hk0 na_2 H locs hna_2 hP hD hS => ?_) (fun hk0 na9 q9 ce9 H locs hna9 hP hD hS hce hcv hcl => ?_)
  rotate_left 1
  · replace hyp := ite_f hk0 hyp
    have hP : va_P g.1 vwCl [(hg, .inr (8, [.ref st, .ref tr, .ref sa, .ref sk, .ref sv, .ref mt, .ref ml, .ref ad, .ref kw])), (st, .inr (7, [.ref b, .int sd, .int mv, .int gm, va_rf lt, .int w1, .int w2, .int dg, .int t1, .int t2, .int am])), (b, .inr (1, [.ref ca, .int kk, .int sg])), (ca, .inl (g.2.1, 49, .inl f)), (ad, .inr (0, [.ref be, .ref rp, .ref rl])), (rp, .inr (1, [.ref rc, .int r_1.2.2.2.1, .int r_1.2.2.2.2])), (rc, .inl (g.2.1, 49, .inl r_1.2.2.1))] H := hP
    have hD : va_D A [(hg, .inr (8, [.ref st, .ref tr, .ref sa, .ref sk, .ref sv, .ref mt, .ref ml, .ref ad, .ref kw])), (st, .inr (7, [.ref b, .int sd, .int mv, .int gm, va_rf lt, .int w1, .int w2, .int dg, .int t1, .int t2, .int am])), (b, .inr (1, [.ref ca, .int kk, .int sg])), (ca, .inl (g.2.1, 49, .inl f)), (ad, .inr (0, [.ref be, .ref rp, .ref rl])), (rp, .inr (1, [.ref rc, .int r_1.2.2.2.1, .int r_1.2.2.2.2])), (rc, .inl (g.2.1, 49, .inl r_1.2.2.1))] := hD
    by_cases h_3 : r_1.1 = 1
    · replace hyp := ite_t h_3 hyp
      rw [h_3] at hcl
      refine catK 0 ⟨0, 14, 15, 15⟩ 1 htab rfl hown (fun z hz => nomatch hz) (by decide) (by decide) hts hSR cl_L_15 cast_1 hce hcv hcl ?_
      refine lv_astore_n (lv' := [(3, .ref q9), (0, .ref hg), (1, .int a1), (2, .int a2)]) hx hb dL_wouldWin_15 rfl hl (by decide) rfl (fun ls hl => ?_)
      refine lv_ldc2 (v := (-9000000000000000001)) hx hb hown (hts _ ct_L_17) dL_wouldWin_16 ?_
      have hyp := some_e hyp
      subst hyp
      subst hQ
      exact xrJ (na := s.heap.size) hx hb hr hlocks (Nat.le_refl _) hP hD hS (Nat.le_of_ble_eq_true rfl) (Nat.le_of_ble_eq_true rfl) dL_wouldWin_19
    · replace hyp := ite_f h_3 hyp
      by_cases h_4 : r_1.1 = 3
      · replace hyp := ite_t h_4 hyp
        rw [h_4] at hcl
        refine catK 1 ⟨0, 14, 20, 23⟩ 3 htab rfl hown (List.forall_mem_cons.mpr ⟨⟨by decide, _, hts _ cl_L_15, hNC.2.1⟩, fun z hz => nomatch hz⟩) (by decide) (by decide) hts hSR cl_L_23 cast_3 hce hcv hcl ?_
        refine lv_astore_n (lv' := [(3, .ref q9), (0, .ref hg), (1, .int a1), (2, .int a2)]) hx hb dL_wouldWin_20 rfl hl (by decide) rfl (fun ls hl => ?_)
        refine lv_ldc2 (v := (-9000000000000000003)) hx hb hown (hts _ ct_L_25) dL_wouldWin_21 ?_
        have hyp := some_e hyp
        subst hyp
        subst hQ
        exact xrJ (na := s.heap.size) hx hb hr hlocks (Nat.le_refl _) hP hD hS (Nat.le_of_ble_eq_true rfl) (Nat.le_of_ble_eq_true rfl) dL_wouldWin_24
      · replace hyp := ite_f h_4 hyp
        cases hyp
  replace hyp := ite_t hk0 hyp
  have hP : va_P g.1 vwCl [(hg, .inr (8, [.ref st, .ref tr, .ref sa, .ref sk, .ref sv, .ref mt, .ref ml, .ref ad, .ref kw])), (st, .inr (7, [.ref b, .int sd, .int mv, .int gm, va_rf lt, .int w1, .int w2, .int dg, .int t1, .int t2, .int am])), (b, .inr (1, [.ref ca, .int kk, .int sg])), (ca, .inl (g.2.1, 49, .inl f)), (ad, .inr (0, [.ref be, .ref rp, .ref rl])), (rp, .inr (1, [.ref rc, .int r_1.2.2.2.1, .int r_1.2.2.2.2])), (rc, .inl (g.2.1, 49, .inl r_1.2.2.1))] H := hP
  have hD : va_D A [(hg, .inr (8, [.ref st, .ref tr, .ref sa, .ref sk, .ref sv, .ref mt, .ref ml, .ref ad, .ref kw])), (st, .inr (7, [.ref b, .int sd, .int mv, .int gm, va_rf lt, .int w1, .int w2, .int dg, .int t1, .int t2, .int am])), (b, .inr (1, [.ref ca, .int kk, .int sg])), (ca, .inl (g.2.1, 49, .inl f)), (ad, .inr (0, [.ref be, .ref rp, .ref rl])), (rp, .inr (1, [.ref rc, .int r_1.2.2.2.1, .int r_1.2.2.2.2])), (rc, .inl (g.2.1, 49, .inl r_1.2.2.1))] := hD
  refine lv_if_eq (tgt := 13) hx hb dL_wouldWin_6 (by decide) (fun h_5 => ?_) (fun h_5 => ?_)
  · replace hyp := ite_t h_5 hyp
    refine lv_lconst (v := 0) hx hb dL_wouldWin_13 (by decide) ?_
    have hyp := some_e hyp
    subst hyp
    subst hQ
    exact xrJ (na := s.heap.size) hx hb hr hlocks (Nat.le_refl _) hP hD hS (Nat.le_of_ble_eq_true rfl) (Nat.le_of_ble_eq_true rfl) dL_wouldWin_14
  · replace hyp := ite_f h_5 hyp
    refine lv_lconst (v := 1) hx hb dL_wouldWin_9 (by decide) ?_
    refine lv_goto (tgt := 14) hx hb dL_wouldWin_10 (by decide) ?_
    have hyp := some_e hyp
    subst hyp
    subst hQ
    exact xrJ (na := s.heap.size) hx hb hr hlocks (Nat.le_refl _) hP hD hS (Nat.le_of_ble_eq_true rfl) (Nat.le_of_ble_eq_true rfl) dL_wouldWin_14

def fL_winning (kk : Int32) (sg : Int32) (f : Nat → Int32) (rk : Int32) (rs : Int32) (rf : Nat → Int32) (rn : Int32) (rmf : Nat → Int32) (a1 : Int32) : Option (Nat × Int64 × (Nat → Int32) × Int32 × Int32 × (Nat → Int32) × Int32) :=
  (fX8_winningMoves kk sg f rk rs rf rn rmf a1).bind (fun (r_1 : Nat × Int32 × (Nat → Int32) × Int32 × Int32 × (Nat → Int32) × Int32) => if r_1.1 = 0 then (some (0, r_1.2.1.toInt64, r_1.2.2.1, r_1.2.2.2.1, r_1.2.2.2.2.1, r_1.2.2.2.2.2.1, r_1.2.2.2.2.2.2)) else (if r_1.1 = 1 then (some (1, (-9000000000000000001), r_1.2.2.1, r_1.2.2.2.1, r_1.2.2.2.2.1, r_1.2.2.2.2.2.1, r_1.2.2.2.2.2.2)) else (none)))
set_option maxRecDepth 100000 in
set_option maxHeartbeats 4000000 in
theorem mL_winning (l : Launch) (hl0 : l.stackTraces = false) (g : GE) (hg st b ca ad rp rc rl rm tr sa sk sv mt ml kw be zc zp : Nat) (sd : Int32) (mv : Int32) (gm : Int32) (lt : Option Nat) (w1 : Int32) (w2 : Int32) (dg : Int32) (t1 : Int32) (t2 : Int32) (am : Int32) (kk : Int32) (sg : Int32) (f : Nat → Int32) (rk : Int32) (rs : Int32) (rf : Nat → Int32) (rn : Int32) (rmf : Nat → Int32) (a1 : Int32) (r : Nat × Int64 × (Nat → Int32) × Int32 × Int32 × (Nat → Int32) × Int32) (hyp : fL_winning kk sg f rk rs rf rn rmf a1 = some r) : LM l yL_winning cL_winning 3 [(0, 6, 7, 15)] 8 166 1 6 g [(hg, .inr (8, [.ref st, .ref tr, .ref sa, .ref sk, .ref sv, .ref mt, .ref ml, .ref ad, .ref kw])), (st, .inr (7, [.ref b, .int sd, .int mv, .int gm, va_rf lt, .int w1, .int w2, .int dg, .int t1, .int t2, .int am])), (b, .inr (1, [.ref ca, .int kk, .int sg])), (ca, .inl (g.2.1, 49, .inl f)), (ad, .inr (0, [.ref be, .ref rp, .ref rl])), (rp, .inr (1, [.ref rc, .int rk, .int rs])), (rc, .inl (g.2.1, 49, .inl rf)), (rl, .inr (3, [.ref rm, .int rn])), (rm, .inl (g.2.1, 588, .inl rmf))] (OZ g zc zp [] none) [.ref hg, .int a1] (some (.long r.2.1)) (fun na => [(hg, .inr (8, [.ref st, .ref tr, .ref sa, .ref sk, .ref sv, .ref mt, .ref ml, .ref ad, .ref kw])), (st, .inr (7, [.ref b, .int sd, .int mv, .int gm, va_rf lt, .int w1, .int w2, .int dg, .int t1, .int t2, .int am])), (b, .inr (1, [.ref ca, .int kk, .int sg])), (ca, .inl (g.2.1, 49, .inl f)), (ad, .inr (0, [.ref be, .ref rp, .ref rl])), (rp, .inr (1, [.ref rc, .int r.2.2.2.1, .int r.2.2.2.2.1])), (rc, .inl (g.2.1, 49, .inl r.2.2.1)), (rl, .inr (3, [.ref rm, .int r.2.2.2.2.2.2])), (rm, .inl (g.2.1, 588, .inl r.2.2.2.2.2.1))]) := by
  refine metL_intro (by decide) rfl ?_
  intro p e R s m args below meth c Q A hRf hRl hRc hRs hQ hx hb hml hr hlocks htab hown hts hin hE hSR hNC hA hO H locs hP hD hS ls hl
  have hown : s.vm.findClass "HallGuardsLaw" = some m.cls := hown
  have hl : lv_has ls 3 [(0, .ref hg), (1, .int a1)] := hl
  unfold fL_winning at hyp
  refine lv_aload_n hx hb dL_winning_0 rfl (lv_at hl 0 rfl) ?_
  refine lv_iload_n hx hb dL_winning_1 rfl (lv_at hl 1 rfl) ?_
  obtain ⟨r_1, hr_1, hyp⟩ := opt_e hyp
  refine xV (As := [.int a1]) (rest := []) ⟨hx, hb, hml, hown, hts⟩ hE hSR (mX8_winningMoves l hl0 g hg st b ca ad rp rc rl rm tr sa sk sv mt ml kw be zc zp sd mv gm lt w1 w2 dg t1 t2 am kk sg f rk rs rf rn rmf a1 r_1 hr_1) (OZ_ok g zc zp _ _) hO cf_X8_winningMoves im_X8_winningMoves se_X8_winningMoves ml_L_83 ⟨Nat.le_trans (Nat.le_of_ble_eq_true rfl) hRf, Nat.le_trans (Nat.le_of_ble_eq_true rfl) hRl⟩ hP hD hS hA [0, 1, 2, 3, 4, 5, 6, 7, 8] [] rfl (wr := []) rfl ⟨by decide, by decide⟩ (by decide) (ci := 8) (q0 := 0) rfl rfl rfl rfl hl.1 rfl (Nat.le_of_ble_eq_true rfl) dL_winning_2 ⟨Nat.le_trans (Nat.le_of_ble_eq_true rfl) hRc, Nat.le_trans (Nat.le_of_ble_eq_true rfl) hRs⟩ (fun hk0 na_2 H locs hna_2 hP hD hS => ?_) (fun hk0 na9 q9 ce9 H locs hna9 hP hD hS hce hcv hcl => ?_)
  rotate_left 1
  · replace hyp := ite_f hk0 hyp
    have hP : va_P g.1 vwCl [(hg, .inr (8, [.ref st, .ref tr, .ref sa, .ref sk, .ref sv, .ref mt, .ref ml, .ref ad, .ref kw])), (st, .inr (7, [.ref b, .int sd, .int mv, .int gm, va_rf lt, .int w1, .int w2, .int dg, .int t1, .int t2, .int am])), (b, .inr (1, [.ref ca, .int kk, .int sg])), (ca, .inl (g.2.1, 49, .inl f)), (ad, .inr (0, [.ref be, .ref rp, .ref rl])), (rp, .inr (1, [.ref rc, .int r_1.2.2.2.1, .int r_1.2.2.2.2.1])), (rc, .inl (g.2.1, 49, .inl r_1.2.2.1)), (rl, .inr (3, [.ref rm, .int r_1.2.2.2.2.2.2])), (rm, .inl (g.2.1, 588, .inl r_1.2.2.2.2.2.1))] H := hP
    have hD : va_D A [(hg, .inr (8, [.ref st, .ref tr, .ref sa, .ref sk, .ref sv, .ref mt, .ref ml, .ref ad, .ref kw])), (st, .inr (7, [.ref b, .int sd, .int mv, .int gm, va_rf lt, .int w1, .int w2, .int dg, .int t1, .int t2, .int am])), (b, .inr (1, [.ref ca, .int kk, .int sg])), (ca, .inl (g.2.1, 49, .inl f)), (ad, .inr (0, [.ref be, .ref rp, .ref rl])), (rp, .inr (1, [.ref rc, .int r_1.2.2.2.1, .int r_1.2.2.2.2.1])), (rc, .inl (g.2.1, 49, .inl r_1.2.2.1)), (rl, .inr (3, [.ref rm, .int r_1.2.2.2.2.2.2])), (rm, .inl (g.2.1, 588, .inl r_1.2.2.2.2.2.1))] := hD
    by_cases h_3 : r_1.1 = 1
    · replace hyp := ite_t h_3 hyp
      rw [h_3] at hcl
      refine catK 0 ⟨0, 6, 7, 15⟩ 1 htab rfl hown (fun z hz => nomatch hz) (by decide) (by decide) hts hSR cl_L_15 cast_1 hce hcv hcl ?_
      refine lv_astore_n (lv' := [(2, .ref q9), (0, .ref hg), (1, .int a1)]) hx hb dL_winning_7 rfl hl (by decide) rfl (fun ls hl => ?_)
      refine lv_ldc2 (v := (-9000000000000000001)) hx hb hown (hts _ ct_L_17) dL_winning_8 ?_
      have hyp := some_e hyp
      subst hyp
      subst hQ
      exact xrJ (na := s.heap.size) hx hb hr hlocks (Nat.le_refl _) hP hD hS (Nat.le_of_ble_eq_true rfl) (Nat.le_of_ble_eq_true rfl) dL_winning_11
    · replace hyp := ite_f h_3 hyp
      cases hyp
  replace hyp := ite_t hk0 hyp
  have hP : va_P g.1 vwCl [(hg, .inr (8, [.ref st, .ref tr, .ref sa, .ref sk, .ref sv, .ref mt, .ref ml, .ref ad, .ref kw])), (st, .inr (7, [.ref b, .int sd, .int mv, .int gm, va_rf lt, .int w1, .int w2, .int dg, .int t1, .int t2, .int am])), (b, .inr (1, [.ref ca, .int kk, .int sg])), (ca, .inl (g.2.1, 49, .inl f)), (ad, .inr (0, [.ref be, .ref rp, .ref rl])), (rp, .inr (1, [.ref rc, .int r_1.2.2.2.1, .int r_1.2.2.2.2.1])), (rc, .inl (g.2.1, 49, .inl r_1.2.2.1)), (rl, .inr (3, [.ref rm, .int r_1.2.2.2.2.2.2])), (rm, .inl (g.2.1, 588, .inl r_1.2.2.2.2.2.1))] H := hP
  have hD : va_D A [(hg, .inr (8, [.ref st, .ref tr, .ref sa, .ref sk, .ref sv, .ref mt, .ref ml, .ref ad, .ref kw])), (st, .inr (7, [.ref b, .int sd, .int mv, .int gm, va_rf lt, .int w1, .int w2, .int dg, .int t1, .int t2, .int am])), (b, .inr (1, [.ref ca, .int kk, .int sg])), (ca, .inl (g.2.1, 49, .inl f)), (ad, .inr (0, [.ref be, .ref rp, .ref rl])), (rp, .inr (1, [.ref rc, .int r_1.2.2.2.1, .int r_1.2.2.2.2.1])), (rc, .inl (g.2.1, 49, .inl r_1.2.2.1)), (rl, .inr (3, [.ref rm, .int r_1.2.2.2.2.2.2])), (rm, .inl (g.2.1, 588, .inl r_1.2.2.2.2.2.1))] := hD
  refine lv_i2l hx hb dL_winning_5 rfl ?_
  have hyp := some_e hyp
  subst hyp
  subst hQ
  exact xrJ (na := s.heap.size) hx hb hr hlocks (Nat.le_refl _) hP hD hS (Nat.le_of_ble_eq_true rfl) (Nat.le_of_ble_eq_true rfl) dL_winning_6

def fL_moveAt (f : Nat → Int32) (cnt : Int32) (mf : Nat → Int32) (a1 : Int32) (a2 : Int32) : Option (Nat × Int64 × (Nat → Int32) × Int32) :=
  (fX8_moveAt f cnt mf a1 a2).bind (fun (r_1 : Nat × Int32 × (Nat → Int32) × Int32) => if r_1.1 = 0 then (some (0, r_1.2.1.toInt64, r_1.2.2.1, r_1.2.2.2)) else (if r_1.1 = 1 then (some (1, (-9000000000000000001), r_1.2.2.1, r_1.2.2.2)) else (none)))
set_option maxRecDepth 100000 in
set_option maxHeartbeats 4000000 in
theorem mL_moveAt (l : Launch) (hl0 : l.stackTraces = false) (g : GE) (hg st b ca ml mc tr sa sk sv mt ad kw zc zp : Nat) (sd : Int32) (mv : Int32) (gm : Int32) (lt : Option Nat) (w1 : Int32) (w2 : Int32) (dg : Int32) (t1 : Int32) (t2 : Int32) (am : Int32) (kk : Int32) (sg : Int32) (f : Nat → Int32) (cnt : Int32) (mf : Nat → Int32) (a1 : Int32) (a2 : Int32) (r : Nat × Int64 × (Nat → Int32) × Int32) (hyp : fL_moveAt f cnt mf a1 a2 = some r) : LM l yL_moveAt cL_moveAt 4 [(0, 7, 8, 15)] 8 132 2 12 g [(hg, .inr (8, [.ref st, .ref tr, .ref sa, .ref sk, .ref sv, .ref mt, .ref ml, .ref ad, .ref kw])), (st, .inr (7, [.ref b, .int sd, .int mv, .int gm, va_rf lt, .int w1, .int w2, .int dg, .int t1, .int t2, .int am])), (b, .inr (1, [.ref ca, .int kk, .int sg])), (ca, .inl (g.2.1, 49, .inl f)), (ml, .inr (3, [.ref mc, .int cnt])), (mc, .inl (g.2.1, 588, .inl mf))] (OZ g zc zp [] none) [.ref hg, .int a1, .int a2] (some (.long r.2.1)) (fun na => [(hg, .inr (8, [.ref st, .ref tr, .ref sa, .ref sk, .ref sv, .ref mt, .ref ml, .ref ad, .ref kw])), (st, .inr (7, [.ref b, .int sd, .int mv, .int gm, va_rf lt, .int w1, .int w2, .int dg, .int t1, .int t2, .int am])), (b, .inr (1, [.ref ca, .int kk, .int sg])), (ca, .inl (g.2.1, 49, .inl f)), (ml, .inr (3, [.ref mc, .int r.2.2.2])), (mc, .inl (g.2.1, 588, .inl r.2.2.1))]) := by
  refine metL_intro (by decide) rfl ?_
  intro p e R s m args below meth c Q A hRf hRl hRc hRs hQ hx hb hml hr hlocks htab hown hts hin hE hSR hNC hA hO H locs hP hD hS ls hl
  have hown : s.vm.findClass "HallGuardsLaw" = some m.cls := hown
  have hl : lv_has ls 4 [(0, .ref hg), (1, .int a1), (2, .int a2)] := hl
  unfold fL_moveAt at hyp
  refine lv_aload_n hx hb dL_moveAt_0 rfl (lv_at hl 0 rfl) ?_
  refine lv_iload_n hx hb dL_moveAt_1 rfl (lv_at hl 1 rfl) ?_
  refine lv_iload_n hx hb dL_moveAt_2 rfl (lv_at hl 2 rfl) ?_
  obtain ⟨r_1, hr_1, hyp⟩ := opt_e hyp
  refine xV (As := [.int a1, .int a2]) (rest := []) ⟨hx, hb, hml, hown, hts⟩ hE hSR (mX8_moveAt l hl0 g hg st b ca ml mc tr sa sk sv mt ad kw zc zp sd mv gm lt w1 w2 dg t1 t2 am kk sg f cnt mf a1 a2 r_1 hr_1) (OZ_ok g zc zp _ _) hO cf_X8_moveAt im_X8_moveAt se_X8_moveAt ml_L_86 ⟨Nat.le_trans (Nat.le_of_ble_eq_true rfl) hRf, Nat.le_trans (Nat.le_of_ble_eq_true rfl) hRl⟩ hP hD hS hA [0, 1, 2, 3, 4, 5] [] rfl (wr := []) rfl ⟨by decide, by decide⟩ (by decide) (ci := 8) (q0 := 0) rfl rfl rfl rfl hl.1 rfl (Nat.le_of_ble_eq_true rfl) dL_moveAt_3 ⟨Nat.le_trans (Nat.le_of_ble_eq_true rfl) hRc, Nat.le_trans (Nat.le_of_ble_eq_true rfl) hRs⟩ (fun hk0 na_2 H locs hna_2 hP hD hS => ?_) (fun hk0 na9 q9 ce9 H locs hna9 hP hD hS hce hcv hcl => ?_)
  rotate_left 1
  · replace hyp := ite_f hk0 hyp
    have hP : va_P g.1 vwCl [(hg, .inr (8, [.ref st, .ref tr, .ref sa, .ref sk, .ref sv, .ref mt, .ref ml, .ref ad, .ref kw])), (st, .inr (7, [.ref b, .int sd, .int mv, .int gm, va_rf lt, .int w1, .int w2, .int dg, .int t1, .int t2, .int am])), (b, .inr (1, [.ref ca, .int kk, .int sg])), (ca, .inl (g.2.1, 49, .inl f)), (ml, .inr (3, [.ref mc, .int r_1.2.2.2])), (mc, .inl (g.2.1, 588, .inl r_1.2.2.1))] H := hP
    have hD : va_D A [(hg, .inr (8, [.ref st, .ref tr, .ref sa, .ref sk, .ref sv, .ref mt, .ref ml, .ref ad, .ref kw])), (st, .inr (7, [.ref b, .int sd, .int mv, .int gm, va_rf lt, .int w1, .int w2, .int dg, .int t1, .int t2, .int am])), (b, .inr (1, [.ref ca, .int kk, .int sg])), (ca, .inl (g.2.1, 49, .inl f)), (ml, .inr (3, [.ref mc, .int r_1.2.2.2])), (mc, .inl (g.2.1, 588, .inl r_1.2.2.1))] := hD
    by_cases h_3 : r_1.1 = 1
    · replace hyp := ite_t h_3 hyp
      rw [h_3] at hcl
      refine catK 0 ⟨0, 7, 8, 15⟩ 1 htab rfl hown (fun z hz => nomatch hz) (by decide) (by decide) hts hSR cl_L_15 cast_1 hce hcv hcl ?_
      refine lv_astore_n (lv' := [(3, .ref q9), (0, .ref hg), (1, .int a1), (2, .int a2)]) hx hb dL_moveAt_8 rfl hl (by decide) rfl (fun ls hl => ?_)
      refine lv_ldc2 (v := (-9000000000000000001)) hx hb hown (hts _ ct_L_17) dL_moveAt_9 ?_
      have hyp := some_e hyp
      subst hyp
      subst hQ
      exact xrJ (na := s.heap.size) hx hb hr hlocks (Nat.le_refl _) hP hD hS (Nat.le_of_ble_eq_true rfl) (Nat.le_of_ble_eq_true rfl) dL_moveAt_12
    · replace hyp := ite_f h_3 hyp
      cases hyp
  replace hyp := ite_t hk0 hyp
  have hP : va_P g.1 vwCl [(hg, .inr (8, [.ref st, .ref tr, .ref sa, .ref sk, .ref sv, .ref mt, .ref ml, .ref ad, .ref kw])), (st, .inr (7, [.ref b, .int sd, .int mv, .int gm, va_rf lt, .int w1, .int w2, .int dg, .int t1, .int t2, .int am])), (b, .inr (1, [.ref ca, .int kk, .int sg])), (ca, .inl (g.2.1, 49, .inl f)), (ml, .inr (3, [.ref mc, .int r_1.2.2.2])), (mc, .inl (g.2.1, 588, .inl r_1.2.2.1))] H := hP
  have hD : va_D A [(hg, .inr (8, [.ref st, .ref tr, .ref sa, .ref sk, .ref sv, .ref mt, .ref ml, .ref ad, .ref kw])), (st, .inr (7, [.ref b, .int sd, .int mv, .int gm, va_rf lt, .int w1, .int w2, .int dg, .int t1, .int t2, .int am])), (b, .inr (1, [.ref ca, .int kk, .int sg])), (ca, .inl (g.2.1, 49, .inl f)), (ml, .inr (3, [.ref mc, .int r_1.2.2.2])), (mc, .inl (g.2.1, 588, .inl r_1.2.2.1))] := hD
  refine lv_i2l hx hb dL_moveAt_6 rfl ?_
  have hyp := some_e hyp
  subst hyp
  subst hQ
  exact xrJ (na := s.heap.size) hx hb hr hlocks (Nat.le_refl _) hP hD hS (Nat.le_of_ble_eq_true rfl) (Nat.le_of_ble_eq_true rfl) dL_moveAt_7

def fL_byRounds (kk : Int32) (f : Nat → Int32) (krf : Nat → Int32) (kqf : Nat → Int32) : Option (Nat × Int64 × (Nat → Int32) × (Nat → Int32) × Int32) :=
  (fX8_kingMovesByRounds kk f krf kqf).bind (fun (r_1 : Nat × Int32 × (Nat → Int32) × (Nat → Int32) × Int32) => if r_1.1 = 0 then (some (0, r_1.2.1.toInt64, r_1.2.2.1, r_1.2.2.2.1, r_1.2.2.2.2)) else (if r_1.1 = 3 then (some (3, (-9000000000000000003), r_1.2.2.1, r_1.2.2.2.1, r_1.2.2.2.2)) else (none)))
set_option maxRecDepth 100000 in
set_option maxHeartbeats 4000000 in
theorem mL_byRounds (l : Launch) (hl0 : l.stackTraces = false) (g : GE) (hg st b ca kw kr kq tr sa sk sv mt ml ad zc zp : Nat) (sd : Int32) (mv : Int32) (gm : Int32) (lt : Option Nat) (w1 : Int32) (w2 : Int32) (dg : Int32) (t1 : Int32) (t2 : Int32) (am : Int32) (kk : Int32) (sg : Int32) (f : Nat → Int32) (kc : Int32) (krf : Nat → Int32) (kqf : Nat → Int32) (r : Nat × Int64 × (Nat → Int32) × (Nat → Int32) × Int32) (hyp : fL_byRounds kk f krf kqf = some r) : LM l yL_byRounds cL_byRounds 2 [(0, 5, 6, 23)] 7 139 1 6 g [(hg, .inr (8, [.ref st, .ref tr, .ref sa, .ref sk, .ref sv, .ref mt, .ref ml, .ref ad, .ref kw])), (st, .inr (7, [.ref b, .int sd, .int mv, .int gm, va_rf lt, .int w1, .int w2, .int dg, .int t1, .int t2, .int am])), (b, .inr (1, [.ref ca, .int kk, .int sg])), (ca, .inl (g.2.1, 49, .inl f)), (kw, .inr (2, [.ref kr, .ref kq, .int kc])), (kr, .inl (g.2.1, 49, .inl krf)), (kq, .inl (g.2.1, 49, .inl kqf))] (OZ g zc zp [] none) [.ref hg] (some (.long r.2.1)) (fun na => [(hg, .inr (8, [.ref st, .ref tr, .ref sa, .ref sk, .ref sv, .ref mt, .ref ml, .ref ad, .ref kw])), (st, .inr (7, [.ref b, .int sd, .int mv, .int gm, va_rf lt, .int w1, .int w2, .int dg, .int t1, .int t2, .int am])), (b, .inr (1, [.ref ca, .int kk, .int sg])), (ca, .inl (g.2.1, 49, .inl f)), (kw, .inr (2, [.ref kr, .ref kq, .int r.2.2.2.2])), (kr, .inl (g.2.1, 49, .inl r.2.2.1)), (kq, .inl (g.2.1, 49, .inl r.2.2.2.1))]) := by
  refine metL_intro (by decide) rfl ?_
  intro p e R s m args below meth c Q A hRf hRl hRc hRs hQ hx hb hml hr hlocks htab hown hts hin hE hSR hNC hA hO H locs hP hD hS ls hl
  have hown : s.vm.findClass "HallGuardsLaw" = some m.cls := hown
  have hl : lv_has ls 2 [(0, .ref hg)] := hl
  unfold fL_byRounds at hyp
  refine lv_aload_n hx hb dL_byRounds_0 rfl (lv_at hl 0 rfl) ?_
  obtain ⟨r_1, hr_1, hyp⟩ := opt_e hyp
  refine xV (As := []) (rest := []) ⟨hx, hb, hml, hown, hts⟩ hE hSR (mX8_kingMovesByRounds l hl0 g hg st b ca kw kr kq tr sa sk sv mt ml ad zc zp sd mv gm lt w1 w2 dg t1 t2 am kk sg f kc krf kqf r_1 hr_1) (OZ_ok g zc zp _ _) hO cf_X8_kingMovesByRounds im_X8_kingMovesByRounds se_X8_kingMovesByRounds ml_L_89 ⟨Nat.le_trans (Nat.le_of_ble_eq_true rfl) hRf, Nat.le_trans (Nat.le_of_ble_eq_true rfl) hRl⟩ hP hD hS hA [0, 1, 2, 3, 4, 5, 6] [] rfl (wr := []) rfl ⟨by decide, by decide⟩ (by decide) (ci := 8) (q0 := 0) rfl rfl rfl rfl hl.1 rfl (Nat.le_of_ble_eq_true rfl) dL_byRounds_1 ⟨Nat.le_trans (Nat.le_of_ble_eq_true rfl) hRc, Nat.le_trans (Nat.le_of_ble_eq_true rfl) hRs⟩ (fun hk0 na_2 H locs hna_2 hP hD hS => ?_) (fun hk0 na9 q9 ce9 H locs hna9 hP hD hS hce hcv hcl => ?_)
  rotate_left 1
  · replace hyp := ite_f hk0 hyp
    have hP : va_P g.1 vwCl [(hg, .inr (8, [.ref st, .ref tr, .ref sa, .ref sk, .ref sv, .ref mt, .ref ml, .ref ad, .ref kw])), (st, .inr (7, [.ref b, .int sd, .int mv, .int gm, va_rf lt, .int w1, .int w2, .int dg, .int t1, .int t2, .int am])), (b, .inr (1, [.ref ca, .int kk, .int sg])), (ca, .inl (g.2.1, 49, .inl f)), (kw, .inr (2, [.ref kr, .ref kq, .int r_1.2.2.2.2])), (kr, .inl (g.2.1, 49, .inl r_1.2.2.1)), (kq, .inl (g.2.1, 49, .inl r_1.2.2.2.1))] H := hP
    have hD : va_D A [(hg, .inr (8, [.ref st, .ref tr, .ref sa, .ref sk, .ref sv, .ref mt, .ref ml, .ref ad, .ref kw])), (st, .inr (7, [.ref b, .int sd, .int mv, .int gm, va_rf lt, .int w1, .int w2, .int dg, .int t1, .int t2, .int am])), (b, .inr (1, [.ref ca, .int kk, .int sg])), (ca, .inl (g.2.1, 49, .inl f)), (kw, .inr (2, [.ref kr, .ref kq, .int r_1.2.2.2.2])), (kr, .inl (g.2.1, 49, .inl r_1.2.2.1)), (kq, .inl (g.2.1, 49, .inl r_1.2.2.2.1))] := hD
    by_cases h_3 : r_1.1 = 3
    · replace hyp := ite_t h_3 hyp
      rw [h_3] at hcl
      refine catK 0 ⟨0, 5, 6, 23⟩ 3 htab rfl hown (fun z hz => nomatch hz) (by decide) (by decide) hts hSR cl_L_23 cast_3 hce hcv hcl ?_
      refine lv_astore_n (lv' := [(1, .ref q9), (0, .ref hg)]) hx hb dL_byRounds_6 rfl hl (by decide) rfl (fun ls hl => ?_)
      refine lv_ldc2 (v := (-9000000000000000003)) hx hb hown (hts _ ct_L_25) dL_byRounds_7 ?_
      have hyp := some_e hyp
      subst hyp
      subst hQ
      exact xrJ (na := s.heap.size) hx hb hr hlocks (Nat.le_refl _) hP hD hS (Nat.le_of_ble_eq_true rfl) (Nat.le_of_ble_eq_true rfl) dL_byRounds_10
    · replace hyp := ite_f h_3 hyp
      cases hyp
  replace hyp := ite_t hk0 hyp
  have hP : va_P g.1 vwCl [(hg, .inr (8, [.ref st, .ref tr, .ref sa, .ref sk, .ref sv, .ref mt, .ref ml, .ref ad, .ref kw])), (st, .inr (7, [.ref b, .int sd, .int mv, .int gm, va_rf lt, .int w1, .int w2, .int dg, .int t1, .int t2, .int am])), (b, .inr (1, [.ref ca, .int kk, .int sg])), (ca, .inl (g.2.1, 49, .inl f)), (kw, .inr (2, [.ref kr, .ref kq, .int r_1.2.2.2.2])), (kr, .inl (g.2.1, 49, .inl r_1.2.2.1)), (kq, .inl (g.2.1, 49, .inl r_1.2.2.2.1))] H := hP
  have hD : va_D A [(hg, .inr (8, [.ref st, .ref tr, .ref sa, .ref sk, .ref sv, .ref mt, .ref ml, .ref ad, .ref kw])), (st, .inr (7, [.ref b, .int sd, .int mv, .int gm, va_rf lt, .int w1, .int w2, .int dg, .int t1, .int t2, .int am])), (b, .inr (1, [.ref ca, .int kk, .int sg])), (ca, .inl (g.2.1, 49, .inl f)), (kw, .inr (2, [.ref kr, .ref kq, .int r_1.2.2.2.2])), (kr, .inl (g.2.1, 49, .inl r_1.2.2.1)), (kq, .inl (g.2.1, 49, .inl r_1.2.2.2.1))] := hD
  refine lv_i2l hx hb dL_byRounds_4 rfl ?_
  have hyp := some_e hyp
  subst hyp
  subst hQ
  exact xrJ (na := s.heap.size) hx hb hr hlocks (Nat.le_refl _) hP hD hS (Nat.le_of_ble_eq_true rfl) (Nat.le_of_ble_eq_true rfl) dL_byRounds_5

def fL_byCorners (kk : Int32) (f : Nat → Int32) (kc : Int32) (krf : Nat → Int32) (kqf : Nat → Int32) : Option (Nat × Int64 × (Nat → Int32) × (Nat → Int32) × Int32) :=
  (fX8_kingMovesByCorners kk f kc krf kqf).bind (fun (r_1 : Nat × Int32 × (Nat → Int32) × (Nat → Int32) × Int32) => if r_1.1 = 0 then (some (0, r_1.2.1.toInt64, r_1.2.2.1, r_1.2.2.2.1, r_1.2.2.2.2)) else (if r_1.1 = 3 then (some (3, (-9000000000000000003), r_1.2.2.1, r_1.2.2.2.1, r_1.2.2.2.2)) else (none)))
set_option maxRecDepth 100000 in
set_option maxHeartbeats 4000000 in
theorem mL_byCorners (l : Launch) (hl0 : l.stackTraces = false) (g : GE) (hg st b ca kw kr kq tr sa sk sv mt ml ad zc zp : Nat) (sd : Int32) (mv : Int32) (gm : Int32) (lt : Option Nat) (w1 : Int32) (w2 : Int32) (dg : Int32) (t1 : Int32) (t2 : Int32) (am : Int32) (kk : Int32) (sg : Int32) (f : Nat → Int32) (kc : Int32) (krf : Nat → Int32) (kqf : Nat → Int32) (r : Nat × Int64 × (Nat → Int32) × (Nat → Int32) × Int32) (hyp : fL_byCorners kk f kc krf kqf = some r) : LM l yL_byCorners cL_byCorners 2 [(0, 5, 6, 23)] 7 139 1 6 g [(hg, .inr (8, [.ref st, .ref tr, .ref sa, .ref sk, .ref sv, .ref mt, .ref ml, .ref ad, .ref kw])), (st, .inr (7, [.ref b, .int sd, .int mv, .int gm, va_rf lt, .int w1, .int w2, .int dg, .int t1, .int t2, .int am])), (b, .inr (1, [.ref ca, .int kk, .int sg])), (ca, .inl (g.2.1, 49, .inl f)), (kw, .inr (2, [.ref kr, .ref kq, .int kc])), (kr, .inl (g.2.1, 49, .inl krf)), (kq, .inl (g.2.1, 49, .inl kqf))] (OZ g zc zp [] none) [.ref hg] (some (.long r.2.1)) (fun na => [(hg, .inr (8, [.ref st, .ref tr, .ref sa, .ref sk, .ref sv, .ref mt, .ref ml, .ref ad, .ref kw])), (st, .inr (7, [.ref b, .int sd, .int mv, .int gm, va_rf lt, .int w1, .int w2, .int dg, .int t1, .int t2, .int am])), (b, .inr (1, [.ref ca, .int kk, .int sg])), (ca, .inl (g.2.1, 49, .inl f)), (kw, .inr (2, [.ref kr, .ref kq, .int r.2.2.2.2])), (kr, .inl (g.2.1, 49, .inl r.2.2.1)), (kq, .inl (g.2.1, 49, .inl r.2.2.2.1))]) := by
  refine metL_intro (by decide) rfl ?_
  intro p e R s m args below meth c Q A hRf hRl hRc hRs hQ hx hb hml hr hlocks htab hown hts hin hE hSR hNC hA hO H locs hP hD hS ls hl
  have hown : s.vm.findClass "HallGuardsLaw" = some m.cls := hown
  have hl : lv_has ls 2 [(0, .ref hg)] := hl
  unfold fL_byCorners at hyp
  refine lv_aload_n hx hb dL_byCorners_0 rfl (lv_at hl 0 rfl) ?_
  obtain ⟨r_1, hr_1, hyp⟩ := opt_e hyp
  refine xV (As := []) (rest := []) ⟨hx, hb, hml, hown, hts⟩ hE hSR (mX8_kingMovesByCorners l hl0 g hg st b ca kw kr kq tr sa sk sv mt ml ad zc zp sd mv gm lt w1 w2 dg t1 t2 am kk sg f kc krf kqf r_1 hr_1) (OZ_ok g zc zp _ _) hO cf_X8_kingMovesByCorners im_X8_kingMovesByCorners se_X8_kingMovesByCorners ml_L_92 ⟨Nat.le_trans (Nat.le_of_ble_eq_true rfl) hRf, Nat.le_trans (Nat.le_of_ble_eq_true rfl) hRl⟩ hP hD hS hA [0, 1, 2, 3, 4, 5, 6] [] rfl (wr := []) rfl ⟨by decide, by decide⟩ (by decide) (ci := 8) (q0 := 0) rfl rfl rfl rfl hl.1 rfl (Nat.le_of_ble_eq_true rfl) dL_byCorners_1 ⟨Nat.le_trans (Nat.le_of_ble_eq_true rfl) hRc, Nat.le_trans (Nat.le_of_ble_eq_true rfl) hRs⟩ (fun hk0 na_2 H locs hna_2 hP hD hS => ?_) (fun hk0 na9 q9 ce9 H locs hna9 hP hD hS hce hcv hcl => ?_)
  rotate_left 1
  · replace hyp := ite_f hk0 hyp
    have hP : va_P g.1 vwCl [(hg, .inr (8, [.ref st, .ref tr, .ref sa, .ref sk, .ref sv, .ref mt, .ref ml, .ref ad, .ref kw])), (st, .inr (7, [.ref b, .int sd, .int mv, .int gm, va_rf lt, .int w1, .int w2, .int dg, .int t1, .int t2, .int am])), (b, .inr (1, [.ref ca, .int kk, .int sg])), (ca, .inl (g.2.1, 49, .inl f)), (kw, .inr (2, [.ref kr, .ref kq, .int r_1.2.2.2.2])), (kr, .inl (g.2.1, 49, .inl r_1.2.2.1)), (kq, .inl (g.2.1, 49, .inl r_1.2.2.2.1))] H := hP
    have hD : va_D A [(hg, .inr (8, [.ref st, .ref tr, .ref sa, .ref sk, .ref sv, .ref mt, .ref ml, .ref ad, .ref kw])), (st, .inr (7, [.ref b, .int sd, .int mv, .int gm, va_rf lt, .int w1, .int w2, .int dg, .int t1, .int t2, .int am])), (b, .inr (1, [.ref ca, .int kk, .int sg])), (ca, .inl (g.2.1, 49, .inl f)), (kw, .inr (2, [.ref kr, .ref kq, .int r_1.2.2.2.2])), (kr, .inl (g.2.1, 49, .inl r_1.2.2.1)), (kq, .inl (g.2.1, 49, .inl r_1.2.2.2.1))] := hD
    by_cases h_3 : r_1.1 = 3
    · replace hyp := ite_t h_3 hyp
      rw [h_3] at hcl
      refine catK 0 ⟨0, 5, 6, 23⟩ 3 htab rfl hown (fun z hz => nomatch hz) (by decide) (by decide) hts hSR cl_L_23 cast_3 hce hcv hcl ?_
      refine lv_astore_n (lv' := [(1, .ref q9), (0, .ref hg)]) hx hb dL_byCorners_6 rfl hl (by decide) rfl (fun ls hl => ?_)
      refine lv_ldc2 (v := (-9000000000000000003)) hx hb hown (hts _ ct_L_25) dL_byCorners_7 ?_
      have hyp := some_e hyp
      subst hyp
      subst hQ
      exact xrJ (na := s.heap.size) hx hb hr hlocks (Nat.le_refl _) hP hD hS (Nat.le_of_ble_eq_true rfl) (Nat.le_of_ble_eq_true rfl) dL_byCorners_10
    · replace hyp := ite_f h_3 hyp
      cases hyp
  replace hyp := ite_t hk0 hyp
  have hP : va_P g.1 vwCl [(hg, .inr (8, [.ref st, .ref tr, .ref sa, .ref sk, .ref sv, .ref mt, .ref ml, .ref ad, .ref kw])), (st, .inr (7, [.ref b, .int sd, .int mv, .int gm, va_rf lt, .int w1, .int w2, .int dg, .int t1, .int t2, .int am])), (b, .inr (1, [.ref ca, .int kk, .int sg])), (ca, .inl (g.2.1, 49, .inl f)), (kw, .inr (2, [.ref kr, .ref kq, .int r_1.2.2.2.2])), (kr, .inl (g.2.1, 49, .inl r_1.2.2.1)), (kq, .inl (g.2.1, 49, .inl r_1.2.2.2.1))] H := hP
  have hD : va_D A [(hg, .inr (8, [.ref st, .ref tr, .ref sa, .ref sk, .ref sv, .ref mt, .ref ml, .ref ad, .ref kw])), (st, .inr (7, [.ref b, .int sd, .int mv, .int gm, va_rf lt, .int w1, .int w2, .int dg, .int t1, .int t2, .int am])), (b, .inr (1, [.ref ca, .int kk, .int sg])), (ca, .inl (g.2.1, 49, .inl f)), (kw, .inr (2, [.ref kr, .ref kq, .int r_1.2.2.2.2])), (kr, .inl (g.2.1, 49, .inl r_1.2.2.1)), (kq, .inl (g.2.1, 49, .inl r_1.2.2.2.1))] := hD
  refine lv_i2l hx hb dL_byCorners_4 rfl ?_
  have hyp := some_e hyp
  subst hyp
  subst hQ
  exact xrJ (na := s.heap.size) hx hb hr hlocks (Nat.le_refl _) hP hD hS (Nat.le_of_ble_eq_true rfl) (Nat.le_of_ble_eq_true rfl) dL_byCorners_5

def fL_pressure (kk : Int32) (f : Nat → Int32) : Option (Nat × Int64) :=
  (fX8_kingPressure kk f).bind (fun (r_1 : Nat × Int32) => if r_1.1 = 0 then (some (0, r_1.2.toInt64)) else (if r_1.1 = 3 then (some (3, (-9000000000000000003))) else (none)))
set_option maxRecDepth 100000 in
set_option maxHeartbeats 4000000 in
theorem mL_pressure (l : Launch) (hl0 : l.stackTraces = false) (g : GE) (hg st b ca tr sa sk sv mt ml ad kw zc zp : Nat) (sd : Int32) (mv : Int32) (gm : Int32) (lt : Option Nat) (w1 : Int32) (w2 : Int32) (dg : Int32) (t1 : Int32) (t2 : Int32) (am : Int32) (kk : Int32) (sg : Int32) (f : Nat → Int32) (r : Nat × Int64) (hyp : fL_pressure kk f = some r) : LM l yL_pressure cL_pressure 2 [(0, 5, 6, 23)] 8 130 1 6 g [(hg, .inr (8, [.ref st, .ref tr, .ref sa, .ref sk, .ref sv, .ref mt, .ref ml, .ref ad, .ref kw])), (st, .inr (7, [.ref b, .int sd, .int mv, .int gm, va_rf lt, .int w1, .int w2, .int dg, .int t1, .int t2, .int am])), (b, .inr (1, [.ref ca, .int kk, .int sg])), (ca, .inl (g.2.1, 49, .inl f))] (OZ g zc zp [] none) [.ref hg] (some (.long r.2)) (fun na => [(hg, .inr (8, [.ref st, .ref tr, .ref sa, .ref sk, .ref sv, .ref mt, .ref ml, .ref ad, .ref kw])), (st, .inr (7, [.ref b, .int sd, .int mv, .int gm, va_rf lt, .int w1, .int w2, .int dg, .int t1, .int t2, .int am])), (b, .inr (1, [.ref ca, .int kk, .int sg])), (ca, .inl (g.2.1, 49, .inl f))]) := by
  refine metL_intro (by decide) rfl ?_
  intro p e R s m args below meth c Q A hRf hRl hRc hRs hQ hx hb hml hr hlocks htab hown hts hin hE hSR hNC hA hO H locs hP hD hS ls hl
  have hown : s.vm.findClass "HallGuardsLaw" = some m.cls := hown
  have hl : lv_has ls 2 [(0, .ref hg)] := hl
  unfold fL_pressure at hyp
  refine lv_aload_n hx hb dL_pressure_0 rfl (lv_at hl 0 rfl) ?_
  obtain ⟨r_1, hr_1, hyp⟩ := opt_e hyp
  refine xV (As := []) (rest := []) ⟨hx, hb, hml, hown, hts⟩ hE hSR (mX8_kingPressure l hl0 g hg st b ca tr sa sk sv mt ml ad kw zc zp sd mv gm lt w1 w2 dg t1 t2 am kk sg f r_1 hr_1) (OZ_ok g zc zp _ _) hO cf_X8_kingPressure im_X8_kingPressure se_X8_kingPressure ml_L_95 ⟨Nat.le_trans (Nat.le_of_ble_eq_true rfl) hRf, Nat.le_trans (Nat.le_of_ble_eq_true rfl) hRl⟩ hP hD hS hA [0, 1, 2, 3] [] rfl (wr := []) rfl ⟨by decide, by decide⟩ (by decide) (ci := 8) (q0 := 0) rfl rfl rfl rfl hl.1 rfl (Nat.le_of_ble_eq_true rfl) dL_pressure_1 ⟨Nat.le_trans (Nat.le_of_ble_eq_true rfl) hRc, Nat.le_trans (Nat.le_of_ble_eq_true rfl) hRs⟩ (fun hk0 na_2 H locs hna_2 hP hD hS => ?_) (fun hk0 na9 q9 ce9 H locs hna9 hP hD hS hce hcv hcl => ?_)
  rotate_left 1
  · replace hyp := ite_f hk0 hyp
    have hP : va_P g.1 vwCl [(hg, .inr (8, [.ref st, .ref tr, .ref sa, .ref sk, .ref sv, .ref mt, .ref ml, .ref ad, .ref kw])), (st, .inr (7, [.ref b, .int sd, .int mv, .int gm, va_rf lt, .int w1, .int w2, .int dg, .int t1, .int t2, .int am])), (b, .inr (1, [.ref ca, .int kk, .int sg])), (ca, .inl (g.2.1, 49, .inl f))] H := hP
    have hD : va_D A [(hg, .inr (8, [.ref st, .ref tr, .ref sa, .ref sk, .ref sv, .ref mt, .ref ml, .ref ad, .ref kw])), (st, .inr (7, [.ref b, .int sd, .int mv, .int gm, va_rf lt, .int w1, .int w2, .int dg, .int t1, .int t2, .int am])), (b, .inr (1, [.ref ca, .int kk, .int sg])), (ca, .inl (g.2.1, 49, .inl f))] := hD
    by_cases h_3 : r_1.1 = 3
    · replace hyp := ite_t h_3 hyp
      rw [h_3] at hcl
      refine catK 0 ⟨0, 5, 6, 23⟩ 3 htab rfl hown (fun z hz => nomatch hz) (by decide) (by decide) hts hSR cl_L_23 cast_3 hce hcv hcl ?_
      refine lv_astore_n (lv' := [(1, .ref q9), (0, .ref hg)]) hx hb dL_pressure_6 rfl hl (by decide) rfl (fun ls hl => ?_)
      refine lv_ldc2 (v := (-9000000000000000003)) hx hb hown (hts _ ct_L_25) dL_pressure_7 ?_
      have hyp := some_e hyp
      subst hyp
      subst hQ
      exact xrJ (na := s.heap.size) hx hb hr hlocks (Nat.le_refl _) hP hD hS (Nat.le_of_ble_eq_true rfl) (Nat.le_of_ble_eq_true rfl) dL_pressure_10
    · replace hyp := ite_f h_3 hyp
      cases hyp
  replace hyp := ite_t hk0 hyp
  have hP : va_P g.1 vwCl [(hg, .inr (8, [.ref st, .ref tr, .ref sa, .ref sk, .ref sv, .ref mt, .ref ml, .ref ad, .ref kw])), (st, .inr (7, [.ref b, .int sd, .int mv, .int gm, va_rf lt, .int w1, .int w2, .int dg, .int t1, .int t2, .int am])), (b, .inr (1, [.ref ca, .int kk, .int sg])), (ca, .inl (g.2.1, 49, .inl f))] H := hP
  have hD : va_D A [(hg, .inr (8, [.ref st, .ref tr, .ref sa, .ref sk, .ref sv, .ref mt, .ref ml, .ref ad, .ref kw])), (st, .inr (7, [.ref b, .int sd, .int mv, .int gm, va_rf lt, .int w1, .int w2, .int dg, .int t1, .int t2, .int am])), (b, .inr (1, [.ref ca, .int kk, .int sg])), (ca, .inl (g.2.1, 49, .inl f))] := hD
  refine lv_i2l hx hb dL_pressure_4 rfl ?_
  have hyp := some_e hyp
  subst hyp
  subst hQ
  exact xrJ (na := s.heap.size) hx hb hr hlocks (Nat.le_refl _) hP hD hS (Nat.le_of_ble_eq_true rfl) (Nat.le_of_ble_eq_true rfl) dL_pressure_5

def fL_worthOf (kk : Int32) (sg : Int32) (f : Nat → Int32) (bk : Int32) (bs : Int32) (bf : Nat → Int32) (rk : Int32) (rs : Int32) (rf : Nat → Int32) (rn : Int32) (rmf : Nat → Int32) (a1 : Int32) (a2 : Int32) : Option (Nat × Int64 × (Nat → Int32) × Int32 × Int32 × (Nat → Int32) × Int32 × Int32 × (Nat → Int32) × Int32) :=
  (fX8_worthOf kk sg f bk bs bf rk rs rf rn rmf a1 a2).bind (fun (r_1 : Nat × Int32 × (Nat → Int32) × Int32 × Int32 × (Nat → Int32) × Int32 × Int32 × (Nat → Int32) × Int32) => if r_1.1 = 0 then (some (0, r_1.2.1.toInt64, r_1.2.2.1, r_1.2.2.2.1, r_1.2.2.2.2.1, r_1.2.2.2.2.2.1, r_1.2.2.2.2.2.2.1, r_1.2.2.2.2.2.2.2.1, r_1.2.2.2.2.2.2.2.2.1, r_1.2.2.2.2.2.2.2.2.2)) else (if r_1.1 = 1 then (some (1, (-9000000000000000001), r_1.2.2.1, r_1.2.2.2.1, r_1.2.2.2.2.1, r_1.2.2.2.2.2.1, r_1.2.2.2.2.2.2.1, r_1.2.2.2.2.2.2.2.1, r_1.2.2.2.2.2.2.2.2.1, r_1.2.2.2.2.2.2.2.2.2)) else (if r_1.1 = 3 then (some (3, (-9000000000000000003), r_1.2.2.1, r_1.2.2.2.1, r_1.2.2.2.2.1, r_1.2.2.2.2.2.1, r_1.2.2.2.2.2.2.1, r_1.2.2.2.2.2.2.2.1, r_1.2.2.2.2.2.2.2.2.1, r_1.2.2.2.2.2.2.2.2.2)) else (none))))
set_option maxRecDepth 100000 in
set_option maxHeartbeats 4000000 in
theorem mL_worthOf (l : Launch) (hl0 : l.stackTraces = false) (g : GE) (hg st b ca ad be bc rp rc rl rm tr sa sk sv mt ml kw zc zp : Nat) (sd : Int32) (mv : Int32) (gm : Int32) (lt : Option Nat) (w1 : Int32) (w2 : Int32) (dg : Int32) (t1 : Int32) (t2 : Int32) (am : Int32) (kk : Int32) (sg : Int32) (f : Nat → Int32) (bk : Int32) (bs : Int32) (bf : Nat → Int32) (rk : Int32) (rs : Int32) (rf : Nat → Int32) (rn : Int32) (rmf : Nat → Int32) (a1 : Int32) (a2 : Int32) (r : Nat × Int64 × (Nat → Int32) × Int32 × Int32 × (Nat → Int32) × Int32 × Int32 × (Nat → Int32) × Int32) (hyp : fL_worthOf kk sg f bk bs bf rk rs rf rn rmf a1 a2 = some r) : LM l yL_worthOf cL_worthOf 4 [(0, 7, 8, 15), (0, 7, 13, 23)] 9 192 2 12 g [(hg, .inr (8, [.ref st, .ref tr, .ref sa, .ref sk, .ref sv, .ref mt, .ref ml, .ref ad, .ref kw])), (st, .inr (7, [.ref b, .int sd, .int mv, .int gm, va_rf lt, .int w1, .int w2, .int dg, .int t1, .int t2, .int am])), (b, .inr (1, [.ref ca, .int kk, .int sg])), (ca, .inl (g.2.1, 49, .inl f)), (ad, .inr (0, [.ref be, .ref rp, .ref rl])), (be, .inr (1, [.ref bc, .int bk, .int bs])), (bc, .inl (g.2.1, 49, .inl bf)), (rp, .inr (1, [.ref rc, .int rk, .int rs])), (rc, .inl (g.2.1, 49, .inl rf)), (rl, .inr (3, [.ref rm, .int rn])), (rm, .inl (g.2.1, 588, .inl rmf))] (OZ g zc zp [] none) [.ref hg, .int a1, .int a2] (some (.long r.2.1)) (fun na => [(hg, .inr (8, [.ref st, .ref tr, .ref sa, .ref sk, .ref sv, .ref mt, .ref ml, .ref ad, .ref kw])), (st, .inr (7, [.ref b, .int sd, .int mv, .int gm, va_rf lt, .int w1, .int w2, .int dg, .int t1, .int t2, .int am])), (b, .inr (1, [.ref ca, .int kk, .int sg])), (ca, .inl (g.2.1, 49, .inl f)), (ad, .inr (0, [.ref be, .ref rp, .ref rl])), (be, .inr (1, [.ref bc, .int r.2.2.2.1, .int r.2.2.2.2.1])), (bc, .inl (g.2.1, 49, .inl r.2.2.1)), (rp, .inr (1, [.ref rc, .int r.2.2.2.2.2.2.1, .int r.2.2.2.2.2.2.2.1])), (rc, .inl (g.2.1, 49, .inl r.2.2.2.2.2.1)), (rl, .inr (3, [.ref rm, .int r.2.2.2.2.2.2.2.2.2])), (rm, .inl (g.2.1, 588, .inl r.2.2.2.2.2.2.2.2.1))]) := by
  refine metL_intro (by decide) rfl ?_
  intro p e R s m args below meth c Q A hRf hRl hRc hRs hQ hx hb hml hr hlocks htab hown hts hin hE hSR hNC hA hO H locs hP hD hS ls hl
  have hown : s.vm.findClass "HallGuardsLaw" = some m.cls := hown
  have hl : lv_has ls 4 [(0, .ref hg), (1, .int a1), (2, .int a2)] := hl
  unfold fL_worthOf at hyp
  refine lv_aload_n hx hb dL_worthOf_0 rfl (lv_at hl 0 rfl) ?_
  refine lv_iload_n hx hb dL_worthOf_1 rfl (lv_at hl 1 rfl) ?_
  refine lv_iload_n hx hb dL_worthOf_2 rfl (lv_at hl 2 rfl) ?_
  obtain ⟨r_1, hr_1, hyp⟩ := opt_e hyp
  refine xV (As := [.int a1, .int a2]) (rest := []) ⟨hx, hb, hml, hown, hts⟩ hE hSR (mX8_worthOf l hl0 g hg st b ca ad be bc rp rc rl rm tr sa sk sv mt ml kw zc zp sd mv gm lt w1 w2 dg t1 t2 am kk sg f bk bs bf rk rs rf rn rmf a1 a2 r_1 hr_1) (OZ_ok g zc zp _ _) hO cf_X8_worthOf im_X8_worthOf se_X8_worthOf ml_L_98 ⟨Nat.le_trans (Nat.le_of_ble_eq_true rfl) hRf, Nat.le_trans (Nat.le_of_ble_eq_true rfl) hRl⟩ hP hD hS hA [0, 1, 2, 3, 4, 5, 6, 7, 8, 9, 10] [] rfl (wr := []) rfl ⟨by decide, by decide⟩ (by decide) (ci := 8) (q0 := 0) rfl rfl rfl rfl hl.1 rfl (Nat.le_of_ble_eq_true rfl) dL_worthOf_3 ⟨Nat.le_trans (Nat.le_of_ble_eq_true rfl) hRc, Nat.le_trans (Nat.le_of_ble_eq_true rfl) hRs⟩ (fun hk0 na_2 H locs hna_2 hP hD hS => ?_) (fun hk0 na9 q9 ce9 H locs hna9 hP hD hS hce hcv hcl => ?_)
  rotate_left 1
  · replace hyp := ite_f hk0 hyp
    have hP : va_P g.1 vwCl [(hg, .inr (8, [.ref st, .ref tr, .ref sa, .ref sk, .ref sv, .ref mt, .ref ml, .ref ad, .ref kw])), (st, .inr (7, [.ref b, .int sd, .int mv, .int gm, va_rf lt, .int w1, .int w2, .int dg, .int t1, .int t2, .int am])), (b, .inr (1, [.ref ca, .int kk, .int sg])), (ca, .inl (g.2.1, 49, .inl f)), (ad, .inr (0, [.ref be, .ref rp, .ref rl])), (be, .inr (1, [.ref bc, .int r_1.2.2.2.1, .int r_1.2.2.2.2.1])), (bc, .inl (g.2.1, 49, .inl r_1.2.2.1)), (rp, .inr (1, [.ref rc, .int r_1.2.2.2.2.2.2.1, .int r_1.2.2.2.2.2.2.2.1])), (rc, .inl (g.2.1, 49, .inl r_1.2.2.2.2.2.1)), (rl, .inr (3, [.ref rm, .int r_1.2.2.2.2.2.2.2.2.2])), (rm, .inl (g.2.1, 588, .inl r_1.2.2.2.2.2.2.2.2.1))] H := hP
    have hD : va_D A [(hg, .inr (8, [.ref st, .ref tr, .ref sa, .ref sk, .ref sv, .ref mt, .ref ml, .ref ad, .ref kw])), (st, .inr (7, [.ref b, .int sd, .int mv, .int gm, va_rf lt, .int w1, .int w2, .int dg, .int t1, .int t2, .int am])), (b, .inr (1, [.ref ca, .int kk, .int sg])), (ca, .inl (g.2.1, 49, .inl f)), (ad, .inr (0, [.ref be, .ref rp, .ref rl])), (be, .inr (1, [.ref bc, .int r_1.2.2.2.1, .int r_1.2.2.2.2.1])), (bc, .inl (g.2.1, 49, .inl r_1.2.2.1)), (rp, .inr (1, [.ref rc, .int r_1.2.2.2.2.2.2.1, .int r_1.2.2.2.2.2.2.2.1])), (rc, .inl (g.2.1, 49, .inl r_1.2.2.2.2.2.1)), (rl, .inr (3, [.ref rm, .int r_1.2.2.2.2.2.2.2.2.2])), (rm, .inl (g.2.1, 588, .inl r_1.2.2.2.2.2.2.2.2.1))] := hD
    by_cases h_3 : r_1.1 = 1
    · replace hyp := ite_t h_3 hyp
      rw [h_3] at hcl
      refine catK 0 ⟨0, 7, 8, 15⟩ 1 htab rfl hown (fun z hz => nomatch hz) (by decide) (by decide) hts hSR cl_L_15 cast_1 hce hcv hcl ?_
      refine lv_astore_n (lv' := [(3, .ref q9), (0, .ref hg), (1, .int a1), (2, .int a2)]) hx hb dL_worthOf_8 rfl hl (by decide) rfl (fun ls hl => ?_)
      refine lv_ldc2 (v := (-9000000000000000001)) hx hb hown (hts _ ct_L_17) dL_worthOf_9 ?_
      have hyp := some_e hyp
      subst hyp
      subst hQ
      exact xrJ (na := s.heap.size) hx hb hr hlocks (Nat.le_refl _) hP hD hS (Nat.le_of_ble_eq_true rfl) (Nat.le_of_ble_eq_true rfl) dL_worthOf_12
    · replace hyp := ite_f h_3 hyp
      by_cases h_4 : r_1.1 = 3
      · replace hyp := ite_t h_4 hyp
        rw [h_4] at hcl
        refine catK 1 ⟨0, 7, 13, 23⟩ 3 htab rfl hown (List.forall_mem_cons.mpr ⟨⟨by decide, _, hts _ cl_L_15, hNC.2.1⟩, fun z hz => nomatch hz⟩) (by decide) (by decide) hts hSR cl_L_23 cast_3 hce hcv hcl ?_
        refine lv_astore_n (lv' := [(3, .ref q9), (0, .ref hg), (1, .int a1), (2, .int a2)]) hx hb dL_worthOf_13 rfl hl (by decide) rfl (fun ls hl => ?_)
        refine lv_ldc2 (v := (-9000000000000000003)) hx hb hown (hts _ ct_L_25) dL_worthOf_14 ?_
        have hyp := some_e hyp
        subst hyp
        subst hQ
        exact xrJ (na := s.heap.size) hx hb hr hlocks (Nat.le_refl _) hP hD hS (Nat.le_of_ble_eq_true rfl) (Nat.le_of_ble_eq_true rfl) dL_worthOf_17
      · replace hyp := ite_f h_4 hyp
        cases hyp
  replace hyp := ite_t hk0 hyp
  have hP : va_P g.1 vwCl [(hg, .inr (8, [.ref st, .ref tr, .ref sa, .ref sk, .ref sv, .ref mt, .ref ml, .ref ad, .ref kw])), (st, .inr (7, [.ref b, .int sd, .int mv, .int gm, va_rf lt, .int w1, .int w2, .int dg, .int t1, .int t2, .int am])), (b, .inr (1, [.ref ca, .int kk, .int sg])), (ca, .inl (g.2.1, 49, .inl f)), (ad, .inr (0, [.ref be, .ref rp, .ref rl])), (be, .inr (1, [.ref bc, .int r_1.2.2.2.1, .int r_1.2.2.2.2.1])), (bc, .inl (g.2.1, 49, .inl r_1.2.2.1)), (rp, .inr (1, [.ref rc, .int r_1.2.2.2.2.2.2.1, .int r_1.2.2.2.2.2.2.2.1])), (rc, .inl (g.2.1, 49, .inl r_1.2.2.2.2.2.1)), (rl, .inr (3, [.ref rm, .int r_1.2.2.2.2.2.2.2.2.2])), (rm, .inl (g.2.1, 588, .inl r_1.2.2.2.2.2.2.2.2.1))] H := hP
  have hD : va_D A [(hg, .inr (8, [.ref st, .ref tr, .ref sa, .ref sk, .ref sv, .ref mt, .ref ml, .ref ad, .ref kw])), (st, .inr (7, [.ref b, .int sd, .int mv, .int gm, va_rf lt, .int w1, .int w2, .int dg, .int t1, .int t2, .int am])), (b, .inr (1, [.ref ca, .int kk, .int sg])), (ca, .inl (g.2.1, 49, .inl f)), (ad, .inr (0, [.ref be, .ref rp, .ref rl])), (be, .inr (1, [.ref bc, .int r_1.2.2.2.1, .int r_1.2.2.2.2.1])), (bc, .inl (g.2.1, 49, .inl r_1.2.2.1)), (rp, .inr (1, [.ref rc, .int r_1.2.2.2.2.2.2.1, .int r_1.2.2.2.2.2.2.2.1])), (rc, .inl (g.2.1, 49, .inl r_1.2.2.2.2.2.1)), (rl, .inr (3, [.ref rm, .int r_1.2.2.2.2.2.2.2.2.2])), (rm, .inl (g.2.1, 588, .inl r_1.2.2.2.2.2.2.2.2.1))] := hD
  refine lv_i2l hx hb dL_worthOf_6 rfl ?_
  have hyp := some_e hyp
  subst hyp
  subst hQ
  exact xrJ (na := s.heap.size) hx hb hr hlocks (Nat.le_refl _) hP hD hS (Nat.le_of_ble_eq_true rfl) (Nat.le_of_ble_eq_true rfl) dL_worthOf_7

def fL_bestMove (kk : Int32) (sg : Int32) (f : Nat → Int32) (bk : Int32) (bs : Int32) (bf : Nat → Int32) (rk : Int32) (rs : Int32) (rf : Nat → Int32) (rn : Int32) (rmf : Nat → Int32) (cnt : Int32) (mf : Nat → Int32) (a1 : Int32) : Option (Nat × Int64 × (Nat → Int32) × Int32 × Int32 × (Nat → Int32) × Int32 × Int32 × (Nat → Int32) × Int32 × (Nat → Int32) × Int32) :=
  (fX8_bestMove kk sg f bk bs bf rk rs rf rn rmf cnt mf a1).bind (fun (r_1 : Nat × Int32 × (Nat → Int32) × Int32 × Int32 × (Nat → Int32) × Int32 × Int32 × (Nat → Int32) × Int32 × (Nat → Int32) × Int32) => if r_1.1 = 0 then (some (0, r_1.2.1.toInt64, r_1.2.2.1, r_1.2.2.2.1, r_1.2.2.2.2.1, r_1.2.2.2.2.2.1, r_1.2.2.2.2.2.2.1, r_1.2.2.2.2.2.2.2.1, r_1.2.2.2.2.2.2.2.2.1, r_1.2.2.2.2.2.2.2.2.2.1, r_1.2.2.2.2.2.2.2.2.2.2.1, r_1.2.2.2.2.2.2.2.2.2.2.2)) else (if r_1.1 = 1 then (some (1, (-9000000000000000001), r_1.2.2.1, r_1.2.2.2.1, r_1.2.2.2.2.1, r_1.2.2.2.2.2.1, r_1.2.2.2.2.2.2.1, r_1.2.2.2.2.2.2.2.1, r_1.2.2.2.2.2.2.2.2.1, r_1.2.2.2.2.2.2.2.2.2.1, r_1.2.2.2.2.2.2.2.2.2.2.1, r_1.2.2.2.2.2.2.2.2.2.2.2)) else (if r_1.1 = 3 then (some (3, (-9000000000000000003), r_1.2.2.1, r_1.2.2.2.1, r_1.2.2.2.2.1, r_1.2.2.2.2.2.1, r_1.2.2.2.2.2.2.1, r_1.2.2.2.2.2.2.2.1, r_1.2.2.2.2.2.2.2.2.1, r_1.2.2.2.2.2.2.2.2.2.1, r_1.2.2.2.2.2.2.2.2.2.2.1, r_1.2.2.2.2.2.2.2.2.2.2.2)) else (none))))
set_option maxRecDepth 100000 in
set_option maxHeartbeats 4000000 in
theorem mL_bestMove (l : Launch) (hl0 : l.stackTraces = false) (g : GE) (hg st b ca ad be bc rp rc rl rm ml mc tr sa sk sv mt kw zc zp : Nat) (sd : Int32) (mv : Int32) (gm : Int32) (lt : Option Nat) (w1 : Int32) (w2 : Int32) (dg : Int32) (t1 : Int32) (t2 : Int32) (am : Int32) (kk : Int32) (sg : Int32) (f : Nat → Int32) (bk : Int32) (bs : Int32) (bf : Nat → Int32) (rk : Int32) (rs : Int32) (rf : Nat → Int32) (rn : Int32) (rmf : Nat → Int32) (cnt : Int32) (mf : Nat → Int32) (a1 : Int32) (r : Nat × Int64 × (Nat → Int32) × Int32 × Int32 × (Nat → Int32) × Int32 × Int32 × (Nat → Int32) × Int32 × (Nat → Int32) × Int32) (hyp : fL_bestMove kk sg f bk bs bf rk rs rf rn rmf cnt mf a1 = some r) : LM l yL_bestMove cL_bestMove 3 [(0, 6, 7, 15), (0, 6, 12, 23)] 8 196 2 12 g [(hg, .inr (8, [.ref st, .ref tr, .ref sa, .ref sk, .ref sv, .ref mt, .ref ml, .ref ad, .ref kw])), (st, .inr (7, [.ref b, .int sd, .int mv, .int gm, va_rf lt, .int w1, .int w2, .int dg, .int t1, .int t2, .int am])), (b, .inr (1, [.ref ca, .int kk, .int sg])), (ca, .inl (g.2.1, 49, .inl f)), (ad, .inr (0, [.ref be, .ref rp, .ref rl])), (be, .inr (1, [.ref bc, .int bk, .int bs])), (bc, .inl (g.2.1, 49, .inl bf)), (rp, .inr (1, [.ref rc, .int rk, .int rs])), (rc, .inl (g.2.1, 49, .inl rf)), (rl, .inr (3, [.ref rm, .int rn])), (rm, .inl (g.2.1, 588, .inl rmf)), (ml, .inr (3, [.ref mc, .int cnt])), (mc, .inl (g.2.1, 588, .inl mf))] (OZ g zc zp [] none) [.ref hg, .int a1] (some (.long r.2.1)) (fun na => [(hg, .inr (8, [.ref st, .ref tr, .ref sa, .ref sk, .ref sv, .ref mt, .ref ml, .ref ad, .ref kw])), (st, .inr (7, [.ref b, .int sd, .int mv, .int gm, va_rf lt, .int w1, .int w2, .int dg, .int t1, .int t2, .int am])), (b, .inr (1, [.ref ca, .int kk, .int sg])), (ca, .inl (g.2.1, 49, .inl f)), (ad, .inr (0, [.ref be, .ref rp, .ref rl])), (be, .inr (1, [.ref bc, .int r.2.2.2.1, .int r.2.2.2.2.1])), (bc, .inl (g.2.1, 49, .inl r.2.2.1)), (rp, .inr (1, [.ref rc, .int r.2.2.2.2.2.2.1, .int r.2.2.2.2.2.2.2.1])), (rc, .inl (g.2.1, 49, .inl r.2.2.2.2.2.1)), (rl, .inr (3, [.ref rm, .int r.2.2.2.2.2.2.2.2.2.1])), (rm, .inl (g.2.1, 588, .inl r.2.2.2.2.2.2.2.2.1)), (ml, .inr (3, [.ref mc, .int r.2.2.2.2.2.2.2.2.2.2.2])), (mc, .inl (g.2.1, 588, .inl r.2.2.2.2.2.2.2.2.2.2.1))]) := by
  refine metL_intro (by decide) rfl ?_
  intro p e R s m args below meth c Q A hRf hRl hRc hRs hQ hx hb hml hr hlocks htab hown hts hin hE hSR hNC hA hO H locs hP hD hS ls hl
  have hown : s.vm.findClass "HallGuardsLaw" = some m.cls := hown
  have hl : lv_has ls 3 [(0, .ref hg), (1, .int a1)] := hl
  unfold fL_bestMove at hyp
  refine lv_aload_n hx hb dL_bestMove_0 rfl (lv_at hl 0 rfl) ?_
  refine lv_iload_n hx hb dL_bestMove_1 rfl (lv_at hl 1 rfl) ?_
  obtain ⟨r_1, hr_1, hyp⟩ := opt_e hyp
  refine xV (As := [.int a1]) (rest := []) ⟨hx, hb, hml, hown, hts⟩ hE hSR (mX8_bestMove l hl0 g hg st b ca ad be bc rp rc rl rm ml mc tr sa sk sv mt kw zc zp sd mv gm lt w1 w2 dg t1 t2 am kk sg f bk bs bf rk rs rf rn rmf cnt mf a1 r_1 hr_1) (OZ_ok g zc zp _ _) hO cf_X8_bestMove im_X8_bestMove se_X8_bestMove ml_L_101 ⟨Nat.le_trans (Nat.le_of_ble_eq_true rfl) hRf, Nat.le_trans (Nat.le_of_ble_eq_true rfl) hRl⟩ hP hD hS hA [0, 1, 2, 3, 4, 5, 6, 7, 8, 9, 10, 11, 12] [] rfl (wr := []) rfl ⟨by decide, by decide⟩ (by decide) (ci := 8) (q0 := 0) rfl rfl rfl rfl hl.1 rfl (Nat.le_of_ble_eq_true rfl) dL_bestMove_2 ⟨Nat.le_trans (Nat.le_of_ble_eq_true rfl) hRc, Nat.le_trans (Nat.le_of_ble_eq_true rfl) hRs⟩ (fun hk0 na_2 H locs hna_2 hP hD hS => ?_) (fun hk0 na9 q9 ce9 H locs hna9 hP hD hS hce hcv hcl => ?_)
  rotate_left 1
  · replace hyp := ite_f hk0 hyp
    have hP : va_P g.1 vwCl [(hg, .inr (8, [.ref st, .ref tr, .ref sa, .ref sk, .ref sv, .ref mt, .ref ml, .ref ad, .ref kw])), (st, .inr (7, [.ref b, .int sd, .int mv, .int gm, va_rf lt, .int w1, .int w2, .int dg, .int t1, .int t2, .int am])), (b, .inr (1, [.ref ca, .int kk, .int sg])), (ca, .inl (g.2.1, 49, .inl f)), (ad, .inr (0, [.ref be, .ref rp, .ref rl])), (be, .inr (1, [.ref bc, .int r_1.2.2.2.1, .int r_1.2.2.2.2.1])), (bc, .inl (g.2.1, 49, .inl r_1.2.2.1)), (rp, .inr (1, [.ref rc, .int r_1.2.2.2.2.2.2.1, .int r_1.2.2.2.2.2.2.2.1])), (rc, .inl (g.2.1, 49, .inl r_1.2.2.2.2.2.1)), (rl, .inr (3, [.ref rm, .int r_1.2.2.2.2.2.2.2.2.2.1])), (rm, .inl (g.2.1, 588, .inl r_1.2.2.2.2.2.2.2.2.1)), (ml, .inr (3, [.ref mc, .int r_1.2.2.2.2.2.2.2.2.2.2.2])), (mc, .inl (g.2.1, 588, .inl r_1.2.2.2.2.2.2.2.2.2.2.1))] H := hP
    have hD : va_D A [(hg, .inr (8, [.ref st, .ref tr, .ref sa, .ref sk, .ref sv, .ref mt, .ref ml, .ref ad, .ref kw])), (st, .inr (7, [.ref b, .int sd, .int mv, .int gm, va_rf lt, .int w1, .int w2, .int dg, .int t1, .int t2, .int am])), (b, .inr (1, [.ref ca, .int kk, .int sg])), (ca, .inl (g.2.1, 49, .inl f)), (ad, .inr (0, [.ref be, .ref rp, .ref rl])), (be, .inr (1, [.ref bc, .int r_1.2.2.2.1, .int r_1.2.2.2.2.1])), (bc, .inl (g.2.1, 49, .inl r_1.2.2.1)), (rp, .inr (1, [.ref rc, .int r_1.2.2.2.2.2.2.1, .int r_1.2.2.2.2.2.2.2.1])), (rc, .inl (g.2.1, 49, .inl r_1.2.2.2.2.2.1)), (rl, .inr (3, [.ref rm, .int r_1.2.2.2.2.2.2.2.2.2.1])), (rm, .inl (g.2.1, 588, .inl r_1.2.2.2.2.2.2.2.2.1)), (ml, .inr (3, [.ref mc, .int r_1.2.2.2.2.2.2.2.2.2.2.2])), (mc, .inl (g.2.1, 588, .inl r_1.2.2.2.2.2.2.2.2.2.2.1))] := hD
    by_cases h_3 : r_1.1 = 1
    · replace hyp := ite_t h_3 hyp
      rw [h_3] at hcl
      refine catK 0 ⟨0, 6, 7, 15⟩ 1 htab rfl hown (fun z hz => nomatch hz) (by decide) (by decide) hts hSR cl_L_15 cast_1 hce hcv hcl ?_
      refine lv_astore_n (lv' := [(2, .ref q9), (0, .ref hg), (1, .int a1)]) hx hb dL_bestMove_7 rfl hl (by decide) rfl (fun ls hl => ?_)
      refine lv_ldc2 (v := (-9000000000000000001)) hx hb hown (hts _ ct_L_17) dL_bestMove_8 ?_
      have hyp := some_e hyp
      subst hyp
      subst hQ
      exact xrJ (na := s.heap.size) hx hb hr hlocks (Nat.le_refl _) hP hD hS (Nat.le_of_ble_eq_true rfl) (Nat.le_of_ble_eq_true rfl) dL_bestMove_11
    · replace hyp := ite_f h_3 hyp
      by_cases h_4 : r_1.1 = 3
      · replace hyp := ite_t h_4 hyp
        rw [h_4] at hcl
        refine catK 1 ⟨0, 6, 12, 23⟩ 3 htab rfl hown (List.forall_mem_cons.mpr ⟨⟨by decide, _, hts _ cl_L_15, hNC.2.1⟩, fun z hz => nomatch hz⟩) (by decide) (by decide) hts hSR cl_L_23 cast_3 hce hcv hcl ?_
        refine lv_astore_n (lv' := [(2, .ref q9), (0, .ref hg), (1, .int a1)]) hx hb dL_bestMove_12 rfl hl (by decide) rfl (fun ls hl => ?_)
        refine lv_ldc2 (v := (-9000000000000000003)) hx hb hown (hts _ ct_L_25) dL_bestMove_13 ?_
        have hyp := some_e hyp
        subst hyp
        subst hQ
        exact xrJ (na := s.heap.size) hx hb hr hlocks (Nat.le_refl _) hP hD hS (Nat.le_of_ble_eq_true rfl) (Nat.le_of_ble_eq_true rfl) dL_bestMove_16
      · replace hyp := ite_f h_4 hyp
        cases hyp
  replace hyp := ite_t hk0 hyp
  have hP : va_P g.1 vwCl [(hg, .inr (8, [.ref st, .ref tr, .ref sa, .ref sk, .ref sv, .ref mt, .ref ml, .ref ad, .ref kw])), (st, .inr (7, [.ref b, .int sd, .int mv, .int gm, va_rf lt, .int w1, .int w2, .int dg, .int t1, .int t2, .int am])), (b, .inr (1, [.ref ca, .int kk, .int sg])), (ca, .inl (g.2.1, 49, .inl f)), (ad, .inr (0, [.ref be, .ref rp, .ref rl])), (be, .inr (1, [.ref bc, .int r_1.2.2.2.1, .int r_1.2.2.2.2.1])), (bc, .inl (g.2.1, 49, .inl r_1.2.2.1)), (rp, .inr (1, [.ref rc, .int r_1.2.2.2.2.2.2.1, .int r_1.2.2.2.2.2.2.2.1])), (rc, .inl (g.2.1, 49, .inl r_1.2.2.2.2.2.1)), (rl, .inr (3, [.ref rm, .int r_1.2.2.2.2.2.2.2.2.2.1])), (rm, .inl (g.2.1, 588, .inl r_1.2.2.2.2.2.2.2.2.1)), (ml, .inr (3, [.ref mc, .int r_1.2.2.2.2.2.2.2.2.2.2.2])), (mc, .inl (g.2.1, 588, .inl r_1.2.2.2.2.2.2.2.2.2.2.1))] H := hP
  have hD : va_D A [(hg, .inr (8, [.ref st, .ref tr, .ref sa, .ref sk, .ref sv, .ref mt, .ref ml, .ref ad, .ref kw])), (st, .inr (7, [.ref b, .int sd, .int mv, .int gm, va_rf lt, .int w1, .int w2, .int dg, .int t1, .int t2, .int am])), (b, .inr (1, [.ref ca, .int kk, .int sg])), (ca, .inl (g.2.1, 49, .inl f)), (ad, .inr (0, [.ref be, .ref rp, .ref rl])), (be, .inr (1, [.ref bc, .int r_1.2.2.2.1, .int r_1.2.2.2.2.1])), (bc, .inl (g.2.1, 49, .inl r_1.2.2.1)), (rp, .inr (1, [.ref rc, .int r_1.2.2.2.2.2.2.1, .int r_1.2.2.2.2.2.2.2.1])), (rc, .inl (g.2.1, 49, .inl r_1.2.2.2.2.2.1)), (rl, .inr (3, [.ref rm, .int r_1.2.2.2.2.2.2.2.2.2.1])), (rm, .inl (g.2.1, 588, .inl r_1.2.2.2.2.2.2.2.2.1)), (ml, .inr (3, [.ref mc, .int r_1.2.2.2.2.2.2.2.2.2.2.2])), (mc, .inl (g.2.1, 588, .inl r_1.2.2.2.2.2.2.2.2.2.2.1))] := hD
  refine lv_i2l hx hb dL_bestMove_5 rfl ?_
  have hyp := some_e hyp
  subst hyp
  subst hQ
  exact xrJ (na := s.heap.size) hx hb hr hlocks (Nat.le_refl _) hP hD hS (Nat.le_of_ble_eq_true rfl) (Nat.le_of_ble_eq_true rfl) dL_bestMove_6

def fL_wins (w1 : Int32) (w2 : Int32) (a1 : Int32) : Option (Nat × Int64) :=
  (fX8_wins w1 w2 a1).bind (fun (r_1 : Nat × Int32) => if r_1.1 = 0 then (some (0, r_1.2.toInt64)) else (if r_1.1 = 1 then (some (1, (-9000000000000000001))) else (none)))
set_option maxRecDepth 100000 in
set_option maxHeartbeats 4000000 in
theorem mL_wins (l : Launch) (hl0 : l.stackTraces = false) (g : GE) (hg st b ca tr sa sk sv mt ml ad kw zc zp : Nat) (sd : Int32) (mv : Int32) (gm : Int32) (lt : Option Nat) (w1 : Int32) (w2 : Int32) (dg : Int32) (t1 : Int32) (t2 : Int32) (am : Int32) (kk : Int32) (sg : Int32) (f : Nat → Int32) (a1 : Int32) (r : Nat × Int64) (hyp : fL_wins w1 w2 a1 = some r) : LM l yL_wins cL_wins 3 [(0, 6, 7, 15)] 8 131 1 6 g [(hg, .inr (8, [.ref st, .ref tr, .ref sa, .ref sk, .ref sv, .ref mt, .ref ml, .ref ad, .ref kw])), (st, .inr (7, [.ref b, .int sd, .int mv, .int gm, va_rf lt, .int w1, .int w2, .int dg, .int t1, .int t2, .int am])), (b, .inr (1, [.ref ca, .int kk, .int sg])), (ca, .inl (g.2.1, 49, .inl f))] (OZ g zc zp [] none) [.ref hg, .int a1] (some (.long r.2)) (fun na => [(hg, .inr (8, [.ref st, .ref tr, .ref sa, .ref sk, .ref sv, .ref mt, .ref ml, .ref ad, .ref kw])), (st, .inr (7, [.ref b, .int sd, .int mv, .int gm, va_rf lt, .int w1, .int w2, .int dg, .int t1, .int t2, .int am])), (b, .inr (1, [.ref ca, .int kk, .int sg])), (ca, .inl (g.2.1, 49, .inl f))]) := by
  refine metL_intro (by decide) rfl ?_
  intro p e R s m args below meth c Q A hRf hRl hRc hRs hQ hx hb hml hr hlocks htab hown hts hin hE hSR hNC hA hO H locs hP hD hS ls hl
  have hown : s.vm.findClass "HallGuardsLaw" = some m.cls := hown
  have hl : lv_has ls 3 [(0, .ref hg), (1, .int a1)] := hl
  unfold fL_wins at hyp
  refine lv_aload_n hx hb dL_wins_0 rfl (lv_at hl 0 rfl) ?_
  refine lv_iload_n hx hb dL_wins_1 rfl (lv_at hl 1 rfl) ?_
  obtain ⟨r_1, hr_1, hyp⟩ := opt_e hyp
  refine xV (As := [.int a1]) (rest := []) ⟨hx, hb, hml, hown, hts⟩ hE hSR (mX8_wins l hl0 g hg st b ca tr sa sk sv mt ml ad kw zc zp sd mv gm lt w1 w2 dg t1 t2 am kk sg f a1 r_1 hr_1) (OZ_ok g zc zp _ _) hO cf_X8_wins im_X8_wins se_X8_wins ml_L_104 ⟨Nat.le_trans (Nat.le_of_ble_eq_true rfl) hRf, Nat.le_trans (Nat.le_of_ble_eq_true rfl) hRl⟩ hP hD hS hA [0, 1, 2, 3] [] rfl (wr := []) rfl ⟨by decide, by decide⟩ (by decide) (ci := 8) (q0 := 0) rfl rfl rfl rfl hl.1 rfl (Nat.le_of_ble_eq_true rfl) dL_wins_2 ⟨Nat.le_trans (Nat.le_of_ble_eq_true rfl) hRc, Nat.le_trans (Nat.le_of_ble_eq_true rfl) hRs⟩ (fun hk0 na_2 H locs hna_2 hP hD hS => ?_) (fun hk0 na9 q9 ce9 H locs hna9 hP hD hS hce hcv hcl => ?_)
  rotate_left 1
  · replace hyp := ite_f hk0 hyp
    have hP : va_P g.1 vwCl [(hg, .inr (8, [.ref st, .ref tr, .ref sa, .ref sk, .ref sv, .ref mt, .ref ml, .ref ad, .ref kw])), (st, .inr (7, [.ref b, .int sd, .int mv, .int gm, va_rf lt, .int w1, .int w2, .int dg, .int t1, .int t2, .int am])), (b, .inr (1, [.ref ca, .int kk, .int sg])), (ca, .inl (g.2.1, 49, .inl f))] H := hP
    have hD : va_D A [(hg, .inr (8, [.ref st, .ref tr, .ref sa, .ref sk, .ref sv, .ref mt, .ref ml, .ref ad, .ref kw])), (st, .inr (7, [.ref b, .int sd, .int mv, .int gm, va_rf lt, .int w1, .int w2, .int dg, .int t1, .int t2, .int am])), (b, .inr (1, [.ref ca, .int kk, .int sg])), (ca, .inl (g.2.1, 49, .inl f))] := hD
    by_cases h_3 : r_1.1 = 1
    · replace hyp := ite_t h_3 hyp
      rw [h_3] at hcl
      refine catK 0 ⟨0, 6, 7, 15⟩ 1 htab rfl hown (fun z hz => nomatch hz) (by decide) (by decide) hts hSR cl_L_15 cast_1 hce hcv hcl ?_
      refine lv_astore_n (lv' := [(2, .ref q9), (0, .ref hg), (1, .int a1)]) hx hb dL_wins_7 rfl hl (by decide) rfl (fun ls hl => ?_)
      refine lv_ldc2 (v := (-9000000000000000001)) hx hb hown (hts _ ct_L_17) dL_wins_8 ?_
      have hyp := some_e hyp
      subst hyp
      subst hQ
      exact xrJ (na := s.heap.size) hx hb hr hlocks (Nat.le_refl _) hP hD hS (Nat.le_of_ble_eq_true rfl) (Nat.le_of_ble_eq_true rfl) dL_wins_11
    · replace hyp := ite_f h_3 hyp
      cases hyp
  replace hyp := ite_t hk0 hyp
  have hP : va_P g.1 vwCl [(hg, .inr (8, [.ref st, .ref tr, .ref sa, .ref sk, .ref sv, .ref mt, .ref ml, .ref ad, .ref kw])), (st, .inr (7, [.ref b, .int sd, .int mv, .int gm, va_rf lt, .int w1, .int w2, .int dg, .int t1, .int t2, .int am])), (b, .inr (1, [.ref ca, .int kk, .int sg])), (ca, .inl (g.2.1, 49, .inl f))] H := hP
  have hD : va_D A [(hg, .inr (8, [.ref st, .ref tr, .ref sa, .ref sk, .ref sv, .ref mt, .ref ml, .ref ad, .ref kw])), (st, .inr (7, [.ref b, .int sd, .int mv, .int gm, va_rf lt, .int w1, .int w2, .int dg, .int t1, .int t2, .int am])), (b, .inr (1, [.ref ca, .int kk, .int sg])), (ca, .inl (g.2.1, 49, .inl f))] := hD
  refine lv_i2l hx hb dL_wins_5 rfl ?_
  have hyp := some_e hyp
  subst hyp
  subst hQ
  exact xrJ (na := s.heap.size) hx hb hr hlocks (Nat.le_refl _) hP hD hS (Nat.le_of_ble_eq_true rfl) (Nat.le_of_ble_eq_true rfl) dL_wins_6

def fL_takenOf (t1 : Int32) (t2 : Int32) (a1 : Int32) : Option (Nat × Int64) :=
  (fX8_takenOf t1 t2 a1).bind (fun (r_1 : Nat × Int32) => if r_1.1 = 0 then (some (0, r_1.2.toInt64)) else (if r_1.1 = 1 then (some (1, (-9000000000000000001))) else (none)))
set_option maxRecDepth 100000 in
set_option maxHeartbeats 4000000 in
theorem mL_takenOf (l : Launch) (hl0 : l.stackTraces = false) (g : GE) (hg st b ca tr sa sk sv mt ml ad kw zc zp : Nat) (sd : Int32) (mv : Int32) (gm : Int32) (lt : Option Nat) (w1 : Int32) (w2 : Int32) (dg : Int32) (t1 : Int32) (t2 : Int32) (am : Int32) (kk : Int32) (sg : Int32) (f : Nat → Int32) (a1 : Int32) (r : Nat × Int64) (hyp : fL_takenOf t1 t2 a1 = some r) : LM l yL_takenOf cL_takenOf 3 [(0, 6, 7, 15)] 8 131 1 6 g [(hg, .inr (8, [.ref st, .ref tr, .ref sa, .ref sk, .ref sv, .ref mt, .ref ml, .ref ad, .ref kw])), (st, .inr (7, [.ref b, .int sd, .int mv, .int gm, va_rf lt, .int w1, .int w2, .int dg, .int t1, .int t2, .int am])), (b, .inr (1, [.ref ca, .int kk, .int sg])), (ca, .inl (g.2.1, 49, .inl f))] (OZ g zc zp [] none) [.ref hg, .int a1] (some (.long r.2)) (fun na => [(hg, .inr (8, [.ref st, .ref tr, .ref sa, .ref sk, .ref sv, .ref mt, .ref ml, .ref ad, .ref kw])), (st, .inr (7, [.ref b, .int sd, .int mv, .int gm, va_rf lt, .int w1, .int w2, .int dg, .int t1, .int t2, .int am])), (b, .inr (1, [.ref ca, .int kk, .int sg])), (ca, .inl (g.2.1, 49, .inl f))]) := by
  refine metL_intro (by decide) rfl ?_
  intro p e R s m args below meth c Q A hRf hRl hRc hRs hQ hx hb hml hr hlocks htab hown hts hin hE hSR hNC hA hO H locs hP hD hS ls hl
  have hown : s.vm.findClass "HallGuardsLaw" = some m.cls := hown
  have hl : lv_has ls 3 [(0, .ref hg), (1, .int a1)] := hl
  unfold fL_takenOf at hyp
  refine lv_aload_n hx hb dL_takenOf_0 rfl (lv_at hl 0 rfl) ?_
  refine lv_iload_n hx hb dL_takenOf_1 rfl (lv_at hl 1 rfl) ?_
  obtain ⟨r_1, hr_1, hyp⟩ := opt_e hyp
  refine xV (As := [.int a1]) (rest := []) ⟨hx, hb, hml, hown, hts⟩ hE hSR (mX8_takenOf l hl0 g hg st b ca tr sa sk sv mt ml ad kw zc zp sd mv gm lt w1 w2 dg t1 t2 am kk sg f a1 r_1 hr_1) (OZ_ok g zc zp _ _) hO cf_X8_takenOf im_X8_takenOf se_X8_takenOf ml_L_107 ⟨Nat.le_trans (Nat.le_of_ble_eq_true rfl) hRf, Nat.le_trans (Nat.le_of_ble_eq_true rfl) hRl⟩ hP hD hS hA [0, 1, 2, 3] [] rfl (wr := []) rfl ⟨by decide, by decide⟩ (by decide) (ci := 8) (q0 := 0) rfl rfl rfl rfl hl.1 rfl (Nat.le_of_ble_eq_true rfl) dL_takenOf_2 ⟨Nat.le_trans (Nat.le_of_ble_eq_true rfl) hRc, Nat.le_trans (Nat.le_of_ble_eq_true rfl) hRs⟩ (fun hk0 na_2 H locs hna_2 hP hD hS => ?_) (fun hk0 na9 q9 ce9 H locs hna9 hP hD hS hce hcv hcl => ?_)
  rotate_left 1
  · replace hyp := ite_f hk0 hyp
    have hP : va_P g.1 vwCl [(hg, .inr (8, [.ref st, .ref tr, .ref sa, .ref sk, .ref sv, .ref mt, .ref ml, .ref ad, .ref kw])), (st, .inr (7, [.ref b, .int sd, .int mv, .int gm, va_rf lt, .int w1, .int w2, .int dg, .int t1, .int t2, .int am])), (b, .inr (1, [.ref ca, .int kk, .int sg])), (ca, .inl (g.2.1, 49, .inl f))] H := hP
    have hD : va_D A [(hg, .inr (8, [.ref st, .ref tr, .ref sa, .ref sk, .ref sv, .ref mt, .ref ml, .ref ad, .ref kw])), (st, .inr (7, [.ref b, .int sd, .int mv, .int gm, va_rf lt, .int w1, .int w2, .int dg, .int t1, .int t2, .int am])), (b, .inr (1, [.ref ca, .int kk, .int sg])), (ca, .inl (g.2.1, 49, .inl f))] := hD
    by_cases h_3 : r_1.1 = 1
    · replace hyp := ite_t h_3 hyp
      rw [h_3] at hcl
      refine catK 0 ⟨0, 6, 7, 15⟩ 1 htab rfl hown (fun z hz => nomatch hz) (by decide) (by decide) hts hSR cl_L_15 cast_1 hce hcv hcl ?_
      refine lv_astore_n (lv' := [(2, .ref q9), (0, .ref hg), (1, .int a1)]) hx hb dL_takenOf_7 rfl hl (by decide) rfl (fun ls hl => ?_)
      refine lv_ldc2 (v := (-9000000000000000001)) hx hb hown (hts _ ct_L_17) dL_takenOf_8 ?_
      have hyp := some_e hyp
      subst hyp
      subst hQ
      exact xrJ (na := s.heap.size) hx hb hr hlocks (Nat.le_refl _) hP hD hS (Nat.le_of_ble_eq_true rfl) (Nat.le_of_ble_eq_true rfl) dL_takenOf_11
    · replace hyp := ite_f h_3 hyp
      cases hyp
  replace hyp := ite_t hk0 hyp
  have hP : va_P g.1 vwCl [(hg, .inr (8, [.ref st, .ref tr, .ref sa, .ref sk, .ref sv, .ref mt, .ref ml, .ref ad, .ref kw])), (st, .inr (7, [.ref b, .int sd, .int mv, .int gm, va_rf lt, .int w1, .int w2, .int dg, .int t1, .int t2, .int am])), (b, .inr (1, [.ref ca, .int kk, .int sg])), (ca, .inl (g.2.1, 49, .inl f))] H := hP
  have hD : va_D A [(hg, .inr (8, [.ref st, .ref tr, .ref sa, .ref sk, .ref sv, .ref mt, .ref ml, .ref ad, .ref kw])), (st, .inr (7, [.ref b, .int sd, .int mv, .int gm, va_rf lt, .int w1, .int w2, .int dg, .int t1, .int t2, .int am])), (b, .inr (1, [.ref ca, .int kk, .int sg])), (ca, .inl (g.2.1, 49, .inl f))] := hD
  refine lv_i2l hx hb dL_takenOf_5 rfl ?_
  have hyp := some_e hyp
  subst hyp
  subst hQ
  exact xrJ (na := s.heap.size) hx hb hr hlocks (Nat.le_refl _) hP hD hS (Nat.le_of_ble_eq_true rfl) (Nat.le_of_ble_eq_true rfl) dL_takenOf_6

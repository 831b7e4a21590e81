def fX9_pieceAt (fnow : Nat → Int32) (a1 : Int32) (a2 : Int32) : Option (Int32 × Int32) :=
  (fX9_isCell a1 a2).bind (fun (r_1 : Int32) => jn (fun (t_2 : Int32) => (fX9_refused t_2).bind (fun (r_4 : Int32 × Int32) => if r_4.1 = 0 then (grd (inB ((7 * a1) + a2) 61) (some (fnow ((7 * a1) + a2).toNatClampNeg, r_4.2))) else (some (0, r_4.2)))) (fun J_3 => if r_1 = 0 then (J_3 1) else (J_3 0)))
set_option maxRecDepth 100000 in
set_option maxHeartbeats 4000000 in
theorem mX9_pieceAt (l : Launch) (g : GE) (o pn pt pr pw pb pk pi pf pl pe pm px : Nat) (refu : Int32) (nst : Int32) (nn : Int32) (len : Int32) (pos : Int32) (gd : Int32) (ps : Int32) (sm : Int32) (fnow : Nat → Int32) (a1 : Int32) (a2 : Int32) (r : Int32 × Int32) (hyp : fX9_pieceAt fnow a1 a2 = some r) : WM l yX9_pieceAt cX9_pieceAt 3 (some .int) 2 46 g [(o, .inr (9, [.int refu, .ref pn, .ref pt, .ref pr, .ref pw, .ref pb, .int nst, .ref pk, .ref pi, .ref pf, .ref pl, .ref pe, .ref pm, .int nn, .ref px, .int len, .int pos, .int gd, .int ps, .int sm])), (pn, .inl (g.2.1, 61, .inl fnow))] [.ref o, .int a1, .int a2] (some (.int r.1)) [(o, .inr (9, [.int r.2, .ref pn, .ref pt, .ref pr, .ref pw, .ref pb, .int nst, .ref pk, .ref pi, .ref pf, .ref pl, .ref pe, .ref pm, .int nn, .ref px, .int len, .int pos, .int gd, .int ps, .int sm])), (pn, .inl (g.2.1, 61, .inl fnow))] := by
  refine metW_intro (by decide) rfl ?_
  intro p e R s m args below meth c Q A hRf hRl hQ hx hb hml hr hlocks hown hts hin hE hA H locs hP hD hS ls hl
  have hown : s.vm.findClass "HallGuardsModel" = some m.cls := hown
  have hl : lv_has ls 3 [(0, .ref o), (1, .int a1), (2, .int a2)] := hl
  unfold fX9_pieceAt at hyp
  refine lv_aload_n hx hb dX9_pieceAt_0 rfl (lv_at hl 0 rfl) ?_
  refine lv_iload_n hx hb dX9_pieceAt_1 rfl (lv_at hl 1 rfl) ?_
  refine lv_iload_n hx hb dX9_pieceAt_2 rfl (lv_at hl 2 rfl) ?_
  obtain ⟨r_1, hr_1, hyp⟩ := opt_e hyp
  refine pS (As := [.int a1, .int a2]) (rest := [.ref o]) ⟨hx, hb, hml, hown, hts⟩ hE (mX9_isCell l g a1 a2 r_1 hr_1) cf_X9_isCell st_X9_isCell ml_X9_64 ⟨Nat.le_trans (Nat.le_of_ble_eq_true rfl) hRf, Nat.le_trans (Nat.le_of_ble_eq_true rfl) hRl⟩ (va_P_nil) rfl hl.1 rfl (Nat.le_of_ble_eq_true rfl) dX9_pieceAt_3 ⟨Nat.zero_le _, Nat.zero_le _⟩ ?_
  obtain ⟨J_3, eJ_3, hyp⟩ := jn_e hyp
  have kJ_3 : ∀ (t_2 : Int32) (H : Heap) (locs : List Loc) (ls : Array Slot), J_3 t_2 = some r → lv_has ls 3 [(0, .ref o), (1, .int a1), (2, .int a2)] → va_P g.1 vwCl [(o, .inr (9, [.int refu, .ref pn, .ref pt, .ref pr, .ref pw, .ref pb, .int nst, .ref pk, .ref pi, .ref pf, .ref pl, .ref pe, .ref pm, .int nn, .ref px, .int len, .int pos, .int gd, .int ps, .int sm])), (pn, .inl (g.2.1, 61, .inl fnow))] H → va_D A [(o, .inr (9, [.int refu, .ref pn, .ref pt, .ref pr, .ref pw, .ref pb, .int nst, .ref pk, .ref pi, .ref pf, .ref pl, .ref pe, .ref pm, .int nn, .ref px, .int len, .int pos, .int gd, .int ps, .int sm])), (pn, .inl (g.2.1, 61, .inl fnow))] → va_S A s.heap H locs → W p l e R s m args below meth c H locs 0 0 Q (F0 m 14 ls [.int t_2, .ref o]) := by
    intro t_2 H locs  ls hyp hl hP hD hS
    replace hyp := (congrFun (eJ_3) t_2).symm.trans hyp
    obtain ⟨r_4, hr_4, hyp⟩ := opt_e hyp
    refine wV (As := [.int t_2]) (rest := []) ⟨hx, hb, hml, hown, hts⟩ hE (mX9_refused l g o pn pt pr pw pb pk pi pf pl pe pm px refu nst nn len pos gd ps sm t_2 r_4 hr_4) cf_X9_refused im_X9_refused se_X9_refused ml_X9_153 ⟨Nat.le_trans (Nat.le_of_ble_eq_true rfl) hRf, Nat.le_trans (Nat.le_of_ble_eq_true rfl) hRl⟩ hP hD hS hA [0] [1] rfl (wr := [(pn, .inl (g.2.1, 61, .inl fnow))]) rfl ⟨by decide, by decide⟩ (by decide) (ci := 9) (q0 := 0) rfl rfl rfl rfl hl.1 rfl (Nat.le_of_ble_eq_true rfl) dX9_pieceAt_14 ⟨Nat.zero_le _, Nat.zero_le _⟩ (fun H locs hP hD hS => ?_)
    have hP : va_P g.1 vwCl [(pn, .inl (g.2.1, 61, .inl fnow)), (o, .inr (9, [.int r_4.2, .ref pn, .ref pt, .ref pr, .ref pw, .ref pb, .int nst, .ref pk, .ref pi, .ref pf, .ref pl, .ref pe, .ref pm, .int nn, .ref px, .int len, .int pos, .int gd, .int ps, .int sm]))] H := hP
    have hD : va_D A [(pn, .inl (g.2.1, 61, .inl fnow)), (o, .inr (9, [.int r_4.2, .ref pn, .ref pt, .ref pr, .ref pw, .ref pb, .int nst, .ref pk, .ref pi, .ref pf, .ref pl, .ref pe, .ref pm, .int nn, .ref px, .int len, .int pos, .int gd, .int ps, .int sm]))] := hD
    refine lv_if_eq (tgt := 24) hx hb dX9_pieceAt_17 (by decide) (fun h_5 => ?_) (fun h_5 => ?_)
    · replace hyp := ite_t h_5 hyp
      refine lv_aload_n hx hb dX9_pieceAt_24 rfl (lv_at hl 0 rfl) ?_
      refine gf_X9_7 hx hb hts hown hE hP 1 rfl rfl dX9_pieceAt_25 ?_
      refine lv_bipush (v := 7) hx hb dX9_pieceAt_28 (by decide) ?_
      refine lv_iload_n hx hb dX9_pieceAt_30 rfl (lv_at hl 1 rfl) ?_
      refine lv_imul hx hb dX9_pieceAt_31 ?_
      refine lv_iload_n hx hb dX9_pieceAt_32 rfl (lv_at hl 2 rfl) ?_
      refine lv_iadd hx hb dX9_pieceAt_33 ?_
      obtain ⟨hi, hyp⟩ := grd_e hyp
      refine va_iald hx hb hE.1 hP 0 0 rfl rfl (inB_vp hi) dX9_pieceAt_34 ?_
      have hP : va_P g.1 vwCl [(o, .inr (9, [.int r_4.2, .ref pn, .ref pt, .ref pr, .ref pw, .ref pb, .int nst, .ref pk, .ref pi, .ref pf, .ref pl, .ref pe, .ref pm, .int nn, .ref px, .int len, .int pos, .int gd, .int ps, .int sm])), (pn, .inl (g.2.1, 61, .inl fnow))] H := hP.sub [1, 0] rfl
      have hD : va_D A [(o, .inr (9, [.int r_4.2, .ref pn, .ref pt, .ref pr, .ref pw, .ref pb, .int nst, .ref pk, .ref pi, .ref pf, .ref pl, .ref pe, .ref pm, .int nn, .ref px, .int len, .int pos, .int gd, .int ps, .int sm])), (pn, .inl (g.2.1, 61, .inl fnow))] := hD.sub [1, 0] (by decide) rfl
      have hyp := some_e hyp
      subst hyp
      subst hQ
      exact rwI hx hb hr hlocks  hP hD hS dX9_pieceAt_35
    · replace hyp := ite_f h_5 hyp
      refine lv_iconst (v := 0) hx hb dX9_pieceAt_20 (by decide) ?_
      refine lv_goto (tgt := 35) hx hb dX9_pieceAt_21 (by decide) ?_
      have hP : va_P g.1 vwCl [(o, .inr (9, [.int r_4.2, .ref pn, .ref pt, .ref pr, .ref pw, .ref pb, .int nst, .ref pk, .ref pi, .ref pf, .ref pl, .ref pe, .ref pm, .int nn, .ref px, .int len, .int pos, .int gd, .int ps, .int sm])), (pn, .inl (g.2.1, 61, .inl fnow))] H := hP.sub [1, 0] rfl
      have hD : va_D A [(o, .inr (9, [.int r_4.2, .ref pn, .ref pt, .ref pr, .ref pw, .ref pb, .int nst, .ref pk, .ref pi, .ref pf, .ref pl, .ref pe, .ref pm, .int nn, .ref px, .int len, .int pos, .int gd, .int ps, .int sm])), (pn, .inl (g.2.1, 61, .inl fnow))] := hD.sub [1, 0] (by decide) rfl
      have hyp := some_e hyp
      subst hyp
      subst hQ
      exact rwI hx hb hr hlocks  hP hD hS dX9_pieceAt_35
  refine lv_if_eq (tgt := 13) hx hb dX9_pieceAt_6 (by decide) (fun h_6 => ?_) (fun h_6 => ?_)
  · replace hyp := ite_t h_6 hyp
    refine lv_iconst (v := 1) hx hb dX9_pieceAt_13 (by decide) ?_
    exact kJ_3 1 H locs ls hyp hl hP hD hS
  · replace hyp := ite_f h_6 hyp
    refine lv_iconst (v := 0) hx hb dX9_pieceAt_9 (by decide) ?_
    refine lv_goto (tgt := 14) hx hb dX9_pieceAt_10 (by decide) ?_
    exact kJ_3 0 H locs ls hyp hl hP hD hS

def fX9_noSide (a1 : Int32) : Option (Int32 × Int32) :=
  (fX9_isSide a1).bind (fun (r_1 : Int32) => jn (fun (t_2 : Int32) => (fX9_refused t_2).bind (fun (r_4 : Int32 × Int32) => grd (is01 r_4.1) (some (r_4.1, r_4.2)))) (fun J_3 => if r_1 = 0 then (J_3 1) else (J_3 0)))
set_option maxRecDepth 100000 in
set_option maxHeartbeats 4000000 in
theorem mX9_noSide (l : Launch) (g : GE) (o pn pt pr pw pb pk pi pf pl pe pm px : Nat) (refu : Int32) (nst : Int32) (nn : Int32) (len : Int32) (pos : Int32) (gd : Int32) (ps : Int32) (sm : Int32) (a1 : Int32) (r : Int32 × Int32) (hyp : fX9_noSide a1 = some r) : WM l yX9_noSide cX9_noSide 2 (some .boolean) 2 45 g [(o, .inr (9, [.int refu, .ref pn, .ref pt, .ref pr, .ref pw, .ref pb, .int nst, .ref pk, .ref pi, .ref pf, .ref pl, .ref pe, .ref pm, .int nn, .ref px, .int len, .int pos, .int gd, .int ps, .int sm]))] [.ref o, .int a1] (some (.int r.1)) [(o, .inr (9, [.int r.2, .ref pn, .ref pt, .ref pr, .ref pw, .ref pb, .int nst, .ref pk, .ref pi, .ref pf, .ref pl, .ref pe, .ref pm, .int nn, .ref px, .int len, .int pos, .int gd, .int ps, .int sm]))] := by
  refine metW_intro (by decide) rfl ?_
  intro p e R s m args below meth c Q A hRf hRl hQ hx hb hml hr hlocks hown hts hin hE hA H locs hP hD hS ls hl
  have hown : s.vm.findClass "HallGuardsModel" = some m.cls := hown
  have hl : lv_has ls 2 [(0, .ref o), (1, .int a1)] := hl
  unfold fX9_noSide at hyp
  refine lv_aload_n hx hb dX9_noSide_0 rfl (lv_at hl 0 rfl) ?_
  refine lv_iload_n hx hb dX9_noSide_1 rfl (lv_at hl 1 rfl) ?_
  obtain ⟨r_1, hr_1, hyp⟩ := opt_e hyp
  refine pS (As := [.int a1]) (rest := [.ref o]) ⟨hx, hb, hml, hown, hts⟩ hE (mX9_isSide l g a1 r_1 hr_1) cf_X9_isSide st_X9_isSide ml_X9_156 ⟨Nat.le_trans (Nat.le_of_ble_eq_true rfl) hRf, Nat.le_trans (Nat.le_of_ble_eq_true rfl) hRl⟩ (va_P_nil) rfl hl.1 rfl (Nat.le_of_ble_eq_true rfl) dX9_noSide_2 ⟨Nat.zero_le _, Nat.zero_le _⟩ ?_
  obtain ⟨J_3, eJ_3, hyp⟩ := jn_e hyp
  have kJ_3 : ∀ (t_2 : Int32) (H : Heap) (locs : List Loc) (ls : Array Slot), J_3 t_2 = some r → lv_has ls 2 [] → va_P g.1 vwCl [(o, .inr (9, [.int refu, .ref pn, .ref pt, .ref pr, .ref pw, .ref pb, .int nst, .ref pk, .ref pi, .ref pf, .ref pl, .ref pe, .ref pm, .int nn, .ref px, .int len, .int pos, .int gd, .int ps, .int sm]))] H → va_D A [(o, .inr (9, [.int refu, .ref pn, .ref pt, .ref pr, .ref pw, .ref pb, .int nst, .ref pk, .ref pi, .ref pf, .ref pl, .ref pe, .ref pm, .int nn, .ref px, .int len, .int pos, .int gd, .int ps, .int sm]))] → va_S A s.heap H locs → W p l e R s m args below meth c H locs 0 0 Q (F0 m 13 ls [.int t_2, .ref o]) := by
    intro t_2 H locs  ls hyp hl hP hD hS
    replace hyp := (congrFun (eJ_3) t_2).symm.trans hyp
    obtain ⟨r_4, hr_4, hyp⟩ := opt_e hyp
    refine wV (As := [.int t_2]) (rest := []) ⟨hx, hb, hml, hown, hts⟩ hE (mX9_refused l g o pn pt pr pw pb pk pi pf pl pe pm px refu nst nn len pos gd ps sm t_2 r_4 hr_4) cf_X9_refused im_X9_refused se_X9_refused ml_X9_153 ⟨Nat.le_trans (Nat.le_of_ble_eq_true rfl) hRf, Nat.le_trans (Nat.le_of_ble_eq_true rfl) hRl⟩ hP hD hS hA [0] [] rfl (wr := []) rfl ⟨by decide, by decide⟩ (by decide) (ci := 9) (q0 := 0) rfl rfl rfl rfl hl.1 rfl (Nat.le_of_ble_eq_true rfl) dX9_noSide_13 ⟨Nat.zero_le _, Nat.zero_le _⟩ (fun H locs hP hD hS => ?_)
    have hP : va_P g.1 vwCl [(o, .inr (9, [.int r_4.2, .ref pn, .ref pt, .ref pr, .ref pw, .ref pb, .int nst, .ref pk, .ref pi, .ref pf, .ref pl, .ref pe, .ref pm, .int nn, .ref px, .int len, .int pos, .int gd, .int ps, .int sm]))] H := hP
    have hD : va_D A [(o, .inr (9, [.int r_4.2, .ref pn, .ref pt, .ref pr, .ref pw, .ref pb, .int nst, .ref pk, .ref pi, .ref pf, .ref pl, .ref pe, .ref pm, .int nn, .ref px, .int len, .int pos, .int gd, .int ps, .int sm]))] := hD
    obtain ⟨h01, hyp⟩ := grd_e hyp
    have hyp := some_e hyp
    subst hyp
    subst hQ
    exact rwZ hx hb hr hlocks (is01_e h01)  hP hD hS dX9_noSide_16
  refine lv_if_eq (tgt := 12) hx hb dX9_noSide_5 (by decide) (fun h_5 => ?_) (fun h_5 => ?_)
  · replace hyp := ite_t h_5 hyp
    refine lv_iconst (v := 1) hx hb dX9_noSide_12 (by decide) ?_
    exact kJ_3 1 H locs ls hyp (lv_sub hl [] rfl) hP hD hS
  · replace hyp := ite_f h_5 hyp
    refine lv_iconst (v := 0) hx hb dX9_noSide_8 (by decide) ?_
    refine lv_goto (tgt := 13) hx hb dX9_noSide_9 (by decide) ?_
    exact kJ_3 0 H locs ls hyp (lv_sub hl [] rfl) hP hD hS

def fX9_piecesOf (fnow : Nat → Int32) (a1 : Int32) : Option (Int32 × Int32) :=
  (fX9_noSide a1).bind (fun (r_1 : Int32 × Int32) => if r_1.1 = 0 then ((fX9_count fnow a1).bind (fun (r_3 : Int32) => some (r_3, r_1.2))) else (some (0, r_1.2)))
set_option maxRecDepth 100000 in
set_option maxHeartbeats 4000000 in
theorem mX9_piecesOf (l : Launch) (g : GE) (o pn pt pr pw pb pk pi pf pl pe pm px : Nat) (refu : Int32) (nst : Int32) (nn : Int32) (len : Int32) (pos : Int32) (gd : Int32) (ps : Int32) (sm : Int32) (fnow : Nat → Int32) (a1 : Int32) (r : Int32 × Int32) (hyp : fX9_piecesOf fnow a1 = some r) : WM l yX9_piecesOf cX9_piecesOf 2 (some .int) 3 66 g [(o, .inr (9, [.int refu, .ref pn, .ref pt, .ref pr, .ref pw, .ref pb, .int nst, .ref pk, .ref pi, .ref pf, .ref pl, .ref pe, .ref pm, .int nn, .ref px, .int len, .int pos, .int gd, .int ps, .int sm])), (pn, .inl (g.2.1, 61, .inl fnow))] [.ref o, .int a1] (some (.int r.1)) [(o, .inr (9, [.int r.2, .ref pn, .ref pt, .ref pr, .ref pw, .ref pb, .int nst, .ref pk, .ref pi, .ref pf, .ref pl, .ref pe, .ref pm, .int nn, .ref px, .int len, .int pos, .int gd, .int ps, .int sm])), (pn, .inl (g.2.1, 61, .inl fnow))] := by
  refine metW_intro (by decide) rfl ?_
  intro p e R s m args below meth c Q A hRf hRl hQ hx hb hml hr hlocks hown hts hin hE hA H locs hP hD hS ls hl
  have hown : s.vm.findClass "HallGuardsModel" = some m.cls := hown
  have hl : lv_has ls 2 [(0, .ref o), (1, .int a1)] := hl
  unfold fX9_piecesOf at hyp
  refine lv_aload_n hx hb dX9_piecesOf_0 rfl (lv_at hl 0 rfl) ?_
  refine lv_iload_n hx hb dX9_piecesOf_1 rfl (lv_at hl 1 rfl) ?_
  obtain ⟨r_1, hr_1, hyp⟩ := opt_e hyp
  refine wV (As := [.int a1]) (rest := []) ⟨hx, hb, hml, hown, hts⟩ hE (mX9_noSide l g o pn pt pr pw pb pk pi pf pl pe pm px refu nst nn len pos gd ps sm a1 r_1 hr_1) cf_X9_noSide im_X9_noSide se_X9_noSide ml_X9_209 ⟨Nat.le_trans (Nat.le_of_ble_eq_true rfl) hRf, Nat.le_trans (Nat.le_of_ble_eq_true rfl) hRl⟩ hP hD hS hA [0] [1] rfl (wr := [(pn, .inl (g.2.1, 61, .inl fnow))]) rfl ⟨by decide, by decide⟩ (by decide) (ci := 9) (q0 := 0) rfl rfl rfl rfl hl.1 rfl (Nat.le_of_ble_eq_true rfl) dX9_piecesOf_2 ⟨Nat.zero_le _, Nat.zero_le _⟩ (fun H locs hP hD hS => ?_)
  have hP : va_P g.1 vwCl [(pn, .inl (g.2.1, 61, .inl fnow)), (o, .inr (9, [.int r_1.2, .ref pn, .ref pt, .ref pr, .ref pw, .ref pb, .int nst, .ref pk, .ref pi, .ref pf, .ref pl, .ref pe, .ref pm, .int nn, .ref px, .int len, .int pos, .int gd, .int ps, .int sm]))] H := hP
  have hD : va_D A [(pn, .inl (g.2.1, 61, .inl fnow)), (o, .inr (9, [.int r_1.2, .ref pn, .ref pt, .ref pr, .ref pw, .ref pb, .int nst, .ref pk, .ref pi, .ref pf, .ref pl, .ref pe, .ref pm, .int nn, .ref px, .int len, .int pos, .int gd, .int ps, .int sm]))] := hD
  refine lv_if_eq (tgt := 12) hx hb dX9_piecesOf_5 (by decide) (fun h_2 => ?_) (fun h_2 => ?_)
  · replace hyp := ite_t h_2 hyp
    refine lv_aload_n hx hb dX9_piecesOf_12 rfl (lv_at hl 0 rfl) ?_
    refine gf_X9_7 hx hb hts hown hE hP 1 rfl rfl dX9_piecesOf_13 ?_
    refine lv_iload_n hx hb dX9_piecesOf_16 rfl (lv_at hl 1 rfl) ?_
    obtain ⟨r_3, hr_3, hyp⟩ := opt_e hyp
    refine pS (As := [.ref pn, .int a1]) (rest := []) ⟨hx, hb, hml, hown, hts⟩ hE (mX9_count l g pn fnow a1 r_3 hr_3) cf_X9_count st_X9_count ml_X9_212 ⟨Nat.le_trans (Nat.le_of_ble_eq_true rfl) hRf, Nat.le_trans (Nat.le_of_ble_eq_true rfl) hRl⟩ (hP.sub (ws' := [(pn, .inl (g.2.1, 61, .inl fnow))]) [0] rfl) rfl hl.1 rfl (Nat.le_of_ble_eq_true rfl) dX9_piecesOf_17 ⟨Nat.zero_le _, Nat.zero_le _⟩ ?_
    have hP : va_P g.1 vwCl [(o, .inr (9, [.int r_1.2, .ref pn, .ref pt, .ref pr, .ref pw, .ref pb, .int nst, .ref pk, .ref pi, .ref pf, .ref pl, .ref pe, .ref pm, .int nn, .ref px, .int len, .int pos, .int gd, .int ps, .int sm])), (pn, .inl (g.2.1, 61, .inl fnow))] H := hP.sub [1, 0] rfl
    have hD : va_D A [(o, .inr (9, [.int r_1.2, .ref pn, .ref pt, .ref pr, .ref pw, .ref pb, .int nst, .ref pk, .ref pi, .ref pf, .ref pl, .ref pe, .ref pm, .int nn, .ref px, .int len, .int pos, .int gd, .int ps, .int sm])), (pn, .inl (g.2.1, 61, .inl fnow))] := hD.sub [1, 0] (by decide) rfl
    have hyp := some_e hyp
    subst hyp
    subst hQ
    exact rwI hx hb hr hlocks  hP hD hS dX9_piecesOf_20
  · replace hyp := ite_f h_2 hyp
    refine lv_iconst (v := 0) hx hb dX9_piecesOf_8 (by decide) ?_
    refine lv_goto (tgt := 20) hx hb dX9_piecesOf_9 (by decide) ?_
    have hP : va_P g.1 vwCl [(o, .inr (9, [.int r_1.2, .ref pn, .ref pt, .ref pr, .ref pw, .ref pb, .int nst, .ref pk, .ref pi, .ref pf, .ref pl, .ref pe, .ref pm, .int nn, .ref px, .int len, .int pos, .int gd, .int ps, .int sm])), (pn, .inl (g.2.1, 61, .inl fnow))] H := hP.sub [1, 0] rfl
    have hD : va_D A [(o, .inr (9, [.int r_1.2, .ref pn, .ref pt, .ref pr, .ref pw, .ref pb, .int nst, .ref pk, .ref pi, .ref pf, .ref pl, .ref pe, .ref pm, .int nn, .ref px, .int len, .int pos, .int gd, .int ps, .int sm])), (pn, .inl (g.2.1, 61, .inl fnow))] := hD.sub [1, 0] (by decide) rfl
    have hyp := some_e hyp
    subst hyp
    subst hQ
    exact rwI hx hb hr hlocks  hP hD hS dX9_piecesOf_20

def fX9_kingAt (fnow : Nat → Int32) : Option (Int32 × Int32) :=
  (fX9_king fnow).bind (fun (r_1 : Int32) => jn (fun (t_2 : Int32) => (fX9_refused t_2).bind (fun (r_4 : Int32 × Int32) => if r_4.1 = 0 then ((fX9_king fnow).bind (fun (r_6 : Int32) => some (r_6, r_4.2))) else (some (0, r_4.2)))) (fun J_3 => if r_1 = (-1) then (J_3 1) else (J_3 0)))
set_option maxRecDepth 100000 in
set_option maxHeartbeats 4000000 in
theorem mX9_kingAt (l : Launch) (g : GE) (o pn pt pr pw pb pk pi pf pl pe pm px : Nat) (refu : Int32) (nst : Int32) (nn : Int32) (len : Int32) (pos : Int32) (gd : Int32) (ps : Int32) (sm : Int32) (fnow : Nat → Int32) (r : Int32 × Int32) (hyp : fX9_kingAt fnow = some r) : WM l yX9_kingAt cX9_kingAt 1 (some .int) 1 21 g [(o, .inr (9, [.int refu, .ref pn, .ref pt, .ref pr, .ref pw, .ref pb, .int nst, .ref pk, .ref pi, .ref pf, .ref pl, .ref pe, .ref pm, .int nn, .ref px, .int len, .int pos, .int gd, .int ps, .int sm])), (pn, .inl (g.2.1, 61, .inl fnow))] [.ref o] (some (.int r.1)) [(o, .inr (9, [.int r.2, .ref pn, .ref pt, .ref pr, .ref pw, .ref pb, .int nst, .ref pk, .ref pi, .ref pf, .ref pl, .ref pe, .ref pm, .int nn, .ref px, .int len, .int pos, .int gd, .int ps, .int sm])), (pn, .inl (g.2.1, 61, .inl fnow))] := by
  refine metW_intro (by decide) rfl ?_
  intro p e R s m args below meth c Q A hRf hRl hQ hx hb hml hr hlocks hown hts hin hE hA H locs hP hD hS ls hl
  have hown : s.vm.findClass "HallGuardsModel" = some m.cls := hown
  have hl : lv_has ls 1 [(0, .ref o)] := hl
  unfold fX9_kingAt at hyp
  refine lv_aload_n hx hb dX9_kingAt_0 rfl (lv_at hl 0 rfl) ?_
  refine lv_aload_n hx hb dX9_kingAt_1 rfl (lv_at hl 0 rfl) ?_
  refine gf_X9_7 hx hb hts hown hE hP 0 rfl rfl dX9_kingAt_2 ?_
  obtain ⟨r_1, hr_1, hyp⟩ := opt_e hyp
  refine pS (As := [.ref pn]) (rest := [.ref o]) ⟨hx, hb, hml, hown, hts⟩ hE (mX9_king l g pn fnow r_1 hr_1) cf_X9_king st_X9_king ml_X9_98 ⟨Nat.le_trans (Nat.le_of_ble_eq_true rfl) hRf, Nat.le_trans (Nat.le_of_ble_eq_true rfl) hRl⟩ (hP.sub (ws' := [(pn, .inl (g.2.1, 61, .inl fnow))]) [1] rfl) rfl hl.1 rfl (Nat.le_of_ble_eq_true rfl) dX9_kingAt_5 ⟨Nat.zero_le _, Nat.zero_le _⟩ ?_
  refine lv_iconst (v := (-1)) hx hb dX9_kingAt_8 (by decide) ?_
  obtain ⟨J_3, eJ_3, hyp⟩ := jn_e hyp
  have kJ_3 : ∀ (t_2 : Int32) (H : Heap) (locs : List Loc) (ls : Array Slot), J_3 t_2 = some r → lv_has ls 1 [(0, .ref o)] → va_P g.1 vwCl [(o, .inr (9, [.int refu, .ref pn, .ref pt, .ref pr, .ref pw, .ref pb, .int nst, .ref pk, .ref pi, .ref pf, .ref pl, .ref pe, .ref pm, .int nn, .ref px, .int len, .int pos, .int gd, .int ps, .int sm])), (pn, .inl (g.2.1, 61, .inl fnow))] H → va_D A [(o, .inr (9, [.int refu, .ref pn, .ref pt, .ref pr, .ref pw, .ref pb, .int nst, .ref pk, .ref pi, .ref pf, .ref pl, .ref pe, .ref pm, .int nn, .ref px, .int len, .int pos, .int gd, .int ps, .int sm])), (pn, .inl (g.2.1, 61, .inl fnow))] → va_S A s.heap H locs → W p l e R s m args below meth c H locs 0 0 Q (F0 m 17 ls [.int t_2, .ref o]) := by
    intro t_2 H locs  ls hyp hl hP hD hS
    replace hyp := (congrFun (eJ_3) t_2).symm.trans hyp
    obtain ⟨r_4, hr_4, hyp⟩ := opt_e hyp
    refine wV (As := [.int t_2]) (rest := []) ⟨hx, hb, hml, hown, hts⟩ hE (mX9_refused l g o pn pt pr pw pb pk pi pf pl pe pm px refu nst nn len pos gd ps sm t_2 r_4 hr_4) cf_X9_refused im_X9_refused se_X9_refused ml_X9_153 ⟨Nat.le_trans (Nat.le_of_ble_eq_true rfl) hRf, Nat.le_trans (Nat.le_of_ble_eq_true rfl) hRl⟩ hP hD hS hA [0] [1] rfl (wr := [(pn, .inl (g.2.1, 61, .inl fnow))]) rfl ⟨by decide, by decide⟩ (by decide) (ci := 9) (q0 := 0) rfl rfl rfl rfl hl.1 rfl (Nat.le_of_ble_eq_true rfl) dX9_kingAt_17 ⟨Nat.zero_le _, Nat.zero_le _⟩ (fun H locs hP hD hS => ?_)
    have hP : va_P g.1 vwCl [(pn, .inl (g.2.1, 61, .inl fnow)), (o, .inr (9, [.int r_4.2, .ref pn, .ref pt, .ref pr, .ref pw, .ref pb, .int nst, .ref pk, .ref pi, .ref pf, .ref pl, .ref pe, .ref pm, .int nn, .ref px, .int len, .int pos, .int gd, .int ps, .int sm]))] H := hP
    have hD : va_D A [(pn, .inl (g.2.1, 61, .inl fnow)), (o, .inr (9, [.int r_4.2, .ref pn, .ref pt, .ref pr, .ref pw, .ref pb, .int nst, .ref pk, .ref pi, .ref pf, .ref pl, .ref pe, .ref pm, .int nn, .ref px, .int len, .int pos, .int gd, .int ps, .int sm]))] := hD
    refine lv_if_eq (tgt := 27) hx hb dX9_kingAt_20 (by decide) (fun h_5 => ?_) (fun h_5 => ?_)
    · replace hyp := ite_t h_5 hyp
      refine lv_aload_n hx hb dX9_kingAt_27 rfl (lv_at hl 0 rfl) ?_
      refine gf_X9_7 hx hb hts hown hE hP 1 rfl rfl dX9_kingAt_28 ?_
      obtain ⟨r_6, hr_6, hyp⟩ := opt_e hyp
      refine pS (As := [.ref pn]) (rest := []) ⟨hx, hb, hml, hown, hts⟩ hE (mX9_king l g pn fnow r_6 hr_6) cf_X9_king st_X9_king ml_X9_98 ⟨Nat.le_trans (Nat.le_of_ble_eq_true rfl) hRf, Nat.le_trans (Nat.le_of_ble_eq_true rfl) hRl⟩ (hP.sub (ws' := [(pn, .inl (g.2.1, 61, .inl fnow))]) [0] rfl) rfl hl.1 rfl (Nat.le_of_ble_eq_true rfl) dX9_kingAt_31 ⟨Nat.zero_le _, Nat.zero_le _⟩ ?_
      have hP : va_P g.1 vwCl [(o, .inr (9, [.int r_4.2, .ref pn, .ref pt, .ref pr, .ref pw, .ref pb, .int nst, .ref pk, .ref pi, .ref pf, .ref pl, .ref pe, .ref pm, .int nn, .ref px, .int len, .int pos, .int gd, .int ps, .int sm])), (pn, .inl (g.2.1, 61, .inl fnow))] H := hP.sub [1, 0] rfl
      have hD : va_D A [(o, .inr (9, [.int r_4.2, .ref pn, .ref pt, .ref pr, .ref pw, .ref pb, .int nst, .ref pk, .ref pi, .ref pf, .ref pl, .ref pe, .ref pm, .int nn, .ref px, .int len, .int pos, .int gd, .int ps, .int sm])), (pn, .inl (g.2.1, 61, .inl fnow))] := hD.sub [1, 0] (by decide) rfl
      have hyp := some_e hyp
      subst hyp
      subst hQ
      exact rwI hx hb hr hlocks  hP hD hS dX9_kingAt_34
    · replace hyp := ite_f h_5 hyp
      refine lv_iconst (v := 0) hx hb dX9_kingAt_23 (by decide) ?_
      refine lv_goto (tgt := 34) hx hb dX9_kingAt_24 (by decide) ?_
      have hP : va_P g.1 vwCl [(o, .inr (9, [.int r_4.2, .ref pn, .ref pt, .ref pr, .ref pw, .ref pb, .int nst, .ref pk, .ref pi, .ref pf, .ref pl, .ref pe, .ref pm, .int nn, .ref px, .int len, .int pos, .int gd, .int ps, .int sm])), (pn, .inl (g.2.1, 61, .inl fnow))] H := hP.sub [1, 0] rfl
      have hD : va_D A [(o, .inr (9, [.int r_4.2, .ref pn, .ref pt, .ref pr, .ref pw, .ref pb, .int nst, .ref pk, .ref pi, .ref pf, .ref pl, .ref pe, .ref pm, .int nn, .ref px, .int len, .int pos, .int gd, .int ps, .int sm])), (pn, .inl (g.2.1, 61, .inl fnow))] := hD.sub [1, 0] (by decide) rfl
      have hyp := some_e hyp
      subst hyp
      subst hQ
      exact rwI hx hb hr hlocks  hP hD hS dX9_kingAt_34
  refine lv_icmp_ne (tgt := 16) hx hb dX9_kingAt_9 (by decide) (fun h_7 => ?_) (fun h_7 => ?_)
  · replace hyp := ite_f h_7 hyp
    refine lv_iconst (v := 0) hx hb dX9_kingAt_16 (by decide) ?_
    exact kJ_3 0 H locs ls hyp hl hP hD hS
  · replace hyp := ite_t h_7 hyp
    refine lv_iconst (v := 1) hx hb dX9_kingAt_12 (by decide) ?_
    refine lv_goto (tgt := 17) hx hb dX9_kingAt_13 (by decide) ?_
    exact kJ_3 1 H locs ls hyp hl hP hD hS

def fX9_isHostile (fnow : Nat → Int32) (a1 : Int32) (a2 : Int32) (a3 : Int32) : Option (Int32 × Int32) :=
  (fX9_isCell a1 a2).bind (fun (r_1 : Int32) => jn (fun (t_2 : Int32) => jn (fun (t_4 : Int32) => (fX9_refused t_4).bind (fun (r_6 : Int32 × Int32) => if r_6.1 = 0 then ((fX9_hostile fnow ((7 * a1) + a2) a3).bind (fun (r_8 : Int32) => if r_8 = 0 then (some (0, r_6.2)) else (some (1, r_6.2)))) else (some (0, r_6.2)))) (fun J_5 => if t_2 = 0 then (J_5 1) else (J_5 0))) (fun J_3 => jn (J_3 0) (fun J_11 => if r_1 = 0 then (J_11) else ((fX9_isSide a3).bind (fun (r_13 : Int32) => if r_13 = 0 then (J_11) else (J_3 1))))))
set_option maxRecDepth 100000 in
set_option maxHeartbeats 4000000 in
theorem mX9_isHostile (l : Launch) (g : GE) (o pn pt pr pw pb pk pi pf pl pe pm px : Nat) (refu : Int32) (nst : Int32) (nn : Int32) (len : Int32) (pos : Int32) (gd : Int32) (ps : Int32) (sm : Int32) (fnow : Nat → Int32) (a1 : Int32) (a2 : Int32) (a3 : Int32) (r : Int32 × Int32) (hyp : fX9_isHostile fnow a1 a2 a3 = some r) : WM l yX9_isHostile cX9_isHostile 5 (some .boolean) 2 46 g [(o, .inr (9, [.int refu, .ref pn, .ref pt, .ref pr, .ref pw, .ref pb, .int nst, .ref pk, .ref pi, .ref pf, .ref pl, .ref pe, .ref pm, .int nn, .ref px, .int len, .int pos, .int gd, .int ps, .int sm])), (pn, .inl (g.2.1, 61, .inl fnow))] [.ref o, .int a1, .int a2, .int a3] (some (.int r.1)) [(o, .inr (9, [.int r.2, .ref pn, .ref pt, .ref pr, .ref pw, .ref pb, .int nst, .ref pk, .ref pi, .ref pf, .ref pl, .ref pe, .ref pm, .int nn, .ref px, .int len, .int pos, .int gd, .int ps, .int sm])), (pn, .inl (g.2.1, 61, .inl fnow))] := by
  refine metW_intro (by decide) rfl ?_
  intro p e R s m args below meth c Q A hRf hRl hQ hx hb hml hr hlocks hown hts hin hE hA H locs hP hD hS ls hl
  have hown : s.vm.findClass "HallGuardsModel" = some m.cls := hown
  have hl : lv_has ls 5 [(0, .ref o), (1, .int a1), (2, .int a2), (3, .int a3)] := hl
  unfold fX9_isHostile at hyp
  refine lv_iload_n hx hb dX9_isHostile_0 rfl (lv_at hl 1 rfl) ?_
  refine lv_iload_n hx hb dX9_isHostile_1 rfl (lv_at hl 2 rfl) ?_
  obtain ⟨r_1, hr_1, hyp⟩ := opt_e hyp
  refine pS (As := [.int a1, .int a2]) (rest := []) ⟨hx, hb, hml, hown, hts⟩ hE (mX9_isCell l g a1 a2 r_1 hr_1) cf_X9_isCell st_X9_isCell ml_X9_64 ⟨Nat.le_trans (Nat.le_of_ble_eq_true rfl) hRf, Nat.le_trans (Nat.le_of_ble_eq_true rfl) hRl⟩ (va_P_nil) rfl hl.1 rfl (Nat.le_of_ble_eq_true rfl) dX9_isHostile_2 ⟨Nat.zero_le _, Nat.zero_le _⟩ ?_
  obtain ⟨J_3, eJ_3, hyp⟩ := jn_e hyp
  have kJ_3 : ∀ (t_2 : Int32) (H : Heap) (locs : List Loc) (ls : Array Slot), J_3 t_2 = some r → lv_has ls 5 [(0, .ref o), (1, .int a1), (2, .int a2), (3, .int a3)] → va_P g.1 vwCl [(o, .inr (9, [.int refu, .ref pn, .ref pt, .ref pr, .ref pw, .ref pb, .int nst, .ref pk, .ref pi, .ref pf, .ref pl, .ref pe, .ref pm, .int nn, .ref px, .int len, .int pos, .int gd, .int ps, .int sm])), (pn, .inl (g.2.1, 61, .inl fnow))] H → va_D A [(o, .inr (9, [.int refu, .ref pn, .ref pt, .ref pr, .ref pw, .ref pb, .int nst, .ref pk, .ref pi, .ref pf, .ref pl, .ref pe, .ref pm, .int nn, .ref px, .int len, .int pos, .int gd, .int ps, .int sm])), (pn, .inl (g.2.1, 61, .inl fnow))] → va_S A s.heap H locs → W p l e R s m args below meth c H locs 0 0 Q (F0 m 20 ls [.int t_2]) := by
    intro t_2 H locs  ls hyp hl hP hD hS
    replace hyp := (congrFun (eJ_3) t_2).symm.trans hyp
    refine lv_istore (lv' := [(4, .int t_2), (0, .ref o), (1, .int a1), (2, .int a2), (3, .int a3)]) hx hb dX9_isHostile_20 hl (by decide) rfl (fun ls hl => ?_)
    refine lv_aload_n hx hb dX9_isHostile_22 rfl (lv_at hl 1 rfl) ?_
    refine lv_iload hx hb dX9_isHostile_23 (lv_at hl 0 rfl) ?_
    obtain ⟨J_5, eJ_5, hyp⟩ := jn_e hyp
    have kJ_5 : ∀ (t_4 : Int32) (H : Heap) (locs : List Loc) (ls : Array Slot), J_5 t_4 = some r → lv_has ls 5 [(0, .ref o), (1, .int a1), (2, .int a2), (3, .int a3)] → va_P g.1 vwCl [(o, .inr (9, [.int refu, .ref pn, .ref pt, .ref pr, .ref pw, .ref pb, .int nst, .ref pk, .ref pi, .ref pf, .ref pl, .ref pe, .ref pm, .int nn, .ref px, .int len, .int pos, .int gd, .int ps, .int sm])), (pn, .inl (g.2.1, 61, .inl fnow))] H → va_D A [(o, .inr (9, [.int refu, .ref pn, .ref pt, .ref pr, .ref pw, .ref pb, .int nst, .ref pk, .ref pi, .ref pf, .ref pl, .ref pe, .ref pm, .int nn, .ref px, .int len, .int pos, .int gd, .int ps, .int sm])), (pn, .inl (g.2.1, 61, .inl fnow))] → va_S A s.heap H locs → W p l e R s m args below meth c H locs 0 0 Q (F0 m 33 ls [.int t_4, .ref o]) := by
      intro t_4 H locs  ls hyp hl hP hD hS
      replace hyp := (congrFun (eJ_5) t_4).symm.trans hyp
      obtain ⟨r_6, hr_6, hyp⟩ := opt_e hyp
      refine wV (As := [.int t_4]) (rest := []) ⟨hx, hb, hml, hown, hts⟩ hE (mX9_refused l g o pn pt pr pw pb pk pi pf pl pe pm px refu nst nn len pos gd ps sm t_4 r_6 hr_6) cf_X9_refused im_X9_refused se_X9_refused ml_X9_153 ⟨Nat.le_trans (Nat.le_of_ble_eq_true rfl) hRf, Nat.le_trans (Nat.le_of_ble_eq_true rfl) hRl⟩ hP hD hS hA [0] [1] rfl (wr := [(pn, .inl (g.2.1, 61, .inl fnow))]) rfl ⟨by decide, by decide⟩ (by decide) (ci := 9) (q0 := 0) rfl rfl rfl rfl hl.1 rfl (Nat.le_of_ble_eq_true rfl) dX9_isHostile_33 ⟨Nat.zero_le _, Nat.zero_le _⟩ (fun H locs hP hD hS => ?_)
      have hP : va_P g.1 vwCl [(pn, .inl (g.2.1, 61, .inl fnow)), (o, .inr (9, [.int r_6.2, .ref pn, .ref pt, .ref pr, .ref pw, .ref pb, .int nst, .ref pk, .ref pi, .ref pf, .ref pl, .ref pe, .ref pm, .int nn, .ref px, .int len, .int pos, .int gd, .int ps, .int sm]))] H := hP
      have hD : va_D A [(pn, .inl (g.2.1, 61, .inl fnow)), (o, .inr (9, [.int r_6.2, .ref pn, .ref pt, .ref pr, .ref pw, .ref pb, .int nst, .ref pk, .ref pi, .ref pf, .ref pl, .ref pe, .ref pm, .int nn, .ref px, .int len, .int pos, .int gd, .int ps, .int sm]))] := hD
      refine lv_if_ne (tgt := 60) hx hb dX9_isHostile_36 (by decide) (fun h_7 => ?_) (fun h_7 => ?_)
      · replace hyp := ite_f h_7 hyp
        refine lv_iconst (v := 0) hx hb dX9_isHostile_60 (by decide) ?_
        have hP : va_P g.1 vwCl [(o, .inr (9, [.int r_6.2, .ref pn, .ref pt, .ref pr, .ref pw, .ref pb, .int nst, .ref pk, .ref pi, .ref pf, .ref pl, .ref pe, .ref pm, .int nn, .ref px, .int len, .int pos, .int gd, .int ps, .int sm])), (pn, .inl (g.2.1, 61, .inl fnow))] H := hP.sub [1, 0] rfl
        have hD : va_D A [(o, .inr (9, [.int r_6.2, .ref pn, .ref pt, .ref pr, .ref pw, .ref pb, .int nst, .ref pk, .ref pi, .ref pf, .ref pl, .ref pe, .ref pm, .int nn, .ref px, .int len, .int pos, .int gd, .int ps, .int sm])), (pn, .inl (g.2.1, 61, .inl fnow))] := hD.sub [1, 0] (by decide) rfl
        have hyp := some_e hyp
        subst hyp
        subst hQ
        exact rwZ hx hb hr hlocks (Or.inl rfl)  hP hD hS dX9_isHostile_61
      · replace hyp := ite_t h_7 hyp
        refine lv_aload_n hx hb dX9_isHostile_39 rfl (lv_at hl 0 rfl) ?_
        refine gf_X9_7 hx hb hts hown hE hP 1 rfl rfl dX9_isHostile_40 ?_
        refine lv_bipush (v := 7) hx hb dX9_isHostile_43 (by decide) ?_
        refine lv_iload_n hx hb dX9_isHostile_45 rfl (lv_at hl 1 rfl) ?_
        refine lv_imul hx hb dX9_isHostile_46 ?_
        refine lv_iload_n hx hb dX9_isHostile_47 rfl (lv_at hl 2 rfl) ?_
        refine lv_iadd hx hb dX9_isHostile_48 ?_
        refine lv_iload_n hx hb dX9_isHostile_49 rfl (lv_at hl 3 rfl) ?_
        obtain ⟨r_8, hr_8, hyp⟩ := opt_e hyp
        refine pS (As := [.ref pn, .int ((7 * a1) + a2), .int a3]) (rest := []) ⟨hx, hb, hml, hown, hts⟩ hE (mX9_hostile l g pn fnow ((7 * a1) + a2) a3 r_8 hr_8) cf_X9_hostile st_X9_hostile ml_X9_87 ⟨Nat.le_trans (Nat.le_of_ble_eq_true rfl) hRf, Nat.le_trans (Nat.le_of_ble_eq_true rfl) hRl⟩ (hP.sub (ws' := [(pn, .inl (g.2.1, 61, .inl fnow))]) [0] rfl) rfl hl.1 rfl (Nat.le_of_ble_eq_true rfl) dX9_isHostile_50 ⟨Nat.zero_le _, Nat.zero_le _⟩ ?_
        refine lv_if_eq (tgt := 60) hx hb dX9_isHostile_53 (by decide) (fun h_9 => ?_) (fun h_9 => ?_)
        · replace hyp := ite_t h_9 hyp
          refine lv_iconst (v := 0) hx hb dX9_isHostile_60 (by decide) ?_
          have hP : va_P g.1 vwCl [(o, .inr (9, [.int r_6.2, .ref pn, .ref pt, .ref pr, .ref pw, .ref pb, .int nst, .ref pk, .ref pi, .ref pf, .ref pl, .ref pe, .ref pm, .int nn, .ref px, .int len, .int pos, .int gd, .int ps, .int sm])), (pn, .inl (g.2.1, 61, .inl fnow))] H := hP.sub [1, 0] rfl
          have hD : va_D A [(o, .inr (9, [.int r_6.2, .ref pn, .ref pt, .ref pr, .ref pw, .ref pb, .int nst, .ref pk, .ref pi, .ref pf, .ref pl, .ref pe, .ref pm, .int nn, .ref px, .int len, .int pos, .int gd, .int ps, .int sm])), (pn, .inl (g.2.1, 61, .inl fnow))] := hD.sub [1, 0] (by decide) rfl
          have hyp := some_e hyp
          subst hyp
          subst hQ
          exact rwZ hx hb hr hlocks (Or.inl rfl)  hP hD hS dX9_isHostile_61
        · replace hyp := ite_f h_9 hyp
          refine lv_iconst (v := 1) hx hb dX9_isHostile_56 (by decide) ?_
          refine lv_goto (tgt := 61) hx hb dX9_isHostile_57 (by decide) ?_
          have hP : va_P g.1 vwCl [(o, .inr (9, [.int r_6.2, .ref pn, .ref pt, .ref pr, .ref pw, .ref pb, .int nst, .ref pk, .ref pi, .ref pf, .ref pl, .ref pe, .ref pm, .int nn, .ref px, .int len, .int pos, .int gd, .int ps, .int sm])), (pn, .inl (g.2.1, 61, .inl fnow))] H := hP.sub [1, 0] rfl
          have hD : va_D A [(o, .inr (9, [.int r_6.2, .ref pn, .ref pt, .ref pr, .ref pw, .ref pb, .int nst, .ref pk, .ref pi, .ref pf, .ref pl, .ref pe, .ref pm, .int nn, .ref px, .int len, .int pos, .int gd, .int ps, .int sm])), (pn, .inl (g.2.1, 61, .inl fnow))] := hD.sub [1, 0] (by decide) rfl
          have hyp := some_e hyp
          subst hyp
          subst hQ
          exact rwZ hx hb hr hlocks (Or.inr rfl)  hP hD hS dX9_isHostile_61
    refine lv_if_eq (tgt := 32) hx hb dX9_isHostile_25 (by decide) (fun h_10 => ?_) (fun h_10 => ?_)
    · replace hyp := ite_t h_10 hyp
      refine lv_iconst (v := 1) hx hb dX9_isHostile_32 (by decide) ?_
      exact kJ_5 1 H locs ls hyp (lv_sub hl [1, 2, 3, 4] rfl) hP hD hS
    · replace hyp := ite_f h_10 hyp
      refine lv_iconst (v := 0) hx hb dX9_isHostile_28 (by decide) ?_
      refine lv_goto (tgt := 33) hx hb dX9_isHostile_29 (by decide) ?_
      exact kJ_5 0 H locs ls hyp (lv_sub hl [1, 2, 3, 4] rfl) hP hD hS
  obtain ⟨J_11, eJ_11, hyp⟩ := jn_e hyp
  have kJ_11 : ∀ (H : Heap) (locs : List Loc) (ls : Array Slot), J_11 = some r → lv_has ls 5 [(0, .ref o), (1, .int a1), (2, .int a2), (3, .int a3)] → va_P g.1 vwCl [(o, .inr (9, [.int refu, .ref pn, .ref pt, .ref pr, .ref pw, .ref pb, .int nst, .ref pk, .ref pi, .ref pf, .ref pl, .ref pe, .ref pm, .int nn, .ref px, .int len, .int pos, .int gd, .int ps, .int sm])), (pn, .inl (g.2.1, 61, .inl fnow))] H → va_D A [(o, .inr (9, [.int refu, .ref pn, .ref pt, .ref pr, .ref pw, .ref pb, .int nst, .ref pk, .ref pi, .ref pf, .ref pl, .ref pe, .ref pm, .int nn, .ref px, .int len, .int pos, .int gd, .int ps, .int sm])), (pn, .inl (g.2.1, 61, .inl fnow))] → va_S A s.heap H locs → W p l e R s m args below meth c H locs 0 0 Q (F0 m 19 ls []) := by
    intro H locs  ls hyp hl hP hD hS
    replace hyp := (eJ_11).symm.trans hyp
    refine lv_iconst (v := 0) hx hb dX9_isHostile_19 (by decide) ?_
    exact kJ_3 0 H locs ls hyp hl hP hD hS
  refine lv_if_eq (tgt := 19) hx hb dX9_isHostile_5 (by decide) (fun h_12 => ?_) (fun h_12 => ?_)
  · replace hyp := ite_t h_12 hyp
    exact kJ_11 H locs ls hyp hl hP hD hS
  · replace hyp := ite_f h_12 hyp
    refine lv_iload_n hx hb dX9_isHostile_8 rfl (lv_at hl 3 rfl) ?_
    obtain ⟨r_13, hr_13, hyp⟩ := opt_e hyp
    refine pS (As := [.int a3]) (rest := []) ⟨hx, hb, hml, hown, hts⟩ hE (mX9_isSide l g a3 r_13 hr_13) cf_X9_isSide st_X9_isSide ml_X9_156 ⟨Nat.le_trans (Nat.le_of_ble_eq_true rfl) hRf, Nat.le_trans (Nat.le_of_ble_eq_true rfl) hRl⟩ (va_P_nil) rfl hl.1 rfl (Nat.le_of_ble_eq_true rfl) dX9_isHostile_9 ⟨Nat.zero_le _, Nat.zero_le _⟩ ?_
    refine lv_if_eq (tgt := 19) hx hb dX9_isHostile_12 (by decide) (fun h_14 => ?_) (fun h_14 => ?_)
    · replace hyp := ite_t h_14 hyp
      exact kJ_11 H locs ls hyp hl hP hD hS
    · replace hyp := ite_f h_14 hyp
      refine lv_iconst (v := 1) hx hb dX9_isHostile_15 (by decide) ?_
      refine lv_goto (tgt := 20) hx hb dX9_isHostile_16 (by decide) ?_
      exact kJ_3 1 H locs ls hyp hl hP hD hS

def fX9_tell (fnow : Nat → Int32) (a1 : Int32) : Option (Int32 × Int32) :=
  grd (inB a1 61) (some (fnow a1.toNatClampNeg, 0))
set_option maxRecDepth 100000 in
set_option maxHeartbeats 4000000 in
theorem mX9_tell (l : Launch) (g : GE) (o pn pt pr pw pb pk pi pf pl pe pm px : Nat) (refu : Int32) (nst : Int32) (nn : Int32) (len : Int32) (pos : Int32) (gd : Int32) (ps : Int32) (sm : Int32) (fnow : Nat → Int32) (a1 : Int32) (r : Int32 × Int32) (hyp : fX9_tell fnow a1 = some r) : WM l yX9_tell cX9_tell 2 (some .int) 0 0 g [(o, .inr (9, [.int refu, .ref pn, .ref pt, .ref pr, .ref pw, .ref pb, .int nst, .ref pk, .ref pi, .ref pf, .ref pl, .ref pe, .ref pm, .int nn, .ref px, .int len, .int pos, .int gd, .int ps, .int sm])), (pn, .inl (g.2.1, 61, .inl fnow))] [.ref o, .int a1] (some (.int r.1)) [(o, .inr (9, [.int r.2, .ref pn, .ref pt, .ref pr, .ref pw, .ref pb, .int nst, .ref pk, .ref pi, .ref pf, .ref pl, .ref pe, .ref pm, .int nn, .ref px, .int len, .int pos, .int gd, .int ps, .int sm])), (pn, .inl (g.2.1, 61, .inl fnow))] := by
  refine metW_intro (by decide) rfl ?_
  intro p e R s m args below meth c Q A hRf hRl hQ hx hb hml hr hlocks hown hts hin hE hA H locs hP hD hS ls hl
  have hown : s.vm.findClass "HallGuardsModel" = some m.cls := hown
  have hl : lv_has ls 2 [(0, .ref o), (1, .int a1)] := hl
  unfold fX9_tell at hyp
  refine lv_aload_n hx hb dX9_tell_0 rfl (lv_at hl 0 rfl) ?_
  refine lv_iconst (v := 0) hx hb dX9_tell_1 (by decide) ?_
  refine pf_X9_52 hx hb hts hown hE hP hD hS 0 rfl rfl dX9_tell_2 (fun H locs hP hD hS => ?_)
  have hP : va_P g.1 vwCl [(o, .inr (9, [.int 0, .ref pn, .ref pt, .ref pr, .ref pw, .ref pb, .int nst, .ref pk, .ref pi, .ref pf, .ref pl, .ref pe, .ref pm, .int nn, .ref px, .int len, .int pos, .int gd, .int ps, .int sm])), (pn, .inl (g.2.1, 61, .inl fnow))] H := hP
  have hD : va_D A [(o, .inr (9, [.int 0, .ref pn, .ref pt, .ref pr, .ref pw, .ref pb, .int nst, .ref pk, .ref pi, .ref pf, .ref pl, .ref pe, .ref pm, .int nn, .ref px, .int len, .int pos, .int gd, .int ps, .int sm])), (pn, .inl (g.2.1, 61, .inl fnow))] := hD
  refine lv_aload_n hx hb dX9_tell_5 rfl (lv_at hl 0 rfl) ?_
  refine gf_X9_7 hx hb hts hown hE hP 0 rfl rfl dX9_tell_6 ?_
  refine lv_iload_n hx hb dX9_tell_9 rfl (lv_at hl 1 rfl) ?_
  obtain ⟨hi, hyp⟩ := grd_e hyp
  refine va_iald hx hb hE.1 hP 1 0 rfl rfl (inB_vp hi) dX9_tell_10 ?_
  have hyp := some_e hyp
  subst hyp
  subst hQ
  exact rwI hx hb hr hlocks  hP hD hS dX9_tell_11

def fX9_isStrong (fnow : Nat → Int32) : Option (Int32 × Int32) :=
  (fX9_tell fnow 52).bind (fun (r_1 : Int32 × Int32) => if r_1.1 = 1 then (some (1, r_1.2)) else (some (0, r_1.2)))
set_option maxRecDepth 100000 in
set_option maxHeartbeats 4000000 in
theorem mX9_isStrong (l : Launch) (g : GE) (o pn pt pr pw pb pk pi pf pl pe pm px : Nat) (refu : Int32) (nst : Int32) (nn : Int32) (len : Int32) (pos : Int32) (gd : Int32) (ps : Int32) (sm : Int32) (fnow : Nat → Int32) (r : Int32 × Int32) (hyp : fX9_isStrong fnow = some r) : WM l yX9_isStrong cX9_isStrong 1 (some .boolean) 1 21 g [(o, .inr (9, [.int refu, .ref pn, .ref pt, .ref pr, .ref pw, .ref pb, .int nst, .ref pk, .ref pi, .ref pf, .ref pl, .ref pe, .ref pm, .int nn, .ref px, .int len, .int pos, .int gd, .int ps, .int sm])), (pn, .inl (g.2.1, 61, .inl fnow))] [.ref o] (some (.int r.1)) [(o, .inr (9, [.int r.2, .ref pn, .ref pt, .ref pr, .ref pw, .ref pb, .int nst, .ref pk, .ref pi, .ref pf, .ref pl, .ref pe, .ref pm, .int nn, .ref px, .int len, .int pos, .int gd, .int ps, .int sm])), (pn, .inl (g.2.1, 61, .inl fnow))] := by
  refine metW_intro (by decide) rfl ?_
  intro p e R s m args below meth c Q A hRf hRl hQ hx hb hml hr hlocks hown hts hin hE hA H locs hP hD hS ls hl
  have hown : s.vm.findClass "HallGuardsModel" = some m.cls := hown
  have hl : lv_has ls 1 [(0, .ref o)] := hl
  unfold fX9_isStrong at hyp
  refine lv_aload_n hx hb dX9_isStrong_0 rfl (lv_at hl 0 rfl) ?_
  refine lv_bipush (v := 52) hx hb dX9_isStrong_1 (by decide) ?_
  obtain ⟨r_1, hr_1, hyp⟩ := opt_e hyp
  refine wV (As := [.int 52]) (rest := []) ⟨hx, hb, hml, hown, hts⟩ hE (mX9_tell l g o pn pt pr pw pb pk pi pf pl pe pm px refu nst nn len pos gd ps sm fnow 52 r_1 hr_1) cf_X9_tell im_X9_tell se_X9_tell ml_X9_215 ⟨Nat.le_trans (Nat.le_of_ble_eq_true rfl) hRf, Nat.le_trans (Nat.le_of_ble_eq_true rfl) hRl⟩ hP hD hS hA [0, 1] [] rfl (wr := []) rfl ⟨by decide, by decide⟩ (by decide) (ci := 9) (q0 := 0) rfl rfl rfl rfl hl.1 rfl (Nat.le_of_ble_eq_true rfl) dX9_isStrong_3 ⟨Nat.zero_le _, Nat.zero_le _⟩ (fun H locs hP hD hS => ?_)
  have hP : va_P g.1 vwCl [(o, .inr (9, [.int r_1.2, .ref pn, .ref pt, .ref pr, .ref pw, .ref pb, .int nst, .ref pk, .ref pi, .ref pf, .ref pl, .ref pe, .ref pm, .int nn, .ref px, .int len, .int pos, .int gd, .int ps, .int sm])), (pn, .inl (g.2.1, 61, .inl fnow))] H := hP
  have hD : va_D A [(o, .inr (9, [.int r_1.2, .ref pn, .ref pt, .ref pr, .ref pw, .ref pb, .int nst, .ref pk, .ref pi, .ref pf, .ref pl, .ref pe, .ref pm, .int nn, .ref px, .int len, .int pos, .int gd, .int ps, .int sm])), (pn, .inl (g.2.1, 61, .inl fnow))] := hD
  refine lv_iconst (v := 1) hx hb dX9_isStrong_6 (by decide) ?_
  refine lv_icmp_ne (tgt := 14) hx hb dX9_isStrong_7 (by decide) (fun h_2 => ?_) (fun h_2 => ?_)
  · replace hyp := ite_f h_2 hyp
    refine lv_iconst (v := 0) hx hb dX9_isStrong_14 (by decide) ?_
    have hyp := some_e hyp
    subst hyp
    subst hQ
    exact rwZ hx hb hr hlocks (Or.inl rfl)  hP hD hS dX9_isStrong_15
  · replace hyp := ite_t h_2 hyp
    refine lv_iconst (v := 1) hx hb dX9_isStrong_10 (by decide) ?_
    refine lv_goto (tgt := 15) hx hb dX9_isStrong_11 (by decide) ?_
    have hyp := some_e hyp
    subst hyp
    subst hQ
    exact rwZ hx hb hr hlocks (Or.inr rfl)  hP hD hS dX9_isStrong_15

def fX9_standing (fnow : Nat → Int32) : Option (Int32 × Int32) :=
  (fX9_tell fnow 50).bind (fun (r_1 : Int32 × Int32) => some (r_1.1, r_1.2))
set_option maxRecDepth 100000 in
set_option maxHeartbeats 4000000 in
theorem mX9_standing (l : Launch) (g : GE) (o pn pt pr pw pb pk pi pf pl pe pm px : Nat) (refu : Int32) (nst : Int32) (nn : Int32) (len : Int32) (pos : Int32) (gd : Int32) (ps : Int32) (sm : Int32) (fnow : Nat → Int32) (r : Int32 × Int32) (hyp : fX9_standing fnow = some r) : WM l yX9_standing cX9_standing 1 (some .int) 1 21 g [(o, .inr (9, [.int refu, .ref pn, .ref pt, .ref pr, .ref pw, .ref pb, .int nst, .ref pk, .ref pi, .ref pf, .ref pl, .ref pe, .ref pm, .int nn, .ref px, .int len, .int pos, .int gd, .int ps, .int sm])), (pn, .inl (g.2.1, 61, .inl fnow))] [.ref o] (some (.int r.1)) [(o, .inr (9, [.int r.2, .ref pn, .ref pt, .ref pr, .ref pw, .ref pb, .int nst, .ref pk, .ref pi, .ref pf, .ref pl, .ref pe, .ref pm, .int nn, .ref px, .int len, .int pos, .int gd, .int ps, .int sm])), (pn, .inl (g.2.1, 61, .inl fnow))] := by
  refine metW_intro (by decide) rfl ?_
  intro p e R s m args below meth c Q A hRf hRl hQ hx hb hml hr hlocks hown hts hin hE hA H locs hP hD hS ls hl
  have hown : s.vm.findClass "HallGuardsModel" = some m.cls := hown
  have hl : lv_has ls 1 [(0, .ref o)] := hl
  unfold fX9_standing at hyp
  refine lv_aload_n hx hb dX9_standing_0 rfl (lv_at hl 0 rfl) ?_
  refine lv_bipush (v := 50) hx hb dX9_standing_1 (by decide) ?_
  obtain ⟨r_1, hr_1, hyp⟩ := opt_e hyp
  refine wV (As := [.int 50]) (rest := []) ⟨hx, hb, hml, hown, hts⟩ hE (mX9_tell l g o pn pt pr pw pb pk pi pf pl pe pm px refu nst nn len pos gd ps sm fnow 50 r_1 hr_1) cf_X9_tell im_X9_tell se_X9_tell ml_X9_215 ⟨Nat.le_trans (Nat.le_of_ble_eq_true rfl) hRf, Nat.le_trans (Nat.le_of_ble_eq_true rfl) hRl⟩ hP hD hS hA [0, 1] [] rfl (wr := []) rfl ⟨by decide, by decide⟩ (by decide) (ci := 9) (q0 := 0) rfl rfl rfl rfl hl.1 rfl (Nat.le_of_ble_eq_true rfl) dX9_standing_3 ⟨Nat.zero_le _, Nat.zero_le _⟩ (fun H locs hP hD hS => ?_)
  have hP : va_P g.1 vwCl [(o, .inr (9, [.int r_1.2, .ref pn, .ref pt, .ref pr, .ref pw, .ref pb, .int nst, .ref pk, .ref pi, .ref pf, .ref pl, .ref pe, .ref pm, .int nn, .ref px, .int len, .int pos, .int gd, .int ps, .int sm])), (pn, .inl (g.2.1, 61, .inl fnow))] H := hP
  have hD : va_D A [(o, .inr (9, [.int r_1.2, .ref pn, .ref pt, .ref pr, .ref pw, .ref pb, .int nst, .ref pk, .ref pi, .ref pf, .ref pl, .ref pe, .ref pm, .int nn, .ref px, .int len, .int pos, .int gd, .int ps, .int sm])), (pn, .inl (g.2.1, 61, .inl fnow))] := hD
  have hyp := some_e hyp
  subst hyp
  subst hQ
  exact rwI hx hb hr hlocks  hP hD hS dX9_standing_6

def fX9_turn (fnow : Nat → Int32) : Option (Int32 × Int32) :=
  grd (inB 50 61) (jn (fun (t_1 : Int32) => (fX9_refused t_1).bind (fun (r_3 : Int32 × Int32) => if r_3.1 = 0 then (grd (inB 49 61) (some (fnow (49 : Int32).toNatClampNeg, r_3.2))) else (some (0, r_3.2)))) (fun J_2 => if (fnow (50 : Int32).toNatClampNeg) = 1 then (J_2 0) else (J_2 1)))
set_option maxRecDepth 100000 in
set_option maxHeartbeats 4000000 in
theorem mX9_turn (l : Launch) (g : GE) (o pn pt pr pw pb pk pi pf pl pe pm px : Nat) (refu : Int32) (nst : Int32) (nn : Int32) (len : Int32) (pos : Int32) (gd : Int32) (ps : Int32) (sm : Int32) (fnow : Nat → Int32) (r : Int32 × Int32) (hyp : fX9_turn fnow = some r) : WM l yX9_turn cX9_turn 1 (some .int) 1 21 g [(o, .inr (9, [.int refu, .ref pn, .ref pt, .ref pr, .ref pw, .ref pb, .int nst, .ref pk, .ref pi, .ref pf, .ref pl, .ref pe, .ref pm, .int nn, .ref px, .int len, .int pos, .int gd, .int ps, .int sm])), (pn, .inl (g.2.1, 61, .inl fnow))] [.ref o] (some (.int r.1)) [(o, .inr (9, [.int r.2, .ref pn, .ref pt, .ref pr, .ref pw, .ref pb, .int nst, .ref pk, .ref pi, .ref pf, .ref pl, .ref pe, .ref pm, .int nn, .ref px, .int len, .int pos, .int gd, .int ps, .int sm])), (pn, .inl (g.2.1, 61, .inl fnow))] := by
  refine metW_intro (by decide) rfl ?_
  intro p e R s m args below meth c Q A hRf hRl hQ hx hb hml hr hlocks hown hts hin hE hA H locs hP hD hS ls hl
  have hown : s.vm.findClass "HallGuardsModel" = some m.cls := hown
  have hl : lv_has ls 1 [(0, .ref o)] := hl
  unfold fX9_turn at hyp
  refine lv_aload_n hx hb dX9_turn_0 rfl (lv_at hl 0 rfl) ?_
  refine lv_aload_n hx hb dX9_turn_1 rfl (lv_at hl 0 rfl) ?_
  refine gf_X9_7 hx hb hts hown hE hP 0 rfl rfl dX9_turn_2 ?_
  refine lv_bipush (v := 50) hx hb dX9_turn_5 (by decide) ?_
  obtain ⟨hi, hyp⟩ := grd_e hyp
  refine va_iald hx hb hE.1 hP 1 0 rfl rfl (inB_vp hi) dX9_turn_7 ?_
  refine lv_iconst (v := 1) hx hb dX9_turn_8 (by decide) ?_
  obtain ⟨J_2, eJ_2, hyp⟩ := jn_e hyp
  have kJ_2 : ∀ (t_1 : Int32) (H : Heap) (locs : List Loc) (ls : Array Slot), J_2 t_1 = some r → lv_has ls 1 [(0, .ref o)] → va_P g.1 vwCl [(o, .inr (9, [.int refu, .ref pn, .ref pt, .ref pr, .ref pw, .ref pb, .int nst, .ref pk, .ref pi, .ref pf, .ref pl, .ref pe, .ref pm, .int nn, .ref px, .int len, .int pos, .int gd, .int ps, .int sm])), (pn, .inl (g.2.1, 61, .inl fnow))] H → va_D A [(o, .inr (9, [.int refu, .ref pn, .ref pt, .ref pr, .ref pw, .ref pb, .int nst, .ref pk, .ref pi, .ref pf, .ref pl, .ref pe, .ref pm, .int nn, .ref px, .int len, .int pos, .int gd, .int ps, .int sm])), (pn, .inl (g.2.1, 61, .inl fnow))] → va_S A s.heap H locs → W p l e R s m args below meth c H locs 0 0 Q (F0 m 17 ls [.int t_1, .ref o]) := by
    intro t_1 H locs  ls hyp hl hP hD hS
    replace hyp := (congrFun (eJ_2) t_1).symm.trans hyp
    obtain ⟨r_3, hr_3, hyp⟩ := opt_e hyp
    refine wV (As := [.int t_1]) (rest := []) ⟨hx, hb, hml, hown, hts⟩ hE (mX9_refused l g o pn pt pr pw pb pk pi pf pl pe pm px refu nst nn len pos gd ps sm t_1 r_3 hr_3) cf_X9_refused im_X9_refused se_X9_refused ml_X9_153 ⟨Nat.le_trans (Nat.le_of_ble_eq_true rfl) hRf, Nat.le_trans (Nat.le_of_ble_eq_true rfl) hRl⟩ hP hD hS hA [0] [1] rfl (wr := [(pn, .inl (g.2.1, 61, .inl fnow))]) rfl ⟨by decide, by decide⟩ (by decide) (ci := 9) (q0 := 0) rfl rfl rfl rfl hl.1 rfl (Nat.le_of_ble_eq_true rfl) dX9_turn_17 ⟨Nat.zero_le _, Nat.zero_le _⟩ (fun H locs hP hD hS => ?_)
    have hP : va_P g.1 vwCl [(pn, .inl (g.2.1, 61, .inl fnow)), (o, .inr (9, [.int r_3.2, .ref pn, .ref pt, .ref pr, .ref pw, .ref pb, .int nst, .ref pk, .ref pi, .ref pf, .ref pl, .ref pe, .ref pm, .int nn, .ref px, .int len, .int pos, .int gd, .int ps, .int sm]))] H := hP
    have hD : va_D A [(pn, .inl (g.2.1, 61, .inl fnow)), (o, .inr (9, [.int r_3.2, .ref pn, .ref pt, .ref pr, .ref pw, .ref pb, .int nst, .ref pk, .ref pi, .ref pf, .ref pl, .ref pe, .ref pm, .int nn, .ref px, .int len, .int pos, .int gd, .int ps, .int sm]))] := hD
    refine lv_if_eq (tgt := 27) hx hb dX9_turn_20 (by decide) (fun h_4 => ?_) (fun h_4 => ?_)
    · replace hyp := ite_t h_4 hyp
      refine lv_aload_n hx hb dX9_turn_27 rfl (lv_at hl 0 rfl) ?_
      refine gf_X9_7 hx hb hts hown hE hP 1 rfl rfl dX9_turn_28 ?_
      refine lv_bipush (v := 49) hx hb dX9_turn_31 (by decide) ?_
      obtain ⟨hi, hyp⟩ := grd_e hyp
      refine va_iald hx hb hE.1 hP 0 0 rfl rfl (inB_vp hi) dX9_turn_33 ?_
      have hP : va_P g.1 vwCl [(o, .inr (9, [.int r_3.2, .ref pn, .ref pt, .ref pr, .ref pw, .ref pb, .int nst, .ref pk, .ref pi, .ref pf, .ref pl, .ref pe, .ref pm, .int nn, .ref px, .int len, .int pos, .int gd, .int ps, .int sm])), (pn, .inl (g.2.1, 61, .inl fnow))] H := hP.sub [1, 0] rfl
      have hD : va_D A [(o, .inr (9, [.int r_3.2, .ref pn, .ref pt, .ref pr, .ref pw, .ref pb, .int nst, .ref pk, .ref pi, .ref pf, .ref pl, .ref pe, .ref pm, .int nn, .ref px, .int len, .int pos, .int gd, .int ps, .int sm])), (pn, .inl (g.2.1, 61, .inl fnow))] := hD.sub [1, 0] (by decide) rfl
      have hyp := some_e hyp
      subst hyp
      subst hQ
      exact rwI hx hb hr hlocks  hP hD hS dX9_turn_34
    · replace hyp := ite_f h_4 hyp
      refine lv_iconst (v := 0) hx hb dX9_turn_23 (by decide) ?_
      refine lv_goto (tgt := 34) hx hb dX9_turn_24 (by decide) ?_
      have hP : va_P g.1 vwCl [(o, .inr (9, [.int r_3.2, .ref pn, .ref pt, .ref pr, .ref pw, .ref pb, .int nst, .ref pk, .ref pi, .ref pf, .ref pl, .ref pe, .ref pm, .int nn, .ref px, .int len, .int pos, .int gd, .int ps, .int sm])), (pn, .inl (g.2.1, 61, .inl fnow))] H := hP.sub [1, 0] rfl
      have hD : va_D A [(o, .inr (9, [.int r_3.2, .ref pn, .ref pt, .ref pr, .ref pw, .ref pb, .int nst, .ref pk, .ref pi, .ref pf, .ref pl, .ref pe, .ref pm, .int nn, .ref px, .int len, .int pos, .int gd, .int ps, .int sm])), (pn, .inl (g.2.1, 61, .inl fnow))] := hD.sub [1, 0] (by decide) rfl
      have hyp := some_e hyp
      subst hyp
      subst hQ
      exact rwI hx hb hr hlocks  hP hD hS dX9_turn_34
  refine lv_icmp_ne (tgt := 16) hx hb dX9_turn_9 (by decide) (fun h_5 => ?_) (fun h_5 => ?_)
  · replace hyp := ite_f h_5 hyp
    refine lv_iconst (v := 1) hx hb dX9_turn_16 (by decide) ?_
    exact kJ_2 1 H locs ls hyp hl hP hD hS
  · replace hyp := ite_t h_5 hyp
    refine lv_iconst (v := 0) hx hb dX9_turn_12 (by decide) ?_
    refine lv_goto (tgt := 17) hx hb dX9_turn_13 (by decide) ?_
    exact kJ_2 0 H locs ls hyp hl hP hD hS

def fX9_moves (fnow : Nat → Int32) : Option (Int32 × Int32) :=
  (fX9_tell fnow 53).bind (fun (r_1 : Int32 × Int32) => some (r_1.1, r_1.2))
set_option maxRecDepth 100000 in
set_option maxHeartbeats 4000000 in
theorem mX9_moves (l : Launch) (g : GE) (o pn pt pr pw pb pk pi pf pl pe pm px : Nat) (refu : Int32) (nst : Int32) (nn : Int32) (len : Int32) (pos : Int32) (gd : Int32) (ps : Int32) (sm : Int32) (fnow : Nat → Int32) (r : Int32 × Int32) (hyp : fX9_moves fnow = some r) : WM l yX9_moves cX9_moves 1 (some .int) 1 21 g [(o, .inr (9, [.int refu, .ref pn, .ref pt, .ref pr, .ref pw, .ref pb, .int nst, .ref pk, .ref pi, .ref pf, .ref pl, .ref pe, .ref pm, .int nn, .ref px, .int len, .int pos, .int gd, .int ps, .int sm])), (pn, .inl (g.2.1, 61, .inl fnow))] [.ref o] (some (.int r.1)) [(o, .inr (9, [.int r.2, .ref pn, .ref pt, .ref pr, .ref pw, .ref pb, .int nst, .ref pk, .ref pi, .ref pf, .ref pl, .ref pe, .ref pm, .int nn, .ref px, .int len, .int pos, .int gd, .int ps, .int sm])), (pn, .inl (g.2.1, 61, .inl fnow))] := by
  refine metW_intro (by decide) rfl ?_
  intro p e R s m args below meth c Q A hRf hRl hQ hx hb hml hr hlocks hown hts hin hE hA H locs hP hD hS ls hl
  have hown : s.vm.findClass "HallGuardsModel" = some m.cls := hown
  have hl : lv_has ls 1 [(0, .ref o)] := hl
  unfold fX9_moves at hyp
  refine lv_aload_n hx hb dX9_moves_0 rfl (lv_at hl 0 rfl) ?_
  refine lv_bipush (v := 53) hx hb dX9_moves_1 (by decide) ?_
  obtain ⟨r_1, hr_1, hyp⟩ := opt_e hyp
  refine wV (As := [.int 53]) (rest := []) ⟨hx, hb, hml, hown, hts⟩ hE (mX9_tell l g o pn pt pr pw pb pk pi pf pl pe pm px refu nst nn len pos gd ps sm fnow 53 r_1 hr_1) cf_X9_tell im_X9_tell se_X9_tell ml_X9_215 ⟨Nat.le_trans (Nat.le_of_ble_eq_true rfl) hRf, Nat.le_trans (Nat.le_of_ble_eq_true rfl) hRl⟩ hP hD hS hA [0, 1] [] rfl (wr := []) rfl ⟨by decide, by decide⟩ (by decide) (ci := 9) (q0 := 0) rfl rfl rfl rfl hl.1 rfl (Nat.le_of_ble_eq_true rfl) dX9_moves_3 ⟨Nat.zero_le _, Nat.zero_le _⟩ (fun H locs hP hD hS => ?_)
  have hP : va_P g.1 vwCl [(o, .inr (9, [.int r_1.2, .ref pn, .ref pt, .ref pr, .ref pw, .ref pb, .int nst, .ref pk, .ref pi, .ref pf, .ref pl, .ref pe, .ref pm, .int nn, .ref px, .int len, .int pos, .int gd, .int ps, .int sm])), (pn, .inl (g.2.1, 61, .inl fnow))] H := hP
  have hD : va_D A [(o, .inr (9, [.int r_1.2, .ref pn, .ref pt, .ref pr, .ref pw, .ref pb, .int nst, .ref pk, .ref pi, .ref pf, .ref pl, .ref pe, .ref pm, .int nn, .ref px, .int len, .int pos, .int gd, .int ps, .int sm])), (pn, .inl (g.2.1, 61, .inl fnow))] := hD
  have hyp := some_e hyp
  subst hyp
  subst hQ
  exact rwI hx hb hr hlocks  hP hD hS dX9_moves_6

def fX9_timesSeen (fnow : Nat → Int32) (ffst : Nat → Int64) (flst : Nat → Int64) (fbef : Nat → Int32) : Option (Int32 × Int32) :=
  grd (inB 50 61) (jn (fun (t_1 : Int32) => (fX9_refused t_1).bind (fun (r_3 : Int32 × Int32) => if r_3.1 = 0 then ((fX9_seen ffst flst fbef fnow).bind (fun (r_5 : Int32) => some (r_5, r_3.2))) else (some (0, r_3.2)))) (fun J_2 => if (fnow (50 : Int32).toNatClampNeg) = 0 then (J_2 1) else (J_2 0)))
set_option maxRecDepth 100000 in
set_option maxHeartbeats 4000000 in
theorem mX9_timesSeen (l : Launch) (g : GE) (o pn pf pl pe pt pr pw pb pk pi pm px : Nat) (refu : Int32) (nst : Int32) (nn : Int32) (len : Int32) (pos : Int32) (gd : Int32) (ps : Int32) (sm : Int32) (fnow : Nat → Int32) (ffst : Nat → Int64) (flst : Nat → Int64) (fbef : Nat → Int32) (r : Int32 × Int32) (hyp : fX9_timesSeen fnow ffst flst fbef = some r) : WM l yX9_timesSeen cX9_timesSeen 1 (some .int) 1 24 g [(o, .inr (9, [.int refu, .ref pn, .ref pt, .ref pr, .ref pw, .ref pb, .int nst, .ref pk, .ref pi, .ref pf, .ref pl, .ref pe, .ref pm, .int nn, .ref px, .int len, .int pos, .int gd, .int ps, .int sm])), (pn, .inl (g.2.1, 61, .inl fnow)), (pf, .inl (g.2.2.1, 4096, .inr (.inl ffst))), (pl, .inl (g.2.2.1, 4096, .inr (.inl flst))), (pe, .inl (g.2.1, 4096, .inl fbef))] [.ref o] (some (.int r.1)) [(o, .inr (9, [.int r.2, .ref pn, .ref pt, .ref pr, .ref pw, .ref pb, .int nst, .ref pk, .ref pi, .ref pf, .ref pl, .ref pe, .ref pm, .int nn, .ref px, .int len, .int pos, .int gd, .int ps, .int sm])), (pn, .inl (g.2.1, 61, .inl fnow)), (pf, .inl (g.2.2.1, 4096, .inr (.inl ffst))), (pl, .inl (g.2.2.1, 4096, .inr (.inl flst))), (pe, .inl (g.2.1, 4096, .inl fbef))] := by
  refine metW_intro (by decide) rfl ?_
  intro p e R s m args below meth c Q A hRf hRl hQ hx hb hml hr hlocks hown hts hin hE hA H locs hP hD hS ls hl
  have hown : s.vm.findClass "HallGuardsModel" = some m.cls := hown
  have hl : lv_has ls 1 [(0, .ref o)] := hl
  unfold fX9_timesSeen at hyp
  refine lv_aload_n hx hb dX9_timesSeen_0 rfl (lv_at hl 0 rfl) ?_
  refine lv_aload_n hx hb dX9_timesSeen_1 rfl (lv_at hl 0 rfl) ?_
  refine gf_X9_7 hx hb hts hown hE hP 0 rfl rfl dX9_timesSeen_2 ?_
  refine lv_bipush (v := 50) hx hb dX9_timesSeen_5 (by decide) ?_
  obtain ⟨hi, hyp⟩ := grd_e hyp
  refine va_iald hx hb hE.1 hP 1 0 rfl rfl (inB_vp hi) dX9_timesSeen_7 ?_
  obtain ⟨J_2, eJ_2, hyp⟩ := jn_e hyp
  have kJ_2 : ∀ (t_1 : Int32) (H : Heap) (locs : List Loc) (ls : Array Slot), J_2 t_1 = some r → lv_has ls 1 [(0, .ref o)] → va_P g.1 vwCl [(o, .inr (9, [.int refu, .ref pn, .ref pt, .ref pr, .ref pw, .ref pb, .int nst, .ref pk, .ref pi, .ref pf, .ref pl, .ref pe, .ref pm, .int nn, .ref px, .int len, .int pos, .int gd, .int ps, .int sm])), (pn, .inl (g.2.1, 61, .inl fnow)), (pf, .inl (g.2.2.1, 4096, .inr (.inl ffst))), (pl, .inl (g.2.2.1, 4096, .inr (.inl flst))), (pe, .inl (g.2.1, 4096, .inl fbef))] H → va_D A [(o, .inr (9, [.int refu, .ref pn, .ref pt, .ref pr, .ref pw, .ref pb, .int nst, .ref pk, .ref pi, .ref pf, .ref pl, .ref pe, .ref pm, .int nn, .ref px, .int len, .int pos, .int gd, .int ps, .int sm])), (pn, .inl (g.2.1, 61, .inl fnow)), (pf, .inl (g.2.2.1, 4096, .inr (.inl ffst))), (pl, .inl (g.2.2.1, 4096, .inr (.inl flst))), (pe, .inl (g.2.1, 4096, .inl fbef))] → va_S A s.heap H locs → W p l e R s m args below meth c H locs 0 0 Q (F0 m 16 ls [.int t_1, .ref o]) := by
    intro t_1 H locs  ls hyp hl hP hD hS
    replace hyp := (congrFun (eJ_2) t_1).symm.trans hyp
    obtain ⟨r_3, hr_3, hyp⟩ := opt_e hyp
    refine wV (As := [.int t_1]) (rest := []) ⟨hx, hb, hml, hown, hts⟩ hE (mX9_refused l g o pn pt pr pw pb pk pi pf pl pe pm px refu nst nn len pos gd ps sm t_1 r_3 hr_3) cf_X9_refused im_X9_refused se_X9_refused ml_X9_153 ⟨Nat.le_trans (Nat.le_of_ble_eq_true rfl) hRf, Nat.le_trans (Nat.le_of_ble_eq_true rfl) hRl⟩ hP hD hS hA [0] [1, 2, 3, 4] rfl (wr := [(pn, .inl (g.2.1, 61, .inl fnow)), (pf, .inl (g.2.2.1, 4096, .inr (.inl ffst))), (pl, .inl (g.2.2.1, 4096, .inr (.inl flst))), (pe, .inl (g.2.1, 4096, .inl fbef))]) rfl ⟨by decide, by decide⟩ (by decide) (ci := 9) (q0 := 0) rfl rfl rfl rfl hl.1 rfl (Nat.le_of_ble_eq_true rfl) dX9_timesSeen_16 ⟨Nat.zero_le _, Nat.zero_le _⟩ (fun H locs hP hD hS => ?_)
    have hP : va_P g.1 vwCl [(pn, .inl (g.2.1, 61, .inl fnow)), (pf, .inl (g.2.2.1, 4096, .inr (.inl ffst))), (pl, .inl (g.2.2.1, 4096, .inr (.inl flst))), (pe, .inl (g.2.1, 4096, .inl fbef)), (o, .inr (9, [.int r_3.2, .ref pn, .ref pt, .ref pr, .ref pw, .ref pb, .int nst, .ref pk, .ref pi, .ref pf, .ref pl, .ref pe, .ref pm, .int nn, .ref px, .int len, .int pos, .int gd, .int ps, .int sm]))] H := hP
    have hD : va_D A [(pn, .inl (g.2.1, 61, .inl fnow)), (pf, .inl (g.2.2.1, 4096, .inr (.inl ffst))), (pl, .inl (g.2.2.1, 4096, .inr (.inl flst))), (pe, .inl (g.2.1, 4096, .inl fbef)), (o, .inr (9, [.int r_3.2, .ref pn, .ref pt, .ref pr, .ref pw, .ref pb, .int nst, .ref pk, .ref pi, .ref pf, .ref pl, .ref pe, .ref pm, .int nn, .ref px, .int len, .int pos, .int gd, .int ps, .int sm]))] := hD
    refine lv_if_eq (tgt := 26) hx hb dX9_timesSeen_19 (by decide) (fun h_4 => ?_) (fun h_4 => ?_)
    · replace hyp := ite_t h_4 hyp
      refine lv_aload_n hx hb dX9_timesSeen_26 rfl (lv_at hl 0 rfl) ?_
      refine lv_aload_n hx hb dX9_timesSeen_27 rfl (lv_at hl 0 rfl) ?_
      refine gf_X9_7 hx hb hts hown hE hP 4 rfl rfl dX9_timesSeen_28 ?_
      obtain ⟨r_5, hr_5, hyp⟩ := opt_e hyp
      refine pV (As := [.ref pn]) (rest := []) ⟨hx, hb, hml, hown, hts⟩ hE (mX9_seen l g o pf pl pe pn pn pt pr pw pb pk pi pm px r_3.2 nst nn len pos gd ps sm ffst flst fbef fnow r_5 hr_5) cf_X9_seen im_X9_seen se_X9_seen ml_X9_142 ⟨Nat.le_trans (Nat.le_of_ble_eq_true rfl) hRf, Nat.le_trans (Nat.le_of_ble_eq_true rfl) hRl⟩ (hP.sub (ws' := [(o, .inr (9, [.int r_3.2, .ref pn, .ref pt, .ref pr, .ref pw, .ref pb, .int nst, .ref pk, .ref pi, .ref pf, .ref pl, .ref pe, .ref pm, .int nn, .ref px, .int len, .int pos, .int gd, .int ps, .int sm])), (pf, .inl (g.2.2.1, 4096, .inr (.inl ffst))), (pl, .inl (g.2.2.1, 4096, .inr (.inl flst))), (pe, .inl (g.2.1, 4096, .inl fbef)), (pn, .inl (g.2.1, 61, .inl fnow))]) [4, 1, 2, 3, 0] rfl) (ci := 9) (q0 := 0) rfl rfl rfl rfl hl.1 rfl (Nat.le_of_ble_eq_true rfl) dX9_timesSeen_31 ⟨Nat.zero_le _, Nat.zero_le _⟩ ?_
      have hP : va_P g.1 vwCl [(o, .inr (9, [.int r_3.2, .ref pn, .ref pt, .ref pr, .ref pw, .ref pb, .int nst, .ref pk, .ref pi, .ref pf, .ref pl, .ref pe, .ref pm, .int nn, .ref px, .int len, .int pos, .int gd, .int ps, .int sm])), (pn, .inl (g.2.1, 61, .inl fnow)), (pf, .inl (g.2.2.1, 4096, .inr (.inl ffst))), (pl, .inl (g.2.2.1, 4096, .inr (.inl flst))), (pe, .inl (g.2.1, 4096, .inl fbef))] H := hP.sub [4, 0, 1, 2, 3] rfl
      have hD : va_D A [(o, .inr (9, [.int r_3.2, .ref pn, .ref pt, .ref pr, .ref pw, .ref pb, .int nst, .ref pk, .ref pi, .ref pf, .ref pl, .ref pe, .ref pm, .int nn, .ref px, .int len, .int pos, .int gd, .int ps, .int sm])), (pn, .inl (g.2.1, 61, .inl fnow)), (pf, .inl (g.2.2.1, 4096, .inr (.inl ffst))), (pl, .inl (g.2.2.1, 4096, .inr (.inl flst))), (pe, .inl (g.2.1, 4096, .inl fbef))] := hD.sub [4, 0, 1, 2, 3] (by decide) rfl
      have hyp := some_e hyp
      subst hyp
      subst hQ
      exact rwI hx hb hr hlocks  hP hD hS dX9_timesSeen_34
    · replace hyp := ite_f h_4 hyp
      refine lv_iconst (v := 0) hx hb dX9_timesSeen_22 (by decide) ?_
      refine lv_goto (tgt := 34) hx hb dX9_timesSeen_23 (by decide) ?_
      have hP : va_P g.1 vwCl [(o, .inr (9, [.int r_3.2, .ref pn, .ref pt, .ref pr, .ref pw, .ref pb, .int nst, .ref pk, .ref pi, .ref pf, .ref pl, .ref pe, .ref pm, .int nn, .ref px, .int len, .int pos, .int gd, .int ps, .int sm])), (pn, .inl (g.2.1, 61, .inl fnow)), (pf, .inl (g.2.2.1, 4096, .inr (.inl ffst))), (pl, .inl (g.2.2.1, 4096, .inr (.inl flst))), (pe, .inl (g.2.1, 4096, .inl fbef))] H := hP.sub [4, 0, 1, 2, 3] rfl
      have hD : va_D A [(o, .inr (9, [.int r_3.2, .ref pn, .ref pt, .ref pr, .ref pw, .ref pb, .int nst, .ref pk, .ref pi, .ref pf, .ref pl, .ref pe, .ref pm, .int nn, .ref px, .int len, .int pos, .int gd, .int ps, .int sm])), (pn, .inl (g.2.1, 61, .inl fnow)), (pf, .inl (g.2.2.1, 4096, .inr (.inl ffst))), (pl, .inl (g.2.2.1, 4096, .inr (.inl flst))), (pe, .inl (g.2.1, 4096, .inl fbef))] := hD.sub [4, 0, 1, 2, 3] (by decide) rfl
      have hyp := some_e hyp
      subst hyp
      subst hQ
      exact rwI hx hb hr hlocks  hP hD hS dX9_timesSeen_34
  refine lv_if_ne (tgt := 15) hx hb dX9_timesSeen_8 (by decide) (fun h_6 => ?_) (fun h_6 => ?_)
  · replace hyp := ite_f h_6 hyp
    refine lv_iconst (v := 0) hx hb dX9_timesSeen_15 (by decide) ?_
    exact kJ_2 0 H locs ls hyp hl hP hD hS
  · replace hyp := ite_t h_6 hyp
    refine lv_iconst (v := 1) hx hb dX9_timesSeen_11 (by decide) ?_
    refine lv_goto (tgt := 16) hx hb dX9_timesSeen_12 (by decide) ?_
    exact kJ_2 1 H locs ls hyp hl hP hD hS

def fX9_noSquares (a1 : Int32) (a2 : Int32) : Option (Int32 × Int32) :=
  (fX9_isSquare a1).bind (fun (r_1 : Int32) => jn (fun (t_2 : Int32) => (fX9_refused t_2).bind (fun (r_4 : Int32 × Int32) => grd (is01 r_4.1) (some (r_4.1, r_4.2)))) (fun J_3 => jn (J_3 1) (fun J_5 => if r_1 = 0 then (J_5) else ((fX9_isSquare a2).bind (fun (r_7 : Int32) => if r_7 = 0 then (J_5) else (J_3 0))))))
set_option maxRecDepth 100000 in
set_option maxHeartbeats 4000000 in
theorem mX9_noSquares (l : Launch) (g : GE) (o pn pt pr pw pb pk pi pf pl pe pm px : Nat) (refu : Int32) (nst : Int32) (nn : Int32) (len : Int32) (pos : Int32) (gd : Int32) (ps : Int32) (sm : Int32) (a1 : Int32) (a2 : Int32) (r : Int32 × Int32) (hyp : fX9_noSquares a1 a2 = some r) : WM l yX9_noSquares cX9_noSquares 3 (some .boolean) 2 45 g [(o, .inr (9, [.int refu, .ref pn, .ref pt, .ref pr, .ref pw, .ref pb, .int nst, .ref pk, .ref pi, .ref pf, .ref pl, .ref pe, .ref pm, .int nn, .ref px, .int len, .int pos, .int gd, .int ps, .int sm]))] [.ref o, .int a1, .int a2] (some (.int r.1)) [(o, .inr (9, [.int r.2, .ref pn, .ref pt, .ref pr, .ref pw, .ref pb, .int nst, .ref pk, .ref pi, .ref pf, .ref pl, .ref pe, .ref pm, .int nn, .ref px, .int len, .int pos, .int gd, .int ps, .int sm]))] := by
  refine metW_intro (by decide) rfl ?_
  intro p e R s m args below meth c Q A hRf hRl hQ hx hb hml hr hlocks hown hts hin hE hA H locs hP hD hS ls hl
  have hown : s.vm.findClass "HallGuardsModel" = some m.cls := hown
  have hl : lv_has ls 3 [(0, .ref o), (1, .int a1), (2, .int a2)] := hl
  unfold fX9_noSquares at hyp
  refine lv_aload_n hx hb dX9_noSquares_0 rfl (lv_at hl 0 rfl) ?_
  refine lv_iload_n hx hb dX9_noSquares_1 rfl (lv_at hl 1 rfl) ?_
  obtain ⟨r_1, hr_1, hyp⟩ := opt_e hyp
  refine pS (As := [.int a1]) (rest := [.ref o]) ⟨hx, hb, hml, hown, hts⟩ hE (mX9_isSquare l g a1 r_1 hr_1) cf_X9_isSquare st_X9_isSquare ml_X9_159 ⟨Nat.le_trans (Nat.le_of_ble_eq_true rfl) hRf, Nat.le_trans (Nat.le_of_ble_eq_true rfl) hRl⟩ (va_P_nil) rfl hl.1 rfl (Nat.le_of_ble_eq_true rfl) dX9_noSquares_2 ⟨Nat.zero_le _, Nat.zero_le _⟩ ?_
  obtain ⟨J_3, eJ_3, hyp⟩ := jn_e hyp
  have kJ_3 : ∀ (t_2 : Int32) (H : Heap) (locs : List Loc) (ls : Array Slot), J_3 t_2 = some r → lv_has ls 3 [] → va_P g.1 vwCl [(o, .inr (9, [.int refu, .ref pn, .ref pt, .ref pr, .ref pw, .ref pb, .int nst, .ref pk, .ref pi, .ref pf, .ref pl, .ref pe, .ref pm, .int nn, .ref px, .int len, .int pos, .int gd, .int ps, .int sm]))] H → va_D A [(o, .inr (9, [.int refu, .ref pn, .ref pt, .ref pr, .ref pw, .ref pb, .int nst, .ref pk, .ref pi, .ref pf, .ref pl, .ref pe, .ref pm, .int nn, .ref px, .int len, .int pos, .int gd, .int ps, .int sm]))] → va_S A s.heap H locs → W p l e R s m args below meth c H locs 0 0 Q (F0 m 20 ls [.int t_2, .ref o]) := by
    intro t_2 H locs  ls hyp hl hP hD hS
    replace hyp := (congrFun (eJ_3) t_2).symm.trans hyp
    obtain ⟨r_4, hr_4, hyp⟩ := opt_e hyp
    refine wV (As := [.int t_2]) (rest := []) ⟨hx, hb, hml, hown, hts⟩ hE (mX9_refused l g o pn pt pr pw pb pk pi pf pl pe pm px refu nst nn len pos gd ps sm t_2 r_4 hr_4) cf_X9_refused im_X9_refused se_X9_refused ml_X9_153 ⟨Nat.le_trans (Nat.le_of_ble_eq_true rfl) hRf, Nat.le_trans (Nat.le_of_ble_eq_true rfl) hRl⟩ hP hD hS hA [0] [] rfl (wr := []) rfl ⟨by decide, by decide⟩ (by decide) (ci := 9) (q0 := 0) rfl rfl rfl rfl hl.1 rfl (Nat.le_of_ble_eq_true rfl) dX9_noSquares_20 ⟨Nat.zero_le _, Nat.zero_le _⟩ (fun H locs hP hD hS => ?_)
    have hP : va_P g.1 vwCl [(o, .inr (9, [.int r_4.2, .ref pn, .ref pt, .ref pr, .ref pw, .ref pb, .int nst, .ref pk, .ref pi, .ref pf, .ref pl, .ref pe, .ref pm, .int nn, .ref px, .int len, .int pos, .int gd, .int ps, .int sm]))] H := hP
    have hD : va_D A [(o, .inr (9, [.int r_4.2, .ref pn, .ref pt, .ref pr, .ref pw, .ref pb, .int nst, .ref pk, .ref pi, .ref pf, .ref pl, .ref pe, .ref pm, .int nn, .ref px, .int len, .int pos, .int gd, .int ps, .int sm]))] := hD
    obtain ⟨h01, hyp⟩ := grd_e hyp
    have hyp := some_e hyp
    subst hyp
    subst hQ
    exact rwZ hx hb hr hlocks (is01_e h01)  hP hD hS dX9_noSquares_23
  obtain ⟨J_5, eJ_5, hyp⟩ := jn_e hyp
  have kJ_5 : ∀ (H : Heap) (locs : List Loc) (ls : Array Slot), J_5 = some r → lv_has ls 3 [] → va_P g.1 vwCl [(o, .inr (9, [.int refu, .ref pn, .ref pt, .ref pr, .ref pw, .ref pb, .int nst, .ref pk, .ref pi, .ref pf, .ref pl, .ref pe, .ref pm, .int nn, .ref px, .int len, .int pos, .int gd, .int ps, .int sm]))] H → va_D A [(o, .inr (9, [.int refu, .ref pn, .ref pt, .ref pr, .ref pw, .ref pb, .int nst, .ref pk, .ref pi, .ref pf, .ref pl, .ref pe, .ref pm, .int nn, .ref px, .int len, .int pos, .int gd, .int ps, .int sm]))] → va_S A s.heap H locs → W p l e R s m args below meth c H locs 0 0 Q (F0 m 19 ls [.ref o]) := by
    intro H locs  ls hyp hl hP hD hS
    replace hyp := (eJ_5).symm.trans hyp
    refine lv_iconst (v := 1) hx hb dX9_noSquares_19 (by decide) ?_
    exact kJ_3 1 H locs ls hyp hl hP hD hS
  refine lv_if_eq (tgt := 19) hx hb dX9_noSquares_5 (by decide) (fun h_6 => ?_) (fun h_6 => ?_)
  · replace hyp := ite_t h_6 hyp
    exact kJ_5 H locs ls hyp (lv_sub hl [] rfl) hP hD hS
  · replace hyp := ite_f h_6 hyp
    refine lv_iload_n hx hb dX9_noSquares_8 rfl (lv_at hl 2 rfl) ?_
    obtain ⟨r_7, hr_7, hyp⟩ := opt_e hyp
    refine pS (As := [.int a2]) (rest := [.ref o]) ⟨hx, hb, hml, hown, hts⟩ hE (mX9_isSquare l g a2 r_7 hr_7) cf_X9_isSquare st_X9_isSquare ml_X9_159 ⟨Nat.le_trans (Nat.le_of_ble_eq_true rfl) hRf, Nat.le_trans (Nat.le_of_ble_eq_true rfl) hRl⟩ (va_P_nil) rfl hl.1 rfl (Nat.le_of_ble_eq_true rfl) dX9_noSquares_9 ⟨Nat.zero_le _, Nat.zero_le _⟩ ?_
    refine lv_if_eq (tgt := 19) hx hb dX9_noSquares_12 (by decide) (fun h_8 => ?_) (fun h_8 => ?_)
    · replace hyp := ite_t h_8 hyp
      exact kJ_5 H locs ls hyp (lv_sub hl [] rfl) hP hD hS
    · replace hyp := ite_f h_8 hyp
      refine lv_iconst (v := 0) hx hb dX9_noSquares_15 (by decide) ?_
      refine lv_goto (tgt := 20) hx hb dX9_noSquares_16 (by decide) ?_
      exact kJ_3 0 H locs ls hyp (lv_sub hl [] rfl) hP hD hS

def fX9_canMove (fnow : Nat → Int32) (a1 : Int32) (a2 : Int32) : Option (Int32 × Int32) :=
  (fX9_noSquares a1 a2).bind (fun (r_1 : Int32 × Int32) => if r_1.1 = 0 then ((fX9_against fnow a1 a2).bind (fun (r_3 : Int32) => if r_3 = 0 then (some (1, r_1.2)) else (some (0, r_1.2)))) else (some (0, r_1.2)))
set_option maxRecDepth 100000 in
set_option maxHeartbeats 4000000 in
theorem mX9_canMove (l : Launch) (g : GE) (o pn pt pr pw pb pk pi pf pl pe pm px : Nat) (refu : Int32) (nst : Int32) (nn : Int32) (len : Int32) (pos : Int32) (gd : Int32) (ps : Int32) (sm : Int32) (fnow : Nat → Int32) (a1 : Int32) (a2 : Int32) (r : Int32 × Int32) (hyp : fX9_canMove fnow a1 a2 = some r) : WM l yX9_canMove cX9_canMove 3 (some .boolean) 4 94 g [(o, .inr (9, [.int refu, .ref pn, .ref pt, .ref pr, .ref pw, .ref pb, .int nst, .ref pk, .ref pi, .ref pf, .ref pl, .ref pe, .ref pm, .int nn, .ref px, .int len, .int pos, .int gd, .int ps, .int sm])), (pn, .inl (g.2.1, 61, .inl fnow))] [.ref o, .int a1, .int a2] (some (.int r.1)) [(o, .inr (9, [.int r.2, .ref pn, .ref pt, .ref pr, .ref pw, .ref pb, .int nst, .ref pk, .ref pi, .ref pf, .ref pl, .ref pe, .ref pm, .int nn, .ref px, .int len, .int pos, .int gd, .int ps, .int sm])), (pn, .inl (g.2.1, 61, .inl fnow))] := by
  refine metW_intro (by decide) rfl ?_
  intro p e R s m args below meth c Q A hRf hRl hQ hx hb hml hr hlocks hown hts hin hE hA H locs hP hD hS ls hl
  have hown : s.vm.findClass "HallGuardsModel" = some m.cls := hown
  have hl : lv_has ls 3 [(0, .ref o), (1, .int a1), (2, .int a2)] := hl
  unfold fX9_canMove at hyp
  refine lv_aload_n hx hb dX9_canMove_0 rfl (lv_at hl 0 rfl) ?_
  refine lv_iload_n hx hb dX9_canMove_1 rfl (lv_at hl 1 rfl) ?_
  refine lv_iload_n hx hb dX9_canMove_2 rfl (lv_at hl 2 rfl) ?_
  obtain ⟨r_1, hr_1, hyp⟩ := opt_e hyp
  refine wV (As := [.int a1, .int a2]) (rest := []) ⟨hx, hb, hml, hown, hts⟩ hE (mX9_noSquares l g o pn pt pr pw pb pk pi pf pl pe pm px refu nst nn len pos gd ps sm a1 a2 r_1 hr_1) cf_X9_noSquares im_X9_noSquares se_X9_noSquares ml_X9_218 ⟨Nat.le_trans (Nat.le_of_ble_eq_true rfl) hRf, Nat.le_trans (Nat.le_of_ble_eq_true rfl) hRl⟩ hP hD hS hA [0] [1] rfl (wr := [(pn, .inl (g.2.1, 61, .inl fnow))]) rfl ⟨by decide, by decide⟩ (by decide) (ci := 9) (q0 := 0) rfl rfl rfl rfl hl.1 rfl (Nat.le_of_ble_eq_true rfl) dX9_canMove_3 ⟨Nat.zero_le _, Nat.zero_le _⟩ (fun H locs hP hD hS => ?_)
  have hP : va_P g.1 vwCl [(pn, .inl (g.2.1, 61, .inl fnow)), (o, .inr (9, [.int r_1.2, .ref pn, .ref pt, .ref pr, .ref pw, .ref pb, .int nst, .ref pk, .ref pi, .ref pf, .ref pl, .ref pe, .ref pm, .int nn, .ref px, .int len, .int pos, .int gd, .int ps, .int sm]))] H := hP
  have hD : va_D A [(pn, .inl (g.2.1, 61, .inl fnow)), (o, .inr (9, [.int r_1.2, .ref pn, .ref pt, .ref pr, .ref pw, .ref pb, .int nst, .ref pk, .ref pi, .ref pf, .ref pl, .ref pe, .ref pm, .int nn, .ref px, .int len, .int pos, .int gd, .int ps, .int sm]))] := hD
  refine lv_if_ne (tgt := 25) hx hb dX9_canMove_6 (by decide) (fun h_2 => ?_) (fun h_2 => ?_)
  · replace hyp := ite_f h_2 hyp
    refine lv_iconst (v := 0) hx hb dX9_canMove_25 (by decide) ?_
    have hP : va_P g.1 vwCl [(o, .inr (9, [.int r_1.2, .ref pn, .ref pt, .ref pr, .ref pw, .ref pb, .int nst, .ref pk, .ref pi, .ref pf, .ref pl, .ref pe, .ref pm, .int nn, .ref px, .int len, .int pos, .int gd, .int ps, .int sm])), (pn, .inl (g.2.1, 61, .inl fnow))] H := hP.sub [1, 0] rfl
    have hD : va_D A [(o, .inr (9, [.int r_1.2, .ref pn, .ref pt, .ref pr, .ref pw, .ref pb, .int nst, .ref pk, .ref pi, .ref pf, .ref pl, .ref pe, .ref pm, .int nn, .ref px, .int len, .int pos, .int gd, .int ps, .int sm])), (pn, .inl (g.2.1, 61, .inl fnow))] := hD.sub [1, 0] (by decide) rfl
    have hyp := some_e hyp
    subst hyp
    subst hQ
    exact rwZ hx hb hr hlocks (Or.inl rfl)  hP hD hS dX9_canMove_26
  · replace hyp := ite_t h_2 hyp
    refine lv_aload_n hx hb dX9_canMove_9 rfl (lv_at hl 0 rfl) ?_
    refine gf_X9_7 hx hb hts hown hE hP 1 rfl rfl dX9_canMove_10 ?_
    refine lv_iload_n hx hb dX9_canMove_13 rfl (lv_at hl 1 rfl) ?_
    refine lv_iload_n hx hb dX9_canMove_14 rfl (lv_at hl 2 rfl) ?_
    obtain ⟨r_3, hr_3, hyp⟩ := opt_e hyp
    refine pS (As := [.ref pn, .int a1, .int a2]) (rest := []) ⟨hx, hb, hml, hown, hts⟩ hE (mX9_against l g pn fnow a1 a2 r_3 hr_3) cf_X9_against st_X9_against ml_X9_132 ⟨Nat.le_trans (Nat.le_of_ble_eq_true rfl) hRf, Nat.le_trans (Nat.le_of_ble_eq_true rfl) hRl⟩ (hP.sub (ws' := [(pn, .inl (g.2.1, 61, .inl fnow))]) [0] rfl) rfl hl.1 rfl (Nat.le_of_ble_eq_true rfl) dX9_canMove_15 ⟨Nat.zero_le _, Nat.zero_le _⟩ ?_
    refine lv_if_ne (tgt := 25) hx hb dX9_canMove_18 (by decide) (fun h_4 => ?_) (fun h_4 => ?_)
    · replace hyp := ite_f h_4 hyp
      refine lv_iconst (v := 0) hx hb dX9_canMove_25 (by decide) ?_
      have hP : va_P g.1 vwCl [(o, .inr (9, [.int r_1.2, .ref pn, .ref pt, .ref pr, .ref pw, .ref pb, .int nst, .ref pk, .ref pi, .ref pf, .ref pl, .ref pe, .ref pm, .int nn, .ref px, .int len, .int pos, .int gd, .int ps, .int sm])), (pn, .inl (g.2.1, 61, .inl fnow))] H := hP.sub [1, 0] rfl
      have hD : va_D A [(o, .inr (9, [.int r_1.2, .ref pn, .ref pt, .ref pr, .ref pw, .ref pb, .int nst, .ref pk, .ref pi, .ref pf, .ref pl, .ref pe, .ref pm, .int nn, .ref px, .int len, .int pos, .int gd, .int ps, .int sm])), (pn, .inl (g.2.1, 61, .inl fnow))] := hD.sub [1, 0] (by decide) rfl
      have hyp := some_e hyp
      subst hyp
      subst hQ
      exact rwZ hx hb hr hlocks (Or.inl rfl)  hP hD hS dX9_canMove_26
    · replace hyp := ite_t h_4 hyp
      refine lv_iconst (v := 1) hx hb dX9_canMove_21 (by decide) ?_
      refine lv_goto (tgt := 26) hx hb dX9_canMove_22 (by decide) ?_
      have hP : va_P g.1 vwCl [(o, .inr (9, [.int r_1.2, .ref pn, .ref pt, .ref pr, .ref pw, .ref pb, .int nst, .ref pk, .ref pi, .ref pf, .ref pl, .ref pe, .ref pm, .int nn, .ref px, .int len, .int pos, .int gd, .int ps, .int sm])), (pn, .inl (g.2.1, 61, .inl fnow))] H := hP.sub [1, 0] rfl
      have hD : va_D A [(o, .inr (9, [.int r_1.2, .ref pn, .ref pt, .ref pr, .ref pw, .ref pb, .int nst, .ref pk, .ref pi, .ref pf, .ref pl, .ref pe, .ref pm, .int nn, .ref px, .int len, .int pos, .int gd, .int ps, .int sm])), (pn, .inl (g.2.1, 61, .inl fnow))] := hD.sub [1, 0] (by decide) rfl
      have hyp := some_e hyp
      subst hyp
      subst hQ
      exact rwZ hx hb hr hlocks (Or.inr rfl)  hP hD hS dX9_canMove_26

def fX9_reasonAgainst (fnow : Nat → Int32) (a1 : Int32) (a2 : Int32) : Option (Int32 × Int32) :=
  (fX9_noSquares a1 a2).bind (fun (r_1 : Int32 × Int32) => if r_1.1 = 0 then ((fX9_against fnow a1 a2).bind (fun (r_3 : Int32) => some (r_3, r_1.2))) else (some (0, r_1.2)))
set_option maxRecDepth 100000 in
set_option maxHeartbeats 4000000 in
theorem mX9_reasonAgainst (l : Launch) (g : GE) (o pn pt pr pw pb pk pi pf pl pe pm px : Nat) (refu : Int32) (nst : Int32) (nn : Int32) (len : Int32) (pos : Int32) (gd : Int32) (ps : Int32) (sm : Int32) (fnow : Nat → Int32) (a1 : Int32) (a2 : Int32) (r : Int32 × Int32) (hyp : fX9_reasonAgainst fnow a1 a2 = some r) : WM l yX9_reasonAgainst cX9_reasonAgainst 3 (some .int) 4 94 g [(o, .inr (9, [.int refu, .ref pn, .ref pt, .ref pr, .ref pw, .ref pb, .int nst, .ref pk, .ref pi, .ref pf, .ref pl, .ref pe, .ref pm, .int nn, .ref px, .int len, .int pos, .int gd, .int ps, .int sm])), (pn, .inl (g.2.1, 61, .inl fnow))] [.ref o, .int a1, .int a2] (some (.int r.1)) [(o, .inr (9, [.int r.2, .ref pn, .ref pt, .ref pr, .ref pw, .ref pb, .int nst, .ref pk, .ref pi, .ref pf, .ref pl, .ref pe, .ref pm, .int nn, .ref px, .int len, .int pos, .int gd, .int ps, .int sm])), (pn, .inl (g.2.1, 61, .inl fnow))] := by
  refine metW_intro (by decide) rfl ?_
  intro p e R s m args below meth c Q A hRf hRl hQ hx hb hml hr hlocks hown hts hin hE hA H locs hP hD hS ls hl
  have hown : s.vm.findClass "HallGuardsModel" = some m.cls := hown
  have hl : lv_has ls 3 [(0, .ref o), (1, .int a1), (2, .int a2)] := hl
  unfold fX9_reasonAgainst at hyp
  refine lv_aload_n hx hb dX9_reasonAgainst_0 rfl (lv_at hl 0 rfl) ?_
  refine lv_iload_n hx hb dX9_reasonAgainst_1 rfl (lv_at hl 1 rfl) ?_
  refine lv_iload_n hx hb dX9_reasonAgainst_2 rfl (lv_at hl 2 rfl) ?_
  obtain ⟨r_1, hr_1, hyp⟩ := opt_e hyp
  refine wV (As := [.int a1, .int a2]) (rest := []) ⟨hx, hb, hml, hown, hts⟩ hE (mX9_noSquares l g o pn pt pr pw pb pk pi pf pl pe pm px refu nst nn len pos gd ps sm a1 a2 r_1 hr_1) cf_X9_noSquares im_X9_noSquares se_X9_noSquares ml_X9_218 ⟨Nat.le_trans (Nat.le_of_ble_eq_true rfl) hRf, Nat.le_trans (Nat.le_of_ble_eq_true rfl) hRl⟩ hP hD hS hA [0] [1] rfl (wr := [(pn, .inl (g.2.1, 61, .inl fnow))]) rfl ⟨by decide, by decide⟩ (by decide) (ci := 9) (q0 := 0) rfl rfl rfl rfl hl.1 rfl (Nat.le_of_ble_eq_true rfl) dX9_reasonAgainst_3 ⟨Nat.zero_le _, Nat.zero_le _⟩ (fun H locs hP hD hS => ?_)
  have hP : va_P g.1 vwCl [(pn, .inl (g.2.1, 61, .inl fnow)), (o, .inr (9, [.int r_1.2, .ref pn, .ref pt, .ref pr, .ref pw, .ref pb, .int nst, .ref pk, .ref pi, .ref pf, .ref pl, .ref pe, .ref pm, .int nn, .ref px, .int len, .int pos, .int gd, .int ps, .int sm]))] H := hP
  have hD : va_D A [(pn, .inl (g.2.1, 61, .inl fnow)), (o, .inr (9, [.int r_1.2, .ref pn, .ref pt, .ref pr, .ref pw, .ref pb, .int nst, .ref pk, .ref pi, .ref pf, .ref pl, .ref pe, .ref pm, .int nn, .ref px, .int len, .int pos, .int gd, .int ps, .int sm]))] := hD
  refine lv_if_eq (tgt := 13) hx hb dX9_reasonAgainst_6 (by decide) (fun h_2 => ?_) (fun h_2 => ?_)
  · replace hyp := ite_t h_2 hyp
    refine lv_aload_n hx hb dX9_reasonAgainst_13 rfl (lv_at hl 0 rfl) ?_
    refine gf_X9_7 hx hb hts hown hE hP 1 rfl rfl dX9_reasonAgainst_14 ?_
    refine lv_iload_n hx hb dX9_reasonAgainst_17 rfl (lv_at hl 1 rfl) ?_
    refine lv_iload_n hx hb dX9_reasonAgainst_18 rfl (lv_at hl 2 rfl) ?_
    obtain ⟨r_3, hr_3, hyp⟩ := opt_e hyp
    refine pS (As := [.ref pn, .int a1, .int a2]) (rest := []) ⟨hx, hb, hml, hown, hts⟩ hE (mX9_against l g pn fnow a1 a2 r_3 hr_3) cf_X9_against st_X9_against ml_X9_132 ⟨Nat.le_trans (Nat.le_of_ble_eq_true rfl) hRf, Nat.le_trans (Nat.le_of_ble_eq_true rfl) hRl⟩ (hP.sub (ws' := [(pn, .inl (g.2.1, 61, .inl fnow))]) [0] rfl) rfl hl.1 rfl (Nat.le_of_ble_eq_true rfl) dX9_reasonAgainst_19 ⟨Nat.zero_le _, Nat.zero_le _⟩ ?_
    have hP : va_P g.1 vwCl [(o, .inr (9, [.int r_1.2, .ref pn, .ref pt, .ref pr, .ref pw, .ref pb, .int nst, .ref pk, .ref pi, .ref pf, .ref pl, .ref pe, .ref pm, .int nn, .ref px, .int len, .int pos, .int gd, .int ps, .int sm])), (pn, .inl (g.2.1, 61, .inl fnow))] H := hP.sub [1, 0] rfl
    have hD : va_D A [(o, .inr (9, [.int r_1.2, .ref pn, .ref pt, .ref pr, .ref pw, .ref pb, .int nst, .ref pk, .ref pi, .ref pf, .ref pl, .ref pe, .ref pm, .int nn, .ref px, .int len, .int pos, .int gd, .int ps, .int sm])), (pn, .inl (g.2.1, 61, .inl fnow))] := hD.sub [1, 0] (by decide) rfl
    have hyp := some_e hyp
    subst hyp
    subst hQ
    exact rwI hx hb hr hlocks  hP hD hS dX9_reasonAgainst_22
  · replace hyp := ite_f h_2 hyp
    refine lv_iconst (v := 0) hx hb dX9_reasonAgainst_9 (by decide) ?_
    refine lv_goto (tgt := 22) hx hb dX9_reasonAgainst_10 (by decide) ?_
    have hP : va_P g.1 vwCl [(o, .inr (9, [.int r_1.2, .ref pn, .ref pt, .ref pr, .ref pw, .ref pb, .int nst, .ref pk, .ref pi, .ref pf, .ref pl, .ref pe, .ref pm, .int nn, .ref px, .int len, .int pos, .int gd, .int ps, .int sm])), (pn, .inl (g.2.1, 61, .inl fnow))] H := hP.sub [1, 0] rfl
    have hD : va_D A [(o, .inr (9, [.int r_1.2, .ref pn, .ref pt, .ref pr, .ref pw, .ref pb, .int nst, .ref pk, .ref pi, .ref pf, .ref pl, .ref pe, .ref pm, .int nn, .ref px, .int len, .int pos, .int gd, .int ps, .int sm])), (pn, .inl (g.2.1, 61, .inl fnow))] := hD.sub [1, 0] (by decide) rfl
    have hyp := some_e hyp
    subst hyp
    subst hQ
    exact rwI hx hb hr hlocks  hP hD hS dX9_reasonAgainst_22

def fX9_movesFrom (fnow : Nat → Int32) (a1 : Int32) (a2 : Int32) : Option (Int32 × Int32) :=
  (fX9_isCell a1 a2).bind (fun (r_1 : Int32) => jn (fun (t_2 : Int32) => (fX9_refused t_2).bind (fun (r_4 : Int32 × Int32) => if r_4.1 = 0 then ((fX9_goals fnow ((7 * a1) + a2)).bind (fun (r_6 : Int32) => some (r_6, r_4.2))) else (some (0, r_4.2)))) (fun J_3 => if r_1 = 0 then (J_3 1) else (J_3 0)))
set_option maxRecDepth 100000 in
set_option maxHeartbeats 4000000 in
theorem mX9_movesFrom (l : Launch) (g : GE) (o pn pt pr pw pb pk pi pf pl pe pm px : Nat) (refu : Int32) (nst : Int32) (nn : Int32) (len : Int32) (pos : Int32) (gd : Int32) (ps : Int32) (sm : Int32) (fnow : Nat → Int32) (a1 : Int32) (a2 : Int32) (r : Int32 × Int32) (hyp : fX9_movesFrom fnow a1 a2 = some r) : WM l yX9_movesFrom cX9_movesFrom 3 (some .int) 4 93 g [(o, .inr (9, [.int refu, .ref pn, .ref pt, .ref pr, .ref pw, .ref pb, .int nst, .ref pk, .ref pi, .ref pf, .ref pl, .ref pe, .ref pm, .int nn, .ref px, .int len, .int pos, .int gd, .int ps, .int sm])), (pn, .inl (g.2.1, 61, .inl fnow))] [.ref o, .int a1, .int a2] (some (.int r.1)) [(o, .inr (9, [.int r.2, .ref pn, .ref pt, .ref pr, .ref pw, .ref pb, .int nst, .ref pk, .ref pi, .ref pf, .ref pl, .ref pe, .ref pm, .int nn, .ref px, .int len, .int pos, .int gd, .int ps, .int sm])), (pn, .inl (g.2.1, 61, .inl fnow))] := by
  refine metW_intro (by decide) rfl ?_
  intro p e R s m args below meth c Q A hRf hRl hQ hx hb hml hr hlocks hown hts hin hE hA H locs hP hD hS ls hl
  have hown : s.vm.findClass "HallGuardsModel" = some m.cls := hown
  have hl : lv_has ls 3 [(0, .ref o), (1, .int a1), (2, .int a2)] := hl
  unfold fX9_movesFrom at hyp
  refine lv_aload_n hx hb dX9_movesFrom_0 rfl (lv_at hl 0 rfl) ?_
  refine lv_iload_n hx hb dX9_movesFrom_1 rfl (lv_at hl 1 rfl) ?_
  refine lv_iload_n hx hb dX9_movesFrom_2 rfl (lv_at hl 2 rfl) ?_
  obtain ⟨r_1, hr_1, hyp⟩ := opt_e hyp
  refine pS (As := [.int a1, .int a2]) (rest := [.ref o]) ⟨hx, hb, hml, hown, hts⟩ hE (mX9_isCell l g a1 a2 r_1 hr_1) cf_X9_isCell st_X9_isCell ml_X9_64 ⟨Nat.le_trans (Nat.le_of_ble_eq_true rfl) hRf, Nat.le_trans (Nat.le_of_ble_eq_true rfl) hRl⟩ (va_P_nil) rfl hl.1 rfl (Nat.le_of_ble_eq_true rfl) dX9_movesFrom_3 ⟨Nat.zero_le _, Nat.zero_le _⟩ ?_
  obtain ⟨J_3, eJ_3, hyp⟩ := jn_e hyp
  have kJ_3 : ∀ (t_2 : Int32) (H : Heap) (locs : List Loc) (ls : Array Slot), J_3 t_2 = some r → lv_has ls 3 [(0, .ref o), (1, .int a1), (2, .int a2)] → va_P g.1 vwCl [(o, .inr (9, [.int refu, .ref pn, .ref pt, .ref pr, .ref pw, .ref pb, .int nst, .ref pk, .ref pi, .ref pf, .ref pl, .ref pe, .ref pm, .int nn, .ref px, .int len, .int pos, .int gd, .int ps, .int sm])), (pn, .inl (g.2.1, 61, .inl fnow))] H → va_D A [(o, .inr (9, [.int refu, .ref pn, .ref pt, .ref pr, .ref pw, .ref pb, .int nst, .ref pk, .ref pi, .ref pf, .ref pl, .ref pe, .ref pm, .int nn, .ref px, .int len, .int pos, .int gd, .int ps, .int sm])), (pn, .inl (g.2.1, 61, .inl fnow))] → va_S A s.heap H locs → W p l e R s m args below meth c H locs 0 0 Q (F0 m 14 ls [.int t_2, .ref o]) := by
    intro t_2 H locs  ls hyp hl hP hD hS
    replace hyp := (congrFun (eJ_3) t_2).symm.trans hyp
    obtain ⟨r_4, hr_4, hyp⟩ := opt_e hyp
    refine wV (As := [.int t_2]) (rest := []) ⟨hx, hb, hml, hown, hts⟩ hE (mX9_refused l g o pn pt pr pw pb pk pi pf pl pe pm px refu nst nn len pos gd ps sm t_2 r_4 hr_4) cf_X9_refused im_X9_refused se_X9_refused ml_X9_153 ⟨Nat.le_trans (Nat.le_of_ble_eq_true rfl) hRf, Nat.le_trans (Nat.le_of_ble_eq_true rfl) hRl⟩ hP hD hS hA [0] [1] rfl (wr := [(pn, .inl (g.2.1, 61, .inl fnow))]) rfl ⟨by decide, by decide⟩ (by decide) (ci := 9) (q0 := 0) rfl rfl rfl rfl hl.1 rfl (Nat.le_of_ble_eq_true rfl) dX9_movesFrom_14 ⟨Nat.zero_le _, Nat.zero_le _⟩ (fun H locs hP hD hS => ?_)
    have hP : va_P g.1 vwCl [(pn, .inl (g.2.1, 61, .inl fnow)), (o, .inr (9, [.int r_4.2, .ref pn, .ref pt, .ref pr, .ref pw, .ref pb, .int nst, .ref pk, .ref pi, .ref pf, .ref pl, .ref pe, .ref pm, .int nn, .ref px, .int len, .int pos, .int gd, .int ps, .int sm]))] H := hP
    have hD : va_D A [(pn, .inl (g.2.1, 61, .inl fnow)), (o, .inr (9, [.int r_4.2, .ref pn, .ref pt, .ref pr, .ref pw, .ref pb, .int nst, .ref pk, .ref pi, .ref pf, .ref pl, .ref pe, .ref pm, .int nn, .ref px, .int len, .int pos, .int gd, .int ps, .int sm]))] := hD
    refine lv_if_eq (tgt := 24) hx hb dX9_movesFrom_17 (by decide) (fun h_5 => ?_) (fun h_5 => ?_)
    · replace hyp := ite_t h_5 hyp
      refine lv_aload_n hx hb dX9_movesFrom_24 rfl (lv_at hl 0 rfl) ?_
      refine gf_X9_7 hx hb hts hown hE hP 1 rfl rfl dX9_movesFrom_25 ?_
      refine lv_bipush (v := 7) hx hb dX9_movesFrom_28 (by decide) ?_
      refine lv_iload_n hx hb dX9_movesFrom_30 rfl (lv_at hl 1 rfl) ?_
      refine lv_imul hx hb dX9_movesFrom_31 ?_
      refine lv_iload_n hx hb dX9_movesFrom_32 rfl (lv_at hl 2 rfl) ?_
      refine lv_iadd hx hb dX9_movesFrom_33 ?_
      obtain ⟨r_6, hr_6, hyp⟩ := opt_e hyp
      refine pS (As := [.ref pn, .int ((7 * a1) + a2)]) (rest := []) ⟨hx, hb, hml, hown, hts⟩ hE (mX9_goals l g pn fnow ((7 * a1) + a2) r_6 hr_6) cf_X9_goals st_X9_goals ml_X9_83 ⟨Nat.le_trans (Nat.le_of_ble_eq_true rfl) hRf, Nat.le_trans (Nat.le_of_ble_eq_true rfl) hRl⟩ (hP.sub (ws' := [(pn, .inl (g.2.1, 61, .inl fnow))]) [0] rfl) rfl hl.1 rfl (Nat.le_of_ble_eq_true rfl) dX9_movesFrom_34 ⟨Nat.zero_le _, Nat.zero_le _⟩ ?_
      have hP : va_P g.1 vwCl [(o, .inr (9, [.int r_4.2, .ref pn, .ref pt, .ref pr, .ref pw, .ref pb, .int nst, .ref pk, .ref pi, .ref pf, .ref pl, .ref pe, .ref pm, .int nn, .ref px, .int len, .int pos, .int gd, .int ps, .int sm])), (pn, .inl (g.2.1, 61, .inl fnow))] H := hP.sub [1, 0] rfl
      have hD : va_D A [(o, .inr (9, [.int r_4.2, .ref pn, .ref pt, .ref pr, .ref pw, .ref pb, .int nst, .ref pk, .ref pi, .ref pf, .ref pl, .ref pe, .ref pm, .int nn, .ref px, .int len, .int pos, .int gd, .int ps, .int sm])), (pn, .inl (g.2.1, 61, .inl fnow))] := hD.sub [1, 0] (by decide) rfl
      have hyp := some_e hyp
      subst hyp
      subst hQ
      exact rwI hx hb hr hlocks  hP hD hS dX9_movesFrom_37
    · replace hyp := ite_f h_5 hyp
      refine lv_iconst (v := 0) hx hb dX9_movesFrom_20 (by decide) ?_
      refine lv_goto (tgt := 37) hx hb dX9_movesFrom_21 (by decide) ?_
      have hP : va_P g.1 vwCl [(o, .inr (9, [.int r_4.2, .ref pn, .ref pt, .ref pr, .ref pw, .ref pb, .int nst, .ref pk, .ref pi, .ref pf, .ref pl, .ref pe, .ref pm, .int nn, .ref px, .int len, .int pos, .int gd, .int ps, .int sm])), (pn, .inl (g.2.1, 61, .inl fnow))] H := hP.sub [1, 0] rfl
      have hD : va_D A [(o, .inr (9, [.int r_4.2, .ref pn, .ref pt, .ref pr, .ref pw, .ref pb, .int nst, .ref pk, .ref pi, .ref pf, .ref pl, .ref pe, .ref pm, .int nn, .ref px, .int len, .int pos, .int gd, .int ps, .int sm])), (pn, .inl (g.2.1, 61, .inl fnow))] := hD.sub [1, 0] (by decide) rfl
      have hyp := some_e hyp
      subst hyp
      subst hQ
      exact rwI hx hb hr hlocks  hP hD hS dX9_movesFrom_37
  refine lv_if_eq (tgt := 13) hx hb dX9_movesFrom_6 (by decide) (fun h_7 => ?_) (fun h_7 => ?_)
  · replace hyp := ite_t h_7 hyp
    refine lv_iconst (v := 1) hx hb dX9_movesFrom_13 (by decide) ?_
    exact kJ_3 1 H locs ls hyp hl hP hD hS
  · replace hyp := ite_f h_7 hyp
    refine lv_iconst (v := 0) hx hb dX9_movesFrom_9 (by decide) ?_
    refine lv_goto (tgt := 14) hx hb dX9_movesFrom_10 (by decide) ?_
    exact kJ_3 0 H locs ls hyp hl hP hD hS

def fX9_movesByPieces (fnow : Nat → Int32) (a1 : Int32) : Option (Int32 × Int32) :=
  (fX9_noSide a1).bind (fun (r_1 : Int32 × Int32) => if r_1.1 = 0 then ((fX9_moveCount fnow a1).bind (fun (r_3 : Int32) => some (r_3, r_1.2))) else (some (0, r_1.2)))
set_option maxRecDepth 100000 in
set_option maxHeartbeats 4000000 in
theorem mX9_movesByPieces (l : Launch) (g : GE) (o pn pt pr pw pb pk pi pf pl pe pm px : Nat) (refu : Int32) (nst : Int32) (nn : Int32) (len : Int32) (pos : Int32) (gd : Int32) (ps : Int32) (sm : Int32) (fnow : Nat → Int32) (a1 : Int32) (r : Int32 × Int32) (hyp : fX9_movesByPieces fnow a1 = some r) : WM l yX9_movesByPieces cX9_movesByPieces 2 (some .int) 5 116 g [(o, .inr (9, [.int refu, .ref pn, .ref pt, .ref pr, .ref pw, .ref pb, .int nst, .ref pk, .ref pi, .ref pf, .ref pl, .ref pe, .ref pm, .int nn, .ref px, .int len, .int pos, .int gd, .int ps, .int sm])), (pn, .inl (g.2.1, 61, .inl fnow))] [.ref o, .int a1] (some (.int r.1)) [(o, .inr (9, [.int r.2, .ref pn, .ref pt, .ref pr, .ref pw, .ref pb, .int nst, .ref pk, .ref pi, .ref pf, .ref pl, .ref pe, .ref pm, .int nn, .ref px, .int len, .int pos, .int gd, .int ps, .int sm])), (pn, .inl (g.2.1, 61, .inl fnow))] := by
  refine metW_intro (by decide) rfl ?_
  intro p e R s m args below meth c Q A hRf hRl hQ hx hb hml hr hlocks hown hts hin hE hA H locs hP hD hS ls hl
  have hown : s.vm.findClass "HallGuardsModel" = some m.cls := hown
  have hl : lv_has ls 2 [(0, .ref o), (1, .int a1)] := hl
  unfold fX9_movesByPieces at hyp
  refine lv_aload_n hx hb dX9_movesByPieces_0 rfl (lv_at hl 0 rfl) ?_
  refine lv_iload_n hx hb dX9_movesByPieces_1 rfl (lv_at hl 1 rfl) ?_
  obtain ⟨r_1, hr_1, hyp⟩ := opt_e hyp
  refine wV (As := [.int a1]) (rest := []) ⟨hx, hb, hml, hown, hts⟩ hE (mX9_noSide l g o pn pt pr pw pb pk pi pf pl pe pm px refu nst nn len pos gd ps sm a1 r_1 hr_1) cf_X9_noSide im_X9_noSide se_X9_noSide ml_X9_209 ⟨Nat.le_trans (Nat.le_of_ble_eq_true rfl) hRf, Nat.le_trans (Nat.le_of_ble_eq_true rfl) hRl⟩ hP hD hS hA [0] [1] rfl (wr := [(pn, .inl (g.2.1, 61, .inl fnow))]) rfl ⟨by decide, by decide⟩ (by decide) (ci := 9) (q0 := 0) rfl rfl rfl rfl hl.1 rfl (Nat.le_of_ble_eq_true rfl) dX9_movesByPieces_2 ⟨Nat.zero_le _, Nat.zero_le _⟩ (fun H locs hP hD hS => ?_)
  have hP : va_P g.1 vwCl [(pn, .inl (g.2.1, 61, .inl fnow)), (o, .inr (9, [.int r_1.2, .ref pn, .ref pt, .ref pr, .ref pw, .ref pb, .int nst, .ref pk, .ref pi, .ref pf, .ref pl, .ref pe, .ref pm, .int nn, .ref px, .int len, .int pos, .int gd, .int ps, .int sm]))] H := hP
  have hD : va_D A [(pn, .inl (g.2.1, 61, .inl fnow)), (o, .inr (9, [.int r_1.2, .ref pn, .ref pt, .ref pr, .ref pw, .ref pb, .int nst, .ref pk, .ref pi, .ref pf, .ref pl, .ref pe, .ref pm, .int nn, .ref px, .int len, .int pos, .int gd, .int ps, .int sm]))] := hD
  refine lv_if_eq (tgt := 12) hx hb dX9_movesByPieces_5 (by decide) (fun h_2 => ?_) (fun h_2 => ?_)
  · replace hyp := ite_t h_2 hyp
    refine lv_aload_n hx hb dX9_movesByPieces_12 rfl (lv_at hl 0 rfl) ?_
    refine gf_X9_7 hx hb hts hown hE hP 1 rfl rfl dX9_movesByPieces_13 ?_
    refine lv_iload_n hx hb dX9_movesByPieces_16 rfl (lv_at hl 1 rfl) ?_
    obtain ⟨r_3, hr_3, hyp⟩ := opt_e hyp
    refine pS (As := [.ref pn, .int a1]) (rest := []) ⟨hx, hb, hml, hown, hts⟩ hE (mX9_moveCount l g pn fnow a1 r_3 hr_3) cf_X9_moveCount st_X9_moveCount ml_X9_101 ⟨Nat.le_trans (Nat.le_of_ble_eq_true rfl) hRf, Nat.le_trans (Nat.le_of_ble_eq_true rfl) hRl⟩ (hP.sub (ws' := [(pn, .inl (g.2.1, 61, .inl fnow))]) [0] rfl) rfl hl.1 rfl (Nat.le_of_ble_eq_true rfl) dX9_movesByPieces_17 ⟨Nat.zero_le _, Nat.zero_le _⟩ ?_
    have hP : va_P g.1 vwCl [(o, .inr (9, [.int r_1.2, .ref pn, .ref pt, .ref pr, .ref pw, .ref pb, .int nst, .ref pk, .ref pi, .ref pf, .ref pl, .ref pe, .ref pm, .int nn, .ref px, .int len, .int pos, .int gd, .int ps, .int sm])), (pn, .inl (g.2.1, 61, .inl fnow))] H := hP.sub [1, 0] rfl
    have hD : va_D A [(o, .inr (9, [.int r_1.2, .ref pn, .ref pt, .ref pr, .ref pw, .ref pb, .int nst, .ref pk, .ref pi, .ref pf, .ref pl, .ref pe, .ref pm, .int nn, .ref px, .int len, .int pos, .int gd, .int ps, .int sm])), (pn, .inl (g.2.1, 61, .inl fnow))] := hD.sub [1, 0] (by decide) rfl
    have hyp := some_e hyp
    subst hyp
    subst hQ
    exact rwI hx hb hr hlocks  hP hD hS dX9_movesByPieces_20
  · replace hyp := ite_f h_2 hyp
    refine lv_iconst (v := 0) hx hb dX9_movesByPieces_8 (by decide) ?_
    refine lv_goto (tgt := 20) hx hb dX9_movesByPieces_9 (by decide) ?_
    have hP : va_P g.1 vwCl [(o, .inr (9, [.int r_1.2, .ref pn, .ref pt, .ref pr, .ref pw, .ref pb, .int nst, .ref pk, .ref pi, .ref pf, .ref pl, .ref pe, .ref pm, .int nn, .ref px, .int len, .int pos, .int gd, .int ps, .int sm])), (pn, .inl (g.2.1, 61, .inl fnow))] H := hP.sub [1, 0] rfl
    have hD : va_D A [(o, .inr (9, [.int r_1.2, .ref pn, .ref pt, .ref pr, .ref pw, .ref pb, .int nst, .ref pk, .ref pi, .ref pf, .ref pl, .ref pe, .ref pm, .int nn, .ref px, .int len, .int pos, .int gd, .int ps, .int sm])), (pn, .inl (g.2.1, 61, .inl fnow))] := hD.sub [1, 0] (by decide) rfl
    have hyp := some_e hyp
    subst hyp
    subst hQ
    exact rwI hx hb hr hlocks  hP hD hS dX9_movesByPieces_20

def fX9_movesBySquares (fnow : Nat → Int32) (a1 : Int32) : Option (Int32 × Int32) :=
  (fX9_noSide a1).bind (fun (r_1 : Int32 × Int32) => if r_1.1 = 0 then ((fX9_moveCount fnow a1).bind (fun (r_3 : Int32) => some (r_3, r_1.2))) else (some (0, r_1.2)))
set_option maxRecDepth 100000 in
set_option maxHeartbeats 4000000 in
theorem mX9_movesBySquares (l : Launch) (g : GE) (o pn pt pr pw pb pk pi pf pl pe pm px : Nat) (refu : Int32) (nst : Int32) (nn : Int32) (len : Int32) (pos : Int32) (gd : Int32) (ps : Int32) (sm : Int32) (fnow : Nat → Int32) (a1 : Int32) (r : Int32 × Int32) (hyp : fX9_movesBySquares fnow a1 = some r) : WM l yX9_movesBySquares cX9_movesBySquares 2 (some .int) 5 116 g [(o, .inr (9, [.int refu, .ref pn, .ref pt, .ref pr, .ref pw, .ref pb, .int nst, .ref pk, .ref pi, .ref pf, .ref pl, .ref pe, .ref pm, .int nn, .ref px, .int len, .int pos, .int gd, .int ps, .int sm])), (pn, .inl (g.2.1, 61, .inl fnow))] [.ref o, .int a1] (some (.int r.1)) [(o, .inr (9, [.int r.2, .ref pn, .ref pt, .ref pr, .ref pw, .ref pb, .int nst, .ref pk, .ref pi, .ref pf, .ref pl, .ref pe, .ref pm, .int nn, .ref px, .int len, .int pos, .int gd, .int ps, .int sm])), (pn, .inl (g.2.1, 61, .inl fnow))] := by
  refine metW_intro (by decide) rfl ?_
  intro p e R s m args below meth c Q A hRf hRl hQ hx hb hml hr hlocks hown hts hin hE hA H locs hP hD hS ls hl
  have hown : s.vm.findClass "HallGuardsModel" = some m.cls := hown
  have hl : lv_has ls 2 [(0, .ref o), (1, .int a1)] := hl
  unfold fX9_movesBySquares at hyp
  refine lv_aload_n hx hb dX9_movesBySquares_0 rfl (lv_at hl 0 rfl) ?_
  refine lv_iload_n hx hb dX9_movesBySquares_1 rfl (lv_at hl 1 rfl) ?_
  obtain ⟨r_1, hr_1, hyp⟩ := opt_e hyp
  refine wV (As := [.int a1]) (rest := []) ⟨hx, hb, hml, hown, hts⟩ hE (mX9_noSide l g o pn pt pr pw pb pk pi pf pl pe pm px refu nst nn len pos gd ps sm a1 r_1 hr_1) cf_X9_noSide im_X9_noSide se_X9_noSide ml_X9_209 ⟨Nat.le_trans (Nat.le_of_ble_eq_true rfl) hRf, Nat.le_trans (Nat.le_of_ble_eq_true rfl) hRl⟩ hP hD hS hA [0] [1] rfl (wr := [(pn, .inl (g.2.1, 61, .inl fnow))]) rfl ⟨by decide, by decide⟩ (by decide) (ci := 9) (q0 := 0) rfl rfl rfl rfl hl.1 rfl (Nat.le_of_ble_eq_true rfl) dX9_movesBySquares_2 ⟨Nat.zero_le _, Nat.zero_le _⟩ (fun H locs hP hD hS => ?_)
  have hP : va_P g.1 vwCl [(pn, .inl (g.2.1, 61, .inl fnow)), (o, .inr (9, [.int r_1.2, .ref pn, .ref pt, .ref pr, .ref pw, .ref pb, .int nst, .ref pk, .ref pi, .ref pf, .ref pl, .ref pe, .ref pm, .int nn, .ref px, .int len, .int pos, .int gd, .int ps, .int sm]))] H := hP
  have hD : va_D A [(pn, .inl (g.2.1, 61, .inl fnow)), (o, .inr (9, [.int r_1.2, .ref pn, .ref pt, .ref pr, .ref pw, .ref pb, .int nst, .ref pk, .ref pi, .ref pf, .ref pl, .ref pe, .ref pm, .int nn, .ref px, .int len, .int pos, .int gd, .int ps, .int sm]))] := hD
  refine lv_if_eq (tgt := 12) hx hb dX9_movesBySquares_5 (by decide) (fun h_2 => ?_) (fun h_2 => ?_)
  · replace hyp := ite_t h_2 hyp
    refine lv_aload_n hx hb dX9_movesBySquares_12 rfl (lv_at hl 0 rfl) ?_
    refine gf_X9_7 hx hb hts hown hE hP 1 rfl rfl dX9_movesBySquares_13 ?_
    refine lv_iload_n hx hb dX9_movesBySquares_16 rfl (lv_at hl 1 rfl) ?_
    obtain ⟨r_3, hr_3, hyp⟩ := opt_e hyp
    refine pS (As := [.ref pn, .int a1]) (rest := []) ⟨hx, hb, hml, hown, hts⟩ hE (mX9_moveCount l g pn fnow a1 r_3 hr_3) cf_X9_moveCount st_X9_moveCount ml_X9_101 ⟨Nat.le_trans (Nat.le_of_ble_eq_true rfl) hRf, Nat.le_trans (Nat.le_of_ble_eq_true rfl) hRl⟩ (hP.sub (ws' := [(pn, .inl (g.2.1, 61, .inl fnow))]) [0] rfl) rfl hl.1 rfl (Nat.le_of_ble_eq_true rfl) dX9_movesBySquares_17 ⟨Nat.zero_le _, Nat.zero_le _⟩ ?_
    have hP : va_P g.1 vwCl [(o, .inr (9, [.int r_1.2, .ref pn, .ref pt, .ref pr, .ref pw, .ref pb, .int nst, .ref pk, .ref pi, .ref pf, .ref pl, .ref pe, .ref pm, .int nn, .ref px, .int len, .int pos, .int gd, .int ps, .int sm])), (pn, .inl (g.2.1, 61, .inl fnow))] H := hP.sub [1, 0] rfl
    have hD : va_D A [(o, .inr (9, [.int r_1.2, .ref pn, .ref pt, .ref pr, .ref pw, .ref pb, .int nst, .ref pk, .ref pi, .ref pf, .ref pl, .ref pe, .ref pm, .int nn, .ref px, .int len, .int pos, .int gd, .int ps, .int sm])), (pn, .inl (g.2.1, 61, .inl fnow))] := hD.sub [1, 0] (by decide) rfl
    have hyp := some_e hyp
    subst hyp
    subst hQ
    exact rwI hx hb hr hlocks  hP hD hS dX9_movesBySquares_20
  · replace hyp := ite_f h_2 hyp
    refine lv_iconst (v := 0) hx hb dX9_movesBySquares_8 (by decide) ?_
    refine lv_goto (tgt := 20) hx hb dX9_movesBySquares_9 (by decide) ?_
    have hP : va_P g.1 vwCl [(o, .inr (9, [.int r_1.2, .ref pn, .ref pt, .ref pr, .ref pw, .ref pb, .int nst, .ref pk, .ref pi, .ref pf, .ref pl, .ref pe, .ref pm, .int nn, .ref px, .int len, .int pos, .int gd, .int ps, .int sm])), (pn, .inl (g.2.1, 61, .inl fnow))] H := hP.sub [1, 0] rfl
    have hD : va_D A [(o, .inr (9, [.int r_1.2, .ref pn, .ref pt, .ref pr, .ref pw, .ref pb, .int nst, .ref pk, .ref pi, .ref pf, .ref pl, .ref pe, .ref pm, .int nn, .ref px, .int len, .int pos, .int gd, .int ps, .int sm])), (pn, .inl (g.2.1, 61, .inl fnow))] := hD.sub [1, 0] (by decide) rfl
    have hyp := some_e hyp
    subst hyp
    subst hQ
    exact rwI hx hb hr hlocks  hP hD hS dX9_movesBySquares_20

def fX9_noWay (fnow : Nat → Int32) (a1 : Int32) (a2 : Int32) : Option (Int32 × Int32) :=
  (fX9_isSquare a1).bind (fun (r_1 : Int32) => jn (fun (t_2 : Int32) => jn (fun (t_4 : Int32) => (fX9_refused t_4).bind (fun (r_6 : Int32 × Int32) => grd (is01 r_6.1) (some (r_6.1, r_6.2)))) (fun J_5 => if t_2 = 0 then (J_5 1) else ((fX9_against fnow a1 a2).bind (fun (r_8 : Int32) => if r_8 ≤ 0 then (J_5 0) else (J_5 2))))) (fun J_3 => jn (J_3 0) (fun J_10 => if r_1 = 0 then (J_10) else ((fX9_isSquare a2).bind (fun (r_12 : Int32) => if r_12 = 0 then (J_10) else (J_3 1))))))
set_option maxRecDepth 100000 in
set_option maxHeartbeats 4000000 in
theorem mX9_noWay (l : Launch) (g : GE) (o pn pt pr pw pb pk pi pf pl pe pm px : Nat) (refu : Int32) (nst : Int32) (nn : Int32) (len : Int32) (pos : Int32) (gd : Int32) (ps : Int32) (sm : Int32) (fnow : Nat → Int32) (a1 : Int32) (a2 : Int32) (r : Int32 × Int32) (hyp : fX9_noWay fnow a1 a2 = some r) : WM l yX9_noWay cX9_noWay 4 (some .boolean) 4 94 g [(o, .inr (9, [.int refu, .ref pn, .ref pt, .ref pr, .ref pw, .ref pb, .int nst, .ref pk, .ref pi, .ref pf, .ref pl, .ref pe, .ref pm, .int nn, .ref px, .int len, .int pos, .int gd, .int ps, .int sm])), (pn, .inl (g.2.1, 61, .inl fnow))] [.ref o, .int a1, .int a2] (some (.int r.1)) [(o, .inr (9, [.int r.2, .ref pn, .ref pt, .ref pr, .ref pw, .ref pb, .int nst, .ref pk, .ref pi, .ref pf, .ref pl, .ref pe, .ref pm, .int nn, .ref px, .int len, .int pos, .int gd, .int ps, .int sm])), (pn, .inl (g.2.1, 61, .inl fnow))] := by
  refine metW_intro (by decide) rfl ?_
  intro p e R s m args below meth c Q A hRf hRl hQ hx hb hml hr hlocks hown hts hin hE hA H locs hP hD hS ls hl
  have hown : s.vm.findClass "HallGuardsModel" = some m.cls := hown
  have hl : lv_has ls 4 [(0, .ref o), (1, .int a1), (2, .int a2)] := hl
  unfold fX9_noWay at hyp
  refine lv_iload_n hx hb dX9_noWay_0 rfl (lv_at hl 1 rfl) ?_
  obtain ⟨r_1, hr_1, hyp⟩ := opt_e hyp
  refine pS (As := [.int a1]) (rest := []) ⟨hx, hb, hml, hown, hts⟩ hE (mX9_isSquare l g a1 r_1 hr_1) cf_X9_isSquare st_X9_isSquare ml_X9_159 ⟨Nat.le_trans (Nat.le_of_ble_eq_true rfl) hRf, Nat.le_trans (Nat.le_of_ble_eq_true rfl) hRl⟩ (va_P_nil) rfl hl.1 rfl (Nat.le_of_ble_eq_true rfl) dX9_noWay_1 ⟨Nat.zero_le _, Nat.zero_le _⟩ ?_
  obtain ⟨J_3, eJ_3, hyp⟩ := jn_e hyp
  have kJ_3 : ∀ (t_2 : Int32) (H : Heap) (locs : List Loc) (ls : Array Slot), J_3 t_2 = some r → lv_has ls 4 [(0, .ref o), (1, .int a1), (2, .int a2)] → va_P g.1 vwCl [(o, .inr (9, [.int refu, .ref pn, .ref pt, .ref pr, .ref pw, .ref pb, .int nst, .ref pk, .ref pi, .ref pf, .ref pl, .ref pe, .ref pm, .int nn, .ref px, .int len, .int pos, .int gd, .int ps, .int sm])), (pn, .inl (g.2.1, 61, .inl fnow))] H → va_D A [(o, .inr (9, [.int refu, .ref pn, .ref pt, .ref pr, .ref pw, .ref pb, .int nst, .ref pk, .ref pi, .ref pf, .ref pl, .ref pe, .ref pm, .int nn, .ref px, .int len, .int pos, .int gd, .int ps, .int sm])), (pn, .inl (g.2.1, 61, .inl fnow))] → va_S A s.heap H locs → W p l e R s m args below meth c H locs 0 0 Q (F0 m 19 ls [.int t_2]) := by
    intro t_2 H locs  ls hyp hl hP hD hS
    replace hyp := (congrFun (eJ_3) t_2).symm.trans hyp
    refine lv_istore_n (lv' := [(3, .int t_2), (0, .ref o), (1, .int a1), (2, .int a2)]) hx hb dX9_noWay_19 rfl hl (by decide) rfl (fun ls hl => ?_)
    refine lv_aload_n hx hb dX9_noWay_20 rfl (lv_at hl 1 rfl) ?_
    refine lv_iload_n hx hb dX9_noWay_21 rfl (lv_at hl 0 rfl) ?_
    obtain ⟨J_5, eJ_5, hyp⟩ := jn_e hyp
    have kJ_5 : ∀ (t_4 : Int32) (H : Heap) (locs : List Loc) (ls : Array Slot), J_5 t_4 = some r → lv_has ls 4 [] → va_P g.1 vwCl [(o, .inr (9, [.int refu, .ref pn, .ref pt, .ref pr, .ref pw, .ref pb, .int nst, .ref pk, .ref pi, .ref pf, .ref pl, .ref pe, .ref pm, .int nn, .ref px, .int len, .int pos, .int gd, .int ps, .int sm])), (pn, .inl (g.2.1, 61, .inl fnow))] H → va_D A [(o, .inr (9, [.int refu, .ref pn, .ref pt, .ref pr, .ref pw, .ref pb, .int nst, .ref pk, .ref pi, .ref pf, .ref pl, .ref pe, .ref pm, .int nn, .ref px, .int len, .int pos, .int gd, .int ps, .int sm])), (pn, .inl (g.2.1, 61, .inl fnow))] → va_S A s.heap H locs → W p l e R s m args below meth c H locs 0 0 Q (F0 m 46 ls [.int t_4, .ref o]) := by
      intro t_4 H locs  ls hyp hl hP hD hS
      replace hyp := (congrFun (eJ_5) t_4).symm.trans hyp
      obtain ⟨r_6, hr_6, hyp⟩ := opt_e hyp
      refine wV (As := [.int t_4]) (rest := []) ⟨hx, hb, hml, hown, hts⟩ hE (mX9_refused l g o pn pt pr pw pb pk pi pf pl pe pm px refu nst nn len pos gd ps sm t_4 r_6 hr_6) cf_X9_refused im_X9_refused se_X9_refused ml_X9_153 ⟨Nat.le_trans (Nat.le_of_ble_eq_true rfl) hRf, Nat.le_trans (Nat.le_of_ble_eq_true rfl) hRl⟩ hP hD hS hA [0] [1] rfl (wr := [(pn, .inl (g.2.1, 61, .inl fnow))]) rfl ⟨by decide, by decide⟩ (by decide) (ci := 9) (q0 := 0) rfl rfl rfl rfl hl.1 rfl (Nat.le_of_ble_eq_true rfl) dX9_noWay_46 ⟨Nat.zero_le _, Nat.zero_le _⟩ (fun H locs hP hD hS => ?_)
      have hP : va_P g.1 vwCl [(pn, .inl (g.2.1, 61, .inl fnow)), (o, .inr (9, [.int r_6.2, .ref pn, .ref pt, .ref pr, .ref pw, .ref pb, .int nst, .ref pk, .ref pi, .ref pf, .ref pl, .ref pe, .ref pm, .int nn, .ref px, .int len, .int pos, .int gd, .int ps, .int sm]))] H := hP
      have hD : va_D A [(pn, .inl (g.2.1, 61, .inl fnow)), (o, .inr (9, [.int r_6.2, .ref pn, .ref pt, .ref pr, .ref pw, .ref pb, .int nst, .ref pk, .ref pi, .ref pf, .ref pl, .ref pe, .ref pm, .int nn, .ref px, .int len, .int pos, .int gd, .int ps, .int sm]))] := hD
      have hP : va_P g.1 vwCl [(o, .inr (9, [.int r_6.2, .ref pn, .ref pt, .ref pr, .ref pw, .ref pb, .int nst, .ref pk, .ref pi, .ref pf, .ref pl, .ref pe, .ref pm, .int nn, .ref px, .int len, .int pos, .int gd, .int ps, .int sm])), (pn, .inl (g.2.1, 61, .inl fnow))] H := hP.sub [1, 0] rfl
      have hD : va_D A [(o, .inr (9, [.int r_6.2, .ref pn, .ref pt, .ref pr, .ref pw, .ref pb, .int nst, .ref pk, .ref pi, .ref pf, .ref pl, .ref pe, .ref pm, .int nn, .ref px, .int len, .int pos, .int gd, .int ps, .int sm])), (pn, .inl (g.2.1, 61, .inl fnow))] := hD.sub [1, 0] (by decide) rfl
      obtain ⟨h01, hyp⟩ := grd_e hyp
      have hyp := some_e hyp
      subst hyp
      subst hQ
      exact rwZ hx hb hr hlocks (is01_e h01)  hP hD hS dX9_noWay_49
    refine lv_if_ne (tgt := 29) hx hb dX9_noWay_22 (by decide) (fun h_7 => ?_) (fun h_7 => ?_)
    · replace hyp := ite_f h_7 hyp
      refine lv_aload_n hx hb dX9_noWay_29 rfl (lv_at hl 1 rfl) ?_
      refine gf_X9_7 hx hb hts hown hE hP 0 rfl rfl dX9_noWay_30 ?_
      refine lv_iload_n hx hb dX9_noWay_33 rfl (lv_at hl 2 rfl) ?_
      refine lv_iload_n hx hb dX9_noWay_34 rfl (lv_at hl 3 rfl) ?_
      obtain ⟨r_8, hr_8, hyp⟩ := opt_e hyp
      refine pS (As := [.ref pn, .int a1, .int a2]) (rest := [.ref o]) ⟨hx, hb, hml, hown, hts⟩ hE (mX9_against l g pn fnow a1 a2 r_8 hr_8) cf_X9_against st_X9_against ml_X9_132 ⟨Nat.le_trans (Nat.le_of_ble_eq_true rfl) hRf, Nat.le_trans (Nat.le_of_ble_eq_true rfl) hRl⟩ (hP.sub (ws' := [(pn, .inl (g.2.1, 61, .inl fnow))]) [1] rfl) rfl hl.1 rfl (Nat.le_of_ble_eq_true rfl) dX9_noWay_35 ⟨Nat.zero_le _, Nat.zero_le _⟩ ?_
      refine lv_if_le (tgt := 45) hx hb dX9_noWay_38 (by decide) (fun h_9 => ?_) (fun h_9 => ?_)
      · replace hyp := ite_t h_9 hyp
        refine lv_iconst (v := 0) hx hb dX9_noWay_45 (by decide) ?_
        exact kJ_5 0 H locs ls hyp (lv_sub hl [] rfl) hP hD hS
      · replace hyp := ite_f h_9 hyp
        refine lv_iconst (v := 2) hx hb dX9_noWay_41 (by decide) ?_
        refine lv_goto (tgt := 46) hx hb dX9_noWay_42 (by decide) ?_
        exact kJ_5 2 H locs ls hyp (lv_sub hl [] rfl) hP hD hS
    · replace hyp := ite_t h_7 hyp
      refine lv_iconst (v := 1) hx hb dX9_noWay_25 (by decide) ?_
      refine lv_goto (tgt := 46) hx hb dX9_noWay_26 (by decide) ?_
      exact kJ_5 1 H locs ls hyp (lv_sub hl [] rfl) hP hD hS
  obtain ⟨J_10, eJ_10, hyp⟩ := jn_e hyp
  have kJ_10 : ∀ (H : Heap) (locs : List Loc) (ls : Array Slot), J_10 = some r → lv_has ls 4 [(0, .ref o), (1, .int a1), (2, .int a2)] → va_P g.1 vwCl [(o, .inr (9, [.int refu, .ref pn, .ref pt, .ref pr, .ref pw, .ref pb, .int nst, .ref pk, .ref pi, .ref pf, .ref pl, .ref pe, .ref pm, .int nn, .ref px, .int len, .int pos, .int gd, .int ps, .int sm])), (pn, .inl (g.2.1, 61, .inl fnow))] H → va_D A [(o, .inr (9, [.int refu, .ref pn, .ref pt, .ref pr, .ref pw, .ref pb, .int nst, .ref pk, .ref pi, .ref pf, .ref pl, .ref pe, .ref pm, .int nn, .ref px, .int len, .int pos, .int gd, .int ps, .int sm])), (pn, .inl (g.2.1, 61, .inl fnow))] → va_S A s.heap H locs → W p l e R s m args below meth c H locs 0 0 Q (F0 m 18 ls []) := by
    intro H locs  ls hyp hl hP hD hS
    replace hyp := (eJ_10).symm.trans hyp
    refine lv_iconst (v := 0) hx hb dX9_noWay_18 (by decide) ?_
    exact kJ_3 0 H locs ls hyp hl hP hD hS
  refine lv_if_eq (tgt := 18) hx hb dX9_noWay_4 (by decide) (fun h_11 => ?_) (fun h_11 => ?_)
  · replace hyp := ite_t h_11 hyp
    exact kJ_10 H locs ls hyp hl hP hD hS
  · replace hyp := ite_f h_11 hyp
    refine lv_iload_n hx hb dX9_noWay_7 rfl (lv_at hl 2 rfl) ?_
    obtain ⟨r_12, hr_12, hyp⟩ := opt_e hyp
    refine pS (As := [.int a2]) (rest := []) ⟨hx, hb, hml, hown, hts⟩ hE (mX9_isSquare l g a2 r_12 hr_12) cf_X9_isSquare st_X9_isSquare ml_X9_159 ⟨Nat.le_trans (Nat.le_of_ble_eq_true rfl) hRf, Nat.le_trans (Nat.le_of_ble_eq_true rfl) hRl⟩ (va_P_nil) rfl hl.1 rfl (Nat.le_of_ble_eq_true rfl) dX9_noWay_8 ⟨Nat.zero_le _, Nat.zero_le _⟩ ?_
    refine lv_if_eq (tgt := 18) hx hb dX9_noWay_11 (by decide) (fun h_13 => ?_) (fun h_13 => ?_)
    · replace hyp := ite_t h_13 hyp
      exact kJ_10 H locs ls hyp hl hP hD hS
    · replace hyp := ite_f h_13 hyp
      refine lv_iconst (v := 1) hx hb dX9_noWay_14 (by decide) ?_
      refine lv_goto (tgt := 19) hx hb dX9_noWay_15 (by decide) ?_
      exact kJ_3 1 H locs ls hyp hl hP hD hS

def fX9_tried (fnow : Nat → Int32) (ftri : Nat → Int32) (a1 : Int32) (a2 : Int32) : Option (Int32 × (Nat → Int32)) :=
  (fX9_copy fnow ftri).bind (fun (r_1 : (Nat → Int32)) => (fX9_step r_1 a1 a2).bind (fun (r_2 : Int32 × (Nat → Int32)) => some (r_2.1, r_2.2)))
set_option maxRecDepth 100000 in
set_option maxHeartbeats 4000000 in
theorem mX9_tried (l : Launch) (g : GE) (o pn pt pr pw pb pk pi pf pl pe pm px : Nat) (refu : Int32) (nst : Int32) (nn : Int32) (len : Int32) (pos : Int32) (gd : Int32) (ps : Int32) (sm : Int32) (fnow : Nat → Int32) (ftri : Nat → Int32) (a1 : Int32) (a2 : Int32) (r : Int32 × (Nat → Int32)) (hyp : fX9_tried fnow ftri a1 a2 = some r) : WM l yX9_tried cX9_tried 3 (some .int) 5 125 g [(o, .inr (9, [.int refu, .ref pn, .ref pt, .ref pr, .ref pw, .ref pb, .int nst, .ref pk, .ref pi, .ref pf, .ref pl, .ref pe, .ref pm, .int nn, .ref px, .int len, .int pos, .int gd, .int ps, .int sm])), (pn, .inl (g.2.1, 61, .inl fnow)), (pt, .inl (g.2.1, 61, .inl ftri))] [.ref o, .int a1, .int a2] (some (.int r.1)) [(o, .inr (9, [.int refu, .ref pn, .ref pt, .ref pr, .ref pw, .ref pb, .int nst, .ref pk, .ref pi, .ref pf, .ref pl, .ref pe, .ref pm, .int nn, .ref px, .int len, .int pos, .int gd, .int ps, .int sm])), (pn, .inl (g.2.1, 61, .inl fnow)), (pt, .inl (g.2.1, 61, .inl r.2))] := by
  refine metW_intro (by decide) rfl ?_
  intro p e R s m args below meth c Q A hRf hRl hQ hx hb hml hr hlocks hown hts hin hE hA H locs hP hD hS ls hl
  have hown : s.vm.findClass "HallGuardsModel" = some m.cls := hown
  have hl : lv_has ls 3 [(0, .ref o), (1, .int a1), (2, .int a2)] := hl
  unfold fX9_tried at hyp
  refine lv_aload_n hx hb dX9_tried_0 rfl (lv_at hl 0 rfl) ?_
  refine gf_X9_7 hx hb hts hown hE hP 0 rfl rfl dX9_tried_1 ?_
  refine lv_aload_n hx hb dX9_tried_4 rfl (lv_at hl 0 rfl) ?_
  refine gf_X9_13 hx hb hts hown hE hP 0 rfl rfl dX9_tried_5 ?_
  obtain ⟨r_1, hr_1, hyp⟩ := opt_e hyp
  refine wS (As := [.ref pn, .ref pt]) (rest := []) ⟨hx, hb, hml, hown, hts⟩ hE (mX9_copy l g pn pt fnow ftri r_1 hr_1) cf_X9_copy st_X9_copy ml_X9_195 ⟨Nat.le_trans (Nat.le_of_ble_eq_true rfl) hRf, Nat.le_trans (Nat.le_of_ble_eq_true rfl) hRl⟩ hP hD hS hA [1, 2] [0] rfl (wr := [(o, .inr (9, [.int refu, .ref pn, .ref pt, .ref pr, .ref pw, .ref pb, .int nst, .ref pk, .ref pi, .ref pf, .ref pl, .ref pe, .ref pm, .int nn, .ref px, .int len, .int pos, .int gd, .int ps, .int sm]))]) rfl ⟨by decide, by decide⟩ (by decide) rfl hl.1 rfl (Nat.le_of_ble_eq_true rfl) dX9_tried_8 ⟨Nat.zero_le _, Nat.zero_le _⟩ (fun H locs hP hD hS => ?_)
  have hP : va_P g.1 vwCl [(o, .inr (9, [.int refu, .ref pn, .ref pt, .ref pr, .ref pw, .ref pb, .int nst, .ref pk, .ref pi, .ref pf, .ref pl, .ref pe, .ref pm, .int nn, .ref px, .int len, .int pos, .int gd, .int ps, .int sm])), (pn, .inl (g.2.1, 61, .inl fnow)), (pt, .inl (g.2.1, 61, .inl r_1))] H := hP
  have hD : va_D A [(o, .inr (9, [.int refu, .ref pn, .ref pt, .ref pr, .ref pw, .ref pb, .int nst, .ref pk, .ref pi, .ref pf, .ref pl, .ref pe, .ref pm, .int nn, .ref px, .int len, .int pos, .int gd, .int ps, .int sm])), (pn, .inl (g.2.1, 61, .inl fnow)), (pt, .inl (g.2.1, 61, .inl r_1))] := hD
  refine lv_aload_n hx hb dX9_tried_11 rfl (lv_at hl 0 rfl) ?_
  refine gf_X9_13 hx hb hts hown hE hP 0 rfl rfl dX9_tried_12 ?_
  refine lv_iload_n hx hb dX9_tried_15 rfl (lv_at hl 1 rfl) ?_
  refine lv_iload_n hx hb dX9_tried_16 rfl (lv_at hl 2 rfl) ?_
  obtain ⟨r_2, hr_2, hyp⟩ := opt_e hyp
  refine wS (As := [.ref pt, .int a1, .int a2]) (rest := []) ⟨hx, hb, hml, hown, hts⟩ hE (mX9_step l g pt r_1 a1 a2 r_2 hr_2) cf_X9_step st_X9_step ml_X9_136 ⟨Nat.le_trans (Nat.le_of_ble_eq_true rfl) hRf, Nat.le_trans (Nat.le_of_ble_eq_true rfl) hRl⟩ hP hD hS hA [2] [0, 1] rfl (wr := [(o, .inr (9, [.int refu, .ref pn, .ref pt, .ref pr, .ref pw, .ref pb, .int nst, .ref pk, .ref pi, .ref pf, .ref pl, .ref pe, .ref pm, .int nn, .ref px, .int len, .int pos, .int gd, .int ps, .int sm])), (pn, .inl (g.2.1, 61, .inl fnow))]) rfl ⟨by decide, by decide⟩ (by decide) rfl hl.1 rfl (Nat.le_of_ble_eq_true rfl) dX9_tried_17 ⟨Nat.zero_le _, Nat.zero_le _⟩ (fun H locs hP hD hS => ?_)
  have hP : va_P g.1 vwCl [(o, .inr (9, [.int refu, .ref pn, .ref pt, .ref pr, .ref pw, .ref pb, .int nst, .ref pk, .ref pi, .ref pf, .ref pl, .ref pe, .ref pm, .int nn, .ref px, .int len, .int pos, .int gd, .int ps, .int sm])), (pn, .inl (g.2.1, 61, .inl fnow)), (pt, .inl (g.2.1, 61, .inl r_2.2))] H := hP
  have hD : va_D A [(o, .inr (9, [.int refu, .ref pn, .ref pt, .ref pr, .ref pw, .ref pb, .int nst, .ref pk, .ref pi, .ref pf, .ref pl, .ref pe, .ref pm, .int nn, .ref px, .int len, .int pos, .int gd, .int ps, .int sm])), (pn, .inl (g.2.1, 61, .inl fnow)), (pt, .inl (g.2.1, 61, .inl r_2.2))] := hD
  have hyp := some_e hyp
  subst hyp
  subst hQ
  exact rwI hx hb hr hlocks  hP hD hS dX9_tried_20

def fX9_wouldTake (fnow : Nat → Int32) (ftri : Nat → Int32) (a1 : Int32) (a2 : Int32) : Option (Int32 × Int32 × (Nat → Int32)) :=
  (fX9_noWay fnow a1 a2).bind (fun (r_1 : Int32 × Int32) => if r_1.1 = 0 then ((fX9_tried fnow ftri a1 a2).bind (fun (r_3 : Int32 × (Nat → Int32)) => some (r_3.1, r_1.2, r_3.2))) else (some (0, r_1.2, ftri)))
set_option maxRecDepth 100000 in
set_option maxHeartbeats 4000000 in
theorem mX9_wouldTake (l : Launch) (g : GE) (o pn pt pr pw pb pk pi pf pl pe pm px : Nat) (refu : Int32) (nst : Int32) (nn : Int32) (len : Int32) (pos : Int32) (gd : Int32) (ps : Int32) (sm : Int32) (fnow : Nat → Int32) (ftri : Nat → Int32) (a1 : Int32) (a2 : Int32) (r : Int32 × Int32 × (Nat → Int32)) (hyp : fX9_wouldTake fnow ftri a1 a2 = some r) : WM l yX9_wouldTake cX9_wouldTake 3 (some .int) 6 147 g [(o, .inr (9, [.int refu, .ref pn, .ref pt, .ref pr, .ref pw, .ref pb, .int nst, .ref pk, .ref pi, .ref pf, .ref pl, .ref pe, .ref pm, .int nn, .ref px, .int len, .int pos, .int gd, .int ps, .int sm])), (pn, .inl (g.2.1, 61, .inl fnow)), (pt, .inl (g.2.1, 61, .inl ftri))] [.ref o, .int a1, .int a2] (some (.int r.1)) [(o, .inr (9, [.int r.2.1, .ref pn, .ref pt, .ref pr, .ref pw, .ref pb, .int nst, .ref pk, .ref pi, .ref pf, .ref pl, .ref pe, .ref pm, .int nn, .ref px, .int len, .int pos, .int gd, .int ps, .int sm])), (pn, .inl (g.2.1, 61, .inl fnow)), (pt, .inl (g.2.1, 61, .inl r.2.2))] := by
  refine metW_intro (by decide) rfl ?_
  intro p e R s m args below meth c Q A hRf hRl hQ hx hb hml hr hlocks hown hts hin hE hA H locs hP hD hS ls hl
  have hown : s.vm.findClass "HallGuardsModel" = some m.cls := hown
  have hl : lv_has ls 3 [(0, .ref o), (1, .int a1), (2, .int a2)] := hl
  unfold fX9_wouldTake at hyp
  refine lv_aload_n hx hb dX9_wouldTake_0 rfl (lv_at hl 0 rfl) ?_
  refine lv_iload_n hx hb dX9_wouldTake_1 rfl (lv_at hl 1 rfl) ?_
  refine lv_iload_n hx hb dX9_wouldTake_2 rfl (lv_at hl 2 rfl) ?_
  obtain ⟨r_1, hr_1, hyp⟩ := opt_e hyp
  refine wV (As := [.int a1, .int a2]) (rest := []) ⟨hx, hb, hml, hown, hts⟩ hE (mX9_noWay l g o pn pt pr pw pb pk pi pf pl pe pm px refu nst nn len pos gd ps sm fnow a1 a2 r_1 hr_1) cf_X9_noWay im_X9_noWay se_X9_noWay ml_X9_221 ⟨Nat.le_trans (Nat.le_of_ble_eq_true rfl) hRf, Nat.le_trans (Nat.le_of_ble_eq_true rfl) hRl⟩ hP hD hS hA [0, 1] [2] rfl (wr := [(pt, .inl (g.2.1, 61, .inl ftri))]) rfl ⟨by decide, by decide⟩ (by decide) (ci := 9) (q0 := 0) rfl rfl rfl rfl hl.1 rfl (Nat.le_of_ble_eq_true rfl) dX9_wouldTake_3 ⟨Nat.zero_le _, Nat.zero_le _⟩ (fun H locs hP hD hS => ?_)
  have hP : va_P g.1 vwCl [(pt, .inl (g.2.1, 61, .inl ftri)), (o, .inr (9, [.int r_1.2, .ref pn, .ref pt, .ref pr, .ref pw, .ref pb, .int nst, .ref pk, .ref pi, .ref pf, .ref pl, .ref pe, .ref pm, .int nn, .ref px, .int len, .int pos, .int gd, .int ps, .int sm])), (pn, .inl (g.2.1, 61, .inl fnow))] H := hP
  have hD : va_D A [(pt, .inl (g.2.1, 61, .inl ftri)), (o, .inr (9, [.int r_1.2, .ref pn, .ref pt, .ref pr, .ref pw, .ref pb, .int nst, .ref pk, .ref pi, .ref pf, .ref pl, .ref pe, .ref pm, .int nn, .ref px, .int len, .int pos, .int gd, .int ps, .int sm])), (pn, .inl (g.2.1, 61, .inl fnow))] := hD
  refine lv_if_eq (tgt := 13) hx hb dX9_wouldTake_6 (by decide) (fun h_2 => ?_) (fun h_2 => ?_)
  · replace hyp := ite_t h_2 hyp
    refine lv_aload_n hx hb dX9_wouldTake_13 rfl (lv_at hl 0 rfl) ?_
    refine lv_iload_n hx hb dX9_wouldTake_14 rfl (lv_at hl 1 rfl) ?_
    refine lv_iload_n hx hb dX9_wouldTake_15 rfl (lv_at hl 2 rfl) ?_
    obtain ⟨r_3, hr_3, hyp⟩ := opt_e hyp
    refine wV (As := [.int a1, .int a2]) (rest := []) ⟨hx, hb, hml, hown, hts⟩ hE (mX9_tried l g o pn pt pr pw pb pk pi pf pl pe pm px r_1.2 nst nn len pos gd ps sm fnow ftri a1 a2 r_3 hr_3) cf_X9_tried im_X9_tried se_X9_tried ml_X9_224 ⟨Nat.le_trans (Nat.le_of_ble_eq_true rfl) hRf, Nat.le_trans (Nat.le_of_ble_eq_true rfl) hRl⟩ hP hD hS hA [1, 2, 0] [] rfl (wr := []) rfl ⟨by decide, by decide⟩ (by decide) (ci := 9) (q0 := 0) rfl rfl rfl rfl hl.1 rfl (Nat.le_of_ble_eq_true rfl) dX9_wouldTake_16 ⟨Nat.zero_le _, Nat.zero_le _⟩ (fun H locs hP hD hS => ?_)
    have hP : va_P g.1 vwCl [(o, .inr (9, [.int r_1.2, .ref pn, .ref pt, .ref pr, .ref pw, .ref pb, .int nst, .ref pk, .ref pi, .ref pf, .ref pl, .ref pe, .ref pm, .int nn, .ref px, .int len, .int pos, .int gd, .int ps, .int sm])), (pn, .inl (g.2.1, 61, .inl fnow)), (pt, .inl (g.2.1, 61, .inl r_3.2))] H := hP
    have hD : va_D A [(o, .inr (9, [.int r_1.2, .ref pn, .ref pt, .ref pr, .ref pw, .ref pb, .int nst, .ref pk, .ref pi, .ref pf, .ref pl, .ref pe, .ref pm, .int nn, .ref px, .int len, .int pos, .int gd, .int ps, .int sm])), (pn, .inl (g.2.1, 61, .inl fnow)), (pt, .inl (g.2.1, 61, .inl r_3.2))] := hD
    have hyp := some_e hyp
    subst hyp
    subst hQ
    exact rwI hx hb hr hlocks  hP hD hS dX9_wouldTake_19
  · replace hyp := ite_f h_2 hyp
    refine lv_iconst (v := 0) hx hb dX9_wouldTake_9 (by decide) ?_
    refine lv_goto (tgt := 19) hx hb dX9_wouldTake_10 (by decide) ?_
    have hP : va_P g.1 vwCl [(o, .inr (9, [.int r_1.2, .ref pn, .ref pt, .ref pr, .ref pw, .ref pb, .int nst, .ref pk, .ref pi, .ref pf, .ref pl, .ref pe, .ref pm, .int nn, .ref px, .int len, .int pos, .int gd, .int ps, .int sm])), (pn, .inl (g.2.1, 61, .inl fnow)), (pt, .inl (g.2.1, 61, .inl ftri))] H := hP.sub [1, 2, 0] rfl
    have hD : va_D A [(o, .inr (9, [.int r_1.2, .ref pn, .ref pt, .ref pr, .ref pw, .ref pb, .int nst, .ref pk, .ref pi, .ref pf, .ref pl, .ref pe, .ref pm, .int nn, .ref px, .int len, .int pos, .int gd, .int ps, .int sm])), (pn, .inl (g.2.1, 61, .inl fnow)), (pt, .inl (g.2.1, 61, .inl ftri))] := hD.sub [1, 2, 0] (by decide) rfl
    have hyp := some_e hyp
    subst hyp
    subst hQ
    exact rwI hx hb hr hlocks  hP hD hS dX9_wouldTake_19

def fX9_wouldWin (fnow : Nat → Int32) (ftri : Nat → Int32) (a1 : Int32) (a2 : Int32) : Option (Int32 × Int32 × (Nat → Int32)) :=
  (fX9_noWay fnow a1 a2).bind (fun (r_1 : Int32 × Int32) => if r_1.1 = 0 then ((fX9_ends fnow ftri a1 a2).bind (fun (r_3 : Int32 × (Nat → Int32)) => if r_3.1 = 0 then (some (0, r_1.2, r_3.2)) else (some (1, r_1.2, r_3.2)))) else (some (0, r_1.2, ftri)))
set_option maxRecDepth 100000 in
set_option maxHeartbeats 4000000 in
theorem mX9_wouldWin (l : Launch) (g : GE) (o pn pt pr pw pb pk pi pf pl pe pm px : Nat) (refu : Int32) (nst : Int32) (nn : Int32) (len : Int32) (pos : Int32) (gd : Int32) (ps : Int32) (sm : Int32) (fnow : Nat → Int32) (ftri : Nat → Int32) (a1 : Int32) (a2 : Int32) (r : Int32 × Int32 × (Nat → Int32)) (hyp : fX9_wouldWin fnow ftri a1 a2 = some r) : WM l yX9_wouldWin cX9_wouldWin 3 (some .boolean) 6 152 g [(o, .inr (9, [.int refu, .ref pn, .ref pt, .ref pr, .ref pw, .ref pb, .int nst, .ref pk, .ref pi, .ref pf, .ref pl, .ref pe, .ref pm, .int nn, .ref px, .int len, .int pos, .int gd, .int ps, .int sm])), (pn, .inl (g.2.1, 61, .inl fnow)), (pt, .inl (g.2.1, 61, .inl ftri))] [.ref o, .int a1, .int a2] (some (.int r.1)) [(o, .inr (9, [.int r.2.1, .ref pn, .ref pt, .ref pr, .ref pw, .ref pb, .int nst, .ref pk, .ref pi, .ref pf, .ref pl, .ref pe, .ref pm, .int nn, .ref px, .int len, .int pos, .int gd, .int ps, .int sm])), (pn, .inl (g.2.1, 61, .inl fnow)), (pt, .inl (g.2.1, 61, .inl r.2.2))] := by
  refine metW_intro (by decide) rfl ?_
  intro p e R s m args below meth c Q A hRf hRl hQ hx hb hml hr hlocks hown hts hin hE hA H locs hP hD hS ls hl
  have hown : s.vm.findClass "HallGuardsModel" = some m.cls := hown
  have hl : lv_has ls 3 [(0, .ref o), (1, .int a1), (2, .int a2)] := hl
  unfold fX9_wouldWin at hyp
  refine lv_aload_n hx hb dX9_wouldWin_0 rfl (lv_at hl 0 rfl) ?_
  refine lv_iload_n hx hb dX9_wouldWin_1 rfl (lv_at hl 1 rfl) ?_
  refine lv_iload_n hx hb dX9_wouldWin_2 rfl (lv_at hl 2 rfl) ?_
  obtain ⟨r_1, hr_1, hyp⟩ := opt_e hyp
  refine wV (As := [.int a1, .int a2]) (rest := []) ⟨hx, hb, hml, hown, hts⟩ hE (mX9_noWay l g o pn pt pr pw pb pk pi pf pl pe pm px refu nst nn len pos gd ps sm fnow a1 a2 r_1 hr_1) cf_X9_noWay im_X9_noWay se_X9_noWay ml_X9_221 ⟨Nat.le_trans (Nat.le_of_ble_eq_true rfl) hRf, Nat.le_trans (Nat.le_of_ble_eq_true rfl) hRl⟩ hP hD hS hA [0, 1] [2] rfl (wr := [(pt, .inl (g.2.1, 61, .inl ftri))]) rfl ⟨by decide, by decide⟩ (by decide) (ci := 9) (q0 := 0) rfl rfl rfl rfl hl.1 rfl (Nat.le_of_ble_eq_true rfl) dX9_wouldWin_3 ⟨Nat.zero_le _, Nat.zero_le _⟩ (fun H locs hP hD hS => ?_)
  have hP : va_P g.1 vwCl [(pt, .inl (g.2.1, 61, .inl ftri)), (o, .inr (9, [.int r_1.2, .ref pn, .ref pt, .ref pr, .ref pw, .ref pb, .int nst, .ref pk, .ref pi, .ref pf, .ref pl, .ref pe, .ref pm, .int nn, .ref px, .int len, .int pos, .int gd, .int ps, .int sm])), (pn, .inl (g.2.1, 61, .inl fnow))] H := hP
  have hD : va_D A [(pt, .inl (g.2.1, 61, .inl ftri)), (o, .inr (9, [.int r_1.2, .ref pn, .ref pt, .ref pr, .ref pw, .ref pb, .int nst, .ref pk, .ref pi, .ref pf, .ref pl, .ref pe, .ref pm, .int nn, .ref px, .int len, .int pos, .int gd, .int ps, .int sm])), (pn, .inl (g.2.1, 61, .inl fnow))] := hD
  refine lv_if_ne (tgt := 29) hx hb dX9_wouldWin_6 (by decide) (fun h_2 => ?_) (fun h_2 => ?_)
  · replace hyp := ite_f h_2 hyp
    refine lv_iconst (v := 0) hx hb dX9_wouldWin_29 (by decide) ?_
    have hP : va_P g.1 vwCl [(o, .inr (9, [.int r_1.2, .ref pn, .ref pt, .ref pr, .ref pw, .ref pb, .int nst, .ref pk, .ref pi, .ref pf, .ref pl, .ref pe, .ref pm, .int nn, .ref px, .int len, .int pos, .int gd, .int ps, .int sm])), (pn, .inl (g.2.1, 61, .inl fnow)), (pt, .inl (g.2.1, 61, .inl ftri))] H := hP.sub [1, 2, 0] rfl
    have hD : va_D A [(o, .inr (9, [.int r_1.2, .ref pn, .ref pt, .ref pr, .ref pw, .ref pb, .int nst, .ref pk, .ref pi, .ref pf, .ref pl, .ref pe, .ref pm, .int nn, .ref px, .int len, .int pos, .int gd, .int ps, .int sm])), (pn, .inl (g.2.1, 61, .inl fnow)), (pt, .inl (g.2.1, 61, .inl ftri))] := hD.sub [1, 2, 0] (by decide) rfl
    have hyp := some_e hyp
    subst hyp
    subst hQ
    exact rwZ hx hb hr hlocks (Or.inl rfl)  hP hD hS dX9_wouldWin_30
  · replace hyp := ite_t h_2 hyp
    refine lv_aload_n hx hb dX9_wouldWin_9 rfl (lv_at hl 0 rfl) ?_
    refine gf_X9_7 hx hb hts hown hE hP 1 rfl rfl dX9_wouldWin_10 ?_
    refine lv_aload_n hx hb dX9_wouldWin_13 rfl (lv_at hl 0 rfl) ?_
    refine gf_X9_13 hx hb hts hown hE hP 1 rfl rfl dX9_wouldWin_14 ?_
    refine lv_iload_n hx hb dX9_wouldWin_17 rfl (lv_at hl 1 rfl) ?_
    refine lv_iload_n hx hb dX9_wouldWin_18 rfl (lv_at hl 2 rfl) ?_
    obtain ⟨r_3, hr_3, hyp⟩ := opt_e hyp
    refine wS (As := [.ref pn, .ref pt, .int a1, .int a2]) (rest := []) ⟨hx, hb, hml, hown, hts⟩ hE (mX9_ends l g pn pt fnow ftri a1 a2 r_3 hr_3) cf_X9_ends st_X9_ends ml_X9_227 ⟨Nat.le_trans (Nat.le_of_ble_eq_true rfl) hRf, Nat.le_trans (Nat.le_of_ble_eq_true rfl) hRl⟩ hP hD hS hA [2, 0] [1] rfl (wr := [(o, .inr (9, [.int r_1.2, .ref pn, .ref pt, .ref pr, .ref pw, .ref pb, .int nst, .ref pk, .ref pi, .ref pf, .ref pl, .ref pe, .ref pm, .int nn, .ref px, .int len, .int pos, .int gd, .int ps, .int sm]))]) rfl ⟨by decide, by decide⟩ (by decide) rfl hl.1 rfl (Nat.le_of_ble_eq_true rfl) dX9_wouldWin_19 ⟨Nat.zero_le _, Nat.zero_le _⟩ (fun H locs hP hD hS => ?_)
    have hP : va_P g.1 vwCl [(o, .inr (9, [.int r_1.2, .ref pn, .ref pt, .ref pr, .ref pw, .ref pb, .int nst, .ref pk, .ref pi, .ref pf, .ref pl, .ref pe, .ref pm, .int nn, .ref px, .int len, .int pos, .int gd, .int ps, .int sm])), (pn, .inl (g.2.1, 61, .inl fnow)), (pt, .inl (g.2.1, 61, .inl r_3.2))] H := hP
    have hD : va_D A [(o, .inr (9, [.int r_1.2, .ref pn, .ref pt, .ref pr, .ref pw, .ref pb, .int nst, .ref pk, .ref pi, .ref pf, .ref pl, .ref pe, .ref pm, .int nn, .ref px, .int len, .int pos, .int gd, .int ps, .int sm])), (pn, .inl (g.2.1, 61, .inl fnow)), (pt, .inl (g.2.1, 61, .inl r_3.2))] := hD
    refine lv_if_eq (tgt := 29) hx hb dX9_wouldWin_22 (by decide) (fun h_4 => ?_) (fun h_4 => ?_)
    · replace hyp := ite_t h_4 hyp
      refine lv_iconst (v := 0) hx hb dX9_wouldWin_29 (by decide) ?_
      have hyp := some_e hyp
      subst hyp
      subst hQ
      exact rwZ hx hb hr hlocks (Or.inl rfl)  hP hD hS dX9_wouldWin_30
    · replace hyp := ite_f h_4 hyp
      refine lv_iconst (v := 1) hx hb dX9_wouldWin_25 (by decide) ?_
      refine lv_goto (tgt := 30) hx hb dX9_wouldWin_26 (by decide) ?_
      have hyp := some_e hyp
      subst hyp
      subst hQ
      exact rwZ hx hb hr hlocks (Or.inr rfl)  hP hD hS dX9_wouldWin_30

def fX9_winningMoves (fnow : Nat → Int32) (ftri : Nat → Int32) (a1 : Int32) : Option (Int32 × Int32 × (Nat → Int32)) :=
  (fX9_noSide a1).bind (fun (r_1 : Int32 × Int32) => if r_1.1 = 0 then ((fX9_winning fnow ftri a1).bind (fun (r_3 : Int32 × (Nat → Int32)) => some (r_3.1, r_1.2, r_3.2))) else (some (0, r_1.2, ftri)))
set_option maxRecDepth 100000 in
set_option maxHeartbeats 4000000 in
theorem mX9_winningMoves (l : Launch) (g : GE) (o pn pt pr pw pb pk pi pf pl pe pm px : Nat) (refu : Int32) (nst : Int32) (nn : Int32) (len : Int32) (pos : Int32) (gd : Int32) (ps : Int32) (sm : Int32) (fnow : Nat → Int32) (ftri : Nat → Int32) (a1 : Int32) (r : Int32 × Int32 × (Nat → Int32)) (hyp : fX9_winningMoves fnow ftri a1 = some r) : WM l yX9_winningMoves cX9_winningMoves 2 (some .int) 7 177 g [(o, .inr (9, [.int refu, .ref pn, .ref pt, .ref pr, .ref pw, .ref pb, .int nst, .ref pk, .ref pi, .ref pf, .ref pl, .ref pe, .ref pm, .int nn, .ref px, .int len, .int pos, .int gd, .int ps, .int sm])), (pn, .inl (g.2.1, 61, .inl fnow)), (pt, .inl (g.2.1, 61, .inl ftri))] [.ref o, .int a1] (some (.int r.1)) [(o, .inr (9, [.int r.2.1, .ref pn, .ref pt, .ref pr, .ref pw, .ref pb, .int nst, .ref pk, .ref pi, .ref pf, .ref pl, .ref pe, .ref pm, .int nn, .ref px, .int len, .int pos, .int gd, .int ps, .int sm])), (pn, .inl (g.2.1, 61, .inl fnow)), (pt, .inl (g.2.1, 61, .inl r.2.2))] := by
  refine metW_intro (by decide) rfl ?_
  intro p e R s m args below meth c Q A hRf hRl hQ hx hb hml hr hlocks hown hts hin hE hA H locs hP hD hS ls hl
  have hown : s.vm.findClass "HallGuardsModel" = some m.cls := hown
  have hl : lv_has ls 2 [(0, .ref o), (1, .int a1)] := hl
  unfold fX9_winningMoves at hyp
  refine lv_aload_n hx hb dX9_winningMoves_0 rfl (lv_at hl 0 rfl) ?_
  refine lv_iload_n hx hb dX9_winningMoves_1 rfl (lv_at hl 1 rfl) ?_
  obtain ⟨r_1, hr_1, hyp⟩ := opt_e hyp
  refine wV (As := [.int a1]) (rest := []) ⟨hx, hb, hml, hown, hts⟩ hE (mX9_noSide l g o pn pt pr pw pb pk pi pf pl pe pm px refu nst nn len pos gd ps sm a1 r_1 hr_1) cf_X9_noSide im_X9_noSide se_X9_noSide ml_X9_209 ⟨Nat.le_trans (Nat.le_of_ble_eq_true rfl) hRf, Nat.le_trans (Nat.le_of_ble_eq_true rfl) hRl⟩ hP hD hS hA [0] [1, 2] rfl (wr := [(pn, .inl (g.2.1, 61, .inl fnow)), (pt, .inl (g.2.1, 61, .inl ftri))]) rfl ⟨by decide, by decide⟩ (by decide) (ci := 9) (q0 := 0) rfl rfl rfl rfl hl.1 rfl (Nat.le_of_ble_eq_true rfl) dX9_winningMoves_2 ⟨Nat.zero_le _, Nat.zero_le _⟩ (fun H locs hP hD hS => ?_)
  have hP : va_P g.1 vwCl [(pn, .inl (g.2.1, 61, .inl fnow)), (pt, .inl (g.2.1, 61, .inl ftri)), (o, .inr (9, [.int r_1.2, .ref pn, .ref pt, .ref pr, .ref pw, .ref pb, .int nst, .ref pk, .ref pi, .ref pf, .ref pl, .ref pe, .ref pm, .int nn, .ref px, .int len, .int pos, .int gd, .int ps, .int sm]))] H := hP
  have hD : va_D A [(pn, .inl (g.2.1, 61, .inl fnow)), (pt, .inl (g.2.1, 61, .inl ftri)), (o, .inr (9, [.int r_1.2, .ref pn, .ref pt, .ref pr, .ref pw, .ref pb, .int nst, .ref pk, .ref pi, .ref pf, .ref pl, .ref pe, .ref pm, .int nn, .ref px, .int len, .int pos, .int gd, .int ps, .int sm]))] := hD
  refine lv_if_eq (tgt := 12) hx hb dX9_winningMoves_5 (by decide) (fun h_2 => ?_) (fun h_2 => ?_)
  · replace hyp := ite_t h_2 hyp
    refine lv_aload_n hx hb dX9_winningMoves_12 rfl (lv_at hl 0 rfl) ?_
    refine gf_X9_7 hx hb hts hown hE hP 2 rfl rfl dX9_winningMoves_13 ?_
    refine lv_aload_n hx hb dX9_winningMoves_16 rfl (lv_at hl 0 rfl) ?_
    refine gf_X9_13 hx hb hts hown hE hP 2 rfl rfl dX9_winningMoves_17 ?_
    refine lv_iload_n hx hb dX9_winningMoves_20 rfl (lv_at hl 1 rfl) ?_
    obtain ⟨r_3, hr_3, hyp⟩ := opt_e hyp
    refine wS (As := [.ref pn, .ref pt, .int a1]) (rest := []) ⟨hx, hb, hml, hown, hts⟩ hE (mX9_winning l g pn pt fnow ftri a1 r_3 hr_3) cf_X9_winning st_X9_winning ml_X9_231 ⟨Nat.le_trans (Nat.le_of_ble_eq_true rfl) hRf, Nat.le_trans (Nat.le_of_ble_eq_true rfl) hRl⟩ hP hD hS hA [0, 1] [2] rfl (wr := [(o, .inr (9, [.int r_1.2, .ref pn, .ref pt, .ref pr, .ref pw, .ref pb, .int nst, .ref pk, .ref pi, .ref pf, .ref pl, .ref pe, .ref pm, .int nn, .ref px, .int len, .int pos, .int gd, .int ps, .int sm]))]) rfl ⟨by decide, by decide⟩ (by decide) rfl hl.1 rfl (Nat.le_of_ble_eq_true rfl) dX9_winningMoves_21 ⟨Nat.zero_le _, Nat.zero_le _⟩ (fun H locs hP hD hS => ?_)
    have hP : va_P g.1 vwCl [(o, .inr (9, [.int r_1.2, .ref pn, .ref pt, .ref pr, .ref pw, .ref pb, .int nst, .ref pk, .ref pi, .ref pf, .ref pl, .ref pe, .ref pm, .int nn, .ref px, .int len, .int pos, .int gd, .int ps, .int sm])), (pn, .inl (g.2.1, 61, .inl fnow)), (pt, .inl (g.2.1, 61, .inl r_3.2))] H := hP
    have hD : va_D A [(o, .inr (9, [.int r_1.2, .ref pn, .ref pt, .ref pr, .ref pw, .ref pb, .int nst, .ref pk, .ref pi, .ref pf, .ref pl, .ref pe, .ref pm, .int nn, .ref px, .int len, .int pos, .int gd, .int ps, .int sm])), (pn, .inl (g.2.1, 61, .inl fnow)), (pt, .inl (g.2.1, 61, .inl r_3.2))] := hD
    have hyp := some_e hyp
    subst hyp
    subst hQ
    exact rwI hx hb hr hlocks  hP hD hS dX9_winningMoves_24
  · replace hyp := ite_f h_2 hyp
    refine lv_iconst (v := 0) hx hb dX9_winningMoves_8 (by decide) ?_
    refine lv_goto (tgt := 24) hx hb dX9_winningMoves_9 (by decide) ?_
    have hP : va_P g.1 vwCl [(o, .inr (9, [.int r_1.2, .ref pn, .ref pt, .ref pr, .ref pw, .ref pb, .int nst, .ref pk, .ref pi, .ref pf, .ref pl, .ref pe, .ref pm, .int nn, .ref px, .int len, .int pos, .int gd, .int ps, .int sm])), (pn, .inl (g.2.1, 61, .inl fnow)), (pt, .inl (g.2.1, 61, .inl ftri))] H := hP.sub [2, 0, 1] rfl
    have hD : va_D A [(o, .inr (9, [.int r_1.2, .ref pn, .ref pt, .ref pr, .ref pw, .ref pb, .int nst, .ref pk, .ref pi, .ref pf, .ref pl, .ref pe, .ref pm, .int nn, .ref px, .int len, .int pos, .int gd, .int ps, .int sm])), (pn, .inl (g.2.1, 61, .inl fnow)), (pt, .inl (g.2.1, 61, .inl ftri))] := hD.sub [2, 0, 1] (by decide) rfl
    have hyp := some_e hyp
    subst hyp
    subst hQ
    exact rwI hx hb hr hlocks  hP hD hS dX9_winningMoves_24

def fX9_oneMove_L15_B (fnow : Nat → Int32) (a1 : Int32) (a2 : Int32) (self_3 : Int32 → Int32 → Option Int32) (v4_2 : Int32) (self_7 : Int32 → Int32 → Option Int32) (v3_5 : Int32) (v5_6 : Int32) : Option Int32 :=
  if 49 ≤ v5_6 then (self_3 v3_5 (v4_2 + 1)) else (grd (inB v4_2 61) ((fX9_side (fnow v4_2.toNatClampNeg)).bind (fun (r_9 : Int32) => if r_9 = a1 then ((fX9_against fnow v4_2 v5_6).bind (fun (r_11 : Int32) => if r_11 = 0 then (if v3_5 = a2 then (some ((49 * v4_2) + v5_6)) else (self_7 (v3_5 + 1) (v5_6 + 1))) else (self_7 v3_5 (v5_6 + 1)))) else (self_3 v3_5 (v4_2 + 1)))))
def fX9_oneMove_L15 (fnow : Nat → Int32) (a1 : Int32) (a2 : Int32) (self_3 : Int32 → Int32 → Option Int32) (v4_2 : Int32) (n : Nat) (v3_5 : Int32) (v5_6 : Int32) : Option Int32 := lp (fun zf z => fX9_oneMove_L15_B fnow a1 a2 self_3 v4_2 (fun v3_5 v5_6 => zf (v3_5, v5_6)) z.1 z.2) n (v3_5, v5_6)
def fX9_oneMove_L5_B (fnow : Nat → Int32) (a1 : Int32) (a2 : Int32) (self_3 : Int32 → Int32 → Option Int32) (v3_1 : Int32) (v4_2 : Int32) : Option Int32 :=
  if 49 ≤ v4_2 then (some (-1)) else (fX9_oneMove_L15 fnow a1 a2 self_3 v4_2 64 v3_1 0)
def fX9_oneMove_L5 (fnow : Nat → Int32) (a1 : Int32) (a2 : Int32) (n : Nat) (v3_1 : Int32) (v4_2 : Int32) : Option Int32 := lp (fun zf z => fX9_oneMove_L5_B fnow a1 a2 (fun v3_1 v4_2 => zf (v3_1, v4_2)) z.1 z.2) n (v3_1, v4_2)
def fX9_oneMove (fnow : Nat → Int32) (a1 : Int32) (a2 : Int32) : Option Int32 :=
  fX9_oneMove_L5 fnow a1 a2 64 0 0
set_option maxRecDepth 100000 in
set_option maxHeartbeats 4000000 in
theorem mX9_oneMove (l : Launch) (g : GE) (o pn pt pr pw pb pk pi pf pl pe pm px : Nat) (refu : Int32) (nst : Int32) (nn : Int32) (len : Int32) (pos : Int32) (gd : Int32) (ps : Int32) (sm : Int32) (fnow : Nat → Int32) (a1 : Int32) (a2 : Int32) (r : Int32) (hyp : fX9_oneMove fnow a1 a2 = some r) : PI l yX9_oneMove cX9_oneMove 6 (some .int) 4 94 g [(o, .inr (9, [.int refu, .ref pn, .ref pt, .ref pr, .ref pw, .ref pb, .int nst, .ref pk, .ref pi, .ref pf, .ref pl, .ref pe, .ref pm, .int nn, .ref px, .int len, .int pos, .int gd, .int ps, .int sm])), (pn, .inl (g.2.1, 61, .inl fnow))] [.ref o, .int a1, .int a2] r := by
  refine metP_intro (by decide) rfl ?_
  intro p e R s m args below meth c Q hRf hRl hQ hx hb hml hr hlocks hown hts hin hE hP ls hl
  have hown : s.vm.findClass "HallGuardsModel" = some m.cls := hown
  have hl : lv_has ls 6 [(0, .ref o), (1, .int a1), (2, .int a2)] := hl
  unfold fX9_oneMove at hyp
  refine lv_iconst (v := 0) hx hb dX9_oneMove_0 (by decide) ?_
  refine lv_istore_n (lv' := [(3, .int 0), (0, .ref o), (1, .int a1), (2, .int a2)]) hx hb dX9_oneMove_1 rfl hl (by decide) rfl (fun ls hl => ?_)
  refine lv_iconst (v := 0) hx hb dX9_oneMove_2 (by decide) ?_
  refine lv_istore (lv' := [(4, .int 0), (3, .int 0), (0, .ref o), (1, .int a1), (2, .int a2)]) hx hb dX9_oneMove_3 hl (by decide) rfl (fun ls hl => ?_)
  refine lp_i (r := r) (fun z : Int32 × Int32 => ∀ (ls : Array Slot), lv_has ls 6 [(0, .ref o), (1, .int a1), (2, .int a2), (3, .int z.1), (4, .int z.2)] → W p l e R s m args below meth c s.heap [] 0 0 Q (F0 m 5 ls [])) ?_ 64 (0, 0) hyp ls (lv_sub hl [2, 3, 4, 1, 0] rfl)
  intro self_3T ihself_3T z hyp ls hl
  obtain ⟨v3_1, v4_2⟩ := z
  obtain ⟨self_3, eself_3⟩ : ∃ f9 : Int32 → Int32 → Option Int32, f9 = fun v3_1 v4_2 => self_3T (v3_1, v4_2) := ⟨_, rfl⟩
  have ihself_3 := fun (v3_1 : Int32) (v4_2 : Int32) (h9 : self_3 v3_1 v4_2 = some r) => ihself_3T (v3_1, v4_2) (by rw [eself_3] at h9; exact h9)
  replace hyp : fX9_oneMove_L5_B fnow a1 a2 self_3 v3_1 v4_2 = some r := by rw [eself_3]; exact hyp
  have hl : lv_has ls 6 [(0, .ref o), (1, .int a1), (2, .int a2), (3, .int v3_1), (4, .int v4_2)] := hl
  show W p l e R s m args below meth c s.heap [] 0 0 Q (F0 m 5 ls [])
  unfold fX9_oneMove_L5_B at hyp
  refine lv_iload hx hb dX9_oneMove_5 (lv_at hl 4 rfl) ?_
  refine lv_bipush (v := 49) hx hb dX9_oneMove_7 (by decide) ?_
  refine lv_icmp_ge (tgt := 79) hx hb dX9_oneMove_9 (by decide) (fun h_4 => ?_) (fun h_4 => ?_)
  · replace hyp := ite_t h_4 hyp
    refine lv_iconst (v := (-1)) hx hb dX9_oneMove_79 (by decide) ?_
    subst hQ
    exact rI hx hb hr hlocks (some_e hyp) dX9_oneMove_80
  · replace hyp := ite_f h_4 hyp
    refine lv_iconst (v := 0) hx hb dX9_oneMove_12 (by decide) ?_
    refine lv_istore (lv' := [(5, .int 0), (0, .ref o), (1, .int a1), (2, .int a2), (3, .int v3_1), (4, .int v4_2)]) hx hb dX9_oneMove_13 hl (by decide) rfl (fun ls hl => ?_)
    refine lp_i (r := r) (fun z : Int32 × Int32 => ∀ (ls : Array Slot), lv_has ls 6 [(0, .ref o), (1, .int a1), (2, .int a2), (3, .int z.1), (4, .int v4_2), (5, .int z.2)] → W p l e R s m args below meth c s.heap [] 0 0 Q (F0 m 15 ls [])) ?_ 64 (v3_1, 0) hyp ls (lv_sub hl [1, 2, 3, 4, 5, 0] rfl)
    intro self_7T ihself_7T z hyp ls hl
    obtain ⟨v3_5, v5_6⟩ := z
    obtain ⟨self_7, eself_7⟩ : ∃ f9 : Int32 → Int32 → Option Int32, f9 = fun v3_5 v5_6 => self_7T (v3_5, v5_6) := ⟨_, rfl⟩
    have ihself_7 := fun (v3_5 : Int32) (v5_6 : Int32) (h9 : self_7 v3_5 v5_6 = some r) => ihself_7T (v3_5, v5_6) (by rw [eself_7] at h9; exact h9)
    replace hyp : fX9_oneMove_L15_B fnow a1 a2 self_3 v4_2 self_7 v3_5 v5_6 = some r := by rw [eself_7]; exact hyp
    have hl : lv_has ls 6 [(0, .ref o), (1, .int a1), (2, .int a2), (3, .int v3_5), (4, .int v4_2), (5, .int v5_6)] := hl
    show W p l e R s m args below meth c s.heap [] 0 0 Q (F0 m 15 ls [])
    unfold fX9_oneMove_L15_B at hyp
    refine lv_iload hx hb dX9_oneMove_15 (lv_at hl 5 rfl) ?_
    refine lv_bipush (v := 49) hx hb dX9_oneMove_17 (by decide) ?_
    refine lv_icmp_ge (tgt := 73) hx hb dX9_oneMove_19 (by decide) (fun h_8 => ?_) (fun h_8 => ?_)
    · replace hyp := ite_t h_8 hyp
      refine lv_iinc (v := v4_2 + 1) (lv' := [(4, .int (v4_2 + 1)), (0, .ref o), (1, .int a1), (2, .int a2), (3, .int v3_5), (5, .int v5_6)]) hx hb dX9_oneMove_73 hl (k := 4) rfl rfl (by decide) rfl (fun ls hl => ?_)
      refine lv_goto (tgt := 5) hx hb dX9_oneMove_76 (by decide) ?_
      exact ihself_3 v3_5 (v4_2 + 1) hyp ls (lv_sub hl [1, 2, 3, 4, 0] rfl)
    · replace hyp := ite_f h_8 hyp
      refine lv_aload_n hx hb dX9_oneMove_22 rfl (lv_at hl 0 rfl) ?_
      refine gf_X9_7 hx hb hts hown hE hP 0 rfl rfl dX9_oneMove_23 ?_
      refine lv_iload hx hb dX9_oneMove_26 (lv_at hl 4 rfl) ?_
      obtain ⟨hi, hyp⟩ := grd_e hyp
      refine va_iald hx hb hE.1 hP 1 0 rfl rfl (inB_vp hi) dX9_oneMove_28 ?_
      obtain ⟨r_9, hr_9, hyp⟩ := opt_e hyp
      refine pS (As := [.int (fnow v4_2.toNatClampNeg)]) (rest := []) ⟨hx, hb, hml, hown, hts⟩ hE (mX9_side l g (fnow v4_2.toNatClampNeg) r_9 hr_9) cf_X9_side st_X9_side ml_X9_72 ⟨Nat.le_trans (Nat.le_of_ble_eq_true rfl) hRf, Nat.le_trans (Nat.le_of_ble_eq_true rfl) hRl⟩ (va_P_nil) rfl hl.1 rfl (Nat.le_of_ble_eq_true rfl) dX9_oneMove_29 ⟨Nat.zero_le _, Nat.zero_le _⟩ ?_
      refine lv_iload_n hx hb dX9_oneMove_32 rfl (lv_at hl 1 rfl) ?_
      refine lv_icmp_ne (tgt := 73) hx hb dX9_oneMove_33 (by decide) (fun h_10 => ?_) (fun h_10 => ?_)
      · replace hyp := ite_f h_10 hyp
        refine lv_iinc (v := v4_2 + 1) (lv' := [(4, .int (v4_2 + 1)), (0, .ref o), (1, .int a1), (2, .int a2), (3, .int v3_5), (5, .int v5_6)]) hx hb dX9_oneMove_73 hl (k := 4) rfl rfl (by decide) rfl (fun ls hl => ?_)
        refine lv_goto (tgt := 5) hx hb dX9_oneMove_76 (by decide) ?_
        exact ihself_3 v3_5 (v4_2 + 1) hyp ls (lv_sub hl [1, 2, 3, 4, 0] rfl)
      · replace hyp := ite_t h_10 hyp
        refine lv_aload_n hx hb dX9_oneMove_36 rfl (lv_at hl 0 rfl) ?_
        refine gf_X9_7 hx hb hts hown hE hP 0 rfl rfl dX9_oneMove_37 ?_
        refine lv_iload hx hb dX9_oneMove_40 (lv_at hl 4 rfl) ?_
        refine lv_iload hx hb dX9_oneMove_42 (lv_at hl 5 rfl) ?_
        obtain ⟨r_11, hr_11, hyp⟩ := opt_e hyp
        refine pS (As := [.ref pn, .int v4_2, .int v5_6]) (rest := []) ⟨hx, hb, hml, hown, hts⟩ hE (mX9_against l g pn fnow v4_2 v5_6 r_11 hr_11) cf_X9_against st_X9_against ml_X9_132 ⟨Nat.le_trans (Nat.le_of_ble_eq_true rfl) hRf, Nat.le_trans (Nat.le_of_ble_eq_true rfl) hRl⟩ (hP.sub (ws' := [(pn, .inl (g.2.1, 61, .inl fnow))]) [1] rfl) rfl hl.1 rfl (Nat.le_of_ble_eq_true rfl) dX9_oneMove_44 ⟨Nat.zero_le _, Nat.zero_le _⟩ ?_
        refine lv_if_ne (tgt := 67) hx hb dX9_oneMove_47 (by decide) (fun h_12 => ?_) (fun h_12 => ?_)
        · replace hyp := ite_f h_12 hyp
          refine lv_iinc (v := v5_6 + 1) (lv' := [(5, .int (v5_6 + 1)), (0, .ref o), (1, .int a1), (2, .int a2), (3, .int v3_5), (4, .int v4_2)]) hx hb dX9_oneMove_67 hl (k := 5) rfl rfl (by decide) rfl (fun ls hl => ?_)
          refine lv_goto (tgt := 15) hx hb dX9_oneMove_70 (by decide) ?_
          exact ihself_7 v3_5 (v5_6 + 1) hyp ls (lv_sub hl [1, 2, 3, 4, 5, 0] rfl)
        · replace hyp := ite_t h_12 hyp
          refine lv_iload_n hx hb dX9_oneMove_50 rfl (lv_at hl 3 rfl) ?_
          refine lv_iload_n hx hb dX9_oneMove_51 rfl (lv_at hl 2 rfl) ?_
          refine lv_icmp_ne (tgt := 64) hx hb dX9_oneMove_52 (by decide) (fun h_13 => ?_) (fun h_13 => ?_)
          · replace hyp := ite_f h_13 hyp
            refine lv_iinc (v := v3_5 + 1) (lv' := [(3, .int (v3_5 + 1)), (0, .ref o), (1, .int a1), (2, .int a2), (4, .int v4_2), (5, .int v5_6)]) hx hb dX9_oneMove_64 hl (k := 3) rfl rfl (by decide) rfl (fun ls hl => ?_)
            refine lv_iinc (v := v5_6 + 1) (lv' := [(5, .int (v5_6 + 1)), (3, .int (v3_5 + 1)), (0, .ref o), (1, .int a1), (2, .int a2), (4, .int v4_2)]) hx hb dX9_oneMove_67 hl (k := 5) rfl rfl (by decide) rfl (fun ls hl => ?_)
            refine lv_goto (tgt := 15) hx hb dX9_oneMove_70 (by decide) ?_
            exact ihself_7 (v3_5 + 1) (v5_6 + 1) hyp ls (lv_sub hl [2, 3, 4, 1, 5, 0] rfl)
          · replace hyp := ite_t h_13 hyp
            refine lv_bipush (v := 49) hx hb dX9_oneMove_55 (by decide) ?_
            refine lv_iload hx hb dX9_oneMove_57 (lv_at hl 4 rfl) ?_
            refine lv_imul hx hb dX9_oneMove_59 ?_
            refine lv_iload hx hb dX9_oneMove_60 (lv_at hl 5 rfl) ?_
            refine lv_iadd hx hb dX9_oneMove_62 ?_
            subst hQ
            exact rI hx hb hr hlocks (some_e hyp) dX9_oneMove_63

def fX9_moveAt (fnow : Nat → Int32) (a1 : Int32) (a2 : Int32) : Option (Int32 × Int32) :=
  (fX9_isSide a1).bind (fun (r_1 : Int32) => jn (fun (t_2 : Int32) => jn (fun (t_4 : Int32) => (fX9_refused t_4).bind (fun (r_6 : Int32 × Int32) => if r_6.1 = 0 then ((fX9_oneMove fnow a1 a2).bind (fun (r_8 : Int32) => some (r_8, r_6.2))) else (some (0, r_6.2)))) (fun J_5 => if t_2 = 0 then (J_5 1) else (J_5 0))) (fun J_3 => jn (J_3 0) (fun J_10 => if r_1 = 0 then (J_10) else ((fX9_moveCount fnow a1).bind (fun (r_12 : Int32) => (fX9_in a2.toInt64 0 ((r_12 - 1).toInt64)).bind (fun (r_13 : Int32) => if r_13 = 0 then (J_10) else (J_3 1)))))))
set_option maxRecDepth 100000 in
set_option maxHeartbeats 4000000 in
theorem mX9_moveAt (l : Launch) (g : GE) (o pn pt pr pw pb pk pi pf pl pe pm px : Nat) (refu : Int32) (nst : Int32) (nn : Int32) (len : Int32) (pos : Int32) (gd : Int32) (ps : Int32) (sm : Int32) (fnow : Nat → Int32) (a1 : Int32) (a2 : Int32) (r : Int32 × Int32) (hyp : fX9_moveAt fnow a1 a2 = some r) : WM l yX9_moveAt cX9_moveAt 4 (some .int) 5 119 g [(o, .inr (9, [.int refu, .ref pn, .ref pt, .ref pr, .ref pw, .ref pb, .int nst, .ref pk, .ref pi, .ref pf, .ref pl, .ref pe, .ref pm, .int nn, .ref px, .int len, .int pos, .int gd, .int ps, .int sm])), (pn, .inl (g.2.1, 61, .inl fnow))] [.ref o, .int a1, .int a2] (some (.int r.1)) [(o, .inr (9, [.int r.2, .ref pn, .ref pt, .ref pr, .ref pw, .ref pb, .int nst, .ref pk, .ref pi, .ref pf, .ref pl, .ref pe, .ref pm, .int nn, .ref px, .int len, .int pos, .int gd, .int ps, .int sm])), (pn, .inl (g.2.1, 61, .inl fnow))] := by
  refine metW_intro (by decide) rfl ?_
  intro p e R s m args below meth c Q A hRf hRl hQ hx hb hml hr hlocks hown hts hin hE hA H locs hP hD hS ls hl
  have hown : s.vm.findClass "HallGuardsModel" = some m.cls := hown
  have hl : lv_has ls 4 [(0, .ref o), (1, .int a1), (2, .int a2)] := hl
  unfold fX9_moveAt at hyp
  refine lv_iload_n hx hb dX9_moveAt_0 rfl (lv_at hl 1 rfl) ?_
  obtain ⟨r_1, hr_1, hyp⟩ := opt_e hyp
  refine pS (As := [.int a1]) (rest := []) ⟨hx, hb, hml, hown, hts⟩ hE (mX9_isSide l g a1 r_1 hr_1) cf_X9_isSide st_X9_isSide ml_X9_156 ⟨Nat.le_trans (Nat.le_of_ble_eq_true rfl) hRf, Nat.le_trans (Nat.le_of_ble_eq_true rfl) hRl⟩ (va_P_nil) rfl hl.1 rfl (Nat.le_of_ble_eq_true rfl) dX9_moveAt_1 ⟨Nat.zero_le _, Nat.zero_le _⟩ ?_
  obtain ⟨J_3, eJ_3, hyp⟩ := jn_e hyp
  have kJ_3 : ∀ (t_2 : Int32) (H : Heap) (locs : List Loc) (ls : Array Slot), J_3 t_2 = some r → lv_has ls 4 [(0, .ref o), (1, .int a1), (2, .int a2)] → va_P g.1 vwCl [(o, .inr (9, [.int refu, .ref pn, .ref pt, .ref pr, .ref pw, .ref pb, .int nst, .ref pk, .ref pi, .ref pf, .ref pl, .ref pe, .ref pm, .int nn, .ref px, .int len, .int pos, .int gd, .int ps, .int sm])), (pn, .inl (g.2.1, 61, .inl fnow))] H → va_D A [(o, .inr (9, [.int refu, .ref pn, .ref pt, .ref pr, .ref pw, .ref pb, .int nst, .ref pk, .ref pi, .ref pf, .ref pl, .ref pe, .ref pm, .int nn, .ref px, .int len, .int pos, .int gd, .int ps, .int sm])), (pn, .inl (g.2.1, 61, .inl fnow))] → va_S A s.heap H locs → W p l e R s m args below meth c H locs 0 0 Q (F0 m 32 ls [.int t_2]) := by
    intro t_2 H locs  ls hyp hl hP hD hS
    replace hyp := (congrFun (eJ_3) t_2).symm.trans hyp
    refine lv_istore_n (lv' := [(3, .int t_2), (0, .ref o), (1, .int a1), (2, .int a2)]) hx hb dX9_moveAt_32 rfl hl (by decide) rfl (fun ls hl => ?_)
    refine lv_aload_n hx hb dX9_moveAt_33 rfl (lv_at hl 1 rfl) ?_
    refine lv_iload_n hx hb dX9_moveAt_34 rfl (lv_at hl 0 rfl) ?_
    obtain ⟨J_5, eJ_5, hyp⟩ := jn_e hyp
    have kJ_5 : ∀ (t_4 : Int32) (H : Heap) (locs : List Loc) (ls : Array Slot), J_5 t_4 = some r → lv_has ls 4 [(0, .ref o), (1, .int a1), (2, .int a2)] → va_P g.1 vwCl [(o, .inr (9, [.int refu, .ref pn, .ref pt, .ref pr, .ref pw, .ref pb, .int nst, .ref pk, .ref pi, .ref pf, .ref pl, .ref pe, .ref pm, .int nn, .ref px, .int len, .int pos, .int gd, .int ps, .int sm])), (pn, .inl (g.2.1, 61, .inl fnow))] H → va_D A [(o, .inr (9, [.int refu, .ref pn, .ref pt, .ref pr, .ref pw, .ref pb, .int nst, .ref pk, .ref pi, .ref pf, .ref pl, .ref pe, .ref pm, .int nn, .ref px, .int len, .int pos, .int gd, .int ps, .int sm])), (pn, .inl (g.2.1, 61, .inl fnow))] → va_S A s.heap H locs → W p l e R s m args below meth c H locs 0 0 Q (F0 m 43 ls [.int t_4, .ref o]) := by
      intro t_4 H locs  ls hyp hl hP hD hS
      replace hyp := (congrFun (eJ_5) t_4).symm.trans hyp
      obtain ⟨r_6, hr_6, hyp⟩ := opt_e hyp
      refine wV (As := [.int t_4]) (rest := []) ⟨hx, hb, hml, hown, hts⟩ hE (mX9_refused l g o pn pt pr pw pb pk pi pf pl pe pm px refu nst nn len pos gd ps sm t_4 r_6 hr_6) cf_X9_refused im_X9_refused se_X9_refused ml_X9_153 ⟨Nat.le_trans (Nat.le_of_ble_eq_true rfl) hRf, Nat.le_trans (Nat.le_of_ble_eq_true rfl) hRl⟩ hP hD hS hA [0] [1] rfl (wr := [(pn, .inl (g.2.1, 61, .inl fnow))]) rfl ⟨by decide, by decide⟩ (by decide) (ci := 9) (q0 := 0) rfl rfl rfl rfl hl.1 rfl (Nat.le_of_ble_eq_true rfl) dX9_moveAt_43 ⟨Nat.zero_le _, Nat.zero_le _⟩ (fun H locs hP hD hS => ?_)
      have hP : va_P g.1 vwCl [(pn, .inl (g.2.1, 61, .inl fnow)), (o, .inr (9, [.int r_6.2, .ref pn, .ref pt, .ref pr, .ref pw, .ref pb, .int nst, .ref pk, .ref pi, .ref pf, .ref pl, .ref pe, .ref pm, .int nn, .ref px, .int len, .int pos, .int gd, .int ps, .int sm]))] H := hP
      have hD : va_D A [(pn, .inl (g.2.1, 61, .inl fnow)), (o, .inr (9, [.int r_6.2, .ref pn, .ref pt, .ref pr, .ref pw, .ref pb, .int nst, .ref pk, .ref pi, .ref pf, .ref pl, .ref pe, .ref pm, .int nn, .ref px, .int len, .int pos, .int gd, .int ps, .int sm]))] := hD
      refine lv_if_eq (tgt := 53) hx hb dX9_moveAt_46 (by decide) (fun h_7 => ?_) (fun h_7 => ?_)
      · replace hyp := ite_t h_7 hyp
        refine lv_aload_n hx hb dX9_moveAt_53 rfl (lv_at hl 0 rfl) ?_
        refine lv_iload_n hx hb dX9_moveAt_54 rfl (lv_at hl 1 rfl) ?_
        refine lv_iload_n hx hb dX9_moveAt_55 rfl (lv_at hl 2 rfl) ?_
        obtain ⟨r_8, hr_8, hyp⟩ := opt_e hyp
        refine pV (As := [.int a1, .int a2]) (rest := []) ⟨hx, hb, hml, hown, hts⟩ hE (mX9_oneMove l g o pn pt pr pw pb pk pi pf pl pe pm px r_6.2 nst nn len pos gd ps sm fnow a1 a2 r_8 hr_8) cf_X9_oneMove im_X9_oneMove se_X9_oneMove ml_X9_235 ⟨Nat.le_trans (Nat.le_of_ble_eq_true rfl) hRf, Nat.le_trans (Nat.le_of_ble_eq_true rfl) hRl⟩ (hP.sub (ws' := [(o, .inr (9, [.int r_6.2, .ref pn, .ref pt, .ref pr, .ref pw, .ref pb, .int nst, .ref pk, .ref pi, .ref pf, .ref pl, .ref pe, .ref pm, .int nn, .ref px, .int len, .int pos, .int gd, .int ps, .int sm])), (pn, .inl (g.2.1, 61, .inl fnow))]) [1, 0] rfl) (ci := 9) (q0 := 0) rfl rfl rfl rfl hl.1 rfl (Nat.le_of_ble_eq_true rfl) dX9_moveAt_56 ⟨Nat.zero_le _, Nat.zero_le _⟩ ?_
        have hP : va_P g.1 vwCl [(o, .inr (9, [.int r_6.2, .ref pn, .ref pt, .ref pr, .ref pw, .ref pb, .int nst, .ref pk, .ref pi, .ref pf, .ref pl, .ref pe, .ref pm, .int nn, .ref px, .int len, .int pos, .int gd, .int ps, .int sm])), (pn, .inl (g.2.1, 61, .inl fnow))] H := hP.sub [1, 0] rfl
        have hD : va_D A [(o, .inr (9, [.int r_6.2, .ref pn, .ref pt, .ref pr, .ref pw, .ref pb, .int nst, .ref pk, .ref pi, .ref pf, .ref pl, .ref pe, .ref pm, .int nn, .ref px, .int len, .int pos, .int gd, .int ps, .int sm])), (pn, .inl (g.2.1, 61, .inl fnow))] := hD.sub [1, 0] (by decide) rfl
        have hyp := some_e hyp
        subst hyp
        subst hQ
        exact rwI hx hb hr hlocks  hP hD hS dX9_moveAt_59
      · replace hyp := ite_f h_7 hyp
        refine lv_iconst (v := 0) hx hb dX9_moveAt_49 (by decide) ?_
        refine lv_goto (tgt := 59) hx hb dX9_moveAt_50 (by decide) ?_
        have hP : va_P g.1 vwCl [(o, .inr (9, [.int r_6.2, .ref pn, .ref pt, .ref pr, .ref pw, .ref pb, .int nst, .ref pk, .ref pi, .ref pf, .ref pl, .ref pe, .ref pm, .int nn, .ref px, .int len, .int pos, .int gd, .int ps, .int sm])), (pn, .inl (g.2.1, 61, .inl fnow))] H := hP.sub [1, 0] rfl
        have hD : va_D A [(o, .inr (9, [.int r_6.2, .ref pn, .ref pt, .ref pr, .ref pw, .ref pb, .int nst, .ref pk, .ref pi, .ref pf, .ref pl, .ref pe, .ref pm, .int nn, .ref px, .int len, .int pos, .int gd, .int ps, .int sm])), (pn, .inl (g.2.1, 61, .inl fnow))] := hD.sub [1, 0] (by decide) rfl
        have hyp := some_e hyp
        subst hyp
        subst hQ
        exact rwI hx hb hr hlocks  hP hD hS dX9_moveAt_59
    refine lv_if_eq (tgt := 42) hx hb dX9_moveAt_35 (by decide) (fun h_9 => ?_) (fun h_9 => ?_)
    · replace hyp := ite_t h_9 hyp
      refine lv_iconst (v := 1) hx hb dX9_moveAt_42 (by decide) ?_
      exact kJ_5 1 H locs ls hyp (lv_sub hl [1, 2, 3] rfl) hP hD hS
    · replace hyp := ite_f h_9 hyp
      refine lv_iconst (v := 0) hx hb dX9_moveAt_38 (by decide) ?_
      refine lv_goto (tgt := 43) hx hb dX9_moveAt_39 (by decide) ?_
      exact kJ_5 0 H locs ls hyp (lv_sub hl [1, 2, 3] rfl) hP hD hS
  obtain ⟨J_10, eJ_10, hyp⟩ := jn_e hyp
  have kJ_10 : ∀ (H : Heap) (locs : List Loc) (ls : Array Slot), J_10 = some r → lv_has ls 4 [(0, .ref o), (1, .int a1), (2, .int a2)] → va_P g.1 vwCl [(o, .inr (9, [.int refu, .ref pn, .ref pt, .ref pr, .ref pw, .ref pb, .int nst, .ref pk, .ref pi, .ref pf, .ref pl, .ref pe, .ref pm, .int nn, .ref px, .int len, .int pos, .int gd, .int ps, .int sm])), (pn, .inl (g.2.1, 61, .inl fnow))] H → va_D A [(o, .inr (9, [.int refu, .ref pn, .ref pt, .ref pr, .ref pw, .ref pb, .int nst, .ref pk, .ref pi, .ref pf, .ref pl, .ref pe, .ref pm, .int nn, .ref px, .int len, .int pos, .int gd, .int ps, .int sm])), (pn, .inl (g.2.1, 61, .inl fnow))] → va_S A s.heap H locs → W p l e R s m args below meth c H locs 0 0 Q (F0 m 31 ls []) := by
    intro H locs  ls hyp hl hP hD hS
    replace hyp := (eJ_10).symm.trans hyp
    refine lv_iconst (v := 0) hx hb dX9_moveAt_31 (by decide) ?_
    exact kJ_3 0 H locs ls hyp hl hP hD hS
  refine lv_if_eq (tgt := 31) hx hb dX9_moveAt_4 (by decide) (fun h_11 => ?_) (fun h_11 => ?_)
  · replace hyp := ite_t h_11 hyp
    exact kJ_10 H locs ls hyp hl hP hD hS
  · replace hyp := ite_f h_11 hyp
    refine lv_iload_n hx hb dX9_moveAt_7 rfl (lv_at hl 2 rfl) ?_
    refine lv_i2l hx hb dX9_moveAt_8 rfl ?_
    refine lv_lconst (v := 0) hx hb dX9_moveAt_9 (by decide) ?_
    refine lv_aload_n hx hb dX9_moveAt_10 rfl (lv_at hl 0 rfl) ?_
    refine gf_X9_7 hx hb hts hown hE hP 0 rfl rfl dX9_moveAt_11 ?_
    refine lv_iload_n hx hb dX9_moveAt_14 rfl (lv_at hl 1 rfl) ?_
    obtain ⟨r_12, hr_12, hyp⟩ := opt_e hyp
    refine pS (As := [.ref pn, .int a1]) (rest := [.long 0, .long a2.toInt64]) ⟨hx, hb, hml, hown, hts⟩ hE (mX9_moveCount l g pn fnow a1 r_12 hr_12) cf_X9_moveCount st_X9_moveCount ml_X9_101 ⟨Nat.le_trans (Nat.le_of_ble_eq_true rfl) hRf, Nat.le_trans (Nat.le_of_ble_eq_true rfl) hRl⟩ (hP.sub (ws' := [(pn, .inl (g.2.1, 61, .inl fnow))]) [1] rfl) rfl hl.1 rfl (Nat.le_of_ble_eq_true rfl) dX9_moveAt_15 ⟨Nat.zero_le _, Nat.zero_le _⟩ ?_
    refine lv_iconst (v := 1) hx hb dX9_moveAt_18 (by decide) ?_
    refine lv_isub hx hb dX9_moveAt_19 ?_
    refine lv_i2l hx hb dX9_moveAt_20 rfl ?_
    obtain ⟨r_13, hr_13, hyp⟩ := opt_e hyp
    refine pS (As := [.long a2.toInt64, .long 0, .long ((r_12 - 1).toInt64)]) (rest := []) ⟨hx, hb, hml, hown, hts⟩ hE (mX9_in l g a2.toInt64 0 ((r_12 - 1).toInt64) r_13 hr_13) cf_X9_in st_X9_in ml_X9_58 ⟨Nat.le_trans (Nat.le_of_ble_eq_true rfl) hRf, Nat.le_trans (Nat.le_of_ble_eq_true rfl) hRl⟩ (va_P_nil) rfl hl.1 rfl (Nat.le_of_ble_eq_true rfl) dX9_moveAt_21 ⟨Nat.zero_le _, Nat.zero_le _⟩ ?_
    refine lv_if_eq (tgt := 31) hx hb dX9_moveAt_24 (by decide) (fun h_14 => ?_) (fun h_14 => ?_)
    · replace hyp := ite_t h_14 hyp
      exact kJ_10 H locs ls hyp hl hP hD hS
    · replace hyp := ite_f h_14 hyp
      refine lv_iconst (v := 1) hx hb dX9_moveAt_27 (by decide) ?_
      refine lv_goto (tgt := 32) hx hb dX9_moveAt_28 (by decide) ?_
      exact kJ_3 1 H locs ls hyp hl hP hD hS

def fX9_measure_L81_B (fnow : Nat → Int32) (r_1 : Int32) (v2_6 : Int32) (self_16 : Int32 → (Nat → Int32) → Option ((Nat → Int32))) (v4_14 : Int32) (self_22 : Int32 → (Nat → Int32) → Option ((Nat → Int32))) (v5_20 : Int32) (wfway_21 : Nat → Int32) : Option ((Nat → Int32)) :=
  if v5_20 = (-1) then (self_16 (v4_14 + 1) wfway_21) else (grd (inB v5_20 61) (jn (grd (inB v5_20 49) (jn (fun (t_25 : Int32) => grd (inB v5_20 49) ((fX9_next v5_20 v4_14).bind (fun (r_27 : Int32) => self_22 r_27 (upd wfway_21 v5_20.toNatClampNeg t_25)))) (fun J_26 => if (wfway_21 v5_20.toNatClampNeg) = (-1) then (J_26 (v2_6 + 1)) else (grd (inB v5_20 49) (J_26 (wfway_21 v5_20.toNatClampNeg)))))) (fun J_24 => if (fnow v5_20.toNatClampNeg) = 0 then (J_24) else (if v5_20 = r_1 then (J_24) else (self_16 (v4_14 + 1) wfway_21)))))
def fX9_measure_L81 (fnow : Nat → Int32) (r_1 : Int32) (v2_6 : Int32) (self_16 : Int32 → (Nat → Int32) → Option ((Nat → Int32))) (v4_14 : Int32) (n : Nat) (v5_20 : Int32) (wfway_21 : Nat → Int32) : Option ((Nat → Int32)) := lp (fun zf z => fX9_measure_L81_B fnow r_1 v2_6 self_16 v4_14 (fun v5_20 wfway_21 => zf (v5_20, wfway_21)) z.1 z.2) n (v5_20, wfway_21)
def fX9_measure_L57_B (fnow : Nat → Int32) (r_1 : Int32) (v2_6 : Int32) (self_12 : Int32 → (Nat → Int32) → Option ((Nat → Int32))) (v3_10 : Int32) (self_16 : Int32 → (Nat → Int32) → Option ((Nat → Int32))) (v4_14 : Int32) (wfway_15 : Nat → Int32) : Option ((Nat → Int32)) :=
  if 4 ≤ v4_14 then (self_12 (v3_10 + 1) wfway_15) else (grd (inB v3_10 49) (if (wfway_15 v3_10.toNatClampNeg) = v2_6 then ((fX9_next v3_10 v4_14).bind (fun (r_19 : Int32) => fX9_measure_L81 fnow r_1 v2_6 self_16 v4_14 64 r_19 wfway_15)) else (self_12 (v3_10 + 1) wfway_15)))
def fX9_measure_L57 (fnow : Nat → Int32) (r_1 : Int32) (v2_6 : Int32) (self_12 : Int32 → (Nat → Int32) → Option ((Nat → Int32))) (v3_10 : Int32) (n : Nat) (v4_14 : Int32) (wfway_15 : Nat → Int32) : Option ((Nat → Int32)) := lp (fun zf z => fX9_measure_L57_B fnow r_1 v2_6 self_12 v3_10 (fun v4_14 wfway_15 => zf (v4_14, wfway_15)) z.1 z.2) n (v4_14, wfway_15)
def fX9_measure_L48_B (fnow : Nat → Int32) (r_1 : Int32) (self_8 : Int32 → (Nat → Int32) → Option ((Nat → Int32))) (v2_6 : Int32) (self_12 : Int32 → (Nat → Int32) → Option ((Nat → Int32))) (v3_10 : Int32) (wfway_11 : Nat → Int32) : Option ((Nat → Int32)) :=
  if 49 ≤ v3_10 then (self_8 (v2_6 + 1) wfway_11) else (fX9_measure_L57 fnow r_1 v2_6 self_12 v3_10 64 0 wfway_11)
def fX9_measure_L48 (fnow : Nat → Int32) (r_1 : Int32) (self_8 : Int32 → (Nat → Int32) → Option ((Nat → Int32))) (v2_6 : Int32) (n : Nat) (v3_10 : Int32) (wfway_11 : Nat → Int32) : Option ((Nat → Int32)) := lp (fun zf z => fX9_measure_L48_B fnow r_1 self_8 v2_6 (fun v3_10 wfway_11 => zf (v3_10, wfway_11)) z.1 z.2) n (v3_10, wfway_11)
def fX9_measure_L40_B (fnow : Nat → Int32) (r_1 : Int32) (self_8 : Int32 → (Nat → Int32) → Option ((Nat → Int32))) (v2_6 : Int32) (wfway_7 : Nat → Int32) : Option ((Nat → Int32)) :=
  if 49 ≤ v2_6 then (some (wfway_7)) else (fX9_measure_L48 fnow r_1 self_8 v2_6 64 0 wfway_7)
def fX9_measure_L40 (fnow : Nat → Int32) (r_1 : Int32) (n : Nat) (v2_6 : Int32) (wfway_7 : Nat → Int32) : Option ((Nat → Int32)) := lp (fun zf z => fX9_measure_L40_B fnow r_1 (fun v2_6 wfway_7 => zf (v2_6, wfway_7)) z.1 z.2) n (v2_6, wfway_7)
def fX9_measure_L10_B (fnow : Nat → Int32) (r_1 : Int32) (self_4 : Int32 → (Nat → Int32) → Option ((Nat → Int32))) (v2_2 : Int32) (wfway_3 : Nat → Int32) : Option ((Nat → Int32)) :=
  if 49 ≤ v2_2 then (fX9_measure_L40 fnow r_1 64 0 wfway_3) else (jn (fun (t_31 : Int32) => grd (inB v2_2 49) (self_4 (v2_2 + 1) (upd wfway_3 v2_2.toNatClampNeg t_31))) (fun J_32 => if v2_2 = r_1 then (J_32 0) else (J_32 (-1))))
def fX9_measure_L10 (fnow : Nat → Int32) (r_1 : Int32) (n : Nat) (v2_2 : Int32) (wfway_3 : Nat → Int32) : Option ((Nat → Int32)) := lp (fun zf z => fX9_measure_L10_B fnow r_1 (fun v2_2 wfway_3 => zf (v2_2, wfway_3)) z.1 z.2) n (v2_2, wfway_3)
def fX9_measure (fnow : Nat → Int32) (fway : Nat → Int32) : Option ((Nat → Int32)) :=
  (fX9_king fnow).bind (fun (r_1 : Int32) => fX9_measure_L10 fnow r_1 64 0 fway)
set_option maxRecDepth 100000 in
set_option maxHeartbeats 4000000 in
theorem mX9_measure (l : Launch) (g : GE) (o pn pw pt pr pb pk pi pf pl pe pm px : Nat) (refu : Int32) (nst : Int32) (nn : Int32) (len : Int32) (pos : Int32) (gd : Int32) (ps : Int32) (sm : Int32) (fnow : Nat → Int32) (fway : Nat → Int32) (r : (Nat → Int32)) (hyp : fX9_measure fnow fway = some r) : WM l yX9_measure cX9_measure 6 none 3 69 g [(o, .inr (9, [.int refu, .ref pn, .ref pt, .ref pr, .ref pw, .ref pb, .int nst, .ref pk, .ref pi, .ref pf, .ref pl, .ref pe, .ref pm, .int nn, .ref px, .int len, .int pos, .int gd, .int ps, .int sm])), (pn, .inl (g.2.1, 61, .inl fnow)), (pw, .inl (g.2.1, 49, .inl fway))] [.ref o] none [(o, .inr (9, [.int refu, .ref pn, .ref pt, .ref pr, .ref pw, .ref pb, .int nst, .ref pk, .ref pi, .ref pf, .ref pl, .ref pe, .ref pm, .int nn, .ref px, .int len, .int pos, .int gd, .int ps, .int sm])), (pn, .inl (g.2.1, 61, .inl fnow)), (pw, .inl (g.2.1, 49, .inl r))] := by
  refine metW_intro (by decide) rfl ?_
  intro p e R s m args below meth c Q A hRf hRl hQ hx hb hml hr hlocks hown hts hin hE hA H locs hP hD hS ls hl
  have hown : s.vm.findClass "HallGuardsModel" = some m.cls := hown
  have hl : lv_has ls 6 [(0, .ref o)] := hl
  unfold fX9_measure at hyp
  refine lv_aload_n hx hb dX9_measure_0 rfl (lv_at hl 0 rfl) ?_
  refine gf_X9_7 hx hb hts hown hE hP 0 rfl rfl dX9_measure_1 ?_
  obtain ⟨r_1, hr_1, hyp⟩ := opt_e hyp
  refine pS (As := [.ref pn]) (rest := []) ⟨hx, hb, hml, hown, hts⟩ hE (mX9_king l g pn fnow r_1 hr_1) cf_X9_king st_X9_king ml_X9_98 ⟨Nat.le_trans (Nat.le_of_ble_eq_true rfl) hRf, Nat.le_trans (Nat.le_of_ble_eq_true rfl) hRl⟩ (hP.sub (ws' := [(pn, .inl (g.2.1, 61, .inl fnow))]) [1] rfl) rfl hl.1 rfl (Nat.le_of_ble_eq_true rfl) dX9_measure_4 ⟨Nat.zero_le _, Nat.zero_le _⟩ ?_
  refine lv_istore_n (lv' := [(1, .int r_1), (0, .ref o)]) hx hb dX9_measure_7 rfl hl (by decide) rfl (fun ls hl => ?_)
  refine lv_iconst (v := 0) hx hb dX9_measure_8 (by decide) ?_
  refine lv_istore_n (lv' := [(2, .int 0), (1, .int r_1), (0, .ref o)]) hx hb dX9_measure_9 rfl hl (by decide) rfl (fun ls hl => ?_)
  refine lp_i (r := r) (fun z : Int32 × (Nat → Int32) => ∀ (H : Heap) (locs : List Loc) (ls : Array Slot), lv_has ls 6 [(0, .ref o), (1, .int r_1), (2, .int z.1)] → va_P g.1 vwCl [(o, .inr (9, [.int refu, .ref pn, .ref pt, .ref pr, .ref pw, .ref pb, .int nst, .ref pk, .ref pi, .ref pf, .ref pl, .ref pe, .ref pm, .int nn, .ref px, .int len, .int pos, .int gd, .int ps, .int sm])), (pn, .inl (g.2.1, 61, .inl fnow)), (pw, .inl (g.2.1, 49, .inl z.2))] H → va_D A [(o, .inr (9, [.int refu, .ref pn, .ref pt, .ref pr, .ref pw, .ref pb, .int nst, .ref pk, .ref pi, .ref pf, .ref pl, .ref pe, .ref pm, .int nn, .ref px, .int len, .int pos, .int gd, .int ps, .int sm])), (pn, .inl (g.2.1, 61, .inl fnow)), (pw, .inl (g.2.1, 49, .inl z.2))] → va_S A s.heap H locs → W p l e R s m args below meth c H locs 0 0 Q (F0 m 10 ls [])) ?_ 64 (0, fway) hyp _ _ ls (lv_sub hl [2, 1, 0] rfl) hP hD hS
  intro self_4T ihself_4T z hyp H locs ls hl hP hD hS
  obtain ⟨v2_2, wfway_3⟩ := z
  obtain ⟨self_4, eself_4⟩ : ∃ f9 : Int32 → (Nat → Int32) → Option ((Nat → Int32)), f9 = fun v2_2 wfway_3 => self_4T (v2_2, wfway_3) := ⟨_, rfl⟩
  have ihself_4 := fun (v2_2 : Int32) (wfway_3 : Nat → Int32) (h9 : self_4 v2_2 wfway_3 = some r) => ihself_4T (v2_2, wfway_3) (by rw [eself_4] at h9; exact h9)
  replace hyp : fX9_measure_L10_B fnow r_1 self_4 v2_2 wfway_3 = some r := by rw [eself_4]; exact hyp
  have hl : lv_has ls 6 [(0, .ref o), (1, .int r_1), (2, .int v2_2)] := hl
  have hP : va_P g.1 vwCl [(o, .inr (9, [.int refu, .ref pn, .ref pt, .ref pr, .ref pw, .ref pb, .int nst, .ref pk, .ref pi, .ref pf, .ref pl, .ref pe, .ref pm, .int nn, .ref px, .int len, .int pos, .int gd, .int ps, .int sm])), (pn, .inl (g.2.1, 61, .inl fnow)), (pw, .inl (g.2.1, 49, .inl wfway_3))] H := hP
  have hD : va_D A [(o, .inr (9, [.int refu, .ref pn, .ref pt, .ref pr, .ref pw, .ref pb, .int nst, .ref pk, .ref pi, .ref pf, .ref pl, .ref pe, .ref pm, .int nn, .ref px, .int len, .int pos, .int gd, .int ps, .int sm])), (pn, .inl (g.2.1, 61, .inl fnow)), (pw, .inl (g.2.1, 49, .inl wfway_3))] := hD
  show W p l e R s m args below meth c H locs 0 0 Q (F0 m 10 ls [])
  unfold fX9_measure_L10_B at hyp
  refine lv_iload_n hx hb dX9_measure_10 rfl (lv_at hl 2 rfl) ?_
  refine lv_bipush (v := 49) hx hb dX9_measure_11 (by decide) ?_
  refine lv_icmp_ge (tgt := 38) hx hb dX9_measure_13 (by decide) (fun h_5 => ?_) (fun h_5 => ?_)
  · replace hyp := ite_t h_5 hyp
    refine lv_iconst (v := 0) hx hb dX9_measure_38 (by decide) ?_
    refine lv_istore_n (lv' := [(2, .int 0), (0, .ref o), (1, .int r_1)]) hx hb dX9_measure_39 rfl hl (by decide) rfl (fun ls hl => ?_)
    refine lp_i (r := r) (fun z : Int32 × (Nat → Int32) => ∀ (H : Heap) (locs : List Loc) (ls : Array Slot), lv_has ls 6 [(0, .ref o), (1, .int r_1), (2, .int z.1)] → va_P g.1 vwCl [(o, .inr (9, [.int refu, .ref pn, .ref pt, .ref pr, .ref pw, .ref pb, .int nst, .ref pk, .ref pi, .ref pf, .ref pl, .ref pe, .ref pm, .int nn, .ref px, .int len, .int pos, .int gd, .int ps, .int sm])), (pn, .inl (g.2.1, 61, .inl fnow)), (pw, .inl (g.2.1, 49, .inl z.2))] H → va_D A [(o, .inr (9, [.int refu, .ref pn, .ref pt, .ref pr, .ref pw, .ref pb, .int nst, .ref pk, .ref pi, .ref pf, .ref pl, .ref pe, .ref pm, .int nn, .ref px, .int len, .int pos, .int gd, .int ps, .int sm])), (pn, .inl (g.2.1, 61, .inl fnow)), (pw, .inl (g.2.1, 49, .inl z.2))] → va_S A s.heap H locs → W p l e R s m args below meth c H locs 0 0 Q (F0 m 40 ls [])) ?_ 64 (0, wfway_3) hyp _ _ ls (lv_sub hl [1, 2, 0] rfl) hP hD hS
    intro self_8T ihself_8T z hyp H locs ls hl hP hD hS
    obtain ⟨v2_6, wfway_7⟩ := z
    obtain ⟨self_8, eself_8⟩ : ∃ f9 : Int32 → (Nat → Int32) → Option ((Nat → Int32)), f9 = fun v2_6 wfway_7 => self_8T (v2_6, wfway_7) := ⟨_, rfl⟩
    have ihself_8 := fun (v2_6 : Int32) (wfway_7 : Nat → Int32) (h9 : self_8 v2_6 wfway_7 = some r) => ihself_8T (v2_6, wfway_7) (by rw [eself_8] at h9; exact h9)
    replace hyp : fX9_measure_L40_B fnow r_1 self_8 v2_6 wfway_7 = some r := by rw [eself_8]; exact hyp
    have hl : lv_has ls 6 [(0, .ref o), (1, .int r_1), (2, .int v2_6)] := hl
    have hP : va_P g.1 vwCl [(o, .inr (9, [.int refu, .ref pn, .ref pt, .ref pr, .ref pw, .ref pb, .int nst, .ref pk, .ref pi, .ref pf, .ref pl, .ref pe, .ref pm, .int nn, .ref px, .int len, .int pos, .int gd, .int ps, .int sm])), (pn, .inl (g.2.1, 61, .inl fnow)), (pw, .inl (g.2.1, 49, .inl wfway_7))] H := hP
    have hD : va_D A [(o, .inr (9, [.int refu, .ref pn, .ref pt, .ref pr, .ref pw, .ref pb, .int nst, .ref pk, .ref pi, .ref pf, .ref pl, .ref pe, .ref pm, .int nn, .ref px, .int len, .int pos, .int gd, .int ps, .int sm])), (pn, .inl (g.2.1, 61, .inl fnow)), (pw, .inl (g.2.1, 49, .inl wfway_7))] := hD
    show W p l e R s m args below meth c H locs 0 0 Q (F0 m 40 ls [])
    unfold fX9_measure_L40_B at hyp
    refine lv_iload_n hx hb dX9_measure_40 rfl (lv_at hl 2 rfl) ?_
    refine lv_bipush (v := 49) hx hb dX9_measure_41 (by decide) ?_
    refine lv_icmp_ge (tgt := 164) hx hb dX9_measure_43 (by decide) (fun h_9 => ?_) (fun h_9 => ?_)
    · replace hyp := ite_t h_9 hyp
      have hyp := some_e hyp
      subst hyp
      subst hQ
      exact rwV hx hb hr hlocks  hP hD hS dX9_measure_164
    · replace hyp := ite_f h_9 hyp
      refine lv_iconst (v := 0) hx hb dX9_measure_46 (by decide) ?_
      refine lv_istore_n (lv' := [(3, .int 0), (0, .ref o), (1, .int r_1), (2, .int v2_6)]) hx hb dX9_measure_47 rfl hl (by decide) rfl (fun ls hl => ?_)
      refine lp_i (r := r) (fun z : Int32 × (Nat → Int32) => ∀ (H : Heap) (locs : List Loc) (ls : Array Slot), lv_has ls 6 [(0, .ref o), (1, .int r_1), (2, .int v2_6), (3, .int z.1)] → va_P g.1 vwCl [(o, .inr (9, [.int refu, .ref pn, .ref pt, .ref pr, .ref pw, .ref pb, .int nst, .ref pk, .ref pi, .ref pf, .ref pl, .ref pe, .ref pm, .int nn, .ref px, .int len, .int pos, .int gd, .int ps, .int sm])), (pn, .inl (g.2.1, 61, .inl fnow)), (pw, .inl (g.2.1, 49, .inl z.2))] H → va_D A [(o, .inr (9, [.int refu, .ref pn, .ref pt, .ref pr, .ref pw, .ref pb, .int nst, .ref pk, .ref pi, .ref pf, .ref pl, .ref pe, .ref pm, .int nn, .ref px, .int len, .int pos, .int gd, .int ps, .int sm])), (pn, .inl (g.2.1, 61, .inl fnow)), (pw, .inl (g.2.1, 49, .inl z.2))] → va_S A s.heap H locs → W p l e R s m args below meth c H locs 0 0 Q (F0 m 48 ls [])) ?_ 64 (0, wfway_7) hyp _ _ ls (lv_sub hl [1, 2, 3, 0] rfl) hP hD hS
      intro self_12T ihself_12T z hyp H locs ls hl hP hD hS
      obtain ⟨v3_10, wfway_11⟩ := z
      obtain ⟨self_12, eself_12⟩ : ∃ f9 : Int32 → (Nat → Int32) → Option ((Nat → Int32)), f9 = fun v3_10 wfway_11 => self_12T (v3_10, wfway_11) := ⟨_, rfl⟩
      have ihself_12 := fun (v3_10 : Int32) (wfway_11 : Nat → Int32) (h9 : self_12 v3_10 wfway_11 = some r) => ihself_12T (v3_10, wfway_11) (by rw [eself_12] at h9; exact h9)
      replace hyp : fX9_measure_L48_B fnow r_1 self_8 v2_6 self_12 v3_10 wfway_11 = some r := by rw [eself_12]; exact hyp
      have hl : lv_has ls 6 [(0, .ref o), (1, .int r_1), (2, .int v2_6), (3, .int v3_10)] := hl
      have hP : va_P g.1 vwCl [(o, .inr (9, [.int refu, .ref pn, .ref pt, .ref pr, .ref pw, .ref pb, .int nst, .ref pk, .ref pi, .ref pf, .ref pl, .ref pe, .ref pm, .int nn, .ref px, .int len, .int pos, .int gd, .int ps, .int sm])), (pn, .inl (g.2.1, 61, .inl fnow)), (pw, .inl (g.2.1, 49, .inl wfway_11))] H := hP
      have hD : va_D A [(o, .inr (9, [.int refu, .ref pn, .ref pt, .ref pr, .ref pw, .ref pb, .int nst, .ref pk, .ref pi, .ref pf, .ref pl, .ref pe, .ref pm, .int nn, .ref px, .int len, .int pos, .int gd, .int ps, .int sm])), (pn, .inl (g.2.1, 61, .inl fnow)), (pw, .inl (g.2.1, 49, .inl wfway_11))] := hD
      show W p l e R s m args below meth c H locs 0 0 Q (F0 m 48 ls [])
      unfold fX9_measure_L48_B at hyp
      refine lv_iload_n hx hb dX9_measure_48 rfl (lv_at hl 3 rfl) ?_
      refine lv_bipush (v := 49) hx hb dX9_measure_49 (by decide) ?_
      refine lv_icmp_ge (tgt := 158) hx hb dX9_measure_51 (by decide) (fun h_13 => ?_) (fun h_13 => ?_)
      · replace hyp := ite_t h_13 hyp
        refine lv_iinc (v := v2_6 + 1) (lv' := [(2, .int (v2_6 + 1)), (0, .ref o), (1, .int r_1), (3, .int v3_10)]) hx hb dX9_measure_158 hl (k := 2) rfl rfl (by decide) rfl (fun ls hl => ?_)
        refine lv_goto (tgt := 40) hx hb dX9_measure_161 (by decide) ?_
        exact ihself_8 (v2_6 + 1) wfway_11 hyp H locs ls (lv_sub hl [1, 2, 0] rfl) hP hD hS
      · replace hyp := ite_f h_13 hyp
        refine lv_iconst (v := 0) hx hb dX9_measure_54 (by decide) ?_
        refine lv_istore (lv' := [(4, .int 0), (0, .ref o), (1, .int r_1), (2, .int v2_6), (3, .int v3_10)]) hx hb dX9_measure_55 hl (by decide) rfl (fun ls hl => ?_)
        refine lp_i (r := r) (fun z : Int32 × (Nat → Int32) => ∀ (H : Heap) (locs : List Loc) (ls : Array Slot), lv_has ls 6 [(0, .ref o), (1, .int r_1), (2, .int v2_6), (3, .int v3_10), (4, .int z.1)] → va_P g.1 vwCl [(o, .inr (9, [.int refu, .ref pn, .ref pt, .ref pr, .ref pw, .ref pb, .int nst, .ref pk, .ref pi, .ref pf, .ref pl, .ref pe, .ref pm, .int nn, .ref px, .int len, .int pos, .int gd, .int ps, .int sm])), (pn, .inl (g.2.1, 61, .inl fnow)), (pw, .inl (g.2.1, 49, .inl z.2))] H → va_D A [(o, .inr (9, [.int refu, .ref pn, .ref pt, .ref pr, .ref pw, .ref pb, .int nst, .ref pk, .ref pi, .ref pf, .ref pl, .ref pe, .ref pm, .int nn, .ref px, .int len, .int pos, .int gd, .int ps, .int sm])), (pn, .inl (g.2.1, 61, .inl fnow)), (pw, .inl (g.2.1, 49, .inl z.2))] → va_S A s.heap H locs → W p l e R s m args below meth c H locs 0 0 Q (F0 m 57 ls [])) ?_ 64 (0, wfway_11) hyp _ _ ls (lv_sub hl [1, 2, 3, 4, 0] rfl) hP hD hS
        intro self_16T ihself_16T z hyp H locs ls hl hP hD hS
        obtain ⟨v4_14, wfway_15⟩ := z
        obtain ⟨self_16, eself_16⟩ : ∃ f9 : Int32 → (Nat → Int32) → Option ((Nat → Int32)), f9 = fun v4_14 wfway_15 => self_16T (v4_14, wfway_15) := ⟨_, rfl⟩
        have ihself_16 := fun (v4_14 : Int32) (wfway_15 : Nat → Int32) (h9 : self_16 v4_14 wfway_15 = some r) => ihself_16T (v4_14, wfway_15) (by rw [eself_16] at h9; exact h9)
        replace hyp : fX9_measure_L57_B fnow r_1 v2_6 self_12 v3_10 self_16 v4_14 wfway_15 = some r := by rw [eself_16]; exact hyp
        have hl : lv_has ls 6 [(0, .ref o), (1, .int r_1), (2, .int v2_6), (3, .int v3_10), (4, .int v4_14)] := hl
        have hP : va_P g.1 vwCl [(o, .inr (9, [.int refu, .ref pn, .ref pt, .ref pr, .ref pw, .ref pb, .int nst, .ref pk, .ref pi, .ref pf, .ref pl, .ref pe, .ref pm, .int nn, .ref px, .int len, .int pos, .int gd, .int ps, .int sm])), (pn, .inl (g.2.1, 61, .inl fnow)), (pw, .inl (g.2.1, 49, .inl wfway_15))] H := hP
        have hD : va_D A [(o, .inr (9, [.int refu, .ref pn, .ref pt, .ref pr, .ref pw, .ref pb, .int nst, .ref pk, .ref pi, .ref pf, .ref pl, .ref pe, .ref pm, .int nn, .ref px, .int len, .int pos, .int gd, .int ps, .int sm])), (pn, .inl (g.2.1, 61, .inl fnow)), (pw, .inl (g.2.1, 49, .inl wfway_15))] := hD
        show W p l e R s m args below meth c H locs 0 0 Q (F0 m 57 ls [])
        unfold fX9_measure_L57_B at hyp
        refine lv_iload hx hb dX9_measure_57 (lv_at hl 4 rfl) ?_
        refine lv_iconst (v := 4) hx hb dX9_measure_59 (by decide) ?_
        refine lv_icmp_ge (tgt := 152) hx hb dX9_measure_60 (by decide) (fun h_17 => ?_) (fun h_17 => ?_)
        · replace hyp := ite_t h_17 hyp
          refine lv_iinc (v := v3_10 + 1) (lv' := [(3, .int (v3_10 + 1)), (0, .ref o), (1, .int r_1), (2, .int v2_6), (4, .int v4_14)]) hx hb dX9_measure_152 hl (k := 3) rfl rfl (by decide) rfl (fun ls hl => ?_)
          refine lv_goto (tgt := 48) hx hb dX9_measure_155 (by decide) ?_
          exact ihself_12 (v3_10 + 1) wfway_15 hyp H locs ls (lv_sub hl [1, 2, 3, 0] rfl) hP hD hS
        · replace hyp := ite_f h_17 hyp
          refine lv_aload_n hx hb dX9_measure_63 rfl (lv_at hl 0 rfl) ?_
          refine gf_X9_19 hx hb hts hown hE hP 0 rfl rfl dX9_measure_64 ?_
          refine lv_iload_n hx hb dX9_measure_67 rfl (lv_at hl 3 rfl) ?_
          obtain ⟨hi, hyp⟩ := grd_e hyp
          refine va_iald hx hb hE.1 hP 2 0 rfl rfl (inB_vp hi) dX9_measure_68 ?_
          refine lv_iload_n hx hb dX9_measure_69 rfl (lv_at hl 2 rfl) ?_
          refine lv_icmp_ne (tgt := 152) hx hb dX9_measure_70 (by decide) (fun h_18 => ?_) (fun h_18 => ?_)
          · replace hyp := ite_f h_18 hyp
            refine lv_iinc (v := v3_10 + 1) (lv' := [(3, .int (v3_10 + 1)), (0, .ref o), (1, .int r_1), (2, .int v2_6), (4, .int v4_14)]) hx hb dX9_measure_152 hl (k := 3) rfl rfl (by decide) rfl (fun ls hl => ?_)
            refine lv_goto (tgt := 48) hx hb dX9_measure_155 (by decide) ?_
            exact ihself_12 (v3_10 + 1) wfway_15 hyp H locs ls (lv_sub hl [1, 2, 3, 0] rfl) hP hD hS
          · replace hyp := ite_t h_18 hyp
            refine lv_iload_n hx hb dX9_measure_73 rfl (lv_at hl 3 rfl) ?_
            refine lv_iload hx hb dX9_measure_74 (lv_at hl 4 rfl) ?_
            obtain ⟨r_19, hr_19, hyp⟩ := opt_e hyp
            refine pS (As := [.int v3_10, .int v4_14]) (rest := []) ⟨hx, hb, hml, hown, hts⟩ hE (mX9_next l g v3_10 v4_14 r_19 hr_19) cf_X9_next st_X9_next ml_X9_76 ⟨Nat.le_trans (Nat.le_of_ble_eq_true rfl) hRf, Nat.le_trans (Nat.le_of_ble_eq_true rfl) hRl⟩ (va_P_nil) rfl hl.1 rfl (Nat.le_of_ble_eq_true rfl) dX9_measure_76 ⟨Nat.zero_le _, Nat.zero_le _⟩ ?_
            refine lv_istore (lv' := [(5, .int r_19), (0, .ref o), (1, .int r_1), (2, .int v2_6), (3, .int v3_10), (4, .int v4_14)]) hx hb dX9_measure_79 hl (by decide) rfl (fun ls hl => ?_)
            refine lp_i (r := r) (fun z : Int32 × (Nat → Int32) => ∀ (H : Heap) (locs : List Loc) (ls : Array Slot), lv_has ls 6 [(0, .ref o), (1, .int r_1), (2, .int v2_6), (3, .int v3_10), (4, .int v4_14), (5, .int z.1)] → va_P g.1 vwCl [(o, .inr (9, [.int refu, .ref pn, .ref pt, .ref pr, .ref pw, .ref pb, .int nst, .ref pk, .ref pi, .ref pf, .ref pl, .ref pe, .ref pm, .int nn, .ref px, .int len, .int pos, .int gd, .int ps, .int sm])), (pn, .inl (g.2.1, 61, .inl fnow)), (pw, .inl (g.2.1, 49, .inl z.2))] H → va_D A [(o, .inr (9, [.int refu, .ref pn, .ref pt, .ref pr, .ref pw, .ref pb, .int nst, .ref pk, .ref pi, .ref pf, .ref pl, .ref pe, .ref pm, .int nn, .ref px, .int len, .int pos, .int gd, .int ps, .int sm])), (pn, .inl (g.2.1, 61, .inl fnow)), (pw, .inl (g.2.1, 49, .inl z.2))] → va_S A s.heap H locs → W p l e R s m args below meth c H locs 0 0 Q (F0 m 81 ls [])) ?_ 64 (r_19, wfway_15) hyp _ _ ls (lv_sub hl [1, 2, 3, 4, 5, 0] rfl) hP hD hS
            intro self_22T ihself_22T z hyp H locs ls hl hP hD hS
            obtain ⟨v5_20, wfway_21⟩ := z
            obtain ⟨self_22, eself_22⟩ : ∃ f9 : Int32 → (Nat → Int32) → Option ((Nat → Int32)), f9 = fun v5_20 wfway_21 => self_22T (v5_20, wfway_21) := ⟨_, rfl⟩
            have ihself_22 := fun (v5_20 : Int32) (wfway_21 : Nat → Int32) (h9 : self_22 v5_20 wfway_21 = some r) => ihself_22T (v5_20, wfway_21) (by rw [eself_22] at h9; exact h9)
            replace hyp : fX9_measure_L81_B fnow r_1 v2_6 self_16 v4_14 self_22 v5_20 wfway_21 = some r := by rw [eself_22]; exact hyp
            have hl : lv_has ls 6 [(0, .ref o), (1, .int r_1), (2, .int v2_6), (3, .int v3_10), (4, .int v4_14), (5, .int v5_20)] := hl
            have hP : va_P g.1 vwCl [(o, .inr (9, [.int refu, .ref pn, .ref pt, .ref pr, .ref pw, .ref pb, .int nst, .ref pk, .ref pi, .ref pf, .ref pl, .ref pe, .ref pm, .int nn, .ref px, .int len, .int pos, .int gd, .int ps, .int sm])), (pn, .inl (g.2.1, 61, .inl fnow)), (pw, .inl (g.2.1, 49, .inl wfway_21))] H := hP
            have hD : va_D A [(o, .inr (9, [.int refu, .ref pn, .ref pt, .ref pr, .ref pw, .ref pb, .int nst, .ref pk, .ref pi, .ref pf, .ref pl, .ref pe, .ref pm, .int nn, .ref px, .int len, .int pos, .int gd, .int ps, .int sm])), (pn, .inl (g.2.1, 61, .inl fnow)), (pw, .inl (g.2.1, 49, .inl wfway_21))] := hD
            show W p l e R s m args below meth c H locs 0 0 Q (F0 m 81 ls [])
            unfold fX9_measure_L81_B at hyp
            refine lv_iload hx hb dX9_measure_81 (lv_at hl 5 rfl) ?_
            refine lv_iconst (v := (-1)) hx hb dX9_measure_83 (by decide) ?_
            refine lv_icmp_eq (tgt := 146) hx hb dX9_measure_84 (by decide) (fun h_23 => ?_) (fun h_23 => ?_)
            · replace hyp := ite_t h_23 hyp
              refine lv_iinc (v := v4_14 + 1) (lv' := [(4, .int (v4_14 + 1)), (0, .ref o), (1, .int r_1), (2, .int v2_6), (3, .int v3_10), (5, .int v5_20)]) hx hb dX9_measure_146 hl (k := 4) rfl rfl (by decide) rfl (fun ls hl => ?_)
              refine lv_goto (tgt := 57) hx hb dX9_measure_149 (by decide) ?_
              exact ihself_16 (v4_14 + 1) wfway_21 hyp H locs ls (lv_sub hl [1, 2, 3, 4, 0] rfl) hP hD hS
            · replace hyp := ite_f h_23 hyp
              refine lv_aload_n hx hb dX9_measure_87 rfl (lv_at hl 0 rfl) ?_
              refine gf_X9_7 hx hb hts hown hE hP 0 rfl rfl dX9_measure_88 ?_
              refine lv_iload hx hb dX9_measure_91 (lv_at hl 5 rfl) ?_
              obtain ⟨hi, hyp⟩ := grd_e hyp
              refine va_iald hx hb hE.1 hP 1 0 rfl rfl (inB_vp hi) dX9_measure_93 ?_
              obtain ⟨J_24, eJ_24, hyp⟩ := jn_e hyp
              have kJ_24 : ∀ (H : Heap) (locs : List Loc) (ls : Array Slot), J_24 = some r → lv_has ls 6 [(0, .ref o), (1, .int r_1), (2, .int v2_6), (3, .int v3_10), (4, .int v4_14), (5, .int v5_20)] → va_P g.1 vwCl [(o, .inr (9, [.int refu, .ref pn, .ref pt, .ref pr, .ref pw, .ref pb, .int nst, .ref pk, .ref pi, .ref pf, .ref pl, .ref pe, .ref pm, .int nn, .ref px, .int len, .int pos, .int gd, .int ps, .int sm])), (pn, .inl (g.2.1, 61, .inl fnow)), (pw, .inl (g.2.1, 49, .inl wfway_21))] H → va_D A [(o, .inr (9, [.int refu, .ref pn, .ref pt, .ref pr, .ref pw, .ref pb, .int nst, .ref pk, .ref pi, .ref pf, .ref pl, .ref pe, .ref pm, .int nn, .ref px, .int len, .int pos, .int gd, .int ps, .int sm])), (pn, .inl (g.2.1, 61, .inl fnow)), (pw, .inl (g.2.1, 49, .inl wfway_21))] → va_S A s.heap H locs → W p l e R s m args below meth c H locs 0 0 Q (F0 m 103 ls []) := by
                intro H locs  ls hyp hl hP hD hS
                replace hyp := (eJ_24).symm.trans hyp
                refine lv_aload_n hx hb dX9_measure_103 rfl (lv_at hl 0 rfl) ?_
                refine gf_X9_19 hx hb hts hown hE hP 0 rfl rfl dX9_measure_104 ?_
                refine lv_iload hx hb dX9_measure_107 (lv_at hl 5 rfl) ?_
                refine lv_aload_n hx hb dX9_measure_109 rfl (lv_at hl 0 rfl) ?_
                refine gf_X9_19 hx hb hts hown hE hP 0 rfl rfl dX9_measure_110 ?_
                refine lv_iload hx hb dX9_measure_113 (lv_at hl 5 rfl) ?_
                obtain ⟨hi, hyp⟩ := grd_e hyp
                refine va_iald hx hb hE.1 hP 2 0 rfl rfl (inB_vp hi) dX9_measure_115 ?_
                refine lv_iconst (v := (-1)) hx hb dX9_measure_116 (by decide) ?_
                obtain ⟨J_26, eJ_26, hyp⟩ := jn_e hyp
                have kJ_26 : ∀ (t_25 : Int32) (H : Heap) (locs : List Loc) (ls : Array Slot), J_26 t_25 = some r → lv_has ls 6 [(0, .ref o), (1, .int r_1), (2, .int v2_6), (3, .int v3_10), (4, .int v4_14), (5, .int v5_20)] → va_P g.1 vwCl [(o, .inr (9, [.int refu, .ref pn, .ref pt, .ref pr, .ref pw, .ref pb, .int nst, .ref pk, .ref pi, .ref pf, .ref pl, .ref pe, .ref pm, .int nn, .ref px, .int len, .int pos, .int gd, .int ps, .int sm])), (pn, .inl (g.2.1, 61, .inl fnow)), (pw, .inl (g.2.1, 49, .inl wfway_21))] H → va_D A [(o, .inr (9, [.int refu, .ref pn, .ref pt, .ref pr, .ref pw, .ref pb, .int nst, .ref pk, .ref pi, .ref pf, .ref pl, .ref pe, .ref pm, .int nn, .ref px, .int len, .int pos, .int gd, .int ps, .int sm])), (pn, .inl (g.2.1, 61, .inl fnow)), (pw, .inl (g.2.1, 49, .inl wfway_21))] → va_S A s.heap H locs → W p l e R s m args below meth c H locs 0 0 Q (F0 m 133 ls [.int t_25, .int v5_20, .ref pw]) := by
                  intro t_25 H locs  ls hyp hl hP hD hS
                  replace hyp := (congrFun (eJ_26) t_25).symm.trans hyp
                  obtain ⟨hi, hyp⟩ := grd_e hyp
                  refine va_iast hx hb hE.1 hP hD hS 2 0 rfl rfl (inB_vp hi) dX9_measure_133 (fun H locs hP hD hS => ?_)
                  have hP : va_P g.1 vwCl [(o, .inr (9, [.int refu, .ref pn, .ref pt, .ref pr, .ref pw, .ref pb, .int nst, .ref pk, .ref pi, .ref pf, .ref pl, .ref pe, .ref pm, .int nn, .ref px, .int len, .int pos, .int gd, .int ps, .int sm])), (pn, .inl (g.2.1, 61, .inl fnow)), (pw, .inl (g.2.1, 49, .inl (upd wfway_21 v5_20.toNatClampNeg t_25)))] H := hP
                  have hD : va_D A [(o, .inr (9, [.int refu, .ref pn, .ref pt, .ref pr, .ref pw, .ref pb, .int nst, .ref pk, .ref pi, .ref pf, .ref pl, .ref pe, .ref pm, .int nn, .ref px, .int len, .int pos, .int gd, .int ps, .int sm])), (pn, .inl (g.2.1, 61, .inl fnow)), (pw, .inl (g.2.1, 49, .inl (upd wfway_21 v5_20.toNatClampNeg t_25)))] := hD
                  refine lv_iload hx hb dX9_measure_134 (lv_at hl 5 rfl) ?_
                  refine lv_iload hx hb dX9_measure_136 (lv_at hl 4 rfl) ?_
                  obtain ⟨r_27, hr_27, hyp⟩ := opt_e hyp
                  refine pS (As := [.int v5_20, .int v4_14]) (rest := []) ⟨hx, hb, hml, hown, hts⟩ hE (mX9_next l g v5_20 v4_14 r_27 hr_27) cf_X9_next st_X9_next ml_X9_76 ⟨Nat.le_trans (Nat.le_of_ble_eq_true rfl) hRf, Nat.le_trans (Nat.le_of_ble_eq_true rfl) hRl⟩ (va_P_nil) rfl hl.1 rfl (Nat.le_of_ble_eq_true rfl) dX9_measure_138 ⟨Nat.zero_le _, Nat.zero_le _⟩ ?_
                  refine lv_istore (lv' := [(5, .int r_27), (0, .ref o), (1, .int r_1), (2, .int v2_6), (3, .int v3_10), (4, .int v4_14)]) hx hb dX9_measure_141 hl (by decide) rfl (fun ls hl => ?_)
                  refine lv_goto (tgt := 81) hx hb dX9_measure_143 (by decide) ?_
                  exact ihself_22 r_27 (upd wfway_21 v5_20.toNatClampNeg t_25) hyp H locs ls (lv_sub hl [1, 2, 3, 4, 5, 0] rfl) hP hD hS
                refine lv_icmp_ne (tgt := 126) hx hb dX9_measure_117 (by decide) (fun h_28 => ?_) (fun h_28 => ?_)
                · replace hyp := ite_f h_28 hyp
                  refine lv_aload_n hx hb dX9_measure_126 rfl (lv_at hl 0 rfl) ?_
                  refine gf_X9_19 hx hb hts hown hE hP 0 rfl rfl dX9_measure_127 ?_
                  refine lv_iload hx hb dX9_measure_130 (lv_at hl 5 rfl) ?_
                  obtain ⟨hi, hyp⟩ := grd_e hyp
                  refine va_iald hx hb hE.1 hP 2 0 rfl rfl (inB_vp hi) dX9_measure_132 ?_
                  exact kJ_26 (wfway_21 v5_20.toNatClampNeg) H locs ls hyp hl hP hD hS
                · replace hyp := ite_t h_28 hyp
                  refine lv_iload_n hx hb dX9_measure_120 rfl (lv_at hl 2 rfl) ?_
                  refine lv_iconst (v := 1) hx hb dX9_measure_121 (by decide) ?_
                  refine lv_iadd hx hb dX9_measure_122 ?_
                  refine lv_goto (tgt := 133) hx hb dX9_measure_123 (by decide) ?_
                  exact kJ_26 (v2_6 + 1) H locs ls hyp hl hP hD hS
              refine lv_if_eq (tgt := 103) hx hb dX9_measure_94 (by decide) (fun h_29 => ?_) (fun h_29 => ?_)
              · replace hyp := ite_t h_29 hyp
                exact kJ_24 H locs ls hyp hl hP hD hS
              · replace hyp := ite_f h_29 hyp
                refine lv_iload hx hb dX9_measure_97 (lv_at hl 5 rfl) ?_
                refine lv_iload_n hx hb dX9_measure_99 rfl (lv_at hl 1 rfl) ?_
                refine lv_icmp_ne (tgt := 146) hx hb dX9_measure_100 (by decide) (fun h_30 => ?_) (fun h_30 => ?_)
                · replace hyp := ite_f h_30 hyp
                  refine lv_iinc (v := v4_14 + 1) (lv' := [(4, .int (v4_14 + 1)), (0, .ref o), (1, .int r_1), (2, .int v2_6), (3, .int v3_10), (5, .int v5_20)]) hx hb dX9_measure_146 hl (k := 4) rfl rfl (by decide) rfl (fun ls hl => ?_)
                  refine lv_goto (tgt := 57) hx hb dX9_measure_149 (by decide) ?_
                  exact ihself_16 (v4_14 + 1) wfway_21 hyp H locs ls (lv_sub hl [1, 2, 3, 4, 0] rfl) hP hD hS
                · replace hyp := ite_t h_30 hyp
                  exact kJ_24 H locs ls hyp hl hP hD hS
  · replace hyp := ite_f h_5 hyp
    refine lv_aload_n hx hb dX9_measure_16 rfl (lv_at hl 0 rfl) ?_
    refine gf_X9_19 hx hb hts hown hE hP 0 rfl rfl dX9_measure_17 ?_
    refine lv_iload_n hx hb dX9_measure_20 rfl (lv_at hl 2 rfl) ?_
    refine lv_iload_n hx hb dX9_measure_21 rfl (lv_at hl 2 rfl) ?_
    refine lv_iload_n hx hb dX9_measure_22 rfl (lv_at hl 1 rfl) ?_
    obtain ⟨J_32, eJ_32, hyp⟩ := jn_e hyp
    have kJ_32 : ∀ (t_31 : Int32) (H : Heap) (locs : List Loc) (ls : Array Slot), J_32 t_31 = some r → lv_has ls 6 [(0, .ref o), (1, .int r_1), (2, .int v2_2)] → va_P g.1 vwCl [(o, .inr (9, [.int refu, .ref pn, .ref pt, .ref pr, .ref pw, .ref pb, .int nst, .ref pk, .ref pi, .ref pf, .ref pl, .ref pe, .ref pm, .int nn, .ref px, .int len, .int pos, .int gd, .int ps, .int sm])), (pn, .inl (g.2.1, 61, .inl fnow)), (pw, .inl (g.2.1, 49, .inl wfway_3))] H → va_D A [(o, .inr (9, [.int refu, .ref pn, .ref pt, .ref pr, .ref pw, .ref pb, .int nst, .ref pk, .ref pi, .ref pf, .ref pl, .ref pe, .ref pm, .int nn, .ref px, .int len, .int pos, .int gd, .int ps, .int sm])), (pn, .inl (g.2.1, 61, .inl fnow)), (pw, .inl (g.2.1, 49, .inl wfway_3))] → va_S A s.heap H locs → W p l e R s m args below meth c H locs 0 0 Q (F0 m 31 ls [.int t_31, .int v2_2, .ref pw]) := by
      intro t_31 H locs  ls hyp hl hP hD hS
      replace hyp := (congrFun (eJ_32) t_31).symm.trans hyp
      obtain ⟨hi, hyp⟩ := grd_e hyp
      refine va_iast hx hb hE.1 hP hD hS 2 0 rfl rfl (inB_vp hi) dX9_measure_31 (fun H locs hP hD hS => ?_)
      have hP : va_P g.1 vwCl [(o, .inr (9, [.int refu, .ref pn, .ref pt, .ref pr, .ref pw, .ref pb, .int nst, .ref pk, .ref pi, .ref pf, .ref pl, .ref pe, .ref pm, .int nn, .ref px, .int len, .int pos, .int gd, .int ps, .int sm])), (pn, .inl (g.2.1, 61, .inl fnow)), (pw, .inl (g.2.1, 49, .inl (upd wfway_3 v2_2.toNatClampNeg t_31)))] H := hP
      have hD : va_D A [(o, .inr (9, [.int refu, .ref pn, .ref pt, .ref pr, .ref pw, .ref pb, .int nst, .ref pk, .ref pi, .ref pf, .ref pl, .ref pe, .ref pm, .int nn, .ref px, .int len, .int pos, .int gd, .int ps, .int sm])), (pn, .inl (g.2.1, 61, .inl fnow)), (pw, .inl (g.2.1, 49, .inl (upd wfway_3 v2_2.toNatClampNeg t_31)))] := hD
      refine lv_iinc (v := v2_2 + 1) (lv' := [(2, .int (v2_2 + 1)), (0, .ref o), (1, .int r_1)]) hx hb dX9_measure_32 hl (k := 2) rfl rfl (by decide) rfl (fun ls hl => ?_)
      refine lv_goto (tgt := 10) hx hb dX9_measure_35 (by decide) ?_
      exact ihself_4 (v2_2 + 1) (upd wfway_3 v2_2.toNatClampNeg t_31) hyp H locs ls (lv_sub hl [1, 2, 0] rfl) hP hD hS
    refine lv_icmp_ne (tgt := 30) hx hb dX9_measure_23 (by decide) (fun h_33 => ?_) (fun h_33 => ?_)
    · replace hyp := ite_f h_33 hyp
      refine lv_iconst (v := (-1)) hx hb dX9_measure_30 (by decide) ?_
      exact kJ_32 (-1) H locs ls hyp hl hP hD hS
    · replace hyp := ite_t h_33 hyp
      refine lv_iconst (v := 0) hx hb dX9_measure_26 (by decide) ?_
      refine lv_goto (tgt := 31) hx hb dX9_measure_27 (by decide) ?_
      exact kJ_32 0 H locs ls hyp hl hP hD hS

def fX9_kingMoves_L8_B (r_1 : (Nat → Int32)) (self_4 : Int32 → Int32 → Option (Int32 × (Nat → Int32))) (v1_2 : Int32) (v2_3 : Int32) : Option (Int32 × (Nat → Int32)) :=
  if 49 ≤ v2_3 then (some (v1_2, r_1)) else ((fX9_isCorner v2_3).bind (fun (r_6 : Int32) => jn (fun (t_7 : Int32) => jn (fun (t_9 : Int32) => self_4 t_9 (v2_3 + 1)) (fun J_10 => jn (J_10 v1_2) (fun J_11 => if t_7 = 0 then (J_11) else (jn (grd (inB v2_3 49) (J_10 (r_1 v2_3.toNatClampNeg))) (fun J_13 => if v1_2 = (-1) then (J_13) else (grd (inB v2_3 49) (if v1_2 ≤ (r_1 v2_3.toNatClampNeg) then (J_11) else (J_13)))))))) (fun J_8 => jn (J_8 0) (fun J_16 => if r_6 = 0 then (J_16) else (grd (inB v2_3 49) (if (r_1 v2_3.toNatClampNeg) = (-1) then (J_16) else (J_8 1)))))))
def fX9_kingMoves_L8 (r_1 : (Nat → Int32)) (n : Nat) (v1_2 : Int32) (v2_3 : Int32) : Option (Int32 × (Nat → Int32)) := lp (fun zf z => fX9_kingMoves_L8_B r_1 (fun v1_2 v2_3 => zf (v1_2, v2_3)) z.1 z.2) n (v1_2, v2_3)
def fX9_kingMoves (fnow : Nat → Int32) (fway : Nat → Int32) : Option (Int32 × (Nat → Int32)) :=
  (fX9_measure fnow fway).bind (fun (r_1 : (Nat → Int32)) => fX9_kingMoves_L8 r_1 64 (-1) 0)
set_option maxRecDepth 100000 in
set_option maxHeartbeats 4000000 in
theorem mX9_kingMoves (l : Launch) (g : GE) (o pn pw pt pr pb pk pi pf pl pe pm px : Nat) (refu : Int32) (nst : Int32) (nn : Int32) (len : Int32) (pos : Int32) (gd : Int32) (ps : Int32) (sm : Int32) (fnow : Nat → Int32) (fway : Nat → Int32) (r : Int32 × (Nat → Int32)) (hyp : fX9_kingMoves fnow fway = some r) : WM l yX9_kingMoves cX9_kingMoves 4 (some .int) 4 94 g [(o, .inr (9, [.int refu, .ref pn, .ref pt, .ref pr, .ref pw, .ref pb, .int nst, .ref pk, .ref pi, .ref pf, .ref pl, .ref pe, .ref pm, .int nn, .ref px, .int len, .int pos, .int gd, .int ps, .int sm])), (pn, .inl (g.2.1, 61, .inl fnow)), (pw, .inl (g.2.1, 49, .inl fway))] [.ref o] (some (.int r.1)) [(o, .inr (9, [.int refu, .ref pn, .ref pt, .ref pr, .ref pw, .ref pb, .int nst, .ref pk, .ref pi, .ref pf, .ref pl, .ref pe, .ref pm, .int nn, .ref px, .int len, .int pos, .int gd, .int ps, .int sm])), (pn, .inl (g.2.1, 61, .inl fnow)), (pw, .inl (g.2.1, 49, .inl r.2))] := by
  refine metW_intro (by decide) rfl ?_
  intro p e R s m args below meth c Q A hRf hRl hQ hx hb hml hr hlocks hown hts hin hE hA H locs hP hD hS ls hl
  have hown : s.vm.findClass "HallGuardsModel" = some m.cls := hown
  have hl : lv_has ls 4 [(0, .ref o)] := hl
  unfold fX9_kingMoves at hyp
  refine lv_iconst (v := (-1)) hx hb dX9_kingMoves_0 (by decide) ?_
  refine lv_istore_n (lv' := [(1, .int (-1)), (0, .ref o)]) hx hb dX9_kingMoves_1 rfl hl (by decide) rfl (fun ls hl => ?_)
  refine lv_aload_n hx hb dX9_kingMoves_2 rfl (lv_at hl 1 rfl) ?_
  obtain ⟨r_1, hr_1, hyp⟩ := opt_e hyp
  refine wV (As := []) (rest := []) ⟨hx, hb, hml, hown, hts⟩ hE (mX9_measure l g o pn pw pt pr pb pk pi pf pl pe pm px refu nst nn len pos gd ps sm fnow fway r_1 hr_1) cf_X9_measure im_X9_measure se_X9_measure ml_X9_238 ⟨Nat.le_trans (Nat.le_of_ble_eq_true rfl) hRf, Nat.le_trans (Nat.le_of_ble_eq_true rfl) hRl⟩ hP hD hS hA [0, 1, 2] [] rfl (wr := []) rfl ⟨by decide, by decide⟩ (by decide) (ci := 9) (q0 := 0) rfl rfl rfl rfl hl.1 rfl (Nat.le_of_ble_eq_true rfl) dX9_kingMoves_3 ⟨Nat.zero_le _, Nat.zero_le _⟩ (fun H locs hP hD hS => ?_)
  have hP : va_P g.1 vwCl [(o, .inr (9, [.int refu, .ref pn, .ref pt, .ref pr, .ref pw, .ref pb, .int nst, .ref pk, .ref pi, .ref pf, .ref pl, .ref pe, .ref pm, .int nn, .ref px, .int len, .int pos, .int gd, .int ps, .int sm])), (pn, .inl (g.2.1, 61, .inl fnow)), (pw, .inl (g.2.1, 49, .inl r_1))] H := hP
  have hD : va_D A [(o, .inr (9, [.int refu, .ref pn, .ref pt, .ref pr, .ref pw, .ref pb, .int nst, .ref pk, .ref pi, .ref pf, .ref pl, .ref pe, .ref pm, .int nn, .ref px, .int len, .int pos, .int gd, .int ps, .int sm])), (pn, .inl (g.2.1, 61, .inl fnow)), (pw, .inl (g.2.1, 49, .inl r_1))] := hD
  refine lv_iconst (v := 0) hx hb dX9_kingMoves_6 (by decide) ?_
  refine lv_istore_n (lv' := [(2, .int 0), (1, .int (-1)), (0, .ref o)]) hx hb dX9_kingMoves_7 rfl hl (by decide) rfl (fun ls hl => ?_)
  refine lp_i (r := r) (fun z : Int32 × Int32 => ∀ (H : Heap) (locs : List Loc) (ls : Array Slot), lv_has ls 4 [(0, .ref o), (1, .int z.1), (2, .int z.2)] → va_P g.1 vwCl [(o, .inr (9, [.int refu, .ref pn, .ref pt, .ref pr, .ref pw, .ref pb, .int nst, .ref pk, .ref pi, .ref pf, .ref pl, .ref pe, .ref pm, .int nn, .ref px, .int len, .int pos, .int gd, .int ps, .int sm])), (pn, .inl (g.2.1, 61, .inl fnow)), (pw, .inl (g.2.1, 49, .inl r_1))] H → va_D A [(o, .inr (9, [.int refu, .ref pn, .ref pt, .ref pr, .ref pw, .ref pb, .int nst, .ref pk, .ref pi, .ref pf, .ref pl, .ref pe, .ref pm, .int nn, .ref px, .int len, .int pos, .int gd, .int ps, .int sm])), (pn, .inl (g.2.1, 61, .inl fnow)), (pw, .inl (g.2.1, 49, .inl r_1))] → va_S A s.heap H locs → W p l e R s m args below meth c H locs 0 0 Q (F0 m 8 ls [])) ?_ 64 ((-1), 0) hyp _ _ ls (lv_sub hl [2, 1, 0] rfl) hP hD hS
  intro self_4T ihself_4T z hyp H locs ls hl hP hD hS
  obtain ⟨v1_2, v2_3⟩ := z
  obtain ⟨self_4, eself_4⟩ : ∃ f9 : Int32 → Int32 → Option (Int32 × (Nat → Int32)), f9 = fun v1_2 v2_3 => self_4T (v1_2, v2_3) := ⟨_, rfl⟩
  have ihself_4 := fun (v1_2 : Int32) (v2_3 : Int32) (h9 : self_4 v1_2 v2_3 = some r) => ihself_4T (v1_2, v2_3) (by rw [eself_4] at h9; exact h9)
  replace hyp : fX9_kingMoves_L8_B r_1 self_4 v1_2 v2_3 = some r := by rw [eself_4]; exact hyp
  have hl : lv_has ls 4 [(0, .ref o), (1, .int v1_2), (2, .int v2_3)] := hl
  have hP : va_P g.1 vwCl [(o, .inr (9, [.int refu, .ref pn, .ref pt, .ref pr, .ref pw, .ref pb, .int nst, .ref pk, .ref pi, .ref pf, .ref pl, .ref pe, .ref pm, .int nn, .ref px, .int len, .int pos, .int gd, .int ps, .int sm])), (pn, .inl (g.2.1, 61, .inl fnow)), (pw, .inl (g.2.1, 49, .inl r_1))] H := hP
  have hD : va_D A [(o, .inr (9, [.int refu, .ref pn, .ref pt, .ref pr, .ref pw, .ref pb, .int nst, .ref pk, .ref pi, .ref pf, .ref pl, .ref pe, .ref pm, .int nn, .ref px, .int len, .int pos, .int gd, .int ps, .int sm])), (pn, .inl (g.2.1, 61, .inl fnow)), (pw, .inl (g.2.1, 49, .inl r_1))] := hD
  show W p l e R s m args below meth c H locs 0 0 Q (F0 m 8 ls [])
  unfold fX9_kingMoves_L8_B at hyp
  refine lv_iload_n hx hb dX9_kingMoves_8 rfl (lv_at hl 2 rfl) ?_
  refine lv_bipush (v := 49) hx hb dX9_kingMoves_9 (by decide) ?_
  refine lv_icmp_ge (tgt := 73) hx hb dX9_kingMoves_11 (by decide) (fun h_5 => ?_) (fun h_5 => ?_)
  · replace hyp := ite_t h_5 hyp
    refine lv_iload_n hx hb dX9_kingMoves_73 rfl (lv_at hl 1 rfl) ?_
    have hyp := some_e hyp
    subst hyp
    subst hQ
    exact rwI hx hb hr hlocks  hP hD hS dX9_kingMoves_74
  · replace hyp := ite_f h_5 hyp
    refine lv_iload_n hx hb dX9_kingMoves_14 rfl (lv_at hl 2 rfl) ?_
    obtain ⟨r_6, hr_6, hyp⟩ := opt_e hyp
    refine pS (As := [.int v2_3]) (rest := []) ⟨hx, hb, hml, hown, hts⟩ hE (mX9_isCorner l g v2_3 r_6 hr_6) cf_X9_isCorner st_X9_isCorner ml_X9_68 ⟨Nat.le_trans (Nat.le_of_ble_eq_true rfl) hRf, Nat.le_trans (Nat.le_of_ble_eq_true rfl) hRl⟩ (va_P_nil) rfl hl.1 rfl (Nat.le_of_ble_eq_true rfl) dX9_kingMoves_15 ⟨Nat.zero_le _, Nat.zero_le _⟩ ?_
    obtain ⟨J_8, eJ_8, hyp⟩ := jn_e hyp
    have kJ_8 : ∀ (t_7 : Int32) (H : Heap) (locs : List Loc) (ls : Array Slot), J_8 t_7 = some r → lv_has ls 4 [(0, .ref o), (1, .int v1_2), (2, .int v2_3)] → va_P g.1 vwCl [(o, .inr (9, [.int refu, .ref pn, .ref pt, .ref pr, .ref pw, .ref pb, .int nst, .ref pk, .ref pi, .ref pf, .ref pl, .ref pe, .ref pm, .int nn, .ref px, .int len, .int pos, .int gd, .int ps, .int sm])), (pn, .inl (g.2.1, 61, .inl fnow)), (pw, .inl (g.2.1, 49, .inl r_1))] H → va_D A [(o, .inr (9, [.int refu, .ref pn, .ref pt, .ref pr, .ref pw, .ref pb, .int nst, .ref pk, .ref pi, .ref pf, .ref pl, .ref pe, .ref pm, .int nn, .ref px, .int len, .int pos, .int gd, .int ps, .int sm])), (pn, .inl (g.2.1, 61, .inl fnow)), (pw, .inl (g.2.1, 49, .inl r_1))] → va_S A s.heap H locs → W p l e R s m args below meth c H locs 0 0 Q (F0 m 36 ls [.int t_7]) := by
      intro t_7 H locs  ls hyp hl hP hD hS
      replace hyp := (congrFun (eJ_8) t_7).symm.trans hyp
      refine lv_istore_n (lv' := [(3, .int t_7), (0, .ref o), (1, .int v1_2), (2, .int v2_3)]) hx hb dX9_kingMoves_36 rfl hl (by decide) rfl (fun ls hl => ?_)
      refine lv_iload_n hx hb dX9_kingMoves_37 rfl (lv_at hl 0 rfl) ?_
      obtain ⟨J_10, eJ_10, hyp⟩ := jn_e hyp
      have kJ_10 : ∀ (t_9 : Int32) (H : Heap) (locs : List Loc) (ls : Array Slot), J_10 t_9 = some r → lv_has ls 4 [(0, .ref o), (2, .int v2_3)] → va_P g.1 vwCl [(o, .inr (9, [.int refu, .ref pn, .ref pt, .ref pr, .ref pw, .ref pb, .int nst, .ref pk, .ref pi, .ref pf, .ref pl, .ref pe, .ref pm, .int nn, .ref px, .int len, .int pos, .int gd, .int ps, .int sm])), (pn, .inl (g.2.1, 61, .inl fnow)), (pw, .inl (g.2.1, 49, .inl r_1))] H → va_D A [(o, .inr (9, [.int refu, .ref pn, .ref pt, .ref pr, .ref pw, .ref pb, .int nst, .ref pk, .ref pi, .ref pf, .ref pl, .ref pe, .ref pm, .int nn, .ref px, .int len, .int pos, .int gd, .int ps, .int sm])), (pn, .inl (g.2.1, 61, .inl fnow)), (pw, .inl (g.2.1, 49, .inl r_1))] → va_S A s.heap H locs → W p l e R s m args below meth c H locs 0 0 Q (F0 m 66 ls [.int t_9]) := by
        intro t_9 H locs  ls hyp hl hP hD hS
        replace hyp := (congrFun (eJ_10) t_9).symm.trans hyp
        refine lv_istore_n (lv' := [(1, .int t_9), (0, .ref o), (2, .int v2_3)]) hx hb dX9_kingMoves_66 rfl hl (by decide) rfl (fun ls hl => ?_)
        refine lv_iinc (v := v2_3 + 1) (lv' := [(2, .int (v2_3 + 1)), (1, .int t_9), (0, .ref o)]) hx hb dX9_kingMoves_67 hl (k := 2) rfl rfl (by decide) rfl (fun ls hl => ?_)
        refine lv_goto (tgt := 8) hx hb dX9_kingMoves_70 (by decide) ?_
        exact ihself_4 t_9 (v2_3 + 1) hyp H locs ls (lv_sub hl [2, 1, 0] rfl) hP hD hS
      obtain ⟨J_11, eJ_11, hyp⟩ := jn_e hyp
      have kJ_11 : ∀ (H : Heap) (locs : List Loc) (ls : Array Slot), J_11 = some r → lv_has ls 4 [(0, .ref o), (1, .int v1_2), (2, .int v2_3)] → va_P g.1 vwCl [(o, .inr (9, [.int refu, .ref pn, .ref pt, .ref pr, .ref pw, .ref pb, .int nst, .ref pk, .ref pi, .ref pf, .ref pl, .ref pe, .ref pm, .int nn, .ref px, .int len, .int pos, .int gd, .int ps, .int sm])), (pn, .inl (g.2.1, 61, .inl fnow)), (pw, .inl (g.2.1, 49, .inl r_1))] H → va_D A [(o, .inr (9, [.int refu, .ref pn, .ref pt, .ref pr, .ref pw, .ref pb, .int nst, .ref pk, .ref pi, .ref pf, .ref pl, .ref pe, .ref pm, .int nn, .ref px, .int len, .int pos, .int gd, .int ps, .int sm])), (pn, .inl (g.2.1, 61, .inl fnow)), (pw, .inl (g.2.1, 49, .inl r_1))] → va_S A s.heap H locs → W p l e R s m args below meth c H locs 0 0 Q (F0 m 65 ls []) := by
        intro H locs  ls hyp hl hP hD hS
        replace hyp := (eJ_11).symm.trans hyp
        refine lv_iload_n hx hb dX9_kingMoves_65 rfl (lv_at hl 1 rfl) ?_
        exact kJ_10 v1_2 H locs ls hyp (lv_sub hl [0, 2] rfl) hP hD hS
      refine lv_if_eq (tgt := 65) hx hb dX9_kingMoves_38 (by decide) (fun h_12 => ?_) (fun h_12 => ?_)
      · replace hyp := ite_t h_12 hyp
        exact kJ_11 H locs ls hyp (lv_sub hl [1, 2, 3] rfl) hP hD hS
      · replace hyp := ite_f h_12 hyp
        refine lv_iload_n hx hb dX9_kingMoves_41 rfl (lv_at hl 2 rfl) ?_
        refine lv_iconst (v := (-1)) hx hb dX9_kingMoves_42 (by decide) ?_
        obtain ⟨J_13, eJ_13, hyp⟩ := jn_e hyp
        have kJ_13 : ∀ (H : Heap) (locs : List Loc) (ls : Array Slot), J_13 = some r → lv_has ls 4 [(0, .ref o), (2, .int v2_3)] → va_P g.1 vwCl [(o, .inr (9, [.int refu, .ref pn, .ref pt, .ref pr, .ref pw, .ref pb, .int nst, .ref pk, .ref pi, .ref pf, .ref pl, .ref pe, .ref pm, .int nn, .ref px, .int len, .int pos, .int gd, .int ps, .int sm])), (pn, .inl (g.2.1, 61, .inl fnow)), (pw, .inl (g.2.1, 49, .inl r_1))] H → va_D A [(o, .inr (9, [.int refu, .ref pn, .ref pt, .ref pr, .ref pw, .ref pb, .int nst, .ref pk, .ref pi, .ref pf, .ref pl, .ref pe, .ref pm, .int nn, .ref px, .int len, .int pos, .int gd, .int ps, .int sm])), (pn, .inl (g.2.1, 61, .inl fnow)), (pw, .inl (g.2.1, 49, .inl r_1))] → va_S A s.heap H locs → W p l e R s m args below meth c H locs 0 0 Q (F0 m 56 ls []) := by
          intro H locs  ls hyp hl hP hD hS
          replace hyp := (eJ_13).symm.trans hyp
          refine lv_aload_n hx hb dX9_kingMoves_56 rfl (lv_at hl 0 rfl) ?_
          refine gf_X9_19 hx hb hts hown hE hP 0 rfl rfl dX9_kingMoves_57 ?_
          refine lv_iload_n hx hb dX9_kingMoves_60 rfl (lv_at hl 1 rfl) ?_
          obtain ⟨hi, hyp⟩ := grd_e hyp
          refine va_iald hx hb hE.1 hP 2 0 rfl rfl (inB_vp hi) dX9_kingMoves_61 ?_
          refine lv_goto (tgt := 66) hx hb dX9_kingMoves_62 (by decide) ?_
          exact kJ_10 (r_1 v2_3.toNatClampNeg) H locs ls hyp hl hP hD hS
        refine lv_icmp_eq (tgt := 56) hx hb dX9_kingMoves_43 (by decide) (fun h_14 => ?_) (fun h_14 => ?_)
        · replace hyp := ite_t h_14 hyp
          exact kJ_13 H locs ls hyp (lv_sub hl [1, 3] rfl) hP hD hS
        · replace hyp := ite_f h_14 hyp
          refine lv_aload_n hx hb dX9_kingMoves_46 rfl (lv_at hl 1 rfl) ?_
          refine gf_X9_19 hx hb hts hown hE hP 0 rfl rfl dX9_kingMoves_47 ?_
          refine lv_iload_n hx hb dX9_kingMoves_50 rfl (lv_at hl 3 rfl) ?_
          obtain ⟨hi, hyp⟩ := grd_e hyp
          refine va_iald hx hb hE.1 hP 2 0 rfl rfl (inB_vp hi) dX9_kingMoves_51 ?_
          refine lv_iload_n hx hb dX9_kingMoves_52 rfl (lv_at hl 2 rfl) ?_
          refine lv_icmp_ge (tgt := 65) hx hb dX9_kingMoves_53 (by decide) (fun h_15 => ?_) (fun h_15 => ?_)
          · replace hyp := ite_t h_15 hyp
            exact kJ_11 H locs ls hyp (lv_sub hl [1, 2, 3] rfl) hP hD hS
          · replace hyp := ite_f h_15 hyp
            exact kJ_13 H locs ls hyp (lv_sub hl [1, 3] rfl) hP hD hS
    obtain ⟨J_16, eJ_16, hyp⟩ := jn_e hyp
    have kJ_16 : ∀ (H : Heap) (locs : List Loc) (ls : Array Slot), J_16 = some r → lv_has ls 4 [(0, .ref o), (1, .int v1_2), (2, .int v2_3)] → va_P g.1 vwCl [(o, .inr (9, [.int refu, .ref pn, .ref pt, .ref pr, .ref pw, .ref pb, .int nst, .ref pk, .ref pi, .ref pf, .ref pl, .ref pe, .ref pm, .int nn, .ref px, .int len, .int pos, .int gd, .int ps, .int sm])), (pn, .inl (g.2.1, 61, .inl fnow)), (pw, .inl (g.2.1, 49, .inl r_1))] H → va_D A [(o, .inr (9, [.int refu, .ref pn, .ref pt, .ref pr, .ref pw, .ref pb, .int nst, .ref pk, .ref pi, .ref pf, .ref pl, .ref pe, .ref pm, .int nn, .ref px, .int len, .int pos, .int gd, .int ps, .int sm])), (pn, .inl (g.2.1, 61, .inl fnow)), (pw, .inl (g.2.1, 49, .inl r_1))] → va_S A s.heap H locs → W p l e R s m args below meth c H locs 0 0 Q (F0 m 35 ls []) := by
      intro H locs  ls hyp hl hP hD hS
      replace hyp := (eJ_16).symm.trans hyp
      refine lv_iconst (v := 0) hx hb dX9_kingMoves_35 (by decide) ?_
      exact kJ_8 0 H locs ls hyp hl hP hD hS
    refine lv_if_eq (tgt := 35) hx hb dX9_kingMoves_18 (by decide) (fun h_17 => ?_) (fun h_17 => ?_)
    · replace hyp := ite_t h_17 hyp
      exact kJ_16 H locs ls hyp hl hP hD hS
    · replace hyp := ite_f h_17 hyp
      refine lv_aload_n hx hb dX9_kingMoves_21 rfl (lv_at hl 0 rfl) ?_
      refine gf_X9_19 hx hb hts hown hE hP 0 rfl rfl dX9_kingMoves_22 ?_
      refine lv_iload_n hx hb dX9_kingMoves_25 rfl (lv_at hl 2 rfl) ?_
      obtain ⟨hi, hyp⟩ := grd_e hyp
      refine va_iald hx hb hE.1 hP 2 0 rfl rfl (inB_vp hi) dX9_kingMoves_26 ?_
      refine lv_iconst (v := (-1)) hx hb dX9_kingMoves_27 (by decide) ?_
      refine lv_icmp_eq (tgt := 35) hx hb dX9_kingMoves_28 (by decide) (fun h_18 => ?_) (fun h_18 => ?_)
      · replace hyp := ite_t h_18 hyp
        exact kJ_16 H locs ls hyp hl hP hD hS
      · replace hyp := ite_f h_18 hyp
        refine lv_iconst (v := 1) hx hb dX9_kingMoves_31 (by decide) ?_
        refine lv_goto (tgt := 36) hx hb dX9_kingMoves_32 (by decide) ?_
        exact kJ_8 1 H locs ls hyp hl hP hD hS

def fX9_corners_L8_B (r_1 : (Nat → Int32)) (self_4 : Int32 → Int32 → Option (Int32 × (Nat → Int32))) (v1_2 : Int32) (v2_3 : Int32) : Option (Int32 × (Nat → Int32)) :=
  if 49 ≤ v2_3 then (some (v1_2, r_1)) else ((fX9_isCorner v2_3).bind (fun (r_6 : Int32) => jn (fun (t_7 : Int32) => self_4 (v1_2 + t_7) (v2_3 + 1)) (fun J_8 => jn (J_8 0) (fun J_9 => if r_6 = 0 then (J_9) else (grd (inB v2_3 49) (if (r_1 v2_3.toNatClampNeg) = 1 then (J_8 1) else (J_9)))))))
def fX9_corners_L8 (r_1 : (Nat → Int32)) (n : Nat) (v1_2 : Int32) (v2_3 : Int32) : Option (Int32 × (Nat → Int32)) := lp (fun zf z => fX9_corners_L8_B r_1 (fun v1_2 v2_3 => zf (v1_2, v2_3)) z.1 z.2) n (v1_2, v2_3)
def fX9_corners (fnow : Nat → Int32) (fway : Nat → Int32) : Option (Int32 × (Nat → Int32)) :=
  (fX9_measure fnow fway).bind (fun (r_1 : (Nat → Int32)) => fX9_corners_L8 r_1 64 0 0)
set_option maxRecDepth 100000 in
set_option maxHeartbeats 4000000 in
theorem mX9_corners (l : Launch) (g : GE) (o pn pw pt pr pb pk pi pf pl pe pm px : Nat) (refu : Int32) (nst : Int32) (nn : Int32) (len : Int32) (pos : Int32) (gd : Int32) (ps : Int32) (sm : Int32) (fnow : Nat → Int32) (fway : Nat → Int32) (r : Int32 × (Nat → Int32)) (hyp : fX9_corners fnow fway = some r) : WM l yX9_corners cX9_corners 3 (some .int) 4 94 g [(o, .inr (9, [.int refu, .ref pn, .ref pt, .ref pr, .ref pw, .ref pb, .int nst, .ref pk, .ref pi, .ref pf, .ref pl, .ref pe, .ref pm, .int nn, .ref px, .int len, .int pos, .int gd, .int ps, .int sm])), (pn, .inl (g.2.1, 61, .inl fnow)), (pw, .inl (g.2.1, 49, .inl fway))] [.ref o] (some (.int r.1)) [(o, .inr (9, [.int refu, .ref pn, .ref pt, .ref pr, .ref pw, .ref pb, .int nst, .ref pk, .ref pi, .ref pf, .ref pl, .ref pe, .ref pm, .int nn, .ref px, .int len, .int pos, .int gd, .int ps, .int sm])), (pn, .inl (g.2.1, 61, .inl fnow)), (pw, .inl (g.2.1, 49, .inl r.2))] := by
  refine metW_intro (by decide) rfl ?_
  intro p e R s m args below meth c Q A hRf hRl hQ hx hb hml hr hlocks hown hts hin hE hA H locs hP hD hS ls hl
  have hown : s.vm.findClass "HallGuardsModel" = some m.cls := hown
  have hl : lv_has ls 3 [(0, .ref o)] := hl
  unfold fX9_corners at hyp
  refine lv_iconst (v := 0) hx hb dX9_corners_0 (by decide) ?_
  refine lv_istore_n (lv' := [(1, .int 0), (0, .ref o)]) hx hb dX9_corners_1 rfl hl (by decide) rfl (fun ls hl => ?_)
  refine lv_aload_n hx hb dX9_corners_2 rfl (lv_at hl 1 rfl) ?_
  obtain ⟨r_1, hr_1, hyp⟩ := opt_e hyp
  refine wV (As := []) (rest := []) ⟨hx, hb, hml, hown, hts⟩ hE (mX9_measure l g o pn pw pt pr pb pk pi pf pl pe pm px refu nst nn len pos gd ps sm fnow fway r_1 hr_1) cf_X9_measure im_X9_measure se_X9_measure ml_X9_238 ⟨Nat.le_trans (Nat.le_of_ble_eq_true rfl) hRf, Nat.le_trans (Nat.le_of_ble_eq_true rfl) hRl⟩ hP hD hS hA [0, 1, 2] [] rfl (wr := []) rfl ⟨by decide, by decide⟩ (by decide) (ci := 9) (q0 := 0) rfl rfl rfl rfl hl.1 rfl (Nat.le_of_ble_eq_true rfl) dX9_corners_3 ⟨Nat.zero_le _, Nat.zero_le _⟩ (fun H locs hP hD hS => ?_)
  have hP : va_P g.1 vwCl [(o, .inr (9, [.int refu, .ref pn, .ref pt, .ref pr, .ref pw, .ref pb, .int nst, .ref pk, .ref pi, .ref pf, .ref pl, .ref pe, .ref pm, .int nn, .ref px, .int len, .int pos, .int gd, .int ps, .int sm])), (pn, .inl (g.2.1, 61, .inl fnow)), (pw, .inl (g.2.1, 49, .inl r_1))] H := hP
  have hD : va_D A [(o, .inr (9, [.int refu, .ref pn, .ref pt, .ref pr, .ref pw, .ref pb, .int nst, .ref pk, .ref pi, .ref pf, .ref pl, .ref pe, .ref pm, .int nn, .ref px, .int len, .int pos, .int gd, .int ps, .int sm])), (pn, .inl (g.2.1, 61, .inl fnow)), (pw, .inl (g.2.1, 49, .inl r_1))] := hD
  refine lv_iconst (v := 0) hx hb dX9_corners_6 (by decide) ?_
  refine lv_istore_n (lv' := [(2, .int 0), (1, .int 0), (0, .ref o)]) hx hb dX9_corners_7 rfl hl (by decide) rfl (fun ls hl => ?_)
  refine lp_i (r := r) (fun z : Int32 × Int32 => ∀ (H : Heap) (locs : List Loc) (ls : Array Slot), lv_has ls 3 [(0, .ref o), (1, .int z.1), (2, .int z.2)] → va_P g.1 vwCl [(o, .inr (9, [.int refu, .ref pn, .ref pt, .ref pr, .ref pw, .ref pb, .int nst, .ref pk, .ref pi, .ref pf, .ref pl, .ref pe, .ref pm, .int nn, .ref px, .int len, .int pos, .int gd, .int ps, .int sm])), (pn, .inl (g.2.1, 61, .inl fnow)), (pw, .inl (g.2.1, 49, .inl r_1))] H → va_D A [(o, .inr (9, [.int refu, .ref pn, .ref pt, .ref pr, .ref pw, .ref pb, .int nst, .ref pk, .ref pi, .ref pf, .ref pl, .ref pe, .ref pm, .int nn, .ref px, .int len, .int pos, .int gd, .int ps, .int sm])), (pn, .inl (g.2.1, 61, .inl fnow)), (pw, .inl (g.2.1, 49, .inl r_1))] → va_S A s.heap H locs → W p l e R s m args below meth c H locs 0 0 Q (F0 m 8 ls [])) ?_ 64 (0, 0) hyp _ _ ls (lv_sub hl [2, 1, 0] rfl) hP hD hS
  intro self_4T ihself_4T z hyp H locs ls hl hP hD hS
  obtain ⟨v1_2, v2_3⟩ := z
  obtain ⟨self_4, eself_4⟩ : ∃ f9 : Int32 → Int32 → Option (Int32 × (Nat → Int32)), f9 = fun v1_2 v2_3 => self_4T (v1_2, v2_3) := ⟨_, rfl⟩
  have ihself_4 := fun (v1_2 : Int32) (v2_3 : Int32) (h9 : self_4 v1_2 v2_3 = some r) => ihself_4T (v1_2, v2_3) (by rw [eself_4] at h9; exact h9)
  replace hyp : fX9_corners_L8_B r_1 self_4 v1_2 v2_3 = some r := by rw [eself_4]; exact hyp
  have hl : lv_has ls 3 [(0, .ref o), (1, .int v1_2), (2, .int v2_3)] := hl
  have hP : va_P g.1 vwCl [(o, .inr (9, [.int refu, .ref pn, .ref pt, .ref pr, .ref pw, .ref pb, .int nst, .ref pk, .ref pi, .ref pf, .ref pl, .ref pe, .ref pm, .int nn, .ref px, .int len, .int pos, .int gd, .int ps, .int sm])), (pn, .inl (g.2.1, 61, .inl fnow)), (pw, .inl (g.2.1, 49, .inl r_1))] H := hP
  have hD : va_D A [(o, .inr (9, [.int refu, .ref pn, .ref pt, .ref pr, .ref pw, .ref pb, .int nst, .ref pk, .ref pi, .ref pf, .ref pl, .ref pe, .ref pm, .int nn, .ref px, .int len, .int pos, .int gd, .int ps, .int sm])), (pn, .inl (g.2.1, 61, .inl fnow)), (pw, .inl (g.2.1, 49, .inl r_1))] := hD
  show W p l e R s m args below meth c H locs 0 0 Q (F0 m 8 ls [])
  unfold fX9_corners_L8_B at hyp
  refine lv_iload_n hx hb dX9_corners_8 rfl (lv_at hl 2 rfl) ?_
  refine lv_bipush (v := 49) hx hb dX9_corners_9 (by decide) ?_
  refine lv_icmp_ge (tgt := 45) hx hb dX9_corners_11 (by decide) (fun h_5 => ?_) (fun h_5 => ?_)
  · replace hyp := ite_t h_5 hyp
    refine lv_iload_n hx hb dX9_corners_45 rfl (lv_at hl 1 rfl) ?_
    have hyp := some_e hyp
    subst hyp
    subst hQ
    exact rwI hx hb hr hlocks  hP hD hS dX9_corners_46
  · replace hyp := ite_f h_5 hyp
    refine lv_iload_n hx hb dX9_corners_14 rfl (lv_at hl 1 rfl) ?_
    refine lv_iload_n hx hb dX9_corners_15 rfl (lv_at hl 2 rfl) ?_
    obtain ⟨r_6, hr_6, hyp⟩ := opt_e hyp
    refine pS (As := [.int v2_3]) (rest := [.int v1_2]) ⟨hx, hb, hml, hown, hts⟩ hE (mX9_isCorner l g v2_3 r_6 hr_6) cf_X9_isCorner st_X9_isCorner ml_X9_68 ⟨Nat.le_trans (Nat.le_of_ble_eq_true rfl) hRf, Nat.le_trans (Nat.le_of_ble_eq_true rfl) hRl⟩ (va_P_nil) rfl hl.1 rfl (Nat.le_of_ble_eq_true rfl) dX9_corners_16 ⟨Nat.zero_le _, Nat.zero_le _⟩ ?_
    obtain ⟨J_8, eJ_8, hyp⟩ := jn_e hyp
    have kJ_8 : ∀ (t_7 : Int32) (H : Heap) (locs : List Loc) (ls : Array Slot), J_8 t_7 = some r → lv_has ls 3 [(0, .ref o), (2, .int v2_3)] → va_P g.1 vwCl [(o, .inr (9, [.int refu, .ref pn, .ref pt, .ref pr, .ref pw, .ref pb, .int nst, .ref pk, .ref pi, .ref pf, .ref pl, .ref pe, .ref pm, .int nn, .ref px, .int len, .int pos, .int gd, .int ps, .int sm])), (pn, .inl (g.2.1, 61, .inl fnow)), (pw, .inl (g.2.1, 49, .inl r_1))] H → va_D A [(o, .inr (9, [.int refu, .ref pn, .ref pt, .ref pr, .ref pw, .ref pb, .int nst, .ref pk, .ref pi, .ref pf, .ref pl, .ref pe, .ref pm, .int nn, .ref px, .int len, .int pos, .int gd, .int ps, .int sm])), (pn, .inl (g.2.1, 61, .inl fnow)), (pw, .inl (g.2.1, 49, .inl r_1))] → va_S A s.heap H locs → W p l e R s m args below meth c H locs 0 0 Q (F0 m 37 ls [.int t_7, .int v1_2]) := by
      intro t_7 H locs  ls hyp hl hP hD hS
      replace hyp := (congrFun (eJ_8) t_7).symm.trans hyp
      refine lv_iadd hx hb dX9_corners_37 ?_
      refine lv_istore_n (lv' := [(1, .int (v1_2 + t_7)), (0, .ref o), (2, .int v2_3)]) hx hb dX9_corners_38 rfl hl (by decide) rfl (fun ls hl => ?_)
      refine lv_iinc (v := v2_3 + 1) (lv' := [(2, .int (v2_3 + 1)), (1, .int (v1_2 + t_7)), (0, .ref o)]) hx hb dX9_corners_39 hl (k := 2) rfl rfl (by decide) rfl (fun ls hl => ?_)
      refine lv_goto (tgt := 8) hx hb dX9_corners_42 (by decide) ?_
      exact ihself_4 (v1_2 + t_7) (v2_3 + 1) hyp H locs ls (lv_sub hl [2, 1, 0] rfl) hP hD hS
    obtain ⟨J_9, eJ_9, hyp⟩ := jn_e hyp
    have kJ_9 : ∀ (H : Heap) (locs : List Loc) (ls : Array Slot), J_9 = some r → lv_has ls 3 [(0, .ref o), (2, .int v2_3)] → va_P g.1 vwCl [(o, .inr (9, [.int refu, .ref pn, .ref pt, .ref pr, .ref pw, .ref pb, .int nst, .ref pk, .ref pi, .ref pf, .ref pl, .ref pe, .ref pm, .int nn, .ref px, .int len, .int pos, .int gd, .int ps, .int sm])), (pn, .inl (g.2.1, 61, .inl fnow)), (pw, .inl (g.2.1, 49, .inl r_1))] H → va_D A [(o, .inr (9, [.int refu, .ref pn, .ref pt, .ref pr, .ref pw, .ref pb, .int nst, .ref pk, .ref pi, .ref pf, .ref pl, .ref pe, .ref pm, .int nn, .ref px, .int len, .int pos, .int gd, .int ps, .int sm])), (pn, .inl (g.2.1, 61, .inl fnow)), (pw, .inl (g.2.1, 49, .inl r_1))] → va_S A s.heap H locs → W p l e R s m args below meth c H locs 0 0 Q (F0 m 36 ls [.int v1_2]) := by
      intro H locs  ls hyp hl hP hD hS
      replace hyp := (eJ_9).symm.trans hyp
      refine lv_iconst (v := 0) hx hb dX9_corners_36 (by decide) ?_
      exact kJ_8 0 H locs ls hyp hl hP hD hS
    refine lv_if_eq (tgt := 36) hx hb dX9_corners_19 (by decide) (fun h_10 => ?_) (fun h_10 => ?_)
    · replace hyp := ite_t h_10 hyp
      exact kJ_9 H locs ls hyp (lv_sub hl [0, 2] rfl) hP hD hS
    · replace hyp := ite_f h_10 hyp
      refine lv_aload_n hx hb dX9_corners_22 rfl (lv_at hl 0 rfl) ?_
      refine gf_X9_19 hx hb hts hown hE hP 0 rfl rfl dX9_corners_23 ?_
      refine lv_iload_n hx hb dX9_corners_26 rfl (lv_at hl 2 rfl) ?_
      obtain ⟨hi, hyp⟩ := grd_e hyp
      refine va_iald hx hb hE.1 hP 2 0 rfl rfl (inB_vp hi) dX9_corners_27 ?_
      refine lv_iconst (v := 1) hx hb dX9_corners_28 (by decide) ?_
      refine lv_icmp_ne (tgt := 36) hx hb dX9_corners_29 (by decide) (fun h_11 => ?_) (fun h_11 => ?_)
      · replace hyp := ite_f h_11 hyp
        exact kJ_9 H locs ls hyp (lv_sub hl [0, 2] rfl) hP hD hS
      · replace hyp := ite_t h_11 hyp
        refine lv_iconst (v := 1) hx hb dX9_corners_32 (by decide) ?_
        refine lv_goto (tgt := 37) hx hb dX9_corners_33 (by decide) ?_
        exact kJ_8 1 H locs ls hyp (lv_sub hl [0, 2] rfl) hP hD hS

def fX9_reach_L8_B (r_1 : (Nat → Int32)) (self_4 : Int32 → Int32 → Option (Int32 × (Nat → Int32))) (v1_2 : Int32) (v2_3 : Int32) : Option (Int32 × (Nat → Int32)) :=
  if 49 ≤ v2_3 then (some (v1_2, r_1)) else (grd (inB v2_3 49) (jn (fun (t_6 : Int32) => self_4 (v1_2 + t_6) (v2_3 + 1)) (fun J_7 => if (r_1 v2_3.toNatClampNeg) ≤ 0 then (J_7 0) else (J_7 1))))
def fX9_reach_L8 (r_1 : (Nat → Int32)) (n : Nat) (v1_2 : Int32) (v2_3 : Int32) : Option (Int32 × (Nat → Int32)) := lp (fun zf z => fX9_reach_L8_B r_1 (fun v1_2 v2_3 => zf (v1_2, v2_3)) z.1 z.2) n (v1_2, v2_3)
def fX9_reach (fnow : Nat → Int32) (fway : Nat → Int32) : Option (Int32 × (Nat → Int32)) :=
  (fX9_measure fnow fway).bind (fun (r_1 : (Nat → Int32)) => fX9_reach_L8 r_1 64 0 0)
set_option maxRecDepth 100000 in
set_option maxHeartbeats 4000000 in
theorem mX9_reach (l : Launch) (g : GE) (o pn pw pt pr pb pk pi pf pl pe pm px : Nat) (refu : Int32) (nst : Int32) (nn : Int32) (len : Int32) (pos : Int32) (gd : Int32) (ps : Int32) (sm : Int32) (fnow : Nat → Int32) (fway : Nat → Int32) (r : Int32 × (Nat → Int32)) (hyp : fX9_reach fnow fway = some r) : WM l yX9_reach cX9_reach 3 (some .int) 4 94 g [(o, .inr (9, [.int refu, .ref pn, .ref pt, .ref pr, .ref pw, .ref pb, .int nst, .ref pk, .ref pi, .ref pf, .ref pl, .ref pe, .ref pm, .int nn, .ref px, .int len, .int pos, .int gd, .int ps, .int sm])), (pn, .inl (g.2.1, 61, .inl fnow)), (pw, .inl (g.2.1, 49, .inl fway))] [.ref o] (some (.int r.1)) [(o, .inr (9, [.int refu, .ref pn, .ref pt, .ref pr, .ref pw, .ref pb, .int nst, .ref pk, .ref pi, .ref pf, .ref pl, .ref pe, .ref pm, .int nn, .ref px, .int len, .int pos, .int gd, .int ps, .int sm])), (pn, .inl (g.2.1, 61, .inl fnow)), (pw, .inl (g.2.1, 49, .inl r.2))] := by
  refine metW_intro (by decide) rfl ?_
  intro p e R s m args below meth c Q A hRf hRl hQ hx hb hml hr hlocks hown hts hin hE hA H locs hP hD hS ls hl
  have hown : s.vm.findClass "HallGuardsModel" = some m.cls := hown
  have hl : lv_has ls 3 [(0, .ref o)] := hl
  unfold fX9_reach at hyp
  refine lv_iconst (v := 0) hx hb dX9_reach_0 (by decide) ?_
  refine lv_istore_n (lv' := [(1, .int 0), (0, .ref o)]) hx hb dX9_reach_1 rfl hl (by decide) rfl (fun ls hl => ?_)
  refine lv_aload_n hx hb dX9_reach_2 rfl (lv_at hl 1 rfl) ?_
  obtain ⟨r_1, hr_1, hyp⟩ := opt_e hyp
  refine wV (As := []) (rest := []) ⟨hx, hb, hml, hown, hts⟩ hE (mX9_measure l g o pn pw pt pr pb pk pi pf pl pe pm px refu nst nn len pos gd ps sm fnow fway r_1 hr_1) cf_X9_measure im_X9_measure se_X9_measure ml_X9_238 ⟨Nat.le_trans (Nat.le_of_ble_eq_true rfl) hRf, Nat.le_trans (Nat.le_of_ble_eq_true rfl) hRl⟩ hP hD hS hA [0, 1, 2] [] rfl (wr := []) rfl ⟨by decide, by decide⟩ (by decide) (ci := 9) (q0 := 0) rfl rfl rfl rfl hl.1 rfl (Nat.le_of_ble_eq_true rfl) dX9_reach_3 ⟨Nat.zero_le _, Nat.zero_le _⟩ (fun H locs hP hD hS => ?_)
  have hP : va_P g.1 vwCl [(o, .inr (9, [.int refu, .ref pn, .ref pt, .ref pr, .ref pw, .ref pb, .int nst, .ref pk, .ref pi, .ref pf, .ref pl, .ref pe, .ref pm, .int nn, .ref px, .int len, .int pos, .int gd, .int ps, .int sm])), (pn, .inl (g.2.1, 61, .inl fnow)), (pw, .inl (g.2.1, 49, .inl r_1))] H := hP
  have hD : va_D A [(o, .inr (9, [.int refu, .ref pn, .ref pt, .ref pr, .ref pw, .ref pb, .int nst, .ref pk, .ref pi, .ref pf, .ref pl, .ref pe, .ref pm, .int nn, .ref px, .int len, .int pos, .int gd, .int ps, .int sm])), (pn, .inl (g.2.1, 61, .inl fnow)), (pw, .inl (g.2.1, 49, .inl r_1))] := hD
  refine lv_iconst (v := 0) hx hb dX9_reach_6 (by decide) ?_
  refine lv_istore_n (lv' := [(2, .int 0), (1, .int 0), (0, .ref o)]) hx hb dX9_reach_7 rfl hl (by decide) rfl (fun ls hl => ?_)
  refine lp_i (r := r) (fun z : Int32 × Int32 => ∀ (H : Heap) (locs : List Loc) (ls : Array Slot), lv_has ls 3 [(0, .ref o), (1, .int z.1), (2, .int z.2)] → va_P g.1 vwCl [(o, .inr (9, [.int refu, .ref pn, .ref pt, .ref pr, .ref pw, .ref pb, .int nst, .ref pk, .ref pi, .ref pf, .ref pl, .ref pe, .ref pm, .int nn, .ref px, .int len, .int pos, .int gd, .int ps, .int sm])), (pn, .inl (g.2.1, 61, .inl fnow)), (pw, .inl (g.2.1, 49, .inl r_1))] H → va_D A [(o, .inr (9, [.int refu, .ref pn, .ref pt, .ref pr, .ref pw, .ref pb, .int nst, .ref pk, .ref pi, .ref pf, .ref pl, .ref pe, .ref pm, .int nn, .ref px, .int len, .int pos, .int gd, .int ps, .int sm])), (pn, .inl (g.2.1, 61, .inl fnow)), (pw, .inl (g.2.1, 49, .inl r_1))] → va_S A s.heap H locs → W p l e R s m args below meth c H locs 0 0 Q (F0 m 8 ls [])) ?_ 64 (0, 0) hyp _ _ ls (lv_sub hl [2, 1, 0] rfl) hP hD hS
  intro self_4T ihself_4T z hyp H locs ls hl hP hD hS
  obtain ⟨v1_2, v2_3⟩ := z
  obtain ⟨self_4, eself_4⟩ : ∃ f9 : Int32 → Int32 → Option (Int32 × (Nat → Int32)), f9 = fun v1_2 v2_3 => self_4T (v1_2, v2_3) := ⟨_, rfl⟩
  have ihself_4 := fun (v1_2 : Int32) (v2_3 : Int32) (h9 : self_4 v1_2 v2_3 = some r) => ihself_4T (v1_2, v2_3) (by rw [eself_4] at h9; exact h9)
  replace hyp : fX9_reach_L8_B r_1 self_4 v1_2 v2_3 = some r := by rw [eself_4]; exact hyp
  have hl : lv_has ls 3 [(0, .ref o), (1, .int v1_2), (2, .int v2_3)] := hl
  have hP : va_P g.1 vwCl [(o, .inr (9, [.int refu, .ref pn, .ref pt, .ref pr, .ref pw, .ref pb, .int nst, .ref pk, .ref pi, .ref pf, .ref pl, .ref pe, .ref pm, .int nn, .ref px, .int len, .int pos, .int gd, .int ps, .int sm])), (pn, .inl (g.2.1, 61, .inl fnow)), (pw, .inl (g.2.1, 49, .inl r_1))] H := hP
  have hD : va_D A [(o, .inr (9, [.int refu, .ref pn, .ref pt, .ref pr, .ref pw, .ref pb, .int nst, .ref pk, .ref pi, .ref pf, .ref pl, .ref pe, .ref pm, .int nn, .ref px, .int len, .int pos, .int gd, .int ps, .int sm])), (pn, .inl (g.2.1, 61, .inl fnow)), (pw, .inl (g.2.1, 49, .inl r_1))] := hD
  show W p l e R s m args below meth c H locs 0 0 Q (F0 m 8 ls [])
  unfold fX9_reach_L8_B at hyp
  refine lv_iload_n hx hb dX9_reach_8 rfl (lv_at hl 2 rfl) ?_
  refine lv_bipush (v := 49) hx hb dX9_reach_9 (by decide) ?_
  refine lv_icmp_ge (tgt := 37) hx hb dX9_reach_11 (by decide) (fun h_5 => ?_) (fun h_5 => ?_)
  · replace hyp := ite_t h_5 hyp
    refine lv_iload_n hx hb dX9_reach_37 rfl (lv_at hl 1 rfl) ?_
    have hyp := some_e hyp
    subst hyp
    subst hQ
    exact rwI hx hb hr hlocks  hP hD hS dX9_reach_38
  · replace hyp := ite_f h_5 hyp
    refine lv_iload_n hx hb dX9_reach_14 rfl (lv_at hl 1 rfl) ?_
    refine lv_aload_n hx hb dX9_reach_15 rfl (lv_at hl 0 rfl) ?_
    refine gf_X9_19 hx hb hts hown hE hP 0 rfl rfl dX9_reach_16 ?_
    refine lv_iload_n hx hb dX9_reach_19 rfl (lv_at hl 2 rfl) ?_
    obtain ⟨hi, hyp⟩ := grd_e hyp
    refine va_iald hx hb hE.1 hP 2 0 rfl rfl (inB_vp hi) dX9_reach_20 ?_
    obtain ⟨J_7, eJ_7, hyp⟩ := jn_e hyp
    have kJ_7 : ∀ (t_6 : Int32) (H : Heap) (locs : List Loc) (ls : Array Slot), J_7 t_6 = some r → lv_has ls 3 [(0, .ref o), (2, .int v2_3)] → va_P g.1 vwCl [(o, .inr (9, [.int refu, .ref pn, .ref pt, .ref pr, .ref pw, .ref pb, .int nst, .ref pk, .ref pi, .ref pf, .ref pl, .ref pe, .ref pm, .int nn, .ref px, .int len, .int pos, .int gd, .int ps, .int sm])), (pn, .inl (g.2.1, 61, .inl fnow)), (pw, .inl (g.2.1, 49, .inl r_1))] H → va_D A [(o, .inr (9, [.int refu, .ref pn, .ref pt, .ref pr, .ref pw, .ref pb, .int nst, .ref pk, .ref pi, .ref pf, .ref pl, .ref pe, .ref pm, .int nn, .ref px, .int len, .int pos, .int gd, .int ps, .int sm])), (pn, .inl (g.2.1, 61, .inl fnow)), (pw, .inl (g.2.1, 49, .inl r_1))] → va_S A s.heap H locs → W p l e R s m args below meth c H locs 0 0 Q (F0 m 29 ls [.int t_6, .int v1_2]) := by
      intro t_6 H locs  ls hyp hl hP hD hS
      replace hyp := (congrFun (eJ_7) t_6).symm.trans hyp
      refine lv_iadd hx hb dX9_reach_29 ?_
      refine lv_istore_n (lv' := [(1, .int (v1_2 + t_6)), (0, .ref o), (2, .int v2_3)]) hx hb dX9_reach_30 rfl hl (by decide) rfl (fun ls hl => ?_)
      refine lv_iinc (v := v2_3 + 1) (lv' := [(2, .int (v2_3 + 1)), (1, .int (v1_2 + t_6)), (0, .ref o)]) hx hb dX9_reach_31 hl (k := 2) rfl rfl (by decide) rfl (fun ls hl => ?_)
      refine lv_goto (tgt := 8) hx hb dX9_reach_34 (by decide) ?_
      exact ihself_4 (v1_2 + t_6) (v2_3 + 1) hyp H locs ls (lv_sub hl [2, 1, 0] rfl) hP hD hS
    refine lv_if_le (tgt := 28) hx hb dX9_reach_21 (by decide) (fun h_8 => ?_) (fun h_8 => ?_)
    · replace hyp := ite_t h_8 hyp
      refine lv_iconst (v := 0) hx hb dX9_reach_28 (by decide) ?_
      exact kJ_7 0 H locs ls hyp (lv_sub hl [0, 2] rfl) hP hD hS
    · replace hyp := ite_f h_8 hyp
      refine lv_iconst (v := 1) hx hb dX9_reach_24 (by decide) ?_
      refine lv_goto (tgt := 29) hx hb dX9_reach_25 (by decide) ?_
      exact kJ_7 1 H locs ls hyp (lv_sub hl [0, 2] rfl) hP hD hS

def fX9_kingMovesByRounds (fnow : Nat → Int32) (fway : Nat → Int32) : Option (Int32 × Int32 × (Nat → Int32)) :=
  (fX9_kingMoves fnow fway).bind (fun (r_1 : Int32 × (Nat → Int32)) => jn (fun (t_2 : Int32) => (fX9_refused t_2).bind (fun (r_4 : Int32 × Int32) => if r_4.1 = 0 then ((fX9_kingMoves fnow r_1.2).bind (fun (r_6 : Int32 × (Nat → Int32)) => some (r_6.1, r_4.2, r_6.2))) else (some (0, r_4.2, r_1.2)))) (fun J_3 => if r_1.1 = (-1) then (J_3 1) else (J_3 0)))
set_option maxRecDepth 100000 in
set_option maxHeartbeats 4000000 in
theorem mX9_kingMovesByRounds (l : Launch) (g : GE) (o pn pw pt pr pb pk pi pf pl pe pm px : Nat) (refu : Int32) (nst : Int32) (nn : Int32) (len : Int32) (pos : Int32) (gd : Int32) (ps : Int32) (sm : Int32) (fnow : Nat → Int32) (fway : Nat → Int32) (r : Int32 × Int32 × (Nat → Int32)) (hyp : fX9_kingMovesByRounds fnow fway = some r) : WM l yX9_kingMovesByRounds cX9_kingMovesByRounds 1 (some .int) 5 117 g [(o, .inr (9, [.int refu, .ref pn, .ref pt, .ref pr, .ref pw, .ref pb, .int nst, .ref pk, .ref pi, .ref pf, .ref pl, .ref pe, .ref pm, .int nn, .ref px, .int len, .int pos, .int gd, .int ps, .int sm])), (pn, .inl (g.2.1, 61, .inl fnow)), (pw, .inl (g.2.1, 49, .inl fway))] [.ref o] (some (.int r.1)) [(o, .inr (9, [.int r.2.1, .ref pn, .ref pt, .ref pr, .ref pw, .ref pb, .int nst, .ref pk, .ref pi, .ref pf, .ref pl, .ref pe, .ref pm, .int nn, .ref px, .int len, .int pos, .int gd, .int ps, .int sm])), (pn, .inl (g.2.1, 61, .inl fnow)), (pw, .inl (g.2.1, 49, .inl r.2.2))] := by
  refine metW_intro (by decide) rfl ?_
  intro p e R s m args below meth c Q A hRf hRl hQ hx hb hml hr hlocks hown hts hin hE hA H locs hP hD hS ls hl
  have hown : s.vm.findClass "HallGuardsModel" = some m.cls := hown
  have hl : lv_has ls 1 [(0, .ref o)] := hl
  unfold fX9_kingMovesByRounds at hyp
  refine lv_aload_n hx hb dX9_kingMovesByRounds_0 rfl (lv_at hl 0 rfl) ?_
  refine lv_aload_n hx hb dX9_kingMovesByRounds_1 rfl (lv_at hl 0 rfl) ?_
  obtain ⟨r_1, hr_1, hyp⟩ := opt_e hyp
  refine wV (As := []) (rest := [.ref o]) ⟨hx, hb, hml, hown, hts⟩ hE (mX9_kingMoves l g o pn pw pt pr pb pk pi pf pl pe pm px refu nst nn len pos gd ps sm fnow fway r_1 hr_1) cf_X9_kingMoves im_X9_kingMoves se_X9_kingMoves ml_X9_241 ⟨Nat.le_trans (Nat.le_of_ble_eq_true rfl) hRf, Nat.le_trans (Nat.le_of_ble_eq_true rfl) hRl⟩ hP hD hS hA [0, 1, 2] [] rfl (wr := []) rfl ⟨by decide, by decide⟩ (by decide) (ci := 9) (q0 := 0) rfl rfl rfl rfl hl.1 rfl (Nat.le_of_ble_eq_true rfl) dX9_kingMovesByRounds_2 ⟨Nat.zero_le _, Nat.zero_le _⟩ (fun H locs hP hD hS => ?_)
  have hP : va_P g.1 vwCl [(o, .inr (9, [.int refu, .ref pn, .ref pt, .ref pr, .ref pw, .ref pb, .int nst, .ref pk, .ref pi, .ref pf, .ref pl, .ref pe, .ref pm, .int nn, .ref px, .int len, .int pos, .int gd, .int ps, .int sm])), (pn, .inl (g.2.1, 61, .inl fnow)), (pw, .inl (g.2.1, 49, .inl r_1.2))] H := hP
  have hD : va_D A [(o, .inr (9, [.int refu, .ref pn, .ref pt, .ref pr, .ref pw, .ref pb, .int nst, .ref pk, .ref pi, .ref pf, .ref pl, .ref pe, .ref pm, .int nn, .ref px, .int len, .int pos, .int gd, .int ps, .int sm])), (pn, .inl (g.2.1, 61, .inl fnow)), (pw, .inl (g.2.1, 49, .inl r_1.2))] := hD
  refine lv_iconst (v := (-1)) hx hb dX9_kingMovesByRounds_5 (by decide) ?_
  obtain ⟨J_3, eJ_3, hyp⟩ := jn_e hyp
  have kJ_3 : ∀ (t_2 : Int32) (H : Heap) (locs : List Loc) (ls : Array Slot), J_3 t_2 = some r → lv_has ls 1 [(0, .ref o)] → va_P g.1 vwCl [(o, .inr (9, [.int refu, .ref pn, .ref pt, .ref pr, .ref pw, .ref pb, .int nst, .ref pk, .ref pi, .ref pf, .ref pl, .ref pe, .ref pm, .int nn, .ref px, .int len, .int pos, .int gd, .int ps, .int sm])), (pn, .inl (g.2.1, 61, .inl fnow)), (pw, .inl (g.2.1, 49, .inl r_1.2))] H → va_D A [(o, .inr (9, [.int refu, .ref pn, .ref pt, .ref pr, .ref pw, .ref pb, .int nst, .ref pk, .ref pi, .ref pf, .ref pl, .ref pe, .ref pm, .int nn, .ref px, .int len, .int pos, .int gd, .int ps, .int sm])), (pn, .inl (g.2.1, 61, .inl fnow)), (pw, .inl (g.2.1, 49, .inl r_1.2))] → va_S A s.heap H locs → W p l e R s m args below meth c H locs 0 0 Q (F0 m 14 ls [.int t_2, .ref o]) := by
    intro t_2 H locs  ls hyp hl hP hD hS
    replace hyp := (congrFun (eJ_3) t_2).symm.trans hyp
    obtain ⟨r_4, hr_4, hyp⟩ := opt_e hyp
    refine wV (As := [.int t_2]) (rest := []) ⟨hx, hb, hml, hown, hts⟩ hE (mX9_refused l g o pn pt pr pw pb pk pi pf pl pe pm px refu nst nn len pos gd ps sm t_2 r_4 hr_4) cf_X9_refused im_X9_refused se_X9_refused ml_X9_153 ⟨Nat.le_trans (Nat.le_of_ble_eq_true rfl) hRf, Nat.le_trans (Nat.le_of_ble_eq_true rfl) hRl⟩ hP hD hS hA [0] [1, 2] rfl (wr := [(pn, .inl (g.2.1, 61, .inl fnow)), (pw, .inl (g.2.1, 49, .inl r_1.2))]) rfl ⟨by decide, by decide⟩ (by decide) (ci := 9) (q0 := 0) rfl rfl rfl rfl hl.1 rfl (Nat.le_of_ble_eq_true rfl) dX9_kingMovesByRounds_14 ⟨Nat.zero_le _, Nat.zero_le _⟩ (fun H locs hP hD hS => ?_)
    have hP : va_P g.1 vwCl [(pn, .inl (g.2.1, 61, .inl fnow)), (pw, .inl (g.2.1, 49, .inl r_1.2)), (o, .inr (9, [.int r_4.2, .ref pn, .ref pt, .ref pr, .ref pw, .ref pb, .int nst, .ref pk, .ref pi, .ref pf, .ref pl, .ref pe, .ref pm, .int nn, .ref px, .int len, .int pos, .int gd, .int ps, .int sm]))] H := hP
    have hD : va_D A [(pn, .inl (g.2.1, 61, .inl fnow)), (pw, .inl (g.2.1, 49, .inl r_1.2)), (o, .inr (9, [.int r_4.2, .ref pn, .ref pt, .ref pr, .ref pw, .ref pb, .int nst, .ref pk, .ref pi, .ref pf, .ref pl, .ref pe, .ref pm, .int nn, .ref px, .int len, .int pos, .int gd, .int ps, .int sm]))] := hD
    refine lv_if_eq (tgt := 24) hx hb dX9_kingMovesByRounds_17 (by decide) (fun h_5 => ?_) (fun h_5 => ?_)
    · replace hyp := ite_t h_5 hyp
      refine lv_aload_n hx hb dX9_kingMovesByRounds_24 rfl (lv_at hl 0 rfl) ?_
      obtain ⟨r_6, hr_6, hyp⟩ := opt_e hyp
      refine wV (As := []) (rest := []) ⟨hx, hb, hml, hown, hts⟩ hE (mX9_kingMoves l g o pn pw pt pr pb pk pi pf pl pe pm px r_4.2 nst nn len pos gd ps sm fnow r_1.2 r_6 hr_6) cf_X9_kingMoves im_X9_kingMoves se_X9_kingMoves ml_X9_241 ⟨Nat.le_trans (Nat.le_of_ble_eq_true rfl) hRf, Nat.le_trans (Nat.le_of_ble_eq_true rfl) hRl⟩ hP hD hS hA [2, 0, 1] [] rfl (wr := []) rfl ⟨by decide, by decide⟩ (by decide) (ci := 9) (q0 := 0) rfl rfl rfl rfl hl.1 rfl (Nat.le_of_ble_eq_true rfl) dX9_kingMovesByRounds_25 ⟨Nat.zero_le _, Nat.zero_le _⟩ (fun H locs hP hD hS => ?_)
      have hP : va_P g.1 vwCl [(o, .inr (9, [.int r_4.2, .ref pn, .ref pt, .ref pr, .ref pw, .ref pb, .int nst, .ref pk, .ref pi, .ref pf, .ref pl, .ref pe, .ref pm, .int nn, .ref px, .int len, .int pos, .int gd, .int ps, .int sm])), (pn, .inl (g.2.1, 61, .inl fnow)), (pw, .inl (g.2.1, 49, .inl r_6.2))] H := hP
      have hD : va_D A [(o, .inr (9, [.int r_4.2, .ref pn, .ref pt, .ref pr, .ref pw, .ref pb, .int nst, .ref pk, .ref pi, .ref pf, .ref pl, .ref pe, .ref pm, .int nn, .ref px, .int len, .int pos, .int gd, .int ps, .int sm])), (pn, .inl (g.2.1, 61, .inl fnow)), (pw, .inl (g.2.1, 49, .inl r_6.2))] := hD
      have hyp := some_e hyp
      subst hyp
      subst hQ
      exact rwI hx hb hr hlocks  hP hD hS dX9_kingMovesByRounds_28
    · replace hyp := ite_f h_5 hyp
      refine lv_iconst (v := 0) hx hb dX9_kingMovesByRounds_20 (by decide) ?_
      refine lv_goto (tgt := 28) hx hb dX9_kingMovesByRounds_21 (by decide) ?_
      have hP : va_P g.1 vwCl [(o, .inr (9, [.int r_4.2, .ref pn, .ref pt, .ref pr, .ref pw, .ref pb, .int nst, .ref pk, .ref pi, .ref pf, .ref pl, .ref pe, .ref pm, .int nn, .ref px, .int len, .int pos, .int gd, .int ps, .int sm])), (pn, .inl (g.2.1, 61, .inl fnow)), (pw, .inl (g.2.1, 49, .inl r_1.2))] H := hP.sub [2, 0, 1] rfl
      have hD : va_D A [(o, .inr (9, [.int r_4.2, .ref pn, .ref pt, .ref pr, .ref pw, .ref pb, .int nst, .ref pk, .ref pi, .ref pf, .ref pl, .ref pe, .ref pm, .int nn, .ref px, .int len, .int pos, .int gd, .int ps, .int sm])), (pn, .inl (g.2.1, 61, .inl fnow)), (pw, .inl (g.2.1, 49, .inl r_1.2))] := hD.sub [2, 0, 1] (by decide) rfl
      have hyp := some_e hyp
      subst hyp
      subst hQ
      exact rwI hx hb hr hlocks  hP hD hS dX9_kingMovesByRounds_28
  refine lv_icmp_ne (tgt := 13) hx hb dX9_kingMovesByRounds_6 (by decide) (fun h_7 => ?_) (fun h_7 => ?_)
  · replace hyp := ite_f h_7 hyp
    refine lv_iconst (v := 0) hx hb dX9_kingMovesByRounds_13 (by decide) ?_
    exact kJ_3 0 H locs ls hyp hl hP hD hS
  · replace hyp := ite_t h_7 hyp
    refine lv_iconst (v := 1) hx hb dX9_kingMovesByRounds_9 (by decide) ?_
    refine lv_goto (tgt := 14) hx hb dX9_kingMovesByRounds_10 (by decide) ?_
    exact kJ_3 1 H locs ls hyp hl hP hD hS

def fX9_kingMovesByCorners (fnow : Nat → Int32) (fway : Nat → Int32) : Option (Int32 × Int32 × (Nat → Int32)) :=
  (fX9_kingMoves fnow fway).bind (fun (r_1 : Int32 × (Nat → Int32)) => jn (fun (t_2 : Int32) => (fX9_refused t_2).bind (fun (r_4 : Int32 × Int32) => if r_4.1 = 0 then ((fX9_kingMoves fnow r_1.2).bind (fun (r_6 : Int32 × (Nat → Int32)) => some (r_6.1, r_4.2, r_6.2))) else (some (0, r_4.2, r_1.2)))) (fun J_3 => if r_1.1 = (-1) then (J_3 1) else (J_3 0)))
set_option maxRecDepth 100000 in
set_option maxHeartbeats 4000000 in
theorem mX9_kingMovesByCorners (l : Launch) (g : GE) (o pn pw pt pr pb pk pi pf pl pe pm px : Nat) (refu : Int32) (nst : Int32) (nn : Int32) (len : Int32) (pos : Int32) (gd : Int32) (ps : Int32) (sm : Int32) (fnow : Nat → Int32) (fway : Nat → Int32) (r : Int32 × Int32 × (Nat → Int32)) (hyp : fX9_kingMovesByCorners fnow fway = some r) : WM l yX9_kingMovesByCorners cX9_kingMovesByCorners 1 (some .int) 5 117 g [(o, .inr (9, [.int refu, .ref pn, .ref pt, .ref pr, .ref pw, .ref pb, .int nst, .ref pk, .ref pi, .ref pf, .ref pl, .ref pe, .ref pm, .int nn, .ref px, .int len, .int pos, .int gd, .int ps, .int sm])), (pn, .inl (g.2.1, 61, .inl fnow)), (pw, .inl (g.2.1, 49, .inl fway))] [.ref o] (some (.int r.1)) [(o, .inr (9, [.int r.2.1, .ref pn, .ref pt, .ref pr, .ref pw, .ref pb, .int nst, .ref pk, .ref pi, .ref pf, .ref pl, .ref pe, .ref pm, .int nn, .ref px, .int len, .int pos, .int gd, .int ps, .int sm])), (pn, .inl (g.2.1, 61, .inl fnow)), (pw, .inl (g.2.1, 49, .inl r.2.2))] := by
  refine metW_intro (by decide) rfl ?_
  intro p e R s m args below meth c Q A hRf hRl hQ hx hb hml hr hlocks hown hts hin hE hA H locs hP hD hS ls hl
  have hown : s.vm.findClass "HallGuardsModel" = some m.cls := hown
  have hl : lv_has ls 1 [(0, .ref o)] := hl
  unfold fX9_kingMovesByCorners at hyp
  refine lv_aload_n hx hb dX9_kingMovesByCorners_0 rfl (lv_at hl 0 rfl) ?_
  refine lv_aload_n hx hb dX9_kingMovesByCorners_1 rfl (lv_at hl 0 rfl) ?_
  obtain ⟨r_1, hr_1, hyp⟩ := opt_e hyp
  refine wV (As := []) (rest := [.ref o]) ⟨hx, hb, hml, hown, hts⟩ hE (mX9_kingMoves l g o pn pw pt pr pb pk pi pf pl pe pm px refu nst nn len pos gd ps sm fnow fway r_1 hr_1) cf_X9_kingMoves im_X9_kingMoves se_X9_kingMoves ml_X9_241 ⟨Nat.le_trans (Nat.le_of_ble_eq_true rfl) hRf, Nat.le_trans (Nat.le_of_ble_eq_true rfl) hRl⟩ hP hD hS hA [0, 1, 2] [] rfl (wr := []) rfl ⟨by decide, by decide⟩ (by decide) (ci := 9) (q0 := 0) rfl rfl rfl rfl hl.1 rfl (Nat.le_of_ble_eq_true rfl) dX9_kingMovesByCorners_2 ⟨Nat.zero_le _, Nat.zero_le _⟩ (fun H locs hP hD hS => ?_)
  have hP : va_P g.1 vwCl [(o, .inr (9, [.int refu, .ref pn, .ref pt, .ref pr, .ref pw, .ref pb, .int nst, .ref pk, .ref pi, .ref pf, .ref pl, .ref pe, .ref pm, .int nn, .ref px, .int len, .int pos, .int gd, .int ps, .int sm])), (pn, .inl (g.2.1, 61, .inl fnow)), (pw, .inl (g.2.1, 49, .inl r_1.2))] H := hP
  have hD : va_D A [(o, .inr (9, [.int refu, .ref pn, .ref pt, .ref pr, .ref pw, .ref pb, .int nst, .ref pk, .ref pi, .ref pf, .ref pl, .ref pe, .ref pm, .int nn, .ref px, .int len, .int pos, .int gd, .int ps, .int sm])), (pn, .inl (g.2.1, 61, .inl fnow)), (pw, .inl (g.2.1, 49, .inl r_1.2))] := hD
  refine lv_iconst (v := (-1)) hx hb dX9_kingMovesByCorners_5 (by decide) ?_
  obtain ⟨J_3, eJ_3, hyp⟩ := jn_e hyp
  have kJ_3 : ∀ (t_2 : Int32) (H : Heap) (locs : List Loc) (ls : Array Slot), J_3 t_2 = some r → lv_has ls 1 [(0, .ref o)] → va_P g.1 vwCl [(o, .inr (9, [.int refu, .ref pn, .ref pt, .ref pr, .ref pw, .ref pb, .int nst, .ref pk, .ref pi, .ref pf, .ref pl, .ref pe, .ref pm, .int nn, .ref px, .int len, .int pos, .int gd, .int ps, .int sm])), (pn, .inl (g.2.1, 61, .inl fnow)), (pw, .inl (g.2.1, 49, .inl r_1.2))] H → va_D A [(o, .inr (9, [.int refu, .ref pn, .ref pt, .ref pr, .ref pw, .ref pb, .int nst, .ref pk, .ref pi, .ref pf, .ref pl, .ref pe, .ref pm, .int nn, .ref px, .int len, .int pos, .int gd, .int ps, .int sm])), (pn, .inl (g.2.1, 61, .inl fnow)), (pw, .inl (g.2.1, 49, .inl r_1.2))] → va_S A s.heap H locs → W p l e R s m args below meth c H locs 0 0 Q (F0 m 14 ls [.int t_2, .ref o]) := by
    intro t_2 H locs  ls hyp hl hP hD hS
    replace hyp := (congrFun (eJ_3) t_2).symm.trans hyp
    obtain ⟨r_4, hr_4, hyp⟩ := opt_e hyp
    refine wV (As := [.int t_2]) (rest := []) ⟨hx, hb, hml, hown, hts⟩ hE (mX9_refused l g o pn pt pr pw pb pk pi pf pl pe pm px refu nst nn len pos gd ps sm t_2 r_4 hr_4) cf_X9_refused im_X9_refused se_X9_refused ml_X9_153 ⟨Nat.le_trans (Nat.le_of_ble_eq_true rfl) hRf, Nat.le_trans (Nat.le_of_ble_eq_true rfl) hRl⟩ hP hD hS hA [0] [1, 2] rfl (wr := [(pn, .inl (g.2.1, 61, .inl fnow)), (pw, .inl (g.2.1, 49, .inl r_1.2))]) rfl ⟨by decide, by decide⟩ (by decide) (ci := 9) (q0 := 0) rfl rfl rfl rfl hl.1 rfl (Nat.le_of_ble_eq_true rfl) dX9_kingMovesByCorners_14 ⟨Nat.zero_le _, Nat.zero_le _⟩ (fun H locs hP hD hS => ?_)
    have hP : va_P g.1 vwCl [(pn, .inl (g.2.1, 61, .inl fnow)), (pw, .inl (g.2.1, 49, .inl r_1.2)), (o, .inr (9, [.int r_4.2, .ref pn, .ref pt, .ref pr, .ref pw, .ref pb, .int nst, .ref pk, .ref pi, .ref pf, .ref pl, .ref pe, .ref pm, .int nn, .ref px, .int len, .int pos, .int gd, .int ps, .int sm]))] H := hP
    have hD : va_D A [(pn, .inl (g.2.1, 61, .inl fnow)), (pw, .inl (g.2.1, 49, .inl r_1.2)), (o, .inr (9, [.int r_4.2, .ref pn, .ref pt, .ref pr, .ref pw, .ref pb, .int nst, .ref pk, .ref pi, .ref pf, .ref pl, .ref pe, .ref pm, .int nn, .ref px, .int len, .int pos, .int gd, .int ps, .int sm]))] := hD
    refine lv_if_eq (tgt := 24) hx hb dX9_kingMovesByCorners_17 (by decide) (fun h_5 => ?_) (fun h_5 => ?_)
    · replace hyp := ite_t h_5 hyp
      refine lv_aload_n hx hb dX9_kingMovesByCorners_24 rfl (lv_at hl 0 rfl) ?_
      obtain ⟨r_6, hr_6, hyp⟩ := opt_e hyp
      refine wV (As := []) (rest := []) ⟨hx, hb, hml, hown, hts⟩ hE (mX9_kingMoves l g o pn pw pt pr pb pk pi pf pl pe pm px r_4.2 nst nn len pos gd ps sm fnow r_1.2 r_6 hr_6) cf_X9_kingMoves im_X9_kingMoves se_X9_kingMoves ml_X9_241 ⟨Nat.le_trans (Nat.le_of_ble_eq_true rfl) hRf, Nat.le_trans (Nat.le_of_ble_eq_true rfl) hRl⟩ hP hD hS hA [2, 0, 1] [] rfl (wr := []) rfl ⟨by decide, by decide⟩ (by decide) (ci := 9) (q0 := 0) rfl rfl rfl rfl hl.1 rfl (Nat.le_of_ble_eq_true rfl) dX9_kingMovesByCorners_25 ⟨Nat.zero_le _, Nat.zero_le _⟩ (fun H locs hP hD hS => ?_)
      have hP : va_P g.1 vwCl [(o, .inr (9, [.int r_4.2, .ref pn, .ref pt, .ref pr, .ref pw, .ref pb, .int nst, .ref pk, .ref pi, .ref pf, .ref pl, .ref pe, .ref pm, .int nn, .ref px, .int len, .int pos, .int gd, .int ps, .int sm])), (pn, .inl (g.2.1, 61, .inl fnow)), (pw, .inl (g.2.1, 49, .inl r_6.2))] H := hP
      have hD : va_D A [(o, .inr (9, [.int r_4.2, .ref pn, .ref pt, .ref pr, .ref pw, .ref pb, .int nst, .ref pk, .ref pi, .ref pf, .ref pl, .ref pe, .ref pm, .int nn, .ref px, .int len, .int pos, .int gd, .int ps, .int sm])), (pn, .inl (g.2.1, 61, .inl fnow)), (pw, .inl (g.2.1, 49, .inl r_6.2))] := hD
      have hyp := some_e hyp
      subst hyp
      subst hQ
      exact rwI hx hb hr hlocks  hP hD hS dX9_kingMovesByCorners_28
    · replace hyp := ite_f h_5 hyp
      refine lv_iconst (v := 0) hx hb dX9_kingMovesByCorners_20 (by decide) ?_
      refine lv_goto (tgt := 28) hx hb dX9_kingMovesByCorners_21 (by decide) ?_
      have hP : va_P g.1 vwCl [(o, .inr (9, [.int r_4.2, .ref pn, .ref pt, .ref pr, .ref pw, .ref pb, .int nst, .ref pk, .ref pi, .ref pf, .ref pl, .ref pe, .ref pm, .int nn, .ref px, .int len, .int pos, .int gd, .int ps, .int sm])), (pn, .inl (g.2.1, 61, .inl fnow)), (pw, .inl (g.2.1, 49, .inl r_1.2))] H := hP.sub [2, 0, 1] rfl
      have hD : va_D A [(o, .inr (9, [.int r_4.2, .ref pn, .ref pt, .ref pr, .ref pw, .ref pb, .int nst, .ref pk, .ref pi, .ref pf, .ref pl, .ref pe, .ref pm, .int nn, .ref px, .int len, .int pos, .int gd, .int ps, .int sm])), (pn, .inl (g.2.1, 61, .inl fnow)), (pw, .inl (g.2.1, 49, .inl r_1.2))] := hD.sub [2, 0, 1] (by decide) rfl
      have hyp := some_e hyp
      subst hyp
      subst hQ
      exact rwI hx hb hr hlocks  hP hD hS dX9_kingMovesByCorners_28
  refine lv_icmp_ne (tgt := 13) hx hb dX9_kingMovesByCorners_6 (by decide) (fun h_7 => ?_) (fun h_7 => ?_)
  · replace hyp := ite_f h_7 hyp
    refine lv_iconst (v := 0) hx hb dX9_kingMovesByCorners_13 (by decide) ?_
    exact kJ_3 0 H locs ls hyp hl hP hD hS
  · replace hyp := ite_t h_7 hyp
    refine lv_iconst (v := 1) hx hb dX9_kingMovesByCorners_9 (by decide) ?_
    refine lv_goto (tgt := 14) hx hb dX9_kingMovesByCorners_10 (by decide) ?_
    exact kJ_3 1 H locs ls hyp hl hP hD hS

def fX9_openCorners (fnow : Nat → Int32) (fway : Nat → Int32) : Option (Int32 × Int32 × (Nat → Int32)) :=
  (fX9_corners fnow fway).bind (fun (r_1 : Int32 × (Nat → Int32)) => some (r_1.1, 0, r_1.2))
set_option maxRecDepth 100000 in
set_option maxHeartbeats 4000000 in
theorem mX9_openCorners (l : Launch) (g : GE) (o pn pw pt pr pb pk pi pf pl pe pm px : Nat) (refu : Int32) (nst : Int32) (nn : Int32) (len : Int32) (pos : Int32) (gd : Int32) (ps : Int32) (sm : Int32) (fnow : Nat → Int32) (fway : Nat → Int32) (r : Int32 × Int32 × (Nat → Int32)) (hyp : fX9_openCorners fnow fway = some r) : WM l yX9_openCorners cX9_openCorners 1 (some .int) 5 116 g [(o, .inr (9, [.int refu, .ref pn, .ref pt, .ref pr, .ref pw, .ref pb, .int nst, .ref pk, .ref pi, .ref pf, .ref pl, .ref pe, .ref pm, .int nn, .ref px, .int len, .int pos, .int gd, .int ps, .int sm])), (pn, .inl (g.2.1, 61, .inl fnow)), (pw, .inl (g.2.1, 49, .inl fway))] [.ref o] (some (.int r.1)) [(o, .inr (9, [.int r.2.1, .ref pn, .ref pt, .ref pr, .ref pw, .ref pb, .int nst, .ref pk, .ref pi, .ref pf, .ref pl, .ref pe, .ref pm, .int nn, .ref px, .int len, .int pos, .int gd, .int ps, .int sm])), (pn, .inl (g.2.1, 61, .inl fnow)), (pw, .inl (g.2.1, 49, .inl r.2.2))] := by
  refine metW_intro (by decide) rfl ?_
  intro p e R s m args below meth c Q A hRf hRl hQ hx hb hml hr hlocks hown hts hin hE hA H locs hP hD hS ls hl
  have hown : s.vm.findClass "HallGuardsModel" = some m.cls := hown
  have hl : lv_has ls 1 [(0, .ref o)] := hl
  unfold fX9_openCorners at hyp
  refine lv_aload_n hx hb dX9_openCorners_0 rfl (lv_at hl 0 rfl) ?_
  refine lv_iconst (v := 0) hx hb dX9_openCorners_1 (by decide) ?_
  refine pf_X9_52 hx hb hts hown hE hP hD hS 0 rfl rfl dX9_openCorners_2 (fun H locs hP hD hS => ?_)
  have hP : va_P g.1 vwCl [(o, .inr (9, [.int 0, .ref pn, .ref pt, .ref pr, .ref pw, .ref pb, .int nst, .ref pk, .ref pi, .ref pf, .ref pl, .ref pe, .ref pm, .int nn, .ref px, .int len, .int pos, .int gd, .int ps, .int sm])), (pn, .inl (g.2.1, 61, .inl fnow)), (pw, .inl (g.2.1, 49, .inl fway))] H := hP
  have hD : va_D A [(o, .inr (9, [.int 0, .ref pn, .ref pt, .ref pr, .ref pw, .ref pb, .int nst, .ref pk, .ref pi, .ref pf, .ref pl, .ref pe, .ref pm, .int nn, .ref px, .int len, .int pos, .int gd, .int ps, .int sm])), (pn, .inl (g.2.1, 61, .inl fnow)), (pw, .inl (g.2.1, 49, .inl fway))] := hD
  refine lv_aload_n hx hb dX9_openCorners_5 rfl (lv_at hl 0 rfl) ?_
  obtain ⟨r_1, hr_1, hyp⟩ := opt_e hyp
  refine wV (As := []) (rest := []) ⟨hx, hb, hml, hown, hts⟩ hE (mX9_corners l g o pn pw pt pr pb pk pi pf pl pe pm px 0 nst nn len pos gd ps sm fnow fway r_1 hr_1) cf_X9_corners im_X9_corners se_X9_corners ml_X9_244 ⟨Nat.le_trans (Nat.le_of_ble_eq_true rfl) hRf, Nat.le_trans (Nat.le_of_ble_eq_true rfl) hRl⟩ hP hD hS hA [0, 1, 2] [] rfl (wr := []) rfl ⟨by decide, by decide⟩ (by decide) (ci := 9) (q0 := 0) rfl rfl rfl rfl hl.1 rfl (Nat.le_of_ble_eq_true rfl) dX9_openCorners_6 ⟨Nat.zero_le _, Nat.zero_le _⟩ (fun H locs hP hD hS => ?_)
  have hP : va_P g.1 vwCl [(o, .inr (9, [.int 0, .ref pn, .ref pt, .ref pr, .ref pw, .ref pb, .int nst, .ref pk, .ref pi, .ref pf, .ref pl, .ref pe, .ref pm, .int nn, .ref px, .int len, .int pos, .int gd, .int ps, .int sm])), (pn, .inl (g.2.1, 61, .inl fnow)), (pw, .inl (g.2.1, 49, .inl r_1.2))] H := hP
  have hD : va_D A [(o, .inr (9, [.int 0, .ref pn, .ref pt, .ref pr, .ref pw, .ref pb, .int nst, .ref pk, .ref pi, .ref pf, .ref pl, .ref pe, .ref pm, .int nn, .ref px, .int len, .int pos, .int gd, .int ps, .int sm])), (pn, .inl (g.2.1, 61, .inl fnow)), (pw, .inl (g.2.1, 49, .inl r_1.2))] := hD
  have hyp := some_e hyp
  subst hyp
  subst hQ
  exact rwI hx hb hr hlocks  hP hD hS dX9_openCorners_9

def fX9_kingReach (fnow : Nat → Int32) (fway : Nat → Int32) : Option (Int32 × Int32 × (Nat → Int32)) :=
  (fX9_reach fnow fway).bind (fun (r_1 : Int32 × (Nat → Int32)) => some (r_1.1, 0, r_1.2))
set_option maxRecDepth 100000 in
set_option maxHeartbeats 4000000 in
theorem mX9_kingReach (l : Launch) (g : GE) (o pn pw pt pr pb pk pi pf pl pe pm px : Nat) (refu : Int32) (nst : Int32) (nn : Int32) (len : Int32) (pos : Int32) (gd : Int32) (ps : Int32) (sm : Int32) (fnow : Nat → Int32) (fway : Nat → Int32) (r : Int32 × Int32 × (Nat → Int32)) (hyp : fX9_kingReach fnow fway = some r) : WM l yX9_kingReach cX9_kingReach 1 (some .int) 5 116 g [(o, .inr (9, [.int refu, .ref pn, .ref pt, .ref pr, .ref pw, .ref pb, .int nst, .ref pk, .ref pi, .ref pf, .ref pl, .ref pe, .ref pm, .int nn, .ref px, .int len, .int pos, .int gd, .int ps, .int sm])), (pn, .inl (g.2.1, 61, .inl fnow)), (pw, .inl (g.2.1, 49, .inl fway))] [.ref o] (some (.int r.1)) [(o, .inr (9, [.int r.2.1, .ref pn, .ref pt, .ref pr, .ref pw, .ref pb, .int nst, .ref pk, .ref pi, .ref pf, .ref pl, .ref pe, .ref pm, .int nn, .ref px, .int len, .int pos, .int gd, .int ps, .int sm])), (pn, .inl (g.2.1, 61, .inl fnow)), (pw, .inl (g.2.1, 49, .inl r.2.2))] := by
  refine metW_intro (by decide) rfl ?_
  intro p e R s m args below meth c Q A hRf hRl hQ hx hb hml hr hlocks hown hts hin hE hA H locs hP hD hS ls hl
  have hown : s.vm.findClass "HallGuardsModel" = some m.cls := hown
  have hl : lv_has ls 1 [(0, .ref o)] := hl
  unfold fX9_kingReach at hyp
  refine lv_aload_n hx hb dX9_kingReach_0 rfl (lv_at hl 0 rfl) ?_
  refine lv_iconst (v := 0) hx hb dX9_kingReach_1 (by decide) ?_
  refine pf_X9_52 hx hb hts hown hE hP hD hS 0 rfl rfl dX9_kingReach_2 (fun H locs hP hD hS => ?_)
  have hP : va_P g.1 vwCl [(o, .inr (9, [.int 0, .ref pn, .ref pt, .ref pr, .ref pw, .ref pb, .int nst, .ref pk, .ref pi, .ref pf, .ref pl, .ref pe, .ref pm, .int nn, .ref px, .int len, .int pos, .int gd, .int ps, .int sm])), (pn, .inl (g.2.1, 61, .inl fnow)), (pw, .inl (g.2.1, 49, .inl fway))] H := hP
  have hD : va_D A [(o, .inr (9, [.int 0, .ref pn, .ref pt, .ref pr, .ref pw, .ref pb, .int nst, .ref pk, .ref pi, .ref pf, .ref pl, .ref pe, .ref pm, .int nn, .ref px, .int len, .int pos, .int gd, .int ps, .int sm])), (pn, .inl (g.2.1, 61, .inl fnow)), (pw, .inl (g.2.1, 49, .inl fway))] := hD
  refine lv_aload_n hx hb dX9_kingReach_5 rfl (lv_at hl 0 rfl) ?_
  obtain ⟨r_1, hr_1, hyp⟩ := opt_e hyp
  refine wV (As := []) (rest := []) ⟨hx, hb, hml, hown, hts⟩ hE (mX9_reach l g o pn pw pt pr pb pk pi pf pl pe pm px 0 nst nn len pos gd ps sm fnow fway r_1 hr_1) cf_X9_reach im_X9_reach se_X9_reach ml_X9_247 ⟨Nat.le_trans (Nat.le_of_ble_eq_true rfl) hRf, Nat.le_trans (Nat.le_of_ble_eq_true rfl) hRl⟩ hP hD hS hA [0, 1, 2] [] rfl (wr := []) rfl ⟨by decide, by decide⟩ (by decide) (ci := 9) (q0 := 0) rfl rfl rfl rfl hl.1 rfl (Nat.le_of_ble_eq_true rfl) dX9_kingReach_6 ⟨Nat.zero_le _, Nat.zero_le _⟩ (fun H locs hP hD hS => ?_)
  have hP : va_P g.1 vwCl [(o, .inr (9, [.int 0, .ref pn, .ref pt, .ref pr, .ref pw, .ref pb, .int nst, .ref pk, .ref pi, .ref pf, .ref pl, .ref pe, .ref pm, .int nn, .ref px, .int len, .int pos, .int gd, .int ps, .int sm])), (pn, .inl (g.2.1, 61, .inl fnow)), (pw, .inl (g.2.1, 49, .inl r_1.2))] H := hP
  have hD : va_D A [(o, .inr (9, [.int 0, .ref pn, .ref pt, .ref pr, .ref pw, .ref pb, .int nst, .ref pk, .ref pi, .ref pf, .ref pl, .ref pe, .ref pm, .int nn, .ref px, .int len, .int pos, .int gd, .int ps, .int sm])), (pn, .inl (g.2.1, 61, .inl fnow)), (pw, .inl (g.2.1, 49, .inl r_1.2))] := hD
  have hyp := some_e hyp
  subst hyp
  subst hQ
  exact rwI hx hb hr hlocks  hP hD hS dX9_kingReach_9

def fX9_pressure_L12_B (fnow : Nat → Int32) (r_1 : Int32) (self_4 : Int32 → Int32 → Option Int32) (v1_2 : Int32) (v3_3 : Int32) : Option Int32 :=
  if 4 ≤ v3_3 then (some v1_2) else ((fX9_next r_1 v3_3).bind (fun (r_6 : Int32) => jn (fun (t_7 : Int32) => self_4 (v1_2 + t_7) (v3_3 + 1)) (fun J_8 => jn (J_8 0) (fun J_9 => if r_6 = (-1) then (J_9) else ((fX9_hostile fnow r_6 1).bind (fun (r_11 : Int32) => if r_11 = 0 then (J_9) else (J_8 1)))))))
def fX9_pressure_L12 (fnow : Nat → Int32) (r_1 : Int32) (n : Nat) (v1_2 : Int32) (v3_3 : Int32) : Option Int32 := lp (fun zf z => fX9_pressure_L12_B fnow r_1 (fun v1_2 v3_3 => zf (v1_2, v3_3)) z.1 z.2) n (v1_2, v3_3)
def fX9_pressure (fnow : Nat → Int32) : Option Int32 :=
  (fX9_king fnow).bind (fun (r_1 : Int32) => fX9_pressure_L12 fnow r_1 64 0 0)
set_option maxRecDepth 100000 in
set_option maxHeartbeats 4000000 in
theorem mX9_pressure (l : Launch) (g : GE) (o pn pt pr pw pb pk pi pf pl pe pm px : Nat) (refu : Int32) (nst : Int32) (nn : Int32) (len : Int32) (pos : Int32) (gd : Int32) (ps : Int32) (sm : Int32) (fnow : Nat → Int32) (r : Int32) (hyp : fX9_pressure fnow = some r) : PI l yX9_pressure cX9_pressure 5 (some .int) 3 69 g [(o, .inr (9, [.int refu, .ref pn, .ref pt, .ref pr, .ref pw, .ref pb, .int nst, .ref pk, .ref pi, .ref pf, .ref pl, .ref pe, .ref pm, .int nn, .ref px, .int len, .int pos, .int gd, .int ps, .int sm])), (pn, .inl (g.2.1, 61, .inl fnow))] [.ref o] r := by
  refine metP_intro (by decide) rfl ?_
  intro p e R s m args below meth c Q hRf hRl hQ hx hb hml hr hlocks hown hts hin hE hP ls hl
  have hown : s.vm.findClass "HallGuardsModel" = some m.cls := hown
  have hl : lv_has ls 5 [(0, .ref o)] := hl
  unfold fX9_pressure at hyp
  refine lv_iconst (v := 0) hx hb dX9_pressure_0 (by decide) ?_
  refine lv_istore_n (lv' := [(1, .int 0), (0, .ref o)]) hx hb dX9_pressure_1 rfl hl (by decide) rfl (fun ls hl => ?_)
  refine lv_aload_n hx hb dX9_pressure_2 rfl (lv_at hl 1 rfl) ?_
  refine gf_X9_7 hx hb hts hown hE hP 0 rfl rfl dX9_pressure_3 ?_
  obtain ⟨r_1, hr_1, hyp⟩ := opt_e hyp
  refine pS (As := [.ref pn]) (rest := []) ⟨hx, hb, hml, hown, hts⟩ hE (mX9_king l g pn fnow r_1 hr_1) cf_X9_king st_X9_king ml_X9_98 ⟨Nat.le_trans (Nat.le_of_ble_eq_true rfl) hRf, Nat.le_trans (Nat.le_of_ble_eq_true rfl) hRl⟩ (hP.sub (ws' := [(pn, .inl (g.2.1, 61, .inl fnow))]) [1] rfl) rfl hl.1 rfl (Nat.le_of_ble_eq_true rfl) dX9_pressure_6 ⟨Nat.zero_le _, Nat.zero_le _⟩ ?_
  refine lv_istore_n (lv' := [(2, .int r_1), (1, .int 0), (0, .ref o)]) hx hb dX9_pressure_9 rfl hl (by decide) rfl (fun ls hl => ?_)
  refine lv_iconst (v := 0) hx hb dX9_pressure_10 (by decide) ?_
  refine lv_istore_n (lv' := [(3, .int 0), (2, .int r_1), (1, .int 0), (0, .ref o)]) hx hb dX9_pressure_11 rfl hl (by decide) rfl (fun ls hl => ?_)
  refine lp_i (r := r) (fun z : Int32 × Int32 => ∀ (ls : Array Slot), lv_has ls 5 [(0, .ref o), (1, .int z.1), (2, .int r_1), (3, .int z.2)] → W p l e R s m args below meth c s.heap [] 0 0 Q (F0 m 12 ls [])) ?_ 64 (0, 0) hyp ls (lv_sub hl [3, 2, 1, 0] rfl)
  intro self_4T ihself_4T z hyp ls hl
  obtain ⟨v1_2, v3_3⟩ := z
  obtain ⟨self_4, eself_4⟩ : ∃ f9 : Int32 → Int32 → Option Int32, f9 = fun v1_2 v3_3 => self_4T (v1_2, v3_3) := ⟨_, rfl⟩
  have ihself_4 := fun (v1_2 : Int32) (v3_3 : Int32) (h9 : self_4 v1_2 v3_3 = some r) => ihself_4T (v1_2, v3_3) (by rw [eself_4] at h9; exact h9)
  replace hyp : fX9_pressure_L12_B fnow r_1 self_4 v1_2 v3_3 = some r := by rw [eself_4]; exact hyp
  have hl : lv_has ls 5 [(0, .ref o), (1, .int v1_2), (2, .int r_1), (3, .int v3_3)] := hl
  show W p l e R s m args below meth c s.heap [] 0 0 Q (F0 m 12 ls [])
  unfold fX9_pressure_L12_B at hyp
  refine lv_iload_n hx hb dX9_pressure_12 rfl (lv_at hl 3 rfl) ?_
  refine lv_iconst (v := 4) hx hb dX9_pressure_13 (by decide) ?_
  refine lv_icmp_ge (tgt := 57) hx hb dX9_pressure_14 (by decide) (fun h_5 => ?_) (fun h_5 => ?_)
  · replace hyp := ite_t h_5 hyp
    refine lv_iload_n hx hb dX9_pressure_57 rfl (lv_at hl 1 rfl) ?_
    subst hQ
    exact rI hx hb hr hlocks (some_e hyp) dX9_pressure_58
  · replace hyp := ite_f h_5 hyp
    refine lv_iload_n hx hb dX9_pressure_17 rfl (lv_at hl 2 rfl) ?_
    refine lv_iload_n hx hb dX9_pressure_18 rfl (lv_at hl 3 rfl) ?_
    obtain ⟨r_6, hr_6, hyp⟩ := opt_e hyp
    refine pS (As := [.int r_1, .int v3_3]) (rest := []) ⟨hx, hb, hml, hown, hts⟩ hE (mX9_next l g r_1 v3_3 r_6 hr_6) cf_X9_next st_X9_next ml_X9_76 ⟨Nat.le_trans (Nat.le_of_ble_eq_true rfl) hRf, Nat.le_trans (Nat.le_of_ble_eq_true rfl) hRl⟩ (va_P_nil) rfl hl.1 rfl (Nat.le_of_ble_eq_true rfl) dX9_pressure_19 ⟨Nat.zero_le _, Nat.zero_le _⟩ ?_
    refine lv_istore (lv' := [(4, .int r_6), (0, .ref o), (1, .int v1_2), (2, .int r_1), (3, .int v3_3)]) hx hb dX9_pressure_22 hl (by decide) rfl (fun ls hl => ?_)
    refine lv_iload_n hx hb dX9_pressure_24 rfl (lv_at hl 2 rfl) ?_
    refine lv_iload hx hb dX9_pressure_25 (lv_at hl 0 rfl) ?_
    refine lv_iconst (v := (-1)) hx hb dX9_pressure_27 (by decide) ?_
    obtain ⟨J_8, eJ_8, hyp⟩ := jn_e hyp
    have kJ_8 : ∀ (t_7 : Int32) (ls : Array Slot), J_8 t_7 = some r → lv_has ls 5 [(0, .ref o), (2, .int r_1), (3, .int v3_3)] → W p l e R s m args below meth c s.heap [] 0 0 Q (F0 m 49 ls [.int t_7, .int v1_2]) := by
      intro t_7  ls hyp hl
      replace hyp := (congrFun (eJ_8) t_7).symm.trans hyp
      refine lv_iadd hx hb dX9_pressure_49 ?_
      refine lv_istore_n (lv' := [(1, .int (v1_2 + t_7)), (0, .ref o), (2, .int r_1), (3, .int v3_3)]) hx hb dX9_pressure_50 rfl hl (by decide) rfl (fun ls hl => ?_)
      refine lv_iinc (v := v3_3 + 1) (lv' := [(3, .int (v3_3 + 1)), (1, .int (v1_2 + t_7)), (0, .ref o), (2, .int r_1)]) hx hb dX9_pressure_51 hl (k := 3) rfl rfl (by decide) rfl (fun ls hl => ?_)
      refine lv_goto (tgt := 12) hx hb dX9_pressure_54 (by decide) ?_
      exact ihself_4 (v1_2 + t_7) (v3_3 + 1) hyp ls (lv_sub hl [2, 1, 3, 0] rfl)
    obtain ⟨J_9, eJ_9, hyp⟩ := jn_e hyp
    have kJ_9 : ∀ (ls : Array Slot), J_9 = some r → lv_has ls 5 [(0, .ref o), (2, .int r_1), (3, .int v3_3)] → W p l e R s m args below meth c s.heap [] 0 0 Q (F0 m 48 ls [.int v1_2]) := by
      intro  ls hyp hl
      replace hyp := (eJ_9).symm.trans hyp
      refine lv_iconst (v := 0) hx hb dX9_pressure_48 (by decide) ?_
      exact kJ_8 0 ls hyp hl
    refine lv_icmp_eq (tgt := 48) hx hb dX9_pressure_28 (by decide) (fun h_10 => ?_) (fun h_10 => ?_)
    · replace hyp := ite_t h_10 hyp
      exact kJ_9 ls hyp (lv_sub hl [1, 3, 4] rfl)
    · replace hyp := ite_f h_10 hyp
      refine lv_aload_n hx hb dX9_pressure_31 rfl (lv_at hl 1 rfl) ?_
      refine gf_X9_7 hx hb hts hown hE hP 0 rfl rfl dX9_pressure_32 ?_
      refine lv_iload hx hb dX9_pressure_35 (lv_at hl 0 rfl) ?_
      refine lv_iconst (v := 1) hx hb dX9_pressure_37 (by decide) ?_
      obtain ⟨r_11, hr_11, hyp⟩ := opt_e hyp
      refine pS (As := [.ref pn, .int r_6, .int 1]) (rest := [.int v1_2]) ⟨hx, hb, hml, hown, hts⟩ hE (mX9_hostile l g pn fnow r_6 1 r_11 hr_11) cf_X9_hostile st_X9_hostile ml_X9_87 ⟨Nat.le_trans (Nat.le_of_ble_eq_true rfl) hRf, Nat.le_trans (Nat.le_of_ble_eq_true rfl) hRl⟩ (hP.sub (ws' := [(pn, .inl (g.2.1, 61, .inl fnow))]) [1] rfl) rfl hl.1 rfl (Nat.le_of_ble_eq_true rfl) dX9_pressure_38 ⟨Nat.zero_le _, Nat.zero_le _⟩ ?_
      refine lv_if_eq (tgt := 48) hx hb dX9_pressure_41 (by decide) (fun h_12 => ?_) (fun h_12 => ?_)
      · replace hyp := ite_t h_12 hyp
        exact kJ_9 ls hyp (lv_sub hl [1, 3, 4] rfl)
      · replace hyp := ite_f h_12 hyp
        refine lv_iconst (v := 1) hx hb dX9_pressure_44 (by decide) ?_
        refine lv_goto (tgt := 49) hx hb dX9_pressure_45 (by decide) ?_
        exact kJ_8 1 ls hyp (lv_sub hl [1, 3, 4] rfl)

def fX9_kingPressure (fnow : Nat → Int32) : Option (Int32 × Int32) :=
  (fX9_king fnow).bind (fun (r_1 : Int32) => jn (fun (t_2 : Int32) => (fX9_refused t_2).bind (fun (r_4 : Int32 × Int32) => if r_4.1 = 0 then ((fX9_pressure fnow).bind (fun (r_6 : Int32) => some (r_6, r_4.2))) else (some (0, r_4.2)))) (fun J_3 => if r_1 = (-1) then (J_3 1) else (J_3 0)))
set_option maxRecDepth 100000 in
set_option maxHeartbeats 4000000 in
theorem mX9_kingPressure (l : Launch) (g : GE) (o pn pt pr pw pb pk pi pf pl pe pm px : Nat) (refu : Int32) (nst : Int32) (nn : Int32) (len : Int32) (pos : Int32) (gd : Int32) (ps : Int32) (sm : Int32) (fnow : Nat → Int32) (r : Int32 × Int32) (hyp : fX9_kingPressure fnow = some r) : WM l yX9_kingPressure cX9_kingPressure 1 (some .int) 4 93 g [(o, .inr (9, [.int refu, .ref pn, .ref pt, .ref pr, .ref pw, .ref pb, .int nst, .ref pk, .ref pi, .ref pf, .ref pl, .ref pe, .ref pm, .int nn, .ref px, .int len, .int pos, .int gd, .int ps, .int sm])), (pn, .inl (g.2.1, 61, .inl fnow))] [.ref o] (some (.int r.1)) [(o, .inr (9, [.int r.2, .ref pn, .ref pt, .ref pr, .ref pw, .ref pb, .int nst, .ref pk, .ref pi, .ref pf, .ref pl, .ref pe, .ref pm, .int nn, .ref px, .int len, .int pos, .int gd, .int ps, .int sm])), (pn, .inl (g.2.1, 61, .inl fnow))] := by
  refine metW_intro (by decide) rfl ?_
  intro p e R s m args below meth c Q A hRf hRl hQ hx hb hml hr hlocks hown hts hin hE hA H locs hP hD hS ls hl
  have hown : s.vm.findClass "HallGuardsModel" = some m.cls := hown
  have hl : lv_has ls 1 [(0, .ref o)] := hl
  unfold fX9_kingPressure at hyp
  refine lv_aload_n hx hb dX9_kingPressure_0 rfl (lv_at hl 0 rfl) ?_
  refine lv_aload_n hx hb dX9_kingPressure_1 rfl (lv_at hl 0 rfl) ?_
  refine gf_X9_7 hx hb hts hown hE hP 0 rfl rfl dX9_kingPressure_2 ?_
  obtain ⟨r_1, hr_1, hyp⟩ := opt_e hyp
  refine pS (As := [.ref pn]) (rest := [.ref o]) ⟨hx, hb, hml, hown, hts⟩ hE (mX9_king l g pn fnow r_1 hr_1) cf_X9_king st_X9_king ml_X9_98 ⟨Nat.le_trans (Nat.le_of_ble_eq_true rfl) hRf, Nat.le_trans (Nat.le_of_ble_eq_true rfl) hRl⟩ (hP.sub (ws' := [(pn, .inl (g.2.1, 61, .inl fnow))]) [1] rfl) rfl hl.1 rfl (Nat.le_of_ble_eq_true rfl) dX9_kingPressure_5 ⟨Nat.zero_le _, Nat.zero_le _⟩ ?_
  refine lv_iconst (v := (-1)) hx hb dX9_kingPressure_8 (by decide) ?_
  obtain ⟨J_3, eJ_3, hyp⟩ := jn_e hyp
  have kJ_3 : ∀ (t_2 : Int32) (H : Heap) (locs : List Loc) (ls : Array Slot), J_3 t_2 = some r → lv_has ls 1 [(0, .ref o)] → va_P g.1 vwCl [(o, .inr (9, [.int refu, .ref pn, .ref pt, .ref pr, .ref pw, .ref pb, .int nst, .ref pk, .ref pi, .ref pf, .ref pl, .ref pe, .ref pm, .int nn, .ref px, .int len, .int pos, .int gd, .int ps, .int sm])), (pn, .inl (g.2.1, 61, .inl fnow))] H → va_D A [(o, .inr (9, [.int refu, .ref pn, .ref pt, .ref pr, .ref pw, .ref pb, .int nst, .ref pk, .ref pi, .ref pf, .ref pl, .ref pe, .ref pm, .int nn, .ref px, .int len, .int pos, .int gd, .int ps, .int sm])), (pn, .inl (g.2.1, 61, .inl fnow))] → va_S A s.heap H locs → W p l e R s m args below meth c H locs 0 0 Q (F0 m 17 ls [.int t_2, .ref o]) := by
    intro t_2 H locs  ls hyp hl hP hD hS
    replace hyp := (congrFun (eJ_3) t_2).symm.trans hyp
    obtain ⟨r_4, hr_4, hyp⟩ := opt_e hyp
    refine wV (As := [.int t_2]) (rest := []) ⟨hx, hb, hml, hown, hts⟩ hE (mX9_refused l g o pn pt pr pw pb pk pi pf pl pe pm px refu nst nn len pos gd ps sm t_2 r_4 hr_4) cf_X9_refused im_X9_refused se_X9_refused ml_X9_153 ⟨Nat.le_trans (Nat.le_of_ble_eq_true rfl) hRf, Nat.le_trans (Nat.le_of_ble_eq_true rfl) hRl⟩ hP hD hS hA [0] [1] rfl (wr := [(pn, .inl (g.2.1, 61, .inl fnow))]) rfl ⟨by decide, by decide⟩ (by decide) (ci := 9) (q0 := 0) rfl rfl rfl rfl hl.1 rfl (Nat.le_of_ble_eq_true rfl) dX9_kingPressure_17 ⟨Nat.zero_le _, Nat.zero_le _⟩ (fun H locs hP hD hS => ?_)
    have hP : va_P g.1 vwCl [(pn, .inl (g.2.1, 61, .inl fnow)), (o, .inr (9, [.int r_4.2, .ref pn, .ref pt, .ref pr, .ref pw, .ref pb, .int nst, .ref pk, .ref pi, .ref pf, .ref pl, .ref pe, .ref pm, .int nn, .ref px, .int len, .int pos, .int gd, .int ps, .int sm]))] H := hP
    have hD : va_D A [(pn, .inl (g.2.1, 61, .inl fnow)), (o, .inr (9, [.int r_4.2, .ref pn, .ref pt, .ref pr, .ref pw, .ref pb, .int nst, .ref pk, .ref pi, .ref pf, .ref pl, .ref pe, .ref pm, .int nn, .ref px, .int len, .int pos, .int gd, .int ps, .int sm]))] := hD
    refine lv_if_eq (tgt := 27) hx hb dX9_kingPressure_20 (by decide) (fun h_5 => ?_) (fun h_5 => ?_)
    · replace hyp := ite_t h_5 hyp
      refine lv_aload_n hx hb dX9_kingPressure_27 rfl (lv_at hl 0 rfl) ?_
      obtain ⟨r_6, hr_6, hyp⟩ := opt_e hyp
      refine pV (As := []) (rest := []) ⟨hx, hb, hml, hown, hts⟩ hE (mX9_pressure l g o pn pt pr pw pb pk pi pf pl pe pm px r_4.2 nst nn len pos gd ps sm fnow r_6 hr_6) cf_X9_pressure im_X9_pressure se_X9_pressure ml_X9_250 ⟨Nat.le_trans (Nat.le_of_ble_eq_true rfl) hRf, Nat.le_trans (Nat.le_of_ble_eq_true rfl) hRl⟩ (hP.sub (ws' := [(o, .inr (9, [.int r_4.2, .ref pn, .ref pt, .ref pr, .ref pw, .ref pb, .int nst, .ref pk, .ref pi, .ref pf, .ref pl, .ref pe, .ref pm, .int nn, .ref px, .int len, .int pos, .int gd, .int ps, .int sm])), (pn, .inl (g.2.1, 61, .inl fnow))]) [1, 0] rfl) (ci := 9) (q0 := 0) rfl rfl rfl rfl hl.1 rfl (Nat.le_of_ble_eq_true rfl) dX9_kingPressure_28 ⟨Nat.zero_le _, Nat.zero_le _⟩ ?_
      have hP : va_P g.1 vwCl [(o, .inr (9, [.int r_4.2, .ref pn, .ref pt, .ref pr, .ref pw, .ref pb, .int nst, .ref pk, .ref pi, .ref pf, .ref pl, .ref pe, .ref pm, .int nn, .ref px, .int len, .int pos, .int gd, .int ps, .int sm])), (pn, .inl (g.2.1, 61, .inl fnow))] H := hP.sub [1, 0] rfl
      have hD : va_D A [(o, .inr (9, [.int r_4.2, .ref pn, .ref pt, .ref pr, .ref pw, .ref pb, .int nst, .ref pk, .ref pi, .ref pf, .ref pl, .ref pe, .ref pm, .int nn, .ref px, .int len, .int pos, .int gd, .int ps, .int sm])), (pn, .inl (g.2.1, 61, .inl fnow))] := hD.sub [1, 0] (by decide) rfl
      have hyp := some_e hyp
      subst hyp
      subst hQ
      exact rwI hx hb hr hlocks  hP hD hS dX9_kingPressure_31
    · replace hyp := ite_f h_5 hyp
      refine lv_iconst (v := 0) hx hb dX9_kingPressure_23 (by decide) ?_
      refine lv_goto (tgt := 31) hx hb dX9_kingPressure_24 (by decide) ?_
      have hP : va_P g.1 vwCl [(o, .inr (9, [.int r_4.2, .ref pn, .ref pt, .ref pr, .ref pw, .ref pb, .int nst, .ref pk, .ref pi, .ref pf, .ref pl, .ref pe, .ref pm, .int nn, .ref px, .int len, .int pos, .int gd, .int ps, .int sm])), (pn, .inl (g.2.1, 61, .inl fnow))] H := hP.sub [1, 0] rfl
      have hD : va_D A [(o, .inr (9, [.int r_4.2, .ref pn, .ref pt, .ref pr, .ref pw, .ref pb, .int nst, .ref pk, .ref pi, .ref pf, .ref pl, .ref pe, .ref pm, .int nn, .ref px, .int len, .int pos, .int gd, .int ps, .int sm])), (pn, .inl (g.2.1, 61, .inl fnow))] := hD.sub [1, 0] (by decide) rfl
      have hyp := some_e hyp
      subst hyp
      subst hQ
      exact rwI hx hb hr hlocks  hP hD hS dX9_kingPressure_31
  refine lv_icmp_ne (tgt := 16) hx hb dX9_kingPressure_9 (by decide) (fun h_7 => ?_) (fun h_7 => ?_)
  · replace hyp := ite_f h_7 hyp
    refine lv_iconst (v := 0) hx hb dX9_kingPressure_16 (by decide) ?_
    exact kJ_3 0 H locs ls hyp hl hP hD hS
  · replace hyp := ite_t h_7 hyp
    refine lv_iconst (v := 1) hx hb dX9_kingPressure_12 (by decide) ?_
    refine lv_goto (tgt := 17) hx hb dX9_kingPressure_13 (by decide) ?_
    exact kJ_3 1 H locs ls hyp hl hP hD hS

def fX9_worth (fnow : Nat → Int32) (ftri : Nat → Int32) (frep : Nat → Int32) (a1 : Int32) (a2 : Int32) : Option (Int32 × (Nat → Int32) × (Nat → Int32)) :=
  (fX9_ends fnow ftri a1 a2).bind (fun (r_1 : Int32 × (Nat → Int32)) => if r_1.1 = 0 then ((fX9_tried fnow r_1.2 a1 a2).bind (fun (r_3 : Int32 × (Nat → Int32)) => grd (inB a1 61) ((fX9_side (fnow a1.toNatClampNeg)).bind (fun (r_4 : Int32) => (fX9_winning r_3.2 frep (1 - r_4)).bind (fun (r_5 : Int32 × (Nat → Int32)) => some ((20 * r_3.1) - (100 * r_5.1), r_3.2, r_5.2)))))) else (some (1000, r_1.2, frep)))
set_option maxRecDepth 100000 in
set_option maxHeartbeats 4000000 in
theorem mX9_worth (l : Launch) (g : GE) (o pn pt pr pw pb pk pi pf pl pe pm px : Nat) (refu : Int32) (nst : Int32) (nn : Int32) (len : Int32) (pos : Int32) (gd : Int32) (ps : Int32) (sm : Int32) (fnow : Nat → Int32) (ftri : Nat → Int32) (frep : Nat → Int32) (a1 : Int32) (a2 : Int32) (r : Int32 × (Nat → Int32) × (Nat → Int32)) (hyp : fX9_worth fnow ftri frep a1 a2 = some r) : WM l yX9_worth cX9_worth 4 (some .int) 7 177 g [(o, .inr (9, [.int refu, .ref pn, .ref pt, .ref pr, .ref pw, .ref pb, .int nst, .ref pk, .ref pi, .ref pf, .ref pl, .ref pe, .ref pm, .int nn, .ref px, .int len, .int pos, .int gd, .int ps, .int sm])), (pn, .inl (g.2.1, 61, .inl fnow)), (pt, .inl (g.2.1, 61, .inl ftri)), (pr, .inl (g.2.1, 61, .inl frep))] [.ref o, .int a1, .int a2] (some (.int r.1)) [(o, .inr (9, [.int refu, .ref pn, .ref pt, .ref pr, .ref pw, .ref pb, .int nst, .ref pk, .ref pi, .ref pf, .ref pl, .ref pe, .ref pm, .int nn, .ref px, .int len, .int pos, .int gd, .int ps, .int sm])), (pn, .inl (g.2.1, 61, .inl fnow)), (pt, .inl (g.2.1, 61, .inl r.2.1)), (pr, .inl (g.2.1, 61, .inl r.2.2))] := by
  refine metW_intro (by decide) rfl ?_
  intro p e R s m args below meth c Q A hRf hRl hQ hx hb hml hr hlocks hown hts hin hE hA H locs hP hD hS ls hl
  have hown : s.vm.findClass "HallGuardsModel" = some m.cls := hown
  have hl : lv_has ls 4 [(0, .ref o), (1, .int a1), (2, .int a2)] := hl
  unfold fX9_worth at hyp
  refine lv_aload_n hx hb dX9_worth_0 rfl (lv_at hl 0 rfl) ?_
  refine gf_X9_7 hx hb hts hown hE hP 0 rfl rfl dX9_worth_1 ?_
  refine lv_aload_n hx hb dX9_worth_4 rfl (lv_at hl 0 rfl) ?_
  refine gf_X9_13 hx hb hts hown hE hP 0 rfl rfl dX9_worth_5 ?_
  refine lv_iload_n hx hb dX9_worth_8 rfl (lv_at hl 1 rfl) ?_
  refine lv_iload_n hx hb dX9_worth_9 rfl (lv_at hl 2 rfl) ?_
  obtain ⟨r_1, hr_1, hyp⟩ := opt_e hyp
  refine wS (As := [.ref pn, .ref pt, .int a1, .int a2]) (rest := []) ⟨hx, hb, hml, hown, hts⟩ hE (mX9_ends l g pn pt fnow ftri a1 a2 r_1 hr_1) cf_X9_ends st_X9_ends ml_X9_227 ⟨Nat.le_trans (Nat.le_of_ble_eq_true rfl) hRf, Nat.le_trans (Nat.le_of_ble_eq_true rfl) hRl⟩ hP hD hS hA [1, 2] [0, 3] rfl (wr := [(o, .inr (9, [.int refu, .ref pn, .ref pt, .ref pr, .ref pw, .ref pb, .int nst, .ref pk, .ref pi, .ref pf, .ref pl, .ref pe, .ref pm, .int nn, .ref px, .int len, .int pos, .int gd, .int ps, .int sm])), (pr, .inl (g.2.1, 61, .inl frep))]) rfl ⟨by decide, by decide⟩ (by decide) rfl hl.1 rfl (Nat.le_of_ble_eq_true rfl) dX9_worth_10 ⟨Nat.zero_le _, Nat.zero_le _⟩ (fun H locs hP hD hS => ?_)
  have hP : va_P g.1 vwCl [(o, .inr (9, [.int refu, .ref pn, .ref pt, .ref pr, .ref pw, .ref pb, .int nst, .ref pk, .ref pi, .ref pf, .ref pl, .ref pe, .ref pm, .int nn, .ref px, .int len, .int pos, .int gd, .int ps, .int sm])), (pr, .inl (g.2.1, 61, .inl frep)), (pn, .inl (g.2.1, 61, .inl fnow)), (pt, .inl (g.2.1, 61, .inl r_1.2))] H := hP
  have hD : va_D A [(o, .inr (9, [.int refu, .ref pn, .ref pt, .ref pr, .ref pw, .ref pb, .int nst, .ref pk, .ref pi, .ref pf, .ref pl, .ref pe, .ref pm, .int nn, .ref px, .int len, .int pos, .int gd, .int ps, .int sm])), (pr, .inl (g.2.1, 61, .inl frep)), (pn, .inl (g.2.1, 61, .inl fnow)), (pt, .inl (g.2.1, 61, .inl r_1.2))] := hD
  refine lv_if_eq (tgt := 20) hx hb dX9_worth_13 (by decide) (fun h_2 => ?_) (fun h_2 => ?_)
  · replace hyp := ite_t h_2 hyp
    refine lv_aload_n hx hb dX9_worth_20 rfl (lv_at hl 0 rfl) ?_
    refine lv_iload_n hx hb dX9_worth_21 rfl (lv_at hl 1 rfl) ?_
    refine lv_iload_n hx hb dX9_worth_22 rfl (lv_at hl 2 rfl) ?_
    obtain ⟨r_3, hr_3, hyp⟩ := opt_e hyp
    refine wV (As := [.int a1, .int a2]) (rest := []) ⟨hx, hb, hml, hown, hts⟩ hE (mX9_tried l g o pn pt pr pw pb pk pi pf pl pe pm px refu nst nn len pos gd ps sm fnow r_1.2 a1 a2 r_3 hr_3) cf_X9_tried im_X9_tried se_X9_tried ml_X9_224 ⟨Nat.le_trans (Nat.le_of_ble_eq_true rfl) hRf, Nat.le_trans (Nat.le_of_ble_eq_true rfl) hRl⟩ hP hD hS hA [0, 2, 3] [1] rfl (wr := [(pr, .inl (g.2.1, 61, .inl frep))]) rfl ⟨by decide, by decide⟩ (by decide) (ci := 9) (q0 := 0) rfl rfl rfl rfl hl.1 rfl (Nat.le_of_ble_eq_true rfl) dX9_worth_23 ⟨Nat.zero_le _, Nat.zero_le _⟩ (fun H locs hP hD hS => ?_)
    have hP : va_P g.1 vwCl [(pr, .inl (g.2.1, 61, .inl frep)), (o, .inr (9, [.int refu, .ref pn, .ref pt, .ref pr, .ref pw, .ref pb, .int nst, .ref pk, .ref pi, .ref pf, .ref pl, .ref pe, .ref pm, .int nn, .ref px, .int len, .int pos, .int gd, .int ps, .int sm])), (pn, .inl (g.2.1, 61, .inl fnow)), (pt, .inl (g.2.1, 61, .inl r_3.2))] H := hP
    have hD : va_D A [(pr, .inl (g.2.1, 61, .inl frep)), (o, .inr (9, [.int refu, .ref pn, .ref pt, .ref pr, .ref pw, .ref pb, .int nst, .ref pk, .ref pi, .ref pf, .ref pl, .ref pe, .ref pm, .int nn, .ref px, .int len, .int pos, .int gd, .int ps, .int sm])), (pn, .inl (g.2.1, 61, .inl fnow)), (pt, .inl (g.2.1, 61, .inl r_3.2))] := hD
    refine lv_istore_n (lv' := [(3, .int r_3.1), (0, .ref o), (1, .int a1), (2, .int a2)]) hx hb dX9_worth_26 rfl hl (by decide) rfl (fun ls hl => ?_)
    refine lv_bipush (v := 20) hx hb dX9_worth_27 (by decide) ?_
    refine lv_iload_n hx hb dX9_worth_29 rfl (lv_at hl 0 rfl) ?_
    refine lv_imul hx hb dX9_worth_30 ?_
    refine lv_bipush (v := 100) hx hb dX9_worth_31 (by decide) ?_
    refine lv_aload_n hx hb dX9_worth_33 rfl (lv_at hl 1 rfl) ?_
    refine gf_X9_13 hx hb hts hown hE hP 1 rfl rfl dX9_worth_34 ?_
    refine lv_aload_n hx hb dX9_worth_37 rfl (lv_at hl 1 rfl) ?_
    refine gf_X9_16 hx hb hts hown hE hP 1 rfl rfl dX9_worth_38 ?_
    refine lv_iconst (v := 1) hx hb dX9_worth_41 (by decide) ?_
    refine lv_aload_n hx hb dX9_worth_42 rfl (lv_at hl 1 rfl) ?_
    refine gf_X9_7 hx hb hts hown hE hP 1 rfl rfl dX9_worth_43 ?_
    refine lv_iload_n hx hb dX9_worth_46 rfl (lv_at hl 2 rfl) ?_
    obtain ⟨hi, hyp⟩ := grd_e hyp
    refine va_iald hx hb hE.1 hP 2 0 rfl rfl (inB_vp hi) dX9_worth_47 ?_
    obtain ⟨r_4, hr_4, hyp⟩ := opt_e hyp
    refine pS (As := [.int (fnow a1.toNatClampNeg)]) (rest := [.int 1, .ref pr, .ref pt, .int 100, .int (20 * r_3.1)]) ⟨hx, hb, hml, hown, hts⟩ hE (mX9_side l g (fnow a1.toNatClampNeg) r_4 hr_4) cf_X9_side st_X9_side ml_X9_72 ⟨Nat.le_trans (Nat.le_of_ble_eq_true rfl) hRf, Nat.le_trans (Nat.le_of_ble_eq_true rfl) hRl⟩ (va_P_nil) rfl hl.1 rfl (Nat.le_of_ble_eq_true rfl) dX9_worth_48 ⟨Nat.zero_le _, Nat.zero_le _⟩ ?_
    refine lv_isub hx hb dX9_worth_51 ?_
    obtain ⟨r_5, hr_5, hyp⟩ := opt_e hyp
    refine wS (As := [.ref pt, .ref pr, .int (1 - r_4)]) (rest := [.int 100, .int (20 * r_3.1)]) ⟨hx, hb, hml, hown, hts⟩ hE (mX9_winning l g pt pr r_3.2 frep (1 - r_4) r_5 hr_5) cf_X9_winning st_X9_winning ml_X9_231 ⟨Nat.le_trans (Nat.le_of_ble_eq_true rfl) hRf, Nat.le_trans (Nat.le_of_ble_eq_true rfl) hRl⟩ hP hD hS hA [3, 0] [1, 2] rfl (wr := [(o, .inr (9, [.int refu, .ref pn, .ref pt, .ref pr, .ref pw, .ref pb, .int nst, .ref pk, .ref pi, .ref pf, .ref pl, .ref pe, .ref pm, .int nn, .ref px, .int len, .int pos, .int gd, .int ps, .int sm])), (pn, .inl (g.2.1, 61, .inl fnow))]) rfl ⟨by decide, by decide⟩ (by decide) rfl hl.1 rfl (Nat.le_of_ble_eq_true rfl) dX9_worth_52 ⟨Nat.zero_le _, Nat.zero_le _⟩ (fun H locs hP hD hS => ?_)
    have hP : va_P g.1 vwCl [(o, .inr (9, [.int refu, .ref pn, .ref pt, .ref pr, .ref pw, .ref pb, .int nst, .ref pk, .ref pi, .ref pf, .ref pl, .ref pe, .ref pm, .int nn, .ref px, .int len, .int pos, .int gd, .int ps, .int sm])), (pn, .inl (g.2.1, 61, .inl fnow)), (pt, .inl (g.2.1, 61, .inl r_3.2)), (pr, .inl (g.2.1, 61, .inl r_5.2))] H := hP
    have hD : va_D A [(o, .inr (9, [.int refu, .ref pn, .ref pt, .ref pr, .ref pw, .ref pb, .int nst, .ref pk, .ref pi, .ref pf, .ref pl, .ref pe, .ref pm, .int nn, .ref px, .int len, .int pos, .int gd, .int ps, .int sm])), (pn, .inl (g.2.1, 61, .inl fnow)), (pt, .inl (g.2.1, 61, .inl r_3.2)), (pr, .inl (g.2.1, 61, .inl r_5.2))] := hD
    refine lv_imul hx hb dX9_worth_55 ?_
    refine lv_isub hx hb dX9_worth_56 ?_
    have hyp := some_e hyp
    subst hyp
    subst hQ
    exact rwI hx hb hr hlocks  hP hD hS dX9_worth_57
  · replace hyp := ite_f h_2 hyp
    refine lv_sipush (v := 1000) hx hb dX9_worth_16 (by decide) ?_
    have hP : va_P g.1 vwCl [(o, .inr (9, [.int refu, .ref pn, .ref pt, .ref pr, .ref pw, .ref pb, .int nst, .ref pk, .ref pi, .ref pf, .ref pl, .ref pe, .ref pm, .int nn, .ref px, .int len, .int pos, .int gd, .int ps, .int sm])), (pn, .inl (g.2.1, 61, .inl fnow)), (pt, .inl (g.2.1, 61, .inl r_1.2)), (pr, .inl (g.2.1, 61, .inl frep))] H := hP.sub [0, 2, 3, 1] rfl
    have hD : va_D A [(o, .inr (9, [.int refu, .ref pn, .ref pt, .ref pr, .ref pw, .ref pb, .int nst, .ref pk, .ref pi, .ref pf, .ref pl, .ref pe, .ref pm, .int nn, .ref px, .int len, .int pos, .int gd, .int ps, .int sm])), (pn, .inl (g.2.1, 61, .inl fnow)), (pt, .inl (g.2.1, 61, .inl r_1.2)), (pr, .inl (g.2.1, 61, .inl frep))] := hD.sub [0, 2, 3, 1] (by decide) rfl
    have hyp := some_e hyp
    subst hyp
    subst hQ
    exact rwI hx hb hr hlocks  hP hD hS dX9_worth_19

def fX9_worthOf (fnow : Nat → Int32) (ftri : Nat → Int32) (frep : Nat → Int32) (a1 : Int32) (a2 : Int32) : Option (Int32 × (Nat → Int32) × (Nat → Int32) × Int32) :=
  (fX9_noWay fnow a1 a2).bind (fun (r_1 : Int32 × Int32) => if r_1.1 = 0 then ((fX9_worth fnow ftri frep a1 a2).bind (fun (r_3 : Int32 × (Nat → Int32) × (Nat → Int32)) => some (r_3.1, r_3.2.1, r_3.2.2, r_1.2))) else (some (0, ftri, frep, r_1.2)))
set_option maxRecDepth 100000 in
set_option maxHeartbeats 4000000 in
theorem mX9_worthOf (l : Launch) (g : GE) (o pn pt pr pw pb pk pi pf pl pe pm px : Nat) (refu : Int32) (nst : Int32) (nn : Int32) (len : Int32) (pos : Int32) (gd : Int32) (ps : Int32) (sm : Int32) (fnow : Nat → Int32) (ftri : Nat → Int32) (frep : Nat → Int32) (a1 : Int32) (a2 : Int32) (r : Int32 × (Nat → Int32) × (Nat → Int32) × Int32) (hyp : fX9_worthOf fnow ftri frep a1 a2 = some r) : WM l yX9_worthOf cX9_worthOf 3 (some .int) 8 200 g [(o, .inr (9, [.int refu, .ref pn, .ref pt, .ref pr, .ref pw, .ref pb, .int nst, .ref pk, .ref pi, .ref pf, .ref pl, .ref pe, .ref pm, .int nn, .ref px, .int len, .int pos, .int gd, .int ps, .int sm])), (pn, .inl (g.2.1, 61, .inl fnow)), (pt, .inl (g.2.1, 61, .inl ftri)), (pr, .inl (g.2.1, 61, .inl frep))] [.ref o, .int a1, .int a2] (some (.int r.1)) [(o, .inr (9, [.int r.2.2.2, .ref pn, .ref pt, .ref pr, .ref pw, .ref pb, .int nst, .ref pk, .ref pi, .ref pf, .ref pl, .ref pe, .ref pm, .int nn, .ref px, .int len, .int pos, .int gd, .int ps, .int sm])), (pn, .inl (g.2.1, 61, .inl fnow)), (pt, .inl (g.2.1, 61, .inl r.2.1)), (pr, .inl (g.2.1, 61, .inl r.2.2.1))] := by
  refine metW_intro (by decide) rfl ?_
  intro p e R s m args below meth c Q A hRf hRl hQ hx hb hml hr hlocks hown hts hin hE hA H locs hP hD hS ls hl
  have hown : s.vm.findClass "HallGuardsModel" = some m.cls := hown
  have hl : lv_has ls 3 [(0, .ref o), (1, .int a1), (2, .int a2)] := hl
  unfold fX9_worthOf at hyp
  refine lv_aload_n hx hb dX9_worthOf_0 rfl (lv_at hl 0 rfl) ?_
  refine lv_iload_n hx hb dX9_worthOf_1 rfl (lv_at hl 1 rfl) ?_
  refine lv_iload_n hx hb dX9_worthOf_2 rfl (lv_at hl 2 rfl) ?_
  obtain ⟨r_1, hr_1, hyp⟩ := opt_e hyp
  refine wV (As := [.int a1, .int a2]) (rest := []) ⟨hx, hb, hml, hown, hts⟩ hE (mX9_noWay l g o pn pt pr pw pb pk pi pf pl pe pm px refu nst nn len pos gd ps sm fnow a1 a2 r_1 hr_1) cf_X9_noWay im_X9_noWay se_X9_noWay ml_X9_221 ⟨Nat.le_trans (Nat.le_of_ble_eq_true rfl) hRf, Nat.le_trans (Nat.le_of_ble_eq_true rfl) hRl⟩ hP hD hS hA [0, 1] [2, 3] rfl (wr := [(pt, .inl (g.2.1, 61, .inl ftri)), (pr, .inl (g.2.1, 61, .inl frep))]) rfl ⟨by decide, by decide⟩ (by decide) (ci := 9) (q0 := 0) rfl rfl rfl rfl hl.1 rfl (Nat.le_of_ble_eq_true rfl) dX9_worthOf_3 ⟨Nat.zero_le _, Nat.zero_le _⟩ (fun H locs hP hD hS => ?_)
  have hP : va_P g.1 vwCl [(pt, .inl (g.2.1, 61, .inl ftri)), (pr, .inl (g.2.1, 61, .inl frep)), (o, .inr (9, [.int r_1.2, .ref pn, .ref pt, .ref pr, .ref pw, .ref pb, .int nst, .ref pk, .ref pi, .ref pf, .ref pl, .ref pe, .ref pm, .int nn, .ref px, .int len, .int pos, .int gd, .int ps, .int sm])), (pn, .inl (g.2.1, 61, .inl fnow))] H := hP
  have hD : va_D A [(pt, .inl (g.2.1, 61, .inl ftri)), (pr, .inl (g.2.1, 61, .inl frep)), (o, .inr (9, [.int r_1.2, .ref pn, .ref pt, .ref pr, .ref pw, .ref pb, .int nst, .ref pk, .ref pi, .ref pf, .ref pl, .ref pe, .ref pm, .int nn, .ref px, .int len, .int pos, .int gd, .int ps, .int sm])), (pn, .inl (g.2.1, 61, .inl fnow))] := hD
  refine lv_if_eq (tgt := 13) hx hb dX9_worthOf_6 (by decide) (fun h_2 => ?_) (fun h_2 => ?_)
  · replace hyp := ite_t h_2 hyp
    refine lv_aload_n hx hb dX9_worthOf_13 rfl (lv_at hl 0 rfl) ?_
    refine lv_iload_n hx hb dX9_worthOf_14 rfl (lv_at hl 1 rfl) ?_
    refine lv_iload_n hx hb dX9_worthOf_15 rfl (lv_at hl 2 rfl) ?_
    obtain ⟨r_3, hr_3, hyp⟩ := opt_e hyp
    refine wV (As := [.int a1, .int a2]) (rest := []) ⟨hx, hb, hml, hown, hts⟩ hE (mX9_worth l g o pn pt pr pw pb pk pi pf pl pe pm px r_1.2 nst nn len pos gd ps sm fnow ftri frep a1 a2 r_3 hr_3) cf_X9_worth im_X9_worth se_X9_worth ml_X9_253 ⟨Nat.le_trans (Nat.le_of_ble_eq_true rfl) hRf, Nat.le_trans (Nat.le_of_ble_eq_true rfl) hRl⟩ hP hD hS hA [2, 3, 0, 1] [] rfl (wr := []) rfl ⟨by decide, by decide⟩ (by decide) (ci := 9) (q0 := 0) rfl rfl rfl rfl hl.1 rfl (Nat.le_of_ble_eq_true rfl) dX9_worthOf_16 ⟨Nat.zero_le _, Nat.zero_le _⟩ (fun H locs hP hD hS => ?_)
    have hP : va_P g.1 vwCl [(o, .inr (9, [.int r_1.2, .ref pn, .ref pt, .ref pr, .ref pw, .ref pb, .int nst, .ref pk, .ref pi, .ref pf, .ref pl, .ref pe, .ref pm, .int nn, .ref px, .int len, .int pos, .int gd, .int ps, .int sm])), (pn, .inl (g.2.1, 61, .inl fnow)), (pt, .inl (g.2.1, 61, .inl r_3.2.1)), (pr, .inl (g.2.1, 61, .inl r_3.2.2))] H := hP
    have hD : va_D A [(o, .inr (9, [.int r_1.2, .ref pn, .ref pt, .ref pr, .ref pw, .ref pb, .int nst, .ref pk, .ref pi, .ref pf, .ref pl, .ref pe, .ref pm, .int nn, .ref px, .int len, .int pos, .int gd, .int ps, .int sm])), (pn, .inl (g.2.1, 61, .inl fnow)), (pt, .inl (g.2.1, 61, .inl r_3.2.1)), (pr, .inl (g.2.1, 61, .inl r_3.2.2))] := hD
    have hyp := some_e hyp
    subst hyp
    subst hQ
    exact rwI hx hb hr hlocks  hP hD hS dX9_worthOf_19
  · replace hyp := ite_f h_2 hyp
    refine lv_iconst (v := 0) hx hb dX9_worthOf_9 (by decide) ?_
    refine lv_goto (tgt := 19) hx hb dX9_worthOf_10 (by decide) ?_
    have hP : va_P g.1 vwCl [(o, .inr (9, [.int r_1.2, .ref pn, .ref pt, .ref pr, .ref pw, .ref pb, .int nst, .ref pk, .ref pi, .ref pf, .ref pl, .ref pe, .ref pm, .int nn, .ref px, .int len, .int pos, .int gd, .int ps, .int sm])), (pn, .inl (g.2.1, 61, .inl fnow)), (pt, .inl (g.2.1, 61, .inl ftri)), (pr, .inl (g.2.1, 61, .inl frep))] H := hP.sub [2, 3, 0, 1] rfl
    have hD : va_D A [(o, .inr (9, [.int r_1.2, .ref pn, .ref pt, .ref pr, .ref pw, .ref pb, .int nst, .ref pk, .ref pi, .ref pf, .ref pl, .ref pe, .ref pm, .int nn, .ref px, .int len, .int pos, .int gd, .int ps, .int sm])), (pn, .inl (g.2.1, 61, .inl fnow)), (pt, .inl (g.2.1, 61, .inl ftri)), (pr, .inl (g.2.1, 61, .inl frep))] := hD.sub [2, 3, 0, 1] (by decide) rfl
    have hyp := some_e hyp
    subst hyp
    subst hQ
    exact rwI hx hb hr hlocks  hP hD hS dX9_worthOf_19

def fX9_best_L17_B (fnow : Nat → Int32) (a1 : Int32) (self_6 : Int32 → Int32 → Int32 → (Nat → Int32) → (Nat → Int32) → Option (Int32 × (Nat → Int32) × (Nat → Int32))) (v4_3 : Int32) (self_13 : Int32 → Int32 → Int32 → (Nat → Int32) → (Nat → Int32) → Option (Int32 × (Nat → Int32) × (Nat → Int32))) (v2_8 : Int32) (v3_9 : Int32) (v5_10 : Int32) (wftri_11 : Nat → Int32) (wfrep_12 : Nat → Int32) : Option (Int32 × (Nat → Int32) × (Nat → Int32)) :=
  if 49 ≤ v5_10 then (self_6 v2_8 v3_9 (v4_3 + 1) wftri_11 wfrep_12) else (grd (inB v4_3 61) ((fX9_side (fnow v4_3.toNatClampNeg)).bind (fun (r_15 : Int32) => if r_15 = a1 then ((fX9_against fnow v4_3 v5_10).bind (fun (r_17 : Int32) => jn (fun (t_18 : Int32) (wftri_19 : Nat → Int32) (wfrep_20 : Nat → Int32) => if t_18 ≤ (-99999) then (self_13 v2_8 v3_9 (v5_10 + 1) wftri_19 wfrep_20) else (jn (self_13 ((49 * v4_3) + v5_10) t_18 (v5_10 + 1) wftri_19 wfrep_20) (fun J_23 => if v2_8 = (-1) then (J_23) else (if t_18 ≤ v3_9 then (self_13 v2_8 v3_9 (v5_10 + 1) wftri_19 wfrep_20) else (J_23))))) (fun J_21 => if r_17 = 0 then ((fX9_worth fnow wftri_11 wfrep_12 v4_3 v5_10).bind (fun (r_27 : Int32 × (Nat → Int32) × (Nat → Int32)) => J_21 r_27.1 r_27.2.1 r_27.2.2)) else (J_21 (-99999) wftri_11 wfrep_12)))) else (self_6 v2_8 v3_9 (v4_3 + 1) wftri_11 wfrep_12))))
def fX9_best_L17 (fnow : Nat → Int32) (a1 : Int32) (self_6 : Int32 → Int32 → Int32 → (Nat → Int32) → (Nat → Int32) → Option (Int32 × (Nat → Int32) × (Nat → Int32))) (v4_3 : Int32) (n : Nat) (v2_8 : Int32) (v3_9 : Int32) (v5_10 : Int32) (wftri_11 : Nat → Int32) (wfrep_12 : Nat → Int32) : Option (Int32 × (Nat → Int32) × (Nat → Int32)) := lp (fun zf z => fX9_best_L17_B fnow a1 self_6 v4_3 (fun v2_8 v3_9 v5_10 wftri_11 wfrep_12 => zf (v2_8, v3_9, v5_10, wftri_11, wfrep_12)) z.1 z.2.1 z.2.2.1 z.2.2.2.1 z.2.2.2.2) n (v2_8, v3_9, v5_10, wftri_11, wfrep_12)
def fX9_best_L7_B (fnow : Nat → Int32) (a1 : Int32) (self_6 : Int32 → Int32 → Int32 → (Nat → Int32) → (Nat → Int32) → Option (Int32 × (Nat → Int32) × (Nat → Int32))) (v2_1 : Int32) (v3_2 : Int32) (v4_3 : Int32) (wftri_4 : Nat → Int32) (wfrep_5 : Nat → Int32) : Option (Int32 × (Nat → Int32) × (Nat → Int32)) :=
  if 49 ≤ v4_3 then (some (v2_1, wftri_4, wfrep_5)) else (fX9_best_L17 fnow a1 self_6 v4_3 64 v2_1 v3_2 0 wftri_4 wfrep_5)
def fX9_best_L7 (fnow : Nat → Int32) (a1 : Int32) (n : Nat) (v2_1 : Int32) (v3_2 : Int32) (v4_3 : Int32) (wftri_4 : Nat → Int32) (wfrep_5 : Nat → Int32) : Option (Int32 × (Nat → Int32) × (Nat → Int32)) := lp (fun zf z => fX9_best_L7_B fnow a1 (fun v2_1 v3_2 v4_3 wftri_4 wfrep_5 => zf (v2_1, v3_2, v4_3, wftri_4, wfrep_5)) z.1 z.2.1 z.2.2.1 z.2.2.2.1 z.2.2.2.2) n (v2_1, v3_2, v4_3, wftri_4, wfrep_5)
def fX9_best (fnow : Nat → Int32) (ftri : Nat → Int32) (frep : Nat → Int32) (a1 : Int32) : Option (Int32 × (Nat → Int32) × (Nat → Int32)) :=
  fX9_best_L7 fnow a1 64 (-1) 0 0 ftri frep
set_option maxRecDepth 100000 in
set_option maxHeartbeats 4000000 in
theorem mX9_best (l : Launch) (g : GE) (o pn pt pr pw pb pk pi pf pl pe pm px : Nat) (refu : Int32) (nst : Int32) (nn : Int32) (len : Int32) (pos : Int32) (gd : Int32) (ps : Int32) (sm : Int32) (fnow : Nat → Int32) (ftri : Nat → Int32) (frep : Nat → Int32) (a1 : Int32) (r : Int32 × (Nat → Int32) × (Nat → Int32)) (hyp : fX9_best fnow ftri frep a1 = some r) : WM l yX9_best cX9_best 7 (some .int) 8 200 g [(o, .inr (9, [.int refu, .ref pn, .ref pt, .ref pr, .ref pw, .ref pb, .int nst, .ref pk, .ref pi, .ref pf, .ref pl, .ref pe, .ref pm, .int nn, .ref px, .int len, .int pos, .int gd, .int ps, .int sm])), (pn, .inl (g.2.1, 61, .inl fnow)), (pt, .inl (g.2.1, 61, .inl ftri)), (pr, .inl (g.2.1, 61, .inl frep))] [.ref o, .int a1] (some (.int r.1)) [(o, .inr (9, [.int refu, .ref pn, .ref pt, .ref pr, .ref pw, .ref pb, .int nst, .ref pk, .ref pi, .ref pf, .ref pl, .ref pe, .ref pm, .int nn, .ref px, .int len, .int pos, .int gd, .int ps, .int sm])), (pn, .inl (g.2.1, 61, .inl fnow)), (pt, .inl (g.2.1, 61, .inl r.2.1)), (pr, .inl (g.2.1, 61, .inl r.2.2))] := by
  refine metW_intro (by decide) rfl ?_
  intro p e R s m args below meth c Q A hRf hRl hQ hx hb hml hr hlocks hown hts hin hE hA H locs hP hD hS ls hl
  have hown : s.vm.findClass "HallGuardsModel" = some m.cls := hown
  have hl : lv_has ls 7 [(0, .ref o), (1, .int a1)] := hl
  unfold fX9_best at hyp
  refine lv_iconst (v := (-1)) hx hb dX9_best_0 (by decide) ?_
  refine lv_istore_n (lv' := [(2, .int (-1)), (0, .ref o), (1, .int a1)]) hx hb dX9_best_1 rfl hl (by decide) rfl (fun ls hl => ?_)
  refine lv_iconst (v := 0) hx hb dX9_best_2 (by decide) ?_
  refine lv_istore_n (lv' := [(3, .int 0), (2, .int (-1)), (0, .ref o), (1, .int a1)]) hx hb dX9_best_3 rfl hl (by decide) rfl (fun ls hl => ?_)
  refine lv_iconst (v := 0) hx hb dX9_best_4 (by decide) ?_
  refine lv_istore (lv' := [(4, .int 0), (3, .int 0), (2, .int (-1)), (0, .ref o), (1, .int a1)]) hx hb dX9_best_5 hl (by decide) rfl (fun ls hl => ?_)
  refine lp_i (r := r) (fun z : Int32 × Int32 × Int32 × (Nat → Int32) × (Nat → Int32) => ∀ (H : Heap) (locs : List Loc) (ls : Array Slot), lv_has ls 7 [(0, .ref o), (1, .int a1), (2, .int z.1), (3, .int z.2.1), (4, .int z.2.2.1)] → va_P g.1 vwCl [(o, .inr (9, [.int refu, .ref pn, .ref pt, .ref pr, .ref pw, .ref pb, .int nst, .ref pk, .ref pi, .ref pf, .ref pl, .ref pe, .ref pm, .int nn, .ref px, .int len, .int pos, .int gd, .int ps, .int sm])), (pn, .inl (g.2.1, 61, .inl fnow)), (pt, .inl (g.2.1, 61, .inl z.2.2.2.1)), (pr, .inl (g.2.1, 61, .inl z.2.2.2.2))] H → va_D A [(o, .inr (9, [.int refu, .ref pn, .ref pt, .ref pr, .ref pw, .ref pb, .int nst, .ref pk, .ref pi, .ref pf, .ref pl, .ref pe, .ref pm, .int nn, .ref px, .int len, .int pos, .int gd, .int ps, .int sm])), (pn, .inl (g.2.1, 61, .inl fnow)), (pt, .inl (g.2.1, 61, .inl z.2.2.2.1)), (pr, .inl (g.2.1, 61, .inl z.2.2.2.2))] → va_S A s.heap H locs → W p l e R s m args below meth c H locs 0 0 Q (F0 m 7 ls [])) ?_ 64 ((-1), 0, 0, ftri, frep) hyp _ _ ls (lv_sub hl [3, 4, 2, 1, 0] rfl) hP hD hS
  intro self_6T ihself_6T z hyp H locs ls hl hP hD hS
  obtain ⟨v2_1, v3_2, v4_3, wftri_4, wfrep_5⟩ := z
  obtain ⟨self_6, eself_6⟩ : ∃ f9 : Int32 → Int32 → Int32 → (Nat → Int32) → (Nat → Int32) → Option (Int32 × (Nat → Int32) × (Nat → Int32)), f9 = fun v2_1 v3_2 v4_3 wftri_4 wfrep_5 => self_6T (v2_1, v3_2, v4_3, wftri_4, wfrep_5) := ⟨_, rfl⟩
  have ihself_6 := fun (v2_1 : Int32) (v3_2 : Int32) (v4_3 : Int32) (wftri_4 : Nat → Int32) (wfrep_5 : Nat → Int32) (h9 : self_6 v2_1 v3_2 v4_3 wftri_4 wfrep_5 = some r) => ihself_6T (v2_1, v3_2, v4_3, wftri_4, wfrep_5) (by rw [eself_6] at h9; exact h9)
  replace hyp : fX9_best_L7_B fnow a1 self_6 v2_1 v3_2 v4_3 wftri_4 wfrep_5 = some r := by rw [eself_6]; exact hyp
  have hl : lv_has ls 7 [(0, .ref o), (1, .int a1), (2, .int v2_1), (3, .int v3_2), (4, .int v4_3)] := hl
  have hP : va_P g.1 vwCl [(o, .inr (9, [.int refu, .ref pn, .ref pt, .ref pr, .ref pw, .ref pb, .int nst, .ref pk, .ref pi, .ref pf, .ref pl, .ref pe, .ref pm, .int nn, .ref px, .int len, .int pos, .int gd, .int ps, .int sm])), (pn, .inl (g.2.1, 61, .inl fnow)), (pt, .inl (g.2.1, 61, .inl wftri_4)), (pr, .inl (g.2.1, 61, .inl wfrep_5))] H := hP
  have hD : va_D A [(o, .inr (9, [.int refu, .ref pn, .ref pt, .ref pr, .ref pw, .ref pb, .int nst, .ref pk, .ref pi, .ref pf, .ref pl, .ref pe, .ref pm, .int nn, .ref px, .int len, .int pos, .int gd, .int ps, .int sm])), (pn, .inl (g.2.1, 61, .inl fnow)), (pt, .inl (g.2.1, 61, .inl wftri_4)), (pr, .inl (g.2.1, 61, .inl wfrep_5))] := hD
  show W p l e R s m args below meth c H locs 0 0 Q (F0 m 7 ls [])
  unfold fX9_best_L7_B at hyp
  refine lv_iload hx hb dX9_best_7 (lv_at hl 4 rfl) ?_
  refine lv_bipush (v := 49) hx hb dX9_best_9 (by decide) ?_
  refine lv_icmp_ge (tgt := 111) hx hb dX9_best_11 (by decide) (fun h_7 => ?_) (fun h_7 => ?_)
  · replace hyp := ite_t h_7 hyp
    refine lv_iload_n hx hb dX9_best_111 rfl (lv_at hl 2 rfl) ?_
    have hyp := some_e hyp
    subst hyp
    subst hQ
    exact rwI hx hb hr hlocks  hP hD hS dX9_best_112
  · replace hyp := ite_f h_7 hyp
    refine lv_iconst (v := 0) hx hb dX9_best_14 (by decide) ?_
    refine lv_istore (lv' := [(5, .int 0), (0, .ref o), (1, .int a1), (2, .int v2_1), (3, .int v3_2), (4, .int v4_3)]) hx hb dX9_best_15 hl (by decide) rfl (fun ls hl => ?_)
    refine lp_i (r := r) (fun z : Int32 × Int32 × Int32 × (Nat → Int32) × (Nat → Int32) => ∀ (H : Heap) (locs : List Loc) (ls : Array Slot), lv_has ls 7 [(0, .ref o), (1, .int a1), (2, .int z.1), (3, .int z.2.1), (4, .int v4_3), (5, .int z.2.2.1)] → va_P g.1 vwCl [(o, .inr (9, [.int refu, .ref pn, .ref pt, .ref pr, .ref pw, .ref pb, .int nst, .ref pk, .ref pi, .ref pf, .ref pl, .ref pe, .ref pm, .int nn, .ref px, .int len, .int pos, .int gd, .int ps, .int sm])), (pn, .inl (g.2.1, 61, .inl fnow)), (pt, .inl (g.2.1, 61, .inl z.2.2.2.1)), (pr, .inl (g.2.1, 61, .inl z.2.2.2.2))] H → va_D A [(o, .inr (9, [.int refu, .ref pn, .ref pt, .ref pr, .ref pw, .ref pb, .int nst, .ref pk, .ref pi, .ref pf, .ref pl, .ref pe, .ref pm, .int nn, .ref px, .int len, .int pos, .int gd, .int ps, .int sm])), (pn, .inl (g.2.1, 61, .inl fnow)), (pt, .inl (g.2.1, 61, .inl z.2.2.2.1)), (pr, .inl (g.2.1, 61, .inl z.2.2.2.2))] → va_S A s.heap H locs → W p l e R s m args below meth c H locs 0 0 Q (F0 m 17 ls [])) ?_ 64 (v2_1, v3_2, 0, wftri_4, wfrep_5) hyp _ _ ls (lv_sub hl [1, 2, 3, 4, 5, 0] rfl) hP hD hS
    intro self_13T ihself_13T z hyp H locs ls hl hP hD hS
    obtain ⟨v2_8, v3_9, v5_10, wftri_11, wfrep_12⟩ := z
    obtain ⟨self_13, eself_13⟩ : ∃ f9 : Int32 → Int32 → Int32 → (Nat → Int32) → (Nat → Int32) → Option (Int32 × (Nat → Int32) × (Nat → Int32)), f9 = fun v2_8 v3_9 v5_10 wftri_11 wfrep_12 => self_13T (v2_8, v3_9, v5_10, wftri_11, wfrep_12) := ⟨_, rfl⟩
    have ihself_13 := fun (v2_8 : Int32) (v3_9 : Int32) (v5_10 : Int32) (wftri_11 : Nat → Int32) (wfrep_12 : Nat → Int32) (h9 : self_13 v2_8 v3_9 v5_10 wftri_11 wfrep_12 = some r) => ihself_13T (v2_8, v3_9, v5_10, wftri_11, wfrep_12) (by rw [eself_13] at h9; exact h9)
    replace hyp : fX9_best_L17_B fnow a1 self_6 v4_3 self_13 v2_8 v3_9 v5_10 wftri_11 wfrep_12 = some r := by rw [eself_13]; exact hyp
    have hl : lv_has ls 7 [(0, .ref o), (1, .int a1), (2, .int v2_8), (3, .int v3_9), (4, .int v4_3), (5, .int v5_10)] := hl
    have hP : va_P g.1 vwCl [(o, .inr (9, [.int refu, .ref pn, .ref pt, .ref pr, .ref pw, .ref pb, .int nst, .ref pk, .ref pi, .ref pf, .ref pl, .ref pe, .ref pm, .int nn, .ref px, .int len, .int pos, .int gd, .int ps, .int sm])), (pn, .inl (g.2.1, 61, .inl fnow)), (pt, .inl (g.2.1, 61, .inl wftri_11)), (pr, .inl (g.2.1, 61, .inl wfrep_12))] H := hP
    have hD : va_D A [(o, .inr (9, [.int refu, .ref pn, .ref pt, .ref pr, .ref pw, .ref pb, .int nst, .ref pk, .ref pi, .ref pf, .ref pl, .ref pe, .ref pm, .int nn, .ref px, .int len, .int pos, .int gd, .int ps, .int sm])), (pn, .inl (g.2.1, 61, .inl fnow)), (pt, .inl (g.2.1, 61, .inl wftri_11)), (pr, .inl (g.2.1, 61, .inl wfrep_12))] := hD
    show W p l e R s m args below meth c H locs 0 0 Q (F0 m 17 ls [])
    unfold fX9_best_L17_B at hyp
    refine lv_iload hx hb dX9_best_17 (lv_at hl 5 rfl) ?_
    refine lv_bipush (v := 49) hx hb dX9_best_19 (by decide) ?_
    refine lv_icmp_ge (tgt := 105) hx hb dX9_best_21 (by decide) (fun h_14 => ?_) (fun h_14 => ?_)
    · replace hyp := ite_t h_14 hyp
      refine lv_iinc (v := v4_3 + 1) (lv' := [(4, .int (v4_3 + 1)), (0, .ref o), (1, .int a1), (2, .int v2_8), (3, .int v3_9), (5, .int v5_10)]) hx hb dX9_best_105 hl (k := 4) rfl rfl (by decide) rfl (fun ls hl => ?_)
      refine lv_goto (tgt := 7) hx hb dX9_best_108 (by decide) ?_
      exact ihself_6 v2_8 v3_9 (v4_3 + 1) wftri_11 wfrep_12 hyp H locs ls (lv_sub hl [1, 2, 3, 4, 0] rfl) hP hD hS
    · replace hyp := ite_f h_14 hyp
      refine lv_aload_n hx hb dX9_best_24 rfl (lv_at hl 0 rfl) ?_
      refine gf_X9_7 hx hb hts hown hE hP 0 rfl rfl dX9_best_25 ?_
      refine lv_iload hx hb dX9_best_28 (lv_at hl 4 rfl) ?_
      obtain ⟨hi, hyp⟩ := grd_e hyp
      refine va_iald hx hb hE.1 hP 1 0 rfl rfl (inB_vp hi) dX9_best_30 ?_
      obtain ⟨r_15, hr_15, hyp⟩ := opt_e hyp
      refine pS (As := [.int (fnow v4_3.toNatClampNeg)]) (rest := []) ⟨hx, hb, hml, hown, hts⟩ hE (mX9_side l g (fnow v4_3.toNatClampNeg) r_15 hr_15) cf_X9_side st_X9_side ml_X9_72 ⟨Nat.le_trans (Nat.le_of_ble_eq_true rfl) hRf, Nat.le_trans (Nat.le_of_ble_eq_true rfl) hRl⟩ (va_P_nil) rfl hl.1 rfl (Nat.le_of_ble_eq_true rfl) dX9_best_31 ⟨Nat.zero_le _, Nat.zero_le _⟩ ?_
      refine lv_iload_n hx hb dX9_best_34 rfl (lv_at hl 1 rfl) ?_
      refine lv_icmp_ne (tgt := 105) hx hb dX9_best_35 (by decide) (fun h_16 => ?_) (fun h_16 => ?_)
      · replace hyp := ite_f h_16 hyp
        refine lv_iinc (v := v4_3 + 1) (lv' := [(4, .int (v4_3 + 1)), (0, .ref o), (1, .int a1), (2, .int v2_8), (3, .int v3_9), (5, .int v5_10)]) hx hb dX9_best_105 hl (k := 4) rfl rfl (by decide) rfl (fun ls hl => ?_)
        refine lv_goto (tgt := 7) hx hb dX9_best_108 (by decide) ?_
        exact ihself_6 v2_8 v3_9 (v4_3 + 1) wftri_11 wfrep_12 hyp H locs ls (lv_sub hl [1, 2, 3, 4, 0] rfl) hP hD hS
      · replace hyp := ite_t h_16 hyp
        refine lv_aload_n hx hb dX9_best_38 rfl (lv_at hl 0 rfl) ?_
        refine gf_X9_7 hx hb hts hown hE hP 0 rfl rfl dX9_best_39 ?_
        refine lv_iload hx hb dX9_best_42 (lv_at hl 4 rfl) ?_
        refine lv_iload hx hb dX9_best_44 (lv_at hl 5 rfl) ?_
        obtain ⟨r_17, hr_17, hyp⟩ := opt_e hyp
        refine pS (As := [.ref pn, .int v4_3, .int v5_10]) (rest := []) ⟨hx, hb, hml, hown, hts⟩ hE (mX9_against l g pn fnow v4_3 v5_10 r_17 hr_17) cf_X9_against st_X9_against ml_X9_132 ⟨Nat.le_trans (Nat.le_of_ble_eq_true rfl) hRf, Nat.le_trans (Nat.le_of_ble_eq_true rfl) hRl⟩ (hP.sub (ws' := [(pn, .inl (g.2.1, 61, .inl fnow))]) [1] rfl) rfl hl.1 rfl (Nat.le_of_ble_eq_true rfl) dX9_best_46 ⟨Nat.zero_le _, Nat.zero_le _⟩ ?_
        obtain ⟨J_21, eJ_21, hyp⟩ := jn_e hyp
        have kJ_21 : ∀ (t_18 : Int32) (wftri_19 : Nat → Int32) (wfrep_20 : Nat → Int32) (H : Heap) (locs : List Loc) (ls : Array Slot), J_21 t_18 wftri_19 wfrep_20 = some r → lv_has ls 7 [(0, .ref o), (1, .int a1), (2, .int v2_8), (3, .int v3_9), (4, .int v4_3), (5, .int v5_10)] → va_P g.1 vwCl [(o, .inr (9, [.int refu, .ref pn, .ref pt, .ref pr, .ref pw, .ref pb, .int nst, .ref pk, .ref pi, .ref pf, .ref pl, .ref pe, .ref pm, .int nn, .ref px, .int len, .int pos, .int gd, .int ps, .int sm])), (pn, .inl (g.2.1, 61, .inl fnow)), (pt, .inl (g.2.1, 61, .inl wftri_19)), (pr, .inl (g.2.1, 61, .inl wfrep_20))] H → va_D A [(o, .inr (9, [.int refu, .ref pn, .ref pt, .ref pr, .ref pw, .ref pb, .int nst, .ref pk, .ref pi, .ref pf, .ref pl, .ref pe, .ref pm, .int nn, .ref px, .int len, .int pos, .int gd, .int ps, .int sm])), (pn, .inl (g.2.1, 61, .inl fnow)), (pt, .inl (g.2.1, 61, .inl wftri_19)), (pr, .inl (g.2.1, 61, .inl wfrep_20))] → va_S A s.heap H locs → W p l e R s m args below meth c H locs 0 0 Q (F0 m 66 ls [.int t_18]) := by
          intro t_18 wftri_19 wfrep_20 H locs  ls hyp hl hP hD hS
          replace hyp := (congrFun (congrFun (congrFun (eJ_21) t_18) wftri_19) wfrep_20).symm.trans hyp
          refine lv_istore (lv' := [(6, .int t_18), (0, .ref o), (1, .int a1), (2, .int v2_8), (3, .int v3_9), (4, .int v4_3), (5, .int v5_10)]) hx hb dX9_best_66 hl (by decide) rfl (fun ls hl => ?_)
          refine lv_iload hx hb dX9_best_68 (lv_at hl 0 rfl) ?_
          refine lv_ldcw (v := (-99999)) hx hb hown (hts _ ct_X9_256) dX9_best_70 ?_
          refine lv_icmp_le (tgt := 99) hx hb dX9_best_73 (by decide) (fun h_22 => ?_) (fun h_22 => ?_)
          · replace hyp := ite_t h_22 hyp
            refine lv_iinc (v := v5_10 + 1) (lv' := [(5, .int (v5_10 + 1)), (6, .int t_18), (0, .ref o), (1, .int a1), (2, .int v2_8), (3, .int v3_9), (4, .int v4_3)]) hx hb dX9_best_99 hl (k := 6) rfl rfl (by decide) rfl (fun ls hl => ?_)
            refine lv_goto (tgt := 17) hx hb dX9_best_102 (by decide) ?_
            exact ihself_13 v2_8 v3_9 (v5_10 + 1) wftri_19 wfrep_20 hyp H locs ls (lv_sub hl [2, 3, 4, 5, 6, 0] rfl) hP hD hS
          · replace hyp := ite_f h_22 hyp
            refine lv_iload_n hx hb dX9_best_76 rfl (lv_at hl 3 rfl) ?_
            refine lv_iconst (v := (-1)) hx hb dX9_best_77 (by decide) ?_
            obtain ⟨J_23, eJ_23, hyp⟩ := jn_e hyp
            have kJ_23 : ∀ (H : Heap) (locs : List Loc) (ls : Array Slot), J_23 = some r → lv_has ls 7 [(0, .ref o), (1, .int a1), (4, .int v4_3), (5, .int v5_10), (6, .int t_18)] → va_P g.1 vwCl [(o, .inr (9, [.int refu, .ref pn, .ref pt, .ref pr, .ref pw, .ref pb, .int nst, .ref pk, .ref pi, .ref pf, .ref pl, .ref pe, .ref pm, .int nn, .ref px, .int len, .int pos, .int gd, .int ps, .int sm])), (pn, .inl (g.2.1, 61, .inl fnow)), (pt, .inl (g.2.1, 61, .inl wftri_19)), (pr, .inl (g.2.1, 61, .inl wfrep_20))] H → va_D A [(o, .inr (9, [.int refu, .ref pn, .ref pt, .ref pr, .ref pw, .ref pb, .int nst, .ref pk, .ref pi, .ref pf, .ref pl, .ref pe, .ref pm, .int nn, .ref px, .int len, .int pos, .int gd, .int ps, .int sm])), (pn, .inl (g.2.1, 61, .inl fnow)), (pt, .inl (g.2.1, 61, .inl wftri_19)), (pr, .inl (g.2.1, 61, .inl wfrep_20))] → va_S A s.heap H locs → W p l e R s m args below meth c H locs 0 0 Q (F0 m 87 ls []) := by
              intro H locs  ls hyp hl hP hD hS
              replace hyp := (eJ_23).symm.trans hyp
              refine lv_bipush (v := 49) hx hb dX9_best_87 (by decide) ?_
              refine lv_iload hx hb dX9_best_89 (lv_at hl 2 rfl) ?_
              refine lv_imul hx hb dX9_best_91 ?_
              refine lv_iload hx hb dX9_best_92 (lv_at hl 3 rfl) ?_
              refine lv_iadd hx hb dX9_best_94 ?_
              refine lv_istore_n (lv' := [(2, .int ((49 * v4_3) + v5_10)), (0, .ref o), (1, .int a1), (4, .int v4_3), (5, .int v5_10), (6, .int t_18)]) hx hb dX9_best_95 rfl hl (by decide) rfl (fun ls hl => ?_)
              refine lv_iload hx hb dX9_best_96 (lv_at hl 5 rfl) ?_
              refine lv_istore_n (lv' := [(3, .int t_18), (2, .int ((49 * v4_3) + v5_10)), (0, .ref o), (1, .int a1), (4, .int v4_3), (5, .int v5_10), (6, .int t_18)]) hx hb dX9_best_98 rfl hl (by decide) rfl (fun ls hl => ?_)
              refine lv_iinc (v := v5_10 + 1) (lv' := [(5, .int (v5_10 + 1)), (3, .int t_18), (2, .int ((49 * v4_3) + v5_10)), (0, .ref o), (1, .int a1), (4, .int v4_3), (6, .int t_18)]) hx hb dX9_best_99 hl (k := 5) rfl rfl (by decide) rfl (fun ls hl => ?_)
              refine lv_goto (tgt := 17) hx hb dX9_best_102 (by decide) ?_
              exact ihself_13 ((49 * v4_3) + v5_10) t_18 (v5_10 + 1) wftri_19 wfrep_20 hyp H locs ls (lv_sub hl [3, 4, 2, 1, 5, 0] rfl) hP hD hS
            refine lv_icmp_eq (tgt := 87) hx hb dX9_best_78 (by decide) (fun h_24 => ?_) (fun h_24 => ?_)
            · replace hyp := ite_t h_24 hyp
              exact kJ_23 H locs ls hyp (lv_sub hl [1, 2, 5, 6, 0] rfl) hP hD hS
            · replace hyp := ite_f h_24 hyp
              refine lv_iload hx hb dX9_best_81 (lv_at hl 0 rfl) ?_
              refine lv_iload_n hx hb dX9_best_83 rfl (lv_at hl 4 rfl) ?_
              refine lv_icmp_le (tgt := 99) hx hb dX9_best_84 (by decide) (fun h_25 => ?_) (fun h_25 => ?_)
              · replace hyp := ite_t h_25 hyp
                refine lv_iinc (v := v5_10 + 1) (lv' := [(5, .int (v5_10 + 1)), (6, .int t_18), (0, .ref o), (1, .int a1), (2, .int v2_8), (3, .int v3_9), (4, .int v4_3)]) hx hb dX9_best_99 hl (k := 6) rfl rfl (by decide) rfl (fun ls hl => ?_)
                refine lv_goto (tgt := 17) hx hb dX9_best_102 (by decide) ?_
                exact ihself_13 v2_8 v3_9 (v5_10 + 1) wftri_19 wfrep_20 hyp H locs ls (lv_sub hl [2, 3, 4, 5, 6, 0] rfl) hP hD hS
              · replace hyp := ite_f h_25 hyp
                exact kJ_23 H locs ls hyp (lv_sub hl [1, 2, 5, 6, 0] rfl) hP hD hS
        refine lv_if_ne (tgt := 63) hx hb dX9_best_49 (by decide) (fun h_26 => ?_) (fun h_26 => ?_)
        · replace hyp := ite_f h_26 hyp
          refine lv_ldcw (v := (-99999)) hx hb hown (hts _ ct_X9_256) dX9_best_63 ?_
          exact kJ_21 (-99999) wftri_11 wfrep_12 H locs ls hyp hl hP hD hS
        · replace hyp := ite_t h_26 hyp
          refine lv_aload_n hx hb dX9_best_52 rfl (lv_at hl 0 rfl) ?_
          refine lv_iload hx hb dX9_best_53 (lv_at hl 4 rfl) ?_
          refine lv_iload hx hb dX9_best_55 (lv_at hl 5 rfl) ?_
          obtain ⟨r_27, hr_27, hyp⟩ := opt_e hyp
          refine wV (As := [.int v4_3, .int v5_10]) (rest := []) ⟨hx, hb, hml, hown, hts⟩ hE (mX9_worth l g o pn pt pr pw pb pk pi pf pl pe pm px refu nst nn len pos gd ps sm fnow wftri_11 wfrep_12 v4_3 v5_10 r_27 hr_27) cf_X9_worth im_X9_worth se_X9_worth ml_X9_253 ⟨Nat.le_trans (Nat.le_of_ble_eq_true rfl) hRf, Nat.le_trans (Nat.le_of_ble_eq_true rfl) hRl⟩ hP hD hS hA [0, 1, 2, 3] [] rfl (wr := []) rfl ⟨by decide, by decide⟩ (by decide) (ci := 9) (q0 := 0) rfl rfl rfl rfl hl.1 rfl (Nat.le_of_ble_eq_true rfl) dX9_best_57 ⟨Nat.zero_le _, Nat.zero_le _⟩ (fun H locs hP hD hS => ?_)
          have hP : va_P g.1 vwCl [(o, .inr (9, [.int refu, .ref pn, .ref pt, .ref pr, .ref pw, .ref pb, .int nst, .ref pk, .ref pi, .ref pf, .ref pl, .ref pe, .ref pm, .int nn, .ref px, .int len, .int pos, .int gd, .int ps, .int sm])), (pn, .inl (g.2.1, 61, .inl fnow)), (pt, .inl (g.2.1, 61, .inl r_27.2.1)), (pr, .inl (g.2.1, 61, .inl r_27.2.2))] H := hP
          have hD : va_D A [(o, .inr (9, [.int refu, .ref pn, .ref pt, .ref pr, .ref pw, .ref pb, .int nst, .ref pk, .ref pi, .ref pf, .ref pl, .ref pe, .ref pm, .int nn, .ref px, .int len, .int pos, .int gd, .int ps, .int sm])), (pn, .inl (g.2.1, 61, .inl fnow)), (pt, .inl (g.2.1, 61, .inl r_27.2.1)), (pr, .inl (g.2.1, 61, .inl r_27.2.2))] := hD
          refine lv_goto (tgt := 66) hx hb dX9_best_60 (by decide) ?_
          exact kJ_21 r_27.1 r_27.2.1 r_27.2.2 H locs ls hyp hl hP hD hS

def fX9_bestMove (fnow : Nat → Int32) (ftri : Nat → Int32) (frep : Nat → Int32) (a1 : Int32) : Option (Int32 × (Nat → Int32) × (Nat → Int32) × Int32) :=
  (fX9_isSide a1).bind (fun (r_1 : Int32) => jn (fun (t_2 : Int32) => (fX9_refused t_2).bind (fun (r_4 : Int32 × Int32) => if r_4.1 = 0 then ((fX9_best fnow ftri frep a1).bind (fun (r_6 : Int32 × (Nat → Int32) × (Nat → Int32)) => some (r_6.1, r_6.2.1, r_6.2.2, r_4.2))) else (some (0, ftri, frep, r_4.2)))) (fun J_3 => if r_1 = 0 then (J_3 1) else ((fX9_moveCount fnow a1).bind (fun (r_8 : Int32) => if r_8 = 0 then (J_3 2) else (J_3 0)))))
set_option maxRecDepth 100000 in
set_option maxHeartbeats 4000000 in
theorem mX9_bestMove (l : Launch) (g : GE) (o pn pt pr pw pb pk pi pf pl pe pm px : Nat) (refu : Int32) (nst : Int32) (nn : Int32) (len : Int32) (pos : Int32) (gd : Int32) (ps : Int32) (sm : Int32) (fnow : Nat → Int32) (ftri : Nat → Int32) (frep : Nat → Int32) (a1 : Int32) (r : Int32 × (Nat → Int32) × (Nat → Int32) × Int32) (hyp : fX9_bestMove fnow ftri frep a1 = some r) : WM l yX9_bestMove cX9_bestMove 2 (some .int) 9 226 g [(o, .inr (9, [.int refu, .ref pn, .ref pt, .ref pr, .ref pw, .ref pb, .int nst, .ref pk, .ref pi, .ref pf, .ref pl, .ref pe, .ref pm, .int nn, .ref px, .int len, .int pos, .int gd, .int ps, .int sm])), (pn, .inl (g.2.1, 61, .inl fnow)), (pt, .inl (g.2.1, 61, .inl ftri)), (pr, .inl (g.2.1, 61, .inl frep))] [.ref o, .int a1] (some (.int r.1)) [(o, .inr (9, [.int r.2.2.2, .ref pn, .ref pt, .ref pr, .ref pw, .ref pb, .int nst, .ref pk, .ref pi, .ref pf, .ref pl, .ref pe, .ref pm, .int nn, .ref px, .int len, .int pos, .int gd, .int ps, .int sm])), (pn, .inl (g.2.1, 61, .inl fnow)), (pt, .inl (g.2.1, 61, .inl r.2.1)), (pr, .inl (g.2.1, 61, .inl r.2.2.1))] := by
  refine metW_intro (by decide) rfl ?_
  intro p e R s m args below meth c Q A hRf hRl hQ hx hb hml hr hlocks hown hts hin hE hA H locs hP hD hS ls hl
  have hown : s.vm.findClass "HallGuardsModel" = some m.cls := hown
  have hl : lv_has ls 2 [(0, .ref o), (1, .int a1)] := hl
  unfold fX9_bestMove at hyp
  refine lv_aload_n hx hb dX9_bestMove_0 rfl (lv_at hl 0 rfl) ?_
  refine lv_iload_n hx hb dX9_bestMove_1 rfl (lv_at hl 1 rfl) ?_
  obtain ⟨r_1, hr_1, hyp⟩ := opt_e hyp
  refine pS (As := [.int a1]) (rest := [.ref o]) ⟨hx, hb, hml, hown, hts⟩ hE (mX9_isSide l g a1 r_1 hr_1) cf_X9_isSide st_X9_isSide ml_X9_156 ⟨Nat.le_trans (Nat.le_of_ble_eq_true rfl) hRf, Nat.le_trans (Nat.le_of_ble_eq_true rfl) hRl⟩ (va_P_nil) rfl hl.1 rfl (Nat.le_of_ble_eq_true rfl) dX9_bestMove_2 ⟨Nat.zero_le _, Nat.zero_le _⟩ ?_
  obtain ⟨J_3, eJ_3, hyp⟩ := jn_e hyp
  have kJ_3 : ∀ (t_2 : Int32) (H : Heap) (locs : List Loc) (ls : Array Slot), J_3 t_2 = some r → lv_has ls 2 [(0, .ref o), (1, .int a1)] → va_P g.1 vwCl [(o, .inr (9, [.int refu, .ref pn, .ref pt, .ref pr, .ref pw, .ref pb, .int nst, .ref pk, .ref pi, .ref pf, .ref pl, .ref pe, .ref pm, .int nn, .ref px, .int len, .int pos, .int gd, .int ps, .int sm])), (pn, .inl (g.2.1, 61, .inl fnow)), (pt, .inl (g.2.1, 61, .inl ftri)), (pr, .inl (g.2.1, 61, .inl frep))] H → va_D A [(o, .inr (9, [.int refu, .ref pn, .ref pt, .ref pr, .ref pw, .ref pb, .int nst, .ref pk, .ref pi, .ref pf, .ref pl, .ref pe, .ref pm, .int nn, .ref px, .int len, .int pos, .int gd, .int ps, .int sm])), (pn, .inl (g.2.1, 61, .inl fnow)), (pt, .inl (g.2.1, 61, .inl ftri)), (pr, .inl (g.2.1, 61, .inl frep))] → va_S A s.heap H locs → W p l e R s m args below meth c H locs 0 0 Q (F0 m 28 ls [.int t_2, .ref o]) := by
    intro t_2 H locs  ls hyp hl hP hD hS
    replace hyp := (congrFun (eJ_3) t_2).symm.trans hyp
    obtain ⟨r_4, hr_4, hyp⟩ := opt_e hyp
    refine wV (As := [.int t_2]) (rest := []) ⟨hx, hb, hml, hown, hts⟩ hE (mX9_refused l g o pn pt pr pw pb pk pi pf pl pe pm px refu nst nn len pos gd ps sm t_2 r_4 hr_4) cf_X9_refused im_X9_refused se_X9_refused ml_X9_153 ⟨Nat.le_trans (Nat.le_of_ble_eq_true rfl) hRf, Nat.le_trans (Nat.le_of_ble_eq_true rfl) hRl⟩ hP hD hS hA [0] [1, 2, 3] rfl (wr := [(pn, .inl (g.2.1, 61, .inl fnow)), (pt, .inl (g.2.1, 61, .inl ftri)), (pr, .inl (g.2.1, 61, .inl frep))]) rfl ⟨by decide, by decide⟩ (by decide) (ci := 9) (q0 := 0) rfl rfl rfl rfl hl.1 rfl (Nat.le_of_ble_eq_true rfl) dX9_bestMove_28 ⟨Nat.zero_le _, Nat.zero_le _⟩ (fun H locs hP hD hS => ?_)
    have hP : va_P g.1 vwCl [(pn, .inl (g.2.1, 61, .inl fnow)), (pt, .inl (g.2.1, 61, .inl ftri)), (pr, .inl (g.2.1, 61, .inl frep)), (o, .inr (9, [.int r_4.2, .ref pn, .ref pt, .ref pr, .ref pw, .ref pb, .int nst, .ref pk, .ref pi, .ref pf, .ref pl, .ref pe, .ref pm, .int nn, .ref px, .int len, .int pos, .int gd, .int ps, .int sm]))] H := hP
    have hD : va_D A [(pn, .inl (g.2.1, 61, .inl fnow)), (pt, .inl (g.2.1, 61, .inl ftri)), (pr, .inl (g.2.1, 61, .inl frep)), (o, .inr (9, [.int r_4.2, .ref pn, .ref pt, .ref pr, .ref pw, .ref pb, .int nst, .ref pk, .ref pi, .ref pf, .ref pl, .ref pe, .ref pm, .int nn, .ref px, .int len, .int pos, .int gd, .int ps, .int sm]))] := hD
    refine lv_if_eq (tgt := 38) hx hb dX9_bestMove_31 (by decide) (fun h_5 => ?_) (fun h_5 => ?_)
    · replace hyp := ite_t h_5 hyp
      refine lv_aload_n hx hb dX9_bestMove_38 rfl (lv_at hl 0 rfl) ?_
      refine lv_iload_n hx hb dX9_bestMove_39 rfl (lv_at hl 1 rfl) ?_
      obtain ⟨r_6, hr_6, hyp⟩ := opt_e hyp
      refine wV (As := [.int a1]) (rest := []) ⟨hx, hb, hml, hown, hts⟩ hE (mX9_best l g o pn pt pr pw pb pk pi pf pl pe pm px r_4.2 nst nn len pos gd ps sm fnow ftri frep a1 r_6 hr_6) cf_X9_best im_X9_best se_X9_best ml_X9_257 ⟨Nat.le_trans (Nat.le_of_ble_eq_true rfl) hRf, Nat.le_trans (Nat.le_of_ble_eq_true rfl) hRl⟩ hP hD hS hA [3, 0, 1, 2] [] rfl (wr := []) rfl ⟨by decide, by decide⟩ (by decide) (ci := 9) (q0 := 0) rfl rfl rfl rfl hl.1 rfl (Nat.le_of_ble_eq_true rfl) dX9_bestMove_40 ⟨Nat.zero_le _, Nat.zero_le _⟩ (fun H locs hP hD hS => ?_)
      have hP : va_P g.1 vwCl [(o, .inr (9, [.int r_4.2, .ref pn, .ref pt, .ref pr, .ref pw, .ref pb, .int nst, .ref pk, .ref pi, .ref pf, .ref pl, .ref pe, .ref pm, .int nn, .ref px, .int len, .int pos, .int gd, .int ps, .int sm])), (pn, .inl (g.2.1, 61, .inl fnow)), (pt, .inl (g.2.1, 61, .inl r_6.2.1)), (pr, .inl (g.2.1, 61, .inl r_6.2.2))] H := hP
      have hD : va_D A [(o, .inr (9, [.int r_4.2, .ref pn, .ref pt, .ref pr, .ref pw, .ref pb, .int nst, .ref pk, .ref pi, .ref pf, .ref pl, .ref pe, .ref pm, .int nn, .ref px, .int len, .int pos, .int gd, .int ps, .int sm])), (pn, .inl (g.2.1, 61, .inl fnow)), (pt, .inl (g.2.1, 61, .inl r_6.2.1)), (pr, .inl (g.2.1, 61, .inl r_6.2.2))] := hD
      have hyp := some_e hyp
      subst hyp
      subst hQ
      exact rwI hx hb hr hlocks  hP hD hS dX9_bestMove_43
    · replace hyp := ite_f h_5 hyp
      refine lv_iconst (v := 0) hx hb dX9_bestMove_34 (by decide) ?_
      refine lv_goto (tgt := 43) hx hb dX9_bestMove_35 (by decide) ?_
      have hP : va_P g.1 vwCl [(o, .inr (9, [.int r_4.2, .ref pn, .ref pt, .ref pr, .ref pw, .ref pb, .int nst, .ref pk, .ref pi, .ref pf, .ref pl, .ref pe, .ref pm, .int nn, .ref px, .int len, .int pos, .int gd, .int ps, .int sm])), (pn, .inl (g.2.1, 61, .inl fnow)), (pt, .inl (g.2.1, 61, .inl ftri)), (pr, .inl (g.2.1, 61, .inl frep))] H := hP.sub [3, 0, 1, 2] rfl
      have hD : va_D A [(o, .inr (9, [.int r_4.2, .ref pn, .ref pt, .ref pr, .ref pw, .ref pb, .int nst, .ref pk, .ref pi, .ref pf, .ref pl, .ref pe, .ref pm, .int nn, .ref px, .int len, .int pos, .int gd, .int ps, .int sm])), (pn, .inl (g.2.1, 61, .inl fnow)), (pt, .inl (g.2.1, 61, .inl ftri)), (pr, .inl (g.2.1, 61, .inl frep))] := hD.sub [3, 0, 1, 2] (by decide) rfl
      have hyp := some_e hyp
      subst hyp
      subst hQ
      exact rwI hx hb hr hlocks  hP hD hS dX9_bestMove_43
  refine lv_if_ne (tgt := 12) hx hb dX9_bestMove_5 (by decide) (fun h_7 => ?_) (fun h_7 => ?_)
  · replace hyp := ite_f h_7 hyp
    refine lv_aload_n hx hb dX9_bestMove_12 rfl (lv_at hl 0 rfl) ?_
    refine gf_X9_7 hx hb hts hown hE hP 0 rfl rfl dX9_bestMove_13 ?_
    refine lv_iload_n hx hb dX9_bestMove_16 rfl (lv_at hl 1 rfl) ?_
    obtain ⟨r_8, hr_8, hyp⟩ := opt_e hyp
    refine pS (As := [.ref pn, .int a1]) (rest := [.ref o]) ⟨hx, hb, hml, hown, hts⟩ hE (mX9_moveCount l g pn fnow a1 r_8 hr_8) cf_X9_moveCount st_X9_moveCount ml_X9_101 ⟨Nat.le_trans (Nat.le_of_ble_eq_true rfl) hRf, Nat.le_trans (Nat.le_of_ble_eq_true rfl) hRl⟩ (hP.sub (ws' := [(pn, .inl (g.2.1, 61, .inl fnow))]) [1] rfl) rfl hl.1 rfl (Nat.le_of_ble_eq_true rfl) dX9_bestMove_17 ⟨Nat.zero_le _, Nat.zero_le _⟩ ?_
    refine lv_if_ne (tgt := 27) hx hb dX9_bestMove_20 (by decide) (fun h_9 => ?_) (fun h_9 => ?_)
    · replace hyp := ite_f h_9 hyp
      refine lv_iconst (v := 0) hx hb dX9_bestMove_27 (by decide) ?_
      exact kJ_3 0 H locs ls hyp hl hP hD hS
    · replace hyp := ite_t h_9 hyp
      refine lv_iconst (v := 2) hx hb dX9_bestMove_23 (by decide) ?_
      refine lv_goto (tgt := 28) hx hb dX9_bestMove_24 (by decide) ?_
      exact kJ_3 2 H locs ls hyp hl hP hD hS
  · replace hyp := ite_t h_7 hyp
    refine lv_iconst (v := 1) hx hb dX9_bestMove_8 (by decide) ?_
    refine lv_goto (tgt := 28) hx hb dX9_bestMove_9 (by decide) ?_
    exact kJ_3 1 H locs ls hyp hl hP hD hS

def fX9_wins (fnow : Nat → Int32) (a1 : Int32) : Option (Int32 × Int32) :=
  (fX9_noSide a1).bind (fun (r_1 : Int32 × Int32) => if r_1.1 = 0 then (grd (inB (55 + a1) 61) (some (fnow (55 + a1).toNatClampNeg, r_1.2))) else (some (0, r_1.2)))
set_option maxRecDepth 100000 in
set_option maxHeartbeats 4000000 in
theorem mX9_wins (l : Launch) (g : GE) (o pn pt pr pw pb pk pi pf pl pe pm px : Nat) (refu : Int32) (nst : Int32) (nn : Int32) (len : Int32) (pos : Int32) (gd : Int32) (ps : Int32) (sm : Int32) (fnow : Nat → Int32) (a1 : Int32) (r : Int32 × Int32) (hyp : fX9_wins fnow a1 = some r) : WM l yX9_wins cX9_wins 2 (some .int) 3 66 g [(o, .inr (9, [.int refu, .ref pn, .ref pt, .ref pr, .ref pw, .ref pb, .int nst, .ref pk, .ref pi, .ref pf, .ref pl, .ref pe, .ref pm, .int nn, .ref px, .int len, .int pos, .int gd, .int ps, .int sm])), (pn, .inl (g.2.1, 61, .inl fnow))] [.ref o, .int a1] (some (.int r.1)) [(o, .inr (9, [.int r.2, .ref pn, .ref pt, .ref pr, .ref pw, .ref pb, .int nst, .ref pk, .ref pi, .ref pf, .ref pl, .ref pe, .ref pm, .int nn, .ref px, .int len, .int pos, .int gd, .int ps, .int sm])), (pn, .inl (g.2.1, 61, .inl fnow))] := by
  refine metW_intro (by decide) rfl ?_
  intro p e R s m args below meth c Q A hRf hRl hQ hx hb hml hr hlocks hown hts hin hE hA H locs hP hD hS ls hl
  have hown : s.vm.findClass "HallGuardsModel" = some m.cls := hown
  have hl : lv_has ls 2 [(0, .ref o), (1, .int a1)] := hl
  unfold fX9_wins at hyp
  refine lv_aload_n hx hb dX9_wins_0 rfl (lv_at hl 0 rfl) ?_
  refine lv_iload_n hx hb dX9_wins_1 rfl (lv_at hl 1 rfl) ?_
  obtain ⟨r_1, hr_1, hyp⟩ := opt_e hyp
  refine wV (As := [.int a1]) (rest := []) ⟨hx, hb, hml, hown, hts⟩ hE (mX9_noSide l g o pn pt pr pw pb pk pi pf pl pe pm px refu nst nn len pos gd ps sm a1 r_1 hr_1) cf_X9_noSide im_X9_noSide se_X9_noSide ml_X9_209 ⟨Nat.le_trans (Nat.le_of_ble_eq_true rfl) hRf, Nat.le_trans (Nat.le_of_ble_eq_true rfl) hRl⟩ hP hD hS hA [0] [1] rfl (wr := [(pn, .inl (g.2.1, 61, .inl fnow))]) rfl ⟨by decide, by decide⟩ (by decide) (ci := 9) (q0 := 0) rfl rfl rfl rfl hl.1 rfl (Nat.le_of_ble_eq_true rfl) dX9_wins_2 ⟨Nat.zero_le _, Nat.zero_le _⟩ (fun H locs hP hD hS => ?_)
  have hP : va_P g.1 vwCl [(pn, .inl (g.2.1, 61, .inl fnow)), (o, .inr (9, [.int r_1.2, .ref pn, .ref pt, .ref pr, .ref pw, .ref pb, .int nst, .ref pk, .ref pi, .ref pf, .ref pl, .ref pe, .ref pm, .int nn, .ref px, .int len, .int pos, .int gd, .int ps, .int sm]))] H := hP
  have hD : va_D A [(pn, .inl (g.2.1, 61, .inl fnow)), (o, .inr (9, [.int r_1.2, .ref pn, .ref pt, .ref pr, .ref pw, .ref pb, .int nst, .ref pk, .ref pi, .ref pf, .ref pl, .ref pe, .ref pm, .int nn, .ref px, .int len, .int pos, .int gd, .int ps, .int sm]))] := hD
  refine lv_if_eq (tgt := 12) hx hb dX9_wins_5 (by decide) (fun h_2 => ?_) (fun h_2 => ?_)
  · replace hyp := ite_t h_2 hyp
    refine lv_aload_n hx hb dX9_wins_12 rfl (lv_at hl 0 rfl) ?_
    refine gf_X9_7 hx hb hts hown hE hP 1 rfl rfl dX9_wins_13 ?_
    refine lv_bipush (v := 55) hx hb dX9_wins_16 (by decide) ?_
    refine lv_iload_n hx hb dX9_wins_18 rfl (lv_at hl 1 rfl) ?_
    refine lv_iadd hx hb dX9_wins_19 ?_
    obtain ⟨hi, hyp⟩ := grd_e hyp
    refine va_iald hx hb hE.1 hP 0 0 rfl rfl (inB_vp hi) dX9_wins_20 ?_
    have hP : va_P g.1 vwCl [(o, .inr (9, [.int r_1.2, .ref pn, .ref pt, .ref pr, .ref pw, .ref pb, .int nst, .ref pk, .ref pi, .ref pf, .ref pl, .ref pe, .ref pm, .int nn, .ref px, .int len, .int pos, .int gd, .int ps, .int sm])), (pn, .inl (g.2.1, 61, .inl fnow))] H := hP.sub [1, 0] rfl
    have hD : va_D A [(o, .inr (9, [.int r_1.2, .ref pn, .ref pt, .ref pr, .ref pw, .ref pb, .int nst, .ref pk, .ref pi, .ref pf, .ref pl, .ref pe, .ref pm, .int nn, .ref px, .int len, .int pos, .int gd, .int ps, .int sm])), (pn, .inl (g.2.1, 61, .inl fnow))] := hD.sub [1, 0] (by decide) rfl
    have hyp := some_e hyp
    subst hyp
    subst hQ
    exact rwI hx hb hr hlocks  hP hD hS dX9_wins_21
  · replace hyp := ite_f h_2 hyp
    refine lv_iconst (v := 0) hx hb dX9_wins_8 (by decide) ?_
    refine lv_goto (tgt := 21) hx hb dX9_wins_9 (by decide) ?_
    have hP : va_P g.1 vwCl [(o, .inr (9, [.int r_1.2, .ref pn, .ref pt, .ref pr, .ref pw, .ref pb, .int nst, .ref pk, .ref pi, .ref pf, .ref pl, .ref pe, .ref pm, .int nn, .ref px, .int len, .int pos, .int gd, .int ps, .int sm])), (pn, .inl (g.2.1, 61, .inl fnow))] H := hP.sub [1, 0] rfl
    have hD : va_D A [(o, .inr (9, [.int r_1.2, .ref pn, .ref pt, .ref pr, .ref pw, .ref pb, .int nst, .ref pk, .ref pi, .ref pf, .ref pl, .ref pe, .ref pm, .int nn, .ref px, .int len, .int pos, .int gd, .int ps, .int sm])), (pn, .inl (g.2.1, 61, .inl fnow))] := hD.sub [1, 0] (by decide) rfl
    have hyp := some_e hyp
    subst hyp
    subst hQ
    exact rwI hx hb hr hlocks  hP hD hS dX9_wins_21

def fX9_draws (fnow : Nat → Int32) : Option (Int32 × Int32) :=
  (fX9_tell fnow 57).bind (fun (r_1 : Int32 × Int32) => some (r_1.1, r_1.2))
set_option maxRecDepth 100000 in
set_option maxHeartbeats 4000000 in
theorem mX9_draws (l : Launch) (g : GE) (o pn pt pr pw pb pk pi pf pl pe pm px : Nat) (refu : Int32) (nst : Int32) (nn : Int32) (len : Int32) (pos : Int32) (gd : Int32) (ps : Int32) (sm : Int32) (fnow : Nat → Int32) (r : Int32 × Int32) (hyp : fX9_draws fnow = some r) : WM l yX9_draws cX9_draws 1 (some .int) 1 21 g [(o, .inr (9, [.int refu, .ref pn, .ref pt, .ref pr, .ref pw, .ref pb, .int nst, .ref pk, .ref pi, .ref pf, .ref pl, .ref pe, .ref pm, .int nn, .ref px, .int len, .int pos, .int gd, .int ps, .int sm])), (pn, .inl (g.2.1, 61, .inl fnow))] [.ref o] (some (.int r.1)) [(o, .inr (9, [.int r.2, .ref pn, .ref pt, .ref pr, .ref pw, .ref pb, .int nst, .ref pk, .ref pi, .ref pf, .ref pl, .ref pe, .ref pm, .int nn, .ref px, .int len, .int pos, .int gd, .int ps, .int sm])), (pn, .inl (g.2.1, 61, .inl fnow))] := by
  refine metW_intro (by decide) rfl ?_
  intro p e R s m args below meth c Q A hRf hRl hQ hx hb hml hr hlocks hown hts hin hE hA H locs hP hD hS ls hl
  have hown : s.vm.findClass "HallGuardsModel" = some m.cls := hown
  have hl : lv_has ls 1 [(0, .ref o)] := hl
  unfold fX9_draws at hyp
  refine lv_aload_n hx hb dX9_draws_0 rfl (lv_at hl 0 rfl) ?_
  refine lv_bipush (v := 57) hx hb dX9_draws_1 (by decide) ?_
  obtain ⟨r_1, hr_1, hyp⟩ := opt_e hyp
  refine wV (As := [.int 57]) (rest := []) ⟨hx, hb, hml, hown, hts⟩ hE (mX9_tell l g o pn pt pr pw pb pk pi pf pl pe pm px refu nst nn len pos gd ps sm fnow 57 r_1 hr_1) cf_X9_tell im_X9_tell se_X9_tell ml_X9_215 ⟨Nat.le_trans (Nat.le_of_ble_eq_true rfl) hRf, Nat.le_trans (Nat.le_of_ble_eq_true rfl) hRl⟩ hP hD hS hA [0, 1] [] rfl (wr := []) rfl ⟨by decide, by decide⟩ (by decide) (ci := 9) (q0 := 0) rfl rfl rfl rfl hl.1 rfl (Nat.le_of_ble_eq_true rfl) dX9_draws_3 ⟨Nat.zero_le _, Nat.zero_le _⟩ (fun H locs hP hD hS => ?_)
  have hP : va_P g.1 vwCl [(o, .inr (9, [.int r_1.2, .ref pn, .ref pt, .ref pr, .ref pw, .ref pb, .int nst, .ref pk, .ref pi, .ref pf, .ref pl, .ref pe, .ref pm, .int nn, .ref px, .int len, .int pos, .int gd, .int ps, .int sm])), (pn, .inl (g.2.1, 61, .inl fnow))] H := hP
  have hD : va_D A [(o, .inr (9, [.int r_1.2, .ref pn, .ref pt, .ref pr, .ref pw, .ref pb, .int nst, .ref pk, .ref pi, .ref pf, .ref pl, .ref pe, .ref pm, .int nn, .ref px, .int len, .int pos, .int gd, .int ps, .int sm])), (pn, .inl (g.2.1, 61, .inl fnow))] := hD
  have hyp := some_e hyp
  subst hyp
  subst hQ
  exact rwI hx hb hr hlocks  hP hD hS dX9_draws_6

def fX9_takenOf (fnow : Nat → Int32) (a1 : Int32) : Option (Int32 × Int32) :=
  (fX9_noSide a1).bind (fun (r_1 : Int32 × Int32) => if r_1.1 = 0 then (grd (inB (58 + a1) 61) (some (fnow (58 + a1).toNatClampNeg, r_1.2))) else (some (0, r_1.2)))
set_option maxRecDepth 100000 in
set_option maxHeartbeats 4000000 in
theorem mX9_takenOf (l : Launch) (g : GE) (o pn pt pr pw pb pk pi pf pl pe pm px : Nat) (refu : Int32) (nst : Int32) (nn : Int32) (len : Int32) (pos : Int32) (gd : Int32) (ps : Int32) (sm : Int32) (fnow : Nat → Int32) (a1 : Int32) (r : Int32 × Int32) (hyp : fX9_takenOf fnow a1 = some r) : WM l yX9_takenOf cX9_takenOf 2 (some .int) 3 66 g [(o, .inr (9, [.int refu, .ref pn, .ref pt, .ref pr, .ref pw, .ref pb, .int nst, .ref pk, .ref pi, .ref pf, .ref pl, .ref pe, .ref pm, .int nn, .ref px, .int len, .int pos, .int gd, .int ps, .int sm])), (pn, .inl (g.2.1, 61, .inl fnow))] [.ref o, .int a1] (some (.int r.1)) [(o, .inr (9, [.int r.2, .ref pn, .ref pt, .ref pr, .ref pw, .ref pb, .int nst, .ref pk, .ref pi, .ref pf, .ref pl, .ref pe, .ref pm, .int nn, .ref px, .int len, .int pos, .int gd, .int ps, .int sm])), (pn, .inl (g.2.1, 61, .inl fnow))] := by
  refine metW_intro (by decide) rfl ?_
  intro p e R s m args below meth c Q A hRf hRl hQ hx hb hml hr hlocks hown hts hin hE hA H locs hP hD hS ls hl
  have hown : s.vm.findClass "HallGuardsModel" = some m.cls := hown
  have hl : lv_has ls 2 [(0, .ref o), (1, .int a1)] := hl
  unfold fX9_takenOf at hyp
  refine lv_aload_n hx hb dX9_takenOf_0 rfl (lv_at hl 0 rfl) ?_
  refine lv_iload_n hx hb dX9_takenOf_1 rfl (lv_at hl 1 rfl) ?_
  obtain ⟨r_1, hr_1, hyp⟩ := opt_e hyp
  refine wV (As := [.int a1]) (rest := []) ⟨hx, hb, hml, hown, hts⟩ hE (mX9_noSide l g o pn pt pr pw pb pk pi pf pl pe pm px refu nst nn len pos gd ps sm a1 r_1 hr_1) cf_X9_noSide im_X9_noSide se_X9_noSide ml_X9_209 ⟨Nat.le_trans (Nat.le_of_ble_eq_true rfl) hRf, Nat.le_trans (Nat.le_of_ble_eq_true rfl) hRl⟩ hP hD hS hA [0] [1] rfl (wr := [(pn, .inl (g.2.1, 61, .inl fnow))]) rfl ⟨by decide, by decide⟩ (by decide) (ci := 9) (q0 := 0) rfl rfl rfl rfl hl.1 rfl (Nat.le_of_ble_eq_true rfl) dX9_takenOf_2 ⟨Nat.zero_le _, Nat.zero_le _⟩ (fun H locs hP hD hS => ?_)
  have hP : va_P g.1 vwCl [(pn, .inl (g.2.1, 61, .inl fnow)), (o, .inr (9, [.int r_1.2, .ref pn, .ref pt, .ref pr, .ref pw, .ref pb, .int nst, .ref pk, .ref pi, .ref pf, .ref pl, .ref pe, .ref pm, .int nn, .ref px, .int len, .int pos, .int gd, .int ps, .int sm]))] H := hP
  have hD : va_D A [(pn, .inl (g.2.1, 61, .inl fnow)), (o, .inr (9, [.int r_1.2, .ref pn, .ref pt, .ref pr, .ref pw, .ref pb, .int nst, .ref pk, .ref pi, .ref pf, .ref pl, .ref pe, .ref pm, .int nn, .ref px, .int len, .int pos, .int gd, .int ps, .int sm]))] := hD
  refine lv_if_eq (tgt := 12) hx hb dX9_takenOf_5 (by decide) (fun h_2 => ?_) (fun h_2 => ?_)
  · replace hyp := ite_t h_2 hyp
    refine lv_aload_n hx hb dX9_takenOf_12 rfl (lv_at hl 0 rfl) ?_
    refine gf_X9_7 hx hb hts hown hE hP 1 rfl rfl dX9_takenOf_13 ?_
    refine lv_bipush (v := 58) hx hb dX9_takenOf_16 (by decide) ?_
    refine lv_iload_n hx hb dX9_takenOf_18 rfl (lv_at hl 1 rfl) ?_
    refine lv_iadd hx hb dX9_takenOf_19 ?_
    obtain ⟨hi, hyp⟩ := grd_e hyp
    refine va_iald hx hb hE.1 hP 0 0 rfl rfl (inB_vp hi) dX9_takenOf_20 ?_
    have hP : va_P g.1 vwCl [(o, .inr (9, [.int r_1.2, .ref pn, .ref pt, .ref pr, .ref pw, .ref pb, .int nst, .ref pk, .ref pi, .ref pf, .ref pl, .ref pe, .ref pm, .int nn, .ref px, .int len, .int pos, .int gd, .int ps, .int sm])), (pn, .inl (g.2.1, 61, .inl fnow))] H := hP.sub [1, 0] rfl
    have hD : va_D A [(o, .inr (9, [.int r_1.2, .ref pn, .ref pt, .ref pr, .ref pw, .ref pb, .int nst, .ref pk, .ref pi, .ref pf, .ref pl, .ref pe, .ref pm, .int nn, .ref px, .int len, .int pos, .int gd, .int ps, .int sm])), (pn, .inl (g.2.1, 61, .inl fnow))] := hD.sub [1, 0] (by decide) rfl
    have hyp := some_e hyp
    subst hyp
    subst hQ
    exact rwI hx hb hr hlocks  hP hD hS dX9_takenOf_21
  · replace hyp := ite_f h_2 hyp
    refine lv_iconst (v := 0) hx hb dX9_takenOf_8 (by decide) ?_
    refine lv_goto (tgt := 21) hx hb dX9_takenOf_9 (by decide) ?_
    have hP : va_P g.1 vwCl [(o, .inr (9, [.int r_1.2, .ref pn, .ref pt, .ref pr, .ref pw, .ref pb, .int nst, .ref pk, .ref pi, .ref pf, .ref pl, .ref pe, .ref pm, .int nn, .ref px, .int len, .int pos, .int gd, .int ps, .int sm])), (pn, .inl (g.2.1, 61, .inl fnow))] H := hP.sub [1, 0] rfl
    have hD : va_D A [(o, .inr (9, [.int r_1.2, .ref pn, .ref pt, .ref pr, .ref pw, .ref pb, .int nst, .ref pk, .ref pi, .ref pf, .ref pl, .ref pe, .ref pm, .int nn, .ref px, .int len, .int pos, .int gd, .int ps, .int sm])), (pn, .inl (g.2.1, 61, .inl fnow))] := hD.sub [1, 0] (by decide) rfl
    have hyp := some_e hyp
    subst hyp
    subst hQ
    exact rwI hx hb hr hlocks  hP hD hS dX9_takenOf_21

def fX9_allMoves (fnow : Nat → Int32) : Option (Int32 × Int32) :=
  (fX9_tell fnow 54).bind (fun (r_1 : Int32 × Int32) => some (r_1.1, r_1.2))
set_option maxRecDepth 100000 in
set_option maxHeartbeats 4000000 in
theorem mX9_allMoves (l : Launch) (g : GE) (o pn pt pr pw pb pk pi pf pl pe pm px : Nat) (refu : Int32) (nst : Int32) (nn : Int32) (len : Int32) (pos : Int32) (gd : Int32) (ps : Int32) (sm : Int32) (fnow : Nat → Int32) (r : Int32 × Int32) (hyp : fX9_allMoves fnow = some r) : WM l yX9_allMoves cX9_allMoves 1 (some .int) 1 21 g [(o, .inr (9, [.int refu, .ref pn, .ref pt, .ref pr, .ref pw, .ref pb, .int nst, .ref pk, .ref pi, .ref pf, .ref pl, .ref pe, .ref pm, .int nn, .ref px, .int len, .int pos, .int gd, .int ps, .int sm])), (pn, .inl (g.2.1, 61, .inl fnow))] [.ref o] (some (.int r.1)) [(o, .inr (9, [.int r.2, .ref pn, .ref pt, .ref pr, .ref pw, .ref pb, .int nst, .ref pk, .ref pi, .ref pf, .ref pl, .ref pe, .ref pm, .int nn, .ref px, .int len, .int pos, .int gd, .int ps, .int sm])), (pn, .inl (g.2.1, 61, .inl fnow))] := by
  refine metW_intro (by decide) rfl ?_
  intro p e R s m args below meth c Q A hRf hRl hQ hx hb hml hr hlocks hown hts hin hE hA H locs hP hD hS ls hl
  have hown : s.vm.findClass "HallGuardsModel" = some m.cls := hown
  have hl : lv_has ls 1 [(0, .ref o)] := hl
  unfold fX9_allMoves at hyp
  refine lv_aload_n hx hb dX9_allMoves_0 rfl (lv_at hl 0 rfl) ?_
  refine lv_bipush (v := 54) hx hb dX9_allMoves_1 (by decide) ?_
  obtain ⟨r_1, hr_1, hyp⟩ := opt_e hyp
  refine wV (As := [.int 54]) (rest := []) ⟨hx, hb, hml, hown, hts⟩ hE (mX9_tell l g o pn pt pr pw pb pk pi pf pl pe pm px refu nst nn len pos gd ps sm fnow 54 r_1 hr_1) cf_X9_tell im_X9_tell se_X9_tell ml_X9_215 ⟨Nat.le_trans (Nat.le_of_ble_eq_true rfl) hRf, Nat.le_trans (Nat.le_of_ble_eq_true rfl) hRl⟩ hP hD hS hA [0, 1] [] rfl (wr := []) rfl ⟨by decide, by decide⟩ (by decide) (ci := 9) (q0 := 0) rfl rfl rfl rfl hl.1 rfl (Nat.le_of_ble_eq_true rfl) dX9_allMoves_3 ⟨Nat.zero_le _, Nat.zero_le _⟩ (fun H locs hP hD hS => ?_)
  have hP : va_P g.1 vwCl [(o, .inr (9, [.int r_1.2, .ref pn, .ref pt, .ref pr, .ref pw, .ref pb, .int nst, .ref pk, .ref pi, .ref pf, .ref pl, .ref pe, .ref pm, .int nn, .ref px, .int len, .int pos, .int gd, .int ps, .int sm])), (pn, .inl (g.2.1, 61, .inl fnow))] H := hP
  have hD : va_D A [(o, .inr (9, [.int r_1.2, .ref pn, .ref pt, .ref pr, .ref pw, .ref pb, .int nst, .ref pk, .ref pi, .ref pf, .ref pl, .ref pe, .ref pm, .int nn, .ref px, .int len, .int pos, .int gd, .int ps, .int sm])), (pn, .inl (g.2.1, 61, .inl fnow))] := hD
  have hyp := some_e hyp
  subst hyp
  subst hQ
  exact rwI hx hb hr hlocks  hP hD hS dX9_allMoves_6

def fX9_sideHash (fnow : Nat → Int32) (ftri : Nat → Int32) (a1 : Int64) (a2 : Int32) : Option (Int64 × (Nat → Int32)) :=
  (fX9_moveCount fnow a2).bind (fun (r_1 : Int32) => (fX9_mix a1 r_1.toInt64).bind (fun (r_2 : Int64) => (fX9_mix r_2 r_1.toInt64).bind (fun (r_3 : Int64) => (fX9_winning fnow ftri a2).bind (fun (r_4 : Int32 × (Nat → Int32)) => (fX9_mix r_3 r_4.1.toInt64).bind (fun (r_5 : Int64) => jn (fun (t_6 : Int64) => (fX9_mix r_5 t_6).bind (fun (r_8 : Int64) => jn (fun (t_9 : Int64) => (fX9_mix r_8 t_9).bind (fun (r_11 : Int64) => some (r_11, r_4.2))) (fun J_10 => if r_1 = 0 then (J_10 0) else ((fX9_oneMove fnow a2 (r_1 - 1)).bind (fun (r_13 : Int32) => J_10 ((r_13 + 1).toInt64)))))) (fun J_7 => if r_1 = 0 then (J_7 0) else ((fX9_oneMove fnow a2 0).bind (fun (r_15 : Int32) => J_7 ((r_15 + 1).toInt64)))))))))
set_option maxRecDepth 100000 in
set_option maxHeartbeats 4000000 in
theorem mX9_sideHash (l : Launch) (g : GE) (o pn pt pr pw pb pk pi pf pl pe pm px : Nat) (refu : Int32) (nst : Int32) (nn : Int32) (len : Int32) (pos : Int32) (gd : Int32) (ps : Int32) (sm : Int32) (fnow : Nat → Int32) (ftri : Nat → Int32) (a1 : Int64) (a2 : Int32) (r : Int64 × (Nat → Int32)) (hyp : fX9_sideHash fnow ftri a1 a2 = some r) : WM l yX9_sideHash cX9_sideHash 7 (some .long) 7 177 g [(o, .inr (9, [.int refu, .ref pn, .ref pt, .ref pr, .ref pw, .ref pb, .int nst, .ref pk, .ref pi, .ref pf, .ref pl, .ref pe, .ref pm, .int nn, .ref px, .int len, .int pos, .int gd, .int ps, .int sm])), (pn, .inl (g.2.1, 61, .inl fnow)), (pt, .inl (g.2.1, 61, .inl ftri))] [.ref o, .long a1, .int a2] (some (.long r.1)) [(o, .inr (9, [.int refu, .ref pn, .ref pt, .ref pr, .ref pw, .ref pb, .int nst, .ref pk, .ref pi, .ref pf, .ref pl, .ref pe, .ref pm, .int nn, .ref px, .int len, .int pos, .int gd, .int ps, .int sm])), (pn, .inl (g.2.1, 61, .inl fnow)), (pt, .inl (g.2.1, 61, .inl r.2))] := by
  refine metW_intro (by decide) rfl ?_
  intro p e R s m args below meth c Q A hRf hRl hQ hx hb hml hr hlocks hown hts hin hE hA H locs hP hD hS ls hl
  have hown : s.vm.findClass "HallGuardsModel" = some m.cls := hown
  have hl : lv_has ls 7 [(0, .ref o), (1, .long a1), (3, .int a2)] := hl
  unfold fX9_sideHash at hyp
  refine lv_aload_n hx hb dX9_sideHash_0 rfl (lv_at hl 0 rfl) ?_
  refine gf_X9_7 hx hb hts hown hE hP 0 rfl rfl dX9_sideHash_1 ?_
  refine lv_iload_n hx hb dX9_sideHash_4 rfl (lv_at hl 2 rfl) ?_
  obtain ⟨r_1, hr_1, hyp⟩ := opt_e hyp
  refine pS (As := [.ref pn, .int a2]) (rest := []) ⟨hx, hb, hml, hown, hts⟩ hE (mX9_moveCount l g pn fnow a2 r_1 hr_1) cf_X9_moveCount st_X9_moveCount ml_X9_101 ⟨Nat.le_trans (Nat.le_of_ble_eq_true rfl) hRf, Nat.le_trans (Nat.le_of_ble_eq_true rfl) hRl⟩ (hP.sub (ws' := [(pn, .inl (g.2.1, 61, .inl fnow))]) [1] rfl) rfl hl.1 rfl (Nat.le_of_ble_eq_true rfl) dX9_sideHash_5 ⟨Nat.zero_le _, Nat.zero_le _⟩ ?_
  refine lv_istore (lv' := [(4, .int r_1), (0, .ref o), (1, .long a1), (3, .int a2)]) hx hb dX9_sideHash_8 hl (by decide) rfl (fun ls hl => ?_)
  refine lv_lload_n hx hb dX9_sideHash_10 rfl (lv_at hl 2 rfl) ?_
  refine lv_iload hx hb dX9_sideHash_11 (lv_at hl 0 rfl) ?_
  refine lv_i2l hx hb dX9_sideHash_13 rfl ?_
  obtain ⟨r_2, hr_2, hyp⟩ := opt_e hyp
  refine pSJ (As := [.long a1, .long r_1.toInt64]) (rest := []) ⟨hx, hb, hml, hown, hts⟩ hE (mX9_mix l g a1 r_1.toInt64 r_2 hr_2) cf_X9_mix st_X9_mix ml_X9_268 ⟨Nat.le_trans (Nat.le_of_ble_eq_true rfl) hRf, Nat.le_trans (Nat.le_of_ble_eq_true rfl) hRl⟩ (va_P_nil) rfl hl.1 rfl (Nat.le_of_ble_eq_true rfl) dX9_sideHash_14 ⟨Nat.zero_le _, Nat.zero_le _⟩ ?_
  refine lv_iload hx hb dX9_sideHash_17 (lv_at hl 0 rfl) ?_
  refine lv_i2l hx hb dX9_sideHash_19 rfl ?_
  obtain ⟨r_3, hr_3, hyp⟩ := opt_e hyp
  refine pSJ (As := [.long r_2, .long r_1.toInt64]) (rest := []) ⟨hx, hb, hml, hown, hts⟩ hE (mX9_mix l g r_2 r_1.toInt64 r_3 hr_3) cf_X9_mix st_X9_mix ml_X9_268 ⟨Nat.le_trans (Nat.le_of_ble_eq_true rfl) hRf, Nat.le_trans (Nat.le_of_ble_eq_true rfl) hRl⟩ (va_P_nil) rfl hl.1 rfl (Nat.le_of_ble_eq_true rfl) dX9_sideHash_20 ⟨Nat.zero_le _, Nat.zero_le _⟩ ?_
  refine lv_aload_n hx hb dX9_sideHash_23 rfl (lv_at hl 1 rfl) ?_
  refine gf_X9_7 hx hb hts hown hE hP 0 rfl rfl dX9_sideHash_24 ?_
  refine lv_aload_n hx hb dX9_sideHash_27 rfl (lv_at hl 1 rfl) ?_
  refine gf_X9_13 hx hb hts hown hE hP 0 rfl rfl dX9_sideHash_28 ?_
  refine lv_iload_n hx hb dX9_sideHash_31 rfl (lv_at hl 3 rfl) ?_
  obtain ⟨r_4, hr_4, hyp⟩ := opt_e hyp
  refine wS (As := [.ref pn, .ref pt, .int a2]) (rest := [.long r_3]) ⟨hx, hb, hml, hown, hts⟩ hE (mX9_winning l g pn pt fnow ftri a2 r_4 hr_4) cf_X9_winning st_X9_winning ml_X9_231 ⟨Nat.le_trans (Nat.le_of_ble_eq_true rfl) hRf, Nat.le_trans (Nat.le_of_ble_eq_true rfl) hRl⟩ hP hD hS hA [1, 2] [0] rfl (wr := [(o, .inr (9, [.int refu, .ref pn, .ref pt, .ref pr, .ref pw, .ref pb, .int nst, .ref pk, .ref pi, .ref pf, .ref pl, .ref pe, .ref pm, .int nn, .ref px, .int len, .int pos, .int gd, .int ps, .int sm]))]) rfl ⟨by decide, by decide⟩ (by decide) rfl hl.1 rfl (Nat.le_of_ble_eq_true rfl) dX9_sideHash_32 ⟨Nat.zero_le _, Nat.zero_le _⟩ (fun H locs hP hD hS => ?_)
  have hP : va_P g.1 vwCl [(o, .inr (9, [.int refu, .ref pn, .ref pt, .ref pr, .ref pw, .ref pb, .int nst, .ref pk, .ref pi, .ref pf, .ref pl, .ref pe, .ref pm, .int nn, .ref px, .int len, .int pos, .int gd, .int ps, .int sm])), (pn, .inl (g.2.1, 61, .inl fnow)), (pt, .inl (g.2.1, 61, .inl r_4.2))] H := hP
  have hD : va_D A [(o, .inr (9, [.int refu, .ref pn, .ref pt, .ref pr, .ref pw, .ref pb, .int nst, .ref pk, .ref pi, .ref pf, .ref pl, .ref pe, .ref pm, .int nn, .ref px, .int len, .int pos, .int gd, .int ps, .int sm])), (pn, .inl (g.2.1, 61, .inl fnow)), (pt, .inl (g.2.1, 61, .inl r_4.2))] := hD
  refine lv_i2l hx hb dX9_sideHash_35 rfl ?_
  obtain ⟨r_5, hr_5, hyp⟩ := opt_e hyp
  refine pSJ (As := [.long r_3, .long r_4.1.toInt64]) (rest := []) ⟨hx, hb, hml, hown, hts⟩ hE (mX9_mix l g r_3 r_4.1.toInt64 r_5 hr_5) cf_X9_mix st_X9_mix ml_X9_268 ⟨Nat.le_trans (Nat.le_of_ble_eq_true rfl) hRf, Nat.le_trans (Nat.le_of_ble_eq_true rfl) hRl⟩ (va_P_nil) rfl hl.1 rfl (Nat.le_of_ble_eq_true rfl) dX9_sideHash_36 ⟨Nat.zero_le _, Nat.zero_le _⟩ ?_
  refine lv_lstore (lv' := [(5, .long r_5), (4, .int r_1), (0, .ref o), (1, .long a1), (3, .int a2)]) hx hb dX9_sideHash_39 hl (by decide) rfl (fun ls hl => ?_)
  refine lv_lload hx hb dX9_sideHash_41 (lv_at hl 0 rfl) ?_
  refine lv_iload hx hb dX9_sideHash_43 (lv_at hl 1 rfl) ?_
  obtain ⟨J_7, eJ_7, hyp⟩ := jn_e hyp
  have kJ_7 : ∀ (t_6 : Int64) (H : Heap) (locs : List Loc) (ls : Array Slot), J_7 t_6 = some r → lv_has ls 7 [(0, .ref o), (3, .int a2), (4, .int r_1)] → va_P g.1 vwCl [(o, .inr (9, [.int refu, .ref pn, .ref pt, .ref pr, .ref pw, .ref pb, .int nst, .ref pk, .ref pi, .ref pf, .ref pl, .ref pe, .ref pm, .int nn, .ref px, .int len, .int pos, .int gd, .int ps, .int sm])), (pn, .inl (g.2.1, 61, .inl fnow)), (pt, .inl (g.2.1, 61, .inl r_4.2))] H → va_D A [(o, .inr (9, [.int refu, .ref pn, .ref pt, .ref pr, .ref pw, .ref pb, .int nst, .ref pk, .ref pi, .ref pf, .ref pl, .ref pe, .ref pm, .int nn, .ref px, .int len, .int pos, .int gd, .int ps, .int sm])), (pn, .inl (g.2.1, 61, .inl fnow)), (pt, .inl (g.2.1, 61, .inl r_4.2))] → va_S A s.heap H locs → W p l e R s m args below meth c H locs 0 0 Q (F0 m 61 ls [.long t_6, .long r_5]) := by
    intro t_6 H locs  ls hyp hl hP hD hS
    replace hyp := (congrFun (eJ_7) t_6).symm.trans hyp
    obtain ⟨r_8, hr_8, hyp⟩ := opt_e hyp
    refine pSJ (As := [.long r_5, .long t_6]) (rest := []) ⟨hx, hb, hml, hown, hts⟩ hE (mX9_mix l g r_5 t_6 r_8 hr_8) cf_X9_mix st_X9_mix ml_X9_268 ⟨Nat.le_trans (Nat.le_of_ble_eq_true rfl) hRf, Nat.le_trans (Nat.le_of_ble_eq_true rfl) hRl⟩ (va_P_nil) rfl hl.1 rfl (Nat.le_of_ble_eq_true rfl) dX9_sideHash_61 ⟨Nat.zero_le _, Nat.zero_le _⟩ ?_
    refine lv_lstore (lv' := [(5, .long r_8), (0, .ref o), (3, .int a2), (4, .int r_1)]) hx hb dX9_sideHash_64 hl (by decide) rfl (fun ls hl => ?_)
    refine lv_lload hx hb dX9_sideHash_66 (lv_at hl 0 rfl) ?_
    refine lv_iload hx hb dX9_sideHash_68 (lv_at hl 3 rfl) ?_
    obtain ⟨J_10, eJ_10, hyp⟩ := jn_e hyp
    have kJ_10 : ∀ (t_9 : Int64) (H : Heap) (locs : List Loc) (ls : Array Slot), J_10 t_9 = some r → lv_has ls 7 [] → va_P g.1 vwCl [(o, .inr (9, [.int refu, .ref pn, .ref pt, .ref pr, .ref pw, .ref pb, .int nst, .ref pk, .ref pi, .ref pf, .ref pl, .ref pe, .ref pm, .int nn, .ref px, .int len, .int pos, .int gd, .int ps, .int sm])), (pn, .inl (g.2.1, 61, .inl fnow)), (pt, .inl (g.2.1, 61, .inl r_4.2))] H → va_D A [(o, .inr (9, [.int refu, .ref pn, .ref pt, .ref pr, .ref pw, .ref pb, .int nst, .ref pk, .ref pi, .ref pf, .ref pl, .ref pe, .ref pm, .int nn, .ref px, .int len, .int pos, .int gd, .int ps, .int sm])), (pn, .inl (g.2.1, 61, .inl fnow)), (pt, .inl (g.2.1, 61, .inl r_4.2))] → va_S A s.heap H locs → W p l e R s m args below meth c H locs 0 0 Q (F0 m 89 ls [.long t_9, .long r_8]) := by
      intro t_9 H locs  ls hyp hl hP hD hS
      replace hyp := (congrFun (eJ_10) t_9).symm.trans hyp
      obtain ⟨r_11, hr_11, hyp⟩ := opt_e hyp
      refine pSJ (As := [.long r_8, .long t_9]) (rest := []) ⟨hx, hb, hml, hown, hts⟩ hE (mX9_mix l g r_8 t_9 r_11 hr_11) cf_X9_mix st_X9_mix ml_X9_268 ⟨Nat.le_trans (Nat.le_of_ble_eq_true rfl) hRf, Nat.le_trans (Nat.le_of_ble_eq_true rfl) hRl⟩ (va_P_nil) rfl hl.1 rfl (Nat.le_of_ble_eq_true rfl) dX9_sideHash_89 ⟨Nat.zero_le _, Nat.zero_le _⟩ ?_
      have hyp := some_e hyp
      subst hyp
      subst hQ
      exact rwJ hx hb hr hlocks  hP hD hS dX9_sideHash_92
    refine lv_if_ne (tgt := 77) hx hb dX9_sideHash_70 (by decide) (fun h_12 => ?_) (fun h_12 => ?_)
    · replace hyp := ite_f h_12 hyp
      refine lv_aload_n hx hb dX9_sideHash_77 rfl (lv_at hl 1 rfl) ?_
      refine lv_iload_n hx hb dX9_sideHash_78 rfl (lv_at hl 2 rfl) ?_
      refine lv_iload hx hb dX9_sideHash_79 (lv_at hl 3 rfl) ?_
      refine lv_iconst (v := 1) hx hb dX9_sideHash_81 (by decide) ?_
      refine lv_isub hx hb dX9_sideHash_82 ?_
      obtain ⟨r_13, hr_13, hyp⟩ := opt_e hyp
      refine pV (As := [.int a2, .int (r_1 - 1)]) (rest := [.long r_8]) ⟨hx, hb, hml, hown, hts⟩ hE (mX9_oneMove l g o pn pt pr pw pb pk pi pf pl pe pm px refu nst nn len pos gd ps sm fnow a2 (r_1 - 1) r_13 hr_13) cf_X9_oneMove im_X9_oneMove se_X9_oneMove ml_X9_235 ⟨Nat.le_trans (Nat.le_of_ble_eq_true rfl) hRf, Nat.le_trans (Nat.le_of_ble_eq_true rfl) hRl⟩ (hP.sub (ws' := [(o, .inr (9, [.int refu, .ref pn, .ref pt, .ref pr, .ref pw, .ref pb, .int nst, .ref pk, .ref pi, .ref pf, .ref pl, .ref pe, .ref pm, .int nn, .ref px, .int len, .int pos, .int gd, .int ps, .int sm])), (pn, .inl (g.2.1, 61, .inl fnow))]) [0, 1] rfl) (ci := 9) (q0 := 0) rfl rfl rfl rfl hl.1 rfl (Nat.le_of_ble_eq_true rfl) dX9_sideHash_83 ⟨Nat.zero_le _, Nat.zero_le _⟩ ?_
      refine lv_iconst (v := 1) hx hb dX9_sideHash_86 (by decide) ?_
      refine lv_iadd hx hb dX9_sideHash_87 ?_
      refine lv_i2l hx hb dX9_sideHash_88 rfl ?_
      exact kJ_10 ((r_13 + 1).toInt64) H locs ls hyp (lv_sub hl [] rfl) hP hD hS
    · replace hyp := ite_t h_12 hyp
      refine lv_lconst (v := 0) hx hb dX9_sideHash_73 (by decide) ?_
      refine lv_goto (tgt := 89) hx hb dX9_sideHash_74 (by decide) ?_
      exact kJ_10 0 H locs ls hyp (lv_sub hl [] rfl) hP hD hS
  refine lv_if_ne (tgt := 52) hx hb dX9_sideHash_45 (by decide) (fun h_14 => ?_) (fun h_14 => ?_)
  · replace hyp := ite_f h_14 hyp
    refine lv_aload_n hx hb dX9_sideHash_52 rfl (lv_at hl 2 rfl) ?_
    refine lv_iload_n hx hb dX9_sideHash_53 rfl (lv_at hl 4 rfl) ?_
    refine lv_iconst (v := 0) hx hb dX9_sideHash_54 (by decide) ?_
    obtain ⟨r_15, hr_15, hyp⟩ := opt_e hyp
    refine pV (As := [.int a2, .int 0]) (rest := [.long r_5]) ⟨hx, hb, hml, hown, hts⟩ hE (mX9_oneMove l g o pn pt pr pw pb pk pi pf pl pe pm px refu nst nn len pos gd ps sm fnow a2 0 r_15 hr_15) cf_X9_oneMove im_X9_oneMove se_X9_oneMove ml_X9_235 ⟨Nat.le_trans (Nat.le_of_ble_eq_true rfl) hRf, Nat.le_trans (Nat.le_of_ble_eq_true rfl) hRl⟩ (hP.sub (ws' := [(o, .inr (9, [.int refu, .ref pn, .ref pt, .ref pr, .ref pw, .ref pb, .int nst, .ref pk, .ref pi, .ref pf, .ref pl, .ref pe, .ref pm, .int nn, .ref px, .int len, .int pos, .int gd, .int ps, .int sm])), (pn, .inl (g.2.1, 61, .inl fnow))]) [0, 1] rfl) (ci := 9) (q0 := 0) rfl rfl rfl rfl hl.1 rfl (Nat.le_of_ble_eq_true rfl) dX9_sideHash_55 ⟨Nat.zero_le _, Nat.zero_le _⟩ ?_
    refine lv_iconst (v := 1) hx hb dX9_sideHash_58 (by decide) ?_
    refine lv_iadd hx hb dX9_sideHash_59 ?_
    refine lv_i2l hx hb dX9_sideHash_60 rfl ?_
    exact kJ_7 ((r_15 + 1).toInt64) H locs ls hyp (lv_sub hl [2, 4, 1] rfl) hP hD hS
  · replace hyp := ite_t h_14 hyp
    refine lv_lconst (v := 0) hx hb dX9_sideHash_48 (by decide) ?_
    refine lv_goto (tgt := 61) hx hb dX9_sideHash_49 (by decide) ?_
    exact kJ_7 0 H locs ls hyp (lv_sub hl [2, 4, 1] rfl) hP hD hS

def fX9_mean (fnow : Nat → Int32) : Option UInt64 :=
  (fX9_moveCount fnow 0).bind (fun (r_1 : Int32) => (fX9_moveCount fnow 1).bind (fun (r_2 : Int32) => grd (n64b (FP.ddiv (FP.i2d (r_1 + r_2)) 4611686018427387904)) (some (FP.ddiv (FP.i2d (r_1 + r_2)) 4611686018427387904))))
set_option maxRecDepth 100000 in
set_option maxHeartbeats 4000000 in
theorem mX9_mean (l : Launch) (g : GE) (o pn pt pr pw pb pk pi pf pl pe pm px : Nat) (refu : Int32) (nst : Int32) (nn : Int32) (len : Int32) (pos : Int32) (gd : Int32) (ps : Int32) (sm : Int32) (fnow : Nat → Int32) (r : UInt64) (hyp : fX9_mean fnow = some r) : PD l yX9_mean cX9_mean 1 (some .double) 5 116 g [(o, .inr (9, [.int refu, .ref pn, .ref pt, .ref pr, .ref pw, .ref pb, .int nst, .ref pk, .ref pi, .ref pf, .ref pl, .ref pe, .ref pm, .int nn, .ref px, .int len, .int pos, .int gd, .int ps, .int sm])), (pn, .inl (g.2.1, 61, .inl fnow))] [.ref o] r := by
  refine metP_intro (by decide) rfl ?_
  intro p e R s m args below meth c Q hRf hRl hQ hx hb hml hr hlocks hown hts hin hE hP ls hl
  have hown : s.vm.findClass "HallGuardsModel" = some m.cls := hown
  have hl : lv_has ls 1 [(0, .ref o)] := hl
  unfold fX9_mean at hyp
  refine lv_aload_n hx hb dX9_mean_0 rfl (lv_at hl 0 rfl) ?_
  refine gf_X9_7 hx hb hts hown hE hP 0 rfl rfl dX9_mean_1 ?_
  refine lv_iconst (v := 0) hx hb dX9_mean_4 (by decide) ?_
  obtain ⟨r_1, hr_1, hyp⟩ := opt_e hyp
  refine pS (As := [.ref pn, .int 0]) (rest := []) ⟨hx, hb, hml, hown, hts⟩ hE (mX9_moveCount l g pn fnow 0 r_1 hr_1) cf_X9_moveCount st_X9_moveCount ml_X9_101 ⟨Nat.le_trans (Nat.le_of_ble_eq_true rfl) hRf, Nat.le_trans (Nat.le_of_ble_eq_true rfl) hRl⟩ (hP.sub (ws' := [(pn, .inl (g.2.1, 61, .inl fnow))]) [1] rfl) rfl hl.1 rfl (Nat.le_of_ble_eq_true rfl) dX9_mean_5 ⟨Nat.zero_le _, Nat.zero_le _⟩ ?_
  refine lv_aload_n hx hb dX9_mean_8 rfl (lv_at hl 0 rfl) ?_
  refine gf_X9_7 hx hb hts hown hE hP 0 rfl rfl dX9_mean_9 ?_
  refine lv_iconst (v := 1) hx hb dX9_mean_12 (by decide) ?_
  obtain ⟨r_2, hr_2, hyp⟩ := opt_e hyp
  refine pS (As := [.ref pn, .int 1]) (rest := [.int r_1]) ⟨hx, hb, hml, hown, hts⟩ hE (mX9_moveCount l g pn fnow 1 r_2 hr_2) cf_X9_moveCount st_X9_moveCount ml_X9_101 ⟨Nat.le_trans (Nat.le_of_ble_eq_true rfl) hRf, Nat.le_trans (Nat.le_of_ble_eq_true rfl) hRl⟩ (hP.sub (ws' := [(pn, .inl (g.2.1, 61, .inl fnow))]) [1] rfl) rfl hl.1 rfl (Nat.le_of_ble_eq_true rfl) dX9_mean_13 ⟨Nat.zero_le _, Nat.zero_le _⟩ ?_
  refine lv_iadd hx hb dX9_mean_16 ?_
  refine lv_i2d hx hb dX9_mean_17 ?_
  refine lv_ldc2d (v := 4611686018427387904) hx hb hown (hts _ ct_X9_260) dX9_mean_18 ?_
  obtain ⟨hi, hyp⟩ := grd_e hyp
  refine lv_ddiv hx hb dX9_mean_21 (n64_e hi) ?_
  subst hQ
  exact rD hx hb hr hlocks (some_e hyp) dX9_mean_22

def fX9_meanMoves (fnow : Nat → Int32) : Option (UInt64 × Int32) :=
  (fX9_mean fnow).bind (fun (r_1 : UInt64) => some (r_1, 0))
set_option maxRecDepth 100000 in
set_option maxHeartbeats 4000000 in
theorem mX9_meanMoves (l : Launch) (g : GE) (o pn pt pr pw pb pk pi pf pl pe pm px : Nat) (refu : Int32) (nst : Int32) (nn : Int32) (len : Int32) (pos : Int32) (gd : Int32) (ps : Int32) (sm : Int32) (fnow : Nat → Int32) (r : UInt64 × Int32) (hyp : fX9_meanMoves fnow = some r) : WM l yX9_meanMoves cX9_meanMoves 1 (some .double) 6 136 g [(o, .inr (9, [.int refu, .ref pn, .ref pt, .ref pr, .ref pw, .ref pb, .int nst, .ref pk, .ref pi, .ref pf, .ref pl, .ref pe, .ref pm, .int nn, .ref px, .int len, .int pos, .int gd, .int ps, .int sm])), (pn, .inl (g.2.1, 61, .inl fnow))] [.ref o] (some (.double r.1)) [(o, .inr (9, [.int r.2, .ref pn, .ref pt, .ref pr, .ref pw, .ref pb, .int nst, .ref pk, .ref pi, .ref pf, .ref pl, .ref pe, .ref pm, .int nn, .ref px, .int len, .int pos, .int gd, .int ps, .int sm])), (pn, .inl (g.2.1, 61, .inl fnow))] := by
  refine metW_intro (by decide) rfl ?_
  intro p e R s m args below meth c Q A hRf hRl hQ hx hb hml hr hlocks hown hts hin hE hA H locs hP hD hS ls hl
  have hown : s.vm.findClass "HallGuardsModel" = some m.cls := hown
  have hl : lv_has ls 1 [(0, .ref o)] := hl
  unfold fX9_meanMoves at hyp
  refine lv_aload_n hx hb dX9_meanMoves_0 rfl (lv_at hl 0 rfl) ?_
  refine lv_iconst (v := 0) hx hb dX9_meanMoves_1 (by decide) ?_
  refine pf_X9_52 hx hb hts hown hE hP hD hS 0 rfl rfl dX9_meanMoves_2 (fun H locs hP hD hS => ?_)
  have hP : va_P g.1 vwCl [(o, .inr (9, [.int 0, .ref pn, .ref pt, .ref pr, .ref pw, .ref pb, .int nst, .ref pk, .ref pi, .ref pf, .ref pl, .ref pe, .ref pm, .int nn, .ref px, .int len, .int pos, .int gd, .int ps, .int sm])), (pn, .inl (g.2.1, 61, .inl fnow))] H := hP
  have hD : va_D A [(o, .inr (9, [.int 0, .ref pn, .ref pt, .ref pr, .ref pw, .ref pb, .int nst, .ref pk, .ref pi, .ref pf, .ref pl, .ref pe, .ref pm, .int nn, .ref px, .int len, .int pos, .int gd, .int ps, .int sm])), (pn, .inl (g.2.1, 61, .inl fnow))] := hD
  refine lv_aload_n hx hb dX9_meanMoves_5 rfl (lv_at hl 0 rfl) ?_
  obtain ⟨r_1, hr_1, hyp⟩ := opt_e hyp
  refine pVD (As := []) (rest := []) ⟨hx, hb, hml, hown, hts⟩ hE (mX9_mean l g o pn pt pr pw pb pk pi pf pl pe pm px 0 nst nn len pos gd ps sm fnow r_1 hr_1) cf_X9_mean im_X9_mean se_X9_mean ml_X9_262 ⟨Nat.le_trans (Nat.le_of_ble_eq_true rfl) hRf, Nat.le_trans (Nat.le_of_ble_eq_true rfl) hRl⟩ (hP.sub (ws' := [(o, .inr (9, [.int 0, .ref pn, .ref pt, .ref pr, .ref pw, .ref pb, .int nst, .ref pk, .ref pi, .ref pf, .ref pl, .ref pe, .ref pm, .int nn, .ref px, .int len, .int pos, .int gd, .int ps, .int sm])), (pn, .inl (g.2.1, 61, .inl fnow))]) [0, 1] rfl) (ci := 9) (q0 := 0) rfl rfl rfl rfl hl.1 rfl (Nat.le_of_ble_eq_true rfl) dX9_meanMoves_6 ⟨Nat.zero_le _, Nat.zero_le _⟩ ?_
  have hyp := some_e hyp
  subst hyp
  subst hQ
  exact rwD hx hb hr hlocks  hP hD hS dX9_meanMoves_9

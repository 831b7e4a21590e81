def fX9_setUp (nst : Int32) (nn : Int32) (fnow : Nat → Int32) (fbook : Nat → Int32) (fkept : Nat → Int32) (fisk : Nat → Int32) (ffst : Nat → Int64) (flst : Nat → Int64) (fbef : Nat → Int32) (fmov : Nat → Int32) : Option (Int32 × (Nat → Int32) × (Nat → Int32) × (Nat → Int32) × (Nat → Int64) × (Nat → Int64) × (Nat → Int32) × (Nat → Int32) × Int32 × Int32 × Int32) :=
  (fX9_save nst fnow fbook).bind (fun (r_1 : (Nat → Int32) × Int32) => (fX9_goSetUp r_1.2 nn fnow r_1.1 fkept fisk ffst flst fbef fmov).bind (fun (r_2 : Int32 × (Nat → Int32) × (Nat → Int32) × (Nat → Int32) × (Nat → Int64) × (Nat → Int64) × (Nat → Int32) × (Nat → Int32) × Int32) => some (r_2.1, r_2.2.1, r_2.2.2.1, r_2.2.2.2.1, r_2.2.2.2.2.1, r_2.2.2.2.2.2.1, r_2.2.2.2.2.2.2.1, r_2.2.2.2.2.2.2.2.1, r_2.2.2.2.2.2.2.2.2, r_1.2, 0)))
set_option maxRecDepth 100000 in
set_option maxHeartbeats 4000000 in
theorem mX9_setUp (l : Launch) (g : GE) (o pn pb pk pi pf pl pe pm pt pr pw px : Nat) (refu : Int32) (nst : Int32) (nn : Int32) (len : Int32) (pos : Int32) (gd : Int32) (ps : Int32) (sm : Int32) (fnow : Nat → Int32) (fbook : Nat → Int32) (fkept : Nat → Int32) (fisk : Nat → Int32) (ffst : Nat → Int64) (flst : Nat → Int64) (fbef : Nat → Int32) (fmov : Nat → Int32) (r : Int32 × (Nat → Int32) × (Nat → Int32) × (Nat → Int32) × (Nat → Int64) × (Nat → Int64) × (Nat → Int32) × (Nat → Int32) × Int32 × Int32 × Int32) (hyp : fX9_setUp nst nn fnow fbook fkept fisk ffst flst fbef fmov = some r) : WM l yX9_setUp cX9_setUp 1 (some .int) 7 162 g [(o, .inr (9, [.int refu, .ref pn, .ref pt, .ref pr, .ref pw, .ref pb, .int nst, .ref pk, .ref pi, .ref pf, .ref pl, .ref pe, .ref pm, .int nn, .ref px, .int len, .int pos, .int gd, .int ps, .int sm])), (pn, .inl (g.2.1, 61, .inl fnow)), (pb, .inl (g.2.1, 366, .inl fbook)), (pk, .inl (g.2.1, 122, .inl fkept)), (pi, .inl (g.2.2.2.1, 2, .inl fisk)), (pf, .inl (g.2.2.1, 4096, .inr (.inl ffst))), (pl, .inl (g.2.2.1, 4096, .inr (.inl flst))), (pe, .inl (g.2.1, 4096, .inl fbef)), (pm, .inl (g.2.1, 4096, .inl fmov))] [.ref o] (some (.int r.1)) [(o, .inr (9, [.int r.2.2.2.2.2.2.2.2.2.2, .ref pn, .ref pt, .ref pr, .ref pw, .ref pb, .int r.2.2.2.2.2.2.2.2.2.1, .ref pk, .ref pi, .ref pf, .ref pl, .ref pe, .ref pm, .int r.2.2.2.2.2.2.2.2.1, .ref px, .int len, .int pos, .int gd, .int ps, .int sm])), (pn, .inl (g.2.1, 61, .inl r.2.1)), (pb, .inl (g.2.1, 366, .inl r.2.2.1)), (pk, .inl (g.2.1, 122, .inl r.2.2.2.1)), (pi, .inl (g.2.2.2.1, 2, .inl fisk)), (pf, .inl (g.2.2.1, 4096, .inr (.inl r.2.2.2.2.1))), (pl, .inl (g.2.2.1, 4096, .inr (.inl r.2.2.2.2.2.1))), (pe, .inl (g.2.1, 4096, .inl r.2.2.2.2.2.2.1)), (pm, .inl (g.2.1, 4096, .inl r.2.2.2.2.2.2.2.1))] := by
  refine metW_intro (by decide) rfl ?_
  intro p e R s m args below meth c Q A hRf hRl hQ hx hb hml hr hlocks hown hts hin hE hA H locs hP hD hS ls hl
  have hown : s.vm.findClass "HallGuardsModel" = some m.cls := hown
  have hl : lv_has ls 1 [(0, .ref o)] := hl
  unfold fX9_setUp at hyp
  refine lv_aload_n hx hb dX9_setUp_0 rfl (lv_at hl 0 rfl) ?_
  refine lv_iconst (v := 0) hx hb dX9_setUp_1 (by decide) ?_
  refine pf_X9_52 hx hb hts hown hE hP hD hS 0 rfl rfl dX9_setUp_2 (fun H locs hP hD hS => ?_)
  have hP : va_P g.1 vwCl [(o, .inr (9, [.int 0, .ref pn, .ref pt, .ref pr, .ref pw, .ref pb, .int nst, .ref pk, .ref pi, .ref pf, .ref pl, .ref pe, .ref pm, .int nn, .ref px, .int len, .int pos, .int gd, .int ps, .int sm])), (pn, .inl (g.2.1, 61, .inl fnow)), (pb, .inl (g.2.1, 366, .inl fbook)), (pk, .inl (g.2.1, 122, .inl fkept)), (pi, .inl (g.2.2.2.1, 2, .inl fisk)), (pf, .inl (g.2.2.1, 4096, .inr (.inl ffst))), (pl, .inl (g.2.2.1, 4096, .inr (.inl flst))), (pe, .inl (g.2.1, 4096, .inl fbef)), (pm, .inl (g.2.1, 4096, .inl fmov))] H := hP
  have hD : va_D A [(o, .inr (9, [.int 0, .ref pn, .ref pt, .ref pr, .ref pw, .ref pb, .int nst, .ref pk, .ref pi, .ref pf, .ref pl, .ref pe, .ref pm, .int nn, .ref px, .int len, .int pos, .int gd, .int ps, .int sm])), (pn, .inl (g.2.1, 61, .inl fnow)), (pb, .inl (g.2.1, 366, .inl fbook)), (pk, .inl (g.2.1, 122, .inl fkept)), (pi, .inl (g.2.2.2.1, 2, .inl fisk)), (pf, .inl (g.2.2.1, 4096, .inr (.inl ffst))), (pl, .inl (g.2.2.1, 4096, .inr (.inl flst))), (pe, .inl (g.2.1, 4096, .inl fbef)), (pm, .inl (g.2.1, 4096, .inl fmov))] := hD
  refine lv_aload_n hx hb dX9_setUp_5 rfl (lv_at hl 0 rfl) ?_
  obtain ⟨r_1, hr_1, hyp⟩ := opt_e hyp
  refine wV (As := []) (rest := []) ⟨hx, hb, hml, hown, hts⟩ hE (mX9_save l g o pn pb pt pr pw pk pi pf pl pe pm px 0 nst nn len pos gd ps sm fnow fbook r_1 hr_1) cf_X9_save im_X9_save se_X9_save ml_X9_145 ⟨Nat.le_trans (Nat.le_of_ble_eq_true rfl) hRf, Nat.le_trans (Nat.le_of_ble_eq_true rfl) hRl⟩ hP hD hS hA [0, 1, 2] [3, 4, 5, 6, 7, 8] rfl (wr := [(pk, .inl (g.2.1, 122, .inl fkept)), (pi, .inl (g.2.2.2.1, 2, .inl fisk)), (pf, .inl (g.2.2.1, 4096, .inr (.inl ffst))), (pl, .inl (g.2.2.1, 4096, .inr (.inl flst))), (pe, .inl (g.2.1, 4096, .inl fbef)), (pm, .inl (g.2.1, 4096, .inl fmov))]) rfl ⟨by decide, by decide⟩ (by decide) (ci := 9) (q0 := 0) rfl rfl rfl rfl hl.1 rfl (Nat.le_of_ble_eq_true rfl) dX9_setUp_6 ⟨Nat.zero_le _, Nat.zero_le _⟩ (fun H locs hP hD hS => ?_)
  have hP : va_P g.1 vwCl [(pk, .inl (g.2.1, 122, .inl fkept)), (pi, .inl (g.2.2.2.1, 2, .inl fisk)), (pf, .inl (g.2.2.1, 4096, .inr (.inl ffst))), (pl, .inl (g.2.2.1, 4096, .inr (.inl flst))), (pe, .inl (g.2.1, 4096, .inl fbef)), (pm, .inl (g.2.1, 4096, .inl fmov)), (o, .inr (9, [.int 0, .ref pn, .ref pt, .ref pr, .ref pw, .ref pb, .int r_1.2, .ref pk, .ref pi, .ref pf, .ref pl, .ref pe, .ref pm, .int nn, .ref px, .int len, .int pos, .int gd, .int ps, .int sm])), (pn, .inl (g.2.1, 61, .inl fnow)), (pb, .inl (g.2.1, 366, .inl r_1.1))] H := hP
  have hD : va_D A [(pk, .inl (g.2.1, 122, .inl fkept)), (pi, .inl (g.2.2.2.1, 2, .inl fisk)), (pf, .inl (g.2.2.1, 4096, .inr (.inl ffst))), (pl, .inl (g.2.2.1, 4096, .inr (.inl flst))), (pe, .inl (g.2.1, 4096, .inl fbef)), (pm, .inl (g.2.1, 4096, .inl fmov)), (o, .inr (9, [.int 0, .ref pn, .ref pt, .ref pr, .ref pw, .ref pb, .int r_1.2, .ref pk, .ref pi, .ref pf, .ref pl, .ref pe, .ref pm, .int nn, .ref px, .int len, .int pos, .int gd, .int ps, .int sm])), (pn, .inl (g.2.1, 61, .inl fnow)), (pb, .inl (g.2.1, 366, .inl r_1.1))] := hD
  refine lv_aload_n hx hb dX9_setUp_9 rfl (lv_at hl 0 rfl) ?_
  refine lv_aload_n hx hb dX9_setUp_10 rfl (lv_at hl 0 rfl) ?_
  refine gf_X9_7 hx hb hts hown hE hP 6 rfl rfl dX9_setUp_11 ?_
  obtain ⟨r_2, hr_2, hyp⟩ := opt_e hyp
  refine wV (As := [.ref pn]) (rest := []) ⟨hx, hb, hml, hown, hts⟩ hE (mX9_goSetUp l g o pn pb pk pi pf pl pe pm pt pr pw px 0 r_1.2 nn len pos gd ps sm fnow r_1.1 fkept fisk ffst flst fbef fmov r_2 hr_2) cf_X9_goSetUp im_X9_goSetUp se_X9_goSetUp ml_X9_48 ⟨Nat.le_trans (Nat.le_of_ble_eq_true rfl) hRf, Nat.le_trans (Nat.le_of_ble_eq_true rfl) hRl⟩ hP hD hS hA [6, 7, 8, 0, 1, 2, 3, 4, 5] [] rfl (wr := []) rfl ⟨by decide, by decide⟩ (by decide) (ci := 9) (q0 := 0) rfl rfl rfl rfl hl.1 rfl (Nat.le_of_ble_eq_true rfl) dX9_setUp_14 ⟨Nat.zero_le _, Nat.zero_le _⟩ (fun H locs hP hD hS => ?_)
  have hP : va_P g.1 vwCl [(o, .inr (9, [.int 0, .ref pn, .ref pt, .ref pr, .ref pw, .ref pb, .int r_1.2, .ref pk, .ref pi, .ref pf, .ref pl, .ref pe, .ref pm, .int r_2.2.2.2.2.2.2.2.2, .ref px, .int len, .int pos, .int gd, .int ps, .int sm])), (pn, .inl (g.2.1, 61, .inl r_2.2.1)), (pb, .inl (g.2.1, 366, .inl r_2.2.2.1)), (pk, .inl (g.2.1, 122, .inl r_2.2.2.2.1)), (pi, .inl (g.2.2.2.1, 2, .inl fisk)), (pf, .inl (g.2.2.1, 4096, .inr (.inl r_2.2.2.2.2.1))), (pl, .inl (g.2.2.1, 4096, .inr (.inl r_2.2.2.2.2.2.1))), (pe, .inl (g.2.1, 4096, .inl r_2.2.2.2.2.2.2.1)), (pm, .inl (g.2.1, 4096, .inl r_2.2.2.2.2.2.2.2.1))] H := hP
  have hD : va_D A [(o, .inr (9, [.int 0, .ref pn, .ref pt, .ref pr, .ref pw, .ref pb, .int r_1.2, .ref pk, .ref pi, .ref pf, .ref pl, .ref pe, .ref pm, .int r_2.2.2.2.2.2.2.2.2, .ref px, .int len, .int pos, .int gd, .int ps, .int sm])), (pn, .inl (g.2.1, 61, .inl r_2.2.1)), (pb, .inl (g.2.1, 366, .inl r_2.2.2.1)), (pk, .inl (g.2.1, 122, .inl r_2.2.2.2.1)), (pi, .inl (g.2.2.2.1, 2, .inl fisk)), (pf, .inl (g.2.2.1, 4096, .inr (.inl r_2.2.2.2.2.1))), (pl, .inl (g.2.2.1, 4096, .inr (.inl r_2.2.2.2.2.2.1))), (pe, .inl (g.2.1, 4096, .inl r_2.2.2.2.2.2.2.1)), (pm, .inl (g.2.1, 4096, .inl r_2.2.2.2.2.2.2.2.1))] := hD
  have hyp := some_e hyp
  subst hyp
  subst hQ
  exact rwI hx hb hr hlocks  hP hD hS dX9_setUp_17

def fX9_clearBoard_L19_B (r_2 : Int32) (self_8 : Int32 → (Nat → Int32) → Int32 → (Nat → Int32) → Int32 → Option (Int32 × (Nat → Int32) × Int32 × (Nat → Int32) × Int32)) (v2_3 : Int32) (wfnow_4 : Nat → Int32) (wrefu_5 : Int32) (wfbook_6 : Nat → Int32) (wnst_7 : Int32) : Option (Int32 × (Nat → Int32) × Int32 × (Nat → Int32) × Int32) :=
  if 49 ≤ v2_3 then (grd (inB 50 61) (grd (inB 51 61) (grd (inB 53 61) (grd (inB 49 61) (grd (inB 60 61) (some (r_2, upd (upd (upd (upd (upd wfnow_4 (50 : Int32).toNatClampNeg 0) (51 : Int32).toNatClampNeg 0) (53 : Int32).toNatClampNeg 0) (49 : Int32).toNatClampNeg 0) (60 : Int32).toNatClampNeg (-1), wrefu_5, wfbook_6, wnst_7))))))) else (grd (inB v2_3 61) (self_8 (v2_3 + 1) (upd wfnow_4 v2_3.toNatClampNeg 0) wrefu_5 wfbook_6 wnst_7))
def fX9_clearBoard_L19 (r_2 : Int32) (n : Nat) (v2_3 : Int32) (wfnow_4 : Nat → Int32) (wrefu_5 : Int32) (wfbook_6 : Nat → Int32) (wnst_7 : Int32) : Option (Int32 × (Nat → Int32) × Int32 × (Nat → Int32) × Int32) := lp (fun zf z => fX9_clearBoard_L19_B r_2 (fun v2_3 wfnow_4 wrefu_5 wfbook_6 wnst_7 => zf (v2_3, wfnow_4, wrefu_5, wfbook_6, wnst_7)) z.1 z.2.1 z.2.2.1 z.2.2.2.1 z.2.2.2.2) n (v2_3, wfnow_4, wrefu_5, wfbook_6, wnst_7)
def fX9_clearBoard (nst : Int32) (fnow : Nat → Int32) (fbook : Nat → Int32) : Option (Int32 × (Nat → Int32) × Int32 × (Nat → Int32) × Int32) :=
  (fX9_save nst fnow fbook).bind (fun (r_1 : (Nat → Int32) × Int32) => (fX9_piecesIn fnow).bind (fun (r_2 : Int32) => fX9_clearBoard_L19 r_2 64 0 fnow 0 r_1.1 r_1.2))
set_option maxRecDepth 100000 in
set_option maxHeartbeats 4000000 in
theorem mX9_clearBoard (l : Launch) (g : GE) (o pn pb pt pr pw pk pi pf pl pe pm px : Nat) (refu : Int32) (nst : Int32) (nn : Int32) (len : Int32) (pos : Int32) (gd : Int32) (ps : Int32) (sm : Int32) (fnow : Nat → Int32) (fbook : Nat → Int32) (r : Int32 × (Nat → Int32) × Int32 × (Nat → Int32) × Int32) (hyp : fX9_clearBoard nst fnow fbook = some r) : WM l yX9_clearBoard cX9_clearBoard 3 (some .int) 1 22 g [(o, .inr (9, [.int refu, .ref pn, .ref pt, .ref pr, .ref pw, .ref pb, .int nst, .ref pk, .ref pi, .ref pf, .ref pl, .ref pe, .ref pm, .int nn, .ref px, .int len, .int pos, .int gd, .int ps, .int sm])), (pn, .inl (g.2.1, 61, .inl fnow)), (pb, .inl (g.2.1, 366, .inl fbook))] [.ref o] (some (.int r.1)) [(o, .inr (9, [.int r.2.2.1, .ref pn, .ref pt, .ref pr, .ref pw, .ref pb, .int r.2.2.2.2, .ref pk, .ref pi, .ref pf, .ref pl, .ref pe, .ref pm, .int nn, .ref px, .int len, .int pos, .int gd, .int ps, .int sm])), (pn, .inl (g.2.1, 61, .inl r.2.1)), (pb, .inl (g.2.1, 366, .inl r.2.2.2.1))] := by
  refine metW_intro (by decide) rfl ?_
  intro p e R s m args below meth c Q A hRf hRl hQ hx hb hml hr hlocks hown hts hin hE hA H locs hP hD hS ls hl
  have hown : s.vm.findClass "HallGuardsModel" = some m.cls := hown
  have hl : lv_has ls 3 [(0, .ref o)] := hl
  unfold fX9_clearBoard at hyp
  refine lv_aload_n hx hb dX9_clearBoard_0 rfl (lv_at hl 0 rfl) ?_
  refine lv_iconst (v := 0) hx hb dX9_clearBoard_1 (by decide) ?_
  refine pf_X9_52 hx hb hts hown hE hP hD hS 0 rfl rfl dX9_clearBoard_2 (fun H locs hP hD hS => ?_)
  have hP : va_P g.1 vwCl [(o, .inr (9, [.int 0, .ref pn, .ref pt, .ref pr, .ref pw, .ref pb, .int nst, .ref pk, .ref pi, .ref pf, .ref pl, .ref pe, .ref pm, .int nn, .ref px, .int len, .int pos, .int gd, .int ps, .int sm])), (pn, .inl (g.2.1, 61, .inl fnow)), (pb, .inl (g.2.1, 366, .inl fbook))] H := hP
  have hD : va_D A [(o, .inr (9, [.int 0, .ref pn, .ref pt, .ref pr, .ref pw, .ref pb, .int nst, .ref pk, .ref pi, .ref pf, .ref pl, .ref pe, .ref pm, .int nn, .ref px, .int len, .int pos, .int gd, .int ps, .int sm])), (pn, .inl (g.2.1, 61, .inl fnow)), (pb, .inl (g.2.1, 366, .inl fbook))] := hD
  refine lv_aload_n hx hb dX9_clearBoard_5 rfl (lv_at hl 0 rfl) ?_
  obtain ⟨r_1, hr_1, hyp⟩ := opt_e hyp
  refine wV (As := []) (rest := []) ⟨hx, hb, hml, hown, hts⟩ hE (mX9_save l g o pn pb pt pr pw pk pi pf pl pe pm px 0 nst nn len pos gd ps sm fnow fbook r_1 hr_1) cf_X9_save im_X9_save se_X9_save ml_X9_145 ⟨Nat.le_trans (Nat.le_of_ble_eq_true rfl) hRf, Nat.le_trans (Nat.le_of_ble_eq_true rfl) hRl⟩ hP hD hS hA [0, 1, 2] [] rfl (wr := []) rfl ⟨by decide, by decide⟩ (by decide) (ci := 9) (q0 := 0) rfl rfl rfl rfl hl.1 rfl (Nat.le_of_ble_eq_true rfl) dX9_clearBoard_6 ⟨Nat.zero_le _, Nat.zero_le _⟩ (fun H locs hP hD hS => ?_)
  have hP : va_P g.1 vwCl [(o, .inr (9, [.int 0, .ref pn, .ref pt, .ref pr, .ref pw, .ref pb, .int r_1.2, .ref pk, .ref pi, .ref pf, .ref pl, .ref pe, .ref pm, .int nn, .ref px, .int len, .int pos, .int gd, .int ps, .int sm])), (pn, .inl (g.2.1, 61, .inl fnow)), (pb, .inl (g.2.1, 366, .inl r_1.1))] H := hP
  have hD : va_D A [(o, .inr (9, [.int 0, .ref pn, .ref pt, .ref pr, .ref pw, .ref pb, .int r_1.2, .ref pk, .ref pi, .ref pf, .ref pl, .ref pe, .ref pm, .int nn, .ref px, .int len, .int pos, .int gd, .int ps, .int sm])), (pn, .inl (g.2.1, 61, .inl fnow)), (pb, .inl (g.2.1, 366, .inl r_1.1))] := hD
  refine lv_aload_n hx hb dX9_clearBoard_9 rfl (lv_at hl 0 rfl) ?_
  refine gf_X9_7 hx hb hts hown hE hP 0 rfl rfl dX9_clearBoard_10 ?_
  obtain ⟨r_2, hr_2, hyp⟩ := opt_e hyp
  refine pS (As := [.ref pn]) (rest := []) ⟨hx, hb, hml, hown, hts⟩ hE (mX9_piecesIn l g pn fnow r_2 hr_2) cf_X9_piecesIn st_X9_piecesIn ml_X9_129 ⟨Nat.le_trans (Nat.le_of_ble_eq_true rfl) hRf, Nat.le_trans (Nat.le_of_ble_eq_true rfl) hRl⟩ (hP.sub (ws' := [(pn, .inl (g.2.1, 61, .inl fnow))]) [1] rfl) rfl hl.1 rfl (Nat.le_of_ble_eq_true rfl) dX9_clearBoard_13 ⟨Nat.zero_le _, Nat.zero_le _⟩ ?_
  refine lv_istore_n (lv' := [(1, .int r_2), (0, .ref o)]) hx hb dX9_clearBoard_16 rfl hl (by decide) rfl (fun ls hl => ?_)
  refine lv_iconst (v := 0) hx hb dX9_clearBoard_17 (by decide) ?_
  refine lv_istore_n (lv' := [(2, .int 0), (1, .int r_2), (0, .ref o)]) hx hb dX9_clearBoard_18 rfl hl (by decide) rfl (fun ls hl => ?_)
  refine lp_i (r := r) (fun z : Int32 × (Nat → Int32) × Int32 × (Nat → Int32) × Int32 => ∀ (H : Heap) (locs : List Loc) (ls : Array Slot), lv_has ls 3 [(0, .ref o), (1, .int r_2), (2, .int z.1)] → va_P g.1 vwCl [(o, .inr (9, [.int z.2.2.1, .ref pn, .ref pt, .ref pr, .ref pw, .ref pb, .int z.2.2.2.2, .ref pk, .ref pi, .ref pf, .ref pl, .ref pe, .ref pm, .int nn, .ref px, .int len, .int pos, .int gd, .int ps, .int sm])), (pn, .inl (g.2.1, 61, .inl z.2.1)), (pb, .inl (g.2.1, 366, .inl z.2.2.2.1))] H → va_D A [(o, .inr (9, [.int z.2.2.1, .ref pn, .ref pt, .ref pr, .ref pw, .ref pb, .int z.2.2.2.2, .ref pk, .ref pi, .ref pf, .ref pl, .ref pe, .ref pm, .int nn, .ref px, .int len, .int pos, .int gd, .int ps, .int sm])), (pn, .inl (g.2.1, 61, .inl z.2.1)), (pb, .inl (g.2.1, 366, .inl z.2.2.2.1))] → va_S A s.heap H locs → W p l e R s m args below meth c H locs 0 0 Q (F0 m 19 ls [])) ?_ 64 (0, fnow, 0, r_1.1, r_1.2) hyp _ _ ls (lv_sub hl [2, 1, 0] rfl) hP hD hS
  intro self_8T ihself_8T z hyp H locs ls hl hP hD hS
  obtain ⟨v2_3, wfnow_4, wrefu_5, wfbook_6, wnst_7⟩ := z
  obtain ⟨self_8, eself_8⟩ : ∃ f9 : Int32 → (Nat → Int32) → Int32 → (Nat → Int32) → Int32 → Option (Int32 × (Nat → Int32) × Int32 × (Nat → Int32) × Int32), f9 = fun v2_3 wfnow_4 wrefu_5 wfbook_6 wnst_7 => self_8T (v2_3, wfnow_4, wrefu_5, wfbook_6, wnst_7) := ⟨_, rfl⟩
  have ihself_8 := fun (v2_3 : Int32) (wfnow_4 : Nat → Int32) (wrefu_5 : Int32) (wfbook_6 : Nat → Int32) (wnst_7 : Int32) (h9 : self_8 v2_3 wfnow_4 wrefu_5 wfbook_6 wnst_7 = some r) => ihself_8T (v2_3, wfnow_4, wrefu_5, wfbook_6, wnst_7) (by rw [eself_8] at h9; exact h9)
  replace hyp : fX9_clearBoard_L19_B r_2 self_8 v2_3 wfnow_4 wrefu_5 wfbook_6 wnst_7 = some r := by rw [eself_8]; exact hyp
  have hl : lv_has ls 3 [(0, .ref o), (1, .int r_2), (2, .int v2_3)] := hl
  have hP : va_P g.1 vwCl [(o, .inr (9, [.int wrefu_5, .ref pn, .ref pt, .ref pr, .ref pw, .ref pb, .int wnst_7, .ref pk, .ref pi, .ref pf, .ref pl, .ref pe, .ref pm, .int nn, .ref px, .int len, .int pos, .int gd, .int ps, .int sm])), (pn, .inl (g.2.1, 61, .inl wfnow_4)), (pb, .inl (g.2.1, 366, .inl wfbook_6))] H := hP
  have hD : va_D A [(o, .inr (9, [.int wrefu_5, .ref pn, .ref pt, .ref pr, .ref pw, .ref pb, .int wnst_7, .ref pk, .ref pi, .ref pf, .ref pl, .ref pe, .ref pm, .int nn, .ref px, .int len, .int pos, .int gd, .int ps, .int sm])), (pn, .inl (g.2.1, 61, .inl wfnow_4)), (pb, .inl (g.2.1, 366, .inl wfbook_6))] := hD
  show W p l e R s m args below meth c H locs 0 0 Q (F0 m 19 ls [])
  unfold fX9_clearBoard_L19_B at hyp
  refine lv_iload_n hx hb dX9_clearBoard_19 rfl (lv_at hl 2 rfl) ?_
  refine lv_bipush (v := 49) hx hb dX9_clearBoard_20 (by decide) ?_
  refine lv_icmp_ge (tgt := 38) hx hb dX9_clearBoard_22 (by decide) (fun h_9 => ?_) (fun h_9 => ?_)
  · replace hyp := ite_t h_9 hyp
    refine lv_aload_n hx hb dX9_clearBoard_38 rfl (lv_at hl 0 rfl) ?_
    refine gf_X9_7 hx hb hts hown hE hP 0 rfl rfl dX9_clearBoard_39 ?_
    refine lv_bipush (v := 50) hx hb dX9_clearBoard_42 (by decide) ?_
    refine lv_iconst (v := 0) hx hb dX9_clearBoard_44 (by decide) ?_
    obtain ⟨hi, hyp⟩ := grd_e hyp
    refine va_iast hx hb hE.1 hP hD hS 1 0 rfl rfl (inB_vp hi) dX9_clearBoard_45 (fun H locs hP hD hS => ?_)
    have hP : va_P g.1 vwCl [(o, .inr (9, [.int wrefu_5, .ref pn, .ref pt, .ref pr, .ref pw, .ref pb, .int wnst_7, .ref pk, .ref pi, .ref pf, .ref pl, .ref pe, .ref pm, .int nn, .ref px, .int len, .int pos, .int gd, .int ps, .int sm])), (pn, .inl (g.2.1, 61, .inl (upd wfnow_4 (50 : Int32).toNatClampNeg 0))), (pb, .inl (g.2.1, 366, .inl wfbook_6))] H := hP
    have hD : va_D A [(o, .inr (9, [.int wrefu_5, .ref pn, .ref pt, .ref pr, .ref pw, .ref pb, .int wnst_7, .ref pk, .ref pi, .ref pf, .ref pl, .ref pe, .ref pm, .int nn, .ref px, .int len, .int pos, .int gd, .int ps, .int sm])), (pn, .inl (g.2.1, 61, .inl (upd wfnow_4 (50 : Int32).toNatClampNeg 0))), (pb, .inl (g.2.1, 366, .inl wfbook_6))] := hD
    refine lv_aload_n hx hb dX9_clearBoard_46 rfl (lv_at hl 0 rfl) ?_
    refine gf_X9_7 hx hb hts hown hE hP 0 rfl rfl dX9_clearBoard_47 ?_
    refine lv_bipush (v := 51) hx hb dX9_clearBoard_50 (by decide) ?_
    refine lv_iconst (v := 0) hx hb dX9_clearBoard_52 (by decide) ?_
    obtain ⟨hi, hyp⟩ := grd_e hyp
    refine va_iast hx hb hE.1 hP hD hS 1 0 rfl rfl (inB_vp hi) dX9_clearBoard_53 (fun H locs hP hD hS => ?_)
    have hP : va_P g.1 vwCl [(o, .inr (9, [.int wrefu_5, .ref pn, .ref pt, .ref pr, .ref pw, .ref pb, .int wnst_7, .ref pk, .ref pi, .ref pf, .ref pl, .ref pe, .ref pm, .int nn, .ref px, .int len, .int pos, .int gd, .int ps, .int sm])), (pn, .inl (g.2.1, 61, .inl (upd (upd wfnow_4 (50 : Int32).toNatClampNeg 0) (51 : Int32).toNatClampNeg 0))), (pb, .inl (g.2.1, 366, .inl wfbook_6))] H := hP
    have hD : va_D A [(o, .inr (9, [.int wrefu_5, .ref pn, .ref pt, .ref pr, .ref pw, .ref pb, .int wnst_7, .ref pk, .ref pi, .ref pf, .ref pl, .ref pe, .ref pm, .int nn, .ref px, .int len, .int pos, .int gd, .int ps, .int sm])), (pn, .inl (g.2.1, 61, .inl (upd (upd wfnow_4 (50 : Int32).toNatClampNeg 0) (51 : Int32).toNatClampNeg 0))), (pb, .inl (g.2.1, 366, .inl wfbook_6))] := hD
    refine lv_aload_n hx hb dX9_clearBoard_54 rfl (lv_at hl 0 rfl) ?_
    refine gf_X9_7 hx hb hts hown hE hP 0 rfl rfl dX9_clearBoard_55 ?_
    refine lv_bipush (v := 53) hx hb dX9_clearBoard_58 (by decide) ?_
    refine lv_iconst (v := 0) hx hb dX9_clearBoard_60 (by decide) ?_
    obtain ⟨hi, hyp⟩ := grd_e hyp
    refine va_iast hx hb hE.1 hP hD hS 1 0 rfl rfl (inB_vp hi) dX9_clearBoard_61 (fun H locs hP hD hS => ?_)
    have hP : va_P g.1 vwCl [(o, .inr (9, [.int wrefu_5, .ref pn, .ref pt, .ref pr, .ref pw, .ref pb, .int wnst_7, .ref pk, .ref pi, .ref pf, .ref pl, .ref pe, .ref pm, .int nn, .ref px, .int len, .int pos, .int gd, .int ps, .int sm])), (pn, .inl (g.2.1, 61, .inl (upd (upd (upd wfnow_4 (50 : Int32).toNatClampNeg 0) (51 : Int32).toNatClampNeg 0) (53 : Int32).toNatClampNeg 0))), (pb, .inl (g.2.1, 366, .inl wfbook_6))] H := hP
    have hD : va_D A [(o, .inr (9, [.int wrefu_5, .ref pn, .ref pt, .ref pr, .ref pw, .ref pb, .int wnst_7, .ref pk, .ref pi, .ref pf, .ref pl, .ref pe, .ref pm, .int nn, .ref px, .int len, .int pos, .int gd, .int ps, .int sm])), (pn, .inl (g.2.1, 61, .inl (upd (upd (upd wfnow_4 (50 : Int32).toNatClampNeg 0) (51 : Int32).toNatClampNeg 0) (53 : Int32).toNatClampNeg 0))), (pb, .inl (g.2.1, 366, .inl wfbook_6))] := hD
    refine lv_aload_n hx hb dX9_clearBoard_62 rfl (lv_at hl 0 rfl) ?_
    refine gf_X9_7 hx hb hts hown hE hP 0 rfl rfl dX9_clearBoard_63 ?_
    refine lv_bipush (v := 49) hx hb dX9_clearBoard_66 (by decide) ?_
    refine lv_iconst (v := 0) hx hb dX9_clearBoard_68 (by decide) ?_
    obtain ⟨hi, hyp⟩ := grd_e hyp
    refine va_iast hx hb hE.1 hP hD hS 1 0 rfl rfl (inB_vp hi) dX9_clearBoard_69 (fun H locs hP hD hS => ?_)
    have hP : va_P g.1 vwCl [(o, .inr (9, [.int wrefu_5, .ref pn, .ref pt, .ref pr, .ref pw, .ref pb, .int wnst_7, .ref pk, .ref pi, .ref pf, .ref pl, .ref pe, .ref pm, .int nn, .ref px, .int len, .int pos, .int gd, .int ps, .int sm])), (pn, .inl (g.2.1, 61, .inl (upd (upd (upd (upd wfnow_4 (50 : Int32).toNatClampNeg 0) (51 : Int32).toNatClampNeg 0) (53 : Int32).toNatClampNeg 0) (49 : Int32).toNatClampNeg 0))), (pb, .inl (g.2.1, 366, .inl wfbook_6))] H := hP
    have hD : va_D A [(o, .inr (9, [.int wrefu_5, .ref pn, .ref pt, .ref pr, .ref pw, .ref pb, .int wnst_7, .ref pk, .ref pi, .ref pf, .ref pl, .ref pe, .ref pm, .int nn, .ref px, .int len, .int pos, .int gd, .int ps, .int sm])), (pn, .inl (g.2.1, 61, .inl (upd (upd (upd (upd wfnow_4 (50 : Int32).toNatClampNeg 0) (51 : Int32).toNatClampNeg 0) (53 : Int32).toNatClampNeg 0) (49 : Int32).toNatClampNeg 0))), (pb, .inl (g.2.1, 366, .inl wfbook_6))] := hD
    refine lv_aload_n hx hb dX9_clearBoard_70 rfl (lv_at hl 0 rfl) ?_
    refine gf_X9_7 hx hb hts hown hE hP 0 rfl rfl dX9_clearBoard_71 ?_
    refine lv_bipush (v := 60) hx hb dX9_clearBoard_74 (by decide) ?_
    refine lv_iconst (v := (-1)) hx hb dX9_clearBoard_76 (by decide) ?_
    obtain ⟨hi, hyp⟩ := grd_e hyp
    refine va_iast hx hb hE.1 hP hD hS 1 0 rfl rfl (inB_vp hi) dX9_clearBoard_77 (fun H locs hP hD hS => ?_)
    have hP : va_P g.1 vwCl [(o, .inr (9, [.int wrefu_5, .ref pn, .ref pt, .ref pr, .ref pw, .ref pb, .int wnst_7, .ref pk, .ref pi, .ref pf, .ref pl, .ref pe, .ref pm, .int nn, .ref px, .int len, .int pos, .int gd, .int ps, .int sm])), (pn, .inl (g.2.1, 61, .inl (upd (upd (upd (upd (upd wfnow_4 (50 : Int32).toNatClampNeg 0) (51 : Int32).toNatClampNeg 0) (53 : Int32).toNatClampNeg 0) (49 : Int32).toNatClampNeg 0) (60 : Int32).toNatClampNeg (-1)))), (pb, .inl (g.2.1, 366, .inl wfbook_6))] H := hP
    have hD : va_D A [(o, .inr (9, [.int wrefu_5, .ref pn, .ref pt, .ref pr, .ref pw, .ref pb, .int wnst_7, .ref pk, .ref pi, .ref pf, .ref pl, .ref pe, .ref pm, .int nn, .ref px, .int len, .int pos, .int gd, .int ps, .int sm])), (pn, .inl (g.2.1, 61, .inl (upd (upd (upd (upd (upd wfnow_4 (50 : Int32).toNatClampNeg 0) (51 : Int32).toNatClampNeg 0) (53 : Int32).toNatClampNeg 0) (49 : Int32).toNatClampNeg 0) (60 : Int32).toNatClampNeg (-1)))), (pb, .inl (g.2.1, 366, .inl wfbook_6))] := hD
    refine lv_iload_n hx hb dX9_clearBoard_78 rfl (lv_at hl 1 rfl) ?_
    have hyp := some_e hyp
    subst hyp
    subst hQ
    exact rwI hx hb hr hlocks  hP hD hS dX9_clearBoard_79
  · replace hyp := ite_f h_9 hyp
    refine lv_aload_n hx hb dX9_clearBoard_25 rfl (lv_at hl 0 rfl) ?_
    refine gf_X9_7 hx hb hts hown hE hP 0 rfl rfl dX9_clearBoard_26 ?_
    refine lv_iload_n hx hb dX9_clearBoard_29 rfl (lv_at hl 2 rfl) ?_
    refine lv_iconst (v := 0) hx hb dX9_clearBoard_30 (by decide) ?_
    obtain ⟨hi, hyp⟩ := grd_e hyp
    refine va_iast hx hb hE.1 hP hD hS 1 0 rfl rfl (inB_vp hi) dX9_clearBoard_31 (fun H locs hP hD hS => ?_)
    have hP : va_P g.1 vwCl [(o, .inr (9, [.int wrefu_5, .ref pn, .ref pt, .ref pr, .ref pw, .ref pb, .int wnst_7, .ref pk, .ref pi, .ref pf, .ref pl, .ref pe, .ref pm, .int nn, .ref px, .int len, .int pos, .int gd, .int ps, .int sm])), (pn, .inl (g.2.1, 61, .inl (upd wfnow_4 v2_3.toNatClampNeg 0))), (pb, .inl (g.2.1, 366, .inl wfbook_6))] H := hP
    have hD : va_D A [(o, .inr (9, [.int wrefu_5, .ref pn, .ref pt, .ref pr, .ref pw, .ref pb, .int wnst_7, .ref pk, .ref pi, .ref pf, .ref pl, .ref pe, .ref pm, .int nn, .ref px, .int len, .int pos, .int gd, .int ps, .int sm])), (pn, .inl (g.2.1, 61, .inl (upd wfnow_4 v2_3.toNatClampNeg 0))), (pb, .inl (g.2.1, 366, .inl wfbook_6))] := hD
    refine lv_iinc (v := v2_3 + 1) (lv' := [(2, .int (v2_3 + 1)), (0, .ref o), (1, .int r_2)]) hx hb dX9_clearBoard_32 hl (k := 2) rfl rfl (by decide) rfl (fun ls hl => ?_)
    refine lv_goto (tgt := 19) hx hb dX9_clearBoard_35 (by decide) ?_
    exact ihself_8 (v2_3 + 1) (upd wfnow_4 v2_3.toNatClampNeg 0) wrefu_5 wfbook_6 wnst_7 hyp H locs ls (lv_sub hl [1, 2, 0] rfl) hP hD hS

def fX9_mayPut (fnow : Nat → Int32) (a1 : Int32) (a2 : Int32) : Option Int32 :=
  jn (fun (t_1 : Int32) => grd (inB 51 61) (if (fnow (51 : Int32).toNatClampNeg) = 0 then (if t_1 = 0 then (if a2 = 0 then (some 1) else ((fX9_rests a2 a1).bind (fun (r_6 : Int32) => if r_6 = 0 then (some 0) else (some 1)))) else (some 0)) else (some 0))) (fun J_2 => jn (J_2 0) (fun J_8 => if a2 = 3 then ((fX9_king fnow).bind (fun (r_10 : Int32) => if r_10 = (-1) then (J_8) else ((fX9_king fnow).bind (fun (r_12 : Int32) => if r_12 = a1 then (J_8) else (J_2 1))))) else (J_8)))
set_option maxRecDepth 100000 in
set_option maxHeartbeats 4000000 in
theorem mX9_mayPut (l : Launch) (g : GE) (o pn pt pr pw pb pk pi pf pl pe pm px : Nat) (refu : Int32) (nst : Int32) (nn : Int32) (len : Int32) (pos : Int32) (gd : Int32) (ps : Int32) (sm : Int32) (fnow : Nat → Int32) (a1 : Int32) (a2 : Int32) (r : Int32) (hyp : fX9_mayPut fnow a1 a2 = some r) : PI l yX9_mayPut cX9_mayPut 4 (some .boolean) 2 41 g [(o, .inr (9, [.int refu, .ref pn, .ref pt, .ref pr, .ref pw, .ref pb, .int nst, .ref pk, .ref pi, .ref pf, .ref pl, .ref pe, .ref pm, .int nn, .ref px, .int len, .int pos, .int gd, .int ps, .int sm])), (pn, .inl (g.2.1, 61, .inl fnow))] [.ref o, .int a1, .int a2] r := by
  refine metP_intro (by decide) rfl ?_
  intro p e R s m args below meth c Q hRf hRl hQ hx hb hml hr hlocks hown hts hin hE hP ls hl
  have hown : s.vm.findClass "HallGuardsModel" = some m.cls := hown
  have hl : lv_has ls 4 [(0, .ref o), (1, .int a1), (2, .int a2)] := hl
  unfold fX9_mayPut at hyp
  refine lv_iload_n hx hb dX9_mayPut_0 rfl (lv_at hl 2 rfl) ?_
  refine lv_iconst (v := 3) hx hb dX9_mayPut_1 (by decide) ?_
  obtain ⟨J_2, eJ_2, hyp⟩ := jn_e hyp
  have kJ_2 : ∀ (t_1 : Int32) (ls : Array Slot), J_2 t_1 = some r → lv_has ls 4 [(0, .ref o), (1, .int a1), (2, .int a2)] → W p l e R s m args below meth c s.heap [] 0 0 Q (F0 m 32 ls [.int t_1]) := by
    intro t_1  ls hyp hl
    replace hyp := (congrFun (eJ_2) t_1).symm.trans hyp
    refine lv_istore_n (lv' := [(3, .int t_1), (0, .ref o), (1, .int a1), (2, .int a2)]) hx hb dX9_mayPut_32 rfl hl (by decide) rfl (fun ls hl => ?_)
    refine lv_aload_n hx hb dX9_mayPut_33 rfl (lv_at hl 1 rfl) ?_
    refine gf_X9_7 hx hb hts hown hE hP 0 rfl rfl dX9_mayPut_34 ?_
    refine lv_bipush (v := 51) hx hb dX9_mayPut_37 (by decide) ?_
    obtain ⟨hi, hyp⟩ := grd_e hyp
    refine va_iald hx hb hE.1 hP 1 0 rfl rfl (inB_vp hi) dX9_mayPut_39 ?_
    refine lv_if_ne (tgt := 63) hx hb dX9_mayPut_40 (by decide) (fun h_3 => ?_) (fun h_3 => ?_)
    · replace hyp := ite_f h_3 hyp
      refine lv_iconst (v := 0) hx hb dX9_mayPut_63 (by decide) ?_
      subst hQ
      exact rZ hx hb hr hlocks (Or.inl rfl) (some_e hyp) dX9_mayPut_64
    · replace hyp := ite_t h_3 hyp
      refine lv_iload_n hx hb dX9_mayPut_43 rfl (lv_at hl 0 rfl) ?_
      refine lv_if_ne (tgt := 63) hx hb dX9_mayPut_44 (by decide) (fun h_4 => ?_) (fun h_4 => ?_)
      · replace hyp := ite_f h_4 hyp
        refine lv_iconst (v := 0) hx hb dX9_mayPut_63 (by decide) ?_
        subst hQ
        exact rZ hx hb hr hlocks (Or.inl rfl) (some_e hyp) dX9_mayPut_64
      · replace hyp := ite_t h_4 hyp
        refine lv_iload_n hx hb dX9_mayPut_47 rfl (lv_at hl 3 rfl) ?_
        refine lv_if_eq (tgt := 59) hx hb dX9_mayPut_48 (by decide) (fun h_5 => ?_) (fun h_5 => ?_)
        · replace hyp := ite_t h_5 hyp
          refine lv_iconst (v := 1) hx hb dX9_mayPut_59 (by decide) ?_
          refine lv_goto (tgt := 64) hx hb dX9_mayPut_60 (by decide) ?_
          subst hQ
          exact rZ hx hb hr hlocks (Or.inr rfl) (some_e hyp) dX9_mayPut_64
        · replace hyp := ite_f h_5 hyp
          refine lv_iload_n hx hb dX9_mayPut_51 rfl (lv_at hl 3 rfl) ?_
          refine lv_iload_n hx hb dX9_mayPut_52 rfl (lv_at hl 2 rfl) ?_
          obtain ⟨r_6, hr_6, hyp⟩ := opt_e hyp
          refine pS (As := [.int a2, .int a1]) (rest := []) ⟨hx, hb, hml, hown, hts⟩ hE (mX9_rests l g a2 a1 r_6 hr_6) cf_X9_rests st_X9_rests ml_X9_80 ⟨Nat.le_trans (Nat.le_of_ble_eq_true rfl) hRf, Nat.le_trans (Nat.le_of_ble_eq_true rfl) hRl⟩ (va_P_nil) rfl hl.1 rfl (Nat.le_of_ble_eq_true rfl) dX9_mayPut_53 ⟨Nat.zero_le _, Nat.zero_le _⟩ ?_
          refine lv_if_eq (tgt := 63) hx hb dX9_mayPut_56 (by decide) (fun h_7 => ?_) (fun h_7 => ?_)
          · replace hyp := ite_t h_7 hyp
            refine lv_iconst (v := 0) hx hb dX9_mayPut_63 (by decide) ?_
            subst hQ
            exact rZ hx hb hr hlocks (Or.inl rfl) (some_e hyp) dX9_mayPut_64
          · replace hyp := ite_f h_7 hyp
            refine lv_iconst (v := 1) hx hb dX9_mayPut_59 (by decide) ?_
            refine lv_goto (tgt := 64) hx hb dX9_mayPut_60 (by decide) ?_
            subst hQ
            exact rZ hx hb hr hlocks (Or.inr rfl) (some_e hyp) dX9_mayPut_64
  obtain ⟨J_8, eJ_8, hyp⟩ := jn_e hyp
  have kJ_8 : ∀ (ls : Array Slot), J_8 = some r → lv_has ls 4 [(0, .ref o), (1, .int a1), (2, .int a2)] → W p l e R s m args below meth c s.heap [] 0 0 Q (F0 m 31 ls []) := by
    intro  ls hyp hl
    replace hyp := (eJ_8).symm.trans hyp
    refine lv_iconst (v := 0) hx hb dX9_mayPut_31 (by decide) ?_
    exact kJ_2 0 ls hyp hl
  refine lv_icmp_ne (tgt := 31) hx hb dX9_mayPut_2 (by decide) (fun h_9 => ?_) (fun h_9 => ?_)
  · replace hyp := ite_f h_9 hyp
    exact kJ_8 ls hyp hl
  · replace hyp := ite_t h_9 hyp
    refine lv_aload_n hx hb dX9_mayPut_5 rfl (lv_at hl 0 rfl) ?_
    refine gf_X9_7 hx hb hts hown hE hP 0 rfl rfl dX9_mayPut_6 ?_
    obtain ⟨r_10, hr_10, hyp⟩ := opt_e hyp
    refine pS (As := [.ref pn]) (rest := []) ⟨hx, hb, hml, hown, hts⟩ hE (mX9_king l g pn fnow r_10 hr_10) cf_X9_king st_X9_king ml_X9_98 ⟨Nat.le_trans (Nat.le_of_ble_eq_true rfl) hRf, Nat.le_trans (Nat.le_of_ble_eq_true rfl) hRl⟩ (hP.sub (ws' := [(pn, .inl (g.2.1, 61, .inl fnow))]) [1] rfl) rfl hl.1 rfl (Nat.le_of_ble_eq_true rfl) dX9_mayPut_9 ⟨Nat.zero_le _, Nat.zero_le _⟩ ?_
    refine lv_iconst (v := (-1)) hx hb dX9_mayPut_12 (by decide) ?_
    refine lv_icmp_eq (tgt := 31) hx hb dX9_mayPut_13 (by decide) (fun h_11 => ?_) (fun h_11 => ?_)
    · replace hyp := ite_t h_11 hyp
      exact kJ_8 ls hyp hl
    · replace hyp := ite_f h_11 hyp
      refine lv_aload_n hx hb dX9_mayPut_16 rfl (lv_at hl 0 rfl) ?_
      refine gf_X9_7 hx hb hts hown hE hP 0 rfl rfl dX9_mayPut_17 ?_
      obtain ⟨r_12, hr_12, hyp⟩ := opt_e hyp
      refine pS (As := [.ref pn]) (rest := []) ⟨hx, hb, hml, hown, hts⟩ hE (mX9_king l g pn fnow r_12 hr_12) cf_X9_king st_X9_king ml_X9_98 ⟨Nat.le_trans (Nat.le_of_ble_eq_true rfl) hRf, Nat.le_trans (Nat.le_of_ble_eq_true rfl) hRl⟩ (hP.sub (ws' := [(pn, .inl (g.2.1, 61, .inl fnow))]) [1] rfl) rfl hl.1 rfl (Nat.le_of_ble_eq_true rfl) dX9_mayPut_20 ⟨Nat.zero_le _, Nat.zero_le _⟩ ?_
      refine lv_iload_n hx hb dX9_mayPut_23 rfl (lv_at hl 1 rfl) ?_
      refine lv_icmp_eq (tgt := 31) hx hb dX9_mayPut_24 (by decide) (fun h_13 => ?_) (fun h_13 => ?_)
      · replace hyp := ite_t h_13 hyp
        exact kJ_8 ls hyp hl
      · replace hyp := ite_f h_13 hyp
        refine lv_iconst (v := 1) hx hb dX9_mayPut_27 (by decide) ?_
        refine lv_goto (tgt := 32) hx hb dX9_mayPut_28 (by decide) ?_
        exact kJ_2 1 ls hyp hl

def fX9_put (nst : Int32) (fnow : Nat → Int32) (fbook : Nat → Int32) (a1 : Int32) (a2 : Int32) (a3 : Int32) : Option (Int32 × (Nat → Int32) × Int32 × (Nat → Int32) × Int32) :=
  (fX9_isCell a1 a2).bind (fun (r_1 : Int32) => jn (fun (t_2 : Int32) => (fX9_isCell a1 a2).bind (fun (r_4 : Int32) => jn (fun (t_5 : Int32) => (fX9_isCell a1 a2).bind (fun (r_7 : Int32) => jn (fun (t_8 : Int32) => (fX9_refused t_8).bind (fun (r_10 : Int32 × Int32) => if r_10.1 = 0 then ((fX9_save nst fnow fbook).bind (fun (r_12 : (Nat → Int32) × Int32) => grd (inB ((7 * t_2) + t_5) 61) (bnd (fnow ((7 * t_2) + t_5).toNatClampNeg) (fun (v5_13 : Int32) => grd (inB ((7 * t_2) + t_5) 61) (some (v5_13, upd fnow ((7 * t_2) + t_5).toNatClampNeg a3, r_10.2, r_12.1, r_12.2)))))) else (some (0, fnow, r_10.2, fbook, nst)))) (fun J_9 => if r_7 = 0 then (J_9 1) else ((fX9_in a3.toInt64 0 3).bind (fun (r_15 : Int32) => if r_15 = 0 then (J_9 2) else ((fX9_mayPut fnow ((7 * t_2) + t_5) a3).bind (fun (r_17 : Int32) => if r_17 = 0 then (J_9 3) else (J_9 0)))))))) (fun J_6 => if r_4 = 0 then (J_6 0) else (J_6 a2)))) (fun J_3 => if r_1 = 0 then (J_3 0) else (J_3 a1)))
set_option maxRecDepth 100000 in
set_option maxHeartbeats 4000000 in
theorem mX9_put (l : Launch) (g : GE) (o pn pb pt pr pw pk pi pf pl pe pm px : Nat) (refu : Int32) (nst : Int32) (nn : Int32) (len : Int32) (pos : Int32) (gd : Int32) (ps : Int32) (sm : Int32) (fnow : Nat → Int32) (fbook : Nat → Int32) (a1 : Int32) (a2 : Int32) (a3 : Int32) (r : Int32 × (Nat → Int32) × Int32 × (Nat → Int32) × Int32) (hyp : fX9_put nst fnow fbook a1 a2 a3 = some r) : WM l yX9_put cX9_put 6 (some .int) 3 64 g [(o, .inr (9, [.int refu, .ref pn, .ref pt, .ref pr, .ref pw, .ref pb, .int nst, .ref pk, .ref pi, .ref pf, .ref pl, .ref pe, .ref pm, .int nn, .ref px, .int len, .int pos, .int gd, .int ps, .int sm])), (pn, .inl (g.2.1, 61, .inl fnow)), (pb, .inl (g.2.1, 366, .inl fbook))] [.ref o, .int a1, .int a2, .int a3] (some (.int r.1)) [(o, .inr (9, [.int r.2.2.1, .ref pn, .ref pt, .ref pr, .ref pw, .ref pb, .int r.2.2.2.2, .ref pk, .ref pi, .ref pf, .ref pl, .ref pe, .ref pm, .int nn, .ref px, .int len, .int pos, .int gd, .int ps, .int sm])), (pn, .inl (g.2.1, 61, .inl r.2.1)), (pb, .inl (g.2.1, 366, .inl r.2.2.2.1))] := by
  refine metW_intro (by decide) rfl ?_
  intro p e R s m args below meth c Q A hRf hRl hQ hx hb hml hr hlocks hown hts hin hE hA H locs hP hD hS ls hl
  have hown : s.vm.findClass "HallGuardsModel" = some m.cls := hown
  have hl : lv_has ls 6 [(0, .ref o), (1, .int a1), (2, .int a2), (3, .int a3)] := hl
  unfold fX9_put at hyp
  refine lv_bipush (v := 7) hx hb dX9_put_0 (by decide) ?_
  refine lv_iload_n hx hb dX9_put_2 rfl (lv_at hl 1 rfl) ?_
  refine lv_iload_n hx hb dX9_put_3 rfl (lv_at hl 2 rfl) ?_
  obtain ⟨r_1, hr_1, hyp⟩ := opt_e hyp
  refine pS (As := [.int a1, .int a2]) (rest := [.int 7]) ⟨hx, hb, hml, hown, hts⟩ hE (mX9_isCell l g a1 a2 r_1 hr_1) cf_X9_isCell st_X9_isCell ml_X9_64 ⟨Nat.le_trans (Nat.le_of_ble_eq_true rfl) hRf, Nat.le_trans (Nat.le_of_ble_eq_true rfl) hRl⟩ (va_P_nil) rfl hl.1 rfl (Nat.le_of_ble_eq_true rfl) dX9_put_4 ⟨Nat.zero_le _, Nat.zero_le _⟩ ?_
  obtain ⟨J_3, eJ_3, hyp⟩ := jn_e hyp
  have kJ_3 : ∀ (t_2 : Int32) (H : Heap) (locs : List Loc) (ls : Array Slot), J_3 t_2 = some r → lv_has ls 6 [(0, .ref o), (1, .int a1), (2, .int a2), (3, .int a3)] → va_P g.1 vwCl [(o, .inr (9, [.int refu, .ref pn, .ref pt, .ref pr, .ref pw, .ref pb, .int nst, .ref pk, .ref pi, .ref pf, .ref pl, .ref pe, .ref pm, .int nn, .ref px, .int len, .int pos, .int gd, .int ps, .int sm])), (pn, .inl (g.2.1, 61, .inl fnow)), (pb, .inl (g.2.1, 366, .inl fbook))] H → va_D A [(o, .inr (9, [.int refu, .ref pn, .ref pt, .ref pr, .ref pw, .ref pb, .int nst, .ref pk, .ref pi, .ref pf, .ref pl, .ref pe, .ref pm, .int nn, .ref px, .int len, .int pos, .int gd, .int ps, .int sm])), (pn, .inl (g.2.1, 61, .inl fnow)), (pb, .inl (g.2.1, 366, .inl fbook))] → va_S A s.heap H locs → W p l e R s m args below meth c H locs 0 0 Q (F0 m 15 ls [.int t_2, .int 7]) := by
    intro t_2 H locs  ls hyp hl hP hD hS
    replace hyp := (congrFun (eJ_3) t_2).symm.trans hyp
    refine lv_imul hx hb dX9_put_15 ?_
    refine lv_iload_n hx hb dX9_put_16 rfl (lv_at hl 1 rfl) ?_
    refine lv_iload_n hx hb dX9_put_17 rfl (lv_at hl 2 rfl) ?_
    obtain ⟨r_4, hr_4, hyp⟩ := opt_e hyp
    refine pS (As := [.int a1, .int a2]) (rest := [.int (7 * t_2)]) ⟨hx, hb, hml, hown, hts⟩ hE (mX9_isCell l g a1 a2 r_4 hr_4) cf_X9_isCell st_X9_isCell ml_X9_64 ⟨Nat.le_trans (Nat.le_of_ble_eq_true rfl) hRf, Nat.le_trans (Nat.le_of_ble_eq_true rfl) hRl⟩ (va_P_nil) rfl hl.1 rfl (Nat.le_of_ble_eq_true rfl) dX9_put_18 ⟨Nat.zero_le _, Nat.zero_le _⟩ ?_
    obtain ⟨J_6, eJ_6, hyp⟩ := jn_e hyp
    have kJ_6 : ∀ (t_5 : Int32) (H : Heap) (locs : List Loc) (ls : Array Slot), J_6 t_5 = some r → lv_has ls 6 [(0, .ref o), (1, .int a1), (2, .int a2), (3, .int a3)] → va_P g.1 vwCl [(o, .inr (9, [.int refu, .ref pn, .ref pt, .ref pr, .ref pw, .ref pb, .int nst, .ref pk, .ref pi, .ref pf, .ref pl, .ref pe, .ref pm, .int nn, .ref px, .int len, .int pos, .int gd, .int ps, .int sm])), (pn, .inl (g.2.1, 61, .inl fnow)), (pb, .inl (g.2.1, 366, .inl fbook))] H → va_D A [(o, .inr (9, [.int refu, .ref pn, .ref pt, .ref pr, .ref pw, .ref pb, .int nst, .ref pk, .ref pi, .ref pf, .ref pl, .ref pe, .ref pm, .int nn, .ref px, .int len, .int pos, .int gd, .int ps, .int sm])), (pn, .inl (g.2.1, 61, .inl fnow)), (pb, .inl (g.2.1, 366, .inl fbook))] → va_S A s.heap H locs → W p l e R s m args below meth c H locs 0 0 Q (F0 m 29 ls [.int t_5, .int (7 * t_2)]) := by
      intro t_5 H locs  ls hyp hl hP hD hS
      replace hyp := (congrFun (eJ_6) t_5).symm.trans hyp
      refine lv_iadd hx hb dX9_put_29 ?_
      refine lv_istore (lv' := [(4, .int ((7 * t_2) + t_5)), (0, .ref o), (1, .int a1), (2, .int a2), (3, .int a3)]) hx hb dX9_put_30 hl (by decide) rfl (fun ls hl => ?_)
      refine lv_aload_n hx hb dX9_put_32 rfl (lv_at hl 1 rfl) ?_
      refine lv_iload_n hx hb dX9_put_33 rfl (lv_at hl 2 rfl) ?_
      refine lv_iload_n hx hb dX9_put_34 rfl (lv_at hl 3 rfl) ?_
      obtain ⟨r_7, hr_7, hyp⟩ := opt_e hyp
      refine pS (As := [.int a1, .int a2]) (rest := [.ref o]) ⟨hx, hb, hml, hown, hts⟩ hE (mX9_isCell l g a1 a2 r_7 hr_7) cf_X9_isCell st_X9_isCell ml_X9_64 ⟨Nat.le_trans (Nat.le_of_ble_eq_true rfl) hRf, Nat.le_trans (Nat.le_of_ble_eq_true rfl) hRl⟩ (va_P_nil) rfl hl.1 rfl (Nat.le_of_ble_eq_true rfl) dX9_put_35 ⟨Nat.zero_le _, Nat.zero_le _⟩ ?_
      obtain ⟨J_9, eJ_9, hyp⟩ := jn_e hyp
      have kJ_9 : ∀ (t_8 : Int32) (H : Heap) (locs : List Loc) (ls : Array Slot), J_9 t_8 = some r → lv_has ls 6 [(0, .ref o), (3, .int a3), (4, .int ((7 * t_2) + t_5))] → va_P g.1 vwCl [(o, .inr (9, [.int refu, .ref pn, .ref pt, .ref pr, .ref pw, .ref pb, .int nst, .ref pk, .ref pi, .ref pf, .ref pl, .ref pe, .ref pm, .int nn, .ref px, .int len, .int pos, .int gd, .int ps, .int sm])), (pn, .inl (g.2.1, 61, .inl fnow)), (pb, .inl (g.2.1, 366, .inl fbook))] H → va_D A [(o, .inr (9, [.int refu, .ref pn, .ref pt, .ref pr, .ref pw, .ref pb, .int nst, .ref pk, .ref pi, .ref pf, .ref pl, .ref pe, .ref pm, .int nn, .ref px, .int len, .int pos, .int gd, .int ps, .int sm])), (pn, .inl (g.2.1, 61, .inl fnow)), (pb, .inl (g.2.1, 366, .inl fbook))] → va_S A s.heap H locs → W p l e R s m args below meth c H locs 0 0 Q (F0 m 76 ls [.int t_8, .ref o]) := by
        intro t_8 H locs  ls hyp hl hP hD hS
        replace hyp := (congrFun (eJ_9) t_8).symm.trans hyp
        obtain ⟨r_10, hr_10, hyp⟩ := opt_e hyp
        refine wV (As := [.int t_8]) (rest := []) ⟨hx, hb, hml, hown, hts⟩ hE (mX9_refused l g o pn pt pr pw pb pk pi pf pl pe pm px refu nst nn len pos gd ps sm t_8 r_10 hr_10) cf_X9_refused im_X9_refused se_X9_refused ml_X9_153 ⟨Nat.le_trans (Nat.le_of_ble_eq_true rfl) hRf, Nat.le_trans (Nat.le_of_ble_eq_true rfl) hRl⟩ hP hD hS hA [0] [1, 2] rfl (wr := [(pn, .inl (g.2.1, 61, .inl fnow)), (pb, .inl (g.2.1, 366, .inl fbook))]) rfl ⟨by decide, by decide⟩ (by decide) (ci := 9) (q0 := 0) rfl rfl rfl rfl hl.1 rfl (Nat.le_of_ble_eq_true rfl) dX9_put_76 ⟨Nat.zero_le _, Nat.zero_le _⟩ (fun H locs hP hD hS => ?_)
        have hP : va_P g.1 vwCl [(pn, .inl (g.2.1, 61, .inl fnow)), (pb, .inl (g.2.1, 366, .inl fbook)), (o, .inr (9, [.int r_10.2, .ref pn, .ref pt, .ref pr, .ref pw, .ref pb, .int nst, .ref pk, .ref pi, .ref pf, .ref pl, .ref pe, .ref pm, .int nn, .ref px, .int len, .int pos, .int gd, .int ps, .int sm]))] H := hP
        have hD : va_D A [(pn, .inl (g.2.1, 61, .inl fnow)), (pb, .inl (g.2.1, 366, .inl fbook)), (o, .inr (9, [.int r_10.2, .ref pn, .ref pt, .ref pr, .ref pw, .ref pb, .int nst, .ref pk, .ref pi, .ref pf, .ref pl, .ref pe, .ref pm, .int nn, .ref px, .int len, .int pos, .int gd, .int ps, .int sm]))] := hD
        refine lv_if_eq (tgt := 84) hx hb dX9_put_79 (by decide) (fun h_11 => ?_) (fun h_11 => ?_)
        · replace hyp := ite_t h_11 hyp
          refine lv_aload_n hx hb dX9_put_84 rfl (lv_at hl 0 rfl) ?_
          obtain ⟨r_12, hr_12, hyp⟩ := opt_e hyp
          refine wV (As := []) (rest := []) ⟨hx, hb, hml, hown, hts⟩ hE (mX9_save l g o pn pb pt pr pw pk pi pf pl pe pm px r_10.2 nst nn len pos gd ps sm fnow fbook r_12 hr_12) cf_X9_save im_X9_save se_X9_save ml_X9_145 ⟨Nat.le_trans (Nat.le_of_ble_eq_true rfl) hRf, Nat.le_trans (Nat.le_of_ble_eq_true rfl) hRl⟩ hP hD hS hA [2, 0, 1] [] rfl (wr := []) rfl ⟨by decide, by decide⟩ (by decide) (ci := 9) (q0 := 0) rfl rfl rfl rfl hl.1 rfl (Nat.le_of_ble_eq_true rfl) dX9_put_85 ⟨Nat.zero_le _, Nat.zero_le _⟩ (fun H locs hP hD hS => ?_)
          have hP : va_P g.1 vwCl [(o, .inr (9, [.int r_10.2, .ref pn, .ref pt, .ref pr, .ref pw, .ref pb, .int r_12.2, .ref pk, .ref pi, .ref pf, .ref pl, .ref pe, .ref pm, .int nn, .ref px, .int len, .int pos, .int gd, .int ps, .int sm])), (pn, .inl (g.2.1, 61, .inl fnow)), (pb, .inl (g.2.1, 366, .inl r_12.1))] H := hP
          have hD : va_D A [(o, .inr (9, [.int r_10.2, .ref pn, .ref pt, .ref pr, .ref pw, .ref pb, .int r_12.2, .ref pk, .ref pi, .ref pf, .ref pl, .ref pe, .ref pm, .int nn, .ref px, .int len, .int pos, .int gd, .int ps, .int sm])), (pn, .inl (g.2.1, 61, .inl fnow)), (pb, .inl (g.2.1, 366, .inl r_12.1))] := hD
          refine lv_aload_n hx hb dX9_put_88 rfl (lv_at hl 0 rfl) ?_
          refine gf_X9_7 hx hb hts hown hE hP 0 rfl rfl dX9_put_89 ?_
          refine lv_iload hx hb dX9_put_92 (lv_at hl 2 rfl) ?_
          obtain ⟨hi, hyp⟩ := grd_e hyp
          refine va_iald hx hb hE.1 hP 1 0 rfl rfl (inB_vp hi) dX9_put_94 ?_
          obtain ⟨v5_13, ev5_13, hyp⟩ := bnd_e hyp
          refine lv_eqi ev5_13 ?_
          refine lv_istore (lv' := [(5, .int v5_13), (0, .ref o), (3, .int a3), (4, .int ((7 * t_2) + t_5))]) hx hb dX9_put_95 hl (by decide) rfl (fun ls hl => ?_)
          refine lv_aload_n hx hb dX9_put_97 rfl (lv_at hl 1 rfl) ?_
          refine gf_X9_7 hx hb hts hown hE hP 0 rfl rfl dX9_put_98 ?_
          refine lv_iload hx hb dX9_put_101 (lv_at hl 3 rfl) ?_
          refine lv_iload_n hx hb dX9_put_103 rfl (lv_at hl 2 rfl) ?_
          obtain ⟨hi, hyp⟩ := grd_e hyp
          refine va_iast hx hb hE.1 hP hD hS 1 0 rfl rfl (inB_vp hi) dX9_put_104 (fun H locs hP hD hS => ?_)
          have hP : va_P g.1 vwCl [(o, .inr (9, [.int r_10.2, .ref pn, .ref pt, .ref pr, .ref pw, .ref pb, .int r_12.2, .ref pk, .ref pi, .ref pf, .ref pl, .ref pe, .ref pm, .int nn, .ref px, .int len, .int pos, .int gd, .int ps, .int sm])), (pn, .inl (g.2.1, 61, .inl (upd fnow ((7 * t_2) + t_5).toNatClampNeg a3))), (pb, .inl (g.2.1, 366, .inl r_12.1))] H := hP
          have hD : va_D A [(o, .inr (9, [.int r_10.2, .ref pn, .ref pt, .ref pr, .ref pw, .ref pb, .int r_12.2, .ref pk, .ref pi, .ref pf, .ref pl, .ref pe, .ref pm, .int nn, .ref px, .int len, .int pos, .int gd, .int ps, .int sm])), (pn, .inl (g.2.1, 61, .inl (upd fnow ((7 * t_2) + t_5).toNatClampNeg a3))), (pb, .inl (g.2.1, 366, .inl r_12.1))] := hD
          refine lv_iload hx hb dX9_put_105 (lv_at hl 0 rfl) ?_
          have hyp := some_e hyp
          subst hyp
          subst hQ
          exact rwI hx hb hr hlocks  hP hD hS dX9_put_107
        · replace hyp := ite_f h_11 hyp
          refine lv_iconst (v := 0) hx hb dX9_put_82 (by decide) ?_
          have hP : va_P g.1 vwCl [(o, .inr (9, [.int r_10.2, .ref pn, .ref pt, .ref pr, .ref pw, .ref pb, .int nst, .ref pk, .ref pi, .ref pf, .ref pl, .ref pe, .ref pm, .int nn, .ref px, .int len, .int pos, .int gd, .int ps, .int sm])), (pn, .inl (g.2.1, 61, .inl fnow)), (pb, .inl (g.2.1, 366, .inl fbook))] H := hP.sub [2, 0, 1] rfl
          have hD : va_D A [(o, .inr (9, [.int r_10.2, .ref pn, .ref pt, .ref pr, .ref pw, .ref pb, .int nst, .ref pk, .ref pi, .ref pf, .ref pl, .ref pe, .ref pm, .int nn, .ref px, .int len, .int pos, .int gd, .int ps, .int sm])), (pn, .inl (g.2.1, 61, .inl fnow)), (pb, .inl (g.2.1, 366, .inl fbook))] := hD.sub [2, 0, 1] (by decide) rfl
          have hyp := some_e hyp
          subst hyp
          subst hQ
          exact rwI hx hb hr hlocks  hP hD hS dX9_put_83
      refine lv_if_ne (tgt := 45) hx hb dX9_put_38 (by decide) (fun h_14 => ?_) (fun h_14 => ?_)
      · replace hyp := ite_f h_14 hyp
        refine lv_iload_n hx hb dX9_put_45 rfl (lv_at hl 4 rfl) ?_
        refine lv_i2l hx hb dX9_put_46 rfl ?_
        refine lv_lconst (v := 0) hx hb dX9_put_47 (by decide) ?_
        refine lv_ldc2 (v := 3) hx hb hown (hts _ ct_X9_148) dX9_put_48 ?_
        obtain ⟨r_15, hr_15, hyp⟩ := opt_e hyp
        refine pS (As := [.long a3.toInt64, .long 0, .long 3]) (rest := [.ref o]) ⟨hx, hb, hml, hown, hts⟩ hE (mX9_in l g a3.toInt64 0 3 r_15 hr_15) cf_X9_in st_X9_in ml_X9_58 ⟨Nat.le_trans (Nat.le_of_ble_eq_true rfl) hRf, Nat.le_trans (Nat.le_of_ble_eq_true rfl) hRl⟩ (va_P_nil) rfl hl.1 rfl (Nat.le_of_ble_eq_true rfl) dX9_put_51 ⟨Nat.zero_le _, Nat.zero_le _⟩ ?_
        refine lv_if_ne (tgt := 61) hx hb dX9_put_54 (by decide) (fun h_16 => ?_) (fun h_16 => ?_)
        · replace hyp := ite_f h_16 hyp
          refine lv_aload_n hx hb dX9_put_61 rfl (lv_at hl 1 rfl) ?_
          refine lv_iload hx hb dX9_put_62 (lv_at hl 0 rfl) ?_
          refine lv_iload_n hx hb dX9_put_64 rfl (lv_at hl 4 rfl) ?_
          obtain ⟨r_17, hr_17, hyp⟩ := opt_e hyp
          refine pV (As := [.int ((7 * t_2) + t_5), .int a3]) (rest := [.ref o]) ⟨hx, hb, hml, hown, hts⟩ hE (mX9_mayPut l g o pn pt pr pw pb pk pi pf pl pe pm px refu nst nn len pos gd ps sm fnow ((7 * t_2) + t_5) a3 r_17 hr_17) cf_X9_mayPut im_X9_mayPut se_X9_mayPut ml_X9_150 ⟨Nat.le_trans (Nat.le_of_ble_eq_true rfl) hRf, Nat.le_trans (Nat.le_of_ble_eq_true rfl) hRl⟩ (hP.sub (ws' := [(o, .inr (9, [.int refu, .ref pn, .ref pt, .ref pr, .ref pw, .ref pb, .int nst, .ref pk, .ref pi, .ref pf, .ref pl, .ref pe, .ref pm, .int nn, .ref px, .int len, .int pos, .int gd, .int ps, .int sm])), (pn, .inl (g.2.1, 61, .inl fnow))]) [0, 1] rfl) (ci := 9) (q0 := 0) rfl rfl rfl rfl hl.1 rfl (Nat.le_of_ble_eq_true rfl) dX9_put_65 ⟨Nat.zero_le _, Nat.zero_le _⟩ ?_
          refine lv_if_ne (tgt := 75) hx hb dX9_put_68 (by decide) (fun h_18 => ?_) (fun h_18 => ?_)
          · replace hyp := ite_f h_18 hyp
            refine lv_iconst (v := 0) hx hb dX9_put_75 (by decide) ?_
            exact kJ_9 0 H locs ls hyp (lv_sub hl [1, 4, 0] rfl) hP hD hS
          · replace hyp := ite_t h_18 hyp
            refine lv_iconst (v := 3) hx hb dX9_put_71 (by decide) ?_
            refine lv_goto (tgt := 76) hx hb dX9_put_72 (by decide) ?_
            exact kJ_9 3 H locs ls hyp (lv_sub hl [1, 4, 0] rfl) hP hD hS
        · replace hyp := ite_t h_16 hyp
          refine lv_iconst (v := 2) hx hb dX9_put_57 (by decide) ?_
          refine lv_goto (tgt := 76) hx hb dX9_put_58 (by decide) ?_
          exact kJ_9 2 H locs ls hyp (lv_sub hl [1, 4, 0] rfl) hP hD hS
      · replace hyp := ite_t h_14 hyp
        refine lv_iconst (v := 1) hx hb dX9_put_41 (by decide) ?_
        refine lv_goto (tgt := 76) hx hb dX9_put_42 (by decide) ?_
        exact kJ_9 1 H locs ls hyp (lv_sub hl [1, 4, 0] rfl) hP hD hS
    refine lv_if_eq (tgt := 28) hx hb dX9_put_21 (by decide) (fun h_19 => ?_) (fun h_19 => ?_)
    · replace hyp := ite_t h_19 hyp
      refine lv_iconst (v := 0) hx hb dX9_put_28 (by decide) ?_
      exact kJ_6 0 H locs ls hyp hl hP hD hS
    · replace hyp := ite_f h_19 hyp
      refine lv_iload_n hx hb dX9_put_24 rfl (lv_at hl 2 rfl) ?_
      refine lv_goto (tgt := 29) hx hb dX9_put_25 (by decide) ?_
      exact kJ_6 a2 H locs ls hyp hl hP hD hS
  refine lv_if_eq (tgt := 14) hx hb dX9_put_7 (by decide) (fun h_20 => ?_) (fun h_20 => ?_)
  · replace hyp := ite_t h_20 hyp
    refine lv_iconst (v := 0) hx hb dX9_put_14 (by decide) ?_
    exact kJ_3 0 H locs ls hyp hl hP hD hS
  · replace hyp := ite_f h_20 hyp
    refine lv_iload_n hx hb dX9_put_10 rfl (lv_at hl 1 rfl) ?_
    refine lv_goto (tgt := 15) hx hb dX9_put_11 (by decide) ?_
    exact kJ_3 a1 H locs ls hyp hl hP hD hS

def fX9_start (nst : Int32) (nn : Int32) (fnow : Nat → Int32) (fbook : Nat → Int32) (fkept : Nat → Int32) (fisk : Nat → Int32) (ffst : Nat → Int64) (flst : Nat → Int64) (fbef : Nat → Int32) (fmov : Nat → Int32) (a1 : Int32) : Option (Int32 × (Nat → Int32) × (Nat → Int32) × (Nat → Int32) × (Nat → Int64) × (Nat → Int64) × (Nat → Int32) × (Nat → Int32) × Int32 × Int32 × Int32) :=
  (fX9_king fnow).bind (fun (r_1 : Int32) => grd (inB 51 61) (jn (fun (t_2 : Int32) => (fX9_isSide a1).bind (fun (r_4 : Int32) => jn (fun (t_5 : Int32) => (fX9_refused t_5).bind (fun (r_7 : Int32 × Int32) => if r_7.1 = 0 then ((fX9_save nst fnow fbook).bind (fun (r_9 : (Nat → Int32) × Int32) => (fX9_goStart r_9.2 nn fnow r_9.1 fkept fisk ffst flst fbef fmov a1).bind (fun (r_10 : Int32 × (Nat → Int32) × (Nat → Int32) × (Nat → Int32) × (Nat → Int64) × (Nat → Int64) × (Nat → Int32) × (Nat → Int32) × Int32) => some (r_10.1, r_10.2.1, r_10.2.2.1, r_10.2.2.2.1, r_10.2.2.2.2.1, r_10.2.2.2.2.2.1, r_10.2.2.2.2.2.2.1, r_10.2.2.2.2.2.2.2.1, r_10.2.2.2.2.2.2.2.2, r_9.2, r_7.2)))) else (some (0, fnow, fbook, fkept, ffst, flst, fbef, fmov, nn, nst, r_7.2)))) (fun J_6 => if r_4 = 0 then (J_6 1) else (if t_2 = 0 then (J_6 2) else (J_6 0))))) (fun J_3 => jn (J_3 0) (fun J_13 => if (fnow (51 : Int32).toNatClampNeg) = 0 then (if r_1 = (-1) then (J_13) else ((fX9_isCorner r_1).bind (fun (r_16 : Int32) => if r_16 = 0 then (J_3 1) else (J_13)))) else (J_13)))))
set_option maxRecDepth 100000 in
set_option maxHeartbeats 4000000 in
theorem mX9_start (l : Launch) (g : GE) (o pn pb pk pi pf pl pe pm pt pr pw px : Nat) (refu : Int32) (nst : Int32) (nn : Int32) (len : Int32) (pos : Int32) (gd : Int32) (ps : Int32) (sm : Int32) (fnow : Nat → Int32) (fbook : Nat → Int32) (fkept : Nat → Int32) (fisk : Nat → Int32) (ffst : Nat → Int64) (flst : Nat → Int64) (fbef : Nat → Int32) (fmov : Nat → Int32) (a1 : Int32) (r : Int32 × (Nat → Int32) × (Nat → Int32) × (Nat → Int32) × (Nat → Int64) × (Nat → Int64) × (Nat → Int32) × (Nat → Int32) × Int32 × Int32 × Int32) (hyp : fX9_start nst nn fnow fbook fkept fisk ffst flst fbef fmov a1 = some r) : WM l yX9_start cX9_start 4 (some .int) 6 138 g [(o, .inr (9, [.int refu, .ref pn, .ref pt, .ref pr, .ref pw, .ref pb, .int nst, .ref pk, .ref pi, .ref pf, .ref pl, .ref pe, .ref pm, .int nn, .ref px, .int len, .int pos, .int gd, .int ps, .int sm])), (pn, .inl (g.2.1, 61, .inl fnow)), (pb, .inl (g.2.1, 366, .inl fbook)), (pk, .inl (g.2.1, 122, .inl fkept)), (pi, .inl (g.2.2.2.1, 2, .inl fisk)), (pf, .inl (g.2.2.1, 4096, .inr (.inl ffst))), (pl, .inl (g.2.2.1, 4096, .inr (.inl flst))), (pe, .inl (g.2.1, 4096, .inl fbef)), (pm, .inl (g.2.1, 4096, .inl fmov))] [.ref o, .int a1] (some (.int r.1)) [(o, .inr (9, [.int r.2.2.2.2.2.2.2.2.2.2, .ref pn, .ref pt, .ref pr, .ref pw, .ref pb, .int r.2.2.2.2.2.2.2.2.2.1, .ref pk, .ref pi, .ref pf, .ref pl, .ref pe, .ref pm, .int r.2.2.2.2.2.2.2.2.1, .ref px, .int len, .int pos, .int gd, .int ps, .int sm])), (pn, .inl (g.2.1, 61, .inl r.2.1)), (pb, .inl (g.2.1, 366, .inl r.2.2.1)), (pk, .inl (g.2.1, 122, .inl r.2.2.2.1)), (pi, .inl (g.2.2.2.1, 2, .inl fisk)), (pf, .inl (g.2.2.1, 4096, .inr (.inl r.2.2.2.2.1))), (pl, .inl (g.2.2.1, 4096, .inr (.inl r.2.2.2.2.2.1))), (pe, .inl (g.2.1, 4096, .inl r.2.2.2.2.2.2.1)), (pm, .inl (g.2.1, 4096, .inl r.2.2.2.2.2.2.2.1))] := by
  refine metW_intro (by decide) rfl ?_
  intro p e R s m args below meth c Q A hRf hRl hQ hx hb hml hr hlocks hown hts hin hE hA H locs hP hD hS ls hl
  have hown : s.vm.findClass "HallGuardsModel" = some m.cls := hown
  have hl : lv_has ls 4 [(0, .ref o), (1, .int a1)] := hl
  unfold fX9_start at hyp
  refine lv_aload_n hx hb dX9_start_0 rfl (lv_at hl 0 rfl) ?_
  refine gf_X9_7 hx hb hts hown hE hP 0 rfl rfl dX9_start_1 ?_
  obtain ⟨r_1, hr_1, hyp⟩ := opt_e hyp
  refine pS (As := [.ref pn]) (rest := []) ⟨hx, hb, hml, hown, hts⟩ hE (mX9_king l g pn fnow r_1 hr_1) cf_X9_king st_X9_king ml_X9_98 ⟨Nat.le_trans (Nat.le_of_ble_eq_true rfl) hRf, Nat.le_trans (Nat.le_of_ble_eq_true rfl) hRl⟩ (hP.sub (ws' := [(pn, .inl (g.2.1, 61, .inl fnow))]) [1] rfl) rfl hl.1 rfl (Nat.le_of_ble_eq_true rfl) dX9_start_4 ⟨Nat.zero_le _, Nat.zero_le _⟩ ?_
  refine lv_istore_n (lv' := [(2, .int r_1), (0, .ref o), (1, .int a1)]) hx hb dX9_start_7 rfl hl (by decide) rfl (fun ls hl => ?_)
  refine lv_aload_n hx hb dX9_start_8 rfl (lv_at hl 1 rfl) ?_
  refine gf_X9_7 hx hb hts hown hE hP 0 rfl rfl dX9_start_9 ?_
  refine lv_bipush (v := 51) hx hb dX9_start_12 (by decide) ?_
  obtain ⟨hi, hyp⟩ := grd_e hyp
  refine va_iald hx hb hE.1 hP 1 0 rfl rfl (inB_vp hi) dX9_start_14 ?_
  obtain ⟨J_3, eJ_3, hyp⟩ := jn_e hyp
  have kJ_3 : ∀ (t_2 : Int32) (H : Heap) (locs : List Loc) (ls : Array Slot), J_3 t_2 = some r → lv_has ls 4 [(0, .ref o), (1, .int a1)] → va_P g.1 vwCl [(o, .inr (9, [.int refu, .ref pn, .ref pt, .ref pr, .ref pw, .ref pb, .int nst, .ref pk, .ref pi, .ref pf, .ref pl, .ref pe, .ref pm, .int nn, .ref px, .int len, .int pos, .int gd, .int ps, .int sm])), (pn, .inl (g.2.1, 61, .inl fnow)), (pb, .inl (g.2.1, 366, .inl fbook)), (pk, .inl (g.2.1, 122, .inl fkept)), (pi, .inl (g.2.2.2.1, 2, .inl fisk)), (pf, .inl (g.2.2.1, 4096, .inr (.inl ffst))), (pl, .inl (g.2.2.1, 4096, .inr (.inl flst))), (pe, .inl (g.2.1, 4096, .inl fbef)), (pm, .inl (g.2.1, 4096, .inl fmov))] H → va_D A [(o, .inr (9, [.int refu, .ref pn, .ref pt, .ref pr, .ref pw, .ref pb, .int nst, .ref pk, .ref pi, .ref pf, .ref pl, .ref pe, .ref pm, .int nn, .ref px, .int len, .int pos, .int gd, .int ps, .int sm])), (pn, .inl (g.2.1, 61, .inl fnow)), (pb, .inl (g.2.1, 366, .inl fbook)), (pk, .inl (g.2.1, 122, .inl fkept)), (pi, .inl (g.2.2.2.1, 2, .inl fisk)), (pf, .inl (g.2.2.1, 4096, .inr (.inl ffst))), (pl, .inl (g.2.2.1, 4096, .inr (.inl flst))), (pe, .inl (g.2.1, 4096, .inl fbef)), (pm, .inl (g.2.1, 4096, .inl fmov))] → va_S A s.heap H locs → W p l e R s m args below meth c H locs 0 0 Q (F0 m 35 ls [.int t_2]) := by
    intro t_2 H locs  ls hyp hl hP hD hS
    replace hyp := (congrFun (eJ_3) t_2).symm.trans hyp
    refine lv_istore_n (lv' := [(3, .int t_2), (0, .ref o), (1, .int a1)]) hx hb dX9_start_35 rfl hl (by decide) rfl (fun ls hl => ?_)
    refine lv_aload_n hx hb dX9_start_36 rfl (lv_at hl 1 rfl) ?_
    refine lv_iload_n hx hb dX9_start_37 rfl (lv_at hl 2 rfl) ?_
    obtain ⟨r_4, hr_4, hyp⟩ := opt_e hyp
    refine pS (As := [.int a1]) (rest := [.ref o]) ⟨hx, hb, hml, hown, hts⟩ hE (mX9_isSide l g a1 r_4 hr_4) cf_X9_isSide st_X9_isSide ml_X9_156 ⟨Nat.le_trans (Nat.le_of_ble_eq_true rfl) hRf, Nat.le_trans (Nat.le_of_ble_eq_true rfl) hRl⟩ (va_P_nil) rfl hl.1 rfl (Nat.le_of_ble_eq_true rfl) dX9_start_38 ⟨Nat.zero_le _, Nat.zero_le _⟩ ?_
    obtain ⟨J_6, eJ_6, hyp⟩ := jn_e hyp
    have kJ_6 : ∀ (t_5 : Int32) (H : Heap) (locs : List Loc) (ls : Array Slot), J_6 t_5 = some r → lv_has ls 4 [(0, .ref o), (1, .int a1)] → va_P g.1 vwCl [(o, .inr (9, [.int refu, .ref pn, .ref pt, .ref pr, .ref pw, .ref pb, .int nst, .ref pk, .ref pi, .ref pf, .ref pl, .ref pe, .ref pm, .int nn, .ref px, .int len, .int pos, .int gd, .int ps, .int sm])), (pn, .inl (g.2.1, 61, .inl fnow)), (pb, .inl (g.2.1, 366, .inl fbook)), (pk, .inl (g.2.1, 122, .inl fkept)), (pi, .inl (g.2.2.2.1, 2, .inl fisk)), (pf, .inl (g.2.2.1, 4096, .inr (.inl ffst))), (pl, .inl (g.2.2.1, 4096, .inr (.inl flst))), (pe, .inl (g.2.1, 4096, .inl fbef)), (pm, .inl (g.2.1, 4096, .inl fmov))] H → va_D A [(o, .inr (9, [.int refu, .ref pn, .ref pt, .ref pr, .ref pw, .ref pb, .int nst, .ref pk, .ref pi, .ref pf, .ref pl, .ref pe, .ref pm, .int nn, .ref px, .int len, .int pos, .int gd, .int ps, .int sm])), (pn, .inl (g.2.1, 61, .inl fnow)), (pb, .inl (g.2.1, 366, .inl fbook)), (pk, .inl (g.2.1, 122, .inl fkept)), (pi, .inl (g.2.2.2.1, 2, .inl fisk)), (pf, .inl (g.2.2.1, 4096, .inr (.inl ffst))), (pl, .inl (g.2.2.1, 4096, .inr (.inl flst))), (pe, .inl (g.2.1, 4096, .inl fbef)), (pm, .inl (g.2.1, 4096, .inl fmov))] → va_S A s.heap H locs → W p l e R s m args below meth c H locs 0 0 Q (F0 m 57 ls [.int t_5, .ref o]) := by
      intro t_5 H locs  ls hyp hl hP hD hS
      replace hyp := (congrFun (eJ_6) t_5).symm.trans hyp
      obtain ⟨r_7, hr_7, hyp⟩ := opt_e hyp
      refine wV (As := [.int t_5]) (rest := []) ⟨hx, hb, hml, hown, hts⟩ hE (mX9_refused l g o pn pt pr pw pb pk pi pf pl pe pm px refu nst nn len pos gd ps sm t_5 r_7 hr_7) cf_X9_refused im_X9_refused se_X9_refused ml_X9_153 ⟨Nat.le_trans (Nat.le_of_ble_eq_true rfl) hRf, Nat.le_trans (Nat.le_of_ble_eq_true rfl) hRl⟩ hP hD hS hA [0] [1, 2, 3, 4, 5, 6, 7, 8] rfl (wr := [(pn, .inl (g.2.1, 61, .inl fnow)), (pb, .inl (g.2.1, 366, .inl fbook)), (pk, .inl (g.2.1, 122, .inl fkept)), (pi, .inl (g.2.2.2.1, 2, .inl fisk)), (pf, .inl (g.2.2.1, 4096, .inr (.inl ffst))), (pl, .inl (g.2.2.1, 4096, .inr (.inl flst))), (pe, .inl (g.2.1, 4096, .inl fbef)), (pm, .inl (g.2.1, 4096, .inl fmov))]) rfl ⟨by decide, by decide⟩ (by decide) (ci := 9) (q0 := 0) rfl rfl rfl rfl hl.1 rfl (Nat.le_of_ble_eq_true rfl) dX9_start_57 ⟨Nat.zero_le _, Nat.zero_le _⟩ (fun H locs hP hD hS => ?_)
      have hP : va_P g.1 vwCl [(pn, .inl (g.2.1, 61, .inl fnow)), (pb, .inl (g.2.1, 366, .inl fbook)), (pk, .inl (g.2.1, 122, .inl fkept)), (pi, .inl (g.2.2.2.1, 2, .inl fisk)), (pf, .inl (g.2.2.1, 4096, .inr (.inl ffst))), (pl, .inl (g.2.2.1, 4096, .inr (.inl flst))), (pe, .inl (g.2.1, 4096, .inl fbef)), (pm, .inl (g.2.1, 4096, .inl fmov)), (o, .inr (9, [.int r_7.2, .ref pn, .ref pt, .ref pr, .ref pw, .ref pb, .int nst, .ref pk, .ref pi, .ref pf, .ref pl, .ref pe, .ref pm, .int nn, .ref px, .int len, .int pos, .int gd, .int ps, .int sm]))] H := hP
      have hD : va_D A [(pn, .inl (g.2.1, 61, .inl fnow)), (pb, .inl (g.2.1, 366, .inl fbook)), (pk, .inl (g.2.1, 122, .inl fkept)), (pi, .inl (g.2.2.2.1, 2, .inl fisk)), (pf, .inl (g.2.2.1, 4096, .inr (.inl ffst))), (pl, .inl (g.2.2.1, 4096, .inr (.inl flst))), (pe, .inl (g.2.1, 4096, .inl fbef)), (pm, .inl (g.2.1, 4096, .inl fmov)), (o, .inr (9, [.int r_7.2, .ref pn, .ref pt, .ref pr, .ref pw, .ref pb, .int nst, .ref pk, .ref pi, .ref pf, .ref pl, .ref pe, .ref pm, .int nn, .ref px, .int len, .int pos, .int gd, .int ps, .int sm]))] := hD
      refine lv_if_eq (tgt := 65) hx hb dX9_start_60 (by decide) (fun h_8 => ?_) (fun h_8 => ?_)
      · replace hyp := ite_t h_8 hyp
        refine lv_aload_n hx hb dX9_start_65 rfl (lv_at hl 0 rfl) ?_
        obtain ⟨r_9, hr_9, hyp⟩ := opt_e hyp
        refine wV (As := []) (rest := []) ⟨hx, hb, hml, hown, hts⟩ hE (mX9_save l g o pn pb pt pr pw pk pi pf pl pe pm px r_7.2 nst nn len pos gd ps sm fnow fbook r_9 hr_9) cf_X9_save im_X9_save se_X9_save ml_X9_145 ⟨Nat.le_trans (Nat.le_of_ble_eq_true rfl) hRf, Nat.le_trans (Nat.le_of_ble_eq_true rfl) hRl⟩ hP hD hS hA [8, 0, 1] [2, 3, 4, 5, 6, 7] rfl (wr := [(pk, .inl (g.2.1, 122, .inl fkept)), (pi, .inl (g.2.2.2.1, 2, .inl fisk)), (pf, .inl (g.2.2.1, 4096, .inr (.inl ffst))), (pl, .inl (g.2.2.1, 4096, .inr (.inl flst))), (pe, .inl (g.2.1, 4096, .inl fbef)), (pm, .inl (g.2.1, 4096, .inl fmov))]) rfl ⟨by decide, by decide⟩ (by decide) (ci := 9) (q0 := 0) rfl rfl rfl rfl hl.1 rfl (Nat.le_of_ble_eq_true rfl) dX9_start_66 ⟨Nat.zero_le _, Nat.zero_le _⟩ (fun H locs hP hD hS => ?_)
        have hP : va_P g.1 vwCl [(pk, .inl (g.2.1, 122, .inl fkept)), (pi, .inl (g.2.2.2.1, 2, .inl fisk)), (pf, .inl (g.2.2.1, 4096, .inr (.inl ffst))), (pl, .inl (g.2.2.1, 4096, .inr (.inl flst))), (pe, .inl (g.2.1, 4096, .inl fbef)), (pm, .inl (g.2.1, 4096, .inl fmov)), (o, .inr (9, [.int r_7.2, .ref pn, .ref pt, .ref pr, .ref pw, .ref pb, .int r_9.2, .ref pk, .ref pi, .ref pf, .ref pl, .ref pe, .ref pm, .int nn, .ref px, .int len, .int pos, .int gd, .int ps, .int sm])), (pn, .inl (g.2.1, 61, .inl fnow)), (pb, .inl (g.2.1, 366, .inl r_9.1))] H := hP
        have hD : va_D A [(pk, .inl (g.2.1, 122, .inl fkept)), (pi, .inl (g.2.2.2.1, 2, .inl fisk)), (pf, .inl (g.2.2.1, 4096, .inr (.inl ffst))), (pl, .inl (g.2.2.1, 4096, .inr (.inl flst))), (pe, .inl (g.2.1, 4096, .inl fbef)), (pm, .inl (g.2.1, 4096, .inl fmov)), (o, .inr (9, [.int r_7.2, .ref pn, .ref pt, .ref pr, .ref pw, .ref pb, .int r_9.2, .ref pk, .ref pi, .ref pf, .ref pl, .ref pe, .ref pm, .int nn, .ref px, .int len, .int pos, .int gd, .int ps, .int sm])), (pn, .inl (g.2.1, 61, .inl fnow)), (pb, .inl (g.2.1, 366, .inl r_9.1))] := hD
        refine lv_aload_n hx hb dX9_start_69 rfl (lv_at hl 0 rfl) ?_
        refine lv_aload_n hx hb dX9_start_70 rfl (lv_at hl 0 rfl) ?_
        refine gf_X9_7 hx hb hts hown hE hP 6 rfl rfl dX9_start_71 ?_
        refine lv_iload_n hx hb dX9_start_74 rfl (lv_at hl 1 rfl) ?_
        obtain ⟨r_10, hr_10, hyp⟩ := opt_e hyp
        refine wV (As := [.ref pn, .int a1]) (rest := []) ⟨hx, hb, hml, hown, hts⟩ hE (mX9_goStart l g o pn pb pk pi pf pl pe pm pt pr pw px r_7.2 r_9.2 nn len pos gd ps sm fnow r_9.1 fkept fisk ffst flst fbef fmov a1 r_10 hr_10) cf_X9_goStart im_X9_goStart se_X9_goStart ml_X9_126 ⟨Nat.le_trans (Nat.le_of_ble_eq_true rfl) hRf, Nat.le_trans (Nat.le_of_ble_eq_true rfl) hRl⟩ hP hD hS hA [6, 7, 8, 0, 1, 2, 3, 4, 5] [] rfl (wr := []) rfl ⟨by decide, by decide⟩ (by decide) (ci := 9) (q0 := 0) rfl rfl rfl rfl hl.1 rfl (Nat.le_of_ble_eq_true rfl) dX9_start_75 ⟨Nat.zero_le _, Nat.zero_le _⟩ (fun H locs hP hD hS => ?_)
        have hP : va_P g.1 vwCl [(o, .inr (9, [.int r_7.2, .ref pn, .ref pt, .ref pr, .ref pw, .ref pb, .int r_9.2, .ref pk, .ref pi, .ref pf, .ref pl, .ref pe, .ref pm, .int r_10.2.2.2.2.2.2.2.2, .ref px, .int len, .int pos, .int gd, .int ps, .int sm])), (pn, .inl (g.2.1, 61, .inl r_10.2.1)), (pb, .inl (g.2.1, 366, .inl r_10.2.2.1)), (pk, .inl (g.2.1, 122, .inl r_10.2.2.2.1)), (pi, .inl (g.2.2.2.1, 2, .inl fisk)), (pf, .inl (g.2.2.1, 4096, .inr (.inl r_10.2.2.2.2.1))), (pl, .inl (g.2.2.1, 4096, .inr (.inl r_10.2.2.2.2.2.1))), (pe, .inl (g.2.1, 4096, .inl r_10.2.2.2.2.2.2.1)), (pm, .inl (g.2.1, 4096, .inl r_10.2.2.2.2.2.2.2.1))] H := hP
        have hD : va_D A [(o, .inr (9, [.int r_7.2, .ref pn, .ref pt, .ref pr, .ref pw, .ref pb, .int r_9.2, .ref pk, .ref pi, .ref pf, .ref pl, .ref pe, .ref pm, .int r_10.2.2.2.2.2.2.2.2, .ref px, .int len, .int pos, .int gd, .int ps, .int sm])), (pn, .inl (g.2.1, 61, .inl r_10.2.1)), (pb, .inl (g.2.1, 366, .inl r_10.2.2.1)), (pk, .inl (g.2.1, 122, .inl r_10.2.2.2.1)), (pi, .inl (g.2.2.2.1, 2, .inl fisk)), (pf, .inl (g.2.2.1, 4096, .inr (.inl r_10.2.2.2.2.1))), (pl, .inl (g.2.2.1, 4096, .inr (.inl r_10.2.2.2.2.2.1))), (pe, .inl (g.2.1, 4096, .inl r_10.2.2.2.2.2.2.1)), (pm, .inl (g.2.1, 4096, .inl r_10.2.2.2.2.2.2.2.1))] := hD
        have hyp := some_e hyp
        subst hyp
        subst hQ
        exact rwI hx hb hr hlocks  hP hD hS dX9_start_78
      · replace hyp := ite_f h_8 hyp
        refine lv_iconst (v := 0) hx hb dX9_start_63 (by decide) ?_
        have hP : va_P g.1 vwCl [(o, .inr (9, [.int r_7.2, .ref pn, .ref pt, .ref pr, .ref pw, .ref pb, .int nst, .ref pk, .ref pi, .ref pf, .ref pl, .ref pe, .ref pm, .int nn, .ref px, .int len, .int pos, .int gd, .int ps, .int sm])), (pn, .inl (g.2.1, 61, .inl fnow)), (pb, .inl (g.2.1, 366, .inl fbook)), (pk, .inl (g.2.1, 122, .inl fkept)), (pi, .inl (g.2.2.2.1, 2, .inl fisk)), (pf, .inl (g.2.2.1, 4096, .inr (.inl ffst))), (pl, .inl (g.2.2.1, 4096, .inr (.inl flst))), (pe, .inl (g.2.1, 4096, .inl fbef)), (pm, .inl (g.2.1, 4096, .inl fmov))] H := hP.sub [8, 0, 1, 2, 3, 4, 5, 6, 7] rfl
        have hD : va_D A [(o, .inr (9, [.int r_7.2, .ref pn, .ref pt, .ref pr, .ref pw, .ref pb, .int nst, .ref pk, .ref pi, .ref pf, .ref pl, .ref pe, .ref pm, .int nn, .ref px, .int len, .int pos, .int gd, .int ps, .int sm])), (pn, .inl (g.2.1, 61, .inl fnow)), (pb, .inl (g.2.1, 366, .inl fbook)), (pk, .inl (g.2.1, 122, .inl fkept)), (pi, .inl (g.2.2.2.1, 2, .inl fisk)), (pf, .inl (g.2.2.1, 4096, .inr (.inl ffst))), (pl, .inl (g.2.2.1, 4096, .inr (.inl flst))), (pe, .inl (g.2.1, 4096, .inl fbef)), (pm, .inl (g.2.1, 4096, .inl fmov))] := hD.sub [8, 0, 1, 2, 3, 4, 5, 6, 7] (by decide) rfl
        have hyp := some_e hyp
        subst hyp
        subst hQ
        exact rwI hx hb hr hlocks  hP hD hS dX9_start_64
    refine lv_if_ne (tgt := 48) hx hb dX9_start_41 (by decide) (fun h_11 => ?_) (fun h_11 => ?_)
    · replace hyp := ite_f h_11 hyp
      refine lv_iload_n hx hb dX9_start_48 rfl (lv_at hl 0 rfl) ?_
      refine lv_if_ne (tgt := 56) hx hb dX9_start_49 (by decide) (fun h_12 => ?_) (fun h_12 => ?_)
      · replace hyp := ite_f h_12 hyp
        refine lv_iconst (v := 0) hx hb dX9_start_56 (by decide) ?_
        exact kJ_6 0 H locs ls hyp (lv_sub hl [1, 2] rfl) hP hD hS
      · replace hyp := ite_t h_12 hyp
        refine lv_iconst (v := 2) hx hb dX9_start_52 (by decide) ?_
        refine lv_goto (tgt := 57) hx hb dX9_start_53 (by decide) ?_
        exact kJ_6 2 H locs ls hyp (lv_sub hl [1, 2] rfl) hP hD hS
    · replace hyp := ite_t h_11 hyp
      refine lv_iconst (v := 1) hx hb dX9_start_44 (by decide) ?_
      refine lv_goto (tgt := 57) hx hb dX9_start_45 (by decide) ?_
      exact kJ_6 1 H locs ls hyp (lv_sub hl [1, 2] rfl) hP hD hS
  obtain ⟨J_13, eJ_13, hyp⟩ := jn_e hyp
  have kJ_13 : ∀ (H : Heap) (locs : List Loc) (ls : Array Slot), J_13 = some r → lv_has ls 4 [(0, .ref o), (1, .int a1)] → va_P g.1 vwCl [(o, .inr (9, [.int refu, .ref pn, .ref pt, .ref pr, .ref pw, .ref pb, .int nst, .ref pk, .ref pi, .ref pf, .ref pl, .ref pe, .ref pm, .int nn, .ref px, .int len, .int pos, .int gd, .int ps, .int sm])), (pn, .inl (g.2.1, 61, .inl fnow)), (pb, .inl (g.2.1, 366, .inl fbook)), (pk, .inl (g.2.1, 122, .inl fkept)), (pi, .inl (g.2.2.2.1, 2, .inl fisk)), (pf, .inl (g.2.2.1, 4096, .inr (.inl ffst))), (pl, .inl (g.2.2.1, 4096, .inr (.inl flst))), (pe, .inl (g.2.1, 4096, .inl fbef)), (pm, .inl (g.2.1, 4096, .inl fmov))] H → va_D A [(o, .inr (9, [.int refu, .ref pn, .ref pt, .ref pr, .ref pw, .ref pb, .int nst, .ref pk, .ref pi, .ref pf, .ref pl, .ref pe, .ref pm, .int nn, .ref px, .int len, .int pos, .int gd, .int ps, .int sm])), (pn, .inl (g.2.1, 61, .inl fnow)), (pb, .inl (g.2.1, 366, .inl fbook)), (pk, .inl (g.2.1, 122, .inl fkept)), (pi, .inl (g.2.2.2.1, 2, .inl fisk)), (pf, .inl (g.2.2.1, 4096, .inr (.inl ffst))), (pl, .inl (g.2.2.1, 4096, .inr (.inl flst))), (pe, .inl (g.2.1, 4096, .inl fbef)), (pm, .inl (g.2.1, 4096, .inl fmov))] → va_S A s.heap H locs → W p l e R s m args below meth c H locs 0 0 Q (F0 m 34 ls []) := by
    intro H locs  ls hyp hl hP hD hS
    replace hyp := (eJ_13).symm.trans hyp
    refine lv_iconst (v := 0) hx hb dX9_start_34 (by decide) ?_
    exact kJ_3 0 H locs ls hyp hl hP hD hS
  refine lv_if_ne (tgt := 34) hx hb dX9_start_15 (by decide) (fun h_14 => ?_) (fun h_14 => ?_)
  · replace hyp := ite_f h_14 hyp
    exact kJ_13 H locs ls hyp (lv_sub hl [1, 2] rfl) hP hD hS
  · replace hyp := ite_t h_14 hyp
    refine lv_iload_n hx hb dX9_start_18 rfl (lv_at hl 0 rfl) ?_
    refine lv_iconst (v := (-1)) hx hb dX9_start_19 (by decide) ?_
    refine lv_icmp_eq (tgt := 34) hx hb dX9_start_20 (by decide) (fun h_15 => ?_) (fun h_15 => ?_)
    · replace hyp := ite_t h_15 hyp
      exact kJ_13 H locs ls hyp (lv_sub hl [1, 2] rfl) hP hD hS
    · replace hyp := ite_f h_15 hyp
      refine lv_iload_n hx hb dX9_start_23 rfl (lv_at hl 0 rfl) ?_
      obtain ⟨r_16, hr_16, hyp⟩ := opt_e hyp
      refine pS (As := [.int r_1]) (rest := []) ⟨hx, hb, hml, hown, hts⟩ hE (mX9_isCorner l g r_1 r_16 hr_16) cf_X9_isCorner st_X9_isCorner ml_X9_68 ⟨Nat.le_trans (Nat.le_of_ble_eq_true rfl) hRf, Nat.le_trans (Nat.le_of_ble_eq_true rfl) hRl⟩ (va_P_nil) rfl hl.1 rfl (Nat.le_of_ble_eq_true rfl) dX9_start_24 ⟨Nat.zero_le _, Nat.zero_le _⟩ ?_
      refine lv_if_ne (tgt := 34) hx hb dX9_start_27 (by decide) (fun h_17 => ?_) (fun h_17 => ?_)
      · replace hyp := ite_f h_17 hyp
        exact kJ_13 H locs ls hyp (lv_sub hl [1, 2] rfl) hP hD hS
      · replace hyp := ite_t h_17 hyp
        refine lv_iconst (v := 1) hx hb dX9_start_30 (by decide) ?_
        refine lv_goto (tgt := 35) hx hb dX9_start_31 (by decide) ?_
        exact kJ_3 1 H locs ls hyp (lv_sub hl [1, 2] rfl) hP hD hS

def fX9_turnStrong (nst : Int32) (fnow : Nat → Int32) (fbook : Nat → Int32) : Option (Int32 × (Nat → Int32) × Int32 × (Nat → Int32) × Int32) :=
  (fX9_save nst fnow fbook).bind (fun (r_1 : (Nat → Int32) × Int32) => grd (inB 52 61) (grd (inB 52 61) (grd (inB 52 61) (if ((upd fnow (52 : Int32).toNatClampNeg (1 - (fnow (52 : Int32).toNatClampNeg))) (52 : Int32).toNatClampNeg) = 1 then (some (1, upd fnow (52 : Int32).toNatClampNeg (1 - (fnow (52 : Int32).toNatClampNeg)), 0, r_1.1, r_1.2)) else (some (0, upd fnow (52 : Int32).toNatClampNeg (1 - (fnow (52 : Int32).toNatClampNeg)), 0, r_1.1, r_1.2))))))
set_option maxRecDepth 100000 in
set_option maxHeartbeats 4000000 in
theorem mX9_turnStrong (l : Launch) (g : GE) (o pn pb pt pr pw pk pi pf pl pe pm px : Nat) (refu : Int32) (nst : Int32) (nn : Int32) (len : Int32) (pos : Int32) (gd : Int32) (ps : Int32) (sm : Int32) (fnow : Nat → Int32) (fbook : Nat → Int32) (r : Int32 × (Nat → Int32) × Int32 × (Nat → Int32) × Int32) (hyp : fX9_turnStrong nst fnow fbook = some r) : WM l yX9_turnStrong cX9_turnStrong 1 (some .boolean) 1 21 g [(o, .inr (9, [.int refu, .ref pn, .ref pt, .ref pr, .ref pw, .ref pb, .int nst, .ref pk, .ref pi, .ref pf, .ref pl, .ref pe, .ref pm, .int nn, .ref px, .int len, .int pos, .int gd, .int ps, .int sm])), (pn, .inl (g.2.1, 61, .inl fnow)), (pb, .inl (g.2.1, 366, .inl fbook))] [.ref o] (some (.int r.1)) [(o, .inr (9, [.int r.2.2.1, .ref pn, .ref pt, .ref pr, .ref pw, .ref pb, .int r.2.2.2.2, .ref pk, .ref pi, .ref pf, .ref pl, .ref pe, .ref pm, .int nn, .ref px, .int len, .int pos, .int gd, .int ps, .int sm])), (pn, .inl (g.2.1, 61, .inl r.2.1)), (pb, .inl (g.2.1, 366, .inl r.2.2.2.1))] := by
  refine metW_intro (by decide) rfl ?_
  intro p e R s m args below meth c Q A hRf hRl hQ hx hb hml hr hlocks hown hts hin hE hA H locs hP hD hS ls hl
  have hown : s.vm.findClass "HallGuardsModel" = some m.cls := hown
  have hl : lv_has ls 1 [(0, .ref o)] := hl
  unfold fX9_turnStrong at hyp
  refine lv_aload_n hx hb dX9_turnStrong_0 rfl (lv_at hl 0 rfl) ?_
  refine lv_iconst (v := 0) hx hb dX9_turnStrong_1 (by decide) ?_
  refine pf_X9_52 hx hb hts hown hE hP hD hS 0 rfl rfl dX9_turnStrong_2 (fun H locs hP hD hS => ?_)
  have hP : va_P g.1 vwCl [(o, .inr (9, [.int 0, .ref pn, .ref pt, .ref pr, .ref pw, .ref pb, .int nst, .ref pk, .ref pi, .ref pf, .ref pl, .ref pe, .ref pm, .int nn, .ref px, .int len, .int pos, .int gd, .int ps, .int sm])), (pn, .inl (g.2.1, 61, .inl fnow)), (pb, .inl (g.2.1, 366, .inl fbook))] H := hP
  have hD : va_D A [(o, .inr (9, [.int 0, .ref pn, .ref pt, .ref pr, .ref pw, .ref pb, .int nst, .ref pk, .ref pi, .ref pf, .ref pl, .ref pe, .ref pm, .int nn, .ref px, .int len, .int pos, .int gd, .int ps, .int sm])), (pn, .inl (g.2.1, 61, .inl fnow)), (pb, .inl (g.2.1, 366, .inl fbook))] := hD
  refine lv_aload_n hx hb dX9_turnStrong_5 rfl (lv_at hl 0 rfl) ?_
  obtain ⟨r_1, hr_1, hyp⟩ := opt_e hyp
  refine wV (As := []) (rest := []) ⟨hx, hb, hml, hown, hts⟩ hE (mX9_save l g o pn pb pt pr pw pk pi pf pl pe pm px 0 nst nn len pos gd ps sm fnow fbook r_1 hr_1) cf_X9_save im_X9_save se_X9_save ml_X9_145 ⟨Nat.le_trans (Nat.le_of_ble_eq_true rfl) hRf, Nat.le_trans (Nat.le_of_ble_eq_true rfl) hRl⟩ hP hD hS hA [0, 1, 2] [] rfl (wr := []) rfl ⟨by decide, by decide⟩ (by decide) (ci := 9) (q0 := 0) rfl rfl rfl rfl hl.1 rfl (Nat.le_of_ble_eq_true rfl) dX9_turnStrong_6 ⟨Nat.zero_le _, Nat.zero_le _⟩ (fun H locs hP hD hS => ?_)
  have hP : va_P g.1 vwCl [(o, .inr (9, [.int 0, .ref pn, .ref pt, .ref pr, .ref pw, .ref pb, .int r_1.2, .ref pk, .ref pi, .ref pf, .ref pl, .ref pe, .ref pm, .int nn, .ref px, .int len, .int pos, .int gd, .int ps, .int sm])), (pn, .inl (g.2.1, 61, .inl fnow)), (pb, .inl (g.2.1, 366, .inl r_1.1))] H := hP
  have hD : va_D A [(o, .inr (9, [.int 0, .ref pn, .ref pt, .ref pr, .ref pw, .ref pb, .int r_1.2, .ref pk, .ref pi, .ref pf, .ref pl, .ref pe, .ref pm, .int nn, .ref px, .int len, .int pos, .int gd, .int ps, .int sm])), (pn, .inl (g.2.1, 61, .inl fnow)), (pb, .inl (g.2.1, 366, .inl r_1.1))] := hD
  refine lv_aload_n hx hb dX9_turnStrong_9 rfl (lv_at hl 0 rfl) ?_
  refine gf_X9_7 hx hb hts hown hE hP 0 rfl rfl dX9_turnStrong_10 ?_
  refine lv_bipush (v := 52) hx hb dX9_turnStrong_13 (by decide) ?_
  refine lv_iconst (v := 1) hx hb dX9_turnStrong_15 (by decide) ?_
  refine lv_aload_n hx hb dX9_turnStrong_16 rfl (lv_at hl 0 rfl) ?_
  refine gf_X9_7 hx hb hts hown hE hP 0 rfl rfl dX9_turnStrong_17 ?_
  refine lv_bipush (v := 52) hx hb dX9_turnStrong_20 (by decide) ?_
  obtain ⟨hi, hyp⟩ := grd_e hyp
  refine va_iald hx hb hE.1 hP 1 0 rfl rfl (inB_vp hi) dX9_turnStrong_22 ?_
  refine lv_isub hx hb dX9_turnStrong_23 ?_
  obtain ⟨hi, hyp⟩ := grd_e hyp
  refine va_iast hx hb hE.1 hP hD hS 1 0 rfl rfl (inB_vp hi) dX9_turnStrong_24 (fun H locs hP hD hS => ?_)
  have hP : va_P g.1 vwCl [(o, .inr (9, [.int 0, .ref pn, .ref pt, .ref pr, .ref pw, .ref pb, .int r_1.2, .ref pk, .ref pi, .ref pf, .ref pl, .ref pe, .ref pm, .int nn, .ref px, .int len, .int pos, .int gd, .int ps, .int sm])), (pn, .inl (g.2.1, 61, .inl (upd fnow (52 : Int32).toNatClampNeg (1 - (fnow (52 : Int32).toNatClampNeg))))), (pb, .inl (g.2.1, 366, .inl r_1.1))] H := hP
  have hD : va_D A [(o, .inr (9, [.int 0, .ref pn, .ref pt, .ref pr, .ref pw, .ref pb, .int r_1.2, .ref pk, .ref pi, .ref pf, .ref pl, .ref pe, .ref pm, .int nn, .ref px, .int len, .int pos, .int gd, .int ps, .int sm])), (pn, .inl (g.2.1, 61, .inl (upd fnow (52 : Int32).toNatClampNeg (1 - (fnow (52 : Int32).toNatClampNeg))))), (pb, .inl (g.2.1, 366, .inl r_1.1))] := hD
  refine lv_aload_n hx hb dX9_turnStrong_25 rfl (lv_at hl 0 rfl) ?_
  refine gf_X9_7 hx hb hts hown hE hP 0 rfl rfl dX9_turnStrong_26 ?_
  refine lv_bipush (v := 52) hx hb dX9_turnStrong_29 (by decide) ?_
  obtain ⟨hi, hyp⟩ := grd_e hyp
  refine va_iald hx hb hE.1 hP 1 0 rfl rfl (inB_vp hi) dX9_turnStrong_31 ?_
  refine lv_iconst (v := 1) hx hb dX9_turnStrong_32 (by decide) ?_
  refine lv_icmp_ne (tgt := 40) hx hb dX9_turnStrong_33 (by decide) (fun h_2 => ?_) (fun h_2 => ?_)
  · replace hyp := ite_f h_2 hyp
    refine lv_iconst (v := 0) hx hb dX9_turnStrong_40 (by decide) ?_
    have hyp := some_e hyp
    subst hyp
    subst hQ
    exact rwZ hx hb hr hlocks (Or.inl rfl)  hP hD hS dX9_turnStrong_41
  · replace hyp := ite_t h_2 hyp
    refine lv_iconst (v := 1) hx hb dX9_turnStrong_36 (by decide) ?_
    refine lv_goto (tgt := 41) hx hb dX9_turnStrong_37 (by decide) ?_
    have hyp := some_e hyp
    subst hyp
    subst hQ
    exact rwZ hx hb hr hlocks (Or.inr rfl)  hP hD hS dX9_turnStrong_41

def fX9_move (nst : Int32) (nn : Int32) (fnow : Nat → Int32) (fbook : Nat → Int32) (fkept : Nat → Int32) (fisk : Nat → Int32) (ffst : Nat → Int64) (flst : Nat → Int64) (fbef : Nat → Int32) (fmov : Nat → Int32) (a1 : Int32) (a2 : Int32) : Option (Int32 × (Nat → Int32) × (Nat → Int32) × (Nat → Int32) × (Nat → Int64) × (Nat → Int64) × (Nat → Int32) × (Nat → Int32) × Int32 × Int32 × Int32) :=
  (fX9_isSquare a1).bind (fun (r_1 : Int32) => jn (fun (t_2 : Int32) => jn (fun (t_4 : Int32) => (fX9_refused t_4).bind (fun (r_6 : Int32 × Int32) => if r_6.1 = 0 then ((fX9_save nst fnow fbook).bind (fun (r_8 : (Nat → Int32) × Int32) => (fX9_goMoveN r_8.2 nn fnow r_8.1 fkept fisk ffst flst fbef fmov a1 a2).bind (fun (r_9 : Int32 × (Nat → Int32) × (Nat → Int32) × (Nat → Int32) × (Nat → Int64) × (Nat → Int64) × (Nat → Int32) × (Nat → Int32) × Int32) => some (r_9.1, r_9.2.1, r_9.2.2.1, r_9.2.2.2.1, r_9.2.2.2.2.1, r_9.2.2.2.2.2.1, r_9.2.2.2.2.2.2.1, r_9.2.2.2.2.2.2.2.1, r_9.2.2.2.2.2.2.2.2, r_8.2, r_6.2)))) else (some (0, fnow, fbook, fkept, ffst, flst, fbef, fmov, nn, nst, r_6.2)))) (fun J_5 => if t_2 = 0 then (J_5 1) else ((fX9_mayMove fnow a1 a2).bind (fun (r_11 : Int32) => if r_11 = 0 then (J_5 2) else (J_5 0))))) (fun J_3 => jn (J_3 0) (fun J_13 => if r_1 = 0 then (J_13) else ((fX9_isSquare a2).bind (fun (r_15 : Int32) => if r_15 = 0 then (J_13) else (J_3 1))))))
set_option maxRecDepth 100000 in
set_option maxHeartbeats 4000000 in
theorem mX9_move (l : Launch) (g : GE) (o pn pb pk pi pf pl pe pm pt pr pw px : Nat) (refu : Int32) (nst : Int32) (nn : Int32) (len : Int32) (pos : Int32) (gd : Int32) (ps : Int32) (sm : Int32) (fnow : Nat → Int32) (fbook : Nat → Int32) (fkept : Nat → Int32) (fisk : Nat → Int32) (ffst : Nat → Int64) (flst : Nat → Int64) (fbef : Nat → Int32) (fmov : Nat → Int32) (a1 : Int32) (a2 : Int32) (r : Int32 × (Nat → Int32) × (Nat → Int32) × (Nat → Int32) × (Nat → Int64) × (Nat → Int64) × (Nat → Int32) × (Nat → Int32) × Int32 × Int32 × Int32) (hyp : fX9_move nst nn fnow fbook fkept fisk ffst flst fbef fmov a1 a2 = some r) : WM l yX9_move cX9_move 4 (some .int) 7 164 g [(o, .inr (9, [.int refu, .ref pn, .ref pt, .ref pr, .ref pw, .ref pb, .int nst, .ref pk, .ref pi, .ref pf, .ref pl, .ref pe, .ref pm, .int nn, .ref px, .int len, .int pos, .int gd, .int ps, .int sm])), (pn, .inl (g.2.1, 61, .inl fnow)), (pb, .inl (g.2.1, 366, .inl fbook)), (pk, .inl (g.2.1, 122, .inl fkept)), (pi, .inl (g.2.2.2.1, 2, .inl fisk)), (pf, .inl (g.2.2.1, 4096, .inr (.inl ffst))), (pl, .inl (g.2.2.1, 4096, .inr (.inl flst))), (pe, .inl (g.2.1, 4096, .inl fbef)), (pm, .inl (g.2.1, 4096, .inl fmov))] [.ref o, .int a1, .int a2] (some (.int r.1)) [(o, .inr (9, [.int r.2.2.2.2.2.2.2.2.2.2, .ref pn, .ref pt, .ref pr, .ref pw, .ref pb, .int r.2.2.2.2.2.2.2.2.2.1, .ref pk, .ref pi, .ref pf, .ref pl, .ref pe, .ref pm, .int r.2.2.2.2.2.2.2.2.1, .ref px, .int len, .int pos, .int gd, .int ps, .int sm])), (pn, .inl (g.2.1, 61, .inl r.2.1)), (pb, .inl (g.2.1, 366, .inl r.2.2.1)), (pk, .inl (g.2.1, 122, .inl r.2.2.2.1)), (pi, .inl (g.2.2.2.1, 2, .inl fisk)), (pf, .inl (g.2.2.1, 4096, .inr (.inl r.2.2.2.2.1))), (pl, .inl (g.2.2.1, 4096, .inr (.inl r.2.2.2.2.2.1))), (pe, .inl (g.2.1, 4096, .inl r.2.2.2.2.2.2.1)), (pm, .inl (g.2.1, 4096, .inl r.2.2.2.2.2.2.2.1))] := by
  refine metW_intro (by decide) rfl ?_
  intro p e R s m args below meth c Q A hRf hRl hQ hx hb hml hr hlocks hown hts hin hE hA H locs hP hD hS ls hl
  have hown : s.vm.findClass "HallGuardsModel" = some m.cls := hown
  have hl : lv_has ls 4 [(0, .ref o), (1, .int a1), (2, .int a2)] := hl
  unfold fX9_move at hyp
  refine lv_iload_n hx hb dX9_move_0 rfl (lv_at hl 1 rfl) ?_
  obtain ⟨r_1, hr_1, hyp⟩ := opt_e hyp
  refine pS (As := [.int a1]) (rest := []) ⟨hx, hb, hml, hown, hts⟩ hE (mX9_isSquare l g a1 r_1 hr_1) cf_X9_isSquare st_X9_isSquare ml_X9_159 ⟨Nat.le_trans (Nat.le_of_ble_eq_true rfl) hRf, Nat.le_trans (Nat.le_of_ble_eq_true rfl) hRl⟩ (va_P_nil) rfl hl.1 rfl (Nat.le_of_ble_eq_true rfl) dX9_move_1 ⟨Nat.zero_le _, Nat.zero_le _⟩ ?_
  obtain ⟨J_3, eJ_3, hyp⟩ := jn_e hyp
  have kJ_3 : ∀ (t_2 : Int32) (H : Heap) (locs : List Loc) (ls : Array Slot), J_3 t_2 = some r → lv_has ls 4 [(0, .ref o), (1, .int a1), (2, .int a2)] → va_P g.1 vwCl [(o, .inr (9, [.int refu, .ref pn, .ref pt, .ref pr, .ref pw, .ref pb, .int nst, .ref pk, .ref pi, .ref pf, .ref pl, .ref pe, .ref pm, .int nn, .ref px, .int len, .int pos, .int gd, .int ps, .int sm])), (pn, .inl (g.2.1, 61, .inl fnow)), (pb, .inl (g.2.1, 366, .inl fbook)), (pk, .inl (g.2.1, 122, .inl fkept)), (pi, .inl (g.2.2.2.1, 2, .inl fisk)), (pf, .inl (g.2.2.1, 4096, .inr (.inl ffst))), (pl, .inl (g.2.2.1, 4096, .inr (.inl flst))), (pe, .inl (g.2.1, 4096, .inl fbef)), (pm, .inl (g.2.1, 4096, .inl fmov))] H → va_D A [(o, .inr (9, [.int refu, .ref pn, .ref pt, .ref pr, .ref pw, .ref pb, .int nst, .ref pk, .ref pi, .ref pf, .ref pl, .ref pe, .ref pm, .int nn, .ref px, .int len, .int pos, .int gd, .int ps, .int sm])), (pn, .inl (g.2.1, 61, .inl fnow)), (pb, .inl (g.2.1, 366, .inl fbook)), (pk, .inl (g.2.1, 122, .inl fkept)), (pi, .inl (g.2.2.2.1, 2, .inl fisk)), (pf, .inl (g.2.2.1, 4096, .inr (.inl ffst))), (pl, .inl (g.2.2.1, 4096, .inr (.inl flst))), (pe, .inl (g.2.1, 4096, .inl fbef)), (pm, .inl (g.2.1, 4096, .inl fmov))] → va_S A s.heap H locs → W p l e R s m args below meth c H locs 0 0 Q (F0 m 19 ls [.int t_2]) := by
    intro t_2 H locs  ls hyp hl hP hD hS
    replace hyp := (congrFun (eJ_3) t_2).symm.trans hyp
    refine lv_istore_n (lv' := [(3, .int t_2), (0, .ref o), (1, .int a1), (2, .int a2)]) hx hb dX9_move_19 rfl hl (by decide) rfl (fun ls hl => ?_)
    refine lv_aload_n hx hb dX9_move_20 rfl (lv_at hl 1 rfl) ?_
    refine lv_iload_n hx hb dX9_move_21 rfl (lv_at hl 0 rfl) ?_
    obtain ⟨J_5, eJ_5, hyp⟩ := jn_e hyp
    have kJ_5 : ∀ (t_4 : Int32) (H : Heap) (locs : List Loc) (ls : Array Slot), J_5 t_4 = some r → lv_has ls 4 [(0, .ref o), (1, .int a1), (2, .int a2)] → va_P g.1 vwCl [(o, .inr (9, [.int refu, .ref pn, .ref pt, .ref pr, .ref pw, .ref pb, .int nst, .ref pk, .ref pi, .ref pf, .ref pl, .ref pe, .ref pm, .int nn, .ref px, .int len, .int pos, .int gd, .int ps, .int sm])), (pn, .inl (g.2.1, 61, .inl fnow)), (pb, .inl (g.2.1, 366, .inl fbook)), (pk, .inl (g.2.1, 122, .inl fkept)), (pi, .inl (g.2.2.2.1, 2, .inl fisk)), (pf, .inl (g.2.2.1, 4096, .inr (.inl ffst))), (pl, .inl (g.2.2.1, 4096, .inr (.inl flst))), (pe, .inl (g.2.1, 4096, .inl fbef)), (pm, .inl (g.2.1, 4096, .inl fmov))] H → va_D A [(o, .inr (9, [.int refu, .ref pn, .ref pt, .ref pr, .ref pw, .ref pb, .int nst, .ref pk, .ref pi, .ref pf, .ref pl, .ref pe, .ref pm, .int nn, .ref px, .int len, .int pos, .int gd, .int ps, .int sm])), (pn, .inl (g.2.1, 61, .inl fnow)), (pb, .inl (g.2.1, 366, .inl fbook)), (pk, .inl (g.2.1, 122, .inl fkept)), (pi, .inl (g.2.2.2.1, 2, .inl fisk)), (pf, .inl (g.2.2.1, 4096, .inr (.inl ffst))), (pl, .inl (g.2.2.1, 4096, .inr (.inl flst))), (pe, .inl (g.2.1, 4096, .inl fbef)), (pm, .inl (g.2.1, 4096, .inl fmov))] → va_S A s.heap H locs → W p l e R s m args below meth c H locs 0 0 Q (F0 m 46 ls [.int t_4, .ref o]) := by
      intro t_4 H locs  ls hyp hl hP hD hS
      replace hyp := (congrFun (eJ_5) t_4).symm.trans hyp
      obtain ⟨r_6, hr_6, hyp⟩ := opt_e hyp
      refine wV (As := [.int t_4]) (rest := []) ⟨hx, hb, hml, hown, hts⟩ hE (mX9_refused l g o pn pt pr pw pb pk pi pf pl pe pm px refu nst nn len pos gd ps sm t_4 r_6 hr_6) cf_X9_refused im_X9_refused se_X9_refused ml_X9_153 ⟨Nat.le_trans (Nat.le_of_ble_eq_true rfl) hRf, Nat.le_trans (Nat.le_of_ble_eq_true rfl) hRl⟩ hP hD hS hA [0] [1, 2, 3, 4, 5, 6, 7, 8] rfl (wr := [(pn, .inl (g.2.1, 61, .inl fnow)), (pb, .inl (g.2.1, 366, .inl fbook)), (pk, .inl (g.2.1, 122, .inl fkept)), (pi, .inl (g.2.2.2.1, 2, .inl fisk)), (pf, .inl (g.2.2.1, 4096, .inr (.inl ffst))), (pl, .inl (g.2.2.1, 4096, .inr (.inl flst))), (pe, .inl (g.2.1, 4096, .inl fbef)), (pm, .inl (g.2.1, 4096, .inl fmov))]) rfl ⟨by decide, by decide⟩ (by decide) (ci := 9) (q0 := 0) rfl rfl rfl rfl hl.1 rfl (Nat.le_of_ble_eq_true rfl) dX9_move_46 ⟨Nat.zero_le _, Nat.zero_le _⟩ (fun H locs hP hD hS => ?_)
      have hP : va_P g.1 vwCl [(pn, .inl (g.2.1, 61, .inl fnow)), (pb, .inl (g.2.1, 366, .inl fbook)), (pk, .inl (g.2.1, 122, .inl fkept)), (pi, .inl (g.2.2.2.1, 2, .inl fisk)), (pf, .inl (g.2.2.1, 4096, .inr (.inl ffst))), (pl, .inl (g.2.2.1, 4096, .inr (.inl flst))), (pe, .inl (g.2.1, 4096, .inl fbef)), (pm, .inl (g.2.1, 4096, .inl fmov)), (o, .inr (9, [.int r_6.2, .ref pn, .ref pt, .ref pr, .ref pw, .ref pb, .int nst, .ref pk, .ref pi, .ref pf, .ref pl, .ref pe, .ref pm, .int nn, .ref px, .int len, .int pos, .int gd, .int ps, .int sm]))] H := hP
      have hD : va_D A [(pn, .inl (g.2.1, 61, .inl fnow)), (pb, .inl (g.2.1, 366, .inl fbook)), (pk, .inl (g.2.1, 122, .inl fkept)), (pi, .inl (g.2.2.2.1, 2, .inl fisk)), (pf, .inl (g.2.2.1, 4096, .inr (.inl ffst))), (pl, .inl (g.2.2.1, 4096, .inr (.inl flst))), (pe, .inl (g.2.1, 4096, .inl fbef)), (pm, .inl (g.2.1, 4096, .inl fmov)), (o, .inr (9, [.int r_6.2, .ref pn, .ref pt, .ref pr, .ref pw, .ref pb, .int nst, .ref pk, .ref pi, .ref pf, .ref pl, .ref pe, .ref pm, .int nn, .ref px, .int len, .int pos, .int gd, .int ps, .int sm]))] := hD
      refine lv_if_eq (tgt := 54) hx hb dX9_move_49 (by decide) (fun h_7 => ?_) (fun h_7 => ?_)
      · replace hyp := ite_t h_7 hyp
        refine lv_aload_n hx hb dX9_move_54 rfl (lv_at hl 0 rfl) ?_
        obtain ⟨r_8, hr_8, hyp⟩ := opt_e hyp
        refine wV (As := []) (rest := []) ⟨hx, hb, hml, hown, hts⟩ hE (mX9_save l g o pn pb pt pr pw pk pi pf pl pe pm px r_6.2 nst nn len pos gd ps sm fnow fbook r_8 hr_8) cf_X9_save im_X9_save se_X9_save ml_X9_145 ⟨Nat.le_trans (Nat.le_of_ble_eq_true rfl) hRf, Nat.le_trans (Nat.le_of_ble_eq_true rfl) hRl⟩ hP hD hS hA [8, 0, 1] [2, 3, 4, 5, 6, 7] rfl (wr := [(pk, .inl (g.2.1, 122, .inl fkept)), (pi, .inl (g.2.2.2.1, 2, .inl fisk)), (pf, .inl (g.2.2.1, 4096, .inr (.inl ffst))), (pl, .inl (g.2.2.1, 4096, .inr (.inl flst))), (pe, .inl (g.2.1, 4096, .inl fbef)), (pm, .inl (g.2.1, 4096, .inl fmov))]) rfl ⟨by decide, by decide⟩ (by decide) (ci := 9) (q0 := 0) rfl rfl rfl rfl hl.1 rfl (Nat.le_of_ble_eq_true rfl) dX9_move_55 ⟨Nat.zero_le _, Nat.zero_le _⟩ (fun H locs hP hD hS => ?_)
        have hP : va_P g.1 vwCl [(pk, .inl (g.2.1, 122, .inl fkept)), (pi, .inl (g.2.2.2.1, 2, .inl fisk)), (pf, .inl (g.2.2.1, 4096, .inr (.inl ffst))), (pl, .inl (g.2.2.1, 4096, .inr (.inl flst))), (pe, .inl (g.2.1, 4096, .inl fbef)), (pm, .inl (g.2.1, 4096, .inl fmov)), (o, .inr (9, [.int r_6.2, .ref pn, .ref pt, .ref pr, .ref pw, .ref pb, .int r_8.2, .ref pk, .ref pi, .ref pf, .ref pl, .ref pe, .ref pm, .int nn, .ref px, .int len, .int pos, .int gd, .int ps, .int sm])), (pn, .inl (g.2.1, 61, .inl fnow)), (pb, .inl (g.2.1, 366, .inl r_8.1))] H := hP
        have hD : va_D A [(pk, .inl (g.2.1, 122, .inl fkept)), (pi, .inl (g.2.2.2.1, 2, .inl fisk)), (pf, .inl (g.2.2.1, 4096, .inr (.inl ffst))), (pl, .inl (g.2.2.1, 4096, .inr (.inl flst))), (pe, .inl (g.2.1, 4096, .inl fbef)), (pm, .inl (g.2.1, 4096, .inl fmov)), (o, .inr (9, [.int r_6.2, .ref pn, .ref pt, .ref pr, .ref pw, .ref pb, .int r_8.2, .ref pk, .ref pi, .ref pf, .ref pl, .ref pe, .ref pm, .int nn, .ref px, .int len, .int pos, .int gd, .int ps, .int sm])), (pn, .inl (g.2.1, 61, .inl fnow)), (pb, .inl (g.2.1, 366, .inl r_8.1))] := hD
        refine lv_aload_n hx hb dX9_move_58 rfl (lv_at hl 0 rfl) ?_
        refine lv_aload_n hx hb dX9_move_59 rfl (lv_at hl 0 rfl) ?_
        refine gf_X9_7 hx hb hts hown hE hP 6 rfl rfl dX9_move_60 ?_
        refine lv_iload_n hx hb dX9_move_63 rfl (lv_at hl 1 rfl) ?_
        refine lv_iload_n hx hb dX9_move_64 rfl (lv_at hl 2 rfl) ?_
        obtain ⟨r_9, hr_9, hyp⟩ := opt_e hyp
        refine wV (As := [.ref pn, .int a1, .int a2]) (rest := []) ⟨hx, hb, hml, hown, hts⟩ hE (mX9_goMoveN l g o pn pb pk pi pf pl pe pm pt pr pw px r_6.2 r_8.2 nn len pos gd ps sm fnow r_8.1 fkept fisk ffst flst fbef fmov a1 a2 r_9 hr_9) cf_X9_goMove im_X9_goMove se_X9_goMove ml_X9_165 ⟨Nat.le_trans (Nat.le_of_ble_eq_true rfl) hRf, Nat.le_trans (Nat.le_of_ble_eq_true rfl) hRl⟩ hP hD hS hA [6, 7, 8, 0, 1, 2, 3, 4, 5] [] rfl (wr := []) rfl ⟨by decide, by decide⟩ (by decide) (ci := 9) (q0 := 0) rfl rfl rfl rfl hl.1 rfl (Nat.le_of_ble_eq_true rfl) dX9_move_65 ⟨Nat.zero_le _, Nat.zero_le _⟩ (fun H locs hP hD hS => ?_)
        have hP : va_P g.1 vwCl [(o, .inr (9, [.int r_6.2, .ref pn, .ref pt, .ref pr, .ref pw, .ref pb, .int r_8.2, .ref pk, .ref pi, .ref pf, .ref pl, .ref pe, .ref pm, .int r_9.2.2.2.2.2.2.2.2, .ref px, .int len, .int pos, .int gd, .int ps, .int sm])), (pn, .inl (g.2.1, 61, .inl r_9.2.1)), (pb, .inl (g.2.1, 366, .inl r_9.2.2.1)), (pk, .inl (g.2.1, 122, .inl r_9.2.2.2.1)), (pi, .inl (g.2.2.2.1, 2, .inl fisk)), (pf, .inl (g.2.2.1, 4096, .inr (.inl r_9.2.2.2.2.1))), (pl, .inl (g.2.2.1, 4096, .inr (.inl r_9.2.2.2.2.2.1))), (pe, .inl (g.2.1, 4096, .inl r_9.2.2.2.2.2.2.1)), (pm, .inl (g.2.1, 4096, .inl r_9.2.2.2.2.2.2.2.1))] H := hP
        have hD : va_D A [(o, .inr (9, [.int r_6.2, .ref pn, .ref pt, .ref pr, .ref pw, .ref pb, .int r_8.2, .ref pk, .ref pi, .ref pf, .ref pl, .ref pe, .ref pm, .int r_9.2.2.2.2.2.2.2.2, .ref px, .int len, .int pos, .int gd, .int ps, .int sm])), (pn, .inl (g.2.1, 61, .inl r_9.2.1)), (pb, .inl (g.2.1, 366, .inl r_9.2.2.1)), (pk, .inl (g.2.1, 122, .inl r_9.2.2.2.1)), (pi, .inl (g.2.2.2.1, 2, .inl fisk)), (pf, .inl (g.2.2.1, 4096, .inr (.inl r_9.2.2.2.2.1))), (pl, .inl (g.2.2.1, 4096, .inr (.inl r_9.2.2.2.2.2.1))), (pe, .inl (g.2.1, 4096, .inl r_9.2.2.2.2.2.2.1)), (pm, .inl (g.2.1, 4096, .inl r_9.2.2.2.2.2.2.2.1))] := hD
        have hyp := some_e hyp
        subst hyp
        subst hQ
        exact rwI hx hb hr hlocks  hP hD hS dX9_move_68
      · replace hyp := ite_f h_7 hyp
        refine lv_iconst (v := 0) hx hb dX9_move_52 (by decide) ?_
        have hP : va_P g.1 vwCl [(o, .inr (9, [.int r_6.2, .ref pn, .ref pt, .ref pr, .ref pw, .ref pb, .int nst, .ref pk, .ref pi, .ref pf, .ref pl, .ref pe, .ref pm, .int nn, .ref px, .int len, .int pos, .int gd, .int ps, .int sm])), (pn, .inl (g.2.1, 61, .inl fnow)), (pb, .inl (g.2.1, 366, .inl fbook)), (pk, .inl (g.2.1, 122, .inl fkept)), (pi, .inl (g.2.2.2.1, 2, .inl fisk)), (pf, .inl (g.2.2.1, 4096, .inr (.inl ffst))), (pl, .inl (g.2.2.1, 4096, .inr (.inl flst))), (pe, .inl (g.2.1, 4096, .inl fbef)), (pm, .inl (g.2.1, 4096, .inl fmov))] H := hP.sub [8, 0, 1, 2, 3, 4, 5, 6, 7] rfl
        have hD : va_D A [(o, .inr (9, [.int r_6.2, .ref pn, .ref pt, .ref pr, .ref pw, .ref pb, .int nst, .ref pk, .ref pi, .ref pf, .ref pl, .ref pe, .ref pm, .int nn, .ref px, .int len, .int pos, .int gd, .int ps, .int sm])), (pn, .inl (g.2.1, 61, .inl fnow)), (pb, .inl (g.2.1, 366, .inl fbook)), (pk, .inl (g.2.1, 122, .inl fkept)), (pi, .inl (g.2.2.2.1, 2, .inl fisk)), (pf, .inl (g.2.2.1, 4096, .inr (.inl ffst))), (pl, .inl (g.2.2.1, 4096, .inr (.inl flst))), (pe, .inl (g.2.1, 4096, .inl fbef)), (pm, .inl (g.2.1, 4096, .inl fmov))] := hD.sub [8, 0, 1, 2, 3, 4, 5, 6, 7] (by decide) rfl
        have hyp := some_e hyp
        subst hyp
        subst hQ
        exact rwI hx hb hr hlocks  hP hD hS dX9_move_53
    refine lv_if_ne (tgt := 29) hx hb dX9_move_22 (by decide) (fun h_10 => ?_) (fun h_10 => ?_)
    · replace hyp := ite_f h_10 hyp
      refine lv_aload_n hx hb dX9_move_29 rfl (lv_at hl 1 rfl) ?_
      refine gf_X9_7 hx hb hts hown hE hP 0 rfl rfl dX9_move_30 ?_
      refine lv_iload_n hx hb dX9_move_33 rfl (lv_at hl 2 rfl) ?_
      refine lv_iload_n hx hb dX9_move_34 rfl (lv_at hl 3 rfl) ?_
      obtain ⟨r_11, hr_11, hyp⟩ := opt_e hyp
      refine pS (As := [.ref pn, .int a1, .int a2]) (rest := [.ref o]) ⟨hx, hb, hml, hown, hts⟩ hE (mX9_mayMove l g pn fnow a1 a2 r_11 hr_11) cf_X9_mayMove st_X9_mayMove ml_X9_162 ⟨Nat.le_trans (Nat.le_of_ble_eq_true rfl) hRf, Nat.le_trans (Nat.le_of_ble_eq_true rfl) hRl⟩ (hP.sub (ws' := [(pn, .inl (g.2.1, 61, .inl fnow))]) [1] rfl) rfl hl.1 rfl (Nat.le_of_ble_eq_true rfl) dX9_move_35 ⟨Nat.zero_le _, Nat.zero_le _⟩ ?_
      refine lv_if_ne (tgt := 45) hx hb dX9_move_38 (by decide) (fun h_12 => ?_) (fun h_12 => ?_)
      · replace hyp := ite_f h_12 hyp
        refine lv_iconst (v := 0) hx hb dX9_move_45 (by decide) ?_
        exact kJ_5 0 H locs ls hyp (lv_sub hl [1, 2, 3] rfl) hP hD hS
      · replace hyp := ite_t h_12 hyp
        refine lv_iconst (v := 2) hx hb dX9_move_41 (by decide) ?_
        refine lv_goto (tgt := 46) hx hb dX9_move_42 (by decide) ?_
        exact kJ_5 2 H locs ls hyp (lv_sub hl [1, 2, 3] rfl) hP hD hS
    · replace hyp := ite_t h_10 hyp
      refine lv_iconst (v := 1) hx hb dX9_move_25 (by decide) ?_
      refine lv_goto (tgt := 46) hx hb dX9_move_26 (by decide) ?_
      exact kJ_5 1 H locs ls hyp (lv_sub hl [1, 2, 3] rfl) hP hD hS
  obtain ⟨J_13, eJ_13, hyp⟩ := jn_e hyp
  have kJ_13 : ∀ (H : Heap) (locs : List Loc) (ls : Array Slot), J_13 = some r → lv_has ls 4 [(0, .ref o), (1, .int a1), (2, .int a2)] → va_P g.1 vwCl [(o, .inr (9, [.int refu, .ref pn, .ref pt, .ref pr, .ref pw, .ref pb, .int nst, .ref pk, .ref pi, .ref pf, .ref pl, .ref pe, .ref pm, .int nn, .ref px, .int len, .int pos, .int gd, .int ps, .int sm])), (pn, .inl (g.2.1, 61, .inl fnow)), (pb, .inl (g.2.1, 366, .inl fbook)), (pk, .inl (g.2.1, 122, .inl fkept)), (pi, .inl (g.2.2.2.1, 2, .inl fisk)), (pf, .inl (g.2.2.1, 4096, .inr (.inl ffst))), (pl, .inl (g.2.2.1, 4096, .inr (.inl flst))), (pe, .inl (g.2.1, 4096, .inl fbef)), (pm, .inl (g.2.1, 4096, .inl fmov))] H → va_D A [(o, .inr (9, [.int refu, .ref pn, .ref pt, .ref pr, .ref pw, .ref pb, .int nst, .ref pk, .ref pi, .ref pf, .ref pl, .ref pe, .ref pm, .int nn, .ref px, .int len, .int pos, .int gd, .int ps, .int sm])), (pn, .inl (g.2.1, 61, .inl fnow)), (pb, .inl (g.2.1, 366, .inl fbook)), (pk, .inl (g.2.1, 122, .inl fkept)), (pi, .inl (g.2.2.2.1, 2, .inl fisk)), (pf, .inl (g.2.2.1, 4096, .inr (.inl ffst))), (pl, .inl (g.2.2.1, 4096, .inr (.inl flst))), (pe, .inl (g.2.1, 4096, .inl fbef)), (pm, .inl (g.2.1, 4096, .inl fmov))] → va_S A s.heap H locs → W p l e R s m args below meth c H locs 0 0 Q (F0 m 18 ls []) := by
    intro H locs  ls hyp hl hP hD hS
    replace hyp := (eJ_13).symm.trans hyp
    refine lv_iconst (v := 0) hx hb dX9_move_18 (by decide) ?_
    exact kJ_3 0 H locs ls hyp hl hP hD hS
  refine lv_if_eq (tgt := 18) hx hb dX9_move_4 (by decide) (fun h_14 => ?_) (fun h_14 => ?_)
  · replace hyp := ite_t h_14 hyp
    exact kJ_13 H locs ls hyp hl hP hD hS
  · replace hyp := ite_f h_14 hyp
    refine lv_iload_n hx hb dX9_move_7 rfl (lv_at hl 2 rfl) ?_
    obtain ⟨r_15, hr_15, hyp⟩ := opt_e hyp
    refine pS (As := [.int a2]) (rest := []) ⟨hx, hb, hml, hown, hts⟩ hE (mX9_isSquare l g a2 r_15 hr_15) cf_X9_isSquare st_X9_isSquare ml_X9_159 ⟨Nat.le_trans (Nat.le_of_ble_eq_true rfl) hRf, Nat.le_trans (Nat.le_of_ble_eq_true rfl) hRl⟩ (va_P_nil) rfl hl.1 rfl (Nat.le_of_ble_eq_true rfl) dX9_move_8 ⟨Nat.zero_le _, Nat.zero_le _⟩ ?_
    refine lv_if_eq (tgt := 18) hx hb dX9_move_11 (by decide) (fun h_16 => ?_) (fun h_16 => ?_)
    · replace hyp := ite_t h_16 hyp
      exact kJ_13 H locs ls hyp hl hP hD hS
    · replace hyp := ite_f h_16 hyp
      refine lv_iconst (v := 1) hx hb dX9_move_14 (by decide) ?_
      refine lv_goto (tgt := 19) hx hb dX9_move_15 (by decide) ?_
      exact kJ_3 1 H locs ls hyp hl hP hD hS

def fX9_append (len : Int32) (ftext : Nat → Int32) (a1 : Int32) : Option (Int32 × Int32 × (Nat → Int32) × Int32) :=
  (fX9_in a1.toInt64 33 126).bind (fun (r_1 : Int32) => jn (fun (t_2 : Int32) => (fX9_refused t_2).bind (fun (r_4 : Int32 × Int32) => if r_4.1 = 0 then (grd (inB len 60) (some (len + 1, r_4.2, upd ftext len.toNatClampNeg a1, len + 1))) else (some (0, r_4.2, ftext, len)))) (fun J_3 => if r_1 = 0 then (J_3 1) else (if len = 60 then (J_3 2) else (J_3 0))))
set_option maxRecDepth 100000 in
set_option maxHeartbeats 4000000 in
theorem mX9_append (l : Launch) (g : GE) (o px pn pt pr pw pb pk pi pf pl pe pm : Nat) (refu : Int32) (nst : Int32) (nn : Int32) (len : Int32) (pos : Int32) (gd : Int32) (ps : Int32) (sm : Int32) (ftext : Nat → Int32) (a1 : Int32) (r : Int32 × Int32 × (Nat → Int32) × Int32) (hyp : fX9_append len ftext a1 = some r) : WM l yX9_append cX9_append 2 (some .int) 1 25 g [(o, .inr (9, [.int refu, .ref pn, .ref pt, .ref pr, .ref pw, .ref pb, .int nst, .ref pk, .ref pi, .ref pf, .ref pl, .ref pe, .ref pm, .int nn, .ref px, .int len, .int pos, .int gd, .int ps, .int sm])), (px, .inl (g.2.1, 60, .inl ftext))] [.ref o, .int a1] (some (.int r.1)) [(o, .inr (9, [.int r.2.1, .ref pn, .ref pt, .ref pr, .ref pw, .ref pb, .int nst, .ref pk, .ref pi, .ref pf, .ref pl, .ref pe, .ref pm, .int nn, .ref px, .int r.2.2.2, .int pos, .int gd, .int ps, .int sm])), (px, .inl (g.2.1, 60, .inl r.2.2.1))] := by
  refine metW_intro (by decide) rfl ?_
  intro p e R s m args below meth c Q A hRf hRl hQ hx hb hml hr hlocks hown hts hin hE hA H locs hP hD hS ls hl
  have hown : s.vm.findClass "HallGuardsModel" = some m.cls := hown
  have hl : lv_has ls 2 [(0, .ref o), (1, .int a1)] := hl
  unfold fX9_append at hyp
  refine lv_aload_n hx hb dX9_append_0 rfl (lv_at hl 0 rfl) ?_
  refine lv_iload_n hx hb dX9_append_1 rfl (lv_at hl 1 rfl) ?_
  refine lv_i2l hx hb dX9_append_2 rfl ?_
  refine lv_ldc2 (v := 33) hx hb hown (hts _ ct_X9_168) dX9_append_3 ?_
  refine lv_ldc2 (v := 126) hx hb hown (hts _ ct_X9_170) dX9_append_6 ?_
  obtain ⟨r_1, hr_1, hyp⟩ := opt_e hyp
  refine pS (As := [.long a1.toInt64, .long 33, .long 126]) (rest := [.ref o]) ⟨hx, hb, hml, hown, hts⟩ hE (mX9_in l g a1.toInt64 33 126 r_1 hr_1) cf_X9_in st_X9_in ml_X9_58 ⟨Nat.le_trans (Nat.le_of_ble_eq_true rfl) hRf, Nat.le_trans (Nat.le_of_ble_eq_true rfl) hRl⟩ (va_P_nil) rfl hl.1 rfl (Nat.le_of_ble_eq_true rfl) dX9_append_9 ⟨Nat.zero_le _, Nat.zero_le _⟩ ?_
  obtain ⟨J_3, eJ_3, hyp⟩ := jn_e hyp
  have kJ_3 : ∀ (t_2 : Int32) (H : Heap) (locs : List Loc) (ls : Array Slot), J_3 t_2 = some r → lv_has ls 2 [(0, .ref o), (1, .int a1)] → va_P g.1 vwCl [(o, .inr (9, [.int refu, .ref pn, .ref pt, .ref pr, .ref pw, .ref pb, .int nst, .ref pk, .ref pi, .ref pf, .ref pl, .ref pe, .ref pm, .int nn, .ref px, .int len, .int pos, .int gd, .int ps, .int sm])), (px, .inl (g.2.1, 60, .inl ftext))] H → va_D A [(o, .inr (9, [.int refu, .ref pn, .ref pt, .ref pr, .ref pw, .ref pb, .int nst, .ref pk, .ref pi, .ref pf, .ref pl, .ref pe, .ref pm, .int nn, .ref px, .int len, .int pos, .int gd, .int ps, .int sm])), (px, .inl (g.2.1, 60, .inl ftext))] → va_S A s.heap H locs → W p l e R s m args below meth c H locs 0 0 Q (F0 m 33 ls [.int t_2, .ref o]) := by
    intro t_2 H locs  ls hyp hl hP hD hS
    replace hyp := (congrFun (eJ_3) t_2).symm.trans hyp
    obtain ⟨r_4, hr_4, hyp⟩ := opt_e hyp
    refine wV (As := [.int t_2]) (rest := []) ⟨hx, hb, hml, hown, hts⟩ hE (mX9_refused l g o pn pt pr pw pb pk pi pf pl pe pm px refu nst nn len pos gd ps sm t_2 r_4 hr_4) cf_X9_refused im_X9_refused se_X9_refused ml_X9_153 ⟨Nat.le_trans (Nat.le_of_ble_eq_true rfl) hRf, Nat.le_trans (Nat.le_of_ble_eq_true rfl) hRl⟩ hP hD hS hA [0] [1] rfl (wr := [(px, .inl (g.2.1, 60, .inl ftext))]) rfl ⟨by decide, by decide⟩ (by decide) (ci := 9) (q0 := 0) rfl rfl rfl rfl hl.1 rfl (Nat.le_of_ble_eq_true rfl) dX9_append_33 ⟨Nat.zero_le _, Nat.zero_le _⟩ (fun H locs hP hD hS => ?_)
    have hP : va_P g.1 vwCl [(px, .inl (g.2.1, 60, .inl ftext)), (o, .inr (9, [.int r_4.2, .ref pn, .ref pt, .ref pr, .ref pw, .ref pb, .int nst, .ref pk, .ref pi, .ref pf, .ref pl, .ref pe, .ref pm, .int nn, .ref px, .int len, .int pos, .int gd, .int ps, .int sm]))] H := hP
    have hD : va_D A [(px, .inl (g.2.1, 60, .inl ftext)), (o, .inr (9, [.int r_4.2, .ref pn, .ref pt, .ref pr, .ref pw, .ref pb, .int nst, .ref pk, .ref pi, .ref pf, .ref pl, .ref pe, .ref pm, .int nn, .ref px, .int len, .int pos, .int gd, .int ps, .int sm]))] := hD
    refine lv_if_eq (tgt := 41) hx hb dX9_append_36 (by decide) (fun h_5 => ?_) (fun h_5 => ?_)
    · replace hyp := ite_t h_5 hyp
      refine lv_aload_n hx hb dX9_append_41 rfl (lv_at hl 0 rfl) ?_
      refine gf_X9_45 hx hb hts hown hE hP 1 rfl rfl dX9_append_42 ?_
      refine lv_aload_n hx hb dX9_append_45 rfl (lv_at hl 0 rfl) ?_
      refine gf_X9_172 hx hb hts hown hE hP 1 rfl rfl dX9_append_46 ?_
      refine lv_iload_n hx hb dX9_append_49 rfl (lv_at hl 1 rfl) ?_
      obtain ⟨hi, hyp⟩ := grd_e hyp
      refine va_iast hx hb hE.1 hP hD hS 0 0 rfl rfl (inB_vp hi) dX9_append_50 (fun H locs hP hD hS => ?_)
      have hP : va_P g.1 vwCl [(px, .inl (g.2.1, 60, .inl (upd ftext len.toNatClampNeg a1))), (o, .inr (9, [.int r_4.2, .ref pn, .ref pt, .ref pr, .ref pw, .ref pb, .int nst, .ref pk, .ref pi, .ref pf, .ref pl, .ref pe, .ref pm, .int nn, .ref px, .int len, .int pos, .int gd, .int ps, .int sm]))] H := hP
      have hD : va_D A [(px, .inl (g.2.1, 60, .inl (upd ftext len.toNatClampNeg a1))), (o, .inr (9, [.int r_4.2, .ref pn, .ref pt, .ref pr, .ref pw, .ref pb, .int nst, .ref pk, .ref pi, .ref pf, .ref pl, .ref pe, .ref pm, .int nn, .ref px, .int len, .int pos, .int gd, .int ps, .int sm]))] := hD
      refine lv_aload_n hx hb dX9_append_51 rfl (lv_at hl 0 rfl) ?_
      refine lv_dup hx hb dX9_append_52 rfl ?_
      refine gf_X9_172 hx hb hts hown hE hP 1 rfl rfl dX9_append_53 ?_
      refine lv_iconst (v := 1) hx hb dX9_append_56 (by decide) ?_
      refine lv_iadd hx hb dX9_append_57 ?_
      refine pf_X9_172 hx hb hts hown hE hP hD hS 1 rfl rfl dX9_append_58 (fun H locs hP hD hS => ?_)
      have hP : va_P g.1 vwCl [(px, .inl (g.2.1, 60, .inl (upd ftext len.toNatClampNeg a1))), (o, .inr (9, [.int r_4.2, .ref pn, .ref pt, .ref pr, .ref pw, .ref pb, .int nst, .ref pk, .ref pi, .ref pf, .ref pl, .ref pe, .ref pm, .int nn, .ref px, .int (len + 1), .int pos, .int gd, .int ps, .int sm]))] H := hP
      have hD : va_D A [(px, .inl (g.2.1, 60, .inl (upd ftext len.toNatClampNeg a1))), (o, .inr (9, [.int r_4.2, .ref pn, .ref pt, .ref pr, .ref pw, .ref pb, .int nst, .ref pk, .ref pi, .ref pf, .ref pl, .ref pe, .ref pm, .int nn, .ref px, .int (len + 1), .int pos, .int gd, .int ps, .int sm]))] := hD
      refine lv_aload_n hx hb dX9_append_61 rfl (lv_at hl 0 rfl) ?_
      refine gf_X9_172 hx hb hts hown hE hP 1 rfl rfl dX9_append_62 ?_
      have hP : va_P g.1 vwCl [(o, .inr (9, [.int r_4.2, .ref pn, .ref pt, .ref pr, .ref pw, .ref pb, .int nst, .ref pk, .ref pi, .ref pf, .ref pl, .ref pe, .ref pm, .int nn, .ref px, .int (len + 1), .int pos, .int gd, .int ps, .int sm])), (px, .inl (g.2.1, 60, .inl (upd ftext len.toNatClampNeg a1)))] H := hP.sub [1, 0] rfl
      have hD : va_D A [(o, .inr (9, [.int r_4.2, .ref pn, .ref pt, .ref pr, .ref pw, .ref pb, .int nst, .ref pk, .ref pi, .ref pf, .ref pl, .ref pe, .ref pm, .int nn, .ref px, .int (len + 1), .int pos, .int gd, .int ps, .int sm])), (px, .inl (g.2.1, 60, .inl (upd ftext len.toNatClampNeg a1)))] := hD.sub [1, 0] (by decide) rfl
      have hyp := some_e hyp
      subst hyp
      subst hQ
      exact rwI hx hb hr hlocks  hP hD hS dX9_append_65
    · replace hyp := ite_f h_5 hyp
      refine lv_iconst (v := 0) hx hb dX9_append_39 (by decide) ?_
      have hP : va_P g.1 vwCl [(o, .inr (9, [.int r_4.2, .ref pn, .ref pt, .ref pr, .ref pw, .ref pb, .int nst, .ref pk, .ref pi, .ref pf, .ref pl, .ref pe, .ref pm, .int nn, .ref px, .int len, .int pos, .int gd, .int ps, .int sm])), (px, .inl (g.2.1, 60, .inl ftext))] H := hP.sub [1, 0] rfl
      have hD : va_D A [(o, .inr (9, [.int r_4.2, .ref pn, .ref pt, .ref pr, .ref pw, .ref pb, .int nst, .ref pk, .ref pi, .ref pf, .ref pl, .ref pe, .ref pm, .int nn, .ref px, .int len, .int pos, .int gd, .int ps, .int sm])), (px, .inl (g.2.1, 60, .inl ftext))] := hD.sub [1, 0] (by decide) rfl
      have hyp := some_e hyp
      subst hyp
      subst hQ
      exact rwI hx hb hr hlocks  hP hD hS dX9_append_40
  refine lv_if_ne (tgt := 19) hx hb dX9_append_12 (by decide) (fun h_6 => ?_) (fun h_6 => ?_)
  · replace hyp := ite_f h_6 hyp
    refine lv_aload_n hx hb dX9_append_19 rfl (lv_at hl 0 rfl) ?_
    refine gf_X9_172 hx hb hts hown hE hP 0 rfl rfl dX9_append_20 ?_
    refine lv_bipush (v := 60) hx hb dX9_append_23 (by decide) ?_
    refine lv_icmp_ne (tgt := 32) hx hb dX9_append_25 (by decide) (fun h_7 => ?_) (fun h_7 => ?_)
    · replace hyp := ite_f h_7 hyp
      refine lv_iconst (v := 0) hx hb dX9_append_32 (by decide) ?_
      exact kJ_3 0 H locs ls hyp hl hP hD hS
    · replace hyp := ite_t h_7 hyp
      refine lv_iconst (v := 2) hx hb dX9_append_28 (by decide) ?_
      refine lv_goto (tgt := 33) hx hb dX9_append_29 (by decide) ?_
      exact kJ_3 2 H locs ls hyp hl hP hD hS
  · replace hyp := ite_t h_6 hyp
    refine lv_iconst (v := 1) hx hb dX9_append_15 (by decide) ?_
    refine lv_goto (tgt := 33) hx hb dX9_append_16 (by decide) ?_
    exact kJ_3 1 H locs ls hyp hl hP hD hS

def fX9_clearBuffer (len : Int32) : Option (Int32 × Int32 × Int32) :=
  some (len, 0, 0)
set_option maxRecDepth 100000 in
set_option maxHeartbeats 4000000 in
theorem mX9_clearBuffer (l : Launch) (g : GE) (o pn pt pr pw pb pk pi pf pl pe pm px : Nat) (refu : Int32) (nst : Int32) (nn : Int32) (len : Int32) (pos : Int32) (gd : Int32) (ps : Int32) (sm : Int32) (r : Int32 × Int32 × Int32) (hyp : fX9_clearBuffer len = some r) : WM l yX9_clearBuffer cX9_clearBuffer 2 (some .int) 0 0 g [(o, .inr (9, [.int refu, .ref pn, .ref pt, .ref pr, .ref pw, .ref pb, .int nst, .ref pk, .ref pi, .ref pf, .ref pl, .ref pe, .ref pm, .int nn, .ref px, .int len, .int pos, .int gd, .int ps, .int sm]))] [.ref o] (some (.int r.1)) [(o, .inr (9, [.int r.2.1, .ref pn, .ref pt, .ref pr, .ref pw, .ref pb, .int nst, .ref pk, .ref pi, .ref pf, .ref pl, .ref pe, .ref pm, .int nn, .ref px, .int r.2.2, .int pos, .int gd, .int ps, .int sm]))] := by
  refine metW_intro (by decide) rfl ?_
  intro p e R s m args below meth c Q A hRf hRl hQ hx hb hml hr hlocks hown hts hin hE hA H locs hP hD hS ls hl
  have hown : s.vm.findClass "HallGuardsModel" = some m.cls := hown
  have hl : lv_has ls 2 [(0, .ref o)] := hl
  unfold fX9_clearBuffer at hyp
  refine lv_aload_n hx hb dX9_clearBuffer_0 rfl (lv_at hl 0 rfl) ?_
  refine lv_iconst (v := 0) hx hb dX9_clearBuffer_1 (by decide) ?_
  refine pf_X9_52 hx hb hts hown hE hP hD hS 0 rfl rfl dX9_clearBuffer_2 (fun H locs hP hD hS => ?_)
  have hP : va_P g.1 vwCl [(o, .inr (9, [.int 0, .ref pn, .ref pt, .ref pr, .ref pw, .ref pb, .int nst, .ref pk, .ref pi, .ref pf, .ref pl, .ref pe, .ref pm, .int nn, .ref px, .int len, .int pos, .int gd, .int ps, .int sm]))] H := hP
  have hD : va_D A [(o, .inr (9, [.int 0, .ref pn, .ref pt, .ref pr, .ref pw, .ref pb, .int nst, .ref pk, .ref pi, .ref pf, .ref pl, .ref pe, .ref pm, .int nn, .ref px, .int len, .int pos, .int gd, .int ps, .int sm]))] := hD
  refine lv_aload_n hx hb dX9_clearBuffer_5 rfl (lv_at hl 0 rfl) ?_
  refine gf_X9_172 hx hb hts hown hE hP 0 rfl rfl dX9_clearBuffer_6 ?_
  refine lv_istore_n (lv' := [(1, .int len), (0, .ref o)]) hx hb dX9_clearBuffer_9 rfl hl (by decide) rfl (fun ls hl => ?_)
  refine lv_aload_n hx hb dX9_clearBuffer_10 rfl (lv_at hl 1 rfl) ?_
  refine lv_iconst (v := 0) hx hb dX9_clearBuffer_11 (by decide) ?_
  refine pf_X9_172 hx hb hts hown hE hP hD hS 0 rfl rfl dX9_clearBuffer_12 (fun H locs hP hD hS => ?_)
  have hP : va_P g.1 vwCl [(o, .inr (9, [.int 0, .ref pn, .ref pt, .ref pr, .ref pw, .ref pb, .int nst, .ref pk, .ref pi, .ref pf, .ref pl, .ref pe, .ref pm, .int nn, .ref px, .int 0, .int pos, .int gd, .int ps, .int sm]))] H := hP
  have hD : va_D A [(o, .inr (9, [.int 0, .ref pn, .ref pt, .ref pr, .ref pw, .ref pb, .int nst, .ref pk, .ref pi, .ref pf, .ref pl, .ref pe, .ref pm, .int nn, .ref px, .int 0, .int pos, .int gd, .int ps, .int sm]))] := hD
  refine lv_iload_n hx hb dX9_clearBuffer_15 rfl (lv_at hl 0 rfl) ?_
  have hyp := some_e hyp
  subst hyp
  subst hQ
  exact rwI hx hb hr hlocks  hP hD hS dX9_clearBuffer_16

def fX9_here (len : Int32) (pos : Int32) (ftext : Nat → Int32) : Option Int32 :=
  if len ≤ pos then (some (-1)) else (grd (inB pos 60) (some (ftext pos.toNatClampNeg)))
set_option maxRecDepth 100000 in
set_option maxHeartbeats 4000000 in
theorem mX9_here (l : Launch) (g : GE) (o px pn pt pr pw pb pk pi pf pl pe pm : Nat) (refu : Int32) (nst : Int32) (nn : Int32) (len : Int32) (pos : Int32) (gd : Int32) (ps : Int32) (sm : Int32) (ftext : Nat → Int32) (r : Int32) (hyp : fX9_here len pos ftext = some r) : PI l yX9_here cX9_here 1 (some .int) 0 0 g [(o, .inr (9, [.int refu, .ref pn, .ref pt, .ref pr, .ref pw, .ref pb, .int nst, .ref pk, .ref pi, .ref pf, .ref pl, .ref pe, .ref pm, .int nn, .ref px, .int len, .int pos, .int gd, .int ps, .int sm])), (px, .inl (g.2.1, 60, .inl ftext))] [.ref o] r := by
  refine metP_intro (by decide) rfl ?_
  intro p e R s m args below meth c Q hRf hRl hQ hx hb hml hr hlocks hown hts hin hE hP ls hl
  have hown : s.vm.findClass "HallGuardsModel" = some m.cls := hown
  have hl : lv_has ls 1 [(0, .ref o)] := hl
  unfold fX9_here at hyp
  refine lv_aload_n hx hb dX9_here_0 rfl (lv_at hl 0 rfl) ?_
  refine gf_X9_175 hx hb hts hown hE hP 0 rfl rfl dX9_here_1 ?_
  refine lv_aload_n hx hb dX9_here_4 rfl (lv_at hl 0 rfl) ?_
  refine gf_X9_172 hx hb hts hown hE hP 0 rfl rfl dX9_here_5 ?_
  refine lv_icmp_ge (tgt := 23) hx hb dX9_here_8 (by decide) (fun h_1 => ?_) (fun h_1 => ?_)
  · replace hyp := ite_t h_1 hyp
    refine lv_iconst (v := (-1)) hx hb dX9_here_23 (by decide) ?_
    subst hQ
    exact rI hx hb hr hlocks (some_e hyp) dX9_here_24
  · replace hyp := ite_f h_1 hyp
    refine lv_aload_n hx hb dX9_here_11 rfl (lv_at hl 0 rfl) ?_
    refine gf_X9_45 hx hb hts hown hE hP 0 rfl rfl dX9_here_12 ?_
    refine lv_aload_n hx hb dX9_here_15 rfl (lv_at hl 0 rfl) ?_
    refine gf_X9_175 hx hb hts hown hE hP 0 rfl rfl dX9_here_16 ?_
    obtain ⟨hi, hyp⟩ := grd_e hyp
    refine va_iald hx hb hE.1 hP 1 0 rfl rfl (inB_vp hi) dX9_here_19 ?_
    refine lv_goto (tgt := 24) hx hb dX9_here_20 (by decide) ?_
    subst hQ
    exact rI hx hb hr hlocks (some_e hyp) dX9_here_24

def fX9_take (len : Int32) (pos : Int32) (gd : Int32) (ftext : Nat → Int32) (a1 : Int32) (a2 : Int32) : Option (Int32 × Int32 × Int32) :=
  (fX9_here len pos ftext).bind (fun (r_1 : Int32) => jn (fun (t_2 : Int32) => grd (is01 t_2) (jn (fun (t_4 : Int32) => if t_2 = 0 then (some (0, t_2, pos + t_4)) else (some (r_1 - a1, t_2, pos + t_4))) (fun J_5 => if t_2 = 0 then (J_5 0) else (J_5 1)))) (fun J_3 => jn (J_3 0) (fun J_8 => if gd = 0 then (J_8) else ((fX9_in r_1.toInt64 a1.toInt64 a2.toInt64).bind (fun (r_10 : Int32) => if r_10 = 0 then (J_8) else (J_3 1))))))
set_option maxRecDepth 100000 in
set_option maxHeartbeats 4000000 in
theorem mX9_take (l : Launch) (g : GE) (o px pn pt pr pw pb pk pi pf pl pe pm : Nat) (refu : Int32) (nst : Int32) (nn : Int32) (len : Int32) (pos : Int32) (gd : Int32) (ps : Int32) (sm : Int32) (ftext : Nat → Int32) (a1 : Int32) (a2 : Int32) (r : Int32 × Int32 × Int32) (hyp : fX9_take len pos gd ftext a1 a2 = some r) : WM l yX9_take cX9_take 4 (some .int) 1 25 g [(o, .inr (9, [.int refu, .ref pn, .ref pt, .ref pr, .ref pw, .ref pb, .int nst, .ref pk, .ref pi, .ref pf, .ref pl, .ref pe, .ref pm, .int nn, .ref px, .int len, .int pos, .int gd, .int ps, .int sm])), (px, .inl (g.2.1, 60, .inl ftext))] [.ref o, .int a1, .int a2] (some (.int r.1)) [(o, .inr (9, [.int refu, .ref pn, .ref pt, .ref pr, .ref pw, .ref pb, .int nst, .ref pk, .ref pi, .ref pf, .ref pl, .ref pe, .ref pm, .int nn, .ref px, .int len, .int r.2.2, .int r.2.1, .int ps, .int sm])), (px, .inl (g.2.1, 60, .inl ftext))] := by
  refine metW_intro (by decide) rfl ?_
  intro p e R s m args below meth c Q A hRf hRl hQ hx hb hml hr hlocks hown hts hin hE hA H locs hP hD hS ls hl
  have hown : s.vm.findClass "HallGuardsModel" = some m.cls := hown
  have hl : lv_has ls 4 [(0, .ref o), (1, .int a1), (2, .int a2)] := hl
  unfold fX9_take at hyp
  refine lv_aload_n hx hb dX9_take_0 rfl (lv_at hl 0 rfl) ?_
  obtain ⟨r_1, hr_1, hyp⟩ := opt_e hyp
  refine pV (As := []) (rest := []) ⟨hx, hb, hml, hown, hts⟩ hE (mX9_here l g o px pn pt pr pw pb pk pi pf pl pe pm refu nst nn len pos gd ps sm ftext r_1 hr_1) cf_X9_here im_X9_here se_X9_here ml_X9_178 ⟨Nat.le_trans (Nat.le_of_ble_eq_true rfl) hRf, Nat.le_trans (Nat.le_of_ble_eq_true rfl) hRl⟩ (hP.sub (ws' := [(o, .inr (9, [.int refu, .ref pn, .ref pt, .ref pr, .ref pw, .ref pb, .int nst, .ref pk, .ref pi, .ref pf, .ref pl, .ref pe, .ref pm, .int nn, .ref px, .int len, .int pos, .int gd, .int ps, .int sm])), (px, .inl (g.2.1, 60, .inl ftext))]) [0, 1] rfl) (ci := 9) (q0 := 0) rfl rfl rfl rfl hl.1 rfl (Nat.le_of_ble_eq_true rfl) dX9_take_1 ⟨Nat.zero_le _, Nat.zero_le _⟩ ?_
  refine lv_istore_n (lv' := [(3, .int r_1), (0, .ref o), (1, .int a1), (2, .int a2)]) hx hb dX9_take_4 rfl hl (by decide) rfl (fun ls hl => ?_)
  refine lv_aload_n hx hb dX9_take_5 rfl (lv_at hl 1 rfl) ?_
  refine lv_aload_n hx hb dX9_take_6 rfl (lv_at hl 1 rfl) ?_
  refine gf_X9_182 hx hb hts hown hE hP 0 rfl rfl dX9_take_7 ?_
  obtain ⟨J_3, eJ_3, hyp⟩ := jn_e hyp
  have kJ_3 : ∀ (t_2 : Int32) (H : Heap) (locs : List Loc) (ls : Array Slot), J_3 t_2 = some r → lv_has ls 4 [(0, .ref o), (1, .int a1), (3, .int r_1)] → va_P g.1 vwCl [(o, .inr (9, [.int refu, .ref pn, .ref pt, .ref pr, .ref pw, .ref pb, .int nst, .ref pk, .ref pi, .ref pf, .ref pl, .ref pe, .ref pm, .int nn, .ref px, .int len, .int pos, .int gd, .int ps, .int sm])), (px, .inl (g.2.1, 60, .inl ftext))] H → va_D A [(o, .inr (9, [.int refu, .ref pn, .ref pt, .ref pr, .ref pw, .ref pb, .int nst, .ref pk, .ref pi, .ref pf, .ref pl, .ref pe, .ref pm, .int nn, .ref px, .int len, .int pos, .int gd, .int ps, .int sm])), (px, .inl (g.2.1, 60, .inl ftext))] → va_S A s.heap H locs → W p l e R s m args below meth c H locs 0 0 Q (F0 m 30 ls [.int t_2, .ref o]) := by
    intro t_2 H locs  ls hyp hl hP hD hS
    replace hyp := (congrFun (eJ_3) t_2).symm.trans hyp
    obtain ⟨h01, hyp⟩ := grd_e hyp
    refine pf_X9_182 hx hb hts hown hE hP hD hS 0 rfl rfl (is01_e h01) dX9_take_30 (fun H locs hP hD hS => ?_)
    have hP : va_P g.1 vwCl [(o, .inr (9, [.int refu, .ref pn, .ref pt, .ref pr, .ref pw, .ref pb, .int nst, .ref pk, .ref pi, .ref pf, .ref pl, .ref pe, .ref pm, .int nn, .ref px, .int len, .int pos, .int t_2, .int ps, .int sm])), (px, .inl (g.2.1, 60, .inl ftext))] H := hP
    have hD : va_D A [(o, .inr (9, [.int refu, .ref pn, .ref pt, .ref pr, .ref pw, .ref pb, .int nst, .ref pk, .ref pi, .ref pf, .ref pl, .ref pe, .ref pm, .int nn, .ref px, .int len, .int pos, .int t_2, .int ps, .int sm])), (px, .inl (g.2.1, 60, .inl ftext))] := hD
    refine lv_aload_n hx hb dX9_take_33 rfl (lv_at hl 0 rfl) ?_
    refine lv_dup hx hb dX9_take_34 rfl ?_
    refine gf_X9_175 hx hb hts hown hE hP 0 rfl rfl dX9_take_35 ?_
    refine lv_aload_n hx hb dX9_take_38 rfl (lv_at hl 0 rfl) ?_
    refine gf_X9_182 hx hb hts hown hE hP 0 rfl rfl dX9_take_39 ?_
    obtain ⟨J_5, eJ_5, hyp⟩ := jn_e hyp
    have kJ_5 : ∀ (t_4 : Int32) (H : Heap) (locs : List Loc) (ls : Array Slot), J_5 t_4 = some r → lv_has ls 4 [(0, .ref o), (1, .int a1), (3, .int r_1)] → va_P g.1 vwCl [(o, .inr (9, [.int refu, .ref pn, .ref pt, .ref pr, .ref pw, .ref pb, .int nst, .ref pk, .ref pi, .ref pf, .ref pl, .ref pe, .ref pm, .int nn, .ref px, .int len, .int pos, .int t_2, .int ps, .int sm])), (px, .inl (g.2.1, 60, .inl ftext))] H → va_D A [(o, .inr (9, [.int refu, .ref pn, .ref pt, .ref pr, .ref pw, .ref pb, .int nst, .ref pk, .ref pi, .ref pf, .ref pl, .ref pe, .ref pm, .int nn, .ref px, .int len, .int pos, .int t_2, .int ps, .int sm])), (px, .inl (g.2.1, 60, .inl ftext))] → va_S A s.heap H locs → W p l e R s m args below meth c H locs 0 0 Q (F0 m 50 ls [.int t_4, .int pos, .ref o]) := by
      intro t_4 H locs  ls hyp hl hP hD hS
      replace hyp := (congrFun (eJ_5) t_4).symm.trans hyp
      refine lv_iadd hx hb dX9_take_50 ?_
      refine pf_X9_175 hx hb hts hown hE hP hD hS 0 rfl rfl dX9_take_51 (fun H locs hP hD hS => ?_)
      have hP : va_P g.1 vwCl [(o, .inr (9, [.int refu, .ref pn, .ref pt, .ref pr, .ref pw, .ref pb, .int nst, .ref pk, .ref pi, .ref pf, .ref pl, .ref pe, .ref pm, .int nn, .ref px, .int len, .int (pos + t_4), .int t_2, .int ps, .int sm])), (px, .inl (g.2.1, 60, .inl ftext))] H := hP
      have hD : va_D A [(o, .inr (9, [.int refu, .ref pn, .ref pt, .ref pr, .ref pw, .ref pb, .int nst, .ref pk, .ref pi, .ref pf, .ref pl, .ref pe, .ref pm, .int nn, .ref px, .int len, .int (pos + t_4), .int t_2, .int ps, .int sm])), (px, .inl (g.2.1, 60, .inl ftext))] := hD
      refine lv_aload_n hx hb dX9_take_54 rfl (lv_at hl 0 rfl) ?_
      refine gf_X9_182 hx hb hts hown hE hP 0 rfl rfl dX9_take_55 ?_
      refine lv_if_eq (tgt := 67) hx hb dX9_take_58 (by decide) (fun h_6 => ?_) (fun h_6 => ?_)
      · replace hyp := ite_t h_6 hyp
        refine lv_iconst (v := 0) hx hb dX9_take_67 (by decide) ?_
        have hyp := some_e hyp
        subst hyp
        subst hQ
        exact rwI hx hb hr hlocks  hP hD hS dX9_take_68
      · replace hyp := ite_f h_6 hyp
        refine lv_iload_n hx hb dX9_take_61 rfl (lv_at hl 2 rfl) ?_
        refine lv_iload_n hx hb dX9_take_62 rfl (lv_at hl 1 rfl) ?_
        refine lv_isub hx hb dX9_take_63 ?_
        refine lv_goto (tgt := 68) hx hb dX9_take_64 (by decide) ?_
        have hyp := some_e hyp
        subst hyp
        subst hQ
        exact rwI hx hb hr hlocks  hP hD hS dX9_take_68
    refine lv_if_eq (tgt := 49) hx hb dX9_take_42 (by decide) (fun h_7 => ?_) (fun h_7 => ?_)
    · replace hyp := ite_t h_7 hyp
      refine lv_iconst (v := 0) hx hb dX9_take_49 (by decide) ?_
      exact kJ_5 0 H locs ls hyp hl hP hD hS
    · replace hyp := ite_f h_7 hyp
      refine lv_iconst (v := 1) hx hb dX9_take_45 (by decide) ?_
      refine lv_goto (tgt := 50) hx hb dX9_take_46 (by decide) ?_
      exact kJ_5 1 H locs ls hyp hl hP hD hS
  obtain ⟨J_8, eJ_8, hyp⟩ := jn_e hyp
  have kJ_8 : ∀ (H : Heap) (locs : List Loc) (ls : Array Slot), J_8 = some r → lv_has ls 4 [(0, .ref o), (1, .int a1), (3, .int r_1)] → va_P g.1 vwCl [(o, .inr (9, [.int refu, .ref pn, .ref pt, .ref pr, .ref pw, .ref pb, .int nst, .ref pk, .ref pi, .ref pf, .ref pl, .ref pe, .ref pm, .int nn, .ref px, .int len, .int pos, .int gd, .int ps, .int sm])), (px, .inl (g.2.1, 60, .inl ftext))] H → va_D A [(o, .inr (9, [.int refu, .ref pn, .ref pt, .ref pr, .ref pw, .ref pb, .int nst, .ref pk, .ref pi, .ref pf, .ref pl, .ref pe, .ref pm, .int nn, .ref px, .int len, .int pos, .int gd, .int ps, .int sm])), (px, .inl (g.2.1, 60, .inl ftext))] → va_S A s.heap H locs → W p l e R s m args below meth c H locs 0 0 Q (F0 m 29 ls [.ref o]) := by
    intro H locs  ls hyp hl hP hD hS
    replace hyp := (eJ_8).symm.trans hyp
    refine lv_iconst (v := 0) hx hb dX9_take_29 (by decide) ?_
    exact kJ_3 0 H locs ls hyp hl hP hD hS
  refine lv_if_eq (tgt := 29) hx hb dX9_take_10 (by decide) (fun h_9 => ?_) (fun h_9 => ?_)
  · replace hyp := ite_t h_9 hyp
    exact kJ_8 H locs ls hyp (lv_sub hl [1, 2, 0] rfl) hP hD hS
  · replace hyp := ite_f h_9 hyp
    refine lv_iload_n hx hb dX9_take_13 rfl (lv_at hl 0 rfl) ?_
    refine lv_i2l hx hb dX9_take_14 rfl ?_
    refine lv_iload_n hx hb dX9_take_15 rfl (lv_at hl 2 rfl) ?_
    refine lv_i2l hx hb dX9_take_16 rfl ?_
    refine lv_iload_n hx hb dX9_take_17 rfl (lv_at hl 3 rfl) ?_
    refine lv_i2l hx hb dX9_take_18 rfl ?_
    obtain ⟨r_10, hr_10, hyp⟩ := opt_e hyp
    refine pS (As := [.long r_1.toInt64, .long a1.toInt64, .long a2.toInt64]) (rest := [.ref o]) ⟨hx, hb, hml, hown, hts⟩ hE (mX9_in l g r_1.toInt64 a1.toInt64 a2.toInt64 r_10 hr_10) cf_X9_in st_X9_in ml_X9_58 ⟨Nat.le_trans (Nat.le_of_ble_eq_true rfl) hRf, Nat.le_trans (Nat.le_of_ble_eq_true rfl) hRl⟩ (va_P_nil) rfl hl.1 rfl (Nat.le_of_ble_eq_true rfl) dX9_take_19 ⟨Nat.zero_le _, Nat.zero_le _⟩ ?_
    refine lv_if_eq (tgt := 29) hx hb dX9_take_22 (by decide) (fun h_11 => ?_) (fun h_11 => ?_)
    · replace hyp := ite_t h_11 hyp
      exact kJ_8 H locs ls hyp (lv_sub hl [1, 2, 0] rfl) hP hD hS
    · replace hyp := ite_f h_11 hyp
      refine lv_iconst (v := 1) hx hb dX9_take_25 (by decide) ?_
      refine lv_goto (tgt := 30) hx hb dX9_take_26 (by decide) ?_
      exact kJ_3 1 H locs ls hyp (lv_sub hl [1, 2, 0] rfl) hP hD hS

def fX9_readPart (nst : Int32) (nn : Int32) (len : Int32) (pos : Int32) (gd : Int32) (ps : Int32) (sm : Int32) (fnow : Nat → Int32) (fbook : Nat → Int32) (fkept : Nat → Int32) (fisk : Nat → Int32) (ffst : Nat → Int64) (flst : Nat → Int64) (fbef : Nat → Int32) (fmov : Nat → Int32) (ftri : Nat → Int32) (ftext : Nat → Int32) : Option ((Nat → Int32) × (Nat → Int32) × (Nat → Int32) × (Nat → Int64) × (Nat → Int64) × (Nat → Int32) × (Nat → Int32) × Int32 × (Nat → Int32) × Int32 × Int32 × Int32 × Int32) :=
  (fX9_take len pos gd ftext 97 103).bind (fun (r_1 : Int32 × Int32 × Int32) => (fX9_take len r_1.2.2 r_1.2.1 ftext 49 55).bind (fun (r_2 : Int32 × Int32 × Int32) => (fX9_take len r_2.2.2 r_2.2.1 ftext 97 103).bind (fun (r_3 : Int32 × Int32 × Int32) => (fX9_take len r_3.2.2 r_3.2.1 ftext 49 55).bind (fun (r_4 : Int32 × Int32 × Int32) => if r_4.2.1 = 0 then (some (fnow, fbook, fkept, ffst, flst, fbef, fmov, nn, ftri, r_4.2.1, r_4.2.2, ps, sm)) else (if ps = 0 then (some (fnow, fbook, fkept, ffst, flst, fbef, fmov, nn, ftri, r_4.2.1, r_4.2.2, ps, sm)) else ((fX9_mayMove ftri ((7 * r_2.1) + r_1.1) ((7 * r_4.1) + r_3.1)).bind (fun (r_7 : Int32) => grd (is01 r_7) (jn (fun (t_8 : Int32) (wfnow_9 : Nat → Int32) (wfbook_10 : Nat → Int32) (wfkept_11 : Nat → Int32) (wffst_12 : Nat → Int64) (wflst_13 : Nat → Int64) (wfbef_14 : Nat → Int32) (wfmov_15 : Nat → Int32) (wnn_16 : Int32) (wftri_17 : Nat → Int32) (wgd_18 : Int32) (wpos_19 : Int32) (wps_20 : Int32) (wsm_21 : Int32) => some (wfnow_9, wfbook_10, wfkept_11, wffst_12, wflst_13, wfbef_14, wfmov_15, wnn_16, wftri_17, wgd_18, wpos_19, wps_20, sm + t_8)) (fun J_22 => if r_7 = 0 then (J_22 0 fnow fbook fkept ffst flst fbef fmov nn ftri r_4.2.1 r_4.2.2 r_7 sm) else ((fX9_goMoveT nst nn fnow fbook fkept fisk ffst flst fbef fmov ftri ((7 * r_2.1) + r_1.1) ((7 * r_4.1) + r_3.1)).bind (fun (r_24 : Int32 × (Nat → Int32) × (Nat → Int32) × (Nat → Int32) × (Nat → Int64) × (Nat → Int64) × (Nat → Int32) × (Nat → Int32) × Int32 × (Nat → Int32)) => J_22 r_24.1 r_24.2.1 r_24.2.2.1 r_24.2.2.2.1 r_24.2.2.2.2.1 r_24.2.2.2.2.2.1 r_24.2.2.2.2.2.2.1 r_24.2.2.2.2.2.2.2.1 r_24.2.2.2.2.2.2.2.2.1 r_24.2.2.2.2.2.2.2.2.2 r_4.2.1 r_4.2.2 r_7 sm)))))))))))
set_option maxRecDepth 100000 in
set_option maxHeartbeats 4000000 in
theorem mX9_readPart (l : Launch) (g : GE) (o pn pb pk pi pf pl pe pm pt px pr pw : Nat) (refu : Int32) (nst : Int32) (nn : Int32) (len : Int32) (pos : Int32) (gd : Int32) (ps : Int32) (sm : Int32) (fnow : Nat → Int32) (fbook : Nat → Int32) (fkept : Nat → Int32) (fisk : Nat → Int32) (ffst : Nat → Int64) (flst : Nat → Int64) (fbef : Nat → Int32) (fmov : Nat → Int32) (ftri : Nat → Int32) (ftext : Nat → Int32) (r : (Nat → Int32) × (Nat → Int32) × (Nat → Int32) × (Nat → Int64) × (Nat → Int64) × (Nat → Int32) × (Nat → Int32) × Int32 × (Nat → Int32) × Int32 × Int32 × Int32 × Int32) (hyp : fX9_readPart nst nn len pos gd ps sm fnow fbook fkept fisk ffst flst fbef fmov ftri ftext = some r) : WM l yX9_readPart cX9_readPart 4 none 7 164 g [(o, .inr (9, [.int refu, .ref pn, .ref pt, .ref pr, .ref pw, .ref pb, .int nst, .ref pk, .ref pi, .ref pf, .ref pl, .ref pe, .ref pm, .int nn, .ref px, .int len, .int pos, .int gd, .int ps, .int sm])), (pn, .inl (g.2.1, 61, .inl fnow)), (pb, .inl (g.2.1, 366, .inl fbook)), (pk, .inl (g.2.1, 122, .inl fkept)), (pi, .inl (g.2.2.2.1, 2, .inl fisk)), (pf, .inl (g.2.2.1, 4096, .inr (.inl ffst))), (pl, .inl (g.2.2.1, 4096, .inr (.inl flst))), (pe, .inl (g.2.1, 4096, .inl fbef)), (pm, .inl (g.2.1, 4096, .inl fmov)), (pt, .inl (g.2.1, 61, .inl ftri)), (px, .inl (g.2.1, 60, .inl ftext))] [.ref o] none [(o, .inr (9, [.int refu, .ref pn, .ref pt, .ref pr, .ref pw, .ref pb, .int nst, .ref pk, .ref pi, .ref pf, .ref pl, .ref pe, .ref pm, .int r.2.2.2.2.2.2.2.1, .ref px, .int len, .int r.2.2.2.2.2.2.2.2.2.2.1, .int r.2.2.2.2.2.2.2.2.2.1, .int r.2.2.2.2.2.2.2.2.2.2.2.1, .int r.2.2.2.2.2.2.2.2.2.2.2.2])), (pn, .inl (g.2.1, 61, .inl r.1)), (pb, .inl (g.2.1, 366, .inl r.2.1)), (pk, .inl (g.2.1, 122, .inl r.2.2.1)), (pi, .inl (g.2.2.2.1, 2, .inl fisk)), (pf, .inl (g.2.2.1, 4096, .inr (.inl r.2.2.2.1))), (pl, .inl (g.2.2.1, 4096, .inr (.inl r.2.2.2.2.1))), (pe, .inl (g.2.1, 4096, .inl r.2.2.2.2.2.1)), (pm, .inl (g.2.1, 4096, .inl r.2.2.2.2.2.2.1)), (pt, .inl (g.2.1, 61, .inl r.2.2.2.2.2.2.2.2.1)), (px, .inl (g.2.1, 60, .inl ftext))] := by
  refine metW_intro (by decide) rfl ?_
  intro p e R s m args below meth c Q A hRf hRl hQ hx hb hml hr hlocks hown hts hin hE hA H locs hP hD hS ls hl
  have hown : s.vm.findClass "HallGuardsModel" = some m.cls := hown
  have hl : lv_has ls 4 [(0, .ref o)] := hl
  unfold fX9_readPart at hyp
  refine lv_aload_n hx hb dX9_readPart_0 rfl (lv_at hl 0 rfl) ?_
  refine lv_bipush (v := 97) hx hb dX9_readPart_1 (by decide) ?_
  refine lv_bipush (v := 103) hx hb dX9_readPart_3 (by decide) ?_
  obtain ⟨r_1, hr_1, hyp⟩ := opt_e hyp
  refine wV (As := [.int 97, .int 103]) (rest := []) ⟨hx, hb, hml, hown, hts⟩ hE (mX9_take l g o px pn pt pr pw pb pk pi pf pl pe pm refu nst nn len pos gd ps sm ftext 97 103 r_1 hr_1) cf_X9_take im_X9_take se_X9_take ml_X9_186 ⟨Nat.le_trans (Nat.le_of_ble_eq_true rfl) hRf, Nat.le_trans (Nat.le_of_ble_eq_true rfl) hRl⟩ hP hD hS hA [0, 10] [1, 2, 3, 4, 5, 6, 7, 8, 9] rfl (wr := [(pn, .inl (g.2.1, 61, .inl fnow)), (pb, .inl (g.2.1, 366, .inl fbook)), (pk, .inl (g.2.1, 122, .inl fkept)), (pi, .inl (g.2.2.2.1, 2, .inl fisk)), (pf, .inl (g.2.2.1, 4096, .inr (.inl ffst))), (pl, .inl (g.2.2.1, 4096, .inr (.inl flst))), (pe, .inl (g.2.1, 4096, .inl fbef)), (pm, .inl (g.2.1, 4096, .inl fmov)), (pt, .inl (g.2.1, 61, .inl ftri))]) rfl ⟨by decide, by decide⟩ (by decide) (ci := 9) (q0 := 0) rfl rfl rfl rfl hl.1 rfl (Nat.le_of_ble_eq_true rfl) dX9_readPart_5 ⟨Nat.zero_le _, Nat.zero_le _⟩ (fun H locs hP hD hS => ?_)
  have hP : va_P g.1 vwCl [(pn, .inl (g.2.1, 61, .inl fnow)), (pb, .inl (g.2.1, 366, .inl fbook)), (pk, .inl (g.2.1, 122, .inl fkept)), (pi, .inl (g.2.2.2.1, 2, .inl fisk)), (pf, .inl (g.2.2.1, 4096, .inr (.inl ffst))), (pl, .inl (g.2.2.1, 4096, .inr (.inl flst))), (pe, .inl (g.2.1, 4096, .inl fbef)), (pm, .inl (g.2.1, 4096, .inl fmov)), (pt, .inl (g.2.1, 61, .inl ftri)), (o, .inr (9, [.int refu, .ref pn, .ref pt, .ref pr, .ref pw, .ref pb, .int nst, .ref pk, .ref pi, .ref pf, .ref pl, .ref pe, .ref pm, .int nn, .ref px, .int len, .int r_1.2.2, .int r_1.2.1, .int ps, .int sm])), (px, .inl (g.2.1, 60, .inl ftext))] H := hP
  have hD : va_D A [(pn, .inl (g.2.1, 61, .inl fnow)), (pb, .inl (g.2.1, 366, .inl fbook)), (pk, .inl (g.2.1, 122, .inl fkept)), (pi, .inl (g.2.2.2.1, 2, .inl fisk)), (pf, .inl (g.2.2.1, 4096, .inr (.inl ffst))), (pl, .inl (g.2.2.1, 4096, .inr (.inl flst))), (pe, .inl (g.2.1, 4096, .inl fbef)), (pm, .inl (g.2.1, 4096, .inl fmov)), (pt, .inl (g.2.1, 61, .inl ftri)), (o, .inr (9, [.int refu, .ref pn, .ref pt, .ref pr, .ref pw, .ref pb, .int nst, .ref pk, .ref pi, .ref pf, .ref pl, .ref pe, .ref pm, .int nn, .ref px, .int len, .int r_1.2.2, .int r_1.2.1, .int ps, .int sm])), (px, .inl (g.2.1, 60, .inl ftext))] := hD
  refine lv_istore_n (lv' := [(1, .int r_1.1), (0, .ref o)]) hx hb dX9_readPart_8 rfl hl (by decide) rfl (fun ls hl => ?_)
  refine lv_bipush (v := 7) hx hb dX9_readPart_9 (by decide) ?_
  refine lv_aload_n hx hb dX9_readPart_11 rfl (lv_at hl 1 rfl) ?_
  refine lv_bipush (v := 49) hx hb dX9_readPart_12 (by decide) ?_
  refine lv_bipush (v := 55) hx hb dX9_readPart_14 (by decide) ?_
  obtain ⟨r_2, hr_2, hyp⟩ := opt_e hyp
  refine wV (As := [.int 49, .int 55]) (rest := [.int 7]) ⟨hx, hb, hml, hown, hts⟩ hE (mX9_take l g o px pn pt pr pw pb pk pi pf pl pe pm refu nst nn len r_1.2.2 r_1.2.1 ps sm ftext 49 55 r_2 hr_2) cf_X9_take im_X9_take se_X9_take ml_X9_186 ⟨Nat.le_trans (Nat.le_of_ble_eq_true rfl) hRf, Nat.le_trans (Nat.le_of_ble_eq_true rfl) hRl⟩ hP hD hS hA [9, 10] [0, 1, 2, 3, 4, 5, 6, 7, 8] rfl (wr := [(pn, .inl (g.2.1, 61, .inl fnow)), (pb, .inl (g.2.1, 366, .inl fbook)), (pk, .inl (g.2.1, 122, .inl fkept)), (pi, .inl (g.2.2.2.1, 2, .inl fisk)), (pf, .inl (g.2.2.1, 4096, .inr (.inl ffst))), (pl, .inl (g.2.2.1, 4096, .inr (.inl flst))), (pe, .inl (g.2.1, 4096, .inl fbef)), (pm, .inl (g.2.1, 4096, .inl fmov)), (pt, .inl (g.2.1, 61, .inl ftri))]) rfl ⟨by decide, by decide⟩ (by decide) (ci := 9) (q0 := 0) rfl rfl rfl rfl hl.1 rfl (Nat.le_of_ble_eq_true rfl) dX9_readPart_16 ⟨Nat.zero_le _, Nat.zero_le _⟩ (fun H locs hP hD hS => ?_)
  have hP : va_P g.1 vwCl [(pn, .inl (g.2.1, 61, .inl fnow)), (pb, .inl (g.2.1, 366, .inl fbook)), (pk, .inl (g.2.1, 122, .inl fkept)), (pi, .inl (g.2.2.2.1, 2, .inl fisk)), (pf, .inl (g.2.2.1, 4096, .inr (.inl ffst))), (pl, .inl (g.2.2.1, 4096, .inr (.inl flst))), (pe, .inl (g.2.1, 4096, .inl fbef)), (pm, .inl (g.2.1, 4096, .inl fmov)), (pt, .inl (g.2.1, 61, .inl ftri)), (o, .inr (9, [.int refu, .ref pn, .ref pt, .ref pr, .ref pw, .ref pb, .int nst, .ref pk, .ref pi, .ref pf, .ref pl, .ref pe, .ref pm, .int nn, .ref px, .int len, .int r_2.2.2, .int r_2.2.1, .int ps, .int sm])), (px, .inl (g.2.1, 60, .inl ftext))] H := hP
  have hD : va_D A [(pn, .inl (g.2.1, 61, .inl fnow)), (pb, .inl (g.2.1, 366, .inl fbook)), (pk, .inl (g.2.1, 122, .inl fkept)), (pi, .inl (g.2.2.2.1, 2, .inl fisk)), (pf, .inl (g.2.2.1, 4096, .inr (.inl ffst))), (pl, .inl (g.2.2.1, 4096, .inr (.inl flst))), (pe, .inl (g.2.1, 4096, .inl fbef)), (pm, .inl (g.2.1, 4096, .inl fmov)), (pt, .inl (g.2.1, 61, .inl ftri)), (o, .inr (9, [.int refu, .ref pn, .ref pt, .ref pr, .ref pw, .ref pb, .int nst, .ref pk, .ref pi, .ref pf, .ref pl, .ref pe, .ref pm, .int nn, .ref px, .int len, .int r_2.2.2, .int r_2.2.1, .int ps, .int sm])), (px, .inl (g.2.1, 60, .inl ftext))] := hD
  refine lv_imul hx hb dX9_readPart_19 ?_
  refine lv_iload_n hx hb dX9_readPart_20 rfl (lv_at hl 0 rfl) ?_
  refine lv_iadd hx hb dX9_readPart_21 ?_
  refine lv_istore_n (lv' := [(2, .int ((7 * r_2.1) + r_1.1)), (1, .int r_1.1), (0, .ref o)]) hx hb dX9_readPart_22 rfl hl (by decide) rfl (fun ls hl => ?_)
  refine lv_aload_n hx hb dX9_readPart_23 rfl (lv_at hl 2 rfl) ?_
  refine lv_bipush (v := 97) hx hb dX9_readPart_24 (by decide) ?_
  refine lv_bipush (v := 103) hx hb dX9_readPart_26 (by decide) ?_
  obtain ⟨r_3, hr_3, hyp⟩ := opt_e hyp
  refine wV (As := [.int 97, .int 103]) (rest := []) ⟨hx, hb, hml, hown, hts⟩ hE (mX9_take l g o px pn pt pr pw pb pk pi pf pl pe pm refu nst nn len r_2.2.2 r_2.2.1 ps sm ftext 97 103 r_3 hr_3) cf_X9_take im_X9_take se_X9_take ml_X9_186 ⟨Nat.le_trans (Nat.le_of_ble_eq_true rfl) hRf, Nat.le_trans (Nat.le_of_ble_eq_true rfl) hRl⟩ hP hD hS hA [9, 10] [0, 1, 2, 3, 4, 5, 6, 7, 8] rfl (wr := [(pn, .inl (g.2.1, 61, .inl fnow)), (pb, .inl (g.2.1, 366, .inl fbook)), (pk, .inl (g.2.1, 122, .inl fkept)), (pi, .inl (g.2.2.2.1, 2, .inl fisk)), (pf, .inl (g.2.2.1, 4096, .inr (.inl ffst))), (pl, .inl (g.2.2.1, 4096, .inr (.inl flst))), (pe, .inl (g.2.1, 4096, .inl fbef)), (pm, .inl (g.2.1, 4096, .inl fmov)), (pt, .inl (g.2.1, 61, .inl ftri))]) rfl ⟨by decide, by decide⟩ (by decide) (ci := 9) (q0 := 0) rfl rfl rfl rfl hl.1 rfl (Nat.le_of_ble_eq_true rfl) dX9_readPart_28 ⟨Nat.zero_le _, Nat.zero_le _⟩ (fun H locs hP hD hS => ?_)
  have hP : va_P g.1 vwCl [(pn, .inl (g.2.1, 61, .inl fnow)), (pb, .inl (g.2.1, 366, .inl fbook)), (pk, .inl (g.2.1, 122, .inl fkept)), (pi, .inl (g.2.2.2.1, 2, .inl fisk)), (pf, .inl (g.2.2.1, 4096, .inr (.inl ffst))), (pl, .inl (g.2.2.1, 4096, .inr (.inl flst))), (pe, .inl (g.2.1, 4096, .inl fbef)), (pm, .inl (g.2.1, 4096, .inl fmov)), (pt, .inl (g.2.1, 61, .inl ftri)), (o, .inr (9, [.int refu, .ref pn, .ref pt, .ref pr, .ref pw, .ref pb, .int nst, .ref pk, .ref pi, .ref pf, .ref pl, .ref pe, .ref pm, .int nn, .ref px, .int len, .int r_3.2.2, .int r_3.2.1, .int ps, .int sm])), (px, .inl (g.2.1, 60, .inl ftext))] H := hP
  have hD : va_D A [(pn, .inl (g.2.1, 61, .inl fnow)), (pb, .inl (g.2.1, 366, .inl fbook)), (pk, .inl (g.2.1, 122, .inl fkept)), (pi, .inl (g.2.2.2.1, 2, .inl fisk)), (pf, .inl (g.2.2.1, 4096, .inr (.inl ffst))), (pl, .inl (g.2.2.1, 4096, .inr (.inl flst))), (pe, .inl (g.2.1, 4096, .inl fbef)), (pm, .inl (g.2.1, 4096, .inl fmov)), (pt, .inl (g.2.1, 61, .inl ftri)), (o, .inr (9, [.int refu, .ref pn, .ref pt, .ref pr, .ref pw, .ref pb, .int nst, .ref pk, .ref pi, .ref pf, .ref pl, .ref pe, .ref pm, .int nn, .ref px, .int len, .int r_3.2.2, .int r_3.2.1, .int ps, .int sm])), (px, .inl (g.2.1, 60, .inl ftext))] := hD
  refine lv_istore_n (lv' := [(1, .int r_3.1), (2, .int ((7 * r_2.1) + r_1.1)), (0, .ref o)]) hx hb dX9_readPart_31 rfl hl (by decide) rfl (fun ls hl => ?_)
  refine lv_bipush (v := 7) hx hb dX9_readPart_32 (by decide) ?_
  refine lv_aload_n hx hb dX9_readPart_34 rfl (lv_at hl 2 rfl) ?_
  refine lv_bipush (v := 49) hx hb dX9_readPart_35 (by decide) ?_
  refine lv_bipush (v := 55) hx hb dX9_readPart_37 (by decide) ?_
  obtain ⟨r_4, hr_4, hyp⟩ := opt_e hyp
  refine wV (As := [.int 49, .int 55]) (rest := [.int 7]) ⟨hx, hb, hml, hown, hts⟩ hE (mX9_take l g o px pn pt pr pw pb pk pi pf pl pe pm refu nst nn len r_3.2.2 r_3.2.1 ps sm ftext 49 55 r_4 hr_4) cf_X9_take im_X9_take se_X9_take ml_X9_186 ⟨Nat.le_trans (Nat.le_of_ble_eq_true rfl) hRf, Nat.le_trans (Nat.le_of_ble_eq_true rfl) hRl⟩ hP hD hS hA [9, 10] [0, 1, 2, 3, 4, 5, 6, 7, 8] rfl (wr := [(pn, .inl (g.2.1, 61, .inl fnow)), (pb, .inl (g.2.1, 366, .inl fbook)), (pk, .inl (g.2.1, 122, .inl fkept)), (pi, .inl (g.2.2.2.1, 2, .inl fisk)), (pf, .inl (g.2.2.1, 4096, .inr (.inl ffst))), (pl, .inl (g.2.2.1, 4096, .inr (.inl flst))), (pe, .inl (g.2.1, 4096, .inl fbef)), (pm, .inl (g.2.1, 4096, .inl fmov)), (pt, .inl (g.2.1, 61, .inl ftri))]) rfl ⟨by decide, by decide⟩ (by decide) (ci := 9) (q0 := 0) rfl rfl rfl rfl hl.1 rfl (Nat.le_of_ble_eq_true rfl) dX9_readPart_39 ⟨Nat.zero_le _, Nat.zero_le _⟩ (fun H locs hP hD hS => ?_)
  have hP : va_P g.1 vwCl [(pn, .inl (g.2.1, 61, .inl fnow)), (pb, .inl (g.2.1, 366, .inl fbook)), (pk, .inl (g.2.1, 122, .inl fkept)), (pi, .inl (g.2.2.2.1, 2, .inl fisk)), (pf, .inl (g.2.2.1, 4096, .inr (.inl ffst))), (pl, .inl (g.2.2.1, 4096, .inr (.inl flst))), (pe, .inl (g.2.1, 4096, .inl fbef)), (pm, .inl (g.2.1, 4096, .inl fmov)), (pt, .inl (g.2.1, 61, .inl ftri)), (o, .inr (9, [.int refu, .ref pn, .ref pt, .ref pr, .ref pw, .ref pb, .int nst, .ref pk, .ref pi, .ref pf, .ref pl, .ref pe, .ref pm, .int nn, .ref px, .int len, .int r_4.2.2, .int r_4.2.1, .int ps, .int sm])), (px, .inl (g.2.1, 60, .inl ftext))] H := hP
  have hD : va_D A [(pn, .inl (g.2.1, 61, .inl fnow)), (pb, .inl (g.2.1, 366, .inl fbook)), (pk, .inl (g.2.1, 122, .inl fkept)), (pi, .inl (g.2.2.2.1, 2, .inl fisk)), (pf, .inl (g.2.2.1, 4096, .inr (.inl ffst))), (pl, .inl (g.2.2.1, 4096, .inr (.inl flst))), (pe, .inl (g.2.1, 4096, .inl fbef)), (pm, .inl (g.2.1, 4096, .inl fmov)), (pt, .inl (g.2.1, 61, .inl ftri)), (o, .inr (9, [.int refu, .ref pn, .ref pt, .ref pr, .ref pw, .ref pb, .int nst, .ref pk, .ref pi, .ref pf, .ref pl, .ref pe, .ref pm, .int nn, .ref px, .int len, .int r_4.2.2, .int r_4.2.1, .int ps, .int sm])), (px, .inl (g.2.1, 60, .inl ftext))] := hD
  refine lv_imul hx hb dX9_readPart_42 ?_
  refine lv_iload_n hx hb dX9_readPart_43 rfl (lv_at hl 0 rfl) ?_
  refine lv_iadd hx hb dX9_readPart_44 ?_
  refine lv_istore_n (lv' := [(3, .int ((7 * r_4.1) + r_3.1)), (1, .int r_3.1), (2, .int ((7 * r_2.1) + r_1.1)), (0, .ref o)]) hx hb dX9_readPart_45 rfl hl (by decide) rfl (fun ls hl => ?_)
  refine lv_aload_n hx hb dX9_readPart_46 rfl (lv_at hl 3 rfl) ?_
  refine gf_X9_182 hx hb hts hown hE hP 9 rfl rfl dX9_readPart_47 ?_
  refine lv_if_eq (tgt := 103) hx hb dX9_readPart_50 (by decide) (fun h_5 => ?_) (fun h_5 => ?_)
  · replace hyp := ite_t h_5 hyp
    have hP : va_P g.1 vwCl [(o, .inr (9, [.int refu, .ref pn, .ref pt, .ref pr, .ref pw, .ref pb, .int nst, .ref pk, .ref pi, .ref pf, .ref pl, .ref pe, .ref pm, .int nn, .ref px, .int len, .int r_4.2.2, .int r_4.2.1, .int ps, .int sm])), (pn, .inl (g.2.1, 61, .inl fnow)), (pb, .inl (g.2.1, 366, .inl fbook)), (pk, .inl (g.2.1, 122, .inl fkept)), (pi, .inl (g.2.2.2.1, 2, .inl fisk)), (pf, .inl (g.2.2.1, 4096, .inr (.inl ffst))), (pl, .inl (g.2.2.1, 4096, .inr (.inl flst))), (pe, .inl (g.2.1, 4096, .inl fbef)), (pm, .inl (g.2.1, 4096, .inl fmov)), (pt, .inl (g.2.1, 61, .inl ftri)), (px, .inl (g.2.1, 60, .inl ftext))] H := hP.sub [9, 0, 1, 2, 3, 4, 5, 6, 7, 8, 10] rfl
    have hD : va_D A [(o, .inr (9, [.int refu, .ref pn, .ref pt, .ref pr, .ref pw, .ref pb, .int nst, .ref pk, .ref pi, .ref pf, .ref pl, .ref pe, .ref pm, .int nn, .ref px, .int len, .int r_4.2.2, .int r_4.2.1, .int ps, .int sm])), (pn, .inl (g.2.1, 61, .inl fnow)), (pb, .inl (g.2.1, 366, .inl fbook)), (pk, .inl (g.2.1, 122, .inl fkept)), (pi, .inl (g.2.2.2.1, 2, .inl fisk)), (pf, .inl (g.2.2.1, 4096, .inr (.inl ffst))), (pl, .inl (g.2.2.1, 4096, .inr (.inl flst))), (pe, .inl (g.2.1, 4096, .inl fbef)), (pm, .inl (g.2.1, 4096, .inl fmov)), (pt, .inl (g.2.1, 61, .inl ftri)), (px, .inl (g.2.1, 60, .inl ftext))] := hD.sub [9, 0, 1, 2, 3, 4, 5, 6, 7, 8, 10] (by decide) rfl
    have hyp := some_e hyp
    subst hyp
    subst hQ
    exact rwV hx hb hr hlocks  hP hD hS dX9_readPart_103
  · replace hyp := ite_f h_5 hyp
    refine lv_aload_n hx hb dX9_readPart_53 rfl (lv_at hl 3 rfl) ?_
    refine gf_X9_189 hx hb hts hown hE hP 9 rfl rfl dX9_readPart_54 ?_
    refine lv_if_eq (tgt := 103) hx hb dX9_readPart_57 (by decide) (fun h_6 => ?_) (fun h_6 => ?_)
    · replace hyp := ite_t h_6 hyp
      have hP : va_P g.1 vwCl [(o, .inr (9, [.int refu, .ref pn, .ref pt, .ref pr, .ref pw, .ref pb, .int nst, .ref pk, .ref pi, .ref pf, .ref pl, .ref pe, .ref pm, .int nn, .ref px, .int len, .int r_4.2.2, .int r_4.2.1, .int ps, .int sm])), (pn, .inl (g.2.1, 61, .inl fnow)), (pb, .inl (g.2.1, 366, .inl fbook)), (pk, .inl (g.2.1, 122, .inl fkept)), (pi, .inl (g.2.2.2.1, 2, .inl fisk)), (pf, .inl (g.2.2.1, 4096, .inr (.inl ffst))), (pl, .inl (g.2.2.1, 4096, .inr (.inl flst))), (pe, .inl (g.2.1, 4096, .inl fbef)), (pm, .inl (g.2.1, 4096, .inl fmov)), (pt, .inl (g.2.1, 61, .inl ftri)), (px, .inl (g.2.1, 60, .inl ftext))] H := hP.sub [9, 0, 1, 2, 3, 4, 5, 6, 7, 8, 10] rfl
      have hD : va_D A [(o, .inr (9, [.int refu, .ref pn, .ref pt, .ref pr, .ref pw, .ref pb, .int nst, .ref pk, .ref pi, .ref pf, .ref pl, .ref pe, .ref pm, .int nn, .ref px, .int len, .int r_4.2.2, .int r_4.2.1, .int ps, .int sm])), (pn, .inl (g.2.1, 61, .inl fnow)), (pb, .inl (g.2.1, 366, .inl fbook)), (pk, .inl (g.2.1, 122, .inl fkept)), (pi, .inl (g.2.2.2.1, 2, .inl fisk)), (pf, .inl (g.2.2.1, 4096, .inr (.inl ffst))), (pl, .inl (g.2.2.1, 4096, .inr (.inl flst))), (pe, .inl (g.2.1, 4096, .inl fbef)), (pm, .inl (g.2.1, 4096, .inl fmov)), (pt, .inl (g.2.1, 61, .inl ftri)), (px, .inl (g.2.1, 60, .inl ftext))] := hD.sub [9, 0, 1, 2, 3, 4, 5, 6, 7, 8, 10] (by decide) rfl
      have hyp := some_e hyp
      subst hyp
      subst hQ
      exact rwV hx hb hr hlocks  hP hD hS dX9_readPart_103
    · replace hyp := ite_f h_6 hyp
      refine lv_aload_n hx hb dX9_readPart_60 rfl (lv_at hl 3 rfl) ?_
      refine lv_aload_n hx hb dX9_readPart_61 rfl (lv_at hl 3 rfl) ?_
      refine gf_X9_13 hx hb hts hown hE hP 9 rfl rfl dX9_readPart_62 ?_
      refine lv_iload_n hx hb dX9_readPart_65 rfl (lv_at hl 2 rfl) ?_
      refine lv_iload_n hx hb dX9_readPart_66 rfl (lv_at hl 0 rfl) ?_
      obtain ⟨r_7, hr_7, hyp⟩ := opt_e hyp
      refine pS (As := [.ref pt, .int ((7 * r_2.1) + r_1.1), .int ((7 * r_4.1) + r_3.1)]) (rest := [.ref o]) ⟨hx, hb, hml, hown, hts⟩ hE (mX9_mayMove l g pt ftri ((7 * r_2.1) + r_1.1) ((7 * r_4.1) + r_3.1) r_7 hr_7) cf_X9_mayMove st_X9_mayMove ml_X9_162 ⟨Nat.le_trans (Nat.le_of_ble_eq_true rfl) hRf, Nat.le_trans (Nat.le_of_ble_eq_true rfl) hRl⟩ (hP.sub (ws' := [(pt, .inl (g.2.1, 61, .inl ftri))]) [8] rfl) rfl hl.1 rfl (Nat.le_of_ble_eq_true rfl) dX9_readPart_67 ⟨Nat.zero_le _, Nat.zero_le _⟩ ?_
      obtain ⟨h01, hyp⟩ := grd_e hyp
      refine pf_X9_189 hx hb hts hown hE hP hD hS 9 rfl rfl (is01_e h01) dX9_readPart_70 (fun H locs hP hD hS => ?_)
      have hP : va_P g.1 vwCl [(pn, .inl (g.2.1, 61, .inl fnow)), (pb, .inl (g.2.1, 366, .inl fbook)), (pk, .inl (g.2.1, 122, .inl fkept)), (pi, .inl (g.2.2.2.1, 2, .inl fisk)), (pf, .inl (g.2.2.1, 4096, .inr (.inl ffst))), (pl, .inl (g.2.2.1, 4096, .inr (.inl flst))), (pe, .inl (g.2.1, 4096, .inl fbef)), (pm, .inl (g.2.1, 4096, .inl fmov)), (pt, .inl (g.2.1, 61, .inl ftri)), (o, .inr (9, [.int refu, .ref pn, .ref pt, .ref pr, .ref pw, .ref pb, .int nst, .ref pk, .ref pi, .ref pf, .ref pl, .ref pe, .ref pm, .int nn, .ref px, .int len, .int r_4.2.2, .int r_4.2.1, .int r_7, .int sm])), (px, .inl (g.2.1, 60, .inl ftext))] H := hP
      have hD : va_D A [(pn, .inl (g.2.1, 61, .inl fnow)), (pb, .inl (g.2.1, 366, .inl fbook)), (pk, .inl (g.2.1, 122, .inl fkept)), (pi, .inl (g.2.2.2.1, 2, .inl fisk)), (pf, .inl (g.2.2.1, 4096, .inr (.inl ffst))), (pl, .inl (g.2.2.1, 4096, .inr (.inl flst))), (pe, .inl (g.2.1, 4096, .inl fbef)), (pm, .inl (g.2.1, 4096, .inl fmov)), (pt, .inl (g.2.1, 61, .inl ftri)), (o, .inr (9, [.int refu, .ref pn, .ref pt, .ref pr, .ref pw, .ref pb, .int nst, .ref pk, .ref pi, .ref pf, .ref pl, .ref pe, .ref pm, .int nn, .ref px, .int len, .int r_4.2.2, .int r_4.2.1, .int r_7, .int sm])), (px, .inl (g.2.1, 60, .inl ftext))] := hD
      refine lv_aload_n hx hb dX9_readPart_73 rfl (lv_at hl 3 rfl) ?_
      refine lv_dup hx hb dX9_readPart_74 rfl ?_
      refine gf_X9_192 hx hb hts hown hE hP 9 rfl rfl dX9_readPart_75 ?_
      refine lv_aload_n hx hb dX9_readPart_78 rfl (lv_at hl 3 rfl) ?_
      refine gf_X9_189 hx hb hts hown hE hP 9 rfl rfl dX9_readPart_79 ?_
      obtain ⟨J_22, eJ_22, hyp⟩ := jn_e hyp
      have kJ_22 : ∀ (t_8 : Int32) (wfnow_9 : Nat → Int32) (wfbook_10 : Nat → Int32) (wfkept_11 : Nat → Int32) (wffst_12 : Nat → Int64) (wflst_13 : Nat → Int64) (wfbef_14 : Nat → Int32) (wfmov_15 : Nat → Int32) (wnn_16 : Int32) (wftri_17 : Nat → Int32) (wgd_18 : Int32) (wpos_19 : Int32) (wps_20 : Int32) (wsm_21 : Int32) (H : Heap) (locs : List Loc) (ls : Array Slot), J_22 t_8 wfnow_9 wfbook_10 wfkept_11 wffst_12 wflst_13 wfbef_14 wfmov_15 wnn_16 wftri_17 wgd_18 wpos_19 wps_20 wsm_21 = some r → lv_has ls 4 [] → va_P g.1 vwCl [(o, .inr (9, [.int refu, .ref pn, .ref pt, .ref pr, .ref pw, .ref pb, .int nst, .ref pk, .ref pi, .ref pf, .ref pl, .ref pe, .ref pm, .int wnn_16, .ref px, .int len, .int wpos_19, .int wgd_18, .int wps_20, .int wsm_21])), (pn, .inl (g.2.1, 61, .inl wfnow_9)), (pb, .inl (g.2.1, 366, .inl wfbook_10)), (pk, .inl (g.2.1, 122, .inl wfkept_11)), (pi, .inl (g.2.2.2.1, 2, .inl fisk)), (pf, .inl (g.2.2.1, 4096, .inr (.inl wffst_12))), (pl, .inl (g.2.2.1, 4096, .inr (.inl wflst_13))), (pe, .inl (g.2.1, 4096, .inl wfbef_14)), (pm, .inl (g.2.1, 4096, .inl wfmov_15)), (pt, .inl (g.2.1, 61, .inl wftri_17)), (px, .inl (g.2.1, 60, .inl ftext))] H → va_D A [(o, .inr (9, [.int refu, .ref pn, .ref pt, .ref pr, .ref pw, .ref pb, .int nst, .ref pk, .ref pi, .ref pf, .ref pl, .ref pe, .ref pm, .int wnn_16, .ref px, .int len, .int wpos_19, .int wgd_18, .int wps_20, .int wsm_21])), (pn, .inl (g.2.1, 61, .inl wfnow_9)), (pb, .inl (g.2.1, 366, .inl wfbook_10)), (pk, .inl (g.2.1, 122, .inl wfkept_11)), (pi, .inl (g.2.2.2.1, 2, .inl fisk)), (pf, .inl (g.2.2.1, 4096, .inr (.inl wffst_12))), (pl, .inl (g.2.2.1, 4096, .inr (.inl wflst_13))), (pe, .inl (g.2.1, 4096, .inl wfbef_14)), (pm, .inl (g.2.1, 4096, .inl wfmov_15)), (pt, .inl (g.2.1, 61, .inl wftri_17)), (px, .inl (g.2.1, 60, .inl ftext))] → va_S A s.heap H locs → W p l e R s m args below meth c H locs 0 0 Q (F0 m 99 ls [.int t_8, .int sm, .ref o]) := by
        intro t_8 wfnow_9 wfbook_10 wfkept_11 wffst_12 wflst_13 wfbef_14 wfmov_15 wnn_16 wftri_17 wgd_18 wpos_19 wps_20 wsm_21 H locs  ls hyp hl hP hD hS
        replace hyp := (congrFun (congrFun (congrFun (congrFun (congrFun (congrFun (congrFun (congrFun (congrFun (congrFun (congrFun (congrFun (congrFun (congrFun (eJ_22) t_8) wfnow_9) wfbook_10) wfkept_11) wffst_12) wflst_13) wfbef_14) wfmov_15) wnn_16) wftri_17) wgd_18) wpos_19) wps_20) wsm_21).symm.trans hyp
        refine lv_iadd hx hb dX9_readPart_99 ?_
        refine pf_X9_192 hx hb hts hown hE hP hD hS 0 rfl rfl dX9_readPart_100 (fun H locs hP hD hS => ?_)
        have hP : va_P g.1 vwCl [(o, .inr (9, [.int refu, .ref pn, .ref pt, .ref pr, .ref pw, .ref pb, .int nst, .ref pk, .ref pi, .ref pf, .ref pl, .ref pe, .ref pm, .int wnn_16, .ref px, .int len, .int wpos_19, .int wgd_18, .int wps_20, .int (sm + t_8)])), (pn, .inl (g.2.1, 61, .inl wfnow_9)), (pb, .inl (g.2.1, 366, .inl wfbook_10)), (pk, .inl (g.2.1, 122, .inl wfkept_11)), (pi, .inl (g.2.2.2.1, 2, .inl fisk)), (pf, .inl (g.2.2.1, 4096, .inr (.inl wffst_12))), (pl, .inl (g.2.2.1, 4096, .inr (.inl wflst_13))), (pe, .inl (g.2.1, 4096, .inl wfbef_14)), (pm, .inl (g.2.1, 4096, .inl wfmov_15)), (pt, .inl (g.2.1, 61, .inl wftri_17)), (px, .inl (g.2.1, 60, .inl ftext))] H := hP
        have hD : va_D A [(o, .inr (9, [.int refu, .ref pn, .ref pt, .ref pr, .ref pw, .ref pb, .int nst, .ref pk, .ref pi, .ref pf, .ref pl, .ref pe, .ref pm, .int wnn_16, .ref px, .int len, .int wpos_19, .int wgd_18, .int wps_20, .int (sm + t_8)])), (pn, .inl (g.2.1, 61, .inl wfnow_9)), (pb, .inl (g.2.1, 366, .inl wfbook_10)), (pk, .inl (g.2.1, 122, .inl wfkept_11)), (pi, .inl (g.2.2.2.1, 2, .inl fisk)), (pf, .inl (g.2.2.1, 4096, .inr (.inl wffst_12))), (pl, .inl (g.2.2.1, 4096, .inr (.inl wflst_13))), (pe, .inl (g.2.1, 4096, .inl wfbef_14)), (pm, .inl (g.2.1, 4096, .inl wfmov_15)), (pt, .inl (g.2.1, 61, .inl wftri_17)), (px, .inl (g.2.1, 60, .inl ftext))] := hD
        have hyp := some_e hyp
        subst hyp
        subst hQ
        exact rwV hx hb hr hlocks  hP hD hS dX9_readPart_103
      refine lv_if_eq (tgt := 98) hx hb dX9_readPart_82 (by decide) (fun h_23 => ?_) (fun h_23 => ?_)
      · replace hyp := ite_t h_23 hyp
        refine lv_iconst (v := 0) hx hb dX9_readPart_98 (by decide) ?_
        have hP : va_P g.1 vwCl [(o, .inr (9, [.int refu, .ref pn, .ref pt, .ref pr, .ref pw, .ref pb, .int nst, .ref pk, .ref pi, .ref pf, .ref pl, .ref pe, .ref pm, .int nn, .ref px, .int len, .int r_4.2.2, .int r_4.2.1, .int r_7, .int sm])), (pn, .inl (g.2.1, 61, .inl fnow)), (pb, .inl (g.2.1, 366, .inl fbook)), (pk, .inl (g.2.1, 122, .inl fkept)), (pi, .inl (g.2.2.2.1, 2, .inl fisk)), (pf, .inl (g.2.2.1, 4096, .inr (.inl ffst))), (pl, .inl (g.2.2.1, 4096, .inr (.inl flst))), (pe, .inl (g.2.1, 4096, .inl fbef)), (pm, .inl (g.2.1, 4096, .inl fmov)), (pt, .inl (g.2.1, 61, .inl ftri)), (px, .inl (g.2.1, 60, .inl ftext))] H := hP.sub [9, 0, 1, 2, 3, 4, 5, 6, 7, 8, 10] rfl
        have hD : va_D A [(o, .inr (9, [.int refu, .ref pn, .ref pt, .ref pr, .ref pw, .ref pb, .int nst, .ref pk, .ref pi, .ref pf, .ref pl, .ref pe, .ref pm, .int nn, .ref px, .int len, .int r_4.2.2, .int r_4.2.1, .int r_7, .int sm])), (pn, .inl (g.2.1, 61, .inl fnow)), (pb, .inl (g.2.1, 366, .inl fbook)), (pk, .inl (g.2.1, 122, .inl fkept)), (pi, .inl (g.2.2.2.1, 2, .inl fisk)), (pf, .inl (g.2.2.1, 4096, .inr (.inl ffst))), (pl, .inl (g.2.2.1, 4096, .inr (.inl flst))), (pe, .inl (g.2.1, 4096, .inl fbef)), (pm, .inl (g.2.1, 4096, .inl fmov)), (pt, .inl (g.2.1, 61, .inl ftri)), (px, .inl (g.2.1, 60, .inl ftext))] := hD.sub [9, 0, 1, 2, 3, 4, 5, 6, 7, 8, 10] (by decide) rfl
        exact kJ_22 0 fnow fbook fkept ffst flst fbef fmov nn ftri r_4.2.1 r_4.2.2 r_7 sm H locs ls hyp (lv_sub hl [] rfl) hP hD hS
      · replace hyp := ite_f h_23 hyp
        refine lv_aload_n hx hb dX9_readPart_85 rfl (lv_at hl 3 rfl) ?_
        refine lv_aload_n hx hb dX9_readPart_86 rfl (lv_at hl 3 rfl) ?_
        refine gf_X9_13 hx hb hts hown hE hP 9 rfl rfl dX9_readPart_87 ?_
        refine lv_iload_n hx hb dX9_readPart_90 rfl (lv_at hl 2 rfl) ?_
        refine lv_iload_n hx hb dX9_readPart_91 rfl (lv_at hl 0 rfl) ?_
        obtain ⟨r_24, hr_24, hyp⟩ := opt_e hyp
        refine wV (As := [.ref pt, .int ((7 * r_2.1) + r_1.1), .int ((7 * r_4.1) + r_3.1)]) (rest := [.int sm, .ref o]) ⟨hx, hb, hml, hown, hts⟩ hE (mX9_goMoveT l g o pn pb pk pi pf pl pe pm pt pr pw px refu nst nn len r_4.2.2 r_4.2.1 r_7 sm fnow fbook fkept fisk ffst flst fbef fmov ftri ((7 * r_2.1) + r_1.1) ((7 * r_4.1) + r_3.1) r_24 hr_24) cf_X9_goMove im_X9_goMove se_X9_goMove ml_X9_165 ⟨Nat.le_trans (Nat.le_of_ble_eq_true rfl) hRf, Nat.le_trans (Nat.le_of_ble_eq_true rfl) hRl⟩ hP hD hS hA [9, 0, 1, 2, 3, 4, 5, 6, 7, 8] [10] rfl (wr := [(px, .inl (g.2.1, 60, .inl ftext))]) rfl ⟨by decide, by decide⟩ (by decide) (ci := 9) (q0 := 0) rfl rfl rfl rfl hl.1 rfl (Nat.le_of_ble_eq_true rfl) dX9_readPart_92 ⟨Nat.zero_le _, Nat.zero_le _⟩ (fun H locs hP hD hS => ?_)
        have hP : va_P g.1 vwCl [(px, .inl (g.2.1, 60, .inl ftext)), (o, .inr (9, [.int refu, .ref pn, .ref pt, .ref pr, .ref pw, .ref pb, .int nst, .ref pk, .ref pi, .ref pf, .ref pl, .ref pe, .ref pm, .int r_24.2.2.2.2.2.2.2.2.1, .ref px, .int len, .int r_4.2.2, .int r_4.2.1, .int r_7, .int sm])), (pn, .inl (g.2.1, 61, .inl r_24.2.1)), (pb, .inl (g.2.1, 366, .inl r_24.2.2.1)), (pk, .inl (g.2.1, 122, .inl r_24.2.2.2.1)), (pi, .inl (g.2.2.2.1, 2, .inl fisk)), (pf, .inl (g.2.2.1, 4096, .inr (.inl r_24.2.2.2.2.1))), (pl, .inl (g.2.2.1, 4096, .inr (.inl r_24.2.2.2.2.2.1))), (pe, .inl (g.2.1, 4096, .inl r_24.2.2.2.2.2.2.1)), (pm, .inl (g.2.1, 4096, .inl r_24.2.2.2.2.2.2.2.1)), (pt, .inl (g.2.1, 61, .inl r_24.2.2.2.2.2.2.2.2.2))] H := hP
        have hD : va_D A [(px, .inl (g.2.1, 60, .inl ftext)), (o, .inr (9, [.int refu, .ref pn, .ref pt, .ref pr, .ref pw, .ref pb, .int nst, .ref pk, .ref pi, .ref pf, .ref pl, .ref pe, .ref pm, .int r_24.2.2.2.2.2.2.2.2.1, .ref px, .int len, .int r_4.2.2, .int r_4.2.1, .int r_7, .int sm])), (pn, .inl (g.2.1, 61, .inl r_24.2.1)), (pb, .inl (g.2.1, 366, .inl r_24.2.2.1)), (pk, .inl (g.2.1, 122, .inl r_24.2.2.2.1)), (pi, .inl (g.2.2.2.1, 2, .inl fisk)), (pf, .inl (g.2.2.1, 4096, .inr (.inl r_24.2.2.2.2.1))), (pl, .inl (g.2.2.1, 4096, .inr (.inl r_24.2.2.2.2.2.1))), (pe, .inl (g.2.1, 4096, .inl r_24.2.2.2.2.2.2.1)), (pm, .inl (g.2.1, 4096, .inl r_24.2.2.2.2.2.2.2.1)), (pt, .inl (g.2.1, 61, .inl r_24.2.2.2.2.2.2.2.2.2))] := hD
        refine lv_goto (tgt := 99) hx hb dX9_readPart_95 (by decide) ?_
        have hP : va_P g.1 vwCl [(o, .inr (9, [.int refu, .ref pn, .ref pt, .ref pr, .ref pw, .ref pb, .int nst, .ref pk, .ref pi, .ref pf, .ref pl, .ref pe, .ref pm, .int r_24.2.2.2.2.2.2.2.2.1, .ref px, .int len, .int r_4.2.2, .int r_4.2.1, .int r_7, .int sm])), (pn, .inl (g.2.1, 61, .inl r_24.2.1)), (pb, .inl (g.2.1, 366, .inl r_24.2.2.1)), (pk, .inl (g.2.1, 122, .inl r_24.2.2.2.1)), (pi, .inl (g.2.2.2.1, 2, .inl fisk)), (pf, .inl (g.2.2.1, 4096, .inr (.inl r_24.2.2.2.2.1))), (pl, .inl (g.2.2.1, 4096, .inr (.inl r_24.2.2.2.2.2.1))), (pe, .inl (g.2.1, 4096, .inl r_24.2.2.2.2.2.2.1)), (pm, .inl (g.2.1, 4096, .inl r_24.2.2.2.2.2.2.2.1)), (pt, .inl (g.2.1, 61, .inl r_24.2.2.2.2.2.2.2.2.2)), (px, .inl (g.2.1, 60, .inl ftext))] H := hP.sub [1, 2, 3, 4, 5, 6, 7, 8, 9, 10, 0] rfl
        have hD : va_D A [(o, .inr (9, [.int refu, .ref pn, .ref pt, .ref pr, .ref pw, .ref pb, .int nst, .ref pk, .ref pi, .ref pf, .ref pl, .ref pe, .ref pm, .int r_24.2.2.2.2.2.2.2.2.1, .ref px, .int len, .int r_4.2.2, .int r_4.2.1, .int r_7, .int sm])), (pn, .inl (g.2.1, 61, .inl r_24.2.1)), (pb, .inl (g.2.1, 366, .inl r_24.2.2.1)), (pk, .inl (g.2.1, 122, .inl r_24.2.2.2.1)), (pi, .inl (g.2.2.2.1, 2, .inl fisk)), (pf, .inl (g.2.2.1, 4096, .inr (.inl r_24.2.2.2.2.1))), (pl, .inl (g.2.2.1, 4096, .inr (.inl r_24.2.2.2.2.2.1))), (pe, .inl (g.2.1, 4096, .inl r_24.2.2.2.2.2.2.1)), (pm, .inl (g.2.1, 4096, .inl r_24.2.2.2.2.2.2.2.1)), (pt, .inl (g.2.1, 61, .inl r_24.2.2.2.2.2.2.2.2.2)), (px, .inl (g.2.1, 60, .inl ftext))] := hD.sub [1, 2, 3, 4, 5, 6, 7, 8, 9, 10, 0] (by decide) rfl
        exact kJ_22 r_24.1 r_24.2.1 r_24.2.2.1 r_24.2.2.2.1 r_24.2.2.2.2.1 r_24.2.2.2.2.2.1 r_24.2.2.2.2.2.2.1 r_24.2.2.2.2.2.2.2.1 r_24.2.2.2.2.2.2.2.2.1 r_24.2.2.2.2.2.2.2.2.2 r_4.2.1 r_4.2.2 r_7 sm H locs ls hyp (lv_sub hl [] rfl) hP hD hS

def fX9_readAll_L35_B (nst : Int32) (len : Int32) (fisk : Nat → Int32) (ftext : Nat → Int32) (self_16 : (Nat → Int32) → (Nat → Int32) → (Nat → Int32) → (Nat → Int64) → (Nat → Int64) → (Nat → Int32) → (Nat → Int32) → Int32 → (Nat → Int32) → Int32 → Int32 → Int32 → Int32 → Option ((Nat → Int32) × (Nat → Int32) × (Nat → Int32) × (Nat → Int64) × (Nat → Int64) × (Nat → Int32) × (Nat → Int32) × Int32 × (Nat → Int32) × Int32 × Int32 × Int32 × Int32)) (wfnow_3 : Nat → Int32) (wfbook_4 : Nat → Int32) (wfkept_5 : Nat → Int32) (wffst_6 : Nat → Int64) (wflst_7 : Nat → Int64) (wfbef_8 : Nat → Int32) (wfmov_9 : Nat → Int32) (wnn_10 : Int32) (wftri_11 : Nat → Int32) (wgd_12 : Int32) (wpos_13 : Int32) (wps_14 : Int32) (wsm_15 : Int32) : Option ((Nat → Int32) × (Nat → Int32) × (Nat → Int32) × (Nat → Int64) × (Nat → Int64) × (Nat → Int32) × (Nat → Int32) × Int32 × (Nat → Int32) × Int32 × Int32 × Int32 × Int32) :=
  if wgd_12 = 0 then (some (wfnow_3, wfbook_4, wfkept_5, wffst_6, wflst_7, wfbef_8, wfmov_9, wnn_10, wftri_11, wgd_12, wpos_13, wps_14, wsm_15)) else (if len ≤ wpos_13 then (some (wfnow_3, wfbook_4, wfkept_5, wffst_6, wflst_7, wfbef_8, wfmov_9, wnn_10, wftri_11, wgd_12, wpos_13, wps_14, wsm_15)) else ((fX9_take len wpos_13 wgd_12 ftext 59 59).bind (fun (r_19 : Int32 × Int32 × Int32) => if r_19.2.1 = 0 then (self_16 wfnow_3 wfbook_4 wfkept_5 wffst_6 wflst_7 wfbef_8 wfmov_9 wnn_10 wftri_11 r_19.2.1 r_19.2.2 wps_14 wsm_15) else ((fX9_readPart nst wnn_10 len r_19.2.2 r_19.2.1 wps_14 wsm_15 wfnow_3 wfbook_4 wfkept_5 fisk wffst_6 wflst_7 wfbef_8 wfmov_9 wftri_11 ftext).bind (fun (r_21 : (Nat → Int32) × (Nat → Int32) × (Nat → Int32) × (Nat → Int64) × (Nat → Int64) × (Nat → Int32) × (Nat → Int32) × Int32 × (Nat → Int32) × Int32 × Int32 × Int32 × Int32) => self_16 r_21.1 r_21.2.1 r_21.2.2.1 r_21.2.2.2.1 r_21.2.2.2.2.1 r_21.2.2.2.2.2.1 r_21.2.2.2.2.2.2.1 r_21.2.2.2.2.2.2.2.1 r_21.2.2.2.2.2.2.2.2.1 r_21.2.2.2.2.2.2.2.2.2.1 r_21.2.2.2.2.2.2.2.2.2.2.1 r_21.2.2.2.2.2.2.2.2.2.2.2.1 r_21.2.2.2.2.2.2.2.2.2.2.2.2)))))
def fX9_readAll_L35 (nst : Int32) (len : Int32) (fisk : Nat → Int32) (ftext : Nat → Int32) (n : Nat) (wfnow_3 : Nat → Int32) (wfbook_4 : Nat → Int32) (wfkept_5 : Nat → Int32) (wffst_6 : Nat → Int64) (wflst_7 : Nat → Int64) (wfbef_8 : Nat → Int32) (wfmov_9 : Nat → Int32) (wnn_10 : Int32) (wftri_11 : Nat → Int32) (wgd_12 : Int32) (wpos_13 : Int32) (wps_14 : Int32) (wsm_15 : Int32) : Option ((Nat → Int32) × (Nat → Int32) × (Nat → Int32) × (Nat → Int64) × (Nat → Int64) × (Nat → Int32) × (Nat → Int32) × Int32 × (Nat → Int32) × Int32 × Int32 × Int32 × Int32) := lp (fun zf z => fX9_readAll_L35_B nst len fisk ftext (fun wfnow_3 wfbook_4 wfkept_5 wffst_6 wflst_7 wfbef_8 wfmov_9 wnn_10 wftri_11 wgd_12 wpos_13 wps_14 wsm_15 => zf (wfnow_3, wfbook_4, wfkept_5, wffst_6, wflst_7, wfbef_8, wfmov_9, wnn_10, wftri_11, wgd_12, wpos_13, wps_14, wsm_15)) z.1 z.2.1 z.2.2.1 z.2.2.2.1 z.2.2.2.2.1 z.2.2.2.2.2.1 z.2.2.2.2.2.2.1 z.2.2.2.2.2.2.2.1 z.2.2.2.2.2.2.2.2.1 z.2.2.2.2.2.2.2.2.2.1 z.2.2.2.2.2.2.2.2.2.2.1 z.2.2.2.2.2.2.2.2.2.2.2.1 z.2.2.2.2.2.2.2.2.2.2.2.2) n (wfnow_3, wfbook_4, wfkept_5, wffst_6, wflst_7, wfbef_8, wfmov_9, wnn_10, wftri_11, wgd_12, wpos_13, wps_14, wsm_15)
def fX9_readAll (nst : Int32) (nn : Int32) (len : Int32) (fnow : Nat → Int32) (fbook : Nat → Int32) (fkept : Nat → Int32) (fisk : Nat → Int32) (ffst : Nat → Int64) (flst : Nat → Int64) (fbef : Nat → Int32) (fmov : Nat → Int32) (ftri : Nat → Int32) (ftext : Nat → Int32) (a1 : Int32) : Option ((Nat → Int32) × (Nat → Int32) × (Nat → Int32) × (Nat → Int64) × (Nat → Int64) × (Nat → Int32) × (Nat → Int32) × Int32 × (Nat → Int32) × Int32 × Int32 × Int32 × Int32) :=
  grd (is01 a1) ((fX9_copy fnow ftri).bind (fun (r_1 : (Nat → Int32)) => (fX9_readPart nst nn len 0 1 a1 0 fnow fbook fkept fisk ffst flst fbef fmov r_1 ftext).bind (fun (r_2 : (Nat → Int32) × (Nat → Int32) × (Nat → Int32) × (Nat → Int64) × (Nat → Int64) × (Nat → Int32) × (Nat → Int32) × Int32 × (Nat → Int32) × Int32 × Int32 × Int32 × Int32) => fX9_readAll_L35 nst len fisk ftext 64 r_2.1 r_2.2.1 r_2.2.2.1 r_2.2.2.2.1 r_2.2.2.2.2.1 r_2.2.2.2.2.2.1 r_2.2.2.2.2.2.2.1 r_2.2.2.2.2.2.2.2.1 r_2.2.2.2.2.2.2.2.2.1 r_2.2.2.2.2.2.2.2.2.2.1 r_2.2.2.2.2.2.2.2.2.2.2.1 r_2.2.2.2.2.2.2.2.2.2.2.2.1 r_2.2.2.2.2.2.2.2.2.2.2.2.2)))
set_option maxRecDepth 100000 in
set_option maxHeartbeats 4000000 in
theorem mX9_readAll (l : Launch) (g : GE) (o pn pb pk pi pf pl pe pm pt px pr pw : Nat) (refu : Int32) (nst : Int32) (nn : Int32) (len : Int32) (pos : Int32) (gd : Int32) (ps : Int32) (sm : Int32) (fnow : Nat → Int32) (fbook : Nat → Int32) (fkept : Nat → Int32) (fisk : Nat → Int32) (ffst : Nat → Int64) (flst : Nat → Int64) (fbef : Nat → Int32) (fmov : Nat → Int32) (ftri : Nat → Int32) (ftext : Nat → Int32) (a1 : Int32) (r : (Nat → Int32) × (Nat → Int32) × (Nat → Int32) × (Nat → Int64) × (Nat → Int64) × (Nat → Int32) × (Nat → Int32) × Int32 × (Nat → Int32) × Int32 × Int32 × Int32 × Int32) (hyp : fX9_readAll nst nn len fnow fbook fkept fisk ffst flst fbef fmov ftri ftext a1 = some r) : WM l yX9_readAll cX9_readAll 3 none 8 187 g [(o, .inr (9, [.int refu, .ref pn, .ref pt, .ref pr, .ref pw, .ref pb, .int nst, .ref pk, .ref pi, .ref pf, .ref pl, .ref pe, .ref pm, .int nn, .ref px, .int len, .int pos, .int gd, .int ps, .int sm])), (pn, .inl (g.2.1, 61, .inl fnow)), (pb, .inl (g.2.1, 366, .inl fbook)), (pk, .inl (g.2.1, 122, .inl fkept)), (pi, .inl (g.2.2.2.1, 2, .inl fisk)), (pf, .inl (g.2.2.1, 4096, .inr (.inl ffst))), (pl, .inl (g.2.2.1, 4096, .inr (.inl flst))), (pe, .inl (g.2.1, 4096, .inl fbef)), (pm, .inl (g.2.1, 4096, .inl fmov)), (pt, .inl (g.2.1, 61, .inl ftri)), (px, .inl (g.2.1, 60, .inl ftext))] [.ref o, .int a1] none [(o, .inr (9, [.int refu, .ref pn, .ref pt, .ref pr, .ref pw, .ref pb, .int nst, .ref pk, .ref pi, .ref pf, .ref pl, .ref pe, .ref pm, .int r.2.2.2.2.2.2.2.1, .ref px, .int len, .int r.2.2.2.2.2.2.2.2.2.2.1, .int r.2.2.2.2.2.2.2.2.2.1, .int r.2.2.2.2.2.2.2.2.2.2.2.1, .int r.2.2.2.2.2.2.2.2.2.2.2.2])), (pn, .inl (g.2.1, 61, .inl r.1)), (pb, .inl (g.2.1, 366, .inl r.2.1)), (pk, .inl (g.2.1, 122, .inl r.2.2.1)), (pi, .inl (g.2.2.2.1, 2, .inl fisk)), (pf, .inl (g.2.2.1, 4096, .inr (.inl r.2.2.2.1))), (pl, .inl (g.2.2.1, 4096, .inr (.inl r.2.2.2.2.1))), (pe, .inl (g.2.1, 4096, .inl r.2.2.2.2.2.1)), (pm, .inl (g.2.1, 4096, .inl r.2.2.2.2.2.2.1)), (pt, .inl (g.2.1, 61, .inl r.2.2.2.2.2.2.2.2.1)), (px, .inl (g.2.1, 60, .inl ftext))] := by
  refine metW_intro (by decide) rfl ?_
  intro p e R s m args below meth c Q A hRf hRl hQ hx hb hml hr hlocks hown hts hin hE hA H locs hP hD hS ls hl
  have hown : s.vm.findClass "HallGuardsModel" = some m.cls := hown
  have hl : lv_has ls 3 [(0, .ref o), (1, .int a1)] := hl
  unfold fX9_readAll at hyp
  refine lv_aload_n hx hb dX9_readAll_0 rfl (lv_at hl 0 rfl) ?_
  refine lv_iconst (v := 0) hx hb dX9_readAll_1 (by decide) ?_
  refine pf_X9_175 hx hb hts hown hE hP hD hS 0 rfl rfl dX9_readAll_2 (fun H locs hP hD hS => ?_)
  have hP : va_P g.1 vwCl [(o, .inr (9, [.int refu, .ref pn, .ref pt, .ref pr, .ref pw, .ref pb, .int nst, .ref pk, .ref pi, .ref pf, .ref pl, .ref pe, .ref pm, .int nn, .ref px, .int len, .int 0, .int gd, .int ps, .int sm])), (pn, .inl (g.2.1, 61, .inl fnow)), (pb, .inl (g.2.1, 366, .inl fbook)), (pk, .inl (g.2.1, 122, .inl fkept)), (pi, .inl (g.2.2.2.1, 2, .inl fisk)), (pf, .inl (g.2.2.1, 4096, .inr (.inl ffst))), (pl, .inl (g.2.2.1, 4096, .inr (.inl flst))), (pe, .inl (g.2.1, 4096, .inl fbef)), (pm, .inl (g.2.1, 4096, .inl fmov)), (pt, .inl (g.2.1, 61, .inl ftri)), (px, .inl (g.2.1, 60, .inl ftext))] H := hP
  have hD : va_D A [(o, .inr (9, [.int refu, .ref pn, .ref pt, .ref pr, .ref pw, .ref pb, .int nst, .ref pk, .ref pi, .ref pf, .ref pl, .ref pe, .ref pm, .int nn, .ref px, .int len, .int 0, .int gd, .int ps, .int sm])), (pn, .inl (g.2.1, 61, .inl fnow)), (pb, .inl (g.2.1, 366, .inl fbook)), (pk, .inl (g.2.1, 122, .inl fkept)), (pi, .inl (g.2.2.2.1, 2, .inl fisk)), (pf, .inl (g.2.2.1, 4096, .inr (.inl ffst))), (pl, .inl (g.2.2.1, 4096, .inr (.inl flst))), (pe, .inl (g.2.1, 4096, .inl fbef)), (pm, .inl (g.2.1, 4096, .inl fmov)), (pt, .inl (g.2.1, 61, .inl ftri)), (px, .inl (g.2.1, 60, .inl ftext))] := hD
  refine lv_aload_n hx hb dX9_readAll_5 rfl (lv_at hl 0 rfl) ?_
  refine lv_iconst (v := 1) hx hb dX9_readAll_6 (by decide) ?_
  refine pf_X9_182 hx hb hts hown hE hP hD hS 0 rfl rfl (by decide) dX9_readAll_7 (fun H locs hP hD hS => ?_)
  have hP : va_P g.1 vwCl [(o, .inr (9, [.int refu, .ref pn, .ref pt, .ref pr, .ref pw, .ref pb, .int nst, .ref pk, .ref pi, .ref pf, .ref pl, .ref pe, .ref pm, .int nn, .ref px, .int len, .int 0, .int 1, .int ps, .int sm])), (pn, .inl (g.2.1, 61, .inl fnow)), (pb, .inl (g.2.1, 366, .inl fbook)), (pk, .inl (g.2.1, 122, .inl fkept)), (pi, .inl (g.2.2.2.1, 2, .inl fisk)), (pf, .inl (g.2.2.1, 4096, .inr (.inl ffst))), (pl, .inl (g.2.2.1, 4096, .inr (.inl flst))), (pe, .inl (g.2.1, 4096, .inl fbef)), (pm, .inl (g.2.1, 4096, .inl fmov)), (pt, .inl (g.2.1, 61, .inl ftri)), (px, .inl (g.2.1, 60, .inl ftext))] H := hP
  have hD : va_D A [(o, .inr (9, [.int refu, .ref pn, .ref pt, .ref pr, .ref pw, .ref pb, .int nst, .ref pk, .ref pi, .ref pf, .ref pl, .ref pe, .ref pm, .int nn, .ref px, .int len, .int 0, .int 1, .int ps, .int sm])), (pn, .inl (g.2.1, 61, .inl fnow)), (pb, .inl (g.2.1, 366, .inl fbook)), (pk, .inl (g.2.1, 122, .inl fkept)), (pi, .inl (g.2.2.2.1, 2, .inl fisk)), (pf, .inl (g.2.2.1, 4096, .inr (.inl ffst))), (pl, .inl (g.2.2.1, 4096, .inr (.inl flst))), (pe, .inl (g.2.1, 4096, .inl fbef)), (pm, .inl (g.2.1, 4096, .inl fmov)), (pt, .inl (g.2.1, 61, .inl ftri)), (px, .inl (g.2.1, 60, .inl ftext))] := hD
  refine lv_aload_n hx hb dX9_readAll_10 rfl (lv_at hl 0 rfl) ?_
  refine lv_iload_n hx hb dX9_readAll_11 rfl (lv_at hl 1 rfl) ?_
  obtain ⟨h01, hyp⟩ := grd_e hyp
  refine pf_X9_189 hx hb hts hown hE hP hD hS 0 rfl rfl (is01_e h01) dX9_readAll_12 (fun H locs hP hD hS => ?_)
  have hP : va_P g.1 vwCl [(o, .inr (9, [.int refu, .ref pn, .ref pt, .ref pr, .ref pw, .ref pb, .int nst, .ref pk, .ref pi, .ref pf, .ref pl, .ref pe, .ref pm, .int nn, .ref px, .int len, .int 0, .int 1, .int a1, .int sm])), (pn, .inl (g.2.1, 61, .inl fnow)), (pb, .inl (g.2.1, 366, .inl fbook)), (pk, .inl (g.2.1, 122, .inl fkept)), (pi, .inl (g.2.2.2.1, 2, .inl fisk)), (pf, .inl (g.2.2.1, 4096, .inr (.inl ffst))), (pl, .inl (g.2.2.1, 4096, .inr (.inl flst))), (pe, .inl (g.2.1, 4096, .inl fbef)), (pm, .inl (g.2.1, 4096, .inl fmov)), (pt, .inl (g.2.1, 61, .inl ftri)), (px, .inl (g.2.1, 60, .inl ftext))] H := hP
  have hD : va_D A [(o, .inr (9, [.int refu, .ref pn, .ref pt, .ref pr, .ref pw, .ref pb, .int nst, .ref pk, .ref pi, .ref pf, .ref pl, .ref pe, .ref pm, .int nn, .ref px, .int len, .int 0, .int 1, .int a1, .int sm])), (pn, .inl (g.2.1, 61, .inl fnow)), (pb, .inl (g.2.1, 366, .inl fbook)), (pk, .inl (g.2.1, 122, .inl fkept)), (pi, .inl (g.2.2.2.1, 2, .inl fisk)), (pf, .inl (g.2.2.1, 4096, .inr (.inl ffst))), (pl, .inl (g.2.2.1, 4096, .inr (.inl flst))), (pe, .inl (g.2.1, 4096, .inl fbef)), (pm, .inl (g.2.1, 4096, .inl fmov)), (pt, .inl (g.2.1, 61, .inl ftri)), (px, .inl (g.2.1, 60, .inl ftext))] := hD
  refine lv_aload_n hx hb dX9_readAll_15 rfl (lv_at hl 0 rfl) ?_
  refine lv_iconst (v := 0) hx hb dX9_readAll_16 (by decide) ?_
  refine pf_X9_192 hx hb hts hown hE hP hD hS 0 rfl rfl dX9_readAll_17 (fun H locs hP hD hS => ?_)
  have hP : va_P g.1 vwCl [(o, .inr (9, [.int refu, .ref pn, .ref pt, .ref pr, .ref pw, .ref pb, .int nst, .ref pk, .ref pi, .ref pf, .ref pl, .ref pe, .ref pm, .int nn, .ref px, .int len, .int 0, .int 1, .int a1, .int 0])), (pn, .inl (g.2.1, 61, .inl fnow)), (pb, .inl (g.2.1, 366, .inl fbook)), (pk, .inl (g.2.1, 122, .inl fkept)), (pi, .inl (g.2.2.2.1, 2, .inl fisk)), (pf, .inl (g.2.2.1, 4096, .inr (.inl ffst))), (pl, .inl (g.2.2.1, 4096, .inr (.inl flst))), (pe, .inl (g.2.1, 4096, .inl fbef)), (pm, .inl (g.2.1, 4096, .inl fmov)), (pt, .inl (g.2.1, 61, .inl ftri)), (px, .inl (g.2.1, 60, .inl ftext))] H := hP
  have hD : va_D A [(o, .inr (9, [.int refu, .ref pn, .ref pt, .ref pr, .ref pw, .ref pb, .int nst, .ref pk, .ref pi, .ref pf, .ref pl, .ref pe, .ref pm, .int nn, .ref px, .int len, .int 0, .int 1, .int a1, .int 0])), (pn, .inl (g.2.1, 61, .inl fnow)), (pb, .inl (g.2.1, 366, .inl fbook)), (pk, .inl (g.2.1, 122, .inl fkept)), (pi, .inl (g.2.2.2.1, 2, .inl fisk)), (pf, .inl (g.2.2.1, 4096, .inr (.inl ffst))), (pl, .inl (g.2.2.1, 4096, .inr (.inl flst))), (pe, .inl (g.2.1, 4096, .inl fbef)), (pm, .inl (g.2.1, 4096, .inl fmov)), (pt, .inl (g.2.1, 61, .inl ftri)), (px, .inl (g.2.1, 60, .inl ftext))] := hD
  refine lv_aload_n hx hb dX9_readAll_20 rfl (lv_at hl 0 rfl) ?_
  refine gf_X9_7 hx hb hts hown hE hP 0 rfl rfl dX9_readAll_21 ?_
  refine lv_aload_n hx hb dX9_readAll_24 rfl (lv_at hl 0 rfl) ?_
  refine gf_X9_13 hx hb hts hown hE hP 0 rfl rfl dX9_readAll_25 ?_
  obtain ⟨r_1, hr_1, hyp⟩ := opt_e hyp
  refine wS (As := [.ref pn, .ref pt]) (rest := []) ⟨hx, hb, hml, hown, hts⟩ hE (mX9_copy l g pn pt fnow ftri r_1 hr_1) cf_X9_copy st_X9_copy ml_X9_195 ⟨Nat.le_trans (Nat.le_of_ble_eq_true rfl) hRf, Nat.le_trans (Nat.le_of_ble_eq_true rfl) hRl⟩ hP hD hS hA [1, 9] [0, 2, 3, 4, 5, 6, 7, 8, 10] rfl (wr := [(o, .inr (9, [.int refu, .ref pn, .ref pt, .ref pr, .ref pw, .ref pb, .int nst, .ref pk, .ref pi, .ref pf, .ref pl, .ref pe, .ref pm, .int nn, .ref px, .int len, .int 0, .int 1, .int a1, .int 0])), (pb, .inl (g.2.1, 366, .inl fbook)), (pk, .inl (g.2.1, 122, .inl fkept)), (pi, .inl (g.2.2.2.1, 2, .inl fisk)), (pf, .inl (g.2.2.1, 4096, .inr (.inl ffst))), (pl, .inl (g.2.2.1, 4096, .inr (.inl flst))), (pe, .inl (g.2.1, 4096, .inl fbef)), (pm, .inl (g.2.1, 4096, .inl fmov)), (px, .inl (g.2.1, 60, .inl ftext))]) rfl ⟨by decide, by decide⟩ (by decide) rfl hl.1 rfl (Nat.le_of_ble_eq_true rfl) dX9_readAll_28 ⟨Nat.zero_le _, Nat.zero_le _⟩ (fun H locs hP hD hS => ?_)
  have hP : va_P g.1 vwCl [(o, .inr (9, [.int refu, .ref pn, .ref pt, .ref pr, .ref pw, .ref pb, .int nst, .ref pk, .ref pi, .ref pf, .ref pl, .ref pe, .ref pm, .int nn, .ref px, .int len, .int 0, .int 1, .int a1, .int 0])), (pb, .inl (g.2.1, 366, .inl fbook)), (pk, .inl (g.2.1, 122, .inl fkept)), (pi, .inl (g.2.2.2.1, 2, .inl fisk)), (pf, .inl (g.2.2.1, 4096, .inr (.inl ffst))), (pl, .inl (g.2.2.1, 4096, .inr (.inl flst))), (pe, .inl (g.2.1, 4096, .inl fbef)), (pm, .inl (g.2.1, 4096, .inl fmov)), (px, .inl (g.2.1, 60, .inl ftext)), (pn, .inl (g.2.1, 61, .inl fnow)), (pt, .inl (g.2.1, 61, .inl r_1))] H := hP
  have hD : va_D A [(o, .inr (9, [.int refu, .ref pn, .ref pt, .ref pr, .ref pw, .ref pb, .int nst, .ref pk, .ref pi, .ref pf, .ref pl, .ref pe, .ref pm, .int nn, .ref px, .int len, .int 0, .int 1, .int a1, .int 0])), (pb, .inl (g.2.1, 366, .inl fbook)), (pk, .inl (g.2.1, 122, .inl fkept)), (pi, .inl (g.2.2.2.1, 2, .inl fisk)), (pf, .inl (g.2.2.1, 4096, .inr (.inl ffst))), (pl, .inl (g.2.2.1, 4096, .inr (.inl flst))), (pe, .inl (g.2.1, 4096, .inl fbef)), (pm, .inl (g.2.1, 4096, .inl fmov)), (px, .inl (g.2.1, 60, .inl ftext)), (pn, .inl (g.2.1, 61, .inl fnow)), (pt, .inl (g.2.1, 61, .inl r_1))] := hD
  refine lv_aload_n hx hb dX9_readAll_31 rfl (lv_at hl 0 rfl) ?_
  obtain ⟨r_2, hr_2, hyp⟩ := opt_e hyp
  refine wV (As := []) (rest := []) ⟨hx, hb, hml, hown, hts⟩ hE (mX9_readPart l g o pn pb pk pi pf pl pe pm pt px pr pw refu nst nn len 0 1 a1 0 fnow fbook fkept fisk ffst flst fbef fmov r_1 ftext r_2 hr_2) cf_X9_readPart im_X9_readPart se_X9_readPart ml_X9_199 ⟨Nat.le_trans (Nat.le_of_ble_eq_true rfl) hRf, Nat.le_trans (Nat.le_of_ble_eq_true rfl) hRl⟩ hP hD hS hA [0, 9, 1, 2, 3, 4, 5, 6, 7, 10, 8] [] rfl (wr := []) rfl ⟨by decide, by decide⟩ (by decide) (ci := 9) (q0 := 0) rfl rfl rfl rfl hl.1 rfl (Nat.le_of_ble_eq_true rfl) dX9_readAll_32 ⟨Nat.zero_le _, Nat.zero_le _⟩ (fun H locs hP hD hS => ?_)
  have hP : va_P g.1 vwCl [(o, .inr (9, [.int refu, .ref pn, .ref pt, .ref pr, .ref pw, .ref pb, .int nst, .ref pk, .ref pi, .ref pf, .ref pl, .ref pe, .ref pm, .int r_2.2.2.2.2.2.2.2.1, .ref px, .int len, .int r_2.2.2.2.2.2.2.2.2.2.2.1, .int r_2.2.2.2.2.2.2.2.2.2.1, .int r_2.2.2.2.2.2.2.2.2.2.2.2.1, .int r_2.2.2.2.2.2.2.2.2.2.2.2.2])), (pn, .inl (g.2.1, 61, .inl r_2.1)), (pb, .inl (g.2.1, 366, .inl r_2.2.1)), (pk, .inl (g.2.1, 122, .inl r_2.2.2.1)), (pi, .inl (g.2.2.2.1, 2, .inl fisk)), (pf, .inl (g.2.2.1, 4096, .inr (.inl r_2.2.2.2.1))), (pl, .inl (g.2.2.1, 4096, .inr (.inl r_2.2.2.2.2.1))), (pe, .inl (g.2.1, 4096, .inl r_2.2.2.2.2.2.1)), (pm, .inl (g.2.1, 4096, .inl r_2.2.2.2.2.2.2.1)), (pt, .inl (g.2.1, 61, .inl r_2.2.2.2.2.2.2.2.2.1)), (px, .inl (g.2.1, 60, .inl ftext))] H := hP
  have hD : va_D A [(o, .inr (9, [.int refu, .ref pn, .ref pt, .ref pr, .ref pw, .ref pb, .int nst, .ref pk, .ref pi, .ref pf, .ref pl, .ref pe, .ref pm, .int r_2.2.2.2.2.2.2.2.1, .ref px, .int len, .int r_2.2.2.2.2.2.2.2.2.2.2.1, .int r_2.2.2.2.2.2.2.2.2.2.1, .int r_2.2.2.2.2.2.2.2.2.2.2.2.1, .int r_2.2.2.2.2.2.2.2.2.2.2.2.2])), (pn, .inl (g.2.1, 61, .inl r_2.1)), (pb, .inl (g.2.1, 366, .inl r_2.2.1)), (pk, .inl (g.2.1, 122, .inl r_2.2.2.1)), (pi, .inl (g.2.2.2.1, 2, .inl fisk)), (pf, .inl (g.2.2.1, 4096, .inr (.inl r_2.2.2.2.1))), (pl, .inl (g.2.2.1, 4096, .inr (.inl r_2.2.2.2.2.1))), (pe, .inl (g.2.1, 4096, .inl r_2.2.2.2.2.2.1)), (pm, .inl (g.2.1, 4096, .inl r_2.2.2.2.2.2.2.1)), (pt, .inl (g.2.1, 61, .inl r_2.2.2.2.2.2.2.2.2.1)), (px, .inl (g.2.1, 60, .inl ftext))] := hD
  refine lp_i (r := r) (fun z : (Nat → Int32) × (Nat → Int32) × (Nat → Int32) × (Nat → Int64) × (Nat → Int64) × (Nat → Int32) × (Nat → Int32) × Int32 × (Nat → Int32) × Int32 × Int32 × Int32 × Int32 => ∀ (H : Heap) (locs : List Loc) (ls : Array Slot), lv_has ls 3 [(0, .ref o)] → va_P g.1 vwCl [(o, .inr (9, [.int refu, .ref pn, .ref pt, .ref pr, .ref pw, .ref pb, .int nst, .ref pk, .ref pi, .ref pf, .ref pl, .ref pe, .ref pm, .int z.2.2.2.2.2.2.2.1, .ref px, .int len, .int z.2.2.2.2.2.2.2.2.2.2.1, .int z.2.2.2.2.2.2.2.2.2.1, .int z.2.2.2.2.2.2.2.2.2.2.2.1, .int z.2.2.2.2.2.2.2.2.2.2.2.2])), (pn, .inl (g.2.1, 61, .inl z.1)), (pb, .inl (g.2.1, 366, .inl z.2.1)), (pk, .inl (g.2.1, 122, .inl z.2.2.1)), (pi, .inl (g.2.2.2.1, 2, .inl fisk)), (pf, .inl (g.2.2.1, 4096, .inr (.inl z.2.2.2.1))), (pl, .inl (g.2.2.1, 4096, .inr (.inl z.2.2.2.2.1))), (pe, .inl (g.2.1, 4096, .inl z.2.2.2.2.2.1)), (pm, .inl (g.2.1, 4096, .inl z.2.2.2.2.2.2.1)), (pt, .inl (g.2.1, 61, .inl z.2.2.2.2.2.2.2.2.1)), (px, .inl (g.2.1, 60, .inl ftext))] H → va_D A [(o, .inr (9, [.int refu, .ref pn, .ref pt, .ref pr, .ref pw, .ref pb, .int nst, .ref pk, .ref pi, .ref pf, .ref pl, .ref pe, .ref pm, .int z.2.2.2.2.2.2.2.1, .ref px, .int len, .int z.2.2.2.2.2.2.2.2.2.2.1, .int z.2.2.2.2.2.2.2.2.2.1, .int z.2.2.2.2.2.2.2.2.2.2.2.1, .int z.2.2.2.2.2.2.2.2.2.2.2.2])), (pn, .inl (g.2.1, 61, .inl z.1)), (pb, .inl (g.2.1, 366, .inl z.2.1)), (pk, .inl (g.2.1, 122, .inl z.2.2.1)), (pi, .inl (g.2.2.2.1, 2, .inl fisk)), (pf, .inl (g.2.2.1, 4096, .inr (.inl z.2.2.2.1))), (pl, .inl (g.2.2.1, 4096, .inr (.inl z.2.2.2.2.1))), (pe, .inl (g.2.1, 4096, .inl z.2.2.2.2.2.1)), (pm, .inl (g.2.1, 4096, .inl z.2.2.2.2.2.2.1)), (pt, .inl (g.2.1, 61, .inl z.2.2.2.2.2.2.2.2.1)), (px, .inl (g.2.1, 60, .inl ftext))] → va_S A s.heap H locs → W p l e R s m args below meth c H locs 0 0 Q (F0 m 35 ls [])) ?_ 64 (r_2.1, r_2.2.1, r_2.2.2.1, r_2.2.2.2.1, r_2.2.2.2.2.1, r_2.2.2.2.2.2.1, r_2.2.2.2.2.2.2.1, r_2.2.2.2.2.2.2.2.1, r_2.2.2.2.2.2.2.2.2.1, r_2.2.2.2.2.2.2.2.2.2.1, r_2.2.2.2.2.2.2.2.2.2.2.1, r_2.2.2.2.2.2.2.2.2.2.2.2.1, r_2.2.2.2.2.2.2.2.2.2.2.2.2) hyp _ _ ls (lv_sub hl [0] rfl) hP hD hS
  intro self_16T ihself_16T z hyp H locs ls hl hP hD hS
  obtain ⟨wfnow_3, wfbook_4, wfkept_5, wffst_6, wflst_7, wfbef_8, wfmov_9, wnn_10, wftri_11, wgd_12, wpos_13, wps_14, wsm_15⟩ := z
  obtain ⟨self_16, eself_16⟩ : ∃ f9 : (Nat → Int32) → (Nat → Int32) → (Nat → Int32) → (Nat → Int64) → (Nat → Int64) → (Nat → Int32) → (Nat → Int32) → Int32 → (Nat → Int32) → Int32 → Int32 → Int32 → Int32 → Option ((Nat → Int32) × (Nat → Int32) × (Nat → Int32) × (Nat → Int64) × (Nat → Int64) × (Nat → Int32) × (Nat → Int32) × Int32 × (Nat → Int32) × Int32 × Int32 × Int32 × Int32), f9 = fun wfnow_3 wfbook_4 wfkept_5 wffst_6 wflst_7 wfbef_8 wfmov_9 wnn_10 wftri_11 wgd_12 wpos_13 wps_14 wsm_15 => self_16T (wfnow_3, wfbook_4, wfkept_5, wffst_6, wflst_7, wfbef_8, wfmov_9, wnn_10, wftri_11, wgd_12, wpos_13, wps_14, wsm_15) := ⟨_, rfl⟩
  have ihself_16 := fun (wfnow_3 : Nat → Int32) (wfbook_4 : Nat → Int32) (wfkept_5 : Nat → Int32) (wffst_6 : Nat → Int64) (wflst_7 : Nat → Int64) (wfbef_8 : Nat → Int32) (wfmov_9 : Nat → Int32) (wnn_10 : Int32) (wftri_11 : Nat → Int32) (wgd_12 : Int32) (wpos_13 : Int32) (wps_14 : Int32) (wsm_15 : Int32) (h9 : self_16 wfnow_3 wfbook_4 wfkept_5 wffst_6 wflst_7 wfbef_8 wfmov_9 wnn_10 wftri_11 wgd_12 wpos_13 wps_14 wsm_15 = some r) => ihself_16T (wfnow_3, wfbook_4, wfkept_5, wffst_6, wflst_7, wfbef_8, wfmov_9, wnn_10, wftri_11, wgd_12, wpos_13, wps_14, wsm_15) (by rw [eself_16] at h9; exact h9)
  replace hyp : fX9_readAll_L35_B nst len fisk ftext self_16 wfnow_3 wfbook_4 wfkept_5 wffst_6 wflst_7 wfbef_8 wfmov_9 wnn_10 wftri_11 wgd_12 wpos_13 wps_14 wsm_15 = some r := by rw [eself_16]; exact hyp
  have hl : lv_has ls 3 [(0, .ref o)] := hl
  have hP : va_P g.1 vwCl [(o, .inr (9, [.int refu, .ref pn, .ref pt, .ref pr, .ref pw, .ref pb, .int nst, .ref pk, .ref pi, .ref pf, .ref pl, .ref pe, .ref pm, .int wnn_10, .ref px, .int len, .int wpos_13, .int wgd_12, .int wps_14, .int wsm_15])), (pn, .inl (g.2.1, 61, .inl wfnow_3)), (pb, .inl (g.2.1, 366, .inl wfbook_4)), (pk, .inl (g.2.1, 122, .inl wfkept_5)), (pi, .inl (g.2.2.2.1, 2, .inl fisk)), (pf, .inl (g.2.2.1, 4096, .inr (.inl wffst_6))), (pl, .inl (g.2.2.1, 4096, .inr (.inl wflst_7))), (pe, .inl (g.2.1, 4096, .inl wfbef_8)), (pm, .inl (g.2.1, 4096, .inl wfmov_9)), (pt, .inl (g.2.1, 61, .inl wftri_11)), (px, .inl (g.2.1, 60, .inl ftext))] H := hP
  have hD : va_D A [(o, .inr (9, [.int refu, .ref pn, .ref pt, .ref pr, .ref pw, .ref pb, .int nst, .ref pk, .ref pi, .ref pf, .ref pl, .ref pe, .ref pm, .int wnn_10, .ref px, .int len, .int wpos_13, .int wgd_12, .int wps_14, .int wsm_15])), (pn, .inl (g.2.1, 61, .inl wfnow_3)), (pb, .inl (g.2.1, 366, .inl wfbook_4)), (pk, .inl (g.2.1, 122, .inl wfkept_5)), (pi, .inl (g.2.2.2.1, 2, .inl fisk)), (pf, .inl (g.2.2.1, 4096, .inr (.inl wffst_6))), (pl, .inl (g.2.2.1, 4096, .inr (.inl wflst_7))), (pe, .inl (g.2.1, 4096, .inl wfbef_8)), (pm, .inl (g.2.1, 4096, .inl wfmov_9)), (pt, .inl (g.2.1, 61, .inl wftri_11)), (px, .inl (g.2.1, 60, .inl ftext))] := hD
  show W p l e R s m args below meth c H locs 0 0 Q (F0 m 35 ls [])
  unfold fX9_readAll_L35_B at hyp
  refine lv_aload_n hx hb dX9_readAll_35 rfl (lv_at hl 0 rfl) ?_
  refine gf_X9_182 hx hb hts hown hE hP 0 rfl rfl dX9_readAll_36 ?_
  refine lv_if_eq (tgt := 76) hx hb dX9_readAll_39 (by decide) (fun h_17 => ?_) (fun h_17 => ?_)
  · replace hyp := ite_t h_17 hyp
    have hyp := some_e hyp
    subst hyp
    subst hQ
    exact rwV hx hb hr hlocks  hP hD hS dX9_readAll_76
  · replace hyp := ite_f h_17 hyp
    refine lv_aload_n hx hb dX9_readAll_42 rfl (lv_at hl 0 rfl) ?_
    refine gf_X9_175 hx hb hts hown hE hP 0 rfl rfl dX9_readAll_43 ?_
    refine lv_aload_n hx hb dX9_readAll_46 rfl (lv_at hl 0 rfl) ?_
    refine gf_X9_172 hx hb hts hown hE hP 0 rfl rfl dX9_readAll_47 ?_
    refine lv_icmp_ge (tgt := 76) hx hb dX9_readAll_50 (by decide) (fun h_18 => ?_) (fun h_18 => ?_)
    · replace hyp := ite_t h_18 hyp
      have hyp := some_e hyp
      subst hyp
      subst hQ
      exact rwV hx hb hr hlocks  hP hD hS dX9_readAll_76
    · replace hyp := ite_f h_18 hyp
      refine lv_aload_n hx hb dX9_readAll_53 rfl (lv_at hl 0 rfl) ?_
      refine lv_bipush (v := 59) hx hb dX9_readAll_54 (by decide) ?_
      refine lv_bipush (v := 59) hx hb dX9_readAll_56 (by decide) ?_
      obtain ⟨r_19, hr_19, hyp⟩ := opt_e hyp
      refine wV (As := [.int 59, .int 59]) (rest := []) ⟨hx, hb, hml, hown, hts⟩ hE (mX9_take l g o px pn pt pr pw pb pk pi pf pl pe pm refu nst wnn_10 len wpos_13 wgd_12 wps_14 wsm_15 ftext 59 59 r_19 hr_19) cf_X9_take im_X9_take se_X9_take ml_X9_186 ⟨Nat.le_trans (Nat.le_of_ble_eq_true rfl) hRf, Nat.le_trans (Nat.le_of_ble_eq_true rfl) hRl⟩ hP hD hS hA [0, 10] [1, 2, 3, 4, 5, 6, 7, 8, 9] rfl (wr := [(pn, .inl (g.2.1, 61, .inl wfnow_3)), (pb, .inl (g.2.1, 366, .inl wfbook_4)), (pk, .inl (g.2.1, 122, .inl wfkept_5)), (pi, .inl (g.2.2.2.1, 2, .inl fisk)), (pf, .inl (g.2.2.1, 4096, .inr (.inl wffst_6))), (pl, .inl (g.2.2.1, 4096, .inr (.inl wflst_7))), (pe, .inl (g.2.1, 4096, .inl wfbef_8)), (pm, .inl (g.2.1, 4096, .inl wfmov_9)), (pt, .inl (g.2.1, 61, .inl wftri_11))]) rfl ⟨by decide, by decide⟩ (by decide) (ci := 9) (q0 := 0) rfl rfl rfl rfl hl.1 rfl (Nat.le_of_ble_eq_true rfl) dX9_readAll_58 ⟨Nat.zero_le _, Nat.zero_le _⟩ (fun H locs hP hD hS => ?_)
      have hP : va_P g.1 vwCl [(pn, .inl (g.2.1, 61, .inl wfnow_3)), (pb, .inl (g.2.1, 366, .inl wfbook_4)), (pk, .inl (g.2.1, 122, .inl wfkept_5)), (pi, .inl (g.2.2.2.1, 2, .inl fisk)), (pf, .inl (g.2.2.1, 4096, .inr (.inl wffst_6))), (pl, .inl (g.2.2.1, 4096, .inr (.inl wflst_7))), (pe, .inl (g.2.1, 4096, .inl wfbef_8)), (pm, .inl (g.2.1, 4096, .inl wfmov_9)), (pt, .inl (g.2.1, 61, .inl wftri_11)), (o, .inr (9, [.int refu, .ref pn, .ref pt, .ref pr, .ref pw, .ref pb, .int nst, .ref pk, .ref pi, .ref pf, .ref pl, .ref pe, .ref pm, .int wnn_10, .ref px, .int len, .int r_19.2.2, .int r_19.2.1, .int wps_14, .int wsm_15])), (px, .inl (g.2.1, 60, .inl ftext))] H := hP
      have hD : va_D A [(pn, .inl (g.2.1, 61, .inl wfnow_3)), (pb, .inl (g.2.1, 366, .inl wfbook_4)), (pk, .inl (g.2.1, 122, .inl wfkept_5)), (pi, .inl (g.2.2.2.1, 2, .inl fisk)), (pf, .inl (g.2.2.1, 4096, .inr (.inl wffst_6))), (pl, .inl (g.2.2.1, 4096, .inr (.inl wflst_7))), (pe, .inl (g.2.1, 4096, .inl wfbef_8)), (pm, .inl (g.2.1, 4096, .inl wfmov_9)), (pt, .inl (g.2.1, 61, .inl wftri_11)), (o, .inr (9, [.int refu, .ref pn, .ref pt, .ref pr, .ref pw, .ref pb, .int nst, .ref pk, .ref pi, .ref pf, .ref pl, .ref pe, .ref pm, .int wnn_10, .ref px, .int len, .int r_19.2.2, .int r_19.2.1, .int wps_14, .int wsm_15])), (px, .inl (g.2.1, 60, .inl ftext))] := hD
      refine lv_istore_n (lv' := [(2, .int r_19.1), (0, .ref o)]) hx hb dX9_readAll_61 rfl hl (by decide) rfl (fun ls hl => ?_)
      refine lv_aload_n hx hb dX9_readAll_62 rfl (lv_at hl 1 rfl) ?_
      refine gf_X9_182 hx hb hts hown hE hP 9 rfl rfl dX9_readAll_63 ?_
      refine lv_if_eq (tgt := 73) hx hb dX9_readAll_66 (by decide) (fun h_20 => ?_) (fun h_20 => ?_)
      · replace hyp := ite_t h_20 hyp
        refine lv_goto (tgt := 35) hx hb dX9_readAll_73 (by decide) ?_
        have hP : va_P g.1 vwCl [(o, .inr (9, [.int refu, .ref pn, .ref pt, .ref pr, .ref pw, .ref pb, .int nst, .ref pk, .ref pi, .ref pf, .ref pl, .ref pe, .ref pm, .int wnn_10, .ref px, .int len, .int r_19.2.2, .int r_19.2.1, .int wps_14, .int wsm_15])), (pn, .inl (g.2.1, 61, .inl wfnow_3)), (pb, .inl (g.2.1, 366, .inl wfbook_4)), (pk, .inl (g.2.1, 122, .inl wfkept_5)), (pi, .inl (g.2.2.2.1, 2, .inl fisk)), (pf, .inl (g.2.2.1, 4096, .inr (.inl wffst_6))), (pl, .inl (g.2.2.1, 4096, .inr (.inl wflst_7))), (pe, .inl (g.2.1, 4096, .inl wfbef_8)), (pm, .inl (g.2.1, 4096, .inl wfmov_9)), (pt, .inl (g.2.1, 61, .inl wftri_11)), (px, .inl (g.2.1, 60, .inl ftext))] H := hP.sub [9, 0, 1, 2, 3, 4, 5, 6, 7, 8, 10] rfl
        have hD : va_D A [(o, .inr (9, [.int refu, .ref pn, .ref pt, .ref pr, .ref pw, .ref pb, .int nst, .ref pk, .ref pi, .ref pf, .ref pl, .ref pe, .ref pm, .int wnn_10, .ref px, .int len, .int r_19.2.2, .int r_19.2.1, .int wps_14, .int wsm_15])), (pn, .inl (g.2.1, 61, .inl wfnow_3)), (pb, .inl (g.2.1, 366, .inl wfbook_4)), (pk, .inl (g.2.1, 122, .inl wfkept_5)), (pi, .inl (g.2.2.2.1, 2, .inl fisk)), (pf, .inl (g.2.2.1, 4096, .inr (.inl wffst_6))), (pl, .inl (g.2.2.1, 4096, .inr (.inl wflst_7))), (pe, .inl (g.2.1, 4096, .inl wfbef_8)), (pm, .inl (g.2.1, 4096, .inl wfmov_9)), (pt, .inl (g.2.1, 61, .inl wftri_11)), (px, .inl (g.2.1, 60, .inl ftext))] := hD.sub [9, 0, 1, 2, 3, 4, 5, 6, 7, 8, 10] (by decide) rfl
        exact ihself_16 wfnow_3 wfbook_4 wfkept_5 wffst_6 wflst_7 wfbef_8 wfmov_9 wnn_10 wftri_11 r_19.2.1 r_19.2.2 wps_14 wsm_15 hyp H locs ls (lv_sub hl [1] rfl) hP hD hS
      · replace hyp := ite_f h_20 hyp
        refine lv_aload_n hx hb dX9_readAll_69 rfl (lv_at hl 1 rfl) ?_
        obtain ⟨r_21, hr_21, hyp⟩ := opt_e hyp
        refine wV (As := []) (rest := []) ⟨hx, hb, hml, hown, hts⟩ hE (mX9_readPart l g o pn pb pk pi pf pl pe pm pt px pr pw refu nst wnn_10 len r_19.2.2 r_19.2.1 wps_14 wsm_15 wfnow_3 wfbook_4 wfkept_5 fisk wffst_6 wflst_7 wfbef_8 wfmov_9 wftri_11 ftext r_21 hr_21) cf_X9_readPart im_X9_readPart se_X9_readPart ml_X9_199 ⟨Nat.le_trans (Nat.le_of_ble_eq_true rfl) hRf, Nat.le_trans (Nat.le_of_ble_eq_true rfl) hRl⟩ hP hD hS hA [9, 0, 1, 2, 3, 4, 5, 6, 7, 8, 10] [] rfl (wr := []) rfl ⟨by decide, by decide⟩ (by decide) (ci := 9) (q0 := 0) rfl rfl rfl rfl hl.1 rfl (Nat.le_of_ble_eq_true rfl) dX9_readAll_70 ⟨Nat.zero_le _, Nat.zero_le _⟩ (fun H locs hP hD hS => ?_)
        have hP : va_P g.1 vwCl [(o, .inr (9, [.int refu, .ref pn, .ref pt, .ref pr, .ref pw, .ref pb, .int nst, .ref pk, .ref pi, .ref pf, .ref pl, .ref pe, .ref pm, .int r_21.2.2.2.2.2.2.2.1, .ref px, .int len, .int r_21.2.2.2.2.2.2.2.2.2.2.1, .int r_21.2.2.2.2.2.2.2.2.2.1, .int r_21.2.2.2.2.2.2.2.2.2.2.2.1, .int r_21.2.2.2.2.2.2.2.2.2.2.2.2])), (pn, .inl (g.2.1, 61, .inl r_21.1)), (pb, .inl (g.2.1, 366, .inl r_21.2.1)), (pk, .inl (g.2.1, 122, .inl r_21.2.2.1)), (pi, .inl (g.2.2.2.1, 2, .inl fisk)), (pf, .inl (g.2.2.1, 4096, .inr (.inl r_21.2.2.2.1))), (pl, .inl (g.2.2.1, 4096, .inr (.inl r_21.2.2.2.2.1))), (pe, .inl (g.2.1, 4096, .inl r_21.2.2.2.2.2.1)), (pm, .inl (g.2.1, 4096, .inl r_21.2.2.2.2.2.2.1)), (pt, .inl (g.2.1, 61, .inl r_21.2.2.2.2.2.2.2.2.1)), (px, .inl (g.2.1, 60, .inl ftext))] H := hP
        have hD : va_D A [(o, .inr (9, [.int refu, .ref pn, .ref pt, .ref pr, .ref pw, .ref pb, .int nst, .ref pk, .ref pi, .ref pf, .ref pl, .ref pe, .ref pm, .int r_21.2.2.2.2.2.2.2.1, .ref px, .int len, .int r_21.2.2.2.2.2.2.2.2.2.2.1, .int r_21.2.2.2.2.2.2.2.2.2.1, .int r_21.2.2.2.2.2.2.2.2.2.2.2.1, .int r_21.2.2.2.2.2.2.2.2.2.2.2.2])), (pn, .inl (g.2.1, 61, .inl r_21.1)), (pb, .inl (g.2.1, 366, .inl r_21.2.1)), (pk, .inl (g.2.1, 122, .inl r_21.2.2.1)), (pi, .inl (g.2.2.2.1, 2, .inl fisk)), (pf, .inl (g.2.2.1, 4096, .inr (.inl r_21.2.2.2.1))), (pl, .inl (g.2.2.1, 4096, .inr (.inl r_21.2.2.2.2.1))), (pe, .inl (g.2.1, 4096, .inl r_21.2.2.2.2.2.1)), (pm, .inl (g.2.1, 4096, .inl r_21.2.2.2.2.2.2.1)), (pt, .inl (g.2.1, 61, .inl r_21.2.2.2.2.2.2.2.2.1)), (px, .inl (g.2.1, 60, .inl ftext))] := hD
        refine lv_goto (tgt := 35) hx hb dX9_readAll_73 (by decide) ?_
        exact ihself_16 r_21.1 r_21.2.1 r_21.2.2.1 r_21.2.2.2.1 r_21.2.2.2.2.1 r_21.2.2.2.2.2.1 r_21.2.2.2.2.2.2.1 r_21.2.2.2.2.2.2.2.1 r_21.2.2.2.2.2.2.2.2.1 r_21.2.2.2.2.2.2.2.2.2.1 r_21.2.2.2.2.2.2.2.2.2.2.1 r_21.2.2.2.2.2.2.2.2.2.2.2.1 r_21.2.2.2.2.2.2.2.2.2.2.2.2 hyp H locs ls (lv_sub hl [1] rfl) hP hD hS

def fX9_firstError (nst : Int32) (nn : Int32) (len : Int32) (fnow : Nat → Int32) (fbook : Nat → Int32) (fkept : Nat → Int32) (fisk : Nat → Int32) (ffst : Nat → Int64) (flst : Nat → Int64) (fbef : Nat → Int32) (fmov : Nat → Int32) (ftri : Nat → Int32) (ftext : Nat → Int32) : Option (Int32 × (Nat → Int32) × (Nat → Int32) × (Nat → Int32) × (Nat → Int64) × (Nat → Int64) × (Nat → Int32) × (Nat → Int32) × Int32 × (Nat → Int32) × Int32 × Int32 × Int32 × Int32 × Int32) :=
  (fX9_readAll nst nn len fnow fbook fkept fisk ffst flst fbef fmov ftri ftext 0).bind (fun (r_1 : (Nat → Int32) × (Nat → Int32) × (Nat → Int32) × (Nat → Int64) × (Nat → Int64) × (Nat → Int32) × (Nat → Int32) × Int32 × (Nat → Int32) × Int32 × Int32 × Int32 × Int32) => if r_1.2.2.2.2.2.2.2.2.2.1 = 0 then (some (r_1.2.2.2.2.2.2.2.2.2.2.1, r_1.1, r_1.2.1, r_1.2.2.1, r_1.2.2.2.1, r_1.2.2.2.2.1, r_1.2.2.2.2.2.1, r_1.2.2.2.2.2.2.1, r_1.2.2.2.2.2.2.2.1, r_1.2.2.2.2.2.2.2.2.1, r_1.2.2.2.2.2.2.2.2.2.1, r_1.2.2.2.2.2.2.2.2.2.2.1, r_1.2.2.2.2.2.2.2.2.2.2.2.1, r_1.2.2.2.2.2.2.2.2.2.2.2.2, 0)) else (some (len, r_1.1, r_1.2.1, r_1.2.2.1, r_1.2.2.2.1, r_1.2.2.2.2.1, r_1.2.2.2.2.2.1, r_1.2.2.2.2.2.2.1, r_1.2.2.2.2.2.2.2.1, r_1.2.2.2.2.2.2.2.2.1, r_1.2.2.2.2.2.2.2.2.2.1, r_1.2.2.2.2.2.2.2.2.2.2.1, r_1.2.2.2.2.2.2.2.2.2.2.2.1, r_1.2.2.2.2.2.2.2.2.2.2.2.2, 0)))
set_option maxRecDepth 100000 in
set_option maxHeartbeats 4000000 in
theorem mX9_firstError (l : Launch) (g : GE) (o pn pb pk pi pf pl pe pm pt px pr pw : Nat) (refu : Int32) (nst : Int32) (nn : Int32) (len : Int32) (pos : Int32) (gd : Int32) (ps : Int32) (sm : Int32) (fnow : Nat → Int32) (fbook : Nat → Int32) (fkept : Nat → Int32) (fisk : Nat → Int32) (ffst : Nat → Int64) (flst : Nat → Int64) (fbef : Nat → Int32) (fmov : Nat → Int32) (ftri : Nat → Int32) (ftext : Nat → Int32) (r : Int32 × (Nat → Int32) × (Nat → Int32) × (Nat → Int32) × (Nat → Int64) × (Nat → Int64) × (Nat → Int32) × (Nat → Int32) × Int32 × (Nat → Int32) × Int32 × Int32 × Int32 × Int32 × Int32) (hyp : fX9_firstError nst nn len fnow fbook fkept fisk ffst flst fbef fmov ftri ftext = some r) : WM l yX9_firstError cX9_firstError 1 (some .int) 9 209 g [(o, .inr (9, [.int refu, .ref pn, .ref pt, .ref pr, .ref pw, .ref pb, .int nst, .ref pk, .ref pi, .ref pf, .ref pl, .ref pe, .ref pm, .int nn, .ref px, .int len, .int pos, .int gd, .int ps, .int sm])), (pn, .inl (g.2.1, 61, .inl fnow)), (pb, .inl (g.2.1, 366, .inl fbook)), (pk, .inl (g.2.1, 122, .inl fkept)), (pi, .inl (g.2.2.2.1, 2, .inl fisk)), (pf, .inl (g.2.2.1, 4096, .inr (.inl ffst))), (pl, .inl (g.2.2.1, 4096, .inr (.inl flst))), (pe, .inl (g.2.1, 4096, .inl fbef)), (pm, .inl (g.2.1, 4096, .inl fmov)), (pt, .inl (g.2.1, 61, .inl ftri)), (px, .inl (g.2.1, 60, .inl ftext))] [.ref o] (some (.int r.1)) [(o, .inr (9, [.int r.2.2.2.2.2.2.2.2.2.2.2.2.2.2, .ref pn, .ref pt, .ref pr, .ref pw, .ref pb, .int nst, .ref pk, .ref pi, .ref pf, .ref pl, .ref pe, .ref pm, .int r.2.2.2.2.2.2.2.2.1, .ref px, .int len, .int r.2.2.2.2.2.2.2.2.2.2.2.1, .int r.2.2.2.2.2.2.2.2.2.2.1, .int r.2.2.2.2.2.2.2.2.2.2.2.2.1, .int r.2.2.2.2.2.2.2.2.2.2.2.2.2.1])), (pn, .inl (g.2.1, 61, .inl r.2.1)), (pb, .inl (g.2.1, 366, .inl r.2.2.1)), (pk, .inl (g.2.1, 122, .inl r.2.2.2.1)), (pi, .inl (g.2.2.2.1, 2, .inl fisk)), (pf, .inl (g.2.2.1, 4096, .inr (.inl r.2.2.2.2.1))), (pl, .inl (g.2.2.1, 4096, .inr (.inl r.2.2.2.2.2.1))), (pe, .inl (g.2.1, 4096, .inl r.2.2.2.2.2.2.1)), (pm, .inl (g.2.1, 4096, .inl r.2.2.2.2.2.2.2.1)), (pt, .inl (g.2.1, 61, .inl r.2.2.2.2.2.2.2.2.2.1)), (px, .inl (g.2.1, 60, .inl ftext))] := by
  refine metW_intro (by decide) rfl ?_
  intro p e R s m args below meth c Q A hRf hRl hQ hx hb hml hr hlocks hown hts hin hE hA H locs hP hD hS ls hl
  have hown : s.vm.findClass "HallGuardsModel" = some m.cls := hown
  have hl : lv_has ls 1 [(0, .ref o)] := hl
  unfold fX9_firstError at hyp
  refine lv_aload_n hx hb dX9_firstError_0 rfl (lv_at hl 0 rfl) ?_
  refine lv_iconst (v := 0) hx hb dX9_firstError_1 (by decide) ?_
  refine pf_X9_52 hx hb hts hown hE hP hD hS 0 rfl rfl dX9_firstError_2 (fun H locs hP hD hS => ?_)
  have hP : va_P g.1 vwCl [(o, .inr (9, [.int 0, .ref pn, .ref pt, .ref pr, .ref pw, .ref pb, .int nst, .ref pk, .ref pi, .ref pf, .ref pl, .ref pe, .ref pm, .int nn, .ref px, .int len, .int pos, .int gd, .int ps, .int sm])), (pn, .inl (g.2.1, 61, .inl fnow)), (pb, .inl (g.2.1, 366, .inl fbook)), (pk, .inl (g.2.1, 122, .inl fkept)), (pi, .inl (g.2.2.2.1, 2, .inl fisk)), (pf, .inl (g.2.2.1, 4096, .inr (.inl ffst))), (pl, .inl (g.2.2.1, 4096, .inr (.inl flst))), (pe, .inl (g.2.1, 4096, .inl fbef)), (pm, .inl (g.2.1, 4096, .inl fmov)), (pt, .inl (g.2.1, 61, .inl ftri)), (px, .inl (g.2.1, 60, .inl ftext))] H := hP
  have hD : va_D A [(o, .inr (9, [.int 0, .ref pn, .ref pt, .ref pr, .ref pw, .ref pb, .int nst, .ref pk, .ref pi, .ref pf, .ref pl, .ref pe, .ref pm, .int nn, .ref px, .int len, .int pos, .int gd, .int ps, .int sm])), (pn, .inl (g.2.1, 61, .inl fnow)), (pb, .inl (g.2.1, 366, .inl fbook)), (pk, .inl (g.2.1, 122, .inl fkept)), (pi, .inl (g.2.2.2.1, 2, .inl fisk)), (pf, .inl (g.2.2.1, 4096, .inr (.inl ffst))), (pl, .inl (g.2.2.1, 4096, .inr (.inl flst))), (pe, .inl (g.2.1, 4096, .inl fbef)), (pm, .inl (g.2.1, 4096, .inl fmov)), (pt, .inl (g.2.1, 61, .inl ftri)), (px, .inl (g.2.1, 60, .inl ftext))] := hD
  refine lv_aload_n hx hb dX9_firstError_5 rfl (lv_at hl 0 rfl) ?_
  refine lv_iconst (v := 0) hx hb dX9_firstError_6 (by decide) ?_
  obtain ⟨r_1, hr_1, hyp⟩ := opt_e hyp
  refine wV (As := [.int 0]) (rest := []) ⟨hx, hb, hml, hown, hts⟩ hE (mX9_readAll l g o pn pb pk pi pf pl pe pm pt px pr pw 0 nst nn len pos gd ps sm fnow fbook fkept fisk ffst flst fbef fmov ftri ftext 0 r_1 hr_1) cf_X9_readAll im_X9_readAll se_X9_readAll ml_X9_202 ⟨Nat.le_trans (Nat.le_of_ble_eq_true rfl) hRf, Nat.le_trans (Nat.le_of_ble_eq_true rfl) hRl⟩ hP hD hS hA [0, 1, 2, 3, 4, 5, 6, 7, 8, 9, 10] [] rfl (wr := []) rfl ⟨by decide, by decide⟩ (by decide) (ci := 9) (q0 := 0) rfl rfl rfl rfl hl.1 rfl (Nat.le_of_ble_eq_true rfl) dX9_firstError_7 ⟨Nat.zero_le _, Nat.zero_le _⟩ (fun H locs hP hD hS => ?_)
  have hP : va_P g.1 vwCl [(o, .inr (9, [.int 0, .ref pn, .ref pt, .ref pr, .ref pw, .ref pb, .int nst, .ref pk, .ref pi, .ref pf, .ref pl, .ref pe, .ref pm, .int r_1.2.2.2.2.2.2.2.1, .ref px, .int len, .int r_1.2.2.2.2.2.2.2.2.2.2.1, .int r_1.2.2.2.2.2.2.2.2.2.1, .int r_1.2.2.2.2.2.2.2.2.2.2.2.1, .int r_1.2.2.2.2.2.2.2.2.2.2.2.2])), (pn, .inl (g.2.1, 61, .inl r_1.1)), (pb, .inl (g.2.1, 366, .inl r_1.2.1)), (pk, .inl (g.2.1, 122, .inl r_1.2.2.1)), (pi, .inl (g.2.2.2.1, 2, .inl fisk)), (pf, .inl (g.2.2.1, 4096, .inr (.inl r_1.2.2.2.1))), (pl, .inl (g.2.2.1, 4096, .inr (.inl r_1.2.2.2.2.1))), (pe, .inl (g.2.1, 4096, .inl r_1.2.2.2.2.2.1)), (pm, .inl (g.2.1, 4096, .inl r_1.2.2.2.2.2.2.1)), (pt, .inl (g.2.1, 61, .inl r_1.2.2.2.2.2.2.2.2.1)), (px, .inl (g.2.1, 60, .inl ftext))] H := hP
  have hD : va_D A [(o, .inr (9, [.int 0, .ref pn, .ref pt, .ref pr, .ref pw, .ref pb, .int nst, .ref pk, .ref pi, .ref pf, .ref pl, .ref pe, .ref pm, .int r_1.2.2.2.2.2.2.2.1, .ref px, .int len, .int r_1.2.2.2.2.2.2.2.2.2.2.1, .int r_1.2.2.2.2.2.2.2.2.2.1, .int r_1.2.2.2.2.2.2.2.2.2.2.2.1, .int r_1.2.2.2.2.2.2.2.2.2.2.2.2])), (pn, .inl (g.2.1, 61, .inl r_1.1)), (pb, .inl (g.2.1, 366, .inl r_1.2.1)), (pk, .inl (g.2.1, 122, .inl r_1.2.2.1)), (pi, .inl (g.2.2.2.1, 2, .inl fisk)), (pf, .inl (g.2.2.1, 4096, .inr (.inl r_1.2.2.2.1))), (pl, .inl (g.2.2.1, 4096, .inr (.inl r_1.2.2.2.2.1))), (pe, .inl (g.2.1, 4096, .inl r_1.2.2.2.2.2.1)), (pm, .inl (g.2.1, 4096, .inl r_1.2.2.2.2.2.2.1)), (pt, .inl (g.2.1, 61, .inl r_1.2.2.2.2.2.2.2.2.1)), (px, .inl (g.2.1, 60, .inl ftext))] := hD
  refine lv_aload_n hx hb dX9_firstError_10 rfl (lv_at hl 0 rfl) ?_
  refine gf_X9_182 hx hb hts hown hE hP 0 rfl rfl dX9_firstError_11 ?_
  refine lv_if_eq (tgt := 24) hx hb dX9_firstError_14 (by decide) (fun h_2 => ?_) (fun h_2 => ?_)
  · replace hyp := ite_t h_2 hyp
    refine lv_aload_n hx hb dX9_firstError_24 rfl (lv_at hl 0 rfl) ?_
    refine gf_X9_175 hx hb hts hown hE hP 0 rfl rfl dX9_firstError_25 ?_
    have hyp := some_e hyp
    subst hyp
    subst hQ
    exact rwI hx hb hr hlocks  hP hD hS dX9_firstError_28
  · replace hyp := ite_f h_2 hyp
    refine lv_aload_n hx hb dX9_firstError_17 rfl (lv_at hl 0 rfl) ?_
    refine gf_X9_172 hx hb hts hown hE hP 0 rfl rfl dX9_firstError_18 ?_
    refine lv_goto (tgt := 28) hx hb dX9_firstError_21 (by decide) ?_
    have hyp := some_e hyp
    subst hyp
    subst hQ
    exact rwI hx hb hr hlocks  hP hD hS dX9_firstError_28

def fX9_play (nst : Int32) (nn : Int32) (len : Int32) (fnow : Nat → Int32) (fbook : Nat → Int32) (fkept : Nat → Int32) (fisk : Nat → Int32) (ffst : Nat → Int64) (flst : Nat → Int64) (fbef : Nat → Int32) (fmov : Nat → Int32) (ftri : Nat → Int32) (ftext : Nat → Int32) : Option (Int32 × (Nat → Int32) × (Nat → Int32) × (Nat → Int32) × (Nat → Int64) × (Nat → Int64) × (Nat → Int32) × (Nat → Int32) × Int32 × (Nat → Int32) × Int32 × Int32 × Int32 × Int32 × Int32 × Int32 × Int32) :=
  (fX9_readAll nst nn len fnow fbook fkept fisk ffst flst fbef fmov ftri ftext 0).bind (fun (r_1 : (Nat → Int32) × (Nat → Int32) × (Nat → Int32) × (Nat → Int64) × (Nat → Int64) × (Nat → Int32) × (Nat → Int32) × Int32 × (Nat → Int32) × Int32 × Int32 × Int32 × Int32) => jn (fun (t_2 : Int32) => (fX9_refused t_2).bind (fun (r_4 : Int32 × Int32) => if r_4.1 = 0 then ((fX9_readAll nst r_1.2.2.2.2.2.2.2.1 len r_1.1 r_1.2.1 r_1.2.2.1 fisk r_1.2.2.2.1 r_1.2.2.2.2.1 r_1.2.2.2.2.2.1 r_1.2.2.2.2.2.2.1 r_1.2.2.2.2.2.2.2.2.1 ftext 1).bind (fun (r_6 : (Nat → Int32) × (Nat → Int32) × (Nat → Int32) × (Nat → Int64) × (Nat → Int64) × (Nat → Int32) × (Nat → Int32) × Int32 × (Nat → Int32) × Int32 × Int32 × Int32 × Int32) => jn (fun (t_7 : Int32) => (fX9_refused t_7).bind (fun (r_9 : Int32 × Int32) => if r_9.1 = 0 then ((fX9_save nst r_6.1 r_6.2.1).bind (fun (r_11 : (Nat → Int32) × Int32) => (fX9_copy r_6.2.2.2.2.2.2.2.2.1 r_6.1).bind (fun (r_12 : (Nat → Int32)) => some (r_6.2.2.2.2.2.2.2.2.2.2.2.2, r_12, r_11.1, r_6.2.2.1, r_6.2.2.2.1, r_6.2.2.2.2.1, r_6.2.2.2.2.2.1, r_6.2.2.2.2.2.2.1, r_6.2.2.2.2.2.2.2.1, r_6.2.2.2.2.2.2.2.2.1, r_6.2.2.2.2.2.2.2.2.2.1, r_6.2.2.2.2.2.2.2.2.2.2.1, r_6.2.2.2.2.2.2.2.2.2.2.2.1, r_6.2.2.2.2.2.2.2.2.2.2.2.2, r_9.2, r_11.2, 0)))) else (some (0, r_6.1, r_6.2.1, r_6.2.2.1, r_6.2.2.2.1, r_6.2.2.2.2.1, r_6.2.2.2.2.2.1, r_6.2.2.2.2.2.2.1, r_6.2.2.2.2.2.2.2.1, r_6.2.2.2.2.2.2.2.2.1, r_6.2.2.2.2.2.2.2.2.2.1, r_6.2.2.2.2.2.2.2.2.2.2.1, r_6.2.2.2.2.2.2.2.2.2.2.2.1, r_6.2.2.2.2.2.2.2.2.2.2.2.2, r_9.2, nst, len)))) (fun J_8 => if r_6.2.2.2.2.2.2.2.2.2.2.2.1 = 0 then (J_8 2) else (J_8 0)))) else (some (0, r_1.1, r_1.2.1, r_1.2.2.1, r_1.2.2.2.1, r_1.2.2.2.2.1, r_1.2.2.2.2.2.1, r_1.2.2.2.2.2.2.1, r_1.2.2.2.2.2.2.2.1, r_1.2.2.2.2.2.2.2.2.1, r_1.2.2.2.2.2.2.2.2.2.1, r_1.2.2.2.2.2.2.2.2.2.2.1, r_1.2.2.2.2.2.2.2.2.2.2.2.1, r_1.2.2.2.2.2.2.2.2.2.2.2.2, r_4.2, nst, len)))) (fun J_3 => if r_1.2.2.2.2.2.2.2.2.2.1 = 0 then (J_3 1) else (J_3 0)))
set_option maxRecDepth 100000 in
set_option maxHeartbeats 4000000 in
theorem mX9_play (l : Launch) (g : GE) (o pn pb pk pi pf pl pe pm pt px pr pw : Nat) (refu : Int32) (nst : Int32) (nn : Int32) (len : Int32) (pos : Int32) (gd : Int32) (ps : Int32) (sm : Int32) (fnow : Nat → Int32) (fbook : Nat → Int32) (fkept : Nat → Int32) (fisk : Nat → Int32) (ffst : Nat → Int64) (flst : Nat → Int64) (fbef : Nat → Int32) (fmov : Nat → Int32) (ftri : Nat → Int32) (ftext : Nat → Int32) (r : Int32 × (Nat → Int32) × (Nat → Int32) × (Nat → Int32) × (Nat → Int64) × (Nat → Int64) × (Nat → Int32) × (Nat → Int32) × Int32 × (Nat → Int32) × Int32 × Int32 × Int32 × Int32 × Int32 × Int32 × Int32) (hyp : fX9_play nst nn len fnow fbook fkept fisk ffst flst fbef fmov ftri ftext = some r) : WM l yX9_play cX9_play 1 (some .int) 9 209 g [(o, .inr (9, [.int refu, .ref pn, .ref pt, .ref pr, .ref pw, .ref pb, .int nst, .ref pk, .ref pi, .ref pf, .ref pl, .ref pe, .ref pm, .int nn, .ref px, .int len, .int pos, .int gd, .int ps, .int sm])), (pn, .inl (g.2.1, 61, .inl fnow)), (pb, .inl (g.2.1, 366, .inl fbook)), (pk, .inl (g.2.1, 122, .inl fkept)), (pi, .inl (g.2.2.2.1, 2, .inl fisk)), (pf, .inl (g.2.2.1, 4096, .inr (.inl ffst))), (pl, .inl (g.2.2.1, 4096, .inr (.inl flst))), (pe, .inl (g.2.1, 4096, .inl fbef)), (pm, .inl (g.2.1, 4096, .inl fmov)), (pt, .inl (g.2.1, 61, .inl ftri)), (px, .inl (g.2.1, 60, .inl ftext))] [.ref o] (some (.int r.1)) [(o, .inr (9, [.int r.2.2.2.2.2.2.2.2.2.2.2.2.2.2.1, .ref pn, .ref pt, .ref pr, .ref pw, .ref pb, .int r.2.2.2.2.2.2.2.2.2.2.2.2.2.2.2.1, .ref pk, .ref pi, .ref pf, .ref pl, .ref pe, .ref pm, .int r.2.2.2.2.2.2.2.2.1, .ref px, .int r.2.2.2.2.2.2.2.2.2.2.2.2.2.2.2.2, .int r.2.2.2.2.2.2.2.2.2.2.2.1, .int r.2.2.2.2.2.2.2.2.2.2.1, .int r.2.2.2.2.2.2.2.2.2.2.2.2.1, .int r.2.2.2.2.2.2.2.2.2.2.2.2.2.1])), (pn, .inl (g.2.1, 61, .inl r.2.1)), (pb, .inl (g.2.1, 366, .inl r.2.2.1)), (pk, .inl (g.2.1, 122, .inl r.2.2.2.1)), (pi, .inl (g.2.2.2.1, 2, .inl fisk)), (pf, .inl (g.2.2.1, 4096, .inr (.inl r.2.2.2.2.1))), (pl, .inl (g.2.2.1, 4096, .inr (.inl r.2.2.2.2.2.1))), (pe, .inl (g.2.1, 4096, .inl r.2.2.2.2.2.2.1)), (pm, .inl (g.2.1, 4096, .inl r.2.2.2.2.2.2.2.1)), (pt, .inl (g.2.1, 61, .inl r.2.2.2.2.2.2.2.2.2.1)), (px, .inl (g.2.1, 60, .inl ftext))] := by
  refine metW_intro (by decide) rfl ?_
  intro p e R s m args below meth c Q A hRf hRl hQ hx hb hml hr hlocks hown hts hin hE hA H locs hP hD hS ls hl
  have hown : s.vm.findClass "HallGuardsModel" = some m.cls := hown
  have hl : lv_has ls 1 [(0, .ref o)] := hl
  unfold fX9_play at hyp
  refine lv_aload_n hx hb dX9_play_0 rfl (lv_at hl 0 rfl) ?_
  refine lv_iconst (v := 0) hx hb dX9_play_1 (by decide) ?_
  obtain ⟨r_1, hr_1, hyp⟩ := opt_e hyp
  refine wV (As := [.int 0]) (rest := []) ⟨hx, hb, hml, hown, hts⟩ hE (mX9_readAll l g o pn pb pk pi pf pl pe pm pt px pr pw refu nst nn len pos gd ps sm fnow fbook fkept fisk ffst flst fbef fmov ftri ftext 0 r_1 hr_1) cf_X9_readAll im_X9_readAll se_X9_readAll ml_X9_202 ⟨Nat.le_trans (Nat.le_of_ble_eq_true rfl) hRf, Nat.le_trans (Nat.le_of_ble_eq_true rfl) hRl⟩ hP hD hS hA [0, 1, 2, 3, 4, 5, 6, 7, 8, 9, 10] [] rfl (wr := []) rfl ⟨by decide, by decide⟩ (by decide) (ci := 9) (q0 := 0) rfl rfl rfl rfl hl.1 rfl (Nat.le_of_ble_eq_true rfl) dX9_play_2 ⟨Nat.zero_le _, Nat.zero_le _⟩ (fun H locs hP hD hS => ?_)
  have hP : va_P g.1 vwCl [(o, .inr (9, [.int refu, .ref pn, .ref pt, .ref pr, .ref pw, .ref pb, .int nst, .ref pk, .ref pi, .ref pf, .ref pl, .ref pe, .ref pm, .int r_1.2.2.2.2.2.2.2.1, .ref px, .int len, .int r_1.2.2.2.2.2.2.2.2.2.2.1, .int r_1.2.2.2.2.2.2.2.2.2.1, .int r_1.2.2.2.2.2.2.2.2.2.2.2.1, .int r_1.2.2.2.2.2.2.2.2.2.2.2.2])), (pn, .inl (g.2.1, 61, .inl r_1.1)), (pb, .inl (g.2.1, 366, .inl r_1.2.1)), (pk, .inl (g.2.1, 122, .inl r_1.2.2.1)), (pi, .inl (g.2.2.2.1, 2, .inl fisk)), (pf, .inl (g.2.2.1, 4096, .inr (.inl r_1.2.2.2.1))), (pl, .inl (g.2.2.1, 4096, .inr (.inl r_1.2.2.2.2.1))), (pe, .inl (g.2.1, 4096, .inl r_1.2.2.2.2.2.1)), (pm, .inl (g.2.1, 4096, .inl r_1.2.2.2.2.2.2.1)), (pt, .inl (g.2.1, 61, .inl r_1.2.2.2.2.2.2.2.2.1)), (px, .inl (g.2.1, 60, .inl ftext))] H := hP
  have hD : va_D A [(o, .inr (9, [.int refu, .ref pn, .ref pt, .ref pr, .ref pw, .ref pb, .int nst, .ref pk, .ref pi, .ref pf, .ref pl, .ref pe, .ref pm, .int r_1.2.2.2.2.2.2.2.1, .ref px, .int len, .int r_1.2.2.2.2.2.2.2.2.2.2.1, .int r_1.2.2.2.2.2.2.2.2.2.1, .int r_1.2.2.2.2.2.2.2.2.2.2.2.1, .int r_1.2.2.2.2.2.2.2.2.2.2.2.2])), (pn, .inl (g.2.1, 61, .inl r_1.1)), (pb, .inl (g.2.1, 366, .inl r_1.2.1)), (pk, .inl (g.2.1, 122, .inl r_1.2.2.1)), (pi, .inl (g.2.2.2.1, 2, .inl fisk)), (pf, .inl (g.2.2.1, 4096, .inr (.inl r_1.2.2.2.1))), (pl, .inl (g.2.2.1, 4096, .inr (.inl r_1.2.2.2.2.1))), (pe, .inl (g.2.1, 4096, .inl r_1.2.2.2.2.2.1)), (pm, .inl (g.2.1, 4096, .inl r_1.2.2.2.2.2.2.1)), (pt, .inl (g.2.1, 61, .inl r_1.2.2.2.2.2.2.2.2.1)), (px, .inl (g.2.1, 60, .inl ftext))] := hD
  refine lv_aload_n hx hb dX9_play_5 rfl (lv_at hl 0 rfl) ?_
  refine lv_aload_n hx hb dX9_play_6 rfl (lv_at hl 0 rfl) ?_
  refine gf_X9_182 hx hb hts hown hE hP 0 rfl rfl dX9_play_7 ?_
  obtain ⟨J_3, eJ_3, hyp⟩ := jn_e hyp
  have kJ_3 : ∀ (t_2 : Int32) (H : Heap) (locs : List Loc) (ls : Array Slot), J_3 t_2 = some r → lv_has ls 1 [(0, .ref o)] → va_P g.1 vwCl [(o, .inr (9, [.int refu, .ref pn, .ref pt, .ref pr, .ref pw, .ref pb, .int nst, .ref pk, .ref pi, .ref pf, .ref pl, .ref pe, .ref pm, .int r_1.2.2.2.2.2.2.2.1, .ref px, .int len, .int r_1.2.2.2.2.2.2.2.2.2.2.1, .int r_1.2.2.2.2.2.2.2.2.2.1, .int r_1.2.2.2.2.2.2.2.2.2.2.2.1, .int r_1.2.2.2.2.2.2.2.2.2.2.2.2])), (pn, .inl (g.2.1, 61, .inl r_1.1)), (pb, .inl (g.2.1, 366, .inl r_1.2.1)), (pk, .inl (g.2.1, 122, .inl r_1.2.2.1)), (pi, .inl (g.2.2.2.1, 2, .inl fisk)), (pf, .inl (g.2.2.1, 4096, .inr (.inl r_1.2.2.2.1))), (pl, .inl (g.2.2.1, 4096, .inr (.inl r_1.2.2.2.2.1))), (pe, .inl (g.2.1, 4096, .inl r_1.2.2.2.2.2.1)), (pm, .inl (g.2.1, 4096, .inl r_1.2.2.2.2.2.2.1)), (pt, .inl (g.2.1, 61, .inl r_1.2.2.2.2.2.2.2.2.1)), (px, .inl (g.2.1, 60, .inl ftext))] H → va_D A [(o, .inr (9, [.int refu, .ref pn, .ref pt, .ref pr, .ref pw, .ref pb, .int nst, .ref pk, .ref pi, .ref pf, .ref pl, .ref pe, .ref pm, .int r_1.2.2.2.2.2.2.2.1, .ref px, .int len, .int r_1.2.2.2.2.2.2.2.2.2.2.1, .int r_1.2.2.2.2.2.2.2.2.2.1, .int r_1.2.2.2.2.2.2.2.2.2.2.2.1, .int r_1.2.2.2.2.2.2.2.2.2.2.2.2])), (pn, .inl (g.2.1, 61, .inl r_1.1)), (pb, .inl (g.2.1, 366, .inl r_1.2.1)), (pk, .inl (g.2.1, 122, .inl r_1.2.2.1)), (pi, .inl (g.2.2.2.1, 2, .inl fisk)), (pf, .inl (g.2.2.1, 4096, .inr (.inl r_1.2.2.2.1))), (pl, .inl (g.2.2.1, 4096, .inr (.inl r_1.2.2.2.2.1))), (pe, .inl (g.2.1, 4096, .inl r_1.2.2.2.2.2.1)), (pm, .inl (g.2.1, 4096, .inl r_1.2.2.2.2.2.2.1)), (pt, .inl (g.2.1, 61, .inl r_1.2.2.2.2.2.2.2.2.1)), (px, .inl (g.2.1, 60, .inl ftext))] → va_S A s.heap H locs → W p l e R s m args below meth c H locs 0 0 Q (F0 m 18 ls [.int t_2, .ref o]) := by
    intro t_2 H locs  ls hyp hl hP hD hS
    replace hyp := (congrFun (eJ_3) t_2).symm.trans hyp
    obtain ⟨r_4, hr_4, hyp⟩ := opt_e hyp
    refine wV (As := [.int t_2]) (rest := []) ⟨hx, hb, hml, hown, hts⟩ hE (mX9_refused l g o pn pt pr pw pb pk pi pf pl pe pm px refu nst r_1.2.2.2.2.2.2.2.1 len r_1.2.2.2.2.2.2.2.2.2.2.1 r_1.2.2.2.2.2.2.2.2.2.1 r_1.2.2.2.2.2.2.2.2.2.2.2.1 r_1.2.2.2.2.2.2.2.2.2.2.2.2 t_2 r_4 hr_4) cf_X9_refused im_X9_refused se_X9_refused ml_X9_153 ⟨Nat.le_trans (Nat.le_of_ble_eq_true rfl) hRf, Nat.le_trans (Nat.le_of_ble_eq_true rfl) hRl⟩ hP hD hS hA [0] [1, 2, 3, 4, 5, 6, 7, 8, 9, 10] rfl (wr := [(pn, .inl (g.2.1, 61, .inl r_1.1)), (pb, .inl (g.2.1, 366, .inl r_1.2.1)), (pk, .inl (g.2.1, 122, .inl r_1.2.2.1)), (pi, .inl (g.2.2.2.1, 2, .inl fisk)), (pf, .inl (g.2.2.1, 4096, .inr (.inl r_1.2.2.2.1))), (pl, .inl (g.2.2.1, 4096, .inr (.inl r_1.2.2.2.2.1))), (pe, .inl (g.2.1, 4096, .inl r_1.2.2.2.2.2.1)), (pm, .inl (g.2.1, 4096, .inl r_1.2.2.2.2.2.2.1)), (pt, .inl (g.2.1, 61, .inl r_1.2.2.2.2.2.2.2.2.1)), (px, .inl (g.2.1, 60, .inl ftext))]) rfl ⟨by decide, by decide⟩ (by decide) (ci := 9) (q0 := 0) rfl rfl rfl rfl hl.1 rfl (Nat.le_of_ble_eq_true rfl) dX9_play_18 ⟨Nat.zero_le _, Nat.zero_le _⟩ (fun H locs hP hD hS => ?_)
    have hP : va_P g.1 vwCl [(pn, .inl (g.2.1, 61, .inl r_1.1)), (pb, .inl (g.2.1, 366, .inl r_1.2.1)), (pk, .inl (g.2.1, 122, .inl r_1.2.2.1)), (pi, .inl (g.2.2.2.1, 2, .inl fisk)), (pf, .inl (g.2.2.1, 4096, .inr (.inl r_1.2.2.2.1))), (pl, .inl (g.2.2.1, 4096, .inr (.inl r_1.2.2.2.2.1))), (pe, .inl (g.2.1, 4096, .inl r_1.2.2.2.2.2.1)), (pm, .inl (g.2.1, 4096, .inl r_1.2.2.2.2.2.2.1)), (pt, .inl (g.2.1, 61, .inl r_1.2.2.2.2.2.2.2.2.1)), (px, .inl (g.2.1, 60, .inl ftext)), (o, .inr (9, [.int r_4.2, .ref pn, .ref pt, .ref pr, .ref pw, .ref pb, .int nst, .ref pk, .ref pi, .ref pf, .ref pl, .ref pe, .ref pm, .int r_1.2.2.2.2.2.2.2.1, .ref px, .int len, .int r_1.2.2.2.2.2.2.2.2.2.2.1, .int r_1.2.2.2.2.2.2.2.2.2.1, .int r_1.2.2.2.2.2.2.2.2.2.2.2.1, .int r_1.2.2.2.2.2.2.2.2.2.2.2.2]))] H := hP
    have hD : va_D A [(pn, .inl (g.2.1, 61, .inl r_1.1)), (pb, .inl (g.2.1, 366, .inl r_1.2.1)), (pk, .inl (g.2.1, 122, .inl r_1.2.2.1)), (pi, .inl (g.2.2.2.1, 2, .inl fisk)), (pf, .inl (g.2.2.1, 4096, .inr (.inl r_1.2.2.2.1))), (pl, .inl (g.2.2.1, 4096, .inr (.inl r_1.2.2.2.2.1))), (pe, .inl (g.2.1, 4096, .inl r_1.2.2.2.2.2.1)), (pm, .inl (g.2.1, 4096, .inl r_1.2.2.2.2.2.2.1)), (pt, .inl (g.2.1, 61, .inl r_1.2.2.2.2.2.2.2.2.1)), (px, .inl (g.2.1, 60, .inl ftext)), (o, .inr (9, [.int r_4.2, .ref pn, .ref pt, .ref pr, .ref pw, .ref pb, .int nst, .ref pk, .ref pi, .ref pf, .ref pl, .ref pe, .ref pm, .int r_1.2.2.2.2.2.2.2.1, .ref px, .int len, .int r_1.2.2.2.2.2.2.2.2.2.2.1, .int r_1.2.2.2.2.2.2.2.2.2.1, .int r_1.2.2.2.2.2.2.2.2.2.2.2.1, .int r_1.2.2.2.2.2.2.2.2.2.2.2.2]))] := hD
    refine lv_if_eq (tgt := 26) hx hb dX9_play_21 (by decide) (fun h_5 => ?_) (fun h_5 => ?_)
    · replace hyp := ite_t h_5 hyp
      refine lv_aload_n hx hb dX9_play_26 rfl (lv_at hl 0 rfl) ?_
      refine lv_iconst (v := 1) hx hb dX9_play_27 (by decide) ?_
      obtain ⟨r_6, hr_6, hyp⟩ := opt_e hyp
      refine wV (As := [.int 1]) (rest := []) ⟨hx, hb, hml, hown, hts⟩ hE (mX9_readAll l g o pn pb pk pi pf pl pe pm pt px pr pw r_4.2 nst r_1.2.2.2.2.2.2.2.1 len r_1.2.2.2.2.2.2.2.2.2.2.1 r_1.2.2.2.2.2.2.2.2.2.1 r_1.2.2.2.2.2.2.2.2.2.2.2.1 r_1.2.2.2.2.2.2.2.2.2.2.2.2 r_1.1 r_1.2.1 r_1.2.2.1 fisk r_1.2.2.2.1 r_1.2.2.2.2.1 r_1.2.2.2.2.2.1 r_1.2.2.2.2.2.2.1 r_1.2.2.2.2.2.2.2.2.1 ftext 1 r_6 hr_6) cf_X9_readAll im_X9_readAll se_X9_readAll ml_X9_202 ⟨Nat.le_trans (Nat.le_of_ble_eq_true rfl) hRf, Nat.le_trans (Nat.le_of_ble_eq_true rfl) hRl⟩ hP hD hS hA [10, 0, 1, 2, 3, 4, 5, 6, 7, 8, 9] [] rfl (wr := []) rfl ⟨by decide, by decide⟩ (by decide) (ci := 9) (q0 := 0) rfl rfl rfl rfl hl.1 rfl (Nat.le_of_ble_eq_true rfl) dX9_play_28 ⟨Nat.zero_le _, Nat.zero_le _⟩ (fun H locs hP hD hS => ?_)
      have hP : va_P g.1 vwCl [(o, .inr (9, [.int r_4.2, .ref pn, .ref pt, .ref pr, .ref pw, .ref pb, .int nst, .ref pk, .ref pi, .ref pf, .ref pl, .ref pe, .ref pm, .int r_6.2.2.2.2.2.2.2.1, .ref px, .int len, .int r_6.2.2.2.2.2.2.2.2.2.2.1, .int r_6.2.2.2.2.2.2.2.2.2.1, .int r_6.2.2.2.2.2.2.2.2.2.2.2.1, .int r_6.2.2.2.2.2.2.2.2.2.2.2.2])), (pn, .inl (g.2.1, 61, .inl r_6.1)), (pb, .inl (g.2.1, 366, .inl r_6.2.1)), (pk, .inl (g.2.1, 122, .inl r_6.2.2.1)), (pi, .inl (g.2.2.2.1, 2, .inl fisk)), (pf, .inl (g.2.2.1, 4096, .inr (.inl r_6.2.2.2.1))), (pl, .inl (g.2.2.1, 4096, .inr (.inl r_6.2.2.2.2.1))), (pe, .inl (g.2.1, 4096, .inl r_6.2.2.2.2.2.1)), (pm, .inl (g.2.1, 4096, .inl r_6.2.2.2.2.2.2.1)), (pt, .inl (g.2.1, 61, .inl r_6.2.2.2.2.2.2.2.2.1)), (px, .inl (g.2.1, 60, .inl ftext))] H := hP
      have hD : va_D A [(o, .inr (9, [.int r_4.2, .ref pn, .ref pt, .ref pr, .ref pw, .ref pb, .int nst, .ref pk, .ref pi, .ref pf, .ref pl, .ref pe, .ref pm, .int r_6.2.2.2.2.2.2.2.1, .ref px, .int len, .int r_6.2.2.2.2.2.2.2.2.2.2.1, .int r_6.2.2.2.2.2.2.2.2.2.1, .int r_6.2.2.2.2.2.2.2.2.2.2.2.1, .int r_6.2.2.2.2.2.2.2.2.2.2.2.2])), (pn, .inl (g.2.1, 61, .inl r_6.1)), (pb, .inl (g.2.1, 366, .inl r_6.2.1)), (pk, .inl (g.2.1, 122, .inl r_6.2.2.1)), (pi, .inl (g.2.2.2.1, 2, .inl fisk)), (pf, .inl (g.2.2.1, 4096, .inr (.inl r_6.2.2.2.1))), (pl, .inl (g.2.2.1, 4096, .inr (.inl r_6.2.2.2.2.1))), (pe, .inl (g.2.1, 4096, .inl r_6.2.2.2.2.2.1)), (pm, .inl (g.2.1, 4096, .inl r_6.2.2.2.2.2.2.1)), (pt, .inl (g.2.1, 61, .inl r_6.2.2.2.2.2.2.2.2.1)), (px, .inl (g.2.1, 60, .inl ftext))] := hD
      refine lv_aload_n hx hb dX9_play_31 rfl (lv_at hl 0 rfl) ?_
      refine lv_aload_n hx hb dX9_play_32 rfl (lv_at hl 0 rfl) ?_
      refine gf_X9_189 hx hb hts hown hE hP 0 rfl rfl dX9_play_33 ?_
      obtain ⟨J_8, eJ_8, hyp⟩ := jn_e hyp
      have kJ_8 : ∀ (t_7 : Int32) (H : Heap) (locs : List Loc) (ls : Array Slot), J_8 t_7 = some r → lv_has ls 1 [(0, .ref o)] → va_P g.1 vwCl [(o, .inr (9, [.int r_4.2, .ref pn, .ref pt, .ref pr, .ref pw, .ref pb, .int nst, .ref pk, .ref pi, .ref pf, .ref pl, .ref pe, .ref pm, .int r_6.2.2.2.2.2.2.2.1, .ref px, .int len, .int r_6.2.2.2.2.2.2.2.2.2.2.1, .int r_6.2.2.2.2.2.2.2.2.2.1, .int r_6.2.2.2.2.2.2.2.2.2.2.2.1, .int r_6.2.2.2.2.2.2.2.2.2.2.2.2])), (pn, .inl (g.2.1, 61, .inl r_6.1)), (pb, .inl (g.2.1, 366, .inl r_6.2.1)), (pk, .inl (g.2.1, 122, .inl r_6.2.2.1)), (pi, .inl (g.2.2.2.1, 2, .inl fisk)), (pf, .inl (g.2.2.1, 4096, .inr (.inl r_6.2.2.2.1))), (pl, .inl (g.2.2.1, 4096, .inr (.inl r_6.2.2.2.2.1))), (pe, .inl (g.2.1, 4096, .inl r_6.2.2.2.2.2.1)), (pm, .inl (g.2.1, 4096, .inl r_6.2.2.2.2.2.2.1)), (pt, .inl (g.2.1, 61, .inl r_6.2.2.2.2.2.2.2.2.1)), (px, .inl (g.2.1, 60, .inl ftext))] H → va_D A [(o, .inr (9, [.int r_4.2, .ref pn, .ref pt, .ref pr, .ref pw, .ref pb, .int nst, .ref pk, .ref pi, .ref pf, .ref pl, .ref pe, .ref pm, .int r_6.2.2.2.2.2.2.2.1, .ref px, .int len, .int r_6.2.2.2.2.2.2.2.2.2.2.1, .int r_6.2.2.2.2.2.2.2.2.2.1, .int r_6.2.2.2.2.2.2.2.2.2.2.2.1, .int r_6.2.2.2.2.2.2.2.2.2.2.2.2])), (pn, .inl (g.2.1, 61, .inl r_6.1)), (pb, .inl (g.2.1, 366, .inl r_6.2.1)), (pk, .inl (g.2.1, 122, .inl r_6.2.2.1)), (pi, .inl (g.2.2.2.1, 2, .inl fisk)), (pf, .inl (g.2.2.1, 4096, .inr (.inl r_6.2.2.2.1))), (pl, .inl (g.2.2.1, 4096, .inr (.inl r_6.2.2.2.2.1))), (pe, .inl (g.2.1, 4096, .inl r_6.2.2.2.2.2.1)), (pm, .inl (g.2.1, 4096, .inl r_6.2.2.2.2.2.2.1)), (pt, .inl (g.2.1, 61, .inl r_6.2.2.2.2.2.2.2.2.1)), (px, .inl (g.2.1, 60, .inl ftext))] → va_S A s.heap H locs → W p l e R s m args below meth c H locs 0 0 Q (F0 m 44 ls [.int t_7, .ref o]) := by
        intro t_7 H locs  ls hyp hl hP hD hS
        replace hyp := (congrFun (eJ_8) t_7).symm.trans hyp
        obtain ⟨r_9, hr_9, hyp⟩ := opt_e hyp
        refine wV (As := [.int t_7]) (rest := []) ⟨hx, hb, hml, hown, hts⟩ hE (mX9_refused l g o pn pt pr pw pb pk pi pf pl pe pm px r_4.2 nst r_6.2.2.2.2.2.2.2.1 len r_6.2.2.2.2.2.2.2.2.2.2.1 r_6.2.2.2.2.2.2.2.2.2.1 r_6.2.2.2.2.2.2.2.2.2.2.2.1 r_6.2.2.2.2.2.2.2.2.2.2.2.2 t_7 r_9 hr_9) cf_X9_refused im_X9_refused se_X9_refused ml_X9_153 ⟨Nat.le_trans (Nat.le_of_ble_eq_true rfl) hRf, Nat.le_trans (Nat.le_of_ble_eq_true rfl) hRl⟩ hP hD hS hA [0] [1, 2, 3, 4, 5, 6, 7, 8, 9, 10] rfl (wr := [(pn, .inl (g.2.1, 61, .inl r_6.1)), (pb, .inl (g.2.1, 366, .inl r_6.2.1)), (pk, .inl (g.2.1, 122, .inl r_6.2.2.1)), (pi, .inl (g.2.2.2.1, 2, .inl fisk)), (pf, .inl (g.2.2.1, 4096, .inr (.inl r_6.2.2.2.1))), (pl, .inl (g.2.2.1, 4096, .inr (.inl r_6.2.2.2.2.1))), (pe, .inl (g.2.1, 4096, .inl r_6.2.2.2.2.2.1)), (pm, .inl (g.2.1, 4096, .inl r_6.2.2.2.2.2.2.1)), (pt, .inl (g.2.1, 61, .inl r_6.2.2.2.2.2.2.2.2.1)), (px, .inl (g.2.1, 60, .inl ftext))]) rfl ⟨by decide, by decide⟩ (by decide) (ci := 9) (q0 := 0) rfl rfl rfl rfl hl.1 rfl (Nat.le_of_ble_eq_true rfl) dX9_play_44 ⟨Nat.zero_le _, Nat.zero_le _⟩ (fun H locs hP hD hS => ?_)
        have hP : va_P g.1 vwCl [(pn, .inl (g.2.1, 61, .inl r_6.1)), (pb, .inl (g.2.1, 366, .inl r_6.2.1)), (pk, .inl (g.2.1, 122, .inl r_6.2.2.1)), (pi, .inl (g.2.2.2.1, 2, .inl fisk)), (pf, .inl (g.2.2.1, 4096, .inr (.inl r_6.2.2.2.1))), (pl, .inl (g.2.2.1, 4096, .inr (.inl r_6.2.2.2.2.1))), (pe, .inl (g.2.1, 4096, .inl r_6.2.2.2.2.2.1)), (pm, .inl (g.2.1, 4096, .inl r_6.2.2.2.2.2.2.1)), (pt, .inl (g.2.1, 61, .inl r_6.2.2.2.2.2.2.2.2.1)), (px, .inl (g.2.1, 60, .inl ftext)), (o, .inr (9, [.int r_9.2, .ref pn, .ref pt, .ref pr, .ref pw, .ref pb, .int nst, .ref pk, .ref pi, .ref pf, .ref pl, .ref pe, .ref pm, .int r_6.2.2.2.2.2.2.2.1, .ref px, .int len, .int r_6.2.2.2.2.2.2.2.2.2.2.1, .int r_6.2.2.2.2.2.2.2.2.2.1, .int r_6.2.2.2.2.2.2.2.2.2.2.2.1, .int r_6.2.2.2.2.2.2.2.2.2.2.2.2]))] H := hP
        have hD : va_D A [(pn, .inl (g.2.1, 61, .inl r_6.1)), (pb, .inl (g.2.1, 366, .inl r_6.2.1)), (pk, .inl (g.2.1, 122, .inl r_6.2.2.1)), (pi, .inl (g.2.2.2.1, 2, .inl fisk)), (pf, .inl (g.2.2.1, 4096, .inr (.inl r_6.2.2.2.1))), (pl, .inl (g.2.2.1, 4096, .inr (.inl r_6.2.2.2.2.1))), (pe, .inl (g.2.1, 4096, .inl r_6.2.2.2.2.2.1)), (pm, .inl (g.2.1, 4096, .inl r_6.2.2.2.2.2.2.1)), (pt, .inl (g.2.1, 61, .inl r_6.2.2.2.2.2.2.2.2.1)), (px, .inl (g.2.1, 60, .inl ftext)), (o, .inr (9, [.int r_9.2, .ref pn, .ref pt, .ref pr, .ref pw, .ref pb, .int nst, .ref pk, .ref pi, .ref pf, .ref pl, .ref pe, .ref pm, .int r_6.2.2.2.2.2.2.2.1, .ref px, .int len, .int r_6.2.2.2.2.2.2.2.2.2.2.1, .int r_6.2.2.2.2.2.2.2.2.2.1, .int r_6.2.2.2.2.2.2.2.2.2.2.2.1, .int r_6.2.2.2.2.2.2.2.2.2.2.2.2]))] := hD
        refine lv_if_eq (tgt := 52) hx hb dX9_play_47 (by decide) (fun h_10 => ?_) (fun h_10 => ?_)
        · replace hyp := ite_t h_10 hyp
          refine lv_aload_n hx hb dX9_play_52 rfl (lv_at hl 0 rfl) ?_
          obtain ⟨r_11, hr_11, hyp⟩ := opt_e hyp
          refine wV (As := []) (rest := []) ⟨hx, hb, hml, hown, hts⟩ hE (mX9_save l g o pn pb pt pr pw pk pi pf pl pe pm px r_9.2 nst r_6.2.2.2.2.2.2.2.1 len r_6.2.2.2.2.2.2.2.2.2.2.1 r_6.2.2.2.2.2.2.2.2.2.1 r_6.2.2.2.2.2.2.2.2.2.2.2.1 r_6.2.2.2.2.2.2.2.2.2.2.2.2 r_6.1 r_6.2.1 r_11 hr_11) cf_X9_save im_X9_save se_X9_save ml_X9_145 ⟨Nat.le_trans (Nat.le_of_ble_eq_true rfl) hRf, Nat.le_trans (Nat.le_of_ble_eq_true rfl) hRl⟩ hP hD hS hA [10, 0, 1] [2, 3, 4, 5, 6, 7, 8, 9] rfl (wr := [(pk, .inl (g.2.1, 122, .inl r_6.2.2.1)), (pi, .inl (g.2.2.2.1, 2, .inl fisk)), (pf, .inl (g.2.2.1, 4096, .inr (.inl r_6.2.2.2.1))), (pl, .inl (g.2.2.1, 4096, .inr (.inl r_6.2.2.2.2.1))), (pe, .inl (g.2.1, 4096, .inl r_6.2.2.2.2.2.1)), (pm, .inl (g.2.1, 4096, .inl r_6.2.2.2.2.2.2.1)), (pt, .inl (g.2.1, 61, .inl r_6.2.2.2.2.2.2.2.2.1)), (px, .inl (g.2.1, 60, .inl ftext))]) rfl ⟨by decide, by decide⟩ (by decide) (ci := 9) (q0 := 0) rfl rfl rfl rfl hl.1 rfl (Nat.le_of_ble_eq_true rfl) dX9_play_53 ⟨Nat.zero_le _, Nat.zero_le _⟩ (fun H locs hP hD hS => ?_)
          have hP : va_P g.1 vwCl [(pk, .inl (g.2.1, 122, .inl r_6.2.2.1)), (pi, .inl (g.2.2.2.1, 2, .inl fisk)), (pf, .inl (g.2.2.1, 4096, .inr (.inl r_6.2.2.2.1))), (pl, .inl (g.2.2.1, 4096, .inr (.inl r_6.2.2.2.2.1))), (pe, .inl (g.2.1, 4096, .inl r_6.2.2.2.2.2.1)), (pm, .inl (g.2.1, 4096, .inl r_6.2.2.2.2.2.2.1)), (pt, .inl (g.2.1, 61, .inl r_6.2.2.2.2.2.2.2.2.1)), (px, .inl (g.2.1, 60, .inl ftext)), (o, .inr (9, [.int r_9.2, .ref pn, .ref pt, .ref pr, .ref pw, .ref pb, .int r_11.2, .ref pk, .ref pi, .ref pf, .ref pl, .ref pe, .ref pm, .int r_6.2.2.2.2.2.2.2.1, .ref px, .int len, .int r_6.2.2.2.2.2.2.2.2.2.2.1, .int r_6.2.2.2.2.2.2.2.2.2.1, .int r_6.2.2.2.2.2.2.2.2.2.2.2.1, .int r_6.2.2.2.2.2.2.2.2.2.2.2.2])), (pn, .inl (g.2.1, 61, .inl r_6.1)), (pb, .inl (g.2.1, 366, .inl r_11.1))] H := hP
          have hD : va_D A [(pk, .inl (g.2.1, 122, .inl r_6.2.2.1)), (pi, .inl (g.2.2.2.1, 2, .inl fisk)), (pf, .inl (g.2.2.1, 4096, .inr (.inl r_6.2.2.2.1))), (pl, .inl (g.2.2.1, 4096, .inr (.inl r_6.2.2.2.2.1))), (pe, .inl (g.2.1, 4096, .inl r_6.2.2.2.2.2.1)), (pm, .inl (g.2.1, 4096, .inl r_6.2.2.2.2.2.2.1)), (pt, .inl (g.2.1, 61, .inl r_6.2.2.2.2.2.2.2.2.1)), (px, .inl (g.2.1, 60, .inl ftext)), (o, .inr (9, [.int r_9.2, .ref pn, .ref pt, .ref pr, .ref pw, .ref pb, .int r_11.2, .ref pk, .ref pi, .ref pf, .ref pl, .ref pe, .ref pm, .int r_6.2.2.2.2.2.2.2.1, .ref px, .int len, .int r_6.2.2.2.2.2.2.2.2.2.2.1, .int r_6.2.2.2.2.2.2.2.2.2.1, .int r_6.2.2.2.2.2.2.2.2.2.2.2.1, .int r_6.2.2.2.2.2.2.2.2.2.2.2.2])), (pn, .inl (g.2.1, 61, .inl r_6.1)), (pb, .inl (g.2.1, 366, .inl r_11.1))] := hD
          refine lv_aload_n hx hb dX9_play_56 rfl (lv_at hl 0 rfl) ?_
          refine gf_X9_13 hx hb hts hown hE hP 8 rfl rfl dX9_play_57 ?_
          refine lv_aload_n hx hb dX9_play_60 rfl (lv_at hl 0 rfl) ?_
          refine gf_X9_7 hx hb hts hown hE hP 8 rfl rfl dX9_play_61 ?_
          obtain ⟨r_12, hr_12, hyp⟩ := opt_e hyp
          refine wS (As := [.ref pt, .ref pn]) (rest := []) ⟨hx, hb, hml, hown, hts⟩ hE (mX9_copy l g pt pn r_6.2.2.2.2.2.2.2.2.1 r_6.1 r_12 hr_12) cf_X9_copy st_X9_copy ml_X9_195 ⟨Nat.le_trans (Nat.le_of_ble_eq_true rfl) hRf, Nat.le_trans (Nat.le_of_ble_eq_true rfl) hRl⟩ hP hD hS hA [6, 9] [0, 1, 2, 3, 4, 5, 7, 8, 10] rfl (wr := [(pk, .inl (g.2.1, 122, .inl r_6.2.2.1)), (pi, .inl (g.2.2.2.1, 2, .inl fisk)), (pf, .inl (g.2.2.1, 4096, .inr (.inl r_6.2.2.2.1))), (pl, .inl (g.2.2.1, 4096, .inr (.inl r_6.2.2.2.2.1))), (pe, .inl (g.2.1, 4096, .inl r_6.2.2.2.2.2.1)), (pm, .inl (g.2.1, 4096, .inl r_6.2.2.2.2.2.2.1)), (px, .inl (g.2.1, 60, .inl ftext)), (o, .inr (9, [.int r_9.2, .ref pn, .ref pt, .ref pr, .ref pw, .ref pb, .int r_11.2, .ref pk, .ref pi, .ref pf, .ref pl, .ref pe, .ref pm, .int r_6.2.2.2.2.2.2.2.1, .ref px, .int len, .int r_6.2.2.2.2.2.2.2.2.2.2.1, .int r_6.2.2.2.2.2.2.2.2.2.1, .int r_6.2.2.2.2.2.2.2.2.2.2.2.1, .int r_6.2.2.2.2.2.2.2.2.2.2.2.2])), (pb, .inl (g.2.1, 366, .inl r_11.1))]) rfl ⟨by decide, by decide⟩ (by decide) rfl hl.1 rfl (Nat.le_of_ble_eq_true rfl) dX9_play_64 ⟨Nat.zero_le _, Nat.zero_le _⟩ (fun H locs hP hD hS => ?_)
          have hP : va_P g.1 vwCl [(pk, .inl (g.2.1, 122, .inl r_6.2.2.1)), (pi, .inl (g.2.2.2.1, 2, .inl fisk)), (pf, .inl (g.2.2.1, 4096, .inr (.inl r_6.2.2.2.1))), (pl, .inl (g.2.2.1, 4096, .inr (.inl r_6.2.2.2.2.1))), (pe, .inl (g.2.1, 4096, .inl r_6.2.2.2.2.2.1)), (pm, .inl (g.2.1, 4096, .inl r_6.2.2.2.2.2.2.1)), (px, .inl (g.2.1, 60, .inl ftext)), (o, .inr (9, [.int r_9.2, .ref pn, .ref pt, .ref pr, .ref pw, .ref pb, .int r_11.2, .ref pk, .ref pi, .ref pf, .ref pl, .ref pe, .ref pm, .int r_6.2.2.2.2.2.2.2.1, .ref px, .int len, .int r_6.2.2.2.2.2.2.2.2.2.2.1, .int r_6.2.2.2.2.2.2.2.2.2.1, .int r_6.2.2.2.2.2.2.2.2.2.2.2.1, .int r_6.2.2.2.2.2.2.2.2.2.2.2.2])), (pb, .inl (g.2.1, 366, .inl r_11.1)), (pt, .inl (g.2.1, 61, .inl r_6.2.2.2.2.2.2.2.2.1)), (pn, .inl (g.2.1, 61, .inl r_12))] H := hP
          have hD : va_D A [(pk, .inl (g.2.1, 122, .inl r_6.2.2.1)), (pi, .inl (g.2.2.2.1, 2, .inl fisk)), (pf, .inl (g.2.2.1, 4096, .inr (.inl r_6.2.2.2.1))), (pl, .inl (g.2.2.1, 4096, .inr (.inl r_6.2.2.2.2.1))), (pe, .inl (g.2.1, 4096, .inl r_6.2.2.2.2.2.1)), (pm, .inl (g.2.1, 4096, .inl r_6.2.2.2.2.2.2.1)), (px, .inl (g.2.1, 60, .inl ftext)), (o, .inr (9, [.int r_9.2, .ref pn, .ref pt, .ref pr, .ref pw, .ref pb, .int r_11.2, .ref pk, .ref pi, .ref pf, .ref pl, .ref pe, .ref pm, .int r_6.2.2.2.2.2.2.2.1, .ref px, .int len, .int r_6.2.2.2.2.2.2.2.2.2.2.1, .int r_6.2.2.2.2.2.2.2.2.2.1, .int r_6.2.2.2.2.2.2.2.2.2.2.2.1, .int r_6.2.2.2.2.2.2.2.2.2.2.2.2])), (pb, .inl (g.2.1, 366, .inl r_11.1)), (pt, .inl (g.2.1, 61, .inl r_6.2.2.2.2.2.2.2.2.1)), (pn, .inl (g.2.1, 61, .inl r_12))] := hD
          refine lv_aload_n hx hb dX9_play_67 rfl (lv_at hl 0 rfl) ?_
          refine lv_iconst (v := 0) hx hb dX9_play_68 (by decide) ?_
          refine pf_X9_172 hx hb hts hown hE hP hD hS 7 rfl rfl dX9_play_69 (fun H locs hP hD hS => ?_)
          have hP : va_P g.1 vwCl [(pk, .inl (g.2.1, 122, .inl r_6.2.2.1)), (pi, .inl (g.2.2.2.1, 2, .inl fisk)), (pf, .inl (g.2.2.1, 4096, .inr (.inl r_6.2.2.2.1))), (pl, .inl (g.2.2.1, 4096, .inr (.inl r_6.2.2.2.2.1))), (pe, .inl (g.2.1, 4096, .inl r_6.2.2.2.2.2.1)), (pm, .inl (g.2.1, 4096, .inl r_6.2.2.2.2.2.2.1)), (px, .inl (g.2.1, 60, .inl ftext)), (o, .inr (9, [.int r_9.2, .ref pn, .ref pt, .ref pr, .ref pw, .ref pb, .int r_11.2, .ref pk, .ref pi, .ref pf, .ref pl, .ref pe, .ref pm, .int r_6.2.2.2.2.2.2.2.1, .ref px, .int 0, .int r_6.2.2.2.2.2.2.2.2.2.2.1, .int r_6.2.2.2.2.2.2.2.2.2.1, .int r_6.2.2.2.2.2.2.2.2.2.2.2.1, .int r_6.2.2.2.2.2.2.2.2.2.2.2.2])), (pb, .inl (g.2.1, 366, .inl r_11.1)), (pt, .inl (g.2.1, 61, .inl r_6.2.2.2.2.2.2.2.2.1)), (pn, .inl (g.2.1, 61, .inl r_12))] H := hP
          have hD : va_D A [(pk, .inl (g.2.1, 122, .inl r_6.2.2.1)), (pi, .inl (g.2.2.2.1, 2, .inl fisk)), (pf, .inl (g.2.2.1, 4096, .inr (.inl r_6.2.2.2.1))), (pl, .inl (g.2.2.1, 4096, .inr (.inl r_6.2.2.2.2.1))), (pe, .inl (g.2.1, 4096, .inl r_6.2.2.2.2.2.1)), (pm, .inl (g.2.1, 4096, .inl r_6.2.2.2.2.2.2.1)), (px, .inl (g.2.1, 60, .inl ftext)), (o, .inr (9, [.int r_9.2, .ref pn, .ref pt, .ref pr, .ref pw, .ref pb, .int r_11.2, .ref pk, .ref pi, .ref pf, .ref pl, .ref pe, .ref pm, .int r_6.2.2.2.2.2.2.2.1, .ref px, .int 0, .int r_6.2.2.2.2.2.2.2.2.2.2.1, .int r_6.2.2.2.2.2.2.2.2.2.1, .int r_6.2.2.2.2.2.2.2.2.2.2.2.1, .int r_6.2.2.2.2.2.2.2.2.2.2.2.2])), (pb, .inl (g.2.1, 366, .inl r_11.1)), (pt, .inl (g.2.1, 61, .inl r_6.2.2.2.2.2.2.2.2.1)), (pn, .inl (g.2.1, 61, .inl r_12))] := hD
          refine lv_aload_n hx hb dX9_play_72 rfl (lv_at hl 0 rfl) ?_
          refine gf_X9_192 hx hb hts hown hE hP 7 rfl rfl dX9_play_73 ?_
          have hP : va_P g.1 vwCl [(o, .inr (9, [.int r_9.2, .ref pn, .ref pt, .ref pr, .ref pw, .ref pb, .int r_11.2, .ref pk, .ref pi, .ref pf, .ref pl, .ref pe, .ref pm, .int r_6.2.2.2.2.2.2.2.1, .ref px, .int 0, .int r_6.2.2.2.2.2.2.2.2.2.2.1, .int r_6.2.2.2.2.2.2.2.2.2.1, .int r_6.2.2.2.2.2.2.2.2.2.2.2.1, .int r_6.2.2.2.2.2.2.2.2.2.2.2.2])), (pn, .inl (g.2.1, 61, .inl r_12)), (pb, .inl (g.2.1, 366, .inl r_11.1)), (pk, .inl (g.2.1, 122, .inl r_6.2.2.1)), (pi, .inl (g.2.2.2.1, 2, .inl fisk)), (pf, .inl (g.2.2.1, 4096, .inr (.inl r_6.2.2.2.1))), (pl, .inl (g.2.2.1, 4096, .inr (.inl r_6.2.2.2.2.1))), (pe, .inl (g.2.1, 4096, .inl r_6.2.2.2.2.2.1)), (pm, .inl (g.2.1, 4096, .inl r_6.2.2.2.2.2.2.1)), (pt, .inl (g.2.1, 61, .inl r_6.2.2.2.2.2.2.2.2.1)), (px, .inl (g.2.1, 60, .inl ftext))] H := hP.sub [7, 10, 8, 0, 1, 2, 3, 4, 5, 9, 6] rfl
          have hD : va_D A [(o, .inr (9, [.int r_9.2, .ref pn, .ref pt, .ref pr, .ref pw, .ref pb, .int r_11.2, .ref pk, .ref pi, .ref pf, .ref pl, .ref pe, .ref pm, .int r_6.2.2.2.2.2.2.2.1, .ref px, .int 0, .int r_6.2.2.2.2.2.2.2.2.2.2.1, .int r_6.2.2.2.2.2.2.2.2.2.1, .int r_6.2.2.2.2.2.2.2.2.2.2.2.1, .int r_6.2.2.2.2.2.2.2.2.2.2.2.2])), (pn, .inl (g.2.1, 61, .inl r_12)), (pb, .inl (g.2.1, 366, .inl r_11.1)), (pk, .inl (g.2.1, 122, .inl r_6.2.2.1)), (pi, .inl (g.2.2.2.1, 2, .inl fisk)), (pf, .inl (g.2.2.1, 4096, .inr (.inl r_6.2.2.2.1))), (pl, .inl (g.2.2.1, 4096, .inr (.inl r_6.2.2.2.2.1))), (pe, .inl (g.2.1, 4096, .inl r_6.2.2.2.2.2.1)), (pm, .inl (g.2.1, 4096, .inl r_6.2.2.2.2.2.2.1)), (pt, .inl (g.2.1, 61, .inl r_6.2.2.2.2.2.2.2.2.1)), (px, .inl (g.2.1, 60, .inl ftext))] := hD.sub [7, 10, 8, 0, 1, 2, 3, 4, 5, 9, 6] (by decide) rfl
          have hyp := some_e hyp
          subst hyp
          subst hQ
          exact rwI hx hb hr hlocks  hP hD hS dX9_play_76
        · replace hyp := ite_f h_10 hyp
          refine lv_iconst (v := 0) hx hb dX9_play_50 (by decide) ?_
          have hP : va_P g.1 vwCl [(o, .inr (9, [.int r_9.2, .ref pn, .ref pt, .ref pr, .ref pw, .ref pb, .int nst, .ref pk, .ref pi, .ref pf, .ref pl, .ref pe, .ref pm, .int r_6.2.2.2.2.2.2.2.1, .ref px, .int len, .int r_6.2.2.2.2.2.2.2.2.2.2.1, .int r_6.2.2.2.2.2.2.2.2.2.1, .int r_6.2.2.2.2.2.2.2.2.2.2.2.1, .int r_6.2.2.2.2.2.2.2.2.2.2.2.2])), (pn, .inl (g.2.1, 61, .inl r_6.1)), (pb, .inl (g.2.1, 366, .inl r_6.2.1)), (pk, .inl (g.2.1, 122, .inl r_6.2.2.1)), (pi, .inl (g.2.2.2.1, 2, .inl fisk)), (pf, .inl (g.2.2.1, 4096, .inr (.inl r_6.2.2.2.1))), (pl, .inl (g.2.2.1, 4096, .inr (.inl r_6.2.2.2.2.1))), (pe, .inl (g.2.1, 4096, .inl r_6.2.2.2.2.2.1)), (pm, .inl (g.2.1, 4096, .inl r_6.2.2.2.2.2.2.1)), (pt, .inl (g.2.1, 61, .inl r_6.2.2.2.2.2.2.2.2.1)), (px, .inl (g.2.1, 60, .inl ftext))] H := hP.sub [10, 0, 1, 2, 3, 4, 5, 6, 7, 8, 9] rfl
          have hD : va_D A [(o, .inr (9, [.int r_9.2, .ref pn, .ref pt, .ref pr, .ref pw, .ref pb, .int nst, .ref pk, .ref pi, .ref pf, .ref pl, .ref pe, .ref pm, .int r_6.2.2.2.2.2.2.2.1, .ref px, .int len, .int r_6.2.2.2.2.2.2.2.2.2.2.1, .int r_6.2.2.2.2.2.2.2.2.2.1, .int r_6.2.2.2.2.2.2.2.2.2.2.2.1, .int r_6.2.2.2.2.2.2.2.2.2.2.2.2])), (pn, .inl (g.2.1, 61, .inl r_6.1)), (pb, .inl (g.2.1, 366, .inl r_6.2.1)), (pk, .inl (g.2.1, 122, .inl r_6.2.2.1)), (pi, .inl (g.2.2.2.1, 2, .inl fisk)), (pf, .inl (g.2.2.1, 4096, .inr (.inl r_6.2.2.2.1))), (pl, .inl (g.2.2.1, 4096, .inr (.inl r_6.2.2.2.2.1))), (pe, .inl (g.2.1, 4096, .inl r_6.2.2.2.2.2.1)), (pm, .inl (g.2.1, 4096, .inl r_6.2.2.2.2.2.2.1)), (pt, .inl (g.2.1, 61, .inl r_6.2.2.2.2.2.2.2.2.1)), (px, .inl (g.2.1, 60, .inl ftext))] := hD.sub [10, 0, 1, 2, 3, 4, 5, 6, 7, 8, 9] (by decide) rfl
          have hyp := some_e hyp
          subst hyp
          subst hQ
          exact rwI hx hb hr hlocks  hP hD hS dX9_play_51
      refine lv_if_eq (tgt := 43) hx hb dX9_play_36 (by decide) (fun h_13 => ?_) (fun h_13 => ?_)
      · replace hyp := ite_t h_13 hyp
        refine lv_iconst (v := 2) hx hb dX9_play_43 (by decide) ?_
        exact kJ_8 2 H locs ls hyp hl hP hD hS
      · replace hyp := ite_f h_13 hyp
        refine lv_iconst (v := 0) hx hb dX9_play_39 (by decide) ?_
        refine lv_goto (tgt := 44) hx hb dX9_play_40 (by decide) ?_
        exact kJ_8 0 H locs ls hyp hl hP hD hS
    · replace hyp := ite_f h_5 hyp
      refine lv_iconst (v := 0) hx hb dX9_play_24 (by decide) ?_
      have hP : va_P g.1 vwCl [(o, .inr (9, [.int r_4.2, .ref pn, .ref pt, .ref pr, .ref pw, .ref pb, .int nst, .ref pk, .ref pi, .ref pf, .ref pl, .ref pe, .ref pm, .int r_1.2.2.2.2.2.2.2.1, .ref px, .int len, .int r_1.2.2.2.2.2.2.2.2.2.2.1, .int r_1.2.2.2.2.2.2.2.2.2.1, .int r_1.2.2.2.2.2.2.2.2.2.2.2.1, .int r_1.2.2.2.2.2.2.2.2.2.2.2.2])), (pn, .inl (g.2.1, 61, .inl r_1.1)), (pb, .inl (g.2.1, 366, .inl r_1.2.1)), (pk, .inl (g.2.1, 122, .inl r_1.2.2.1)), (pi, .inl (g.2.2.2.1, 2, .inl fisk)), (pf, .inl (g.2.2.1, 4096, .inr (.inl r_1.2.2.2.1))), (pl, .inl (g.2.2.1, 4096, .inr (.inl r_1.2.2.2.2.1))), (pe, .inl (g.2.1, 4096, .inl r_1.2.2.2.2.2.1)), (pm, .inl (g.2.1, 4096, .inl r_1.2.2.2.2.2.2.1)), (pt, .inl (g.2.1, 61, .inl r_1.2.2.2.2.2.2.2.2.1)), (px, .inl (g.2.1, 60, .inl ftext))] H := hP.sub [10, 0, 1, 2, 3, 4, 5, 6, 7, 8, 9] rfl
      have hD : va_D A [(o, .inr (9, [.int r_4.2, .ref pn, .ref pt, .ref pr, .ref pw, .ref pb, .int nst, .ref pk, .ref pi, .ref pf, .ref pl, .ref pe, .ref pm, .int r_1.2.2.2.2.2.2.2.1, .ref px, .int len, .int r_1.2.2.2.2.2.2.2.2.2.2.1, .int r_1.2.2.2.2.2.2.2.2.2.1, .int r_1.2.2.2.2.2.2.2.2.2.2.2.1, .int r_1.2.2.2.2.2.2.2.2.2.2.2.2])), (pn, .inl (g.2.1, 61, .inl r_1.1)), (pb, .inl (g.2.1, 366, .inl r_1.2.1)), (pk, .inl (g.2.1, 122, .inl r_1.2.2.1)), (pi, .inl (g.2.2.2.1, 2, .inl fisk)), (pf, .inl (g.2.2.1, 4096, .inr (.inl r_1.2.2.2.1))), (pl, .inl (g.2.2.1, 4096, .inr (.inl r_1.2.2.2.2.1))), (pe, .inl (g.2.1, 4096, .inl r_1.2.2.2.2.2.1)), (pm, .inl (g.2.1, 4096, .inl r_1.2.2.2.2.2.2.1)), (pt, .inl (g.2.1, 61, .inl r_1.2.2.2.2.2.2.2.2.1)), (px, .inl (g.2.1, 60, .inl ftext))] := hD.sub [10, 0, 1, 2, 3, 4, 5, 6, 7, 8, 9] (by decide) rfl
      have hyp := some_e hyp
      subst hyp
      subst hQ
      exact rwI hx hb hr hlocks  hP hD hS dX9_play_25
  refine lv_if_eq (tgt := 17) hx hb dX9_play_10 (by decide) (fun h_14 => ?_) (fun h_14 => ?_)
  · replace hyp := ite_t h_14 hyp
    refine lv_iconst (v := 1) hx hb dX9_play_17 (by decide) ?_
    exact kJ_3 1 H locs ls hyp hl hP hD hS
  · replace hyp := ite_f h_14 hyp
    refine lv_iconst (v := 0) hx hb dX9_play_13 (by decide) ?_
    refine lv_goto (tgt := 18) hx hb dX9_play_14 (by decide) ?_
    exact kJ_3 0 H locs ls hyp hl hP hD hS

def fX9_isSlot (a1 : Int32) : Option Int32 :=
  (fX9_in a1.toInt64 0 1).bind (fun (r_1 : Int32) => grd (is01 r_1) (some r_1))
set_option maxRecDepth 100000 in
set_option maxHeartbeats 4000000 in
theorem mX9_isSlot (l : Launch) (g : GE) (a1 : Int32) (r : Int32) (hyp : fX9_isSlot a1 = some r) : PI l yX9_isSlot cX9_isSlot 1 (some .boolean) 1 25 g [] [.int a1] r := by
  refine metP_intro (by decide) rfl ?_
  intro p e R s m args below meth c Q hRf hRl hQ hx hb hml hr hlocks hown hts hin hE hP ls hl
  have hown : s.vm.findClass "HallGuardsModel" = some m.cls := hown
  have hl : lv_has ls 1 [(0, .int a1)] := hl
  unfold fX9_isSlot at hyp
  refine lv_iload_n hx hb dX9_isSlot_0 rfl (lv_at hl 0 rfl) ?_
  refine lv_i2l hx hb dX9_isSlot_1 rfl ?_
  refine lv_lconst (v := 0) hx hb dX9_isSlot_2 (by decide) ?_
  refine lv_lconst (v := 1) hx hb dX9_isSlot_3 (by decide) ?_
  obtain ⟨r_1, hr_1, hyp⟩ := opt_e hyp
  refine pS (As := [.long a1.toInt64, .long 0, .long 1]) (rest := []) ⟨hx, hb, hml, hown, hts⟩ hE (mX9_in l g a1.toInt64 0 1 r_1 hr_1) cf_X9_in st_X9_in ml_X9_58 ⟨Nat.le_trans (Nat.le_of_ble_eq_true rfl) hRf, Nat.le_trans (Nat.le_of_ble_eq_true rfl) hRl⟩ (va_P_nil) rfl hl.1 rfl (Nat.le_of_ble_eq_true rfl) dX9_isSlot_4 ⟨Nat.zero_le _, Nat.zero_le _⟩ ?_
  obtain ⟨h01, hyp⟩ := grd_e hyp
  subst hQ
  exact rZ hx hb hr hlocks (is01_e h01) (some_e hyp) dX9_isSlot_7

def fX9_keep_L22_B (fnow : Nat → Int32) (a1 : Int32) (self_10 : Int32 → Int32 → (Nat → Int32) → (Nat → Int32) → Option (Int32 × (Nat → Int32) × (Nat → Int32))) (v2_6 : Int32) (wrefu_7 : Int32) (wfkept_8 : Nat → Int32) (wfisk_9 : Nat → Int32) : Option (Int32 × (Nat → Int32) × (Nat → Int32)) :=
  if 61 ≤ v2_6 then (grd (inB a1 2) (some (wrefu_7, wfkept_8, upd wfisk_9 a1.toNatClampNeg (vp_nar .boolean 1)))) else (grd (inB v2_6 61) (grd (inB ((61 * a1) + v2_6) 122) (self_10 (v2_6 + 1) wrefu_7 (upd wfkept_8 ((61 * a1) + v2_6).toNatClampNeg (fnow v2_6.toNatClampNeg)) wfisk_9)))
def fX9_keep_L22 (fnow : Nat → Int32) (a1 : Int32) (n : Nat) (v2_6 : Int32) (wrefu_7 : Int32) (wfkept_8 : Nat → Int32) (wfisk_9 : Nat → Int32) : Option (Int32 × (Nat → Int32) × (Nat → Int32)) := lp (fun zf z => fX9_keep_L22_B fnow a1 (fun v2_6 wrefu_7 wfkept_8 wfisk_9 => zf (v2_6, wrefu_7, wfkept_8, wfisk_9)) z.1 z.2.1 z.2.2.1 z.2.2.2) n (v2_6, wrefu_7, wfkept_8, wfisk_9)
def fX9_keep (fnow : Nat → Int32) (fkept : Nat → Int32) (fisk : Nat → Int32) (a1 : Int32) : Option (Int32 × (Nat → Int32) × (Nat → Int32)) :=
  (fX9_isSlot a1).bind (fun (r_1 : Int32) => jn (fun (t_2 : Int32) => (fX9_refused t_2).bind (fun (r_4 : Int32 × Int32) => if r_4.1 = 0 then (fX9_keep_L22 fnow a1 64 0 r_4.2 fkept fisk) else (some (r_4.2, fkept, fisk)))) (fun J_3 => if r_1 = 0 then (J_3 1) else (J_3 0)))
set_option maxRecDepth 100000 in
set_option maxHeartbeats 4000000 in
theorem mX9_keep (l : Launch) (g : GE) (o pn pk pi pt pr pw pb pf pl pe pm px : Nat) (refu : Int32) (nst : Int32) (nn : Int32) (len : Int32) (pos : Int32) (gd : Int32) (ps : Int32) (sm : Int32) (fnow : Nat → Int32) (fkept : Nat → Int32) (fisk : Nat → Int32) (a1 : Int32) (r : Int32 × (Nat → Int32) × (Nat → Int32)) (hyp : fX9_keep fnow fkept fisk a1 = some r) : WM l yX9_keep cX9_keep 3 none 2 45 g [(o, .inr (9, [.int refu, .ref pn, .ref pt, .ref pr, .ref pw, .ref pb, .int nst, .ref pk, .ref pi, .ref pf, .ref pl, .ref pe, .ref pm, .int nn, .ref px, .int len, .int pos, .int gd, .int ps, .int sm])), (pn, .inl (g.2.1, 61, .inl fnow)), (pk, .inl (g.2.1, 122, .inl fkept)), (pi, .inl (g.2.2.2.1, 2, .inl fisk))] [.ref o, .int a1] none [(o, .inr (9, [.int r.1, .ref pn, .ref pt, .ref pr, .ref pw, .ref pb, .int nst, .ref pk, .ref pi, .ref pf, .ref pl, .ref pe, .ref pm, .int nn, .ref px, .int len, .int pos, .int gd, .int ps, .int sm])), (pn, .inl (g.2.1, 61, .inl fnow)), (pk, .inl (g.2.1, 122, .inl r.2.1)), (pi, .inl (g.2.2.2.1, 2, .inl r.2.2))] := by
  refine metW_intro (by decide) rfl ?_
  intro p e R s m args below meth c Q A hRf hRl hQ hx hb hml hr hlocks hown hts hin hE hA H locs hP hD hS ls hl
  have hown : s.vm.findClass "HallGuardsModel" = some m.cls := hown
  have hl : lv_has ls 3 [(0, .ref o), (1, .int a1)] := hl
  unfold fX9_keep at hyp
  refine lv_aload_n hx hb dX9_keep_0 rfl (lv_at hl 0 rfl) ?_
  refine lv_iload_n hx hb dX9_keep_1 rfl (lv_at hl 1 rfl) ?_
  obtain ⟨r_1, hr_1, hyp⟩ := opt_e hyp
  refine pS (As := [.int a1]) (rest := [.ref o]) ⟨hx, hb, hml, hown, hts⟩ hE (mX9_isSlot l g a1 r_1 hr_1) cf_X9_isSlot st_X9_isSlot ml_X9_206 ⟨Nat.le_trans (Nat.le_of_ble_eq_true rfl) hRf, Nat.le_trans (Nat.le_of_ble_eq_true rfl) hRl⟩ (va_P_nil) rfl hl.1 rfl (Nat.le_of_ble_eq_true rfl) dX9_keep_2 ⟨Nat.zero_le _, Nat.zero_le _⟩ ?_
  obtain ⟨J_3, eJ_3, hyp⟩ := jn_e hyp
  have kJ_3 : ∀ (t_2 : Int32) (H : Heap) (locs : List Loc) (ls : Array Slot), J_3 t_2 = some r → lv_has ls 3 [(0, .ref o), (1, .int a1)] → va_P g.1 vwCl [(o, .inr (9, [.int refu, .ref pn, .ref pt, .ref pr, .ref pw, .ref pb, .int nst, .ref pk, .ref pi, .ref pf, .ref pl, .ref pe, .ref pm, .int nn, .ref px, .int len, .int pos, .int gd, .int ps, .int sm])), (pn, .inl (g.2.1, 61, .inl fnow)), (pk, .inl (g.2.1, 122, .inl fkept)), (pi, .inl (g.2.2.2.1, 2, .inl fisk))] H → va_D A [(o, .inr (9, [.int refu, .ref pn, .ref pt, .ref pr, .ref pw, .ref pb, .int nst, .ref pk, .ref pi, .ref pf, .ref pl, .ref pe, .ref pm, .int nn, .ref px, .int len, .int pos, .int gd, .int ps, .int sm])), (pn, .inl (g.2.1, 61, .inl fnow)), (pk, .inl (g.2.1, 122, .inl fkept)), (pi, .inl (g.2.2.2.1, 2, .inl fisk))] → va_S A s.heap H locs → W p l e R s m args below meth c H locs 0 0 Q (F0 m 13 ls [.int t_2, .ref o]) := by
    intro t_2 H locs  ls hyp hl hP hD hS
    replace hyp := (congrFun (eJ_3) t_2).symm.trans hyp
    obtain ⟨r_4, hr_4, hyp⟩ := opt_e hyp
    refine wV (As := [.int t_2]) (rest := []) ⟨hx, hb, hml, hown, hts⟩ hE (mX9_refused l g o pn pt pr pw pb pk pi pf pl pe pm px refu nst nn len pos gd ps sm t_2 r_4 hr_4) cf_X9_refused im_X9_refused se_X9_refused ml_X9_153 ⟨Nat.le_trans (Nat.le_of_ble_eq_true rfl) hRf, Nat.le_trans (Nat.le_of_ble_eq_true rfl) hRl⟩ hP hD hS hA [0] [1, 2, 3] rfl (wr := [(pn, .inl (g.2.1, 61, .inl fnow)), (pk, .inl (g.2.1, 122, .inl fkept)), (pi, .inl (g.2.2.2.1, 2, .inl fisk))]) rfl ⟨by decide, by decide⟩ (by decide) (ci := 9) (q0 := 0) rfl rfl rfl rfl hl.1 rfl (Nat.le_of_ble_eq_true rfl) dX9_keep_13 ⟨Nat.zero_le _, Nat.zero_le _⟩ (fun H locs hP hD hS => ?_)
    have hP : va_P g.1 vwCl [(pn, .inl (g.2.1, 61, .inl fnow)), (pk, .inl (g.2.1, 122, .inl fkept)), (pi, .inl (g.2.2.2.1, 2, .inl fisk)), (o, .inr (9, [.int r_4.2, .ref pn, .ref pt, .ref pr, .ref pw, .ref pb, .int nst, .ref pk, .ref pi, .ref pf, .ref pl, .ref pe, .ref pm, .int nn, .ref px, .int len, .int pos, .int gd, .int ps, .int sm]))] H := hP
    have hD : va_D A [(pn, .inl (g.2.1, 61, .inl fnow)), (pk, .inl (g.2.1, 122, .inl fkept)), (pi, .inl (g.2.2.2.1, 2, .inl fisk)), (o, .inr (9, [.int r_4.2, .ref pn, .ref pt, .ref pr, .ref pw, .ref pb, .int nst, .ref pk, .ref pi, .ref pf, .ref pl, .ref pe, .ref pm, .int nn, .ref px, .int len, .int pos, .int gd, .int ps, .int sm]))] := hD
    refine lv_if_eq (tgt := 20) hx hb dX9_keep_16 (by decide) (fun h_5 => ?_) (fun h_5 => ?_)
    · replace hyp := ite_t h_5 hyp
      refine lv_iconst (v := 0) hx hb dX9_keep_20 (by decide) ?_
      refine lv_istore_n (lv' := [(2, .int 0), (0, .ref o), (1, .int a1)]) hx hb dX9_keep_21 rfl hl (by decide) rfl (fun ls hl => ?_)
      have hP : va_P g.1 vwCl [(o, .inr (9, [.int r_4.2, .ref pn, .ref pt, .ref pr, .ref pw, .ref pb, .int nst, .ref pk, .ref pi, .ref pf, .ref pl, .ref pe, .ref pm, .int nn, .ref px, .int len, .int pos, .int gd, .int ps, .int sm])), (pn, .inl (g.2.1, 61, .inl fnow)), (pk, .inl (g.2.1, 122, .inl fkept)), (pi, .inl (g.2.2.2.1, 2, .inl fisk))] H := hP.sub [3, 0, 1, 2] rfl
      have hD : va_D A [(o, .inr (9, [.int r_4.2, .ref pn, .ref pt, .ref pr, .ref pw, .ref pb, .int nst, .ref pk, .ref pi, .ref pf, .ref pl, .ref pe, .ref pm, .int nn, .ref px, .int len, .int pos, .int gd, .int ps, .int sm])), (pn, .inl (g.2.1, 61, .inl fnow)), (pk, .inl (g.2.1, 122, .inl fkept)), (pi, .inl (g.2.2.2.1, 2, .inl fisk))] := hD.sub [3, 0, 1, 2] (by decide) rfl
      refine lp_i (r := r) (fun z : Int32 × Int32 × (Nat → Int32) × (Nat → Int32) => ∀ (H : Heap) (locs : List Loc) (ls : Array Slot), lv_has ls 3 [(0, .ref o), (1, .int a1), (2, .int z.1)] → va_P g.1 vwCl [(o, .inr (9, [.int z.2.1, .ref pn, .ref pt, .ref pr, .ref pw, .ref pb, .int nst, .ref pk, .ref pi, .ref pf, .ref pl, .ref pe, .ref pm, .int nn, .ref px, .int len, .int pos, .int gd, .int ps, .int sm])), (pn, .inl (g.2.1, 61, .inl fnow)), (pk, .inl (g.2.1, 122, .inl z.2.2.1)), (pi, .inl (g.2.2.2.1, 2, .inl z.2.2.2))] H → va_D A [(o, .inr (9, [.int z.2.1, .ref pn, .ref pt, .ref pr, .ref pw, .ref pb, .int nst, .ref pk, .ref pi, .ref pf, .ref pl, .ref pe, .ref pm, .int nn, .ref px, .int len, .int pos, .int gd, .int ps, .int sm])), (pn, .inl (g.2.1, 61, .inl fnow)), (pk, .inl (g.2.1, 122, .inl z.2.2.1)), (pi, .inl (g.2.2.2.1, 2, .inl z.2.2.2))] → va_S A s.heap H locs → W p l e R s m args below meth c H locs 0 0 Q (F0 m 22 ls [])) ?_ 64 (0, r_4.2, fkept, fisk) hyp _ _ ls (lv_sub hl [1, 2, 0] rfl) hP hD hS
      intro self_10T ihself_10T z hyp H locs ls hl hP hD hS
      obtain ⟨v2_6, wrefu_7, wfkept_8, wfisk_9⟩ := z
      obtain ⟨self_10, eself_10⟩ : ∃ f9 : Int32 → Int32 → (Nat → Int32) → (Nat → Int32) → Option (Int32 × (Nat → Int32) × (Nat → Int32)), f9 = fun v2_6 wrefu_7 wfkept_8 wfisk_9 => self_10T (v2_6, wrefu_7, wfkept_8, wfisk_9) := ⟨_, rfl⟩
      have ihself_10 := fun (v2_6 : Int32) (wrefu_7 : Int32) (wfkept_8 : Nat → Int32) (wfisk_9 : Nat → Int32) (h9 : self_10 v2_6 wrefu_7 wfkept_8 wfisk_9 = some r) => ihself_10T (v2_6, wrefu_7, wfkept_8, wfisk_9) (by rw [eself_10] at h9; exact h9)
      replace hyp : fX9_keep_L22_B fnow a1 self_10 v2_6 wrefu_7 wfkept_8 wfisk_9 = some r := by rw [eself_10]; exact hyp
      have hl : lv_has ls 3 [(0, .ref o), (1, .int a1), (2, .int v2_6)] := hl
      have hP : va_P g.1 vwCl [(o, .inr (9, [.int wrefu_7, .ref pn, .ref pt, .ref pr, .ref pw, .ref pb, .int nst, .ref pk, .ref pi, .ref pf, .ref pl, .ref pe, .ref pm, .int nn, .ref px, .int len, .int pos, .int gd, .int ps, .int sm])), (pn, .inl (g.2.1, 61, .inl fnow)), (pk, .inl (g.2.1, 122, .inl wfkept_8)), (pi, .inl (g.2.2.2.1, 2, .inl wfisk_9))] H := hP
      have hD : va_D A [(o, .inr (9, [.int wrefu_7, .ref pn, .ref pt, .ref pr, .ref pw, .ref pb, .int nst, .ref pk, .ref pi, .ref pf, .ref pl, .ref pe, .ref pm, .int nn, .ref px, .int len, .int pos, .int gd, .int ps, .int sm])), (pn, .inl (g.2.1, 61, .inl fnow)), (pk, .inl (g.2.1, 122, .inl wfkept_8)), (pi, .inl (g.2.2.2.1, 2, .inl wfisk_9))] := hD
      show W p l e R s m args below meth c H locs 0 0 Q (F0 m 22 ls [])
      unfold fX9_keep_L22_B at hyp
      refine lv_iload_n hx hb dX9_keep_22 rfl (lv_at hl 2 rfl) ?_
      refine lv_bipush (v := 61) hx hb dX9_keep_23 (by decide) ?_
      refine lv_icmp_ge (tgt := 51) hx hb dX9_keep_25 (by decide) (fun h_11 => ?_) (fun h_11 => ?_)
      · replace hyp := ite_t h_11 hyp
        refine lv_aload_n hx hb dX9_keep_51 rfl (lv_at hl 0 rfl) ?_
        refine gf_X9_28 hx hb hts hown hE hP 0 rfl rfl dX9_keep_52 ?_
        refine lv_iload_n hx hb dX9_keep_55 rfl (lv_at hl 1 rfl) ?_
        refine lv_iconst (v := 1) hx hb dX9_keep_56 (by decide) ?_
        obtain ⟨hi, hyp⟩ := grd_e hyp
        refine va_zast hx hb hE.1 hP hD hS 3 2 rfl rfl (inB_vp hi) dX9_keep_57 (fun H locs hP hD hS => ?_)
        have hP : va_P g.1 vwCl [(o, .inr (9, [.int wrefu_7, .ref pn, .ref pt, .ref pr, .ref pw, .ref pb, .int nst, .ref pk, .ref pi, .ref pf, .ref pl, .ref pe, .ref pm, .int nn, .ref px, .int len, .int pos, .int gd, .int ps, .int sm])), (pn, .inl (g.2.1, 61, .inl fnow)), (pk, .inl (g.2.1, 122, .inl wfkept_8)), (pi, .inl (g.2.2.2.1, 2, .inl (upd wfisk_9 a1.toNatClampNeg (vp_nar .boolean 1))))] H := hP
        have hD : va_D A [(o, .inr (9, [.int wrefu_7, .ref pn, .ref pt, .ref pr, .ref pw, .ref pb, .int nst, .ref pk, .ref pi, .ref pf, .ref pl, .ref pe, .ref pm, .int nn, .ref px, .int len, .int pos, .int gd, .int ps, .int sm])), (pn, .inl (g.2.1, 61, .inl fnow)), (pk, .inl (g.2.1, 122, .inl wfkept_8)), (pi, .inl (g.2.2.2.1, 2, .inl (upd wfisk_9 a1.toNatClampNeg (vp_nar .boolean 1))))] := hD
        have hyp := some_e hyp
        subst hyp
        subst hQ
        exact rwV hx hb hr hlocks  hP hD hS dX9_keep_58
      · replace hyp := ite_f h_11 hyp
        refine lv_aload_n hx hb dX9_keep_28 rfl (lv_at hl 0 rfl) ?_
        refine gf_X9_25 hx hb hts hown hE hP 0 rfl rfl dX9_keep_29 ?_
        refine lv_bipush (v := 61) hx hb dX9_keep_32 (by decide) ?_
        refine lv_iload_n hx hb dX9_keep_34 rfl (lv_at hl 1 rfl) ?_
        refine lv_imul hx hb dX9_keep_35 ?_
        refine lv_iload_n hx hb dX9_keep_36 rfl (lv_at hl 2 rfl) ?_
        refine lv_iadd hx hb dX9_keep_37 ?_
        refine lv_aload_n hx hb dX9_keep_38 rfl (lv_at hl 0 rfl) ?_
        refine gf_X9_7 hx hb hts hown hE hP 0 rfl rfl dX9_keep_39 ?_
        refine lv_iload_n hx hb dX9_keep_42 rfl (lv_at hl 2 rfl) ?_
        obtain ⟨hi, hyp⟩ := grd_e hyp
        refine va_iald hx hb hE.1 hP 1 0 rfl rfl (inB_vp hi) dX9_keep_43 ?_
        obtain ⟨hi, hyp⟩ := grd_e hyp
        refine va_iast hx hb hE.1 hP hD hS 2 0 rfl rfl (inB_vp hi) dX9_keep_44 (fun H locs hP hD hS => ?_)
        have hP : va_P g.1 vwCl [(o, .inr (9, [.int wrefu_7, .ref pn, .ref pt, .ref pr, .ref pw, .ref pb, .int nst, .ref pk, .ref pi, .ref pf, .ref pl, .ref pe, .ref pm, .int nn, .ref px, .int len, .int pos, .int gd, .int ps, .int sm])), (pn, .inl (g.2.1, 61, .inl fnow)), (pk, .inl (g.2.1, 122, .inl (upd wfkept_8 ((61 * a1) + v2_6).toNatClampNeg (fnow v2_6.toNatClampNeg)))), (pi, .inl (g.2.2.2.1, 2, .inl wfisk_9))] H := hP
        have hD : va_D A [(o, .inr (9, [.int wrefu_7, .ref pn, .ref pt, .ref pr, .ref pw, .ref pb, .int nst, .ref pk, .ref pi, .ref pf, .ref pl, .ref pe, .ref pm, .int nn, .ref px, .int len, .int pos, .int gd, .int ps, .int sm])), (pn, .inl (g.2.1, 61, .inl fnow)), (pk, .inl (g.2.1, 122, .inl (upd wfkept_8 ((61 * a1) + v2_6).toNatClampNeg (fnow v2_6.toNatClampNeg)))), (pi, .inl (g.2.2.2.1, 2, .inl wfisk_9))] := hD
        refine lv_iinc (v := v2_6 + 1) (lv' := [(2, .int (v2_6 + 1)), (0, .ref o), (1, .int a1)]) hx hb dX9_keep_45 hl (k := 2) rfl rfl (by decide) rfl (fun ls hl => ?_)
        refine lv_goto (tgt := 22) hx hb dX9_keep_48 (by decide) ?_
        exact ihself_10 (v2_6 + 1) wrefu_7 (upd wfkept_8 ((61 * a1) + v2_6).toNatClampNeg (fnow v2_6.toNatClampNeg)) wfisk_9 hyp H locs ls (lv_sub hl [1, 2, 0] rfl) hP hD hS
    · replace hyp := ite_f h_5 hyp
      have hP : va_P g.1 vwCl [(o, .inr (9, [.int r_4.2, .ref pn, .ref pt, .ref pr, .ref pw, .ref pb, .int nst, .ref pk, .ref pi, .ref pf, .ref pl, .ref pe, .ref pm, .int nn, .ref px, .int len, .int pos, .int gd, .int ps, .int sm])), (pn, .inl (g.2.1, 61, .inl fnow)), (pk, .inl (g.2.1, 122, .inl fkept)), (pi, .inl (g.2.2.2.1, 2, .inl fisk))] H := hP.sub [3, 0, 1, 2] rfl
      have hD : va_D A [(o, .inr (9, [.int r_4.2, .ref pn, .ref pt, .ref pr, .ref pw, .ref pb, .int nst, .ref pk, .ref pi, .ref pf, .ref pl, .ref pe, .ref pm, .int nn, .ref px, .int len, .int pos, .int gd, .int ps, .int sm])), (pn, .inl (g.2.1, 61, .inl fnow)), (pk, .inl (g.2.1, 122, .inl fkept)), (pi, .inl (g.2.2.2.1, 2, .inl fisk))] := hD.sub [3, 0, 1, 2] (by decide) rfl
      have hyp := some_e hyp
      subst hyp
      subst hQ
      exact rwV hx hb hr hlocks  hP hD hS dX9_keep_19
  refine lv_if_eq (tgt := 12) hx hb dX9_keep_5 (by decide) (fun h_12 => ?_) (fun h_12 => ?_)
  · replace hyp := ite_t h_12 hyp
    refine lv_iconst (v := 1) hx hb dX9_keep_12 (by decide) ?_
    exact kJ_3 1 H locs ls hyp hl hP hD hS
  · replace hyp := ite_f h_12 hyp
    refine lv_iconst (v := 0) hx hb dX9_keep_8 (by decide) ?_
    refine lv_goto (tgt := 13) hx hb dX9_keep_9 (by decide) ?_
    exact kJ_3 0 H locs ls hyp hl hP hD hS

def fX9_goBack_L39_B (fkept : Nat → Int32) (a1 : Int32) (self_12 : Int32 → Int32 → (Nat → Int32) → (Nat → Int32) → Int32 → Option (Int32 × (Nat → Int32) × (Nat → Int32) × Int32)) (v2_7 : Int32) (wrefu_8 : Int32) (wfnow_9 : Nat → Int32) (wfbook_10 : Nat → Int32) (wnst_11 : Int32) : Option (Int32 × (Nat → Int32) × (Nat → Int32) × Int32) :=
  if 61 ≤ v2_7 then (some (wrefu_8, wfnow_9, wfbook_10, wnst_11)) else (grd (inB ((61 * a1) + v2_7) 122) (grd (inB v2_7 61) (self_12 (v2_7 + 1) wrefu_8 (upd wfnow_9 v2_7.toNatClampNeg (fkept ((61 * a1) + v2_7).toNatClampNeg)) wfbook_10 wnst_11)))
def fX9_goBack_L39 (fkept : Nat → Int32) (a1 : Int32) (n : Nat) (v2_7 : Int32) (wrefu_8 : Int32) (wfnow_9 : Nat → Int32) (wfbook_10 : Nat → Int32) (wnst_11 : Int32) : Option (Int32 × (Nat → Int32) × (Nat → Int32) × Int32) := lp (fun zf z => fX9_goBack_L39_B fkept a1 (fun v2_7 wrefu_8 wfnow_9 wfbook_10 wnst_11 => zf (v2_7, wrefu_8, wfnow_9, wfbook_10, wnst_11)) z.1 z.2.1 z.2.2.1 z.2.2.2.1 z.2.2.2.2) n (v2_7, wrefu_8, wfnow_9, wfbook_10, wnst_11)
def fX9_goBack (nst : Int32) (fnow : Nat → Int32) (fbook : Nat → Int32) (fkept : Nat → Int32) (fisk : Nat → Int32) (a1 : Int32) : Option (Int32 × (Nat → Int32) × (Nat → Int32) × Int32) :=
  (fX9_isSlot a1).bind (fun (r_1 : Int32) => jn (fun (t_2 : Int32) => (fX9_refused t_2).bind (fun (r_4 : Int32 × Int32) => if r_4.1 = 0 then ((fX9_save nst fnow fbook).bind (fun (r_6 : (Nat → Int32) × Int32) => fX9_goBack_L39 fkept a1 64 0 r_4.2 fnow r_6.1 r_6.2)) else (some (r_4.2, fnow, fbook, nst)))) (fun J_3 => if r_1 = 0 then (J_3 1) else (grd (inB a1 2) (if (fisk a1.toNatClampNeg) = 0 then (J_3 2) else (J_3 0)))))
set_option maxRecDepth 100000 in
set_option maxHeartbeats 4000000 in
theorem mX9_goBack (l : Launch) (g : GE) (o pn pb pk pi pt pr pw pf pl pe pm px : Nat) (refu : Int32) (nst : Int32) (nn : Int32) (len : Int32) (pos : Int32) (gd : Int32) (ps : Int32) (sm : Int32) (fnow : Nat → Int32) (fbook : Nat → Int32) (fkept : Nat → Int32) (fisk : Nat → Int32) (a1 : Int32) (r : Int32 × (Nat → Int32) × (Nat → Int32) × Int32) (hyp : fX9_goBack nst fnow fbook fkept fisk a1 = some r) : WM l yX9_goBack cX9_goBack 3 none 2 45 g [(o, .inr (9, [.int refu, .ref pn, .ref pt, .ref pr, .ref pw, .ref pb, .int nst, .ref pk, .ref pi, .ref pf, .ref pl, .ref pe, .ref pm, .int nn, .ref px, .int len, .int pos, .int gd, .int ps, .int sm])), (pn, .inl (g.2.1, 61, .inl fnow)), (pb, .inl (g.2.1, 366, .inl fbook)), (pk, .inl (g.2.1, 122, .inl fkept)), (pi, .inl (g.2.2.2.1, 2, .inl fisk))] [.ref o, .int a1] none [(o, .inr (9, [.int r.1, .ref pn, .ref pt, .ref pr, .ref pw, .ref pb, .int r.2.2.2, .ref pk, .ref pi, .ref pf, .ref pl, .ref pe, .ref pm, .int nn, .ref px, .int len, .int pos, .int gd, .int ps, .int sm])), (pn, .inl (g.2.1, 61, .inl r.2.1)), (pb, .inl (g.2.1, 366, .inl r.2.2.1)), (pk, .inl (g.2.1, 122, .inl fkept)), (pi, .inl (g.2.2.2.1, 2, .inl fisk))] := by
  refine metW_intro (by decide) rfl ?_
  intro p e R s m args below meth c Q A hRf hRl hQ hx hb hml hr hlocks hown hts hin hE hA H locs hP hD hS ls hl
  have hown : s.vm.findClass "HallGuardsModel" = some m.cls := hown
  have hl : lv_has ls 3 [(0, .ref o), (1, .int a1)] := hl
  unfold fX9_goBack at hyp
  refine lv_aload_n hx hb dX9_goBack_0 rfl (lv_at hl 0 rfl) ?_
  refine lv_iload_n hx hb dX9_goBack_1 rfl (lv_at hl 1 rfl) ?_
  obtain ⟨r_1, hr_1, hyp⟩ := opt_e hyp
  refine pS (As := [.int a1]) (rest := [.ref o]) ⟨hx, hb, hml, hown, hts⟩ hE (mX9_isSlot l g a1 r_1 hr_1) cf_X9_isSlot st_X9_isSlot ml_X9_206 ⟨Nat.le_trans (Nat.le_of_ble_eq_true rfl) hRf, Nat.le_trans (Nat.le_of_ble_eq_true rfl) hRl⟩ (va_P_nil) rfl hl.1 rfl (Nat.le_of_ble_eq_true rfl) dX9_goBack_2 ⟨Nat.zero_le _, Nat.zero_le _⟩ ?_
  obtain ⟨J_3, eJ_3, hyp⟩ := jn_e hyp
  have kJ_3 : ∀ (t_2 : Int32) (H : Heap) (locs : List Loc) (ls : Array Slot), J_3 t_2 = some r → lv_has ls 3 [(0, .ref o), (1, .int a1)] → va_P g.1 vwCl [(o, .inr (9, [.int refu, .ref pn, .ref pt, .ref pr, .ref pw, .ref pb, .int nst, .ref pk, .ref pi, .ref pf, .ref pl, .ref pe, .ref pm, .int nn, .ref px, .int len, .int pos, .int gd, .int ps, .int sm])), (pn, .inl (g.2.1, 61, .inl fnow)), (pb, .inl (g.2.1, 366, .inl fbook)), (pk, .inl (g.2.1, 122, .inl fkept)), (pi, .inl (g.2.2.2.1, 2, .inl fisk))] H → va_D A [(o, .inr (9, [.int refu, .ref pn, .ref pt, .ref pr, .ref pw, .ref pb, .int nst, .ref pk, .ref pi, .ref pf, .ref pl, .ref pe, .ref pm, .int nn, .ref px, .int len, .int pos, .int gd, .int ps, .int sm])), (pn, .inl (g.2.1, 61, .inl fnow)), (pb, .inl (g.2.1, 366, .inl fbook)), (pk, .inl (g.2.1, 122, .inl fkept)), (pi, .inl (g.2.2.2.1, 2, .inl fisk))] → va_S A s.heap H locs → W p l e R s m args below meth c H locs 0 0 Q (F0 m 26 ls [.int t_2, .ref o]) := by
    intro t_2 H locs  ls hyp hl hP hD hS
    replace hyp := (congrFun (eJ_3) t_2).symm.trans hyp
    obtain ⟨r_4, hr_4, hyp⟩ := opt_e hyp
    refine wV (As := [.int t_2]) (rest := []) ⟨hx, hb, hml, hown, hts⟩ hE (mX9_refused l g o pn pt pr pw pb pk pi pf pl pe pm px refu nst nn len pos gd ps sm t_2 r_4 hr_4) cf_X9_refused im_X9_refused se_X9_refused ml_X9_153 ⟨Nat.le_trans (Nat.le_of_ble_eq_true rfl) hRf, Nat.le_trans (Nat.le_of_ble_eq_true rfl) hRl⟩ hP hD hS hA [0] [1, 2, 3, 4] rfl (wr := [(pn, .inl (g.2.1, 61, .inl fnow)), (pb, .inl (g.2.1, 366, .inl fbook)), (pk, .inl (g.2.1, 122, .inl fkept)), (pi, .inl (g.2.2.2.1, 2, .inl fisk))]) rfl ⟨by decide, by decide⟩ (by decide) (ci := 9) (q0 := 0) rfl rfl rfl rfl hl.1 rfl (Nat.le_of_ble_eq_true rfl) dX9_goBack_26 ⟨Nat.zero_le _, Nat.zero_le _⟩ (fun H locs hP hD hS => ?_)
    have hP : va_P g.1 vwCl [(pn, .inl (g.2.1, 61, .inl fnow)), (pb, .inl (g.2.1, 366, .inl fbook)), (pk, .inl (g.2.1, 122, .inl fkept)), (pi, .inl (g.2.2.2.1, 2, .inl fisk)), (o, .inr (9, [.int r_4.2, .ref pn, .ref pt, .ref pr, .ref pw, .ref pb, .int nst, .ref pk, .ref pi, .ref pf, .ref pl, .ref pe, .ref pm, .int nn, .ref px, .int len, .int pos, .int gd, .int ps, .int sm]))] H := hP
    have hD : va_D A [(pn, .inl (g.2.1, 61, .inl fnow)), (pb, .inl (g.2.1, 366, .inl fbook)), (pk, .inl (g.2.1, 122, .inl fkept)), (pi, .inl (g.2.2.2.1, 2, .inl fisk)), (o, .inr (9, [.int r_4.2, .ref pn, .ref pt, .ref pr, .ref pw, .ref pb, .int nst, .ref pk, .ref pi, .ref pf, .ref pl, .ref pe, .ref pm, .int nn, .ref px, .int len, .int pos, .int gd, .int ps, .int sm]))] := hD
    refine lv_if_eq (tgt := 33) hx hb dX9_goBack_29 (by decide) (fun h_5 => ?_) (fun h_5 => ?_)
    · replace hyp := ite_t h_5 hyp
      refine lv_aload_n hx hb dX9_goBack_33 rfl (lv_at hl 0 rfl) ?_
      obtain ⟨r_6, hr_6, hyp⟩ := opt_e hyp
      refine wV (As := []) (rest := []) ⟨hx, hb, hml, hown, hts⟩ hE (mX9_save l g o pn pb pt pr pw pk pi pf pl pe pm px r_4.2 nst nn len pos gd ps sm fnow fbook r_6 hr_6) cf_X9_save im_X9_save se_X9_save ml_X9_145 ⟨Nat.le_trans (Nat.le_of_ble_eq_true rfl) hRf, Nat.le_trans (Nat.le_of_ble_eq_true rfl) hRl⟩ hP hD hS hA [4, 0, 1] [2, 3] rfl (wr := [(pk, .inl (g.2.1, 122, .inl fkept)), (pi, .inl (g.2.2.2.1, 2, .inl fisk))]) rfl ⟨by decide, by decide⟩ (by decide) (ci := 9) (q0 := 0) rfl rfl rfl rfl hl.1 rfl (Nat.le_of_ble_eq_true rfl) dX9_goBack_34 ⟨Nat.zero_le _, Nat.zero_le _⟩ (fun H locs hP hD hS => ?_)
      have hP : va_P g.1 vwCl [(pk, .inl (g.2.1, 122, .inl fkept)), (pi, .inl (g.2.2.2.1, 2, .inl fisk)), (o, .inr (9, [.int r_4.2, .ref pn, .ref pt, .ref pr, .ref pw, .ref pb, .int r_6.2, .ref pk, .ref pi, .ref pf, .ref pl, .ref pe, .ref pm, .int nn, .ref px, .int len, .int pos, .int gd, .int ps, .int sm])), (pn, .inl (g.2.1, 61, .inl fnow)), (pb, .inl (g.2.1, 366, .inl r_6.1))] H := hP
      have hD : va_D A [(pk, .inl (g.2.1, 122, .inl fkept)), (pi, .inl (g.2.2.2.1, 2, .inl fisk)), (o, .inr (9, [.int r_4.2, .ref pn, .ref pt, .ref pr, .ref pw, .ref pb, .int r_6.2, .ref pk, .ref pi, .ref pf, .ref pl, .ref pe, .ref pm, .int nn, .ref px, .int len, .int pos, .int gd, .int ps, .int sm])), (pn, .inl (g.2.1, 61, .inl fnow)), (pb, .inl (g.2.1, 366, .inl r_6.1))] := hD
      refine lv_iconst (v := 0) hx hb dX9_goBack_37 (by decide) ?_
      refine lv_istore_n (lv' := [(2, .int 0), (0, .ref o), (1, .int a1)]) hx hb dX9_goBack_38 rfl hl (by decide) rfl (fun ls hl => ?_)
      have hP : va_P g.1 vwCl [(o, .inr (9, [.int r_4.2, .ref pn, .ref pt, .ref pr, .ref pw, .ref pb, .int r_6.2, .ref pk, .ref pi, .ref pf, .ref pl, .ref pe, .ref pm, .int nn, .ref px, .int len, .int pos, .int gd, .int ps, .int sm])), (pn, .inl (g.2.1, 61, .inl fnow)), (pb, .inl (g.2.1, 366, .inl r_6.1)), (pk, .inl (g.2.1, 122, .inl fkept)), (pi, .inl (g.2.2.2.1, 2, .inl fisk))] H := hP.sub [2, 3, 4, 0, 1] rfl
      have hD : va_D A [(o, .inr (9, [.int r_4.2, .ref pn, .ref pt, .ref pr, .ref pw, .ref pb, .int r_6.2, .ref pk, .ref pi, .ref pf, .ref pl, .ref pe, .ref pm, .int nn, .ref px, .int len, .int pos, .int gd, .int ps, .int sm])), (pn, .inl (g.2.1, 61, .inl fnow)), (pb, .inl (g.2.1, 366, .inl r_6.1)), (pk, .inl (g.2.1, 122, .inl fkept)), (pi, .inl (g.2.2.2.1, 2, .inl fisk))] := hD.sub [2, 3, 4, 0, 1] (by decide) rfl
      refine lp_i (r := r) (fun z : Int32 × Int32 × (Nat → Int32) × (Nat → Int32) × Int32 => ∀ (H : Heap) (locs : List Loc) (ls : Array Slot), lv_has ls 3 [(0, .ref o), (1, .int a1), (2, .int z.1)] → va_P g.1 vwCl [(o, .inr (9, [.int z.2.1, .ref pn, .ref pt, .ref pr, .ref pw, .ref pb, .int z.2.2.2.2, .ref pk, .ref pi, .ref pf, .ref pl, .ref pe, .ref pm, .int nn, .ref px, .int len, .int pos, .int gd, .int ps, .int sm])), (pn, .inl (g.2.1, 61, .inl z.2.2.1)), (pb, .inl (g.2.1, 366, .inl z.2.2.2.1)), (pk, .inl (g.2.1, 122, .inl fkept)), (pi, .inl (g.2.2.2.1, 2, .inl fisk))] H → va_D A [(o, .inr (9, [.int z.2.1, .ref pn, .ref pt, .ref pr, .ref pw, .ref pb, .int z.2.2.2.2, .ref pk, .ref pi, .ref pf, .ref pl, .ref pe, .ref pm, .int nn, .ref px, .int len, .int pos, .int gd, .int ps, .int sm])), (pn, .inl (g.2.1, 61, .inl z.2.2.1)), (pb, .inl (g.2.1, 366, .inl z.2.2.2.1)), (pk, .inl (g.2.1, 122, .inl fkept)), (pi, .inl (g.2.2.2.1, 2, .inl fisk))] → va_S A s.heap H locs → W p l e R s m args below meth c H locs 0 0 Q (F0 m 39 ls [])) ?_ 64 (0, r_4.2, fnow, r_6.1, r_6.2) hyp _ _ ls (lv_sub hl [1, 2, 0] rfl) hP hD hS
      intro self_12T ihself_12T z hyp H locs ls hl hP hD hS
      obtain ⟨v2_7, wrefu_8, wfnow_9, wfbook_10, wnst_11⟩ := z
      obtain ⟨self_12, eself_12⟩ : ∃ f9 : Int32 → Int32 → (Nat → Int32) → (Nat → Int32) → Int32 → Option (Int32 × (Nat → Int32) × (Nat → Int32) × Int32), f9 = fun v2_7 wrefu_8 wfnow_9 wfbook_10 wnst_11 => self_12T (v2_7, wrefu_8, wfnow_9, wfbook_10, wnst_11) := ⟨_, rfl⟩
      have ihself_12 := fun (v2_7 : Int32) (wrefu_8 : Int32) (wfnow_9 : Nat → Int32) (wfbook_10 : Nat → Int32) (wnst_11 : Int32) (h9 : self_12 v2_7 wrefu_8 wfnow_9 wfbook_10 wnst_11 = some r) => ihself_12T (v2_7, wrefu_8, wfnow_9, wfbook_10, wnst_11) (by rw [eself_12] at h9; exact h9)
      replace hyp : fX9_goBack_L39_B fkept a1 self_12 v2_7 wrefu_8 wfnow_9 wfbook_10 wnst_11 = some r := by rw [eself_12]; exact hyp
      have hl : lv_has ls 3 [(0, .ref o), (1, .int a1), (2, .int v2_7)] := hl
      have hP : va_P g.1 vwCl [(o, .inr (9, [.int wrefu_8, .ref pn, .ref pt, .ref pr, .ref pw, .ref pb, .int wnst_11, .ref pk, .ref pi, .ref pf, .ref pl, .ref pe, .ref pm, .int nn, .ref px, .int len, .int pos, .int gd, .int ps, .int sm])), (pn, .inl (g.2.1, 61, .inl wfnow_9)), (pb, .inl (g.2.1, 366, .inl wfbook_10)), (pk, .inl (g.2.1, 122, .inl fkept)), (pi, .inl (g.2.2.2.1, 2, .inl fisk))] H := hP
      have hD : va_D A [(o, .inr (9, [.int wrefu_8, .ref pn, .ref pt, .ref pr, .ref pw, .ref pb, .int wnst_11, .ref pk, .ref pi, .ref pf, .ref pl, .ref pe, .ref pm, .int nn, .ref px, .int len, .int pos, .int gd, .int ps, .int sm])), (pn, .inl (g.2.1, 61, .inl wfnow_9)), (pb, .inl (g.2.1, 366, .inl wfbook_10)), (pk, .inl (g.2.1, 122, .inl fkept)), (pi, .inl (g.2.2.2.1, 2, .inl fisk))] := hD
      show W p l e R s m args below meth c H locs 0 0 Q (F0 m 39 ls [])
      unfold fX9_goBack_L39_B at hyp
      refine lv_iload_n hx hb dX9_goBack_39 rfl (lv_at hl 2 rfl) ?_
      refine lv_bipush (v := 61) hx hb dX9_goBack_40 (by decide) ?_
      refine lv_icmp_ge (tgt := 68) hx hb dX9_goBack_42 (by decide) (fun h_13 => ?_) (fun h_13 => ?_)
      · replace hyp := ite_t h_13 hyp
        have hyp := some_e hyp
        subst hyp
        subst hQ
        exact rwV hx hb hr hlocks  hP hD hS dX9_goBack_68
      · replace hyp := ite_f h_13 hyp
        refine lv_aload_n hx hb dX9_goBack_45 rfl (lv_at hl 0 rfl) ?_
        refine gf_X9_7 hx hb hts hown hE hP 0 rfl rfl dX9_goBack_46 ?_
        refine lv_iload_n hx hb dX9_goBack_49 rfl (lv_at hl 2 rfl) ?_
        refine lv_aload_n hx hb dX9_goBack_50 rfl (lv_at hl 0 rfl) ?_
        refine gf_X9_25 hx hb hts hown hE hP 0 rfl rfl dX9_goBack_51 ?_
        refine lv_bipush (v := 61) hx hb dX9_goBack_54 (by decide) ?_
        refine lv_iload_n hx hb dX9_goBack_56 rfl (lv_at hl 1 rfl) ?_
        refine lv_imul hx hb dX9_goBack_57 ?_
        refine lv_iload_n hx hb dX9_goBack_58 rfl (lv_at hl 2 rfl) ?_
        refine lv_iadd hx hb dX9_goBack_59 ?_
        obtain ⟨hi, hyp⟩ := grd_e hyp
        refine va_iald hx hb hE.1 hP 3 0 rfl rfl (inB_vp hi) dX9_goBack_60 ?_
        obtain ⟨hi, hyp⟩ := grd_e hyp
        refine va_iast hx hb hE.1 hP hD hS 1 0 rfl rfl (inB_vp hi) dX9_goBack_61 (fun H locs hP hD hS => ?_)
        have hP : va_P g.1 vwCl [(o, .inr (9, [.int wrefu_8, .ref pn, .ref pt, .ref pr, .ref pw, .ref pb, .int wnst_11, .ref pk, .ref pi, .ref pf, .ref pl, .ref pe, .ref pm, .int nn, .ref px, .int len, .int pos, .int gd, .int ps, .int sm])), (pn, .inl (g.2.1, 61, .inl (upd wfnow_9 v2_7.toNatClampNeg (fkept ((61 * a1) + v2_7).toNatClampNeg)))), (pb, .inl (g.2.1, 366, .inl wfbook_10)), (pk, .inl (g.2.1, 122, .inl fkept)), (pi, .inl (g.2.2.2.1, 2, .inl fisk))] H := hP
        have hD : va_D A [(o, .inr (9, [.int wrefu_8, .ref pn, .ref pt, .ref pr, .ref pw, .ref pb, .int wnst_11, .ref pk, .ref pi, .ref pf, .ref pl, .ref pe, .ref pm, .int nn, .ref px, .int len, .int pos, .int gd, .int ps, .int sm])), (pn, .inl (g.2.1, 61, .inl (upd wfnow_9 v2_7.toNatClampNeg (fkept ((61 * a1) + v2_7).toNatClampNeg)))), (pb, .inl (g.2.1, 366, .inl wfbook_10)), (pk, .inl (g.2.1, 122, .inl fkept)), (pi, .inl (g.2.2.2.1, 2, .inl fisk))] := hD
        refine lv_iinc (v := v2_7 + 1) (lv' := [(2, .int (v2_7 + 1)), (0, .ref o), (1, .int a1)]) hx hb dX9_goBack_62 hl (k := 2) rfl rfl (by decide) rfl (fun ls hl => ?_)
        refine lv_goto (tgt := 39) hx hb dX9_goBack_65 (by decide) ?_
        exact ihself_12 (v2_7 + 1) wrefu_8 (upd wfnow_9 v2_7.toNatClampNeg (fkept ((61 * a1) + v2_7).toNatClampNeg)) wfbook_10 wnst_11 hyp H locs ls (lv_sub hl [1, 2, 0] rfl) hP hD hS
    · replace hyp := ite_f h_5 hyp
      have hP : va_P g.1 vwCl [(o, .inr (9, [.int r_4.2, .ref pn, .ref pt, .ref pr, .ref pw, .ref pb, .int nst, .ref pk, .ref pi, .ref pf, .ref pl, .ref pe, .ref pm, .int nn, .ref px, .int len, .int pos, .int gd, .int ps, .int sm])), (pn, .inl (g.2.1, 61, .inl fnow)), (pb, .inl (g.2.1, 366, .inl fbook)), (pk, .inl (g.2.1, 122, .inl fkept)), (pi, .inl (g.2.2.2.1, 2, .inl fisk))] H := hP.sub [4, 0, 1, 2, 3] rfl
      have hD : va_D A [(o, .inr (9, [.int r_4.2, .ref pn, .ref pt, .ref pr, .ref pw, .ref pb, .int nst, .ref pk, .ref pi, .ref pf, .ref pl, .ref pe, .ref pm, .int nn, .ref px, .int len, .int pos, .int gd, .int ps, .int sm])), (pn, .inl (g.2.1, 61, .inl fnow)), (pb, .inl (g.2.1, 366, .inl fbook)), (pk, .inl (g.2.1, 122, .inl fkept)), (pi, .inl (g.2.2.2.1, 2, .inl fisk))] := hD.sub [4, 0, 1, 2, 3] (by decide) rfl
      have hyp := some_e hyp
      subst hyp
      subst hQ
      exact rwV hx hb hr hlocks  hP hD hS dX9_goBack_32
  refine lv_if_ne (tgt := 12) hx hb dX9_goBack_5 (by decide) (fun h_14 => ?_) (fun h_14 => ?_)
  · replace hyp := ite_f h_14 hyp
    refine lv_aload_n hx hb dX9_goBack_12 rfl (lv_at hl 0 rfl) ?_
    refine gf_X9_28 hx hb hts hown hE hP 0 rfl rfl dX9_goBack_13 ?_
    refine lv_iload_n hx hb dX9_goBack_16 rfl (lv_at hl 1 rfl) ?_
    obtain ⟨hi, hyp⟩ := grd_e hyp
    refine va_zald hx hb hE.1 hP 4 2 rfl rfl (inB_vp hi) dX9_goBack_17 ?_
    refine lv_if_ne (tgt := 25) hx hb dX9_goBack_18 (by decide) (fun h_15 => ?_) (fun h_15 => ?_)
    · replace hyp := ite_f h_15 hyp
      refine lv_iconst (v := 0) hx hb dX9_goBack_25 (by decide) ?_
      exact kJ_3 0 H locs ls hyp hl hP hD hS
    · replace hyp := ite_t h_15 hyp
      refine lv_iconst (v := 2) hx hb dX9_goBack_21 (by decide) ?_
      refine lv_goto (tgt := 26) hx hb dX9_goBack_22 (by decide) ?_
      exact kJ_3 2 H locs ls hyp hl hP hD hS
  · replace hyp := ite_t h_14 hyp
    refine lv_iconst (v := 1) hx hb dX9_goBack_8 (by decide) ?_
    refine lv_goto (tgt := 26) hx hb dX9_goBack_9 (by decide) ?_
    exact kJ_3 1 H locs ls hyp hl hP hD hS

def fX9_undo_L32_B (fbook : Nat → Int32) (self_9 : Int32 → Int32 → (Nat → Int32) → Int32 → Option (Int32 × (Nat → Int32) × Int32)) (v1_5 : Int32) (wrefu_6 : Int32) (wfnow_7 : Nat → Int32) (wnst_8 : Int32) : Option (Int32 × (Nat → Int32) × Int32) :=
  if 61 ≤ v1_5 then (some (wrefu_6, wfnow_7, wnst_8)) else (grd (inB ((61 * wnst_8) + v1_5) 366) (grd (inB v1_5 61) (self_9 (v1_5 + 1) wrefu_6 (upd wfnow_7 v1_5.toNatClampNeg (fbook ((61 * wnst_8) + v1_5).toNatClampNeg)) wnst_8)))
def fX9_undo_L32 (fbook : Nat → Int32) (n : Nat) (v1_5 : Int32) (wrefu_6 : Int32) (wfnow_7 : Nat → Int32) (wnst_8 : Int32) : Option (Int32 × (Nat → Int32) × Int32) := lp (fun zf z => fX9_undo_L32_B fbook (fun v1_5 wrefu_6 wfnow_7 wnst_8 => zf (v1_5, wrefu_6, wfnow_7, wnst_8)) z.1 z.2.1 z.2.2.1 z.2.2.2) n (v1_5, wrefu_6, wfnow_7, wnst_8)
def fX9_undo (nst : Int32) (fnow : Nat → Int32) (fbook : Nat → Int32) : Option (Int32 × (Nat → Int32) × Int32) :=
  jn (fun (t_1 : Int32) => (fX9_refused t_1).bind (fun (r_3 : Int32 × Int32) => if r_3.1 = 0 then (fX9_undo_L32 fbook 64 0 r_3.2 fnow (nst - 1)) else (some (r_3.2, fnow, nst)))) (fun J_2 => if nst = 0 then (J_2 1) else (J_2 0))
set_option maxRecDepth 100000 in
set_option maxHeartbeats 4000000 in
theorem mX9_undo (l : Launch) (g : GE) (o pn pb pt pr pw pk pi pf pl pe pm px : Nat) (refu : Int32) (nst : Int32) (nn : Int32) (len : Int32) (pos : Int32) (gd : Int32) (ps : Int32) (sm : Int32) (fnow : Nat → Int32) (fbook : Nat → Int32) (r : Int32 × (Nat → Int32) × Int32) (hyp : fX9_undo nst fnow fbook = some r) : WM l yX9_undo cX9_undo 2 none 1 21 g [(o, .inr (9, [.int refu, .ref pn, .ref pt, .ref pr, .ref pw, .ref pb, .int nst, .ref pk, .ref pi, .ref pf, .ref pl, .ref pe, .ref pm, .int nn, .ref px, .int len, .int pos, .int gd, .int ps, .int sm])), (pn, .inl (g.2.1, 61, .inl fnow)), (pb, .inl (g.2.1, 366, .inl fbook))] [.ref o] none [(o, .inr (9, [.int r.1, .ref pn, .ref pt, .ref pr, .ref pw, .ref pb, .int r.2.2, .ref pk, .ref pi, .ref pf, .ref pl, .ref pe, .ref pm, .int nn, .ref px, .int len, .int pos, .int gd, .int ps, .int sm])), (pn, .inl (g.2.1, 61, .inl r.2.1)), (pb, .inl (g.2.1, 366, .inl fbook))] := by
  refine metW_intro (by decide) rfl ?_
  intro p e R s m args below meth c Q A hRf hRl hQ hx hb hml hr hlocks hown hts hin hE hA H locs hP hD hS ls hl
  have hown : s.vm.findClass "HallGuardsModel" = some m.cls := hown
  have hl : lv_has ls 2 [(0, .ref o)] := hl
  unfold fX9_undo at hyp
  refine lv_aload_n hx hb dX9_undo_0 rfl (lv_at hl 0 rfl) ?_
  refine lv_aload_n hx hb dX9_undo_1 rfl (lv_at hl 0 rfl) ?_
  refine gf_X9_111 hx hb hts hown hE hP 0 rfl rfl dX9_undo_2 ?_
  obtain ⟨J_2, eJ_2, hyp⟩ := jn_e hyp
  have kJ_2 : ∀ (t_1 : Int32) (H : Heap) (locs : List Loc) (ls : Array Slot), J_2 t_1 = some r → lv_has ls 2 [(0, .ref o)] → va_P g.1 vwCl [(o, .inr (9, [.int refu, .ref pn, .ref pt, .ref pr, .ref pw, .ref pb, .int nst, .ref pk, .ref pi, .ref pf, .ref pl, .ref pe, .ref pm, .int nn, .ref px, .int len, .int pos, .int gd, .int ps, .int sm])), (pn, .inl (g.2.1, 61, .inl fnow)), (pb, .inl (g.2.1, 366, .inl fbook))] H → va_D A [(o, .inr (9, [.int refu, .ref pn, .ref pt, .ref pr, .ref pw, .ref pb, .int nst, .ref pk, .ref pi, .ref pf, .ref pl, .ref pe, .ref pm, .int nn, .ref px, .int len, .int pos, .int gd, .int ps, .int sm])), (pn, .inl (g.2.1, 61, .inl fnow)), (pb, .inl (g.2.1, 366, .inl fbook))] → va_S A s.heap H locs → W p l e R s m args below meth c H locs 0 0 Q (F0 m 13 ls [.int t_1, .ref o]) := by
    intro t_1 H locs  ls hyp hl hP hD hS
    replace hyp := (congrFun (eJ_2) t_1).symm.trans hyp
    obtain ⟨r_3, hr_3, hyp⟩ := opt_e hyp
    refine wV (As := [.int t_1]) (rest := []) ⟨hx, hb, hml, hown, hts⟩ hE (mX9_refused l g o pn pt pr pw pb pk pi pf pl pe pm px refu nst nn len pos gd ps sm t_1 r_3 hr_3) cf_X9_refused im_X9_refused se_X9_refused ml_X9_153 ⟨Nat.le_trans (Nat.le_of_ble_eq_true rfl) hRf, Nat.le_trans (Nat.le_of_ble_eq_true rfl) hRl⟩ hP hD hS hA [0] [1, 2] rfl (wr := [(pn, .inl (g.2.1, 61, .inl fnow)), (pb, .inl (g.2.1, 366, .inl fbook))]) rfl ⟨by decide, by decide⟩ (by decide) (ci := 9) (q0 := 0) rfl rfl rfl rfl hl.1 rfl (Nat.le_of_ble_eq_true rfl) dX9_undo_13 ⟨Nat.zero_le _, Nat.zero_le _⟩ (fun H locs hP hD hS => ?_)
    have hP : va_P g.1 vwCl [(pn, .inl (g.2.1, 61, .inl fnow)), (pb, .inl (g.2.1, 366, .inl fbook)), (o, .inr (9, [.int r_3.2, .ref pn, .ref pt, .ref pr, .ref pw, .ref pb, .int nst, .ref pk, .ref pi, .ref pf, .ref pl, .ref pe, .ref pm, .int nn, .ref px, .int len, .int pos, .int gd, .int ps, .int sm]))] H := hP
    have hD : va_D A [(pn, .inl (g.2.1, 61, .inl fnow)), (pb, .inl (g.2.1, 366, .inl fbook)), (o, .inr (9, [.int r_3.2, .ref pn, .ref pt, .ref pr, .ref pw, .ref pb, .int nst, .ref pk, .ref pi, .ref pf, .ref pl, .ref pe, .ref pm, .int nn, .ref px, .int len, .int pos, .int gd, .int ps, .int sm]))] := hD
    refine lv_if_eq (tgt := 20) hx hb dX9_undo_16 (by decide) (fun h_4 => ?_) (fun h_4 => ?_)
    · replace hyp := ite_t h_4 hyp
      refine lv_aload_n hx hb dX9_undo_20 rfl (lv_at hl 0 rfl) ?_
      refine lv_dup hx hb dX9_undo_21 rfl ?_
      refine gf_X9_111 hx hb hts hown hE hP 2 rfl rfl dX9_undo_22 ?_
      refine lv_iconst (v := 1) hx hb dX9_undo_25 (by decide) ?_
      refine lv_isub hx hb dX9_undo_26 ?_
      refine pf_X9_111 hx hb hts hown hE hP hD hS 2 rfl rfl dX9_undo_27 (fun H locs hP hD hS => ?_)
      have hP : va_P g.1 vwCl [(pn, .inl (g.2.1, 61, .inl fnow)), (pb, .inl (g.2.1, 366, .inl fbook)), (o, .inr (9, [.int r_3.2, .ref pn, .ref pt, .ref pr, .ref pw, .ref pb, .int (nst - 1), .ref pk, .ref pi, .ref pf, .ref pl, .ref pe, .ref pm, .int nn, .ref px, .int len, .int pos, .int gd, .int ps, .int sm]))] H := hP
      have hD : va_D A [(pn, .inl (g.2.1, 61, .inl fnow)), (pb, .inl (g.2.1, 366, .inl fbook)), (o, .inr (9, [.int r_3.2, .ref pn, .ref pt, .ref pr, .ref pw, .ref pb, .int (nst - 1), .ref pk, .ref pi, .ref pf, .ref pl, .ref pe, .ref pm, .int nn, .ref px, .int len, .int pos, .int gd, .int ps, .int sm]))] := hD
      refine lv_iconst (v := 0) hx hb dX9_undo_30 (by decide) ?_
      refine lv_istore_n (lv' := [(1, .int 0), (0, .ref o)]) hx hb dX9_undo_31 rfl hl (by decide) rfl (fun ls hl => ?_)
      have hP : va_P g.1 vwCl [(o, .inr (9, [.int r_3.2, .ref pn, .ref pt, .ref pr, .ref pw, .ref pb, .int (nst - 1), .ref pk, .ref pi, .ref pf, .ref pl, .ref pe, .ref pm, .int nn, .ref px, .int len, .int pos, .int gd, .int ps, .int sm])), (pn, .inl (g.2.1, 61, .inl fnow)), (pb, .inl (g.2.1, 366, .inl fbook))] H := hP.sub [2, 0, 1] rfl
      have hD : va_D A [(o, .inr (9, [.int r_3.2, .ref pn, .ref pt, .ref pr, .ref pw, .ref pb, .int (nst - 1), .ref pk, .ref pi, .ref pf, .ref pl, .ref pe, .ref pm, .int nn, .ref px, .int len, .int pos, .int gd, .int ps, .int sm])), (pn, .inl (g.2.1, 61, .inl fnow)), (pb, .inl (g.2.1, 366, .inl fbook))] := hD.sub [2, 0, 1] (by decide) rfl
      refine lp_i (r := r) (fun z : Int32 × Int32 × (Nat → Int32) × Int32 => ∀ (H : Heap) (locs : List Loc) (ls : Array Slot), lv_has ls 2 [(0, .ref o), (1, .int z.1)] → va_P g.1 vwCl [(o, .inr (9, [.int z.2.1, .ref pn, .ref pt, .ref pr, .ref pw, .ref pb, .int z.2.2.2, .ref pk, .ref pi, .ref pf, .ref pl, .ref pe, .ref pm, .int nn, .ref px, .int len, .int pos, .int gd, .int ps, .int sm])), (pn, .inl (g.2.1, 61, .inl z.2.2.1)), (pb, .inl (g.2.1, 366, .inl fbook))] H → va_D A [(o, .inr (9, [.int z.2.1, .ref pn, .ref pt, .ref pr, .ref pw, .ref pb, .int z.2.2.2, .ref pk, .ref pi, .ref pf, .ref pl, .ref pe, .ref pm, .int nn, .ref px, .int len, .int pos, .int gd, .int ps, .int sm])), (pn, .inl (g.2.1, 61, .inl z.2.2.1)), (pb, .inl (g.2.1, 366, .inl fbook))] → va_S A s.heap H locs → W p l e R s m args below meth c H locs 0 0 Q (F0 m 32 ls [])) ?_ 64 (0, r_3.2, fnow, nst - 1) hyp _ _ ls (lv_sub hl [1, 0] rfl) hP hD hS
      intro self_9T ihself_9T z hyp H locs ls hl hP hD hS
      obtain ⟨v1_5, wrefu_6, wfnow_7, wnst_8⟩ := z
      obtain ⟨self_9, eself_9⟩ : ∃ f9 : Int32 → Int32 → (Nat → Int32) → Int32 → Option (Int32 × (Nat → Int32) × Int32), f9 = fun v1_5 wrefu_6 wfnow_7 wnst_8 => self_9T (v1_5, wrefu_6, wfnow_7, wnst_8) := ⟨_, rfl⟩
      have ihself_9 := fun (v1_5 : Int32) (wrefu_6 : Int32) (wfnow_7 : Nat → Int32) (wnst_8 : Int32) (h9 : self_9 v1_5 wrefu_6 wfnow_7 wnst_8 = some r) => ihself_9T (v1_5, wrefu_6, wfnow_7, wnst_8) (by rw [eself_9] at h9; exact h9)
      replace hyp : fX9_undo_L32_B fbook self_9 v1_5 wrefu_6 wfnow_7 wnst_8 = some r := by rw [eself_9]; exact hyp
      have hl : lv_has ls 2 [(0, .ref o), (1, .int v1_5)] := hl
      have hP : va_P g.1 vwCl [(o, .inr (9, [.int wrefu_6, .ref pn, .ref pt, .ref pr, .ref pw, .ref pb, .int wnst_8, .ref pk, .ref pi, .ref pf, .ref pl, .ref pe, .ref pm, .int nn, .ref px, .int len, .int pos, .int gd, .int ps, .int sm])), (pn, .inl (g.2.1, 61, .inl wfnow_7)), (pb, .inl (g.2.1, 366, .inl fbook))] H := hP
      have hD : va_D A [(o, .inr (9, [.int wrefu_6, .ref pn, .ref pt, .ref pr, .ref pw, .ref pb, .int wnst_8, .ref pk, .ref pi, .ref pf, .ref pl, .ref pe, .ref pm, .int nn, .ref px, .int len, .int pos, .int gd, .int ps, .int sm])), (pn, .inl (g.2.1, 61, .inl wfnow_7)), (pb, .inl (g.2.1, 366, .inl fbook))] := hD
      show W p l e R s m args below meth c H locs 0 0 Q (F0 m 32 ls [])
      unfold fX9_undo_L32_B at hyp
      refine lv_iload_n hx hb dX9_undo_32 rfl (lv_at hl 1 rfl) ?_
      refine lv_bipush (v := 61) hx hb dX9_undo_33 (by decide) ?_
      refine lv_icmp_ge (tgt := 64) hx hb dX9_undo_35 (by decide) (fun h_10 => ?_) (fun h_10 => ?_)
      · replace hyp := ite_t h_10 hyp
        have hyp := some_e hyp
        subst hyp
        subst hQ
        exact rwV hx hb hr hlocks  hP hD hS dX9_undo_64
      · replace hyp := ite_f h_10 hyp
        refine lv_aload_n hx hb dX9_undo_38 rfl (lv_at hl 0 rfl) ?_
        refine gf_X9_7 hx hb hts hown hE hP 0 rfl rfl dX9_undo_39 ?_
        refine lv_iload_n hx hb dX9_undo_42 rfl (lv_at hl 1 rfl) ?_
        refine lv_aload_n hx hb dX9_undo_43 rfl (lv_at hl 0 rfl) ?_
        refine gf_X9_22 hx hb hts hown hE hP 0 rfl rfl dX9_undo_44 ?_
        refine lv_bipush (v := 61) hx hb dX9_undo_47 (by decide) ?_
        refine lv_aload_n hx hb dX9_undo_49 rfl (lv_at hl 0 rfl) ?_
        refine gf_X9_111 hx hb hts hown hE hP 0 rfl rfl dX9_undo_50 ?_
        refine lv_imul hx hb dX9_undo_53 ?_
        refine lv_iload_n hx hb dX9_undo_54 rfl (lv_at hl 1 rfl) ?_
        refine lv_iadd hx hb dX9_undo_55 ?_
        obtain ⟨hi, hyp⟩ := grd_e hyp
        refine va_iald hx hb hE.1 hP 2 0 rfl rfl (inB_vp hi) dX9_undo_56 ?_
        obtain ⟨hi, hyp⟩ := grd_e hyp
        refine va_iast hx hb hE.1 hP hD hS 1 0 rfl rfl (inB_vp hi) dX9_undo_57 (fun H locs hP hD hS => ?_)
        have hP : va_P g.1 vwCl [(o, .inr (9, [.int wrefu_6, .ref pn, .ref pt, .ref pr, .ref pw, .ref pb, .int wnst_8, .ref pk, .ref pi, .ref pf, .ref pl, .ref pe, .ref pm, .int nn, .ref px, .int len, .int pos, .int gd, .int ps, .int sm])), (pn, .inl (g.2.1, 61, .inl (upd wfnow_7 v1_5.toNatClampNeg (fbook ((61 * wnst_8) + v1_5).toNatClampNeg)))), (pb, .inl (g.2.1, 366, .inl fbook))] H := hP
        have hD : va_D A [(o, .inr (9, [.int wrefu_6, .ref pn, .ref pt, .ref pr, .ref pw, .ref pb, .int wnst_8, .ref pk, .ref pi, .ref pf, .ref pl, .ref pe, .ref pm, .int nn, .ref px, .int len, .int pos, .int gd, .int ps, .int sm])), (pn, .inl (g.2.1, 61, .inl (upd wfnow_7 v1_5.toNatClampNeg (fbook ((61 * wnst_8) + v1_5).toNatClampNeg)))), (pb, .inl (g.2.1, 366, .inl fbook))] := hD
        refine lv_iinc (v := v1_5 + 1) (lv' := [(1, .int (v1_5 + 1)), (0, .ref o)]) hx hb dX9_undo_58 hl (k := 1) rfl rfl (by decide) rfl (fun ls hl => ?_)
        refine lv_goto (tgt := 32) hx hb dX9_undo_61 (by decide) ?_
        exact ihself_9 (v1_5 + 1) wrefu_6 (upd wfnow_7 v1_5.toNatClampNeg (fbook ((61 * wnst_8) + v1_5).toNatClampNeg)) wnst_8 hyp H locs ls (lv_sub hl [1, 0] rfl) hP hD hS
    · replace hyp := ite_f h_4 hyp
      have hP : va_P g.1 vwCl [(o, .inr (9, [.int r_3.2, .ref pn, .ref pt, .ref pr, .ref pw, .ref pb, .int nst, .ref pk, .ref pi, .ref pf, .ref pl, .ref pe, .ref pm, .int nn, .ref px, .int len, .int pos, .int gd, .int ps, .int sm])), (pn, .inl (g.2.1, 61, .inl fnow)), (pb, .inl (g.2.1, 366, .inl fbook))] H := hP.sub [2, 0, 1] rfl
      have hD : va_D A [(o, .inr (9, [.int r_3.2, .ref pn, .ref pt, .ref pr, .ref pw, .ref pb, .int nst, .ref pk, .ref pi, .ref pf, .ref pl, .ref pe, .ref pm, .int nn, .ref px, .int len, .int pos, .int gd, .int ps, .int sm])), (pn, .inl (g.2.1, 61, .inl fnow)), (pb, .inl (g.2.1, 366, .inl fbook))] := hD.sub [2, 0, 1] (by decide) rfl
      have hyp := some_e hyp
      subst hyp
      subst hQ
      exact rwV hx hb hr hlocks  hP hD hS dX9_undo_19
  refine lv_if_ne (tgt := 12) hx hb dX9_undo_5 (by decide) (fun h_11 => ?_) (fun h_11 => ?_)
  · replace hyp := ite_f h_11 hyp
    refine lv_iconst (v := 0) hx hb dX9_undo_12 (by decide) ?_
    exact kJ_2 0 H locs ls hyp hl hP hD hS
  · replace hyp := ite_t h_11 hyp
    refine lv_iconst (v := 1) hx hb dX9_undo_8 (by decide) ?_
    refine lv_goto (tgt := 13) hx hb dX9_undo_9 (by decide) ?_
    exact kJ_2 1 H locs ls hyp hl hP hD hS

def fX9_savedStates (nst : Int32) : Option (Int32 × Int32) :=
  some (nst, 0)
set_option maxRecDepth 100000 in
set_option maxHeartbeats 4000000 in
theorem mX9_savedStates (l : Launch) (g : GE) (o pn pt pr pw pb pk pi pf pl pe pm px : Nat) (refu : Int32) (nst : Int32) (nn : Int32) (len : Int32) (pos : Int32) (gd : Int32) (ps : Int32) (sm : Int32) (r : Int32 × Int32) (hyp : fX9_savedStates nst = some r) : WM l yX9_savedStates cX9_savedStates 1 (some .int) 0 0 g [(o, .inr (9, [.int refu, .ref pn, .ref pt, .ref pr, .ref pw, .ref pb, .int nst, .ref pk, .ref pi, .ref pf, .ref pl, .ref pe, .ref pm, .int nn, .ref px, .int len, .int pos, .int gd, .int ps, .int sm]))] [.ref o] (some (.int r.1)) [(o, .inr (9, [.int r.2, .ref pn, .ref pt, .ref pr, .ref pw, .ref pb, .int nst, .ref pk, .ref pi, .ref pf, .ref pl, .ref pe, .ref pm, .int nn, .ref px, .int len, .int pos, .int gd, .int ps, .int sm]))] := by
  refine metW_intro (by decide) rfl ?_
  intro p e R s m args below meth c Q A hRf hRl hQ hx hb hml hr hlocks hown hts hin hE hA H locs hP hD hS ls hl
  have hown : s.vm.findClass "HallGuardsModel" = some m.cls := hown
  have hl : lv_has ls 1 [(0, .ref o)] := hl
  unfold fX9_savedStates at hyp
  refine lv_aload_n hx hb dX9_savedStates_0 rfl (lv_at hl 0 rfl) ?_
  refine lv_iconst (v := 0) hx hb dX9_savedStates_1 (by decide) ?_
  refine pf_X9_52 hx hb hts hown hE hP hD hS 0 rfl rfl dX9_savedStates_2 (fun H locs hP hD hS => ?_)
  have hP : va_P g.1 vwCl [(o, .inr (9, [.int 0, .ref pn, .ref pt, .ref pr, .ref pw, .ref pb, .int nst, .ref pk, .ref pi, .ref pf, .ref pl, .ref pe, .ref pm, .int nn, .ref px, .int len, .int pos, .int gd, .int ps, .int sm]))] H := hP
  have hD : va_D A [(o, .inr (9, [.int 0, .ref pn, .ref pt, .ref pr, .ref pw, .ref pb, .int nst, .ref pk, .ref pi, .ref pf, .ref pl, .ref pe, .ref pm, .int nn, .ref px, .int len, .int pos, .int gd, .int ps, .int sm]))] := hD
  refine lv_aload_n hx hb dX9_savedStates_5 rfl (lv_at hl 0 rfl) ?_
  refine gf_X9_111 hx hb hts hown hE hP 0 rfl rfl dX9_savedStates_6 ?_
  have hyp := some_e hyp
  subst hyp
  subst hQ
  exact rwI hx hb hr hlocks  hP hD hS dX9_savedStates_9

set_option maxRecDepth 100000 in
set_option maxHeartbeats 4000000 in
theorem mX1_init (l : Launch) (hl0 : l.stackTraces = false) (g : GE) (th zc zp : Nat) : CM l yX1_init cX1_init 1 1 40 1 49 g [(th, .inr (1, [.null, .int 0, .int 0]))] (OZ g zc zp [] none) [.ref th] 1 (fun w => [(th, .inr (1, [.ref (w.getD 0 0), .int (-1), .int 0])), ((w.getD 0 0), .inl (g.2.1, 49, .inl (fun _ => 0)))]) := by
  refine metC_intro (by decide) rfl ?_
  intro p e R s m args below meth c Q A hRf hRl hRc hRs hQ hx hb hml hr hlocks hex hown hts hin hE hSR hA hO H locs hP hD hS ls hl
  have hin : meth.name = "<init>" := hin
  have hown : s.vm.findClass "HallGuards$Board" = some m.cls := hown
  have hl : lv_has ls 1 [(0, .ref th)] := hl
  refine lv_aload_n hx hb dX1_init_0 rfl (lv_at hl 0 rfl) ?_
  refine W.objInit hx hb hown (hts _ ml_X1_3) (hts _ im_obj) (hts _ co_obj) rfl (hl.1.trans hml.symm) rfl dX1_init_1 (Nat.le_trans (Nat.le_of_ble_eq_true rfl) hRf) (Nat.le_trans (Nat.le_of_ble_eq_true rfl) hRl) ?_
  show W p l e R s m args below meth c H locs 0 0 Q (F0 m 4 ls [])
  refine lv_aload_n hx hb dX1_init_4 rfl (lv_at hl 0 rfl) ?_
  refine lv_bipush (v := 49) hx hb dX1_init_5 (by decide) ?_
  refine newI (N := 49) hx hb hts ar_I hE hP hD hS hA (by decide) (by decide) (by decide) ⟨Nat.le_trans (Nat.le_of_ble_eq_true rfl) hRc, Nat.le_trans (Nat.le_of_ble_eq_true rfl) hRs⟩ dX1_init_7 (fun q_1 H hP hD hS => ?_)
  have hP : va_P g.1 vwCl [(th, .inr (1, [.null, .int 0, .int 0])), (q_1, .inl (g.2.1, 49, .inl (fun _ => 0)))] H := hP
  have hD : va_D A [(th, .inr (1, [.null, .int 0, .int 0])), (q_1, .inl (g.2.1, 49, .inl (fun _ => 0)))] := hD
  refine pf_X1_9 hx hb hts hown hin hE hP hD hS 0 rfl rfl rfl rfl dX1_init_9 (fun H locs hP hD hS => ?_)
  have hP : va_P g.1 vwCl [(th, .inr (1, [.ref q_1, .int 0, .int 0])), (q_1, .inl (g.2.1, 49, .inl (fun _ => 0)))] H := hP
  have hD : va_D A [(th, .inr (1, [.ref q_1, .int 0, .int 0])), (q_1, .inl (g.2.1, 49, .inl (fun _ => 0)))] := hD
  refine lv_aload_n hx hb dX1_init_12 rfl (lv_at hl 0 rfl) ?_
  refine lv_iconst (v := (-1)) hx hb dX1_init_13 (by decide) ?_
  refine pf_X1_15 hx hb hts hown hE hP hD hS 0 rfl rfl dX1_init_14 (fun H locs hP hD hS => ?_)
  have hP : va_P g.1 vwCl [(th, .inr (1, [.ref q_1, .int (-1), .int 0])), (q_1, .inl (g.2.1, 49, .inl (fun _ => 0)))] H := hP
  have hD : va_D A [(th, .inr (1, [.ref q_1, .int (-1), .int 0])), (q_1, .inl (g.2.1, 49, .inl (fun _ => 0)))] := hD
  subst hQ
  exact xrC [q_1] hx hb hr hlocks rfl hP hD hS (Nat.le_of_ble_eq_true rfl) (Nat.le_of_ble_eq_true rfl) dX1_init_17

set_option maxRecDepth 100000 in
set_option maxHeartbeats 4000000 in
theorem mX3_init (l : Launch) (hl0 : l.stackTraces = false) (g : GE) (th zc zp : Nat) : CM l yX3_init cX3_init 1 1 40 1 588 g [(th, .inr (3, [.null, .int 0]))] (OZ g zc zp [] none) [.ref th] 1 (fun w => [(th, .inr (3, [.ref (w.getD 0 0), .int 0])), ((w.getD 0 0), .inl (g.2.1, 588, .inl (fun _ => 0)))]) := by
  refine metC_intro (by decide) rfl ?_
  intro p e R s m args below meth c Q A hRf hRl hRc hRs hQ hx hb hml hr hlocks hex hown hts hin hE hSR hA hO H locs hP hD hS ls hl
  have hin : meth.name = "<init>" := hin
  have hown : s.vm.findClass "HallGuards$MoveList" = some m.cls := hown
  have hl : lv_has ls 1 [(0, .ref th)] := hl
  refine lv_aload_n hx hb dX3_init_0 rfl (lv_at hl 0 rfl) ?_
  refine W.objInit hx hb hown (hts _ ml_X3_3) (hts _ im_obj) (hts _ co_obj) rfl (hl.1.trans hml.symm) rfl dX3_init_1 (Nat.le_trans (Nat.le_of_ble_eq_true rfl) hRf) (Nat.le_trans (Nat.le_of_ble_eq_true rfl) hRl) ?_
  show W p l e R s m args below meth c H locs 0 0 Q (F0 m 4 ls [])
  refine lv_aload_n hx hb dX3_init_4 rfl (lv_at hl 0 rfl) ?_
  refine lv_sipush (v := 588) hx hb dX3_init_5 (by decide) ?_
  refine newI (N := 588) hx hb hts ar_I hE hP hD hS hA (by decide) (by decide) (by decide) ⟨Nat.le_trans (Nat.le_of_ble_eq_true rfl) hRc, Nat.le_trans (Nat.le_of_ble_eq_true rfl) hRs⟩ dX3_init_8 (fun q_1 H hP hD hS => ?_)
  have hP : va_P g.1 vwCl [(th, .inr (3, [.null, .int 0])), (q_1, .inl (g.2.1, 588, .inl (fun _ => 0)))] H := hP
  have hD : va_D A [(th, .inr (3, [.null, .int 0])), (q_1, .inl (g.2.1, 588, .inl (fun _ => 0)))] := hD
  refine pf_X3_11 hx hb hts hown hin hE hP hD hS 0 rfl rfl rfl rfl dX3_init_10 (fun H locs hP hD hS => ?_)
  have hP : va_P g.1 vwCl [(th, .inr (3, [.ref q_1, .int 0])), (q_1, .inl (g.2.1, 588, .inl (fun _ => 0)))] H := hP
  have hD : va_D A [(th, .inr (3, [.ref q_1, .int 0])), (q_1, .inl (g.2.1, 588, .inl (fun _ => 0)))] := hD
  subst hQ
  exact xrC [q_1] hx hb hr hlocks rfl hP hD hS (Nat.le_of_ble_eq_true rfl) (Nat.le_of_ble_eq_true rfl) dX3_init_13

set_option maxRecDepth 100000 in
set_option maxHeartbeats 4000000 in
theorem mX4_init (l : Launch) (hl0 : l.stackTraces = false) (g : GE) (th zc zp : Nat) : CM l yX4_init cX4_init 1 1 40 1 60 g [(th, .inr (4, [.null, .int 0]))] (OZ g zc zp [] none) [.ref th] 1 (fun w => [(th, .inr (4, [.ref (w.getD 0 0), .int 0])), ((w.getD 0 0), .inl (g.2.1, 60, .inl (fun _ => 0)))]) := by
  refine metC_intro (by decide) rfl ?_
  intro p e R s m args below meth c Q A hRf hRl hRc hRs hQ hx hb hml hr hlocks hex hown hts hin hE hSR hA hO H locs hP hD hS ls hl
  have hin : meth.name = "<init>" := hin
  have hown : s.vm.findClass "HallGuards$MoveText" = some m.cls := hown
  have hl : lv_has ls 1 [(0, .ref th)] := hl
  refine lv_aload_n hx hb dX4_init_0 rfl (lv_at hl 0 rfl) ?_
  refine W.objInit hx hb hown (hts _ ml_X4_3) (hts _ im_obj) (hts _ co_obj) rfl (hl.1.trans hml.symm) rfl dX4_init_1 (Nat.le_trans (Nat.le_of_ble_eq_true rfl) hRf) (Nat.le_trans (Nat.le_of_ble_eq_true rfl) hRl) ?_
  show W p l e R s m args below meth c H locs 0 0 Q (F0 m 4 ls [])
  refine lv_aload_n hx hb dX4_init_4 rfl (lv_at hl 0 rfl) ?_
  refine lv_bipush (v := 60) hx hb dX4_init_5 (by decide) ?_
  refine newI (N := 60) hx hb hts ar_I hE hP hD hS hA (by decide) (by decide) (by decide) ⟨Nat.le_trans (Nat.le_of_ble_eq_true rfl) hRc, Nat.le_trans (Nat.le_of_ble_eq_true rfl) hRs⟩ dX4_init_7 (fun q_1 H hP hD hS => ?_)
  have hP : va_P g.1 vwCl [(th, .inr (4, [.null, .int 0])), (q_1, .inl (g.2.1, 60, .inl (fun _ => 0)))] H := hP
  have hD : va_D A [(th, .inr (4, [.null, .int 0])), (q_1, .inl (g.2.1, 60, .inl (fun _ => 0)))] := hD
  refine pf_X4_11 hx hb hts hown hin hE hP hD hS 0 rfl rfl rfl rfl dX4_init_9 (fun H locs hP hD hS => ?_)
  have hP : va_P g.1 vwCl [(th, .inr (4, [.ref q_1, .int 0])), (q_1, .inl (g.2.1, 60, .inl (fun _ => 0)))] H := hP
  have hD : va_D A [(th, .inr (4, [.ref q_1, .int 0])), (q_1, .inl (g.2.1, 60, .inl (fun _ => 0)))] := hD
  subst hQ
  exact xrC [q_1] hx hb hr hlocks rfl hP hD hS (Nat.le_of_ble_eq_true rfl) (Nat.le_of_ble_eq_true rfl) dX4_init_12

set_option maxRecDepth 100000 in
set_option maxHeartbeats 4000000 in
theorem mX2_init (l : Launch) (hl0 : l.stackTraces = false) (g : GE) (th zc zp : Nat) : CM l yX2_init cX2_init 1 1 40 2 98 g [(th, .inr (2, [.null, .null, .int 0]))] (OZ g zc zp [] none) [.ref th] 2 (fun w => [(th, .inr (2, [.ref (w.getD 0 0), .ref (w.getD 1 0), .int 0])), ((w.getD 0 0), .inl (g.2.1, 49, .inl (fun _ => 0))), ((w.getD 1 0), .inl (g.2.1, 49, .inl (fun _ => 0)))]) := by
  refine metC_intro (by decide) rfl ?_
  intro p e R s m args below meth c Q A hRf hRl hRc hRs hQ hx hb hml hr hlocks hex hown hts hin hE hSR hA hO H locs hP hD hS ls hl
  have hin : meth.name = "<init>" := hin
  have hown : s.vm.findClass "HallGuards$KingWay" = some m.cls := hown
  have hl : lv_has ls 1 [(0, .ref th)] := hl
  refine lv_aload_n hx hb dX2_init_0 rfl (lv_at hl 0 rfl) ?_
  refine W.objInit hx hb hown (hts _ ml_X2_3) (hts _ im_obj) (hts _ co_obj) rfl (hl.1.trans hml.symm) rfl dX2_init_1 (Nat.le_trans (Nat.le_of_ble_eq_true rfl) hRf) (Nat.le_trans (Nat.le_of_ble_eq_true rfl) hRl) ?_
  show W p l e R s m args below meth c H locs 0 0 Q (F0 m 4 ls [])
  refine lv_aload_n hx hb dX2_init_4 rfl (lv_at hl 0 rfl) ?_
  refine lv_bipush (v := 49) hx hb dX2_init_5 (by decide) ?_
  refine newI (N := 49) hx hb hts ar_I hE hP hD hS hA (by decide) (by decide) (by decide) ⟨Nat.le_trans (Nat.le_of_ble_eq_true rfl) hRc, Nat.le_trans (Nat.le_of_ble_eq_true rfl) hRs⟩ dX2_init_7 (fun q_1 H hP hD hS => ?_)
  have hP : va_P g.1 vwCl [(th, .inr (2, [.null, .null, .int 0])), (q_1, .inl (g.2.1, 49, .inl (fun _ => 0)))] H := hP
  have hD : va_D A [(th, .inr (2, [.null, .null, .int 0])), (q_1, .inl (g.2.1, 49, .inl (fun _ => 0)))] := hD
  refine pf_X2_9 hx hb hts hown hin hE hP hD hS 0 rfl rfl rfl rfl dX2_init_9 (fun H locs hP hD hS => ?_)
  have hP : va_P g.1 vwCl [(th, .inr (2, [.ref q_1, .null, .int 0])), (q_1, .inl (g.2.1, 49, .inl (fun _ => 0)))] H := hP
  have hD : va_D A [(th, .inr (2, [.ref q_1, .null, .int 0])), (q_1, .inl (g.2.1, 49, .inl (fun _ => 0)))] := hD
  refine lv_aload_n hx hb dX2_init_12 rfl (lv_at hl 0 rfl) ?_
  refine lv_bipush (v := 49) hx hb dX2_init_13 (by decide) ?_
  refine newI (N := 49) hx hb hts ar_I hE hP hD hS hA (by decide) (by decide) (by decide) ⟨Nat.le_trans (Nat.le_of_ble_eq_true rfl) hRc, Nat.le_trans (Nat.le_of_ble_eq_true rfl) hRs⟩ dX2_init_15 (fun q_2 H hP hD hS => ?_)
  have hP : va_P g.1 vwCl [(th, .inr (2, [.ref q_1, .null, .int 0])), (q_1, .inl (g.2.1, 49, .inl (fun _ => 0))), (q_2, .inl (g.2.1, 49, .inl (fun _ => 0)))] H := hP
  have hD : va_D A [(th, .inr (2, [.ref q_1, .null, .int 0])), (q_1, .inl (g.2.1, 49, .inl (fun _ => 0))), (q_2, .inl (g.2.1, 49, .inl (fun _ => 0)))] := hD
  refine pf_X2_15 hx hb hts hown hin hE hP hD hS 0 rfl rfl rfl rfl dX2_init_17 (fun H locs hP hD hS => ?_)
  have hP : va_P g.1 vwCl [(th, .inr (2, [.ref q_1, .ref q_2, .int 0])), (q_1, .inl (g.2.1, 49, .inl (fun _ => 0))), (q_2, .inl (g.2.1, 49, .inl (fun _ => 0)))] H := hP
  have hD : va_D A [(th, .inr (2, [.ref q_1, .ref q_2, .int 0])), (q_1, .inl (g.2.1, 49, .inl (fun _ => 0))), (q_2, .inl (g.2.1, 49, .inl (fun _ => 0)))] := hD
  subst hQ
  exact xrC [q_1, q_2] hx hb hr hlocks rfl hP hD hS (Nat.le_of_ble_eq_true rfl) (Nat.le_of_ble_eq_true rfl) dX2_init_20

set_option maxRecDepth 100000 in
set_option maxHeartbeats 4000000 in
theorem mX0_init (l : Launch) (hl0 : l.stackTraces = false) (g : GE) (th zc zp : Nat) : CM l yX0_init cX0_init 1 2 60 6 694 g [(th, .inr (0, [.null, .null, .null]))] (OZ g zc zp [] none) [.ref th] 6 (fun w => [(th, .inr (0, [.ref (w.getD 0 0), .ref (w.getD 2 0), .ref (w.getD 4 0)])), ((w.getD 0 0), .inr (1, [.ref (w.getD 1 0), .int (-1), .int 0])), ((w.getD 1 0), .inl (g.2.1, 49, .inl (fun _ => 0))), ((w.getD 2 0), .inr (1, [.ref (w.getD 3 0), .int (-1), .int 0])), ((w.getD 3 0), .inl (g.2.1, 49, .inl (fun _ => 0))), ((w.getD 4 0), .inr (3, [.ref (w.getD 5 0), .int 0])), ((w.getD 5 0), .inl (g.2.1, 588, .inl (fun _ => 0)))]) := by
  refine metC_intro (by decide) rfl ?_
  intro p e R s m args below meth c Q A hRf hRl hRc hRs hQ hx hb hml hr hlocks hex hown hts hin hE hSR hA hO H locs hP hD hS ls hl
  have hin : meth.name = "<init>" := hin
  have hown : s.vm.findClass "HallGuards$Advice" = some m.cls := hown
  have hl : lv_has ls 1 [(0, .ref th)] := hl
  refine lv_aload_n hx hb dX0_init_0 rfl (lv_at hl 0 rfl) ?_
  refine W.objInit hx hb hown (hts _ ml_X0_3) (hts _ im_obj) (hts _ co_obj) rfl (hl.1.trans hml.symm) rfl dX0_init_1 (Nat.le_trans (Nat.le_of_ble_eq_true rfl) hRf) (Nat.le_trans (Nat.le_of_ble_eq_true rfl) hRl) ?_
  show W p l e R s m args below meth c H locs 0 0 Q (F0 m 4 ls [])
  refine lv_aload_n hx hb dX0_init_4 rfl (lv_at hl 0 rfl) ?_
  refine va_new hx hb hts inX1 tyX1 tyX1_ok hown (hts _ cl_X0_9) (hts _ ins_X1) (hts _ ini_X1) hE.1 hP hD hS hA (ci := 1) rfl (fs := [.null, .int 0, .int 0]) (by decide) (Nat.le_trans (Nat.le_of_ble_eq_true rfl) hRc) (Nat.le_trans (Nat.le_of_ble_eq_true rfl) hRs) dX0_init_5 (fun q_1 H hP hD hS => ?_)
  have hP : va_P g.1 vwCl [(th, .inr (0, [.null, .null, .null])), (q_1, .inr (1, [.null, .int 0, .int 0]))] H := hP
  have hD : va_D A [(th, .inr (0, [.null, .null, .null])), (q_1, .inr (1, [.null, .int 0, .int 0]))] := hD
  refine lv_dup hx hb dX0_init_8 rfl ?_
  refine cIN (As := []) (rest := [.ref q_1, .ref th]) (cs := [(q_1, .inr (1, [.null, .int 0, .int 0]))]) ⟨hx, hb, hml, hown, hts⟩ hE hSR (mX1_init l hl0 g q_1 zc zp) (OZ_ok g zc zp _ _) hO cf_X1_init im_X1_init rfl ml_X0_11 ⟨Nat.le_trans (Nat.le_of_ble_eq_true rfl) hRf, Nat.le_trans (Nat.le_of_ble_eq_true rfl) hRl⟩ hP hD hS hA [1] [0] rfl (wr := [(th, .inr (0, [.null, .null, .null]))]) rfl ⟨by decide, by decide⟩ (by decide) rfl hl.1 rfl (Nat.le_of_ble_eq_true rfl) dX0_init_9 ⟨Nat.le_trans (Nat.le_of_ble_eq_true rfl) hRc, Nat.le_trans (Nat.le_of_ble_eq_true rfl) hRs⟩ (fun w_2 H locs hw_2 hP hD hS => ?_)
  have hP : va_P g.1 vwCl [(th, .inr (0, [.null, .null, .null])), (q_1, .inr (1, [.ref (w_2.getD 0 0), .int (-1), .int 0])), ((w_2.getD 0 0), .inl (g.2.1, 49, .inl (fun _ => 0)))] H := hP
  have hD : va_D A [(th, .inr (0, [.null, .null, .null])), (q_1, .inr (1, [.ref (w_2.getD 0 0), .int (-1), .int 0])), ((w_2.getD 0 0), .inl (g.2.1, 49, .inl (fun _ => 0)))] := hD
  refine pf_X0_12 hx hb hts hown hin hE hP hD hS 0 rfl rfl rfl rfl dX0_init_12 (fun H locs hP hD hS => ?_)
  have hP : va_P g.1 vwCl [(th, .inr (0, [.ref q_1, .null, .null])), (q_1, .inr (1, [.ref (w_2.getD 0 0), .int (-1), .int 0])), ((w_2.getD 0 0), .inl (g.2.1, 49, .inl (fun _ => 0)))] H := hP
  have hD : va_D A [(th, .inr (0, [.ref q_1, .null, .null])), (q_1, .inr (1, [.ref (w_2.getD 0 0), .int (-1), .int 0])), ((w_2.getD 0 0), .inl (g.2.1, 49, .inl (fun _ => 0)))] := hD
  refine lv_aload_n hx hb dX0_init_15 rfl (lv_at hl 0 rfl) ?_
  refine va_new hx hb hts inX1 tyX1 tyX1_ok hown (hts _ cl_X0_9) (hts _ ins_X1) (hts _ ini_X1) hE.1 hP hD hS hA (ci := 1) rfl (fs := [.null, .int 0, .int 0]) (by decide) (Nat.le_trans (Nat.le_of_ble_eq_true rfl) hRc) (Nat.le_trans (Nat.le_of_ble_eq_true rfl) hRs) dX0_init_16 (fun q_3 H hP hD hS => ?_)
  have hP : va_P g.1 vwCl [(th, .inr (0, [.ref q_1, .null, .null])), (q_1, .inr (1, [.ref (w_2.getD 0 0), .int (-1), .int 0])), ((w_2.getD 0 0), .inl (g.2.1, 49, .inl (fun _ => 0))), (q_3, .inr (1, [.null, .int 0, .int 0]))] H := hP
  have hD : va_D A [(th, .inr (0, [.ref q_1, .null, .null])), (q_1, .inr (1, [.ref (w_2.getD 0 0), .int (-1), .int 0])), ((w_2.getD 0 0), .inl (g.2.1, 49, .inl (fun _ => 0))), (q_3, .inr (1, [.null, .int 0, .int 0]))] := hD
  refine lv_dup hx hb dX0_init_19 rfl ?_
  refine cIN (As := []) (rest := [.ref q_3, .ref th]) (cs := [(q_3, .inr (1, [.null, .int 0, .int 0]))]) ⟨hx, hb, hml, hown, hts⟩ hE hSR (mX1_init l hl0 g q_3 zc zp) (OZ_ok g zc zp _ _) hO cf_X1_init im_X1_init rfl ml_X0_11 ⟨Nat.le_trans (Nat.le_of_ble_eq_true rfl) hRf, Nat.le_trans (Nat.le_of_ble_eq_true rfl) hRl⟩ hP hD hS hA [3] [0, 1, 2] rfl (wr := [(th, .inr (0, [.ref q_1, .null, .null])), (q_1, .inr (1, [.ref (w_2.getD 0 0), .int (-1), .int 0])), ((w_2.getD 0 0), .inl (g.2.1, 49, .inl (fun _ => 0)))]) rfl ⟨by decide, by decide⟩ (by decide) rfl hl.1 rfl (Nat.le_of_ble_eq_true rfl) dX0_init_20 ⟨Nat.le_trans (Nat.le_of_ble_eq_true rfl) hRc, Nat.le_trans (Nat.le_of_ble_eq_true rfl) hRs⟩ (fun w_4 H locs hw_4 hP hD hS => ?_)
  have hP : va_P g.1 vwCl [(th, .inr (0, [.ref q_1, .null, .null])), (q_1, .inr (1, [.ref (w_2.getD 0 0), .int (-1), .int 0])), ((w_2.getD 0 0), .inl (g.2.1, 49, .inl (fun _ => 0))), (q_3, .inr (1, [.ref (w_4.getD 0 0), .int (-1), .int 0])), ((w_4.getD 0 0), .inl (g.2.1, 49, .inl (fun _ => 0)))] H := hP
  have hD : va_D A [(th, .inr (0, [.ref q_1, .null, .null])), (q_1, .inr (1, [.ref (w_2.getD 0 0), .int (-1), .int 0])), ((w_2.getD 0 0), .inl (g.2.1, 49, .inl (fun _ => 0))), (q_3, .inr (1, [.ref (w_4.getD 0 0), .int (-1), .int 0])), ((w_4.getD 0 0), .inl (g.2.1, 49, .inl (fun _ => 0)))] := hD
  refine pf_X0_18 hx hb hts hown hin hE hP hD hS 0 rfl rfl rfl rfl dX0_init_23 (fun H locs hP hD hS => ?_)
  have hP : va_P g.1 vwCl [(th, .inr (0, [.ref q_1, .ref q_3, .null])), (q_1, .inr (1, [.ref (w_2.getD 0 0), .int (-1), .int 0])), ((w_2.getD 0 0), .inl (g.2.1, 49, .inl (fun _ => 0))), (q_3, .inr (1, [.ref (w_4.getD 0 0), .int (-1), .int 0])), ((w_4.getD 0 0), .inl (g.2.1, 49, .inl (fun _ => 0)))] H := hP
  have hD : va_D A [(th, .inr (0, [.ref q_1, .ref q_3, .null])), (q_1, .inr (1, [.ref (w_2.getD 0 0), .int (-1), .int 0])), ((w_2.getD 0 0), .inl (g.2.1, 49, .inl (fun _ => 0))), (q_3, .inr (1, [.ref (w_4.getD 0 0), .int (-1), .int 0])), ((w_4.getD 0 0), .inl (g.2.1, 49, .inl (fun _ => 0)))] := hD
  refine lv_aload_n hx hb dX0_init_26 rfl (lv_at hl 0 rfl) ?_
  refine va_new hx hb hts inX3 tyX3 tyX3_ok hown (hts _ cl_X0_21) (hts _ ins_X3) (hts _ ini_X3) hE.1 hP hD hS hA (ci := 3) rfl (fs := [.null, .int 0]) (by decide) (Nat.le_trans (Nat.le_of_ble_eq_true rfl) hRc) (Nat.le_trans (Nat.le_of_ble_eq_true rfl) hRs) dX0_init_27 (fun q_5 H hP hD hS => ?_)
  have hP : va_P g.1 vwCl [(th, .inr (0, [.ref q_1, .ref q_3, .null])), (q_1, .inr (1, [.ref (w_2.getD 0 0), .int (-1), .int 0])), ((w_2.getD 0 0), .inl (g.2.1, 49, .inl (fun _ => 0))), (q_3, .inr (1, [.ref (w_4.getD 0 0), .int (-1), .int 0])), ((w_4.getD 0 0), .inl (g.2.1, 49, .inl (fun _ => 0))), (q_5, .inr (3, [.null, .int 0]))] H := hP
  have hD : va_D A [(th, .inr (0, [.ref q_1, .ref q_3, .null])), (q_1, .inr (1, [.ref (w_2.getD 0 0), .int (-1), .int 0])), ((w_2.getD 0 0), .inl (g.2.1, 49, .inl (fun _ => 0))), (q_3, .inr (1, [.ref (w_4.getD 0 0), .int (-1), .int 0])), ((w_4.getD 0 0), .inl (g.2.1, 49, .inl (fun _ => 0))), (q_5, .inr (3, [.null, .int 0]))] := hD
  refine lv_dup hx hb dX0_init_30 rfl ?_
  refine cIN (As := []) (rest := [.ref q_5, .ref th]) (cs := [(q_5, .inr (3, [.null, .int 0]))]) ⟨hx, hb, hml, hown, hts⟩ hE hSR (mX3_init l hl0 g q_5 zc zp) (OZ_ok g zc zp _ _) hO cf_X3_init im_X3_init rfl ml_X0_23 ⟨Nat.le_trans (Nat.le_of_ble_eq_true rfl) hRf, Nat.le_trans (Nat.le_of_ble_eq_true rfl) hRl⟩ hP hD hS hA [5] [0, 1, 2, 3, 4] rfl (wr := [(th, .inr (0, [.ref q_1, .ref q_3, .null])), (q_1, .inr (1, [.ref (w_2.getD 0 0), .int (-1), .int 0])), ((w_2.getD 0 0), .inl (g.2.1, 49, .inl (fun _ => 0))), (q_3, .inr (1, [.ref (w_4.getD 0 0), .int (-1), .int 0])), ((w_4.getD 0 0), .inl (g.2.1, 49, .inl (fun _ => 0)))]) rfl ⟨by decide, by decide⟩ (by decide) rfl hl.1 rfl (Nat.le_of_ble_eq_true rfl) dX0_init_31 ⟨Nat.le_trans (Nat.le_of_ble_eq_true rfl) hRc, Nat.le_trans (Nat.le_of_ble_eq_true rfl) hRs⟩ (fun w_6 H locs hw_6 hP hD hS => ?_)
  have hP : va_P g.1 vwCl [(th, .inr (0, [.ref q_1, .ref q_3, .null])), (q_1, .inr (1, [.ref (w_2.getD 0 0), .int (-1), .int 0])), ((w_2.getD 0 0), .inl (g.2.1, 49, .inl (fun _ => 0))), (q_3, .inr (1, [.ref (w_4.getD 0 0), .int (-1), .int 0])), ((w_4.getD 0 0), .inl (g.2.1, 49, .inl (fun _ => 0))), (q_5, .inr (3, [.ref (w_6.getD 0 0), .int 0])), ((w_6.getD 0 0), .inl (g.2.1, 588, .inl (fun _ => 0)))] H := hP
  have hD : va_D A [(th, .inr (0, [.ref q_1, .ref q_3, .null])), (q_1, .inr (1, [.ref (w_2.getD 0 0), .int (-1), .int 0])), ((w_2.getD 0 0), .inl (g.2.1, 49, .inl (fun _ => 0))), (q_3, .inr (1, [.ref (w_4.getD 0 0), .int (-1), .int 0])), ((w_4.getD 0 0), .inl (g.2.1, 49, .inl (fun _ => 0))), (q_5, .inr (3, [.ref (w_6.getD 0 0), .int 0])), ((w_6.getD 0 0), .inl (g.2.1, 588, .inl (fun _ => 0)))] := hD
  refine pf_X0_24 hx hb hts hown hin hE hP hD hS 0 rfl rfl rfl rfl dX0_init_34 (fun H locs hP hD hS => ?_)
  have hP : va_P g.1 vwCl [(th, .inr (0, [.ref q_1, .ref q_3, .ref q_5])), (q_1, .inr (1, [.ref (w_2.getD 0 0), .int (-1), .int 0])), ((w_2.getD 0 0), .inl (g.2.1, 49, .inl (fun _ => 0))), (q_3, .inr (1, [.ref (w_4.getD 0 0), .int (-1), .int 0])), ((w_4.getD 0 0), .inl (g.2.1, 49, .inl (fun _ => 0))), (q_5, .inr (3, [.ref (w_6.getD 0 0), .int 0])), ((w_6.getD 0 0), .inl (g.2.1, 588, .inl (fun _ => 0)))] H := hP
  have hD : va_D A [(th, .inr (0, [.ref q_1, .ref q_3, .ref q_5])), (q_1, .inr (1, [.ref (w_2.getD 0 0), .int (-1), .int 0])), ((w_2.getD 0 0), .inl (g.2.1, 49, .inl (fun _ => 0))), (q_3, .inr (1, [.ref (w_4.getD 0 0), .int (-1), .int 0])), ((w_4.getD 0 0), .inl (g.2.1, 49, .inl (fun _ => 0))), (q_5, .inr (3, [.ref (w_6.getD 0 0), .int 0])), ((w_6.getD 0 0), .inl (g.2.1, 588, .inl (fun _ => 0)))] := hD
  subst hQ
  exact xrC [q_1, (w_2.getD 0 0), q_3, (w_4.getD 0 0), q_5, (w_6.getD 0 0)] hx hb hr hlocks rfl hP hD hS (Nat.le_of_ble_eq_true rfl) (Nat.le_of_ble_eq_true rfl) dX0_init_37

set_option maxRecDepth 100000 in
set_option maxHeartbeats 4000000 in
theorem mX7_init (l : Launch) (hl0 : l.stackTraces = false) (g : GE) (th zc zp : Nat) : CM l yX7_init cX7_init 1 2 60 2 52 g [(th, .inr (7, [.null, .int 0, .int 0, .int 0, .null, .int 0, .int 0, .int 0, .int 0, .int 0, .int 0]))] (OZ g zc zp [] none) [.ref th] 2 (fun w => [(th, .inr (7, [.ref (w.getD 0 0), .int 0, .int 0, .int 0, .null, .int 0, .int 0, .int 0, .int 0, .int 0, .int 0])), ((w.getD 0 0), .inr (1, [.ref (w.getD 1 0), .int (-1), .int 0])), ((w.getD 1 0), .inl (g.2.1, 49, .inl (fun _ => 0)))]) := by
  refine metC_intro (by decide) rfl ?_
  intro p e R s m args below meth c Q A hRf hRl hRc hRs hQ hx hb hml hr hlocks hex hown hts hin hE hSR hA hO H locs hP hD hS ls hl
  have hin : meth.name = "<init>" := hin
  have hown : s.vm.findClass "HallGuards$State" = some m.cls := hown
  have hl : lv_has ls 1 [(0, .ref th)] := hl
  refine lv_aload_n hx hb dX7_init_0 rfl (lv_at hl 0 rfl) ?_
  refine W.objInit hx hb hown (hts _ ml_X7_3) (hts _ im_obj) (hts _ co_obj) rfl (hl.1.trans hml.symm) rfl dX7_init_1 (Nat.le_trans (Nat.le_of_ble_eq_true rfl) hRf) (Nat.le_trans (Nat.le_of_ble_eq_true rfl) hRl) ?_
  show W p l e R s m args below meth c H locs 0 0 Q (F0 m 4 ls [])
  refine lv_aload_n hx hb dX7_init_4 rfl (lv_at hl 0 rfl) ?_
  refine va_new hx hb hts inX1 tyX1 tyX1_ok hown (hts _ cl_X7_9) (hts _ ins_X1) (hts _ ini_X1) hE.1 hP hD hS hA (ci := 1) rfl (fs := [.null, .int 0, .int 0]) (by decide) (Nat.le_trans (Nat.le_of_ble_eq_true rfl) hRc) (Nat.le_trans (Nat.le_of_ble_eq_true rfl) hRs) dX7_init_5 (fun q_1 H hP hD hS => ?_)
  have hP : va_P g.1 vwCl [(th, .inr (7, [.null, .int 0, .int 0, .int 0, .null, .int 0, .int 0, .int 0, .int 0, .int 0, .int 0])), (q_1, .inr (1, [.null, .int 0, .int 0]))] H := hP
  have hD : va_D A [(th, .inr (7, [.null, .int 0, .int 0, .int 0, .null, .int 0, .int 0, .int 0, .int 0, .int 0, .int 0])), (q_1, .inr (1, [.null, .int 0, .int 0]))] := hD
  refine lv_dup hx hb dX7_init_8 rfl ?_
  refine cIN (As := []) (rest := [.ref q_1, .ref th]) (cs := [(q_1, .inr (1, [.null, .int 0, .int 0]))]) ⟨hx, hb, hml, hown, hts⟩ hE hSR (mX1_init l hl0 g q_1 zc zp) (OZ_ok g zc zp _ _) hO cf_X1_init im_X1_init rfl ml_X7_11 ⟨Nat.le_trans (Nat.le_of_ble_eq_true rfl) hRf, Nat.le_trans (Nat.le_of_ble_eq_true rfl) hRl⟩ hP hD hS hA [1] [0] rfl (wr := [(th, .inr (7, [.null, .int 0, .int 0, .int 0, .null, .int 0, .int 0, .int 0, .int 0, .int 0, .int 0]))]) rfl ⟨by decide, by decide⟩ (by decide) rfl hl.1 rfl (Nat.le_of_ble_eq_true rfl) dX7_init_9 ⟨Nat.le_trans (Nat.le_of_ble_eq_true rfl) hRc, Nat.le_trans (Nat.le_of_ble_eq_true rfl) hRs⟩ (fun w_2 H locs hw_2 hP hD hS => ?_)
  have hP : va_P g.1 vwCl [(th, .inr (7, [.null, .int 0, .int 0, .int 0, .null, .int 0, .int 0, .int 0, .int 0, .int 0, .int 0])), (q_1, .inr (1, [.ref (w_2.getD 0 0), .int (-1), .int 0])), ((w_2.getD 0 0), .inl (g.2.1, 49, .inl (fun _ => 0)))] H := hP
  have hD : va_D A [(th, .inr (7, [.null, .int 0, .int 0, .int 0, .null, .int 0, .int 0, .int 0, .int 0, .int 0, .int 0])), (q_1, .inr (1, [.ref (w_2.getD 0 0), .int (-1), .int 0])), ((w_2.getD 0 0), .inl (g.2.1, 49, .inl (fun _ => 0)))] := hD
  refine pf_X7_12 hx hb hts hown hin hE hP hD hS 0 rfl rfl rfl rfl dX7_init_12 (fun H locs hP hD hS => ?_)
  have hP : va_P g.1 vwCl [(th, .inr (7, [.ref q_1, .int 0, .int 0, .int 0, .null, .int 0, .int 0, .int 0, .int 0, .int 0, .int 0])), (q_1, .inr (1, [.ref (w_2.getD 0 0), .int (-1), .int 0])), ((w_2.getD 0 0), .inl (g.2.1, 49, .inl (fun _ => 0)))] H := hP
  have hD : va_D A [(th, .inr (7, [.ref q_1, .int 0, .int 0, .int 0, .null, .int 0, .int 0, .int 0, .int 0, .int 0, .int 0])), (q_1, .inr (1, [.ref (w_2.getD 0 0), .int (-1), .int 0])), ((w_2.getD 0 0), .inl (g.2.1, 49, .inl (fun _ => 0)))] := hD
  subst hQ
  exact xrC [q_1, (w_2.getD 0 0)] hx hb hr hlocks rfl hP hD hS (Nat.le_of_ble_eq_true rfl) (Nat.le_of_ble_eq_true rfl) dX7_init_15

def fJxe99ae_isNaN_b9ae7 (a1 : UInt64) : Option Int32 :=
  if (Op.cmpValue (FP.dcmp a1 a1) CmpOp.l) = 0 then (some 0) else (some 1)
set_option maxRecDepth 100000 in
set_option maxHeartbeats 4000000 in
theorem mJxe99ae_isNaN_b9ae7 (l : Launch) (g : GE) (a1 : UInt64) (r : Int32) (hyp : fJxe99ae_isNaN_b9ae7 a1 = some r) : PI l yJxe99ae_isNaN_b9ae7 cJxe99ae_isNaN_b9ae7 2 (some .boolean) 0 0 g [] [.double a1] r := by
  refine metP_intro (by decide) rfl ?_
  intro p e R s m args below meth c Q hRf hRl hQ hx hb hml hr hlocks hown hts hin hE hP ls hl
  have hown : s.vm.findClass "java/lang/Double" = some m.cls := hown
  have hl : lv_has ls 2 [(0, .double a1)] := hl
  unfold fJxe99ae_isNaN_b9ae7 at hyp
  refine lv_dload_n hx hb dJxe99ae_isNaN_b9ae7_0 rfl (lv_at hl 0 rfl) ?_
  refine lv_dload_n hx hb dJxe99ae_isNaN_b9ae7_1 rfl (lv_at hl 0 rfl) ?_
  refine lv_dcmp hx hb dJxe99ae_isNaN_b9ae7_2 ?_
  refine lv_if_eq (tgt := 10) hx hb dJxe99ae_isNaN_b9ae7_3 (by decide) (fun h_1 => ?_) (fun h_1 => ?_)
  · replace hyp := ite_t h_1 hyp
    refine lv_iconst (v := 0) hx hb dJxe99ae_isNaN_b9ae7_10 (by decide) ?_
    subst hQ
    exact rZ hx hb hr hlocks (Or.inl rfl) (some_e hyp) dJxe99ae_isNaN_b9ae7_11
  · replace hyp := ite_f h_1 hyp
    refine lv_iconst (v := 1) hx hb dJxe99ae_isNaN_b9ae7_6 (by decide) ?_
    refine lv_goto (tgt := 11) hx hb dJxe99ae_isNaN_b9ae7_7 (by decide) ?_
    subst hQ
    exact rZ hx hb hr hlocks (Or.inr rfl) (some_e hyp) dJxe99ae_isNaN_b9ae7_11

def fJxe99ae_doubleToLongBits_ccdee (a1 : UInt64) : Option Int64 :=
  (fJxe99ae_isNaN_b9ae7 a1).bind (fun (r_1 : Int32) => if r_1 = 0 then (some a1.toInt64) else (some 9221120237041090560))
set_option maxRecDepth 100000 in
set_option maxHeartbeats 4000000 in
theorem mJxe99ae_doubleToLongBits_ccdee (l : Launch) (g : GE) (a1 : UInt64) (r : Int64) (hyp : fJxe99ae_doubleToLongBits_ccdee a1 = some r) : PJ l yJxe99ae_doubleToLongBits_ccdee cJxe99ae_doubleToLongBits_ccdee 2 (some .long) 1 40 g [] [.double a1] r := by
  refine metP_intro (by decide) rfl ?_
  intro p e R s m args below meth c Q hRf hRl hQ hx hb hml hr hlocks hown hts hin hE hP ls hl
  have hown : s.vm.findClass "java/lang/Double" = some m.cls := hown
  have hl : lv_has ls 2 [(0, .double a1)] := hl
  unfold fJxe99ae_doubleToLongBits_ccdee at hyp
  refine lv_dload_n hx hb dJxe99ae_doubleToLongBits_ccdee_0 rfl (lv_at hl 0 rfl) ?_
  obtain ⟨r_1, hr_1, hyp⟩ := opt_e hyp
  refine pS (As := [.double a1]) (rest := []) ⟨hx, hb, hml, hown, hts⟩ hE (mJxe99ae_isNaN_b9ae7 l g a1 r_1 hr_1) cf_Jxe99ae_isNaN_b9ae7 st_Jxe99ae_isNaN_b9ae7 ml_Jxe99ae_122 ⟨Nat.le_trans (Nat.le_of_ble_eq_true rfl) hRf, Nat.le_trans (Nat.le_of_ble_eq_true rfl) hRl⟩ (va_P_nil) rfl hl.1 rfl (Nat.le_of_ble_eq_true rfl) dJxe99ae_doubleToLongBits_ccdee_1 ⟨Nat.zero_le _, Nat.zero_le _⟩ ?_
  refine lv_if_ne (tgt := 12) hx hb dJxe99ae_doubleToLongBits_ccdee_4 (by decide) (fun h_2 => ?_) (fun h_2 => ?_)
  · replace hyp := ite_f h_2 hyp
    refine lv_ldc2 (v := 9221120237041090560) hx hb hown (hts _ ct_Jxe99ae_137) dJxe99ae_doubleToLongBits_ccdee_12 ?_
    subst hQ
    exact rJ hx hb hr hlocks (some_e hyp) dJxe99ae_doubleToLongBits_ccdee_15
  · replace hyp := ite_t h_2 hyp
    refine lv_dload_n hx hb dJxe99ae_doubleToLongBits_ccdee_7 rfl (lv_at hl 0 rfl) ?_
    refine vn_d2l hx hb (hml.trans hl.1.symm) hown (hts _ ml_Jxe99ae_134) (hts _ nat_rl) (hts _ st_rl) (hts _ ini_Double) (Nat.le_trans (Nat.le_of_ble_eq_true rfl) hRf) (Nat.le_trans (Nat.le_of_ble_eq_true rfl) hRl) dJxe99ae_doubleToLongBits_ccdee_8 ?_
    subst hQ
    exact rJ hx hb hr hlocks (some_e hyp) dJxe99ae_doubleToLongBits_ccdee_11

def fX9_digest_L453_B (len : Int32) (ftext : Nat → Int32) (r_22 : Int64 × (Nat → Int32)) (r_31 : Int32 × (Nat → Int32)) (self_55 : Int64 → Int32 → Option (Int64 × Int32 × (Nat → Int32) × (Nat → Int32))) (v1_53 : Int64) (v5_54 : Int32) : Option (Int64 × Int32 × (Nat → Int32) × (Nat → Int32)) :=
  if len ≤ v5_54 then (some (v1_53, 0, r_22.2, r_31.2)) else (grd (inB v5_54 60) ((fX9_mix v1_53 ((ftext v5_54.toNatClampNeg).toInt64)).bind (fun (r_57 : Int64) => self_55 r_57 (v5_54 + 1))))
def fX9_digest_L453 (len : Int32) (ftext : Nat → Int32) (r_22 : Int64 × (Nat → Int32)) (r_31 : Int32 × (Nat → Int32)) (n : Nat) (v1_53 : Int64) (v5_54 : Int32) : Option (Int64 × Int32 × (Nat → Int32) × (Nat → Int32)) := lp (fun zf z => fX9_digest_L453_B len ftext r_22 r_31 (fun v1_53 v5_54 => zf (v1_53, v5_54)) z.1 z.2) n (v1_53, v5_54)
def fX9_digest_L11_B (nst : Int32) (len : Int32) (fnow : Nat → Int32) (ftri : Nat → Int32) (fway : Nat → Int32) (fisk : Nat → Int32) (ffst : Nat → Int64) (flst : Nat → Int64) (fbef : Nat → Int32) (ftext : Nat → Int32) (self_3 : Int64 → Int32 → Option (Int64 × Int32 × (Nat → Int32) × (Nat → Int32))) (v1_1 : Int64) (v3_2 : Int32) : Option (Int64 × Int32 × (Nat → Int32) × (Nat → Int32)) :=
  if 49 ≤ v3_2 then ((fX9_king fnow).bind (fun (r_5 : Int32) => (fX9_kingMoves fnow fway).bind (fun (r_6 : Int32 × (Nat → Int32)) => (fX9_count fnow 0).bind (fun (r_7 : Int32) => (fX9_mix v1_1 r_7.toInt64).bind (fun (r_8 : Int64) => (fX9_count fnow 1).bind (fun (r_9 : Int32) => (fX9_mix r_8 r_9.toInt64).bind (fun (r_10 : Int64) => (fX9_mix r_10 ((r_5 + 1).toInt64)).bind (fun (r_11 : Int64) => grd (inB 52 61) ((fX9_mix r_11 ((fnow (52 : Int32).toNatClampNeg).toInt64)).bind (fun (r_12 : Int64) => grd (inB 50 61) ((fX9_mix r_12 ((fnow (50 : Int32).toNatClampNeg).toInt64)).bind (fun (r_13 : Int64) => grd (inB 50 61) (jn (fun (t_14 : Int64) => (fX9_mix r_13 t_14).bind (fun (r_16 : Int64) => grd (inB 53 61) ((fX9_mix r_16 ((fnow (53 : Int32).toNatClampNeg).toInt64)).bind (fun (r_17 : Int64) => grd (inB 50 61) (jn (fun (t_18 : Int64) => (fX9_mix r_17 t_18).bind (fun (r_20 : Int64) => (fX9_sideHash fnow ftri r_20 0).bind (fun (r_21 : Int64 × (Nat → Int32)) => (fX9_sideHash fnow r_21.2 r_21.1 1).bind (fun (r_22 : Int64 × (Nat → Int32)) => jn (fun (t_23 : Int64) => (fX9_mix r_22.1 t_23).bind (fun (r_25 : Int64) => jn (fun (t_26 : Int64) => (fX9_mix r_25 t_26).bind (fun (r_28 : Int64) => (fX9_corners fnow r_6.2).bind (fun (r_29 : Int32 × (Nat → Int32)) => (fX9_mix r_28 r_29.1.toInt64).bind (fun (r_30 : Int64) => (fX9_reach fnow r_29.2).bind (fun (r_31 : Int32 × (Nat → Int32)) => (fX9_mix r_30 r_31.1.toInt64).bind (fun (r_32 : Int64) => jn (fun (t_33 : Int64) => (fX9_mix r_32 t_33).bind (fun (r_35 : Int64) => grd (inB 55 61) ((fX9_mix r_35 ((fnow (55 : Int32).toNatClampNeg).toInt64)).bind (fun (r_36 : Int64) => grd (inB 56 61) ((fX9_mix r_36 ((fnow (56 : Int32).toNatClampNeg).toInt64)).bind (fun (r_37 : Int64) => grd (inB 57 61) ((fX9_mix r_37 ((fnow (57 : Int32).toNatClampNeg).toInt64)).bind (fun (r_38 : Int64) => grd (inB 58 61) ((fX9_mix r_38 ((fnow (58 : Int32).toNatClampNeg).toInt64)).bind (fun (r_39 : Int64) => grd (inB 59 61) ((fX9_mix r_39 ((fnow (59 : Int32).toNatClampNeg).toInt64)).bind (fun (r_40 : Int64) => grd (inB 54 61) ((fX9_mix r_40 ((fnow (54 : Int32).toNatClampNeg).toInt64)).bind (fun (r_41 : Int64) => (fX9_mix r_41 nst.toInt64).bind (fun (r_42 : Int64) => (fX9_mean fnow).bind (fun (r_43 : UInt64) => (fJxe99ae_doubleToLongBits_ccdee r_43).bind (fun (r_44 : Int64) => (fX9_mix r_42 r_44).bind (fun (r_45 : Int64) => grd (inB 0 2) (jn (fun (t_46 : Int64) => (fX9_mix r_45 t_46).bind (fun (r_48 : Int64) => grd (inB 1 2) (jn (fun (t_49 : Int64) => (fX9_mix r_48 t_49).bind (fun (r_51 : Int64) => (fX9_mix r_51 len.toInt64).bind (fun (r_52 : Int64) => fX9_digest_L453 len ftext r_22 r_31 64 r_52 0))) (fun J_50 => if (fisk (1 : Int32).toNatClampNeg) = 0 then (J_50 0) else (J_50 1))))) (fun J_47 => if (fisk (0 : Int32).toNatClampNeg) = 0 then (J_47 0) else (J_47 1))))))))))))))))))))) (fun J_34 => if r_5 = (-1) then (J_34 0) else ((fX9_pressure fnow).bind (fun (r_61 : Int32) => J_34 ((r_61 + 1).toInt64)))))))))) (fun J_27 => if r_6.1 = (-1) then (J_27 0) else (J_27 r_6.1.toInt64)))) (fun J_24 => if r_6.1 = (-1) then (J_24 0) else (J_24 r_6.1.toInt64)))))) (fun J_19 => if (fnow (50 : Int32).toNatClampNeg) = 0 then (J_19 0) else ((fX9_seen ffst flst fbef fnow).bind (fun (r_65 : Int32) => J_19 r_65.toInt64)))))))) (fun J_15 => if (fnow (50 : Int32).toNatClampNeg) = 1 then (grd (inB 49 61) (J_15 (((fnow (49 : Int32).toNatClampNeg) + 1).toInt64))) else (J_15 0))))))))))))))) else (grd (inB v3_2 61) ((fX9_mix v1_1 ((fnow v3_2.toNatClampNeg).toInt64)).bind (fun (r_67 : Int64) => (fX9_hostile fnow v3_2 0).bind (fun (r_68 : Int32) => jn (fun (t_69 : Int64) => (fX9_mix r_67 t_69).bind (fun (r_71 : Int64) => (fX9_hostile fnow v3_2 1).bind (fun (r_72 : Int32) => jn (fun (t_73 : Int64) => (fX9_mix r_71 t_73).bind (fun (r_75 : Int64) => (fX9_goals fnow v3_2).bind (fun (r_76 : Int32) => (fX9_mix r_75 r_76.toInt64).bind (fun (r_77 : Int64) => self_3 r_77 (v3_2 + 1))))) (fun J_74 => if r_72 = 0 then (J_74 0) else (J_74 1))))) (fun J_70 => if r_68 = 0 then (J_70 0) else (J_70 1))))))
def fX9_digest_L11 (nst : Int32) (len : Int32) (fnow : Nat → Int32) (ftri : Nat → Int32) (fway : Nat → Int32) (fisk : Nat → Int32) (ffst : Nat → Int64) (flst : Nat → Int64) (fbef : Nat → Int32) (ftext : Nat → Int32) (n : Nat) (v1_1 : Int64) (v3_2 : Int32) : Option (Int64 × Int32 × (Nat → Int32) × (Nat → Int32)) := lp (fun zf z => fX9_digest_L11_B nst len fnow ftri fway fisk ffst flst fbef ftext (fun v1_1 v3_2 => zf (v1_1, v3_2)) z.1 z.2) n (v1_1, v3_2)
def fX9_digest (nst : Int32) (len : Int32) (fnow : Nat → Int32) (ftri : Nat → Int32) (fway : Nat → Int32) (fisk : Nat → Int32) (ffst : Nat → Int64) (flst : Nat → Int64) (fbef : Nat → Int32) (ftext : Nat → Int32) : Option (Int64 × Int32 × (Nat → Int32) × (Nat → Int32)) :=
  fX9_digest_L11 nst len fnow ftri fway fisk ffst flst fbef ftext 64 4451 0
set_option maxRecDepth 100000 in
set_option maxHeartbeats 4000000 in
theorem mX9_digest (l : Launch) (g : GE) (o pn pt pw pi pf pl pe px pr pb pk pm : Nat) (refu : Int32) (nst : Int32) (nn : Int32) (len : Int32) (pos : Int32) (gd : Int32) (ps : Int32) (sm : Int32) (fnow : Nat → Int32) (ftri : Nat → Int32) (fway : Nat → Int32) (fisk : Nat → Int32) (ffst : Nat → Int64) (flst : Nat → Int64) (fbef : Nat → Int32) (ftext : Nat → Int32) (r : Int64 × Int32 × (Nat → Int32) × (Nat → Int32)) (hyp : fX9_digest nst len fnow ftri fway fisk ffst flst fbef ftext = some r) : WM l yX9_digest cX9_digest 6 (some .long) 8 203 g [(o, .inr (9, [.int refu, .ref pn, .ref pt, .ref pr, .ref pw, .ref pb, .int nst, .ref pk, .ref pi, .ref pf, .ref pl, .ref pe, .ref pm, .int nn, .ref px, .int len, .int pos, .int gd, .int ps, .int sm])), (pn, .inl (g.2.1, 61, .inl fnow)), (pt, .inl (g.2.1, 61, .inl ftri)), (pw, .inl (g.2.1, 49, .inl fway)), (pi, .inl (g.2.2.2.1, 2, .inl fisk)), (pf, .inl (g.2.2.1, 4096, .inr (.inl ffst))), (pl, .inl (g.2.2.1, 4096, .inr (.inl flst))), (pe, .inl (g.2.1, 4096, .inl fbef)), (px, .inl (g.2.1, 60, .inl ftext))] [.ref o] (some (.long r.1)) [(o, .inr (9, [.int r.2.1, .ref pn, .ref pt, .ref pr, .ref pw, .ref pb, .int nst, .ref pk, .ref pi, .ref pf, .ref pl, .ref pe, .ref pm, .int nn, .ref px, .int len, .int pos, .int gd, .int ps, .int sm])), (pn, .inl (g.2.1, 61, .inl fnow)), (pt, .inl (g.2.1, 61, .inl r.2.2.1)), (pw, .inl (g.2.1, 49, .inl r.2.2.2)), (pi, .inl (g.2.2.2.1, 2, .inl fisk)), (pf, .inl (g.2.2.1, 4096, .inr (.inl ffst))), (pl, .inl (g.2.2.1, 4096, .inr (.inl flst))), (pe, .inl (g.2.1, 4096, .inl fbef)), (px, .inl (g.2.1, 60, .inl ftext))] := by
  refine metW_intro (by decide) rfl ?_
  intro p e R s m args below meth c Q A hRf hRl hQ hx hb hml hr hlocks hown hts hin hE hA H locs hP hD hS ls hl
  have hown : s.vm.findClass "HallGuardsModel" = some m.cls := hown
  have hl : lv_has ls 6 [(0, .ref o)] := hl
  unfold fX9_digest at hyp
  refine lv_aload_n hx hb dX9_digest_0 rfl (lv_at hl 0 rfl) ?_
  refine lv_iconst (v := 0) hx hb dX9_digest_1 (by decide) ?_
  refine pf_X9_52 hx hb hts hown hE hP hD hS 0 rfl rfl dX9_digest_2 (fun H locs hP hD hS => ?_)
  have hP : va_P g.1 vwCl [(o, .inr (9, [.int 0, .ref pn, .ref pt, .ref pr, .ref pw, .ref pb, .int nst, .ref pk, .ref pi, .ref pf, .ref pl, .ref pe, .ref pm, .int nn, .ref px, .int len, .int pos, .int gd, .int ps, .int sm])), (pn, .inl (g.2.1, 61, .inl fnow)), (pt, .inl (g.2.1, 61, .inl ftri)), (pw, .inl (g.2.1, 49, .inl fway)), (pi, .inl (g.2.2.2.1, 2, .inl fisk)), (pf, .inl (g.2.2.1, 4096, .inr (.inl ffst))), (pl, .inl (g.2.2.1, 4096, .inr (.inl flst))), (pe, .inl (g.2.1, 4096, .inl fbef)), (px, .inl (g.2.1, 60, .inl ftext))] H := hP
  have hD : va_D A [(o, .inr (9, [.int 0, .ref pn, .ref pt, .ref pr, .ref pw, .ref pb, .int nst, .ref pk, .ref pi, .ref pf, .ref pl, .ref pe, .ref pm, .int nn, .ref px, .int len, .int pos, .int gd, .int ps, .int sm])), (pn, .inl (g.2.1, 61, .inl fnow)), (pt, .inl (g.2.1, 61, .inl ftri)), (pw, .inl (g.2.1, 49, .inl fway)), (pi, .inl (g.2.2.2.1, 2, .inl fisk)), (pf, .inl (g.2.2.1, 4096, .inr (.inl ffst))), (pl, .inl (g.2.2.1, 4096, .inr (.inl flst))), (pe, .inl (g.2.1, 4096, .inl fbef)), (px, .inl (g.2.1, 60, .inl ftext))] := hD
  refine lv_ldc2 (v := 4451) hx hb hown (hts _ ct_X9_272) dX9_digest_5 ?_
  refine lv_lstore_n (lv' := [(1, .long 4451), (0, .ref o)]) hx hb dX9_digest_8 rfl hl (by decide) rfl (fun ls hl => ?_)
  refine lv_iconst (v := 0) hx hb dX9_digest_9 (by decide) ?_
  refine lv_istore_n (lv' := [(3, .int 0), (1, .long 4451), (0, .ref o)]) hx hb dX9_digest_10 rfl hl (by decide) rfl (fun ls hl => ?_)
  refine lp_i (r := r) (fun z : Int64 × Int32 => ∀ (H : Heap) (locs : List Loc) (ls : Array Slot), lv_has ls 6 [(0, .ref o), (1, .long z.1), (3, .int z.2)] → va_P g.1 vwCl [(o, .inr (9, [.int 0, .ref pn, .ref pt, .ref pr, .ref pw, .ref pb, .int nst, .ref pk, .ref pi, .ref pf, .ref pl, .ref pe, .ref pm, .int nn, .ref px, .int len, .int pos, .int gd, .int ps, .int sm])), (pn, .inl (g.2.1, 61, .inl fnow)), (pt, .inl (g.2.1, 61, .inl ftri)), (pw, .inl (g.2.1, 49, .inl fway)), (pi, .inl (g.2.2.2.1, 2, .inl fisk)), (pf, .inl (g.2.2.1, 4096, .inr (.inl ffst))), (pl, .inl (g.2.2.1, 4096, .inr (.inl flst))), (pe, .inl (g.2.1, 4096, .inl fbef)), (px, .inl (g.2.1, 60, .inl ftext))] H → va_D A [(o, .inr (9, [.int 0, .ref pn, .ref pt, .ref pr, .ref pw, .ref pb, .int nst, .ref pk, .ref pi, .ref pf, .ref pl, .ref pe, .ref pm, .int nn, .ref px, .int len, .int pos, .int gd, .int ps, .int sm])), (pn, .inl (g.2.1, 61, .inl fnow)), (pt, .inl (g.2.1, 61, .inl ftri)), (pw, .inl (g.2.1, 49, .inl fway)), (pi, .inl (g.2.2.2.1, 2, .inl fisk)), (pf, .inl (g.2.2.1, 4096, .inr (.inl ffst))), (pl, .inl (g.2.2.1, 4096, .inr (.inl flst))), (pe, .inl (g.2.1, 4096, .inl fbef)), (px, .inl (g.2.1, 60, .inl ftext))] → va_S A s.heap H locs → W p l e R s m args below meth c H locs 0 0 Q (F0 m 11 ls [])) ?_ 64 (4451, 0) hyp _ _ ls (lv_sub hl [2, 1, 0] rfl) hP hD hS
  intro self_3T ihself_3T z hyp H locs ls hl hP hD hS
  obtain ⟨v1_1, v3_2⟩ := z
  obtain ⟨self_3, eself_3⟩ : ∃ f9 : Int64 → Int32 → Option (Int64 × Int32 × (Nat → Int32) × (Nat → Int32)), f9 = fun v1_1 v3_2 => self_3T (v1_1, v3_2) := ⟨_, rfl⟩
  have ihself_3 := fun (v1_1 : Int64) (v3_2 : Int32) (h9 : self_3 v1_1 v3_2 = some r) => ihself_3T (v1_1, v3_2) (by rw [eself_3] at h9; exact h9)
  replace hyp : fX9_digest_L11_B nst len fnow ftri fway fisk ffst flst fbef ftext self_3 v1_1 v3_2 = some r := by rw [eself_3]; exact hyp
  have hl : lv_has ls 6 [(0, .ref o), (1, .long v1_1), (3, .int v3_2)] := hl
  have hP : va_P g.1 vwCl [(o, .inr (9, [.int 0, .ref pn, .ref pt, .ref pr, .ref pw, .ref pb, .int nst, .ref pk, .ref pi, .ref pf, .ref pl, .ref pe, .ref pm, .int nn, .ref px, .int len, .int pos, .int gd, .int ps, .int sm])), (pn, .inl (g.2.1, 61, .inl fnow)), (pt, .inl (g.2.1, 61, .inl ftri)), (pw, .inl (g.2.1, 49, .inl fway)), (pi, .inl (g.2.2.2.1, 2, .inl fisk)), (pf, .inl (g.2.2.1, 4096, .inr (.inl ffst))), (pl, .inl (g.2.2.1, 4096, .inr (.inl flst))), (pe, .inl (g.2.1, 4096, .inl fbef)), (px, .inl (g.2.1, 60, .inl ftext))] H := hP
  have hD : va_D A [(o, .inr (9, [.int 0, .ref pn, .ref pt, .ref pr, .ref pw, .ref pb, .int nst, .ref pk, .ref pi, .ref pf, .ref pl, .ref pe, .ref pm, .int nn, .ref px, .int len, .int pos, .int gd, .int ps, .int sm])), (pn, .inl (g.2.1, 61, .inl fnow)), (pt, .inl (g.2.1, 61, .inl ftri)), (pw, .inl (g.2.1, 49, .inl fway)), (pi, .inl (g.2.2.2.1, 2, .inl fisk)), (pf, .inl (g.2.2.1, 4096, .inr (.inl ffst))), (pl, .inl (g.2.2.1, 4096, .inr (.inl flst))), (pe, .inl (g.2.1, 4096, .inl fbef)), (px, .inl (g.2.1, 60, .inl ftext))] := hD
  show W p l e R s m args below meth c H locs 0 0 Q (F0 m 11 ls [])
  unfold fX9_digest_L11_B at hyp
  refine lv_iload_n hx hb dX9_digest_11 rfl (lv_at hl 2 rfl) ?_
  refine lv_bipush (v := 49) hx hb dX9_digest_12 (by decide) ?_
  refine lv_icmp_ge (tgt := 89) hx hb dX9_digest_14 (by decide) (fun h_4 => ?_) (fun h_4 => ?_)
  · replace hyp := ite_t h_4 hyp
    refine lv_aload_n hx hb dX9_digest_89 rfl (lv_at hl 0 rfl) ?_
    refine gf_X9_7 hx hb hts hown hE hP 0 rfl rfl dX9_digest_90 ?_
    obtain ⟨r_5, hr_5, hyp⟩ := opt_e hyp
    refine pS (As := [.ref pn]) (rest := []) ⟨hx, hb, hml, hown, hts⟩ hE (mX9_king l g pn fnow r_5 hr_5) cf_X9_king st_X9_king ml_X9_98 ⟨Nat.le_trans (Nat.le_of_ble_eq_true rfl) hRf, Nat.le_trans (Nat.le_of_ble_eq_true rfl) hRl⟩ (hP.sub (ws' := [(pn, .inl (g.2.1, 61, .inl fnow))]) [1] rfl) rfl hl.1 rfl (Nat.le_of_ble_eq_true rfl) dX9_digest_93 ⟨Nat.zero_le _, Nat.zero_le _⟩ ?_
    refine lv_istore_n (lv' := [(3, .int r_5), (0, .ref o), (1, .long v1_1)]) hx hb dX9_digest_96 rfl hl (by decide) rfl (fun ls hl => ?_)
    refine lv_aload_n hx hb dX9_digest_97 rfl (lv_at hl 1 rfl) ?_
    obtain ⟨r_6, hr_6, hyp⟩ := opt_e hyp
    refine wV (As := []) (rest := []) ⟨hx, hb, hml, hown, hts⟩ hE (mX9_kingMoves l g o pn pw pt pr pb pk pi pf pl pe pm px 0 nst nn len pos gd ps sm fnow fway r_6 hr_6) cf_X9_kingMoves im_X9_kingMoves se_X9_kingMoves ml_X9_241 ⟨Nat.le_trans (Nat.le_of_ble_eq_true rfl) hRf, Nat.le_trans (Nat.le_of_ble_eq_true rfl) hRl⟩ hP hD hS hA [0, 1, 3] [2, 4, 5, 6, 7, 8] rfl (wr := [(pt, .inl (g.2.1, 61, .inl ftri)), (pi, .inl (g.2.2.2.1, 2, .inl fisk)), (pf, .inl (g.2.2.1, 4096, .inr (.inl ffst))), (pl, .inl (g.2.2.1, 4096, .inr (.inl flst))), (pe, .inl (g.2.1, 4096, .inl fbef)), (px, .inl (g.2.1, 60, .inl ftext))]) rfl ⟨by decide, by decide⟩ (by decide) (ci := 9) (q0 := 0) rfl rfl rfl rfl hl.1 rfl (Nat.le_of_ble_eq_true rfl) dX9_digest_98 ⟨Nat.zero_le _, Nat.zero_le _⟩ (fun H locs hP hD hS => ?_)
    have hP : va_P g.1 vwCl [(pt, .inl (g.2.1, 61, .inl ftri)), (pi, .inl (g.2.2.2.1, 2, .inl fisk)), (pf, .inl (g.2.2.1, 4096, .inr (.inl ffst))), (pl, .inl (g.2.2.1, 4096, .inr (.inl flst))), (pe, .inl (g.2.1, 4096, .inl fbef)), (px, .inl (g.2.1, 60, .inl ftext)), (o, .inr (9, [.int 0, .ref pn, .ref pt, .ref pr, .ref pw, .ref pb, .int nst, .ref pk, .ref pi, .ref pf, .ref pl, .ref pe, .ref pm, .int nn, .ref px, .int len, .int pos, .int gd, .int ps, .int sm])), (pn, .inl (g.2.1, 61, .inl fnow)), (pw, .inl (g.2.1, 49, .inl r_6.2))] H := hP
    have hD : va_D A [(pt, .inl (g.2.1, 61, .inl ftri)), (pi, .inl (g.2.2.2.1, 2, .inl fisk)), (pf, .inl (g.2.2.1, 4096, .inr (.inl ffst))), (pl, .inl (g.2.2.1, 4096, .inr (.inl flst))), (pe, .inl (g.2.1, 4096, .inl fbef)), (px, .inl (g.2.1, 60, .inl ftext)), (o, .inr (9, [.int 0, .ref pn, .ref pt, .ref pr, .ref pw, .ref pb, .int nst, .ref pk, .ref pi, .ref pf, .ref pl, .ref pe, .ref pm, .int nn, .ref px, .int len, .int pos, .int gd, .int ps, .int sm])), (pn, .inl (g.2.1, 61, .inl fnow)), (pw, .inl (g.2.1, 49, .inl r_6.2))] := hD
    refine lv_istore (lv' := [(4, .int r_6.1), (3, .int r_5), (0, .ref o), (1, .long v1_1)]) hx hb dX9_digest_101 hl (by decide) rfl (fun ls hl => ?_)
    refine lv_lload_n hx hb dX9_digest_103 rfl (lv_at hl 3 rfl) ?_
    refine lv_aload_n hx hb dX9_digest_104 rfl (lv_at hl 2 rfl) ?_
    refine gf_X9_7 hx hb hts hown hE hP 6 rfl rfl dX9_digest_105 ?_
    refine lv_iconst (v := 0) hx hb dX9_digest_108 (by decide) ?_
    obtain ⟨r_7, hr_7, hyp⟩ := opt_e hyp
    refine pS (As := [.ref pn, .int 0]) (rest := [.long v1_1]) ⟨hx, hb, hml, hown, hts⟩ hE (mX9_count l g pn fnow 0 r_7 hr_7) cf_X9_count st_X9_count ml_X9_212 ⟨Nat.le_trans (Nat.le_of_ble_eq_true rfl) hRf, Nat.le_trans (Nat.le_of_ble_eq_true rfl) hRl⟩ (hP.sub (ws' := [(pn, .inl (g.2.1, 61, .inl fnow))]) [7] rfl) rfl hl.1 rfl (Nat.le_of_ble_eq_true rfl) dX9_digest_109 ⟨Nat.zero_le _, Nat.zero_le _⟩ ?_
    refine lv_i2l hx hb dX9_digest_112 rfl ?_
    obtain ⟨r_8, hr_8, hyp⟩ := opt_e hyp
    refine pSJ (As := [.long v1_1, .long r_7.toInt64]) (rest := []) ⟨hx, hb, hml, hown, hts⟩ hE (mX9_mix l g v1_1 r_7.toInt64 r_8 hr_8) cf_X9_mix st_X9_mix ml_X9_268 ⟨Nat.le_trans (Nat.le_of_ble_eq_true rfl) hRf, Nat.le_trans (Nat.le_of_ble_eq_true rfl) hRl⟩ (va_P_nil) rfl hl.1 rfl (Nat.le_of_ble_eq_true rfl) dX9_digest_113 ⟨Nat.zero_le _, Nat.zero_le _⟩ ?_
    refine lv_aload_n hx hb dX9_digest_116 rfl (lv_at hl 2 rfl) ?_
    refine gf_X9_7 hx hb hts hown hE hP 6 rfl rfl dX9_digest_117 ?_
    refine lv_iconst (v := 1) hx hb dX9_digest_120 (by decide) ?_
    obtain ⟨r_9, hr_9, hyp⟩ := opt_e hyp
    refine pS (As := [.ref pn, .int 1]) (rest := [.long r_8]) ⟨hx, hb, hml, hown, hts⟩ hE (mX9_count l g pn fnow 1 r_9 hr_9) cf_X9_count st_X9_count ml_X9_212 ⟨Nat.le_trans (Nat.le_of_ble_eq_true rfl) hRf, Nat.le_trans (Nat.le_of_ble_eq_true rfl) hRl⟩ (hP.sub (ws' := [(pn, .inl (g.2.1, 61, .inl fnow))]) [7] rfl) rfl hl.1 rfl (Nat.le_of_ble_eq_true rfl) dX9_digest_121 ⟨Nat.zero_le _, Nat.zero_le _⟩ ?_
    refine lv_i2l hx hb dX9_digest_124 rfl ?_
    obtain ⟨r_10, hr_10, hyp⟩ := opt_e hyp
    refine pSJ (As := [.long r_8, .long r_9.toInt64]) (rest := []) ⟨hx, hb, hml, hown, hts⟩ hE (mX9_mix l g r_8 r_9.toInt64 r_10 hr_10) cf_X9_mix st_X9_mix ml_X9_268 ⟨Nat.le_trans (Nat.le_of_ble_eq_true rfl) hRf, Nat.le_trans (Nat.le_of_ble_eq_true rfl) hRl⟩ (va_P_nil) rfl hl.1 rfl (Nat.le_of_ble_eq_true rfl) dX9_digest_125 ⟨Nat.zero_le _, Nat.zero_le _⟩ ?_
    refine lv_iload_n hx hb dX9_digest_128 rfl (lv_at hl 1 rfl) ?_
    refine lv_iconst (v := 1) hx hb dX9_digest_129 (by decide) ?_
    refine lv_iadd hx hb dX9_digest_130 ?_
    refine lv_i2l hx hb dX9_digest_131 rfl ?_
    obtain ⟨r_11, hr_11, hyp⟩ := opt_e hyp
    refine pSJ (As := [.long r_10, .long ((r_5 + 1).toInt64)]) (rest := []) ⟨hx, hb, hml, hown, hts⟩ hE (mX9_mix l g r_10 ((r_5 + 1).toInt64) r_11 hr_11) cf_X9_mix st_X9_mix ml_X9_268 ⟨Nat.le_trans (Nat.le_of_ble_eq_true rfl) hRf, Nat.le_trans (Nat.le_of_ble_eq_true rfl) hRl⟩ (va_P_nil) rfl hl.1 rfl (Nat.le_of_ble_eq_true rfl) dX9_digest_132 ⟨Nat.zero_le _, Nat.zero_le _⟩ ?_
    refine lv_lstore_n (lv' := [(1, .long r_11), (4, .int r_6.1), (3, .int r_5), (0, .ref o)]) hx hb dX9_digest_135 rfl hl (by decide) rfl (fun ls hl => ?_)
    refine lv_lload_n hx hb dX9_digest_136 rfl (lv_at hl 0 rfl) ?_
    refine lv_aload_n hx hb dX9_digest_137 rfl (lv_at hl 3 rfl) ?_
    refine gf_X9_7 hx hb hts hown hE hP 6 rfl rfl dX9_digest_138 ?_
    refine lv_bipush (v := 52) hx hb dX9_digest_141 (by decide) ?_
    obtain ⟨hi, hyp⟩ := grd_e hyp
    refine va_iald hx hb hE.1 hP 7 0 rfl rfl (inB_vp hi) dX9_digest_143 ?_
    refine lv_i2l hx hb dX9_digest_144 rfl ?_
    obtain ⟨r_12, hr_12, hyp⟩ := opt_e hyp
    refine pSJ (As := [.long r_11, .long ((fnow (52 : Int32).toNatClampNeg).toInt64)]) (rest := []) ⟨hx, hb, hml, hown, hts⟩ hE (mX9_mix l g r_11 ((fnow (52 : Int32).toNatClampNeg).toInt64) r_12 hr_12) cf_X9_mix st_X9_mix ml_X9_268 ⟨Nat.le_trans (Nat.le_of_ble_eq_true rfl) hRf, Nat.le_trans (Nat.le_of_ble_eq_true rfl) hRl⟩ (va_P_nil) rfl hl.1 rfl (Nat.le_of_ble_eq_true rfl) dX9_digest_145 ⟨Nat.zero_le _, Nat.zero_le _⟩ ?_
    refine lv_aload_n hx hb dX9_digest_148 rfl (lv_at hl 3 rfl) ?_
    refine gf_X9_7 hx hb hts hown hE hP 6 rfl rfl dX9_digest_149 ?_
    refine lv_bipush (v := 50) hx hb dX9_digest_152 (by decide) ?_
    obtain ⟨hi, hyp⟩ := grd_e hyp
    refine va_iald hx hb hE.1 hP 7 0 rfl rfl (inB_vp hi) dX9_digest_154 ?_
    refine lv_i2l hx hb dX9_digest_155 rfl ?_
    obtain ⟨r_13, hr_13, hyp⟩ := opt_e hyp
    refine pSJ (As := [.long r_12, .long ((fnow (50 : Int32).toNatClampNeg).toInt64)]) (rest := []) ⟨hx, hb, hml, hown, hts⟩ hE (mX9_mix l g r_12 ((fnow (50 : Int32).toNatClampNeg).toInt64) r_13 hr_13) cf_X9_mix st_X9_mix ml_X9_268 ⟨Nat.le_trans (Nat.le_of_ble_eq_true rfl) hRf, Nat.le_trans (Nat.le_of_ble_eq_true rfl) hRl⟩ (va_P_nil) rfl hl.1 rfl (Nat.le_of_ble_eq_true rfl) dX9_digest_156 ⟨Nat.zero_le _, Nat.zero_le _⟩ ?_
    refine lv_lstore_n (lv' := [(1, .long r_13), (4, .int r_6.1), (3, .int r_5), (0, .ref o)]) hx hb dX9_digest_159 rfl hl (by decide) rfl (fun ls hl => ?_)
    refine lv_lload_n hx hb dX9_digest_160 rfl (lv_at hl 0 rfl) ?_
    refine lv_aload_n hx hb dX9_digest_161 rfl (lv_at hl 3 rfl) ?_
    refine gf_X9_7 hx hb hts hown hE hP 6 rfl rfl dX9_digest_162 ?_
    refine lv_bipush (v := 50) hx hb dX9_digest_165 (by decide) ?_
    obtain ⟨hi, hyp⟩ := grd_e hyp
    refine va_iald hx hb hE.1 hP 7 0 rfl rfl (inB_vp hi) dX9_digest_167 ?_
    refine lv_iconst (v := 1) hx hb dX9_digest_168 (by decide) ?_
    have hP : va_P g.1 vwCl [(o, .inr (9, [.int 0, .ref pn, .ref pt, .ref pr, .ref pw, .ref pb, .int nst, .ref pk, .ref pi, .ref pf, .ref pl, .ref pe, .ref pm, .int nn, .ref px, .int len, .int pos, .int gd, .int ps, .int sm])), (pn, .inl (g.2.1, 61, .inl fnow)), (pt, .inl (g.2.1, 61, .inl ftri)), (pw, .inl (g.2.1, 49, .inl r_6.2)), (pi, .inl (g.2.2.2.1, 2, .inl fisk)), (pf, .inl (g.2.2.1, 4096, .inr (.inl ffst))), (pl, .inl (g.2.2.1, 4096, .inr (.inl flst))), (pe, .inl (g.2.1, 4096, .inl fbef)), (px, .inl (g.2.1, 60, .inl ftext))] H := hP.sub [6, 7, 0, 8, 1, 2, 3, 4, 5] rfl
    have hD : va_D A [(o, .inr (9, [.int 0, .ref pn, .ref pt, .ref pr, .ref pw, .ref pb, .int nst, .ref pk, .ref pi, .ref pf, .ref pl, .ref pe, .ref pm, .int nn, .ref px, .int len, .int pos, .int gd, .int ps, .int sm])), (pn, .inl (g.2.1, 61, .inl fnow)), (pt, .inl (g.2.1, 61, .inl ftri)), (pw, .inl (g.2.1, 49, .inl r_6.2)), (pi, .inl (g.2.2.2.1, 2, .inl fisk)), (pf, .inl (g.2.2.1, 4096, .inr (.inl ffst))), (pl, .inl (g.2.2.1, 4096, .inr (.inl flst))), (pe, .inl (g.2.1, 4096, .inl fbef)), (px, .inl (g.2.1, 60, .inl ftext))] := hD.sub [6, 7, 0, 8, 1, 2, 3, 4, 5] (by decide) rfl
    obtain ⟨J_15, eJ_15, hyp⟩ := jn_e hyp
    have kJ_15 : ∀ (t_14 : Int64) (H : Heap) (locs : List Loc) (ls : Array Slot), J_15 t_14 = some r → lv_has ls 6 [(0, .ref o), (3, .int r_5), (4, .int r_6.1)] → va_P g.1 vwCl [(o, .inr (9, [.int 0, .ref pn, .ref pt, .ref pr, .ref pw, .ref pb, .int nst, .ref pk, .ref pi, .ref pf, .ref pl, .ref pe, .ref pm, .int nn, .ref px, .int len, .int pos, .int gd, .int ps, .int sm])), (pn, .inl (g.2.1, 61, .inl fnow)), (pt, .inl (g.2.1, 61, .inl ftri)), (pw, .inl (g.2.1, 49, .inl r_6.2)), (pi, .inl (g.2.2.2.1, 2, .inl fisk)), (pf, .inl (g.2.2.1, 4096, .inr (.inl ffst))), (pl, .inl (g.2.2.1, 4096, .inr (.inl flst))), (pe, .inl (g.2.1, 4096, .inl fbef)), (px, .inl (g.2.1, 60, .inl ftext))] H → va_D A [(o, .inr (9, [.int 0, .ref pn, .ref pt, .ref pr, .ref pw, .ref pb, .int nst, .ref pk, .ref pi, .ref pf, .ref pl, .ref pe, .ref pm, .int nn, .ref px, .int len, .int pos, .int gd, .int ps, .int sm])), (pn, .inl (g.2.1, 61, .inl fnow)), (pt, .inl (g.2.1, 61, .inl ftri)), (pw, .inl (g.2.1, 49, .inl r_6.2)), (pi, .inl (g.2.2.2.1, 2, .inl fisk)), (pf, .inl (g.2.2.1, 4096, .inr (.inl ffst))), (pl, .inl (g.2.2.1, 4096, .inr (.inl flst))), (pe, .inl (g.2.1, 4096, .inl fbef)), (px, .inl (g.2.1, 60, .inl ftext))] → va_S A s.heap H locs → W p l e R s m args below meth c H locs 0 0 Q (F0 m 186 ls [.long t_14, .long r_13]) := by
      intro t_14 H locs  ls hyp hl hP hD hS
      replace hyp := (congrFun (eJ_15) t_14).symm.trans hyp
      obtain ⟨r_16, hr_16, hyp⟩ := opt_e hyp
      refine pSJ (As := [.long r_13, .long t_14]) (rest := []) ⟨hx, hb, hml, hown, hts⟩ hE (mX9_mix l g r_13 t_14 r_16 hr_16) cf_X9_mix st_X9_mix ml_X9_268 ⟨Nat.le_trans (Nat.le_of_ble_eq_true rfl) hRf, Nat.le_trans (Nat.le_of_ble_eq_true rfl) hRl⟩ (va_P_nil) rfl hl.1 rfl (Nat.le_of_ble_eq_true rfl) dX9_digest_186 ⟨Nat.zero_le _, Nat.zero_le _⟩ ?_
      refine lv_aload_n hx hb dX9_digest_189 rfl (lv_at hl 0 rfl) ?_
      refine gf_X9_7 hx hb hts hown hE hP 0 rfl rfl dX9_digest_190 ?_
      refine lv_bipush (v := 53) hx hb dX9_digest_193 (by decide) ?_
      obtain ⟨hi, hyp⟩ := grd_e hyp
      refine va_iald hx hb hE.1 hP 1 0 rfl rfl (inB_vp hi) dX9_digest_195 ?_
      refine lv_i2l hx hb dX9_digest_196 rfl ?_
      obtain ⟨r_17, hr_17, hyp⟩ := opt_e hyp
      refine pSJ (As := [.long r_16, .long ((fnow (53 : Int32).toNatClampNeg).toInt64)]) (rest := []) ⟨hx, hb, hml, hown, hts⟩ hE (mX9_mix l g r_16 ((fnow (53 : Int32).toNatClampNeg).toInt64) r_17 hr_17) cf_X9_mix st_X9_mix ml_X9_268 ⟨Nat.le_trans (Nat.le_of_ble_eq_true rfl) hRf, Nat.le_trans (Nat.le_of_ble_eq_true rfl) hRl⟩ (va_P_nil) rfl hl.1 rfl (Nat.le_of_ble_eq_true rfl) dX9_digest_197 ⟨Nat.zero_le _, Nat.zero_le _⟩ ?_
      refine lv_lstore_n (lv' := [(1, .long r_17), (0, .ref o), (3, .int r_5), (4, .int r_6.1)]) hx hb dX9_digest_200 rfl hl (by decide) rfl (fun ls hl => ?_)
      refine lv_lload_n hx hb dX9_digest_201 rfl (lv_at hl 0 rfl) ?_
      refine lv_aload_n hx hb dX9_digest_202 rfl (lv_at hl 1 rfl) ?_
      refine gf_X9_7 hx hb hts hown hE hP 0 rfl rfl dX9_digest_203 ?_
      refine lv_bipush (v := 50) hx hb dX9_digest_206 (by decide) ?_
      obtain ⟨hi, hyp⟩ := grd_e hyp
      refine va_iald hx hb hE.1 hP 1 0 rfl rfl (inB_vp hi) dX9_digest_208 ?_
      obtain ⟨J_19, eJ_19, hyp⟩ := jn_e hyp
      have kJ_19 : ∀ (t_18 : Int64) (H : Heap) (locs : List Loc) (ls : Array Slot), J_19 t_18 = some r → lv_has ls 6 [(0, .ref o), (3, .int r_5), (4, .int r_6.1)] → va_P g.1 vwCl [(o, .inr (9, [.int 0, .ref pn, .ref pt, .ref pr, .ref pw, .ref pb, .int nst, .ref pk, .ref pi, .ref pf, .ref pl, .ref pe, .ref pm, .int nn, .ref px, .int len, .int pos, .int gd, .int ps, .int sm])), (pn, .inl (g.2.1, 61, .inl fnow)), (pt, .inl (g.2.1, 61, .inl ftri)), (pw, .inl (g.2.1, 49, .inl r_6.2)), (pi, .inl (g.2.2.2.1, 2, .inl fisk)), (pf, .inl (g.2.2.1, 4096, .inr (.inl ffst))), (pl, .inl (g.2.2.1, 4096, .inr (.inl flst))), (pe, .inl (g.2.1, 4096, .inl fbef)), (px, .inl (g.2.1, 60, .inl ftext))] H → va_D A [(o, .inr (9, [.int 0, .ref pn, .ref pt, .ref pr, .ref pw, .ref pb, .int nst, .ref pk, .ref pi, .ref pf, .ref pl, .ref pe, .ref pm, .int nn, .ref px, .int len, .int pos, .int gd, .int ps, .int sm])), (pn, .inl (g.2.1, 61, .inl fnow)), (pt, .inl (g.2.1, 61, .inl ftri)), (pw, .inl (g.2.1, 49, .inl r_6.2)), (pi, .inl (g.2.2.2.1, 2, .inl fisk)), (pf, .inl (g.2.2.1, 4096, .inr (.inl ffst))), (pl, .inl (g.2.2.1, 4096, .inr (.inl flst))), (pe, .inl (g.2.1, 4096, .inl fbef)), (px, .inl (g.2.1, 60, .inl ftext))] → va_S A s.heap H locs → W p l e R s m args below meth c H locs 0 0 Q (F0 m 225 ls [.long t_18, .long r_17]) := by
        intro t_18 H locs  ls hyp hl hP hD hS
        replace hyp := (congrFun (eJ_19) t_18).symm.trans hyp
        obtain ⟨r_20, hr_20, hyp⟩ := opt_e hyp
        refine pSJ (As := [.long r_17, .long t_18]) (rest := []) ⟨hx, hb, hml, hown, hts⟩ hE (mX9_mix l g r_17 t_18 r_20 hr_20) cf_X9_mix st_X9_mix ml_X9_268 ⟨Nat.le_trans (Nat.le_of_ble_eq_true rfl) hRf, Nat.le_trans (Nat.le_of_ble_eq_true rfl) hRl⟩ (va_P_nil) rfl hl.1 rfl (Nat.le_of_ble_eq_true rfl) dX9_digest_225 ⟨Nat.zero_le _, Nat.zero_le _⟩ ?_
        refine lv_lstore_n (lv' := [(1, .long r_20), (0, .ref o), (3, .int r_5), (4, .int r_6.1)]) hx hb dX9_digest_228 rfl hl (by decide) rfl (fun ls hl => ?_)
        refine lv_aload_n hx hb dX9_digest_229 rfl (lv_at hl 1 rfl) ?_
        refine lv_aload_n hx hb dX9_digest_230 rfl (lv_at hl 1 rfl) ?_
        refine lv_lload_n hx hb dX9_digest_231 rfl (lv_at hl 0 rfl) ?_
        refine lv_iconst (v := 0) hx hb dX9_digest_232 (by decide) ?_
        obtain ⟨r_21, hr_21, hyp⟩ := opt_e hyp
        refine wV (As := [.long r_20, .int 0]) (rest := [.ref o]) ⟨hx, hb, hml, hown, hts⟩ hE (mX9_sideHash l g o pn pt pr pw pb pk pi pf pl pe pm px 0 nst nn len pos gd ps sm fnow ftri r_20 0 r_21 hr_21) cf_X9_sideHash im_X9_sideHash se_X9_sideHash ml_X9_274 ⟨Nat.le_trans (Nat.le_of_ble_eq_true rfl) hRf, Nat.le_trans (Nat.le_of_ble_eq_true rfl) hRl⟩ hP hD hS hA [0, 1, 2] [3, 4, 5, 6, 7, 8] rfl (wr := [(pw, .inl (g.2.1, 49, .inl r_6.2)), (pi, .inl (g.2.2.2.1, 2, .inl fisk)), (pf, .inl (g.2.2.1, 4096, .inr (.inl ffst))), (pl, .inl (g.2.2.1, 4096, .inr (.inl flst))), (pe, .inl (g.2.1, 4096, .inl fbef)), (px, .inl (g.2.1, 60, .inl ftext))]) rfl ⟨by decide, by decide⟩ (by decide) (ci := 9) (q0 := 0) rfl rfl rfl rfl hl.1 rfl (Nat.le_of_ble_eq_true rfl) dX9_digest_233 ⟨Nat.zero_le _, Nat.zero_le _⟩ (fun H locs hP hD hS => ?_)
        have hP : va_P g.1 vwCl [(pw, .inl (g.2.1, 49, .inl r_6.2)), (pi, .inl (g.2.2.2.1, 2, .inl fisk)), (pf, .inl (g.2.2.1, 4096, .inr (.inl ffst))), (pl, .inl (g.2.2.1, 4096, .inr (.inl flst))), (pe, .inl (g.2.1, 4096, .inl fbef)), (px, .inl (g.2.1, 60, .inl ftext)), (o, .inr (9, [.int 0, .ref pn, .ref pt, .ref pr, .ref pw, .ref pb, .int nst, .ref pk, .ref pi, .ref pf, .ref pl, .ref pe, .ref pm, .int nn, .ref px, .int len, .int pos, .int gd, .int ps, .int sm])), (pn, .inl (g.2.1, 61, .inl fnow)), (pt, .inl (g.2.1, 61, .inl r_21.2))] H := hP
        have hD : va_D A [(pw, .inl (g.2.1, 49, .inl r_6.2)), (pi, .inl (g.2.2.2.1, 2, .inl fisk)), (pf, .inl (g.2.2.1, 4096, .inr (.inl ffst))), (pl, .inl (g.2.2.1, 4096, .inr (.inl flst))), (pe, .inl (g.2.1, 4096, .inl fbef)), (px, .inl (g.2.1, 60, .inl ftext)), (o, .inr (9, [.int 0, .ref pn, .ref pt, .ref pr, .ref pw, .ref pb, .int nst, .ref pk, .ref pi, .ref pf, .ref pl, .ref pe, .ref pm, .int nn, .ref px, .int len, .int pos, .int gd, .int ps, .int sm])), (pn, .inl (g.2.1, 61, .inl fnow)), (pt, .inl (g.2.1, 61, .inl r_21.2))] := hD
        refine lv_iconst (v := 1) hx hb dX9_digest_236 (by decide) ?_
        obtain ⟨r_22, hr_22, hyp⟩ := opt_e hyp
        refine wV (As := [.long r_21.1, .int 1]) (rest := []) ⟨hx, hb, hml, hown, hts⟩ hE (mX9_sideHash l g o pn pt pr pw pb pk pi pf pl pe pm px 0 nst nn len pos gd ps sm fnow r_21.2 r_21.1 1 r_22 hr_22) cf_X9_sideHash im_X9_sideHash se_X9_sideHash ml_X9_274 ⟨Nat.le_trans (Nat.le_of_ble_eq_true rfl) hRf, Nat.le_trans (Nat.le_of_ble_eq_true rfl) hRl⟩ hP hD hS hA [6, 7, 8] [0, 1, 2, 3, 4, 5] rfl (wr := [(pw, .inl (g.2.1, 49, .inl r_6.2)), (pi, .inl (g.2.2.2.1, 2, .inl fisk)), (pf, .inl (g.2.2.1, 4096, .inr (.inl ffst))), (pl, .inl (g.2.2.1, 4096, .inr (.inl flst))), (pe, .inl (g.2.1, 4096, .inl fbef)), (px, .inl (g.2.1, 60, .inl ftext))]) rfl ⟨by decide, by decide⟩ (by decide) (ci := 9) (q0 := 0) rfl rfl rfl rfl hl.1 rfl (Nat.le_of_ble_eq_true rfl) dX9_digest_237 ⟨Nat.zero_le _, Nat.zero_le _⟩ (fun H locs hP hD hS => ?_)
        have hP : va_P g.1 vwCl [(pw, .inl (g.2.1, 49, .inl r_6.2)), (pi, .inl (g.2.2.2.1, 2, .inl fisk)), (pf, .inl (g.2.2.1, 4096, .inr (.inl ffst))), (pl, .inl (g.2.2.1, 4096, .inr (.inl flst))), (pe, .inl (g.2.1, 4096, .inl fbef)), (px, .inl (g.2.1, 60, .inl ftext)), (o, .inr (9, [.int 0, .ref pn, .ref pt, .ref pr, .ref pw, .ref pb, .int nst, .ref pk, .ref pi, .ref pf, .ref pl, .ref pe, .ref pm, .int nn, .ref px, .int len, .int pos, .int gd, .int ps, .int sm])), (pn, .inl (g.2.1, 61, .inl fnow)), (pt, .inl (g.2.1, 61, .inl r_22.2))] H := hP
        have hD : va_D A [(pw, .inl (g.2.1, 49, .inl r_6.2)), (pi, .inl (g.2.2.2.1, 2, .inl fisk)), (pf, .inl (g.2.2.1, 4096, .inr (.inl ffst))), (pl, .inl (g.2.2.1, 4096, .inr (.inl flst))), (pe, .inl (g.2.1, 4096, .inl fbef)), (px, .inl (g.2.1, 60, .inl ftext)), (o, .inr (9, [.int 0, .ref pn, .ref pt, .ref pr, .ref pw, .ref pb, .int nst, .ref pk, .ref pi, .ref pf, .ref pl, .ref pe, .ref pm, .int nn, .ref px, .int len, .int pos, .int gd, .int ps, .int sm])), (pn, .inl (g.2.1, 61, .inl fnow)), (pt, .inl (g.2.1, 61, .inl r_22.2))] := hD
        refine lv_lstore_n (lv' := [(1, .long r_22.1), (0, .ref o), (3, .int r_5), (4, .int r_6.1)]) hx hb dX9_digest_240 rfl hl (by decide) rfl (fun ls hl => ?_)
        refine lv_lload_n hx hb dX9_digest_241 rfl (lv_at hl 0 rfl) ?_
        refine lv_iload hx hb dX9_digest_242 (lv_at hl 3 rfl) ?_
        refine lv_iconst (v := (-1)) hx hb dX9_digest_244 (by decide) ?_
        have hP : va_P g.1 vwCl [(o, .inr (9, [.int 0, .ref pn, .ref pt, .ref pr, .ref pw, .ref pb, .int nst, .ref pk, .ref pi, .ref pf, .ref pl, .ref pe, .ref pm, .int nn, .ref px, .int len, .int pos, .int gd, .int ps, .int sm])), (pn, .inl (g.2.1, 61, .inl fnow)), (pt, .inl (g.2.1, 61, .inl r_22.2)), (pw, .inl (g.2.1, 49, .inl r_6.2)), (pi, .inl (g.2.2.2.1, 2, .inl fisk)), (pf, .inl (g.2.2.1, 4096, .inr (.inl ffst))), (pl, .inl (g.2.2.1, 4096, .inr (.inl flst))), (pe, .inl (g.2.1, 4096, .inl fbef)), (px, .inl (g.2.1, 60, .inl ftext))] H := hP.sub [6, 7, 8, 0, 1, 2, 3, 4, 5] rfl
        have hD : va_D A [(o, .inr (9, [.int 0, .ref pn, .ref pt, .ref pr, .ref pw, .ref pb, .int nst, .ref pk, .ref pi, .ref pf, .ref pl, .ref pe, .ref pm, .int nn, .ref px, .int len, .int pos, .int gd, .int ps, .int sm])), (pn, .inl (g.2.1, 61, .inl fnow)), (pt, .inl (g.2.1, 61, .inl r_22.2)), (pw, .inl (g.2.1, 49, .inl r_6.2)), (pi, .inl (g.2.2.2.1, 2, .inl fisk)), (pf, .inl (g.2.2.1, 4096, .inr (.inl ffst))), (pl, .inl (g.2.2.1, 4096, .inr (.inl flst))), (pe, .inl (g.2.1, 4096, .inl fbef)), (px, .inl (g.2.1, 60, .inl ftext))] := hD.sub [6, 7, 8, 0, 1, 2, 3, 4, 5] (by decide) rfl
        obtain ⟨J_24, eJ_24, hyp⟩ := jn_e hyp
        have kJ_24 : ∀ (t_23 : Int64) (H : Heap) (locs : List Loc) (ls : Array Slot), J_24 t_23 = some r → lv_has ls 6 [(0, .ref o), (3, .int r_5), (4, .int r_6.1)] → va_P g.1 vwCl [(o, .inr (9, [.int 0, .ref pn, .ref pt, .ref pr, .ref pw, .ref pb, .int nst, .ref pk, .ref pi, .ref pf, .ref pl, .ref pe, .ref pm, .int nn, .ref px, .int len, .int pos, .int gd, .int ps, .int sm])), (pn, .inl (g.2.1, 61, .inl fnow)), (pt, .inl (g.2.1, 61, .inl r_22.2)), (pw, .inl (g.2.1, 49, .inl r_6.2)), (pi, .inl (g.2.2.2.1, 2, .inl fisk)), (pf, .inl (g.2.2.1, 4096, .inr (.inl ffst))), (pl, .inl (g.2.2.1, 4096, .inr (.inl flst))), (pe, .inl (g.2.1, 4096, .inl fbef)), (px, .inl (g.2.1, 60, .inl ftext))] H → va_D A [(o, .inr (9, [.int 0, .ref pn, .ref pt, .ref pr, .ref pw, .ref pb, .int nst, .ref pk, .ref pi, .ref pf, .ref pl, .ref pe, .ref pm, .int nn, .ref px, .int len, .int pos, .int gd, .int ps, .int sm])), (pn, .inl (g.2.1, 61, .inl fnow)), (pt, .inl (g.2.1, 61, .inl r_22.2)), (pw, .inl (g.2.1, 49, .inl r_6.2)), (pi, .inl (g.2.2.2.1, 2, .inl fisk)), (pf, .inl (g.2.2.1, 4096, .inr (.inl ffst))), (pl, .inl (g.2.2.1, 4096, .inr (.inl flst))), (pe, .inl (g.2.1, 4096, .inl fbef)), (px, .inl (g.2.1, 60, .inl ftext))] → va_S A s.heap H locs → W p l e R s m args below meth c H locs 0 0 Q (F0 m 255 ls [.long t_23, .long r_22.1]) := by
          intro t_23 H locs  ls hyp hl hP hD hS
          replace hyp := (congrFun (eJ_24) t_23).symm.trans hyp
          obtain ⟨r_25, hr_25, hyp⟩ := opt_e hyp
          refine pSJ (As := [.long r_22.1, .long t_23]) (rest := []) ⟨hx, hb, hml, hown, hts⟩ hE (mX9_mix l g r_22.1 t_23 r_25 hr_25) cf_X9_mix st_X9_mix ml_X9_268 ⟨Nat.le_trans (Nat.le_of_ble_eq_true rfl) hRf, Nat.le_trans (Nat.le_of_ble_eq_true rfl) hRl⟩ (va_P_nil) rfl hl.1 rfl (Nat.le_of_ble_eq_true rfl) dX9_digest_255 ⟨Nat.zero_le _, Nat.zero_le _⟩ ?_
          refine lv_iload hx hb dX9_digest_258 (lv_at hl 2 rfl) ?_
          refine lv_iconst (v := (-1)) hx hb dX9_digest_260 (by decide) ?_
          obtain ⟨J_27, eJ_27, hyp⟩ := jn_e hyp
          have kJ_27 : ∀ (t_26 : Int64) (H : Heap) (locs : List Loc) (ls : Array Slot), J_27 t_26 = some r → lv_has ls 6 [(0, .ref o), (3, .int r_5)] → va_P g.1 vwCl [(o, .inr (9, [.int 0, .ref pn, .ref pt, .ref pr, .ref pw, .ref pb, .int nst, .ref pk, .ref pi, .ref pf, .ref pl, .ref pe, .ref pm, .int nn, .ref px, .int len, .int pos, .int gd, .int ps, .int sm])), (pn, .inl (g.2.1, 61, .inl fnow)), (pt, .inl (g.2.1, 61, .inl r_22.2)), (pw, .inl (g.2.1, 49, .inl r_6.2)), (pi, .inl (g.2.2.2.1, 2, .inl fisk)), (pf, .inl (g.2.2.1, 4096, .inr (.inl ffst))), (pl, .inl (g.2.2.1, 4096, .inr (.inl flst))), (pe, .inl (g.2.1, 4096, .inl fbef)), (px, .inl (g.2.1, 60, .inl ftext))] H → va_D A [(o, .inr (9, [.int 0, .ref pn, .ref pt, .ref pr, .ref pw, .ref pb, .int nst, .ref pk, .ref pi, .ref pf, .ref pl, .ref pe, .ref pm, .int nn, .ref px, .int len, .int pos, .int gd, .int ps, .int sm])), (pn, .inl (g.2.1, 61, .inl fnow)), (pt, .inl (g.2.1, 61, .inl r_22.2)), (pw, .inl (g.2.1, 49, .inl r_6.2)), (pi, .inl (g.2.2.2.1, 2, .inl fisk)), (pf, .inl (g.2.2.1, 4096, .inr (.inl ffst))), (pl, .inl (g.2.2.1, 4096, .inr (.inl flst))), (pe, .inl (g.2.1, 4096, .inl fbef)), (px, .inl (g.2.1, 60, .inl ftext))] → va_S A s.heap H locs → W p l e R s m args below meth c H locs 0 0 Q (F0 m 271 ls [.long t_26, .long r_25]) := by
            intro t_26 H locs  ls hyp hl hP hD hS
            replace hyp := (congrFun (eJ_27) t_26).symm.trans hyp
            obtain ⟨r_28, hr_28, hyp⟩ := opt_e hyp
            refine pSJ (As := [.long r_25, .long t_26]) (rest := []) ⟨hx, hb, hml, hown, hts⟩ hE (mX9_mix l g r_25 t_26 r_28 hr_28) cf_X9_mix st_X9_mix ml_X9_268 ⟨Nat.le_trans (Nat.le_of_ble_eq_true rfl) hRf, Nat.le_trans (Nat.le_of_ble_eq_true rfl) hRl⟩ (va_P_nil) rfl hl.1 rfl (Nat.le_of_ble_eq_true rfl) dX9_digest_271 ⟨Nat.zero_le _, Nat.zero_le _⟩ ?_
            refine lv_lstore_n (lv' := [(1, .long r_28), (0, .ref o), (3, .int r_5)]) hx hb dX9_digest_274 rfl hl (by decide) rfl (fun ls hl => ?_)
            refine lv_lload_n hx hb dX9_digest_275 rfl (lv_at hl 0 rfl) ?_
            refine lv_aload_n hx hb dX9_digest_276 rfl (lv_at hl 1 rfl) ?_
            obtain ⟨r_29, hr_29, hyp⟩ := opt_e hyp
            refine wV (As := []) (rest := [.long r_28]) ⟨hx, hb, hml, hown, hts⟩ hE (mX9_corners l g o pn pw pt pr pb pk pi pf pl pe pm px 0 nst nn len pos gd ps sm fnow r_6.2 r_29 hr_29) cf_X9_corners im_X9_corners se_X9_corners ml_X9_244 ⟨Nat.le_trans (Nat.le_of_ble_eq_true rfl) hRf, Nat.le_trans (Nat.le_of_ble_eq_true rfl) hRl⟩ hP hD hS hA [0, 1, 3] [2, 4, 5, 6, 7, 8] rfl (wr := [(pt, .inl (g.2.1, 61, .inl r_22.2)), (pi, .inl (g.2.2.2.1, 2, .inl fisk)), (pf, .inl (g.2.2.1, 4096, .inr (.inl ffst))), (pl, .inl (g.2.2.1, 4096, .inr (.inl flst))), (pe, .inl (g.2.1, 4096, .inl fbef)), (px, .inl (g.2.1, 60, .inl ftext))]) rfl ⟨by decide, by decide⟩ (by decide) (ci := 9) (q0 := 0) rfl rfl rfl rfl hl.1 rfl (Nat.le_of_ble_eq_true rfl) dX9_digest_277 ⟨Nat.zero_le _, Nat.zero_le _⟩ (fun H locs hP hD hS => ?_)
            have hP : va_P g.1 vwCl [(pt, .inl (g.2.1, 61, .inl r_22.2)), (pi, .inl (g.2.2.2.1, 2, .inl fisk)), (pf, .inl (g.2.2.1, 4096, .inr (.inl ffst))), (pl, .inl (g.2.2.1, 4096, .inr (.inl flst))), (pe, .inl (g.2.1, 4096, .inl fbef)), (px, .inl (g.2.1, 60, .inl ftext)), (o, .inr (9, [.int 0, .ref pn, .ref pt, .ref pr, .ref pw, .ref pb, .int nst, .ref pk, .ref pi, .ref pf, .ref pl, .ref pe, .ref pm, .int nn, .ref px, .int len, .int pos, .int gd, .int ps, .int sm])), (pn, .inl (g.2.1, 61, .inl fnow)), (pw, .inl (g.2.1, 49, .inl r_29.2))] H := hP
            have hD : va_D A [(pt, .inl (g.2.1, 61, .inl r_22.2)), (pi, .inl (g.2.2.2.1, 2, .inl fisk)), (pf, .inl (g.2.2.1, 4096, .inr (.inl ffst))), (pl, .inl (g.2.2.1, 4096, .inr (.inl flst))), (pe, .inl (g.2.1, 4096, .inl fbef)), (px, .inl (g.2.1, 60, .inl ftext)), (o, .inr (9, [.int 0, .ref pn, .ref pt, .ref pr, .ref pw, .ref pb, .int nst, .ref pk, .ref pi, .ref pf, .ref pl, .ref pe, .ref pm, .int nn, .ref px, .int len, .int pos, .int gd, .int ps, .int sm])), (pn, .inl (g.2.1, 61, .inl fnow)), (pw, .inl (g.2.1, 49, .inl r_29.2))] := hD
            refine lv_i2l hx hb dX9_digest_280 rfl ?_
            obtain ⟨r_30, hr_30, hyp⟩ := opt_e hyp
            refine pSJ (As := [.long r_28, .long r_29.1.toInt64]) (rest := []) ⟨hx, hb, hml, hown, hts⟩ hE (mX9_mix l g r_28 r_29.1.toInt64 r_30 hr_30) cf_X9_mix st_X9_mix ml_X9_268 ⟨Nat.le_trans (Nat.le_of_ble_eq_true rfl) hRf, Nat.le_trans (Nat.le_of_ble_eq_true rfl) hRl⟩ (va_P_nil) rfl hl.1 rfl (Nat.le_of_ble_eq_true rfl) dX9_digest_281 ⟨Nat.zero_le _, Nat.zero_le _⟩ ?_
            refine lv_aload_n hx hb dX9_digest_284 rfl (lv_at hl 1 rfl) ?_
            obtain ⟨r_31, hr_31, hyp⟩ := opt_e hyp
            refine wV (As := []) (rest := [.long r_30]) ⟨hx, hb, hml, hown, hts⟩ hE (mX9_reach l g o pn pw pt pr pb pk pi pf pl pe pm px 0 nst nn len pos gd ps sm fnow r_29.2 r_31 hr_31) cf_X9_reach im_X9_reach se_X9_reach ml_X9_247 ⟨Nat.le_trans (Nat.le_of_ble_eq_true rfl) hRf, Nat.le_trans (Nat.le_of_ble_eq_true rfl) hRl⟩ hP hD hS hA [6, 7, 8] [0, 1, 2, 3, 4, 5] rfl (wr := [(pt, .inl (g.2.1, 61, .inl r_22.2)), (pi, .inl (g.2.2.2.1, 2, .inl fisk)), (pf, .inl (g.2.2.1, 4096, .inr (.inl ffst))), (pl, .inl (g.2.2.1, 4096, .inr (.inl flst))), (pe, .inl (g.2.1, 4096, .inl fbef)), (px, .inl (g.2.1, 60, .inl ftext))]) rfl ⟨by decide, by decide⟩ (by decide) (ci := 9) (q0 := 0) rfl rfl rfl rfl hl.1 rfl (Nat.le_of_ble_eq_true rfl) dX9_digest_285 ⟨Nat.zero_le _, Nat.zero_le _⟩ (fun H locs hP hD hS => ?_)
            have hP : va_P g.1 vwCl [(pt, .inl (g.2.1, 61, .inl r_22.2)), (pi, .inl (g.2.2.2.1, 2, .inl fisk)), (pf, .inl (g.2.2.1, 4096, .inr (.inl ffst))), (pl, .inl (g.2.2.1, 4096, .inr (.inl flst))), (pe, .inl (g.2.1, 4096, .inl fbef)), (px, .inl (g.2.1, 60, .inl ftext)), (o, .inr (9, [.int 0, .ref pn, .ref pt, .ref pr, .ref pw, .ref pb, .int nst, .ref pk, .ref pi, .ref pf, .ref pl, .ref pe, .ref pm, .int nn, .ref px, .int len, .int pos, .int gd, .int ps, .int sm])), (pn, .inl (g.2.1, 61, .inl fnow)), (pw, .inl (g.2.1, 49, .inl r_31.2))] H := hP
            have hD : va_D A [(pt, .inl (g.2.1, 61, .inl r_22.2)), (pi, .inl (g.2.2.2.1, 2, .inl fisk)), (pf, .inl (g.2.2.1, 4096, .inr (.inl ffst))), (pl, .inl (g.2.2.1, 4096, .inr (.inl flst))), (pe, .inl (g.2.1, 4096, .inl fbef)), (px, .inl (g.2.1, 60, .inl ftext)), (o, .inr (9, [.int 0, .ref pn, .ref pt, .ref pr, .ref pw, .ref pb, .int nst, .ref pk, .ref pi, .ref pf, .ref pl, .ref pe, .ref pm, .int nn, .ref px, .int len, .int pos, .int gd, .int ps, .int sm])), (pn, .inl (g.2.1, 61, .inl fnow)), (pw, .inl (g.2.1, 49, .inl r_31.2))] := hD
            refine lv_i2l hx hb dX9_digest_288 rfl ?_
            obtain ⟨r_32, hr_32, hyp⟩ := opt_e hyp
            refine pSJ (As := [.long r_30, .long r_31.1.toInt64]) (rest := []) ⟨hx, hb, hml, hown, hts⟩ hE (mX9_mix l g r_30 r_31.1.toInt64 r_32 hr_32) cf_X9_mix st_X9_mix ml_X9_268 ⟨Nat.le_trans (Nat.le_of_ble_eq_true rfl) hRf, Nat.le_trans (Nat.le_of_ble_eq_true rfl) hRl⟩ (va_P_nil) rfl hl.1 rfl (Nat.le_of_ble_eq_true rfl) dX9_digest_289 ⟨Nat.zero_le _, Nat.zero_le _⟩ ?_
            refine lv_lstore_n (lv' := [(1, .long r_32), (0, .ref o), (3, .int r_5)]) hx hb dX9_digest_292 rfl hl (by decide) rfl (fun ls hl => ?_)
            refine lv_lload_n hx hb dX9_digest_293 rfl (lv_at hl 0 rfl) ?_
            refine lv_iload_n hx hb dX9_digest_294 rfl (lv_at hl 2 rfl) ?_
            refine lv_iconst (v := (-1)) hx hb dX9_digest_295 (by decide) ?_
            have hP : va_P g.1 vwCl [(o, .inr (9, [.int 0, .ref pn, .ref pt, .ref pr, .ref pw, .ref pb, .int nst, .ref pk, .ref pi, .ref pf, .ref pl, .ref pe, .ref pm, .int nn, .ref px, .int len, .int pos, .int gd, .int ps, .int sm])), (pn, .inl (g.2.1, 61, .inl fnow)), (pt, .inl (g.2.1, 61, .inl r_22.2)), (pw, .inl (g.2.1, 49, .inl r_31.2)), (pi, .inl (g.2.2.2.1, 2, .inl fisk)), (pf, .inl (g.2.2.1, 4096, .inr (.inl ffst))), (pl, .inl (g.2.2.1, 4096, .inr (.inl flst))), (pe, .inl (g.2.1, 4096, .inl fbef)), (px, .inl (g.2.1, 60, .inl ftext))] H := hP.sub [6, 7, 0, 8, 1, 2, 3, 4, 5] rfl
            have hD : va_D A [(o, .inr (9, [.int 0, .ref pn, .ref pt, .ref pr, .ref pw, .ref pb, .int nst, .ref pk, .ref pi, .ref pf, .ref pl, .ref pe, .ref pm, .int nn, .ref px, .int len, .int pos, .int gd, .int ps, .int sm])), (pn, .inl (g.2.1, 61, .inl fnow)), (pt, .inl (g.2.1, 61, .inl r_22.2)), (pw, .inl (g.2.1, 49, .inl r_31.2)), (pi, .inl (g.2.2.2.1, 2, .inl fisk)), (pf, .inl (g.2.2.1, 4096, .inr (.inl ffst))), (pl, .inl (g.2.2.1, 4096, .inr (.inl flst))), (pe, .inl (g.2.1, 4096, .inl fbef)), (px, .inl (g.2.1, 60, .inl ftext))] := hD.sub [6, 7, 0, 8, 1, 2, 3, 4, 5] (by decide) rfl
            obtain ⟨J_34, eJ_34, hyp⟩ := jn_e hyp
            have kJ_34 : ∀ (t_33 : Int64) (H : Heap) (locs : List Loc) (ls : Array Slot), J_34 t_33 = some r → lv_has ls 6 [(0, .ref o)] → va_P g.1 vwCl [(o, .inr (9, [.int 0, .ref pn, .ref pt, .ref pr, .ref pw, .ref pb, .int nst, .ref pk, .ref pi, .ref pf, .ref pl, .ref pe, .ref pm, .int nn, .ref px, .int len, .int pos, .int gd, .int ps, .int sm])), (pn, .inl (g.2.1, 61, .inl fnow)), (pt, .inl (g.2.1, 61, .inl r_22.2)), (pw, .inl (g.2.1, 49, .inl r_31.2)), (pi, .inl (g.2.2.2.1, 2, .inl fisk)), (pf, .inl (g.2.2.1, 4096, .inr (.inl ffst))), (pl, .inl (g.2.2.1, 4096, .inr (.inl flst))), (pe, .inl (g.2.1, 4096, .inl fbef)), (px, .inl (g.2.1, 60, .inl ftext))] H → va_D A [(o, .inr (9, [.int 0, .ref pn, .ref pt, .ref pr, .ref pw, .ref pb, .int nst, .ref pk, .ref pi, .ref pf, .ref pl, .ref pe, .ref pm, .int nn, .ref px, .int len, .int pos, .int gd, .int ps, .int sm])), (pn, .inl (g.2.1, 61, .inl fnow)), (pt, .inl (g.2.1, 61, .inl r_22.2)), (pw, .inl (g.2.1, 49, .inl r_31.2)), (pi, .inl (g.2.2.2.1, 2, .inl fisk)), (pf, .inl (g.2.2.1, 4096, .inr (.inl ffst))), (pl, .inl (g.2.2.1, 4096, .inr (.inl flst))), (pe, .inl (g.2.1, 4096, .inl fbef)), (px, .inl (g.2.1, 60, .inl ftext))] → va_S A s.heap H locs → W p l e R s m args below meth c H locs 0 0 Q (F0 m 310 ls [.long t_33, .long r_32]) := by
              intro t_33 H locs  ls hyp hl hP hD hS
              replace hyp := (congrFun (eJ_34) t_33).symm.trans hyp
              obtain ⟨r_35, hr_35, hyp⟩ := opt_e hyp
              refine pSJ (As := [.long r_32, .long t_33]) (rest := []) ⟨hx, hb, hml, hown, hts⟩ hE (mX9_mix l g r_32 t_33 r_35 hr_35) cf_X9_mix st_X9_mix ml_X9_268 ⟨Nat.le_trans (Nat.le_of_ble_eq_true rfl) hRf, Nat.le_trans (Nat.le_of_ble_eq_true rfl) hRl⟩ (va_P_nil) rfl hl.1 rfl (Nat.le_of_ble_eq_true rfl) dX9_digest_310 ⟨Nat.zero_le _, Nat.zero_le _⟩ ?_
              refine lv_lstore_n (lv' := [(1, .long r_35), (0, .ref o)]) hx hb dX9_digest_313 rfl hl (by decide) rfl (fun ls hl => ?_)
              refine lv_lload_n hx hb dX9_digest_314 rfl (lv_at hl 0 rfl) ?_
              refine lv_aload_n hx hb dX9_digest_315 rfl (lv_at hl 1 rfl) ?_
              refine gf_X9_7 hx hb hts hown hE hP 0 rfl rfl dX9_digest_316 ?_
              refine lv_bipush (v := 55) hx hb dX9_digest_319 (by decide) ?_
              obtain ⟨hi, hyp⟩ := grd_e hyp
              refine va_iald hx hb hE.1 hP 1 0 rfl rfl (inB_vp hi) dX9_digest_321 ?_
              refine lv_i2l hx hb dX9_digest_322 rfl ?_
              obtain ⟨r_36, hr_36, hyp⟩ := opt_e hyp
              refine pSJ (As := [.long r_35, .long ((fnow (55 : Int32).toNatClampNeg).toInt64)]) (rest := []) ⟨hx, hb, hml, hown, hts⟩ hE (mX9_mix l g r_35 ((fnow (55 : Int32).toNatClampNeg).toInt64) r_36 hr_36) cf_X9_mix st_X9_mix ml_X9_268 ⟨Nat.le_trans (Nat.le_of_ble_eq_true rfl) hRf, Nat.le_trans (Nat.le_of_ble_eq_true rfl) hRl⟩ (va_P_nil) rfl hl.1 rfl (Nat.le_of_ble_eq_true rfl) dX9_digest_323 ⟨Nat.zero_le _, Nat.zero_le _⟩ ?_
              refine lv_aload_n hx hb dX9_digest_326 rfl (lv_at hl 1 rfl) ?_
              refine gf_X9_7 hx hb hts hown hE hP 0 rfl rfl dX9_digest_327 ?_
              refine lv_bipush (v := 56) hx hb dX9_digest_330 (by decide) ?_
              obtain ⟨hi, hyp⟩ := grd_e hyp
              refine va_iald hx hb hE.1 hP 1 0 rfl rfl (inB_vp hi) dX9_digest_332 ?_
              refine lv_i2l hx hb dX9_digest_333 rfl ?_
              obtain ⟨r_37, hr_37, hyp⟩ := opt_e hyp
              refine pSJ (As := [.long r_36, .long ((fnow (56 : Int32).toNatClampNeg).toInt64)]) (rest := []) ⟨hx, hb, hml, hown, hts⟩ hE (mX9_mix l g r_36 ((fnow (56 : Int32).toNatClampNeg).toInt64) r_37 hr_37) cf_X9_mix st_X9_mix ml_X9_268 ⟨Nat.le_trans (Nat.le_of_ble_eq_true rfl) hRf, Nat.le_trans (Nat.le_of_ble_eq_true rfl) hRl⟩ (va_P_nil) rfl hl.1 rfl (Nat.le_of_ble_eq_true rfl) dX9_digest_334 ⟨Nat.zero_le _, Nat.zero_le _⟩ ?_
              refine lv_aload_n hx hb dX9_digest_337 rfl (lv_at hl 1 rfl) ?_
              refine gf_X9_7 hx hb hts hown hE hP 0 rfl rfl dX9_digest_338 ?_
              refine lv_bipush (v := 57) hx hb dX9_digest_341 (by decide) ?_
              obtain ⟨hi, hyp⟩ := grd_e hyp
              refine va_iald hx hb hE.1 hP 1 0 rfl rfl (inB_vp hi) dX9_digest_343 ?_
              refine lv_i2l hx hb dX9_digest_344 rfl ?_
              obtain ⟨r_38, hr_38, hyp⟩ := opt_e hyp
              refine pSJ (As := [.long r_37, .long ((fnow (57 : Int32).toNatClampNeg).toInt64)]) (rest := []) ⟨hx, hb, hml, hown, hts⟩ hE (mX9_mix l g r_37 ((fnow (57 : Int32).toNatClampNeg).toInt64) r_38 hr_38) cf_X9_mix st_X9_mix ml_X9_268 ⟨Nat.le_trans (Nat.le_of_ble_eq_true rfl) hRf, Nat.le_trans (Nat.le_of_ble_eq_true rfl) hRl⟩ (va_P_nil) rfl hl.1 rfl (Nat.le_of_ble_eq_true rfl) dX9_digest_345 ⟨Nat.zero_le _, Nat.zero_le _⟩ ?_
              refine lv_lstore_n (lv' := [(1, .long r_38), (0, .ref o)]) hx hb dX9_digest_348 rfl hl (by decide) rfl (fun ls hl => ?_)
              refine lv_lload_n hx hb dX9_digest_349 rfl (lv_at hl 0 rfl) ?_
              refine lv_aload_n hx hb dX9_digest_350 rfl (lv_at hl 1 rfl) ?_
              refine gf_X9_7 hx hb hts hown hE hP 0 rfl rfl dX9_digest_351 ?_
              refine lv_bipush (v := 58) hx hb dX9_digest_354 (by decide) ?_
              obtain ⟨hi, hyp⟩ := grd_e hyp
              refine va_iald hx hb hE.1 hP 1 0 rfl rfl (inB_vp hi) dX9_digest_356 ?_
              refine lv_i2l hx hb dX9_digest_357 rfl ?_
              obtain ⟨r_39, hr_39, hyp⟩ := opt_e hyp
              refine pSJ (As := [.long r_38, .long ((fnow (58 : Int32).toNatClampNeg).toInt64)]) (rest := []) ⟨hx, hb, hml, hown, hts⟩ hE (mX9_mix l g r_38 ((fnow (58 : Int32).toNatClampNeg).toInt64) r_39 hr_39) cf_X9_mix st_X9_mix ml_X9_268 ⟨Nat.le_trans (Nat.le_of_ble_eq_true rfl) hRf, Nat.le_trans (Nat.le_of_ble_eq_true rfl) hRl⟩ (va_P_nil) rfl hl.1 rfl (Nat.le_of_ble_eq_true rfl) dX9_digest_358 ⟨Nat.zero_le _, Nat.zero_le _⟩ ?_
              refine lv_aload_n hx hb dX9_digest_361 rfl (lv_at hl 1 rfl) ?_
              refine gf_X9_7 hx hb hts hown hE hP 0 rfl rfl dX9_digest_362 ?_
              refine lv_bipush (v := 59) hx hb dX9_digest_365 (by decide) ?_
              obtain ⟨hi, hyp⟩ := grd_e hyp
              refine va_iald hx hb hE.1 hP 1 0 rfl rfl (inB_vp hi) dX9_digest_367 ?_
              refine lv_i2l hx hb dX9_digest_368 rfl ?_
              obtain ⟨r_40, hr_40, hyp⟩ := opt_e hyp
              refine pSJ (As := [.long r_39, .long ((fnow (59 : Int32).toNatClampNeg).toInt64)]) (rest := []) ⟨hx, hb, hml, hown, hts⟩ hE (mX9_mix l g r_39 ((fnow (59 : Int32).toNatClampNeg).toInt64) r_40 hr_40) cf_X9_mix st_X9_mix ml_X9_268 ⟨Nat.le_trans (Nat.le_of_ble_eq_true rfl) hRf, Nat.le_trans (Nat.le_of_ble_eq_true rfl) hRl⟩ (va_P_nil) rfl hl.1 rfl (Nat.le_of_ble_eq_true rfl) dX9_digest_369 ⟨Nat.zero_le _, Nat.zero_le _⟩ ?_
              refine lv_aload_n hx hb dX9_digest_372 rfl (lv_at hl 1 rfl) ?_
              refine gf_X9_7 hx hb hts hown hE hP 0 rfl rfl dX9_digest_373 ?_
              refine lv_bipush (v := 54) hx hb dX9_digest_376 (by decide) ?_
              obtain ⟨hi, hyp⟩ := grd_e hyp
              refine va_iald hx hb hE.1 hP 1 0 rfl rfl (inB_vp hi) dX9_digest_378 ?_
              refine lv_i2l hx hb dX9_digest_379 rfl ?_
              obtain ⟨r_41, hr_41, hyp⟩ := opt_e hyp
              refine pSJ (As := [.long r_40, .long ((fnow (54 : Int32).toNatClampNeg).toInt64)]) (rest := []) ⟨hx, hb, hml, hown, hts⟩ hE (mX9_mix l g r_40 ((fnow (54 : Int32).toNatClampNeg).toInt64) r_41 hr_41) cf_X9_mix st_X9_mix ml_X9_268 ⟨Nat.le_trans (Nat.le_of_ble_eq_true rfl) hRf, Nat.le_trans (Nat.le_of_ble_eq_true rfl) hRl⟩ (va_P_nil) rfl hl.1 rfl (Nat.le_of_ble_eq_true rfl) dX9_digest_380 ⟨Nat.zero_le _, Nat.zero_le _⟩ ?_
              refine lv_lstore_n (lv' := [(1, .long r_41), (0, .ref o)]) hx hb dX9_digest_383 rfl hl (by decide) rfl (fun ls hl => ?_)
              refine lv_lload_n hx hb dX9_digest_384 rfl (lv_at hl 0 rfl) ?_
              refine lv_aload_n hx hb dX9_digest_385 rfl (lv_at hl 1 rfl) ?_
              refine gf_X9_111 hx hb hts hown hE hP 0 rfl rfl dX9_digest_386 ?_
              refine lv_i2l hx hb dX9_digest_389 rfl ?_
              obtain ⟨r_42, hr_42, hyp⟩ := opt_e hyp
              refine pSJ (As := [.long r_41, .long nst.toInt64]) (rest := []) ⟨hx, hb, hml, hown, hts⟩ hE (mX9_mix l g r_41 nst.toInt64 r_42 hr_42) cf_X9_mix st_X9_mix ml_X9_268 ⟨Nat.le_trans (Nat.le_of_ble_eq_true rfl) hRf, Nat.le_trans (Nat.le_of_ble_eq_true rfl) hRl⟩ (va_P_nil) rfl hl.1 rfl (Nat.le_of_ble_eq_true rfl) dX9_digest_390 ⟨Nat.zero_le _, Nat.zero_le _⟩ ?_
              refine lv_aload_n hx hb dX9_digest_393 rfl (lv_at hl 1 rfl) ?_
              obtain ⟨r_43, hr_43, hyp⟩ := opt_e hyp
              refine pVD (As := []) (rest := [.long r_42]) ⟨hx, hb, hml, hown, hts⟩ hE (mX9_mean l g o pn pt pr pw pb pk pi pf pl pe pm px 0 nst nn len pos gd ps sm fnow r_43 hr_43) cf_X9_mean im_X9_mean se_X9_mean ml_X9_262 ⟨Nat.le_trans (Nat.le_of_ble_eq_true rfl) hRf, Nat.le_trans (Nat.le_of_ble_eq_true rfl) hRl⟩ (hP.sub (ws' := [(o, .inr (9, [.int 0, .ref pn, .ref pt, .ref pr, .ref pw, .ref pb, .int nst, .ref pk, .ref pi, .ref pf, .ref pl, .ref pe, .ref pm, .int nn, .ref px, .int len, .int pos, .int gd, .int ps, .int sm])), (pn, .inl (g.2.1, 61, .inl fnow))]) [0, 1] rfl) (ci := 9) (q0 := 0) rfl rfl rfl rfl hl.1 rfl (Nat.le_of_ble_eq_true rfl) dX9_digest_394 ⟨Nat.zero_le _, Nat.zero_le _⟩ ?_
              obtain ⟨r_44, hr_44, hyp⟩ := opt_e hyp
              refine pSJ (As := [.double r_43]) (rest := [.long r_42]) ⟨hx, hb, hml, hown, hts⟩ hE (mJxe99ae_doubleToLongBits_ccdee l g r_43 r_44 hr_44) cf_Jxe99ae_doubleToLongBits_ccdee st_Jxe99ae_doubleToLongBits_ccdee ml_X9_278 ⟨Nat.le_trans (Nat.le_of_ble_eq_true rfl) hRf, Nat.le_trans (Nat.le_of_ble_eq_true rfl) hRl⟩ (va_P_nil) rfl hl.1 rfl (Nat.le_of_ble_eq_true rfl) dX9_digest_397 ⟨Nat.zero_le _, Nat.zero_le _⟩ ?_
              obtain ⟨r_45, hr_45, hyp⟩ := opt_e hyp
              refine pSJ (As := [.long r_42, .long r_44]) (rest := []) ⟨hx, hb, hml, hown, hts⟩ hE (mX9_mix l g r_42 r_44 r_45 hr_45) cf_X9_mix st_X9_mix ml_X9_268 ⟨Nat.le_trans (Nat.le_of_ble_eq_true rfl) hRf, Nat.le_trans (Nat.le_of_ble_eq_true rfl) hRl⟩ (va_P_nil) rfl hl.1 rfl (Nat.le_of_ble_eq_true rfl) dX9_digest_400 ⟨Nat.zero_le _, Nat.zero_le _⟩ ?_
              refine lv_lstore_n (lv' := [(1, .long r_45), (0, .ref o)]) hx hb dX9_digest_403 rfl hl (by decide) rfl (fun ls hl => ?_)
              refine lv_lload_n hx hb dX9_digest_404 rfl (lv_at hl 0 rfl) ?_
              refine lv_aload_n hx hb dX9_digest_405 rfl (lv_at hl 1 rfl) ?_
              refine gf_X9_28 hx hb hts hown hE hP 0 rfl rfl dX9_digest_406 ?_
              refine lv_iconst (v := 0) hx hb dX9_digest_409 (by decide) ?_
              obtain ⟨hi, hyp⟩ := grd_e hyp
              refine va_zald hx hb hE.1 hP 4 2 rfl rfl (inB_vp hi) dX9_digest_410 ?_
              obtain ⟨J_47, eJ_47, hyp⟩ := jn_e hyp
              have kJ_47 : ∀ (t_46 : Int64) (H : Heap) (locs : List Loc) (ls : Array Slot), J_47 t_46 = some r → lv_has ls 6 [(0, .ref o)] → va_P g.1 vwCl [(o, .inr (9, [.int 0, .ref pn, .ref pt, .ref pr, .ref pw, .ref pb, .int nst, .ref pk, .ref pi, .ref pf, .ref pl, .ref pe, .ref pm, .int nn, .ref px, .int len, .int pos, .int gd, .int ps, .int sm])), (pn, .inl (g.2.1, 61, .inl fnow)), (pt, .inl (g.2.1, 61, .inl r_22.2)), (pw, .inl (g.2.1, 49, .inl r_31.2)), (pi, .inl (g.2.2.2.1, 2, .inl fisk)), (pf, .inl (g.2.2.1, 4096, .inr (.inl ffst))), (pl, .inl (g.2.2.1, 4096, .inr (.inl flst))), (pe, .inl (g.2.1, 4096, .inl fbef)), (px, .inl (g.2.1, 60, .inl ftext))] H → va_D A [(o, .inr (9, [.int 0, .ref pn, .ref pt, .ref pr, .ref pw, .ref pb, .int nst, .ref pk, .ref pi, .ref pf, .ref pl, .ref pe, .ref pm, .int nn, .ref px, .int len, .int pos, .int gd, .int ps, .int sm])), (pn, .inl (g.2.1, 61, .inl fnow)), (pt, .inl (g.2.1, 61, .inl r_22.2)), (pw, .inl (g.2.1, 49, .inl r_31.2)), (pi, .inl (g.2.2.2.1, 2, .inl fisk)), (pf, .inl (g.2.2.1, 4096, .inr (.inl ffst))), (pl, .inl (g.2.2.1, 4096, .inr (.inl flst))), (pe, .inl (g.2.1, 4096, .inl fbef)), (px, .inl (g.2.1, 60, .inl ftext))] → va_S A s.heap H locs → W p l e R s m args below meth c H locs 0 0 Q (F0 m 419 ls [.long t_46, .long r_45]) := by
                intro t_46 H locs  ls hyp hl hP hD hS
                replace hyp := (congrFun (eJ_47) t_46).symm.trans hyp
                obtain ⟨r_48, hr_48, hyp⟩ := opt_e hyp
                refine pSJ (As := [.long r_45, .long t_46]) (rest := []) ⟨hx, hb, hml, hown, hts⟩ hE (mX9_mix l g r_45 t_46 r_48 hr_48) cf_X9_mix st_X9_mix ml_X9_268 ⟨Nat.le_trans (Nat.le_of_ble_eq_true rfl) hRf, Nat.le_trans (Nat.le_of_ble_eq_true rfl) hRl⟩ (va_P_nil) rfl hl.1 rfl (Nat.le_of_ble_eq_true rfl) dX9_digest_419 ⟨Nat.zero_le _, Nat.zero_le _⟩ ?_
                refine lv_aload_n hx hb dX9_digest_422 rfl (lv_at hl 0 rfl) ?_
                refine gf_X9_28 hx hb hts hown hE hP 0 rfl rfl dX9_digest_423 ?_
                refine lv_iconst (v := 1) hx hb dX9_digest_426 (by decide) ?_
                obtain ⟨hi, hyp⟩ := grd_e hyp
                refine va_zald hx hb hE.1 hP 4 2 rfl rfl (inB_vp hi) dX9_digest_427 ?_
                obtain ⟨J_50, eJ_50, hyp⟩ := jn_e hyp
                have kJ_50 : ∀ (t_49 : Int64) (H : Heap) (locs : List Loc) (ls : Array Slot), J_50 t_49 = some r → lv_has ls 6 [(0, .ref o)] → va_P g.1 vwCl [(o, .inr (9, [.int 0, .ref pn, .ref pt, .ref pr, .ref pw, .ref pb, .int nst, .ref pk, .ref pi, .ref pf, .ref pl, .ref pe, .ref pm, .int nn, .ref px, .int len, .int pos, .int gd, .int ps, .int sm])), (pn, .inl (g.2.1, 61, .inl fnow)), (pt, .inl (g.2.1, 61, .inl r_22.2)), (pw, .inl (g.2.1, 49, .inl r_31.2)), (pi, .inl (g.2.2.2.1, 2, .inl fisk)), (pf, .inl (g.2.2.1, 4096, .inr (.inl ffst))), (pl, .inl (g.2.2.1, 4096, .inr (.inl flst))), (pe, .inl (g.2.1, 4096, .inl fbef)), (px, .inl (g.2.1, 60, .inl ftext))] H → va_D A [(o, .inr (9, [.int 0, .ref pn, .ref pt, .ref pr, .ref pw, .ref pb, .int nst, .ref pk, .ref pi, .ref pf, .ref pl, .ref pe, .ref pm, .int nn, .ref px, .int len, .int pos, .int gd, .int ps, .int sm])), (pn, .inl (g.2.1, 61, .inl fnow)), (pt, .inl (g.2.1, 61, .inl r_22.2)), (pw, .inl (g.2.1, 49, .inl r_31.2)), (pi, .inl (g.2.2.2.1, 2, .inl fisk)), (pf, .inl (g.2.2.1, 4096, .inr (.inl ffst))), (pl, .inl (g.2.2.1, 4096, .inr (.inl flst))), (pe, .inl (g.2.1, 4096, .inl fbef)), (px, .inl (g.2.1, 60, .inl ftext))] → va_S A s.heap H locs → W p l e R s m args below meth c H locs 0 0 Q (F0 m 436 ls [.long t_49, .long r_48]) := by
                  intro t_49 H locs  ls hyp hl hP hD hS
                  replace hyp := (congrFun (eJ_50) t_49).symm.trans hyp
                  obtain ⟨r_51, hr_51, hyp⟩ := opt_e hyp
                  refine pSJ (As := [.long r_48, .long t_49]) (rest := []) ⟨hx, hb, hml, hown, hts⟩ hE (mX9_mix l g r_48 t_49 r_51 hr_51) cf_X9_mix st_X9_mix ml_X9_268 ⟨Nat.le_trans (Nat.le_of_ble_eq_true rfl) hRf, Nat.le_trans (Nat.le_of_ble_eq_true rfl) hRl⟩ (va_P_nil) rfl hl.1 rfl (Nat.le_of_ble_eq_true rfl) dX9_digest_436 ⟨Nat.zero_le _, Nat.zero_le _⟩ ?_
                  refine lv_lstore_n (lv' := [(1, .long r_51), (0, .ref o)]) hx hb dX9_digest_439 rfl hl (by decide) rfl (fun ls hl => ?_)
                  refine lv_lload_n hx hb dX9_digest_440 rfl (lv_at hl 0 rfl) ?_
                  refine lv_aload_n hx hb dX9_digest_441 rfl (lv_at hl 1 rfl) ?_
                  refine gf_X9_172 hx hb hts hown hE hP 0 rfl rfl dX9_digest_442 ?_
                  refine lv_i2l hx hb dX9_digest_445 rfl ?_
                  obtain ⟨r_52, hr_52, hyp⟩ := opt_e hyp
                  refine pSJ (As := [.long r_51, .long len.toInt64]) (rest := []) ⟨hx, hb, hml, hown, hts⟩ hE (mX9_mix l g r_51 len.toInt64 r_52 hr_52) cf_X9_mix st_X9_mix ml_X9_268 ⟨Nat.le_trans (Nat.le_of_ble_eq_true rfl) hRf, Nat.le_trans (Nat.le_of_ble_eq_true rfl) hRl⟩ (va_P_nil) rfl hl.1 rfl (Nat.le_of_ble_eq_true rfl) dX9_digest_446 ⟨Nat.zero_le _, Nat.zero_le _⟩ ?_
                  refine lv_lstore_n (lv' := [(1, .long r_52), (0, .ref o)]) hx hb dX9_digest_449 rfl hl (by decide) rfl (fun ls hl => ?_)
                  refine lv_iconst (v := 0) hx hb dX9_digest_450 (by decide) ?_
                  refine lv_istore (lv' := [(5, .int 0), (1, .long r_52), (0, .ref o)]) hx hb dX9_digest_451 hl (by decide) rfl (fun ls hl => ?_)
                  refine lp_i (r := r) (fun z : Int64 × Int32 => ∀ (H : Heap) (locs : List Loc) (ls : Array Slot), lv_has ls 6 [(0, .ref o), (1, .long z.1), (5, .int z.2)] → va_P g.1 vwCl [(o, .inr (9, [.int 0, .ref pn, .ref pt, .ref pr, .ref pw, .ref pb, .int nst, .ref pk, .ref pi, .ref pf, .ref pl, .ref pe, .ref pm, .int nn, .ref px, .int len, .int pos, .int gd, .int ps, .int sm])), (pn, .inl (g.2.1, 61, .inl fnow)), (pt, .inl (g.2.1, 61, .inl r_22.2)), (pw, .inl (g.2.1, 49, .inl r_31.2)), (pi, .inl (g.2.2.2.1, 2, .inl fisk)), (pf, .inl (g.2.2.1, 4096, .inr (.inl ffst))), (pl, .inl (g.2.2.1, 4096, .inr (.inl flst))), (pe, .inl (g.2.1, 4096, .inl fbef)), (px, .inl (g.2.1, 60, .inl ftext))] H → va_D A [(o, .inr (9, [.int 0, .ref pn, .ref pt, .ref pr, .ref pw, .ref pb, .int nst, .ref pk, .ref pi, .ref pf, .ref pl, .ref pe, .ref pm, .int nn, .ref px, .int len, .int pos, .int gd, .int ps, .int sm])), (pn, .inl (g.2.1, 61, .inl fnow)), (pt, .inl (g.2.1, 61, .inl r_22.2)), (pw, .inl (g.2.1, 49, .inl r_31.2)), (pi, .inl (g.2.2.2.1, 2, .inl fisk)), (pf, .inl (g.2.2.1, 4096, .inr (.inl ffst))), (pl, .inl (g.2.2.1, 4096, .inr (.inl flst))), (pe, .inl (g.2.1, 4096, .inl fbef)), (px, .inl (g.2.1, 60, .inl ftext))] → va_S A s.heap H locs → W p l e R s m args below meth c H locs 0 0 Q (F0 m 453 ls [])) ?_ 64 (r_52, 0) hyp _ _ ls (lv_sub hl [2, 1, 0] rfl) hP hD hS
                  intro self_55T ihself_55T z hyp H locs ls hl hP hD hS
                  obtain ⟨v1_53, v5_54⟩ := z
                  obtain ⟨self_55, eself_55⟩ : ∃ f9 : Int64 → Int32 → Option (Int64 × Int32 × (Nat → Int32) × (Nat → Int32)), f9 = fun v1_53 v5_54 => self_55T (v1_53, v5_54) := ⟨_, rfl⟩
                  have ihself_55 := fun (v1_53 : Int64) (v5_54 : Int32) (h9 : self_55 v1_53 v5_54 = some r) => ihself_55T (v1_53, v5_54) (by rw [eself_55] at h9; exact h9)
                  replace hyp : fX9_digest_L453_B len ftext r_22 r_31 self_55 v1_53 v5_54 = some r := by rw [eself_55]; exact hyp
                  have hl : lv_has ls 6 [(0, .ref o), (1, .long v1_53), (5, .int v5_54)] := hl
                  have hP : va_P g.1 vwCl [(o, .inr (9, [.int 0, .ref pn, .ref pt, .ref pr, .ref pw, .ref pb, .int nst, .ref pk, .ref pi, .ref pf, .ref pl, .ref pe, .ref pm, .int nn, .ref px, .int len, .int pos, .int gd, .int ps, .int sm])), (pn, .inl (g.2.1, 61, .inl fnow)), (pt, .inl (g.2.1, 61, .inl r_22.2)), (pw, .inl (g.2.1, 49, .inl r_31.2)), (pi, .inl (g.2.2.2.1, 2, .inl fisk)), (pf, .inl (g.2.2.1, 4096, .inr (.inl ffst))), (pl, .inl (g.2.2.1, 4096, .inr (.inl flst))), (pe, .inl (g.2.1, 4096, .inl fbef)), (px, .inl (g.2.1, 60, .inl ftext))] H := hP
                  have hD : va_D A [(o, .inr (9, [.int 0, .ref pn, .ref pt, .ref pr, .ref pw, .ref pb, .int nst, .ref pk, .ref pi, .ref pf, .ref pl, .ref pe, .ref pm, .int nn, .ref px, .int len, .int pos, .int gd, .int ps, .int sm])), (pn, .inl (g.2.1, 61, .inl fnow)), (pt, .inl (g.2.1, 61, .inl r_22.2)), (pw, .inl (g.2.1, 49, .inl r_31.2)), (pi, .inl (g.2.2.2.1, 2, .inl fisk)), (pf, .inl (g.2.2.1, 4096, .inr (.inl ffst))), (pl, .inl (g.2.2.1, 4096, .inr (.inl flst))), (pe, .inl (g.2.1, 4096, .inl fbef)), (px, .inl (g.2.1, 60, .inl ftext))] := hD
                  show W p l e R s m args below meth c H locs 0 0 Q (F0 m 453 ls [])
                  unfold fX9_digest_L453_B at hyp
                  refine lv_iload hx hb dX9_digest_453 (lv_at hl 2 rfl) ?_
                  refine lv_aload_n hx hb dX9_digest_455 rfl (lv_at hl 0 rfl) ?_
                  refine gf_X9_172 hx hb hts hown hE hP 0 rfl rfl dX9_digest_456 ?_
                  refine lv_icmp_ge (tgt := 481) hx hb dX9_digest_459 (by decide) (fun h_56 => ?_) (fun h_56 => ?_)
                  · replace hyp := ite_t h_56 hyp
                    refine lv_lload_n hx hb dX9_digest_481 rfl (lv_at hl 1 rfl) ?_
                    have hyp := some_e hyp
                    subst hyp
                    subst hQ
                    exact rwJ hx hb hr hlocks  hP hD hS dX9_digest_482
                  · replace hyp := ite_f h_56 hyp
                    refine lv_lload_n hx hb dX9_digest_462 rfl (lv_at hl 1 rfl) ?_
                    refine lv_aload_n hx hb dX9_digest_463 rfl (lv_at hl 0 rfl) ?_
                    refine gf_X9_45 hx hb hts hown hE hP 0 rfl rfl dX9_digest_464 ?_
                    refine lv_iload hx hb dX9_digest_467 (lv_at hl 2 rfl) ?_
                    obtain ⟨hi, hyp⟩ := grd_e hyp
                    refine va_iald hx hb hE.1 hP 8 0 rfl rfl (inB_vp hi) dX9_digest_469 ?_
                    refine lv_i2l hx hb dX9_digest_470 rfl ?_
                    obtain ⟨r_57, hr_57, hyp⟩ := opt_e hyp
                    refine pSJ (As := [.long v1_53, .long ((ftext v5_54.toNatClampNeg).toInt64)]) (rest := []) ⟨hx, hb, hml, hown, hts⟩ hE (mX9_mix l g v1_53 ((ftext v5_54.toNatClampNeg).toInt64) r_57 hr_57) cf_X9_mix st_X9_mix ml_X9_268 ⟨Nat.le_trans (Nat.le_of_ble_eq_true rfl) hRf, Nat.le_trans (Nat.le_of_ble_eq_true rfl) hRl⟩ (va_P_nil) rfl hl.1 rfl (Nat.le_of_ble_eq_true rfl) dX9_digest_471 ⟨Nat.zero_le _, Nat.zero_le _⟩ ?_
                    refine lv_lstore_n (lv' := [(1, .long r_57), (0, .ref o), (5, .int v5_54)]) hx hb dX9_digest_474 rfl hl (by decide) rfl (fun ls hl => ?_)
                    refine lv_iinc (v := v5_54 + 1) (lv' := [(5, .int (v5_54 + 1)), (1, .long r_57), (0, .ref o)]) hx hb dX9_digest_475 hl (k := 2) rfl rfl (by decide) rfl (fun ls hl => ?_)
                    refine lv_goto (tgt := 453) hx hb dX9_digest_478 (by decide) ?_
                    exact ihself_55 r_57 (v5_54 + 1) hyp H locs ls (lv_sub hl [2, 1, 0] rfl) hP hD hS
                refine lv_if_eq (tgt := 435) hx hb dX9_digest_428 (by decide) (fun h_58 => ?_) (fun h_58 => ?_)
                · replace hyp := ite_t h_58 hyp
                  refine lv_lconst (v := 0) hx hb dX9_digest_435 (by decide) ?_
                  exact kJ_50 0 H locs ls hyp hl hP hD hS
                · replace hyp := ite_f h_58 hyp
                  refine lv_lconst (v := 1) hx hb dX9_digest_431 (by decide) ?_
                  refine lv_goto (tgt := 436) hx hb dX9_digest_432 (by decide) ?_
                  exact kJ_50 1 H locs ls hyp hl hP hD hS
              refine lv_if_eq (tgt := 418) hx hb dX9_digest_411 (by decide) (fun h_59 => ?_) (fun h_59 => ?_)
              · replace hyp := ite_t h_59 hyp
                refine lv_lconst (v := 0) hx hb dX9_digest_418 (by decide) ?_
                exact kJ_47 0 H locs ls hyp (lv_sub hl [1] rfl) hP hD hS
              · replace hyp := ite_f h_59 hyp
                refine lv_lconst (v := 1) hx hb dX9_digest_414 (by decide) ?_
                refine lv_goto (tgt := 419) hx hb dX9_digest_415 (by decide) ?_
                exact kJ_47 1 H locs ls hyp (lv_sub hl [1] rfl) hP hD hS
            refine lv_icmp_ne (tgt := 303) hx hb dX9_digest_296 (by decide) (fun h_60 => ?_) (fun h_60 => ?_)
            · replace hyp := ite_f h_60 hyp
              refine lv_aload_n hx hb dX9_digest_303 rfl (lv_at hl 1 rfl) ?_
              obtain ⟨r_61, hr_61, hyp⟩ := opt_e hyp
              refine pV (As := []) (rest := [.long r_32]) ⟨hx, hb, hml, hown, hts⟩ hE (mX9_pressure l g o pn pt pr pw pb pk pi pf pl pe pm px 0 nst nn len pos gd ps sm fnow r_61 hr_61) cf_X9_pressure im_X9_pressure se_X9_pressure ml_X9_250 ⟨Nat.le_trans (Nat.le_of_ble_eq_true rfl) hRf, Nat.le_trans (Nat.le_of_ble_eq_true rfl) hRl⟩ (hP.sub (ws' := [(o, .inr (9, [.int 0, .ref pn, .ref pt, .ref pr, .ref pw, .ref pb, .int nst, .ref pk, .ref pi, .ref pf, .ref pl, .ref pe, .ref pm, .int nn, .ref px, .int len, .int pos, .int gd, .int ps, .int sm])), (pn, .inl (g.2.1, 61, .inl fnow))]) [0, 1] rfl) (ci := 9) (q0 := 0) rfl rfl rfl rfl hl.1 rfl (Nat.le_of_ble_eq_true rfl) dX9_digest_304 ⟨Nat.zero_le _, Nat.zero_le _⟩ ?_
              refine lv_iconst (v := 1) hx hb dX9_digest_307 (by decide) ?_
              refine lv_iadd hx hb dX9_digest_308 ?_
              refine lv_i2l hx hb dX9_digest_309 rfl ?_
              exact kJ_34 ((r_61 + 1).toInt64) H locs ls hyp (lv_sub hl [1] rfl) hP hD hS
            · replace hyp := ite_t h_60 hyp
              refine lv_lconst (v := 0) hx hb dX9_digest_299 (by decide) ?_
              refine lv_goto (tgt := 310) hx hb dX9_digest_300 (by decide) ?_
              exact kJ_34 0 H locs ls hyp (lv_sub hl [1] rfl) hP hD hS
          refine lv_icmp_ne (tgt := 268) hx hb dX9_digest_261 (by decide) (fun h_62 => ?_) (fun h_62 => ?_)
          · replace hyp := ite_f h_62 hyp
            refine lv_iload hx hb dX9_digest_268 (lv_at hl 2 rfl) ?_
            refine lv_i2l hx hb dX9_digest_270 rfl ?_
            exact kJ_27 r_6.1.toInt64 H locs ls hyp (lv_sub hl [0, 1] rfl) hP hD hS
          · replace hyp := ite_t h_62 hyp
            refine lv_lconst (v := 0) hx hb dX9_digest_264 (by decide) ?_
            refine lv_goto (tgt := 271) hx hb dX9_digest_265 (by decide) ?_
            exact kJ_27 0 H locs ls hyp (lv_sub hl [0, 1] rfl) hP hD hS
        refine lv_icmp_ne (tgt := 252) hx hb dX9_digest_245 (by decide) (fun h_63 => ?_) (fun h_63 => ?_)
        · replace hyp := ite_f h_63 hyp
          refine lv_iload hx hb dX9_digest_252 (lv_at hl 3 rfl) ?_
          refine lv_i2l hx hb dX9_digest_254 rfl ?_
          exact kJ_24 r_6.1.toInt64 H locs ls hyp (lv_sub hl [1, 2, 3] rfl) hP hD hS
        · replace hyp := ite_t h_63 hyp
          refine lv_lconst (v := 0) hx hb dX9_digest_248 (by decide) ?_
          refine lv_goto (tgt := 255) hx hb dX9_digest_249 (by decide) ?_
          exact kJ_24 0 H locs ls hyp (lv_sub hl [1, 2, 3] rfl) hP hD hS
      refine lv_if_ne (tgt := 216) hx hb dX9_digest_209 (by decide) (fun h_64 => ?_) (fun h_64 => ?_)
      · replace hyp := ite_f h_64 hyp
        refine lv_aload_n hx hb dX9_digest_216 rfl (lv_at hl 1 rfl) ?_
        refine lv_aload_n hx hb dX9_digest_217 rfl (lv_at hl 1 rfl) ?_
        refine gf_X9_7 hx hb hts hown hE hP 0 rfl rfl dX9_digest_218 ?_
        obtain ⟨r_65, hr_65, hyp⟩ := opt_e hyp
        refine pV (As := [.ref pn]) (rest := [.long r_17]) ⟨hx, hb, hml, hown, hts⟩ hE (mX9_seen l g o pf pl pe pn pn pt pr pw pb pk pi pm px 0 nst nn len pos gd ps sm ffst flst fbef fnow r_65 hr_65) cf_X9_seen im_X9_seen se_X9_seen ml_X9_142 ⟨Nat.le_trans (Nat.le_of_ble_eq_true rfl) hRf, Nat.le_trans (Nat.le_of_ble_eq_true rfl) hRl⟩ (hP.sub (ws' := [(o, .inr (9, [.int 0, .ref pn, .ref pt, .ref pr, .ref pw, .ref pb, .int nst, .ref pk, .ref pi, .ref pf, .ref pl, .ref pe, .ref pm, .int nn, .ref px, .int len, .int pos, .int gd, .int ps, .int sm])), (pf, .inl (g.2.2.1, 4096, .inr (.inl ffst))), (pl, .inl (g.2.2.1, 4096, .inr (.inl flst))), (pe, .inl (g.2.1, 4096, .inl fbef)), (pn, .inl (g.2.1, 61, .inl fnow))]) [0, 5, 6, 7, 1] rfl) (ci := 9) (q0 := 0) rfl rfl rfl rfl hl.1 rfl (Nat.le_of_ble_eq_true rfl) dX9_digest_221 ⟨Nat.zero_le _, Nat.zero_le _⟩ ?_
        refine lv_i2l hx hb dX9_digest_224 rfl ?_
        exact kJ_19 r_65.toInt64 H locs ls hyp (lv_sub hl [1, 2, 3] rfl) hP hD hS
      · replace hyp := ite_t h_64 hyp
        refine lv_lconst (v := 0) hx hb dX9_digest_212 (by decide) ?_
        refine lv_goto (tgt := 225) hx hb dX9_digest_213 (by decide) ?_
        exact kJ_19 0 H locs ls hyp (lv_sub hl [1, 2, 3] rfl) hP hD hS
    refine lv_icmp_ne (tgt := 185) hx hb dX9_digest_169 (by decide) (fun h_66 => ?_) (fun h_66 => ?_)
    · replace hyp := ite_f h_66 hyp
      refine lv_lconst (v := 0) hx hb dX9_digest_185 (by decide) ?_
      exact kJ_15 0 H locs ls hyp (lv_sub hl [3, 2, 1] rfl) hP hD hS
    · replace hyp := ite_t h_66 hyp
      refine lv_aload_n hx hb dX9_digest_172 rfl (lv_at hl 3 rfl) ?_
      refine gf_X9_7 hx hb hts hown hE hP 0 rfl rfl dX9_digest_173 ?_
      refine lv_bipush (v := 49) hx hb dX9_digest_176 (by decide) ?_
      obtain ⟨hi, hyp⟩ := grd_e hyp
      refine va_iald hx hb hE.1 hP 1 0 rfl rfl (inB_vp hi) dX9_digest_178 ?_
      refine lv_iconst (v := 1) hx hb dX9_digest_179 (by decide) ?_
      refine lv_iadd hx hb dX9_digest_180 ?_
      refine lv_i2l hx hb dX9_digest_181 rfl ?_
      refine lv_goto (tgt := 186) hx hb dX9_digest_182 (by decide) ?_
      exact kJ_15 (((fnow (49 : Int32).toNatClampNeg) + 1).toInt64) H locs ls hyp (lv_sub hl [3, 2, 1] rfl) hP hD hS
  · replace hyp := ite_f h_4 hyp
    refine lv_lload_n hx hb dX9_digest_17 rfl (lv_at hl 1 rfl) ?_
    refine lv_aload_n hx hb dX9_digest_18 rfl (lv_at hl 0 rfl) ?_
    refine gf_X9_7 hx hb hts hown hE hP 0 rfl rfl dX9_digest_19 ?_
    refine lv_iload_n hx hb dX9_digest_22 rfl (lv_at hl 2 rfl) ?_
    obtain ⟨hi, hyp⟩ := grd_e hyp
    refine va_iald hx hb hE.1 hP 1 0 rfl rfl (inB_vp hi) dX9_digest_23 ?_
    refine lv_i2l hx hb dX9_digest_24 rfl ?_
    obtain ⟨r_67, hr_67, hyp⟩ := opt_e hyp
    refine pSJ (As := [.long v1_1, .long ((fnow v3_2.toNatClampNeg).toInt64)]) (rest := []) ⟨hx, hb, hml, hown, hts⟩ hE (mX9_mix l g v1_1 ((fnow v3_2.toNatClampNeg).toInt64) r_67 hr_67) cf_X9_mix st_X9_mix ml_X9_268 ⟨Nat.le_trans (Nat.le_of_ble_eq_true rfl) hRf, Nat.le_trans (Nat.le_of_ble_eq_true rfl) hRl⟩ (va_P_nil) rfl hl.1 rfl (Nat.le_of_ble_eq_true rfl) dX9_digest_25 ⟨Nat.zero_le _, Nat.zero_le _⟩ ?_
    refine lv_aload_n hx hb dX9_digest_28 rfl (lv_at hl 0 rfl) ?_
    refine gf_X9_7 hx hb hts hown hE hP 0 rfl rfl dX9_digest_29 ?_
    refine lv_iload_n hx hb dX9_digest_32 rfl (lv_at hl 2 rfl) ?_
    refine lv_iconst (v := 0) hx hb dX9_digest_33 (by decide) ?_
    obtain ⟨r_68, hr_68, hyp⟩ := opt_e hyp
    refine pS (As := [.ref pn, .int v3_2, .int 0]) (rest := [.long r_67]) ⟨hx, hb, hml, hown, hts⟩ hE (mX9_hostile l g pn fnow v3_2 0 r_68 hr_68) cf_X9_hostile st_X9_hostile ml_X9_87 ⟨Nat.le_trans (Nat.le_of_ble_eq_true rfl) hRf, Nat.le_trans (Nat.le_of_ble_eq_true rfl) hRl⟩ (hP.sub (ws' := [(pn, .inl (g.2.1, 61, .inl fnow))]) [1] rfl) rfl hl.1 rfl (Nat.le_of_ble_eq_true rfl) dX9_digest_34 ⟨Nat.zero_le _, Nat.zero_le _⟩ ?_
    obtain ⟨J_70, eJ_70, hyp⟩ := jn_e hyp
    have kJ_70 : ∀ (t_69 : Int64) (H : Heap) (locs : List Loc) (ls : Array Slot), J_70 t_69 = some r → lv_has ls 6 [(0, .ref o), (3, .int v3_2)] → va_P g.1 vwCl [(o, .inr (9, [.int 0, .ref pn, .ref pt, .ref pr, .ref pw, .ref pb, .int nst, .ref pk, .ref pi, .ref pf, .ref pl, .ref pe, .ref pm, .int nn, .ref px, .int len, .int pos, .int gd, .int ps, .int sm])), (pn, .inl (g.2.1, 61, .inl fnow)), (pt, .inl (g.2.1, 61, .inl ftri)), (pw, .inl (g.2.1, 49, .inl fway)), (pi, .inl (g.2.2.2.1, 2, .inl fisk)), (pf, .inl (g.2.2.1, 4096, .inr (.inl ffst))), (pl, .inl (g.2.2.1, 4096, .inr (.inl flst))), (pe, .inl (g.2.1, 4096, .inl fbef)), (px, .inl (g.2.1, 60, .inl ftext))] H → va_D A [(o, .inr (9, [.int 0, .ref pn, .ref pt, .ref pr, .ref pw, .ref pb, .int nst, .ref pk, .ref pi, .ref pf, .ref pl, .ref pe, .ref pm, .int nn, .ref px, .int len, .int pos, .int gd, .int ps, .int sm])), (pn, .inl (g.2.1, 61, .inl fnow)), (pt, .inl (g.2.1, 61, .inl ftri)), (pw, .inl (g.2.1, 49, .inl fway)), (pi, .inl (g.2.2.2.1, 2, .inl fisk)), (pf, .inl (g.2.2.1, 4096, .inr (.inl ffst))), (pl, .inl (g.2.2.1, 4096, .inr (.inl flst))), (pe, .inl (g.2.1, 4096, .inl fbef)), (px, .inl (g.2.1, 60, .inl ftext))] → va_S A s.heap H locs → W p l e R s m args below meth c H locs 0 0 Q (F0 m 45 ls [.long t_69, .long r_67]) := by
      intro t_69 H locs  ls hyp hl hP hD hS
      replace hyp := (congrFun (eJ_70) t_69).symm.trans hyp
      obtain ⟨r_71, hr_71, hyp⟩ := opt_e hyp
      refine pSJ (As := [.long r_67, .long t_69]) (rest := []) ⟨hx, hb, hml, hown, hts⟩ hE (mX9_mix l g r_67 t_69 r_71 hr_71) cf_X9_mix st_X9_mix ml_X9_268 ⟨Nat.le_trans (Nat.le_of_ble_eq_true rfl) hRf, Nat.le_trans (Nat.le_of_ble_eq_true rfl) hRl⟩ (va_P_nil) rfl hl.1 rfl (Nat.le_of_ble_eq_true rfl) dX9_digest_45 ⟨Nat.zero_le _, Nat.zero_le _⟩ ?_
      refine lv_lstore_n (lv' := [(1, .long r_71), (0, .ref o), (3, .int v3_2)]) hx hb dX9_digest_48 rfl hl (by decide) rfl (fun ls hl => ?_)
      refine lv_lload_n hx hb dX9_digest_49 rfl (lv_at hl 0 rfl) ?_
      refine lv_aload_n hx hb dX9_digest_50 rfl (lv_at hl 1 rfl) ?_
      refine gf_X9_7 hx hb hts hown hE hP 0 rfl rfl dX9_digest_51 ?_
      refine lv_iload_n hx hb dX9_digest_54 rfl (lv_at hl 2 rfl) ?_
      refine lv_iconst (v := 1) hx hb dX9_digest_55 (by decide) ?_
      obtain ⟨r_72, hr_72, hyp⟩ := opt_e hyp
      refine pS (As := [.ref pn, .int v3_2, .int 1]) (rest := [.long r_71]) ⟨hx, hb, hml, hown, hts⟩ hE (mX9_hostile l g pn fnow v3_2 1 r_72 hr_72) cf_X9_hostile st_X9_hostile ml_X9_87 ⟨Nat.le_trans (Nat.le_of_ble_eq_true rfl) hRf, Nat.le_trans (Nat.le_of_ble_eq_true rfl) hRl⟩ (hP.sub (ws' := [(pn, .inl (g.2.1, 61, .inl fnow))]) [1] rfl) rfl hl.1 rfl (Nat.le_of_ble_eq_true rfl) dX9_digest_56 ⟨Nat.zero_le _, Nat.zero_le _⟩ ?_
      obtain ⟨J_74, eJ_74, hyp⟩ := jn_e hyp
      have kJ_74 : ∀ (t_73 : Int64) (H : Heap) (locs : List Loc) (ls : Array Slot), J_74 t_73 = some r → lv_has ls 6 [(0, .ref o), (3, .int v3_2)] → va_P g.1 vwCl [(o, .inr (9, [.int 0, .ref pn, .ref pt, .ref pr, .ref pw, .ref pb, .int nst, .ref pk, .ref pi, .ref pf, .ref pl, .ref pe, .ref pm, .int nn, .ref px, .int len, .int pos, .int gd, .int ps, .int sm])), (pn, .inl (g.2.1, 61, .inl fnow)), (pt, .inl (g.2.1, 61, .inl ftri)), (pw, .inl (g.2.1, 49, .inl fway)), (pi, .inl (g.2.2.2.1, 2, .inl fisk)), (pf, .inl (g.2.2.1, 4096, .inr (.inl ffst))), (pl, .inl (g.2.2.1, 4096, .inr (.inl flst))), (pe, .inl (g.2.1, 4096, .inl fbef)), (px, .inl (g.2.1, 60, .inl ftext))] H → va_D A [(o, .inr (9, [.int 0, .ref pn, .ref pt, .ref pr, .ref pw, .ref pb, .int nst, .ref pk, .ref pi, .ref pf, .ref pl, .ref pe, .ref pm, .int nn, .ref px, .int len, .int pos, .int gd, .int ps, .int sm])), (pn, .inl (g.2.1, 61, .inl fnow)), (pt, .inl (g.2.1, 61, .inl ftri)), (pw, .inl (g.2.1, 49, .inl fway)), (pi, .inl (g.2.2.2.1, 2, .inl fisk)), (pf, .inl (g.2.2.1, 4096, .inr (.inl ffst))), (pl, .inl (g.2.2.1, 4096, .inr (.inl flst))), (pe, .inl (g.2.1, 4096, .inl fbef)), (px, .inl (g.2.1, 60, .inl ftext))] → va_S A s.heap H locs → W p l e R s m args below meth c H locs 0 0 Q (F0 m 67 ls [.long t_73, .long r_71]) := by
        intro t_73 H locs  ls hyp hl hP hD hS
        replace hyp := (congrFun (eJ_74) t_73).symm.trans hyp
        obtain ⟨r_75, hr_75, hyp⟩ := opt_e hyp
        refine pSJ (As := [.long r_71, .long t_73]) (rest := []) ⟨hx, hb, hml, hown, hts⟩ hE (mX9_mix l g r_71 t_73 r_75 hr_75) cf_X9_mix st_X9_mix ml_X9_268 ⟨Nat.le_trans (Nat.le_of_ble_eq_true rfl) hRf, Nat.le_trans (Nat.le_of_ble_eq_true rfl) hRl⟩ (va_P_nil) rfl hl.1 rfl (Nat.le_of_ble_eq_true rfl) dX9_digest_67 ⟨Nat.zero_le _, Nat.zero_le _⟩ ?_
        refine lv_aload_n hx hb dX9_digest_70 rfl (lv_at hl 0 rfl) ?_
        refine gf_X9_7 hx hb hts hown hE hP 0 rfl rfl dX9_digest_71 ?_
        refine lv_iload_n hx hb dX9_digest_74 rfl (lv_at hl 1 rfl) ?_
        obtain ⟨r_76, hr_76, hyp⟩ := opt_e hyp
        refine pS (As := [.ref pn, .int v3_2]) (rest := [.long r_75]) ⟨hx, hb, hml, hown, hts⟩ hE (mX9_goals l g pn fnow v3_2 r_76 hr_76) cf_X9_goals st_X9_goals ml_X9_83 ⟨Nat.le_trans (Nat.le_of_ble_eq_true rfl) hRf, Nat.le_trans (Nat.le_of_ble_eq_true rfl) hRl⟩ (hP.sub (ws' := [(pn, .inl (g.2.1, 61, .inl fnow))]) [1] rfl) rfl hl.1 rfl (Nat.le_of_ble_eq_true rfl) dX9_digest_75 ⟨Nat.zero_le _, Nat.zero_le _⟩ ?_
        refine lv_i2l hx hb dX9_digest_78 rfl ?_
        obtain ⟨r_77, hr_77, hyp⟩ := opt_e hyp
        refine pSJ (As := [.long r_75, .long r_76.toInt64]) (rest := []) ⟨hx, hb, hml, hown, hts⟩ hE (mX9_mix l g r_75 r_76.toInt64 r_77 hr_77) cf_X9_mix st_X9_mix ml_X9_268 ⟨Nat.le_trans (Nat.le_of_ble_eq_true rfl) hRf, Nat.le_trans (Nat.le_of_ble_eq_true rfl) hRl⟩ (va_P_nil) rfl hl.1 rfl (Nat.le_of_ble_eq_true rfl) dX9_digest_79 ⟨Nat.zero_le _, Nat.zero_le _⟩ ?_
        refine lv_lstore_n (lv' := [(1, .long r_77), (0, .ref o), (3, .int v3_2)]) hx hb dX9_digest_82 rfl hl (by decide) rfl (fun ls hl => ?_)
        refine lv_iinc (v := v3_2 + 1) (lv' := [(3, .int (v3_2 + 1)), (1, .long r_77), (0, .ref o)]) hx hb dX9_digest_83 hl (k := 2) rfl rfl (by decide) rfl (fun ls hl => ?_)
        refine lv_goto (tgt := 11) hx hb dX9_digest_86 (by decide) ?_
        exact ihself_3 r_77 (v3_2 + 1) hyp H locs ls (lv_sub hl [2, 1, 0] rfl) hP hD hS
      refine lv_if_eq (tgt := 66) hx hb dX9_digest_59 (by decide) (fun h_78 => ?_) (fun h_78 => ?_)
      · replace hyp := ite_t h_78 hyp
        refine lv_lconst (v := 0) hx hb dX9_digest_66 (by decide) ?_
        exact kJ_74 0 H locs ls hyp (lv_sub hl [1, 2] rfl) hP hD hS
      · replace hyp := ite_f h_78 hyp
        refine lv_lconst (v := 1) hx hb dX9_digest_62 (by decide) ?_
        refine lv_goto (tgt := 67) hx hb dX9_digest_63 (by decide) ?_
        exact kJ_74 1 H locs ls hyp (lv_sub hl [1, 2] rfl) hP hD hS
    refine lv_if_eq (tgt := 44) hx hb dX9_digest_37 (by decide) (fun h_79 => ?_) (fun h_79 => ?_)
    · replace hyp := ite_t h_79 hyp
      refine lv_lconst (v := 0) hx hb dX9_digest_44 (by decide) ?_
      exact kJ_70 0 H locs ls hyp (lv_sub hl [0, 2] rfl) hP hD hS
    · replace hyp := ite_f h_79 hyp
      refine lv_lconst (v := 1) hx hb dX9_digest_40 (by decide) ?_
      refine lv_goto (tgt := 45) hx hb dX9_digest_41 (by decide) ?_
      exact kJ_70 1 H locs ls hyp (lv_sub hl [0, 2] rfl) hP hD hS

noncomputable def fL_law_L185_B (J_41 : Int32 → PS → PS → Option Int32) (self_65 : Int32 → Int32 → PS → PS → Option Int32) (v3_60 : Int32) (v7_61 : Int32) (zp_63 : PS) (zq_64 : PS) : Option Int32 :=
  if 6 ≤ v7_61 then (J_41 v3_60 zp_63 zq_64) else (if v3_60 = 0 then (J_41 v3_60 zp_63 zq_64) else (bnd (o_goBack zp_63 1) (fun (r_70 : Int64 × PS) => bnd (o_goBack zq_64 1) (fun (r_72 : Int64 × PS) => jn (fun (t_73 : Int32) => self_65 t_73 (v7_61 + 1) r_70.2 r_72.2) (fun J_75 => if (lg_cmp r_70.1 r_72.1) = 0 then (J_75 1) else (J_75 0))))))
noncomputable def fL_law_L185 (J_41 : Int32 → PS → PS → Option Int32) (n : Nat) (v3_60 : Int32) (v7_61 : Int32) (zp_63 : PS) (zq_64 : PS) : Option Int32 := lp (fun zf z => fL_law_L185_B J_41 (fun v3_60 v7_61 zp_63 zq_64 => zf (v3_60, v7_61, zp_63, zq_64)) z.1 z.2.1 z.2.2.1 z.2.2.2) n (v3_60, v7_61, zp_63, zq_64)
noncomputable def fL_law_L49_B (xs : Nat → Int32) (L : Nat) (self_13 : Int32 → Int32 → PS → PS → Option Int32) (v3_8 : Int32) (v4_9 : Int32) (zp_11 : PS) (zq_12 : PS) : Option Int32 :=
  jn (if v3_8 = 0 then (some 0) else ((fL_alike zp_11 zq_12).bind (fun (r_19 : Int32) => if r_19 = 0 then (some 0) else (some 1)))) (fun J_16 => if 40 ≤ v4_9 then (J_16) else (if v3_8 = 0 then (J_16) else (grd (decide (¬ (2 * v4_9) < 0)) (grd (decide (¬ ((2 * v4_9) + 1) < 0)) ((fL_act zp_11 (o_draw xs L (2 * v4_9)) (o_draw xs L ((2 * v4_9) + 1))).bind (fun (r_26 : Int64 × PS) => (fL_act zq_12 (o_draw xs L (2 * v4_9)) (o_draw xs L ((2 * v4_9) + 1))).bind (fun (r_28 : Int64 × PS) => jn (fun (t_29 : Int32) => jn (fun (v3_32 : Int32) (zp_34 : PS) (zq_35 : PS) => jn (fun (v3_37 : Int32) (zp_39 : PS) (zq_40 : PS) => jn (fun (t_42 : Int32) => self_13 t_42 (v4_9 + 1) zp_39 zq_40) (fun J_44 => jn (J_44 0) (fun J_46 => if v3_37 = 0 then (J_46) else (jn (J_44 1) (fun J_49 => if 0 < (v4_9 - v4_9 / 10 * 10) then (J_49) else ((fL_alike zp_39 zq_40).bind (fun (r_52 : Int32) => if r_52 = 0 then (J_46) else (J_49)))))))) (fun J_41 => if (v4_9 - v4_9 / 13 * 13) = 12 then (jn (fun (t_55 : Int32) (zp_57 : PS) (zq_58 : PS) => fL_law_L185 J_41 7 t_55 0 zp_57 zq_58) (fun J_59 => jn (fun (zp_78 : PS) (zq_79 : PS) => J_59 0 zp_78 zq_79) (fun J_80 => if v3_32 = 0 then (J_80 zp_34 zq_35) else ((fL_follows zq_35 (o_draw xs L ((2 * v4_9) + 1))).bind (fun (r_83 : Int32 × PS) => if r_83.1 = 0 then (J_80 zp_34 r_83.2) else (bnd (o_keep zp_34 1) (fun (r_86 : Int64 × PS) => if (lg_cmp r_86.1 0) = 0 then (J_59 1 r_86.2 r_83.2) else (J_80 r_86.2 r_83.2)))))))) else (J_41 v3_32 zp_34 zq_35))) (fun J_36 => if (v4_9 - v4_9 / 8 * 8) = 3 then (jn (fun (t_89 : Int32) (zp_91 : PS) (zq_92 : PS) => J_36 t_89 zp_91 zq_92) (fun J_93 => jn (fun (zp_95 : PS) (zq_96 : PS) => J_93 0 zp_95 zq_96) (fun J_97 => if t_29 = 0 then (J_97 r_26.2 r_28.2) else ((fL_errors r_28.2).bind (fun (r_100 : Int32 × PS) => if r_100.1 = 0 then (J_97 r_26.2 r_100.2) else ((fL_kept r_100.2 (o_draw xs L ((2 * v4_9) + 1))).bind (fun (r_103 : Int32) => if r_103 = 0 then (J_97 r_26.2 r_100.2) else (J_93 1 r_26.2 r_100.2)))))))) else (J_36 t_29 r_26.2 r_28.2))) (fun J_31 => if (lg_cmp r_26.1 r_28.1) = 0 then (J_31 1) else (J_31 0)))))))))
noncomputable def fL_law_L49 (xs : Nat → Int32) (L : Nat) (n : Nat) (v3_8 : Int32) (v4_9 : Int32) (zp_11 : PS) (zq_12 : PS) : Option Int32 := lp (fun zf z => fL_law_L49_B xs L (fun v3_8 v4_9 zp_11 zq_12 => zf (v3_8, v4_9, zp_11, zq_12)) z.1 z.2.1 z.2.2.1 z.2.2.2) n (v3_8, v4_9, zp_11, zq_12)
noncomputable def fL_law (xs : Nat → Int32) (L : Nat) (sp sq : PS) : Option Int32 :=
  (fL_alike sp sq).bind (fun (r_2 : Int32) => jn (fun (t_3 : Int32) (zp_5 : PS) (zq_6 : PS) => fL_law_L49 xs L 41 t_3 0 zp_5 zq_6) (fun J_7 => jn (fun (zp_107 : PS) (zq_108 : PS) => J_7 0 zp_107 zq_108) (fun J_109 => if r_2 = 0 then (J_109 sp sq) else ((fL_errors sp).bind (fun (r_112 : Int32 × PS) => if r_112.1 = 0 then (J_109 r_112.2 sq) else ((fL_kept r_112.2 7).bind (fun (r_115 : Int32) => if r_115 = 0 then (J_109 r_112.2 sq) else (J_7 1 r_112.2 sq))))))))
set_option maxRecDepth 100000 in
set_option maxHeartbeats 16000000 in
theorem mL_law {p : Program} {l : Launch} {e : Env} {R : Room} {s : State} {m : MethodId} {args : Array Value} {below : List Frame} {meth : Method} {c : Code} {Q : State → Prop} {A F : Nat → Prop} {g : GE} {zc zp b L : Nat} {xs : Nat → Int32} {ap aq : Nat → Nat} {sp sq : PS} {H_0 : Heap} {locs_0 : List Loc} {c_0 s_0 : Nat} {ls : Array Slot} (hRf : 11 ≤ R.frames) (hRl : 259 ≤ R.locals) (hRc : c_0 + 58464 ≤ R.cells) (hRs : s_0 + 350616 ≤ R.slots) (C : CX p l s m args c cL_law 8 g zc zp A) (hX : va_X b L xs s s.heap) (hL31 : L < 2 ^ 31) (hbA : ¬ A b) (hAp : OA A F ap) (hAq : OA A F aq) (hdis : DS ap aq) (hOp_0 : OB g ap F sp s H_0) (hOq_0 : OB g aq F sq s H_0) (hS_0 : va_S A s.heap H_0 locs_0) (hl : lv_has ls 8 [(0, .ref b), (1, .ref (ap 0)), (2, .ref (aq 0))]) (r : Int32) (hyp : fL_law xs L sp sq = some r) (kfin : ∀ (H : Heap) (locs : List Loc) (c9 s9 : Nat) (ls : Array Slot), va_S A s.heap H locs → (c9 ≤ c_0 + 58464 ∧ s9 ≤ s_0 + 350616) → W p l e R s m args below meth c H locs c9 s9 Q (F0 m 271 ls [.int r])) : W p l e R s m args below meth c H_0 locs_0 c_0 s_0 Q (F0 m 16 ls []) := by
  obtain ⟨hx, hb, hml, hown, hts, hl0, hE, hSR, hNC, hOS, hOT, hAh⟩ := id C
  obtain ⟨cm, hcm⟩ : ∃ q : Nat, q = c_0 + 58464 := ⟨_, rfl⟩
  obtain ⟨sm, hsm⟩ : ∃ q : Nat, q = s_0 + 350616 := ⟨_, rfl⟩
  rw [← hcm, ← hsm] at kfin
  rw [← hcm] at hRc
  rw [← hsm] at hRs
  have hc_0 : c_0 + (58464) ≤ cm ∧ s_0 + (350616) ≤ sm := by omega
  unfold fL_law at hyp
  refine lv_aload_n hx hb dL_law_16 rfl (lv_at hl 1 rfl) ?_
  refine lv_aload_n hx hb dL_law_17 rfl (lv_at hl 2 rfl) ?_
  obtain ⟨r_2, hr_2, hyp⟩ := opt_e hyp
  refine sH2 (As := [.ref (ap 0), .ref (aq 0)]) (rest := []) C hAp hAq hdis hOp_0 hOq_0 hS_0 (mL_alike l hl0 g zc zp ap aq sp sq r_2 hr_2) cf_L_alike st_L_alike ml_L_269 ⟨Nat.le_trans (Nat.le_of_ble_eq_true rfl) hRf, Nat.le_trans (Nat.le_of_ble_eq_true rfl) hRl⟩ rfl hl.1 rfl (Nat.le_of_ble_eq_true rfl) dL_law_18 ⟨by omega, by omega⟩ (fun H_1 locs_1 hOp_1 hOq_1 hS_1 => ?_)
  generalize hq1 : c_0 + 0 = c_1, hq2 : s_0 + 0 = s_1
  have hc_1 : c_1 + (58464) ≤ cm ∧ s_1 + (350616) ≤ sm := by omega
  clear hS_0 hOp_0 hOq_0
  obtain ⟨J_7, eJ_7, hyp⟩ := jn_e hyp
  have kJ_7 : ∀ (t_3 : Int32) (zp_5 : PS) (zq_6 : PS) (H_4 : Heap) (locs_4 : List Loc) (c_4 s_4 : Nat) (ls : Array Slot), J_7 t_3 zp_5 zq_6 = some r → lv_has ls 8 [(0, .ref b), (1, .ref (ap 0)), (2, .ref (aq 0))] → OB g ap F zp_5 s H_4 → OB g aq F zq_6 s H_4 → va_S A s.heap H_4 locs_4 → (c_4 + (57359) ≤ cm ∧ s_4 + (343990) ≤ sm) → W p l e R s m args below meth c H_4 locs_4 c_4 s_4 Q (F0 m 45 ls [.int t_3]) := by
    intro t_3 zp_5 zq_6 H_4 locs_4 c_4 s_4 ls hyp hl hOp_4 hOq_4 hS_4 hc_4
    replace hyp := (congrFun (congrFun (congrFun (eJ_7) t_3) zp_5) zq_6).symm.trans hyp
    refine lv_istore_n (lv' := [(3, .int t_3), (0, .ref b), (1, .ref (ap 0)), (2, .ref (aq 0))]) hx hb dL_law_45 rfl hl (by decide) rfl (fun ls hl => ?_)
    refine lv_iconst (v := 0) hx hb dL_law_46 (by decide) ?_
    refine lv_istore (lv' := [(4, .int 0), (3, .int t_3), (0, .ref b), (1, .ref (ap 0)), (2, .ref (aq 0))]) hx hb dL_law_47 hl (by decide) rfl (fun ls hl => ?_)
    refine lp_n (r := r) (fun (n9 : Nat) (z : Int32 × Int32 × PS × PS) => ∀ (H_10 : Heap) (locs_10 : List Loc) (c_10 s_10 : Nat) (ls : Array Slot), lv_has ls 8 [(0, .ref b), (1, .ref (ap 0)), (2, .ref (aq 0)), (3, .int z.1), (4, .int z.2.1)] → OB g ap F z.2.2.1 s H_10 → OB g aq F z.2.2.2 s H_10 → va_S A s.heap H_10 locs_10 → (c_10 + (0 + n9 * 1399) ≤ cm ∧ s_10 + (0 + n9 * 8390) ≤ sm) → W p l e R s m args below meth c H_10 locs_10 c_10 s_10 Q (F0 m 49 ls [])) ?_ 41 (t_3, 0, zp_5, zq_6) hyp _ _ _ _ ls (lv_sub hl [2, 3, 4, 1, 0] rfl) hOp_4 hOq_4 hS_4 (by omega)
    intro n9_14 self_13T ihself_13T z hyp H_10 locs_10 c_10 s_10 ls hl hOp_10 hOq_10 hS_10 hc_10
    obtain ⟨v3_8, v4_9, zp_11, zq_12⟩ := z
    obtain ⟨self_13, eself_13⟩ : ∃ f9 : Int32 → Int32 → PS → PS → Option Int32, f9 = fun v3_8 v4_9 zp_11 zq_12 => self_13T (v3_8, v4_9, zp_11, zq_12) := ⟨_, rfl⟩
    have ihself_13 := fun (v3_8 : Int32) (v4_9 : Int32) (zp_11 : PS) (zq_12 : PS) (h9 : self_13 v3_8 v4_9 zp_11 zq_12 = some r) => ihself_13T (v3_8, v4_9, zp_11, zq_12) (by rw [eself_13] at h9; exact h9)
    replace hyp : fL_law_L49_B xs L self_13 v3_8 v4_9 zp_11 zq_12 = some r := by rw [eself_13]; exact hyp
    have hl : lv_has ls 8 [(0, .ref b), (1, .ref (ap 0)), (2, .ref (aq 0)), (3, .int v3_8), (4, .int v4_9)] := hl
    have hOp_10 : OB g ap F zp_11 s H_10 := hOp_10
    have hOq_10 : OB g aq F zq_12 s H_10 := hOq_10
    show W p l e R s m args below meth c H_10 locs_10 c_10 s_10 Q (F0 m 49 ls [])
    unfold fL_law_L49_B at hyp
    have hc_10 : c_10 + (1399 + n9_14 * 1399) ≤ cm ∧ s_10 + (8390 + n9_14 * 8390) ≤ sm := by
      have hq := hc_10
      omega
    refine lv_iload hx hb dL_law_49 (lv_at hl 4 rfl) ?_
    refine lv_bipush (v := 40) hx hb dL_law_51 (by decide) ?_
    obtain ⟨J_16, eJ_16, hyp⟩ := jn_e hyp
    have kJ_16 : ∀ (H_15 : Heap) (locs_15 : List Loc) (c_15 s_15 : Nat) (ls : Array Slot), J_16 = some r → lv_has ls 8 [(1, .ref (ap 0)), (2, .ref (aq 0)), (3, .int v3_8)] → OB g ap F zp_11 s H_15 → OB g aq F zq_12 s H_15 → va_S A s.heap H_15 locs_15 → (c_15 + (0) ≤ cm ∧ s_15 + (0) ≤ sm) → W p l e R s m args below meth c H_15 locs_15 c_15 s_15 Q (F0 m 254 ls []) := by
      intro H_15 locs_15 c_15 s_15 ls hyp hl hOp_15 hOq_15 hS_15 hc_15
      replace hyp := (eJ_16).symm.trans hyp
      refine lv_iload_n hx hb dL_law_254 rfl (lv_at hl 2 rfl) ?_
      refine lv_if_eq (tgt := 270) hx hb dL_law_255 (by decide) (fun h_17 => ?_) (fun h_17 => ?_)
      · replace hyp := ite_t h_17 hyp
        refine lv_iconst (v := 0) hx hb dL_law_270 (by decide) ?_
        have hyp := some_e hyp
        subst hyp
        exact kfin _ _ _ _ ls hS_15 (by omega)
      · replace hyp := ite_f h_17 hyp
        refine lv_aload_n hx hb dL_law_258 rfl (lv_at hl 0 rfl) ?_
        refine lv_aload_n hx hb dL_law_259 rfl (lv_at hl 1 rfl) ?_
        obtain ⟨r_19, hr_19, hyp⟩ := opt_e hyp
        refine sH2 (As := [.ref (ap 0), .ref (aq 0)]) (rest := []) C hAp hAq hdis hOp_15 hOq_15 hS_15 (mL_alike l hl0 g zc zp ap aq zp_11 zq_12 r_19 hr_19) cf_L_alike st_L_alike ml_L_269 ⟨Nat.le_trans (Nat.le_of_ble_eq_true rfl) hRf, Nat.le_trans (Nat.le_of_ble_eq_true rfl) hRl⟩ rfl hl.1 rfl (Nat.le_of_ble_eq_true rfl) dL_law_260 ⟨by omega, by omega⟩ (fun H_18 locs_18 hOp_18 hOq_18 hS_18 => ?_)
        generalize hq1 : c_15 + 0 = c_18, hq2 : s_15 + 0 = s_18
        have hc_18 : c_18 + (0) ≤ cm ∧ s_18 + (0) ≤ sm := by omega
        clear hS_15 hOp_15 hOq_15
        refine lv_if_eq (tgt := 270) hx hb dL_law_263 (by decide) (fun h_20 => ?_) (fun h_20 => ?_)
        · replace hyp := ite_t h_20 hyp
          refine lv_iconst (v := 0) hx hb dL_law_270 (by decide) ?_
          have hyp := some_e hyp
          subst hyp
          exact kfin _ _ _ _ ls hS_18 (by omega)
        · replace hyp := ite_f h_20 hyp
          refine lv_iconst (v := 1) hx hb dL_law_266 (by decide) ?_
          refine lv_goto (tgt := 271) hx hb dL_law_267 (by decide) ?_
          have hyp := some_e hyp
          subst hyp
          exact kfin _ _ _ _ ls hS_18 (by omega)
    refine lv_icmp_ge (tgt := 254) hx hb dL_law_53 (by decide) (fun h_21 => ?_) (fun h_21 => ?_)
    · replace hyp := ite_t h_21 hyp
      exact kJ_16 _ _ _ _ ls hyp (lv_sub hl [1, 2, 3] rfl) hOp_10 hOq_10 hS_10 (by omega)
    · replace hyp := ite_f h_21 hyp
      refine lv_iload_n hx hb dL_law_56 rfl (lv_at hl 3 rfl) ?_
      refine lv_if_eq (tgt := 254) hx hb dL_law_57 (by decide) (fun h_22 => ?_) (fun h_22 => ?_)
      · replace hyp := ite_t h_22 hyp
        exact kJ_16 _ _ _ _ ls hyp (lv_sub hl [1, 2, 3] rfl) hOp_10 hOq_10 hS_10 (by omega)
      · replace hyp := ite_f h_22 hyp
        refine lv_aload_n hx hb dL_law_60 rfl (lv_at hl 0 rfl) ?_
        refine lv_iconst (v := 2) hx hb dL_law_61 (by decide) ?_
        refine lv_iload hx hb dL_law_62 (lv_at hl 4 rfl) ?_
        refine lv_imul hx hb dL_law_64 ?_
        obtain ⟨hi, hyp⟩ := grd_e hyp
        refine hdraw (rest := []) C hX hL31 hbA hS_10 (of_decide_eq_true hi) ml_L_280 ⟨Nat.le_trans (Nat.le_of_ble_eq_true rfl) hRf, Nat.le_trans (Nat.le_of_ble_eq_true rfl) hRl⟩ hl.1 (Nat.le_of_ble_eq_true rfl) dL_law_65 ⟨by omega, by omega⟩ ?_
        refine lv_istore (lv' := [(5, .int (o_draw xs L (2 * v4_9))), (0, .ref b), (1, .ref (ap 0)), (2, .ref (aq 0)), (3, .int v3_8), (4, .int v4_9)]) hx hb dL_law_68 hl (by decide) rfl (fun ls hl => ?_)
        refine lv_aload_n hx hb dL_law_70 rfl (lv_at hl 1 rfl) ?_
        refine lv_iconst (v := 2) hx hb dL_law_71 (by decide) ?_
        refine lv_iload hx hb dL_law_72 (lv_at hl 5 rfl) ?_
        refine lv_imul hx hb dL_law_74 ?_
        refine lv_iconst (v := 1) hx hb dL_law_75 (by decide) ?_
        refine lv_iadd hx hb dL_law_76 ?_
        obtain ⟨hi, hyp⟩ := grd_e hyp
        refine hdraw (rest := []) C hX hL31 hbA hS_10 (of_decide_eq_true hi) ml_L_280 ⟨Nat.le_trans (Nat.le_of_ble_eq_true rfl) hRf, Nat.le_trans (Nat.le_of_ble_eq_true rfl) hRl⟩ hl.1 (Nat.le_of_ble_eq_true rfl) dL_law_77 ⟨by omega, by omega⟩ ?_
        refine lv_istore (lv' := [(6, .int (o_draw xs L ((2 * v4_9) + 1))), (5, .int (o_draw xs L (2 * v4_9))), (0, .ref b), (1, .ref (ap 0)), (2, .ref (aq 0)), (3, .int v3_8), (4, .int v4_9)]) hx hb dL_law_80 hl (by decide) rfl (fun ls hl => ?_)
        refine lv_aload_n hx hb dL_law_82 rfl (lv_at hl 3 rfl) ?_
        refine lv_iload hx hb dL_law_83 (lv_at hl 1 rfl) ?_
        refine lv_iload hx hb dL_law_85 (lv_at hl 0 rfl) ?_
        obtain ⟨r_26, hr_26, hyp⟩ := opt_e hyp
        refine sH (As := [.ref (ap 0), .int (o_draw xs L (2 * v4_9)), .int (o_draw xs L ((2 * v4_9) + 1))]) (rest := []) C hAp hOp_10 hS_10 (mL_act l hl0 g zc zp ap zp_11 (o_draw xs L (2 * v4_9)) (o_draw xs L ((2 * v4_9) + 1)) r_26 hr_26) cf_L_act st_L_act ml_L_284 ⟨Nat.le_trans (Nat.le_of_ble_eq_true rfl) hRf, Nat.le_trans (Nat.le_of_ble_eq_true rfl) hRl⟩ rfl hl.1 rfl (Nat.le_of_ble_eq_true rfl) dL_law_87 ⟨by omega, by omega⟩ (fun H_25 locs_25 hOp_25 hS_25 hfr_25 => ?_)
        generalize hq1 : c_10 + 32 = c_25, hq2 : s_10 + 192 = s_25
        have hOq_25 := OB_fr hAp (hdis) hfr_25 (OB_lt hOp_25) hOq_10
        have hc_25 : c_25 + (1367 + n9_14 * 1399) ≤ cm ∧ s_25 + (8198 + n9_14 * 8390) ≤ sm := by omega
        clear hS_10 hfr_25 hOp_10 hOq_10
        refine lv_aload_n hx hb dL_law_90 rfl (lv_at hl 4 rfl) ?_
        refine lv_iload hx hb dL_law_91 (lv_at hl 1 rfl) ?_
        refine lv_iload hx hb dL_law_93 (lv_at hl 0 rfl) ?_
        obtain ⟨r_28, hr_28, hyp⟩ := opt_e hyp
        refine sH (As := [.ref (aq 0), .int (o_draw xs L (2 * v4_9)), .int (o_draw xs L ((2 * v4_9) + 1))]) (rest := [.long r_26.1]) C hAq hOq_25 hS_25 (mL_act l hl0 g zc zp aq zq_12 (o_draw xs L (2 * v4_9)) (o_draw xs L ((2 * v4_9) + 1)) r_28 hr_28) cf_L_act st_L_act ml_L_284 ⟨Nat.le_trans (Nat.le_of_ble_eq_true rfl) hRf, Nat.le_trans (Nat.le_of_ble_eq_true rfl) hRl⟩ rfl hl.1 rfl (Nat.le_of_ble_eq_true rfl) dL_law_95 ⟨by omega, by omega⟩ (fun H_27 locs_27 hOq_27 hS_27 hfr_27 => ?_)
        generalize hq1 : c_25 + 32 = c_27, hq2 : s_25 + 192 = s_27
        have hOp_27 := OB_fr hAq (fun i j hi hj z => hdis j i hj hi z.symm) hfr_27 (OB_lt hOq_27) hOp_25
        have hc_27 : c_27 + (1335 + n9_14 * 1399) ≤ cm ∧ s_27 + (8006 + n9_14 * 8390) ≤ sm := by omega
        clear hS_25 hfr_27 hOp_25 hOq_25
        refine W.lcmp hx hb dL_law_98 ?_
        obtain ⟨J_31, eJ_31, hyp⟩ := jn_e hyp
        have kJ_31 : ∀ (t_29 : Int32) (H_30 : Heap) (locs_30 : List Loc) (c_30 s_30 : Nat) (ls : Array Slot), J_31 t_29 = some r → lv_has ls 8 [(0, .ref b), (1, .ref (ap 0)), (2, .ref (aq 0)), (4, .int v4_9), (6, .int (o_draw xs L ((2 * v4_9) + 1)))] → OB g ap F r_26.2 s H_30 → OB g aq F r_28.2 s H_30 → va_S A s.heap H_30 locs_30 → (c_30 + (1335 + n9_14 * 1399) ≤ cm ∧ s_30 + (8006 + n9_14 * 8390) ≤ sm) → W p l e R s m args below meth c H_30 locs_30 c_30 s_30 Q (F0 m 107 ls [.int t_29]) := by
          intro t_29 H_30 locs_30 c_30 s_30 ls hyp hl hOp_30 hOq_30 hS_30 hc_30
          replace hyp := (congrFun (eJ_31) t_29).symm.trans hyp
          refine lv_istore_n (lv' := [(3, .int t_29), (0, .ref b), (1, .ref (ap 0)), (2, .ref (aq 0)), (4, .int v4_9), (6, .int (o_draw xs L ((2 * v4_9) + 1)))]) hx hb dL_law_107 rfl hl (by decide) rfl (fun ls hl => ?_)
          refine lv_iload hx hb dL_law_108 (lv_at hl 4 rfl) ?_
          refine lv_bipush (v := 8) hx hb dL_law_110 (by decide) ?_
          refine lv_irem hx hb dL_law_112 (by decide) ?_
          refine lv_iconst (v := 3) hx hb dL_law_113 (by decide) ?_
          obtain ⟨J_36, eJ_36, hyp⟩ := jn_e hyp
          have kJ_36 : ∀ (v3_32 : Int32) (zp_34 : PS) (zq_35 : PS) (H_33 : Heap) (locs_33 : List Loc) (c_33 s_33 : Nat) (ls : Array Slot), J_36 v3_32 zp_34 zq_35 = some r → lv_has ls 8 [(0, .ref b), (1, .ref (ap 0)), (2, .ref (aq 0)), (3, .int v3_32), (4, .int v4_9), (6, .int (o_draw xs L ((2 * v4_9) + 1)))] → OB g ap F zp_34 s H_33 → OB g aq F zq_35 s H_33 → va_S A s.heap H_33 locs_33 → (c_33 + (230 + n9_14 * 1399) ≤ cm ∧ s_33 + (1380 + n9_14 * 8390) ≤ sm) → W p l e R s m args below meth c H_33 locs_33 c_33 s_33 Q (F0 m 143 ls []) := by
            intro v3_32 zp_34 zq_35 H_33 locs_33 c_33 s_33 ls hyp hl hOp_33 hOq_33 hS_33 hc_33
            replace hyp := (congrFun (congrFun (congrFun (eJ_36) v3_32) zp_34) zq_35).symm.trans hyp
            refine lv_iload hx hb dL_law_143 (lv_at hl 4 rfl) ?_
            refine lv_bipush (v := 13) hx hb dL_law_145 (by decide) ?_
            refine lv_irem hx hb dL_law_147 (by decide) ?_
            refine lv_bipush (v := 12) hx hb dL_law_148 (by decide) ?_
            obtain ⟨J_41, eJ_41, hyp⟩ := jn_e hyp
            have kJ_41 : ∀ (v3_37 : Int32) (zp_39 : PS) (zq_40 : PS) (H_38 : Heap) (locs_38 : List Loc) (c_38 s_38 : Nat) (ls : Array Slot), J_41 v3_37 zp_39 zq_40 = some r → lv_has ls 8 [(0, .ref b), (1, .ref (ap 0)), (2, .ref (aq 0)), (3, .int v3_37), (4, .int v4_9)] → OB g ap F zp_39 s H_38 → OB g aq F zq_40 s H_38 → va_S A s.heap H_38 locs_38 → (c_38 + (0 + n9_14 * 1399) ≤ cm ∧ s_38 + (0 + n9_14 * 8390) ≤ sm) → W p l e R s m args below meth c H_38 locs_38 c_38 s_38 Q (F0 m 222 ls []) := by
              intro v3_37 zp_39 zq_40 H_38 locs_38 c_38 s_38 ls hyp hl hOp_38 hOq_38 hS_38 hc_38
              replace hyp := (congrFun (congrFun (congrFun (eJ_41) v3_37) zp_39) zq_40).symm.trans hyp
              refine lv_iload_n hx hb dL_law_222 rfl (lv_at hl 3 rfl) ?_
              obtain ⟨J_44, eJ_44, hyp⟩ := jn_e hyp
              have kJ_44 : ∀ (t_42 : Int32) (H_43 : Heap) (locs_43 : List Loc) (c_43 s_43 : Nat) (ls : Array Slot), J_44 t_42 = some r → lv_has ls 8 [(0, .ref b), (1, .ref (ap 0)), (2, .ref (aq 0)), (4, .int v4_9)] → OB g ap F zp_39 s H_43 → OB g aq F zq_40 s H_43 → va_S A s.heap H_43 locs_43 → (c_43 + (0 + n9_14 * 1399) ≤ cm ∧ s_43 + (0 + n9_14 * 8390) ≤ sm) → W p l e R s m args below meth c H_43 locs_43 c_43 s_43 Q (F0 m 247 ls [.int t_42]) := by
                intro t_42 H_43 locs_43 c_43 s_43 ls hyp hl hOp_43 hOq_43 hS_43 hc_43
                replace hyp := (congrFun (eJ_44) t_42).symm.trans hyp
                refine lv_istore_n (lv' := [(3, .int t_42), (0, .ref b), (1, .ref (ap 0)), (2, .ref (aq 0)), (4, .int v4_9)]) hx hb dL_law_247 rfl hl (by decide) rfl (fun ls hl => ?_)
                refine lv_iinc (v := v4_9 + 1) (lv' := [(4, .int (v4_9 + 1)), (3, .int t_42), (0, .ref b), (1, .ref (ap 0)), (2, .ref (aq 0))]) hx hb dL_law_248 hl (k := 4) rfl rfl (by decide) rfl (fun ls hl => ?_)
                refine lv_goto (tgt := 49) hx hb dL_law_251 (by decide) ?_
                exact ihself_13 t_42 (v4_9 + 1) zp_39 zq_40 hyp _ _ _ _ ls (lv_sub hl [2, 3, 4, 1, 0] rfl) hOp_43 hOq_43 hS_43 (by omega)
              obtain ⟨J_46, eJ_46, hyp⟩ := jn_e hyp
              have kJ_46 : ∀ (H_45 : Heap) (locs_45 : List Loc) (c_45 s_45 : Nat) (ls : Array Slot), J_46 = some r → lv_has ls 8 [(0, .ref b), (1, .ref (ap 0)), (2, .ref (aq 0)), (4, .int v4_9)] → OB g ap F zp_39 s H_45 → OB g aq F zq_40 s H_45 → va_S A s.heap H_45 locs_45 → (c_45 + (0 + n9_14 * 1399) ≤ cm ∧ s_45 + (0 + n9_14 * 8390) ≤ sm) → W p l e R s m args below meth c H_45 locs_45 c_45 s_45 Q (F0 m 246 ls []) := by
                intro H_45 locs_45 c_45 s_45 ls hyp hl hOp_45 hOq_45 hS_45 hc_45
                replace hyp := (eJ_46).symm.trans hyp
                refine lv_iconst (v := 0) hx hb dL_law_246 (by decide) ?_
                exact kJ_44 0 _ _ _ _ ls hyp hl hOp_45 hOq_45 hS_45 (by omega)
              refine lv_if_eq (tgt := 246) hx hb dL_law_223 (by decide) (fun h_47 => ?_) (fun h_47 => ?_)
              · replace hyp := ite_t h_47 hyp
                exact kJ_46 _ _ _ _ ls hyp (lv_sub hl [0, 1, 2, 4] rfl) hOp_38 hOq_38 hS_38 (by omega)
              · replace hyp := ite_f h_47 hyp
                refine lv_iload hx hb dL_law_226 (lv_at hl 4 rfl) ?_
                refine lv_bipush (v := 10) hx hb dL_law_228 (by decide) ?_
                refine lv_irem hx hb dL_law_230 (by decide) ?_
                obtain ⟨J_49, eJ_49, hyp⟩ := jn_e hyp
                have kJ_49 : ∀ (H_48 : Heap) (locs_48 : List Loc) (c_48 s_48 : Nat) (ls : Array Slot), J_49 = some r → lv_has ls 8 [(0, .ref b), (1, .ref (ap 0)), (2, .ref (aq 0)), (4, .int v4_9)] → OB g ap F zp_39 s H_48 → OB g aq F zq_40 s H_48 → va_S A s.heap H_48 locs_48 → (c_48 + (0 + n9_14 * 1399) ≤ cm ∧ s_48 + (0 + n9_14 * 8390) ≤ sm) → W p l e R s m args below meth c H_48 locs_48 c_48 s_48 Q (F0 m 242 ls []) := by
                  intro H_48 locs_48 c_48 s_48 ls hyp hl hOp_48 hOq_48 hS_48 hc_48
                  replace hyp := (eJ_49).symm.trans hyp
                  refine lv_iconst (v := 1) hx hb dL_law_242 (by decide) ?_
                  refine lv_goto (tgt := 247) hx hb dL_law_243 (by decide) ?_
                  exact kJ_44 1 _ _ _ _ ls hyp hl hOp_48 hOq_48 hS_48 (by omega)
                refine lv_if_gt (tgt := 242) hx hb dL_law_231 (by decide) (fun h_50 => ?_) (fun h_50 => ?_)
                · replace hyp := ite_t h_50 hyp
                  exact kJ_49 _ _ _ _ ls hyp (lv_sub hl [0, 1, 2, 4] rfl) hOp_38 hOq_38 hS_38 (by omega)
                · replace hyp := ite_f h_50 hyp
                  refine lv_aload_n hx hb dL_law_234 rfl (lv_at hl 1 rfl) ?_
                  refine lv_aload_n hx hb dL_law_235 rfl (lv_at hl 2 rfl) ?_
                  obtain ⟨r_52, hr_52, hyp⟩ := opt_e hyp
                  refine sH2 (As := [.ref (ap 0), .ref (aq 0)]) (rest := []) C hAp hAq hdis hOp_38 hOq_38 hS_38 (mL_alike l hl0 g zc zp ap aq zp_39 zq_40 r_52 hr_52) cf_L_alike st_L_alike ml_L_269 ⟨Nat.le_trans (Nat.le_of_ble_eq_true rfl) hRf, Nat.le_trans (Nat.le_of_ble_eq_true rfl) hRl⟩ rfl hl.1 rfl (Nat.le_of_ble_eq_true rfl) dL_law_236 ⟨by omega, by omega⟩ (fun H_51 locs_51 hOp_51 hOq_51 hS_51 => ?_)
                  generalize hq1 : c_38 + 0 = c_51, hq2 : s_38 + 0 = s_51
                  have hc_51 : c_51 + (0 + n9_14 * 1399) ≤ cm ∧ s_51 + (0 + n9_14 * 8390) ≤ sm := by omega
                  clear hS_38 hOp_38 hOq_38
                  refine lv_if_eq (tgt := 246) hx hb dL_law_239 (by decide) (fun h_53 => ?_) (fun h_53 => ?_)
                  · replace hyp := ite_t h_53 hyp
                    exact kJ_46 _ _ _ _ ls hyp (lv_sub hl [0, 1, 2, 4] rfl) hOp_51 hOq_51 hS_51 (by omega)
                  · replace hyp := ite_f h_53 hyp
                    exact kJ_49 _ _ _ _ ls hyp (lv_sub hl [0, 1, 2, 4] rfl) hOp_51 hOq_51 hS_51 (by omega)
            refine lv_icmp_ne (tgt := 222) hx hb dL_law_150 (by decide) (fun h_54 => ?_) (fun h_54 => ?_)
            · replace hyp := ite_f h_54 hyp
              exact kJ_41 v3_32 zp_34 zq_35 _ _ _ _ ls hyp (lv_sub hl [0, 1, 2, 3, 4] rfl) hOp_33 hOq_33 hS_33 (by omega)
            · replace hyp := ite_t h_54 hyp
              refine lv_iload_n hx hb dL_law_153 rfl (lv_at hl 3 rfl) ?_
              obtain ⟨J_59, eJ_59, hyp⟩ := jn_e hyp
              have kJ_59 : ∀ (t_55 : Int32) (zp_57 : PS) (zq_58 : PS) (H_56 : Heap) (locs_56 : List Loc) (c_56 s_56 : Nat) (ls : Array Slot), J_59 t_55 zp_57 zq_58 = some r → lv_has ls 8 [(0, .ref b), (1, .ref (ap 0)), (2, .ref (aq 0)), (4, .int v4_9)] → OB g ap F zp_57 s H_56 → OB g aq F zq_58 s H_56 → va_S A s.heap H_56 locs_56 → (c_56 + (28 + n9_14 * 1399) ≤ cm ∧ s_56 + (168 + n9_14 * 8390) ≤ sm) → W p l e R s m args below meth c H_56 locs_56 c_56 s_56 Q (F0 m 181 ls [.int t_55]) := by
                intro t_55 zp_57 zq_58 H_56 locs_56 c_56 s_56 ls hyp hl hOp_56 hOq_56 hS_56 hc_56
                replace hyp := (congrFun (congrFun (congrFun (eJ_59) t_55) zp_57) zq_58).symm.trans hyp
                refine lv_istore_n (lv' := [(3, .int t_55), (0, .ref b), (1, .ref (ap 0)), (2, .ref (aq 0)), (4, .int v4_9)]) hx hb dL_law_181 rfl hl (by decide) rfl (fun ls hl => ?_)
                refine lv_iconst (v := 0) hx hb dL_law_182 (by decide) ?_
                refine lv_istore (lv' := [(7, .int 0), (3, .int t_55), (0, .ref b), (1, .ref (ap 0)), (2, .ref (aq 0)), (4, .int v4_9)]) hx hb dL_law_183 hl (by decide) rfl (fun ls hl => ?_)
                refine lp_n (r := r) (fun (n9 : Nat) (z : Int32 × Int32 × PS × PS) => ∀ (H_62 : Heap) (locs_62 : List Loc) (c_62 s_62 : Nat) (ls : Array Slot), lv_has ls 8 [(0, .ref b), (1, .ref (ap 0)), (2, .ref (aq 0)), (3, .int z.1), (4, .int v4_9), (7, .int z.2.1)] → OB g ap F z.2.2.1 s H_62 → OB g aq F z.2.2.2 s H_62 → va_S A s.heap H_62 locs_62 → (c_62 + (0 + n9 * 4 + n9_14 * 1399) ≤ cm ∧ s_62 + (0 + n9 * 24 + n9_14 * 8390) ≤ sm) → W p l e R s m args below meth c H_62 locs_62 c_62 s_62 Q (F0 m 185 ls [])) ?_ 7 (t_55, 0, zp_57, zq_58) hyp _ _ _ _ ls (lv_sub hl [2, 3, 4, 1, 5, 0] rfl) hOp_56 hOq_56 hS_56 (by omega)
                intro n9_66 self_65T ihself_65T z hyp H_62 locs_62 c_62 s_62 ls hl hOp_62 hOq_62 hS_62 hc_62
                obtain ⟨v3_60, v7_61, zp_63, zq_64⟩ := z
                obtain ⟨self_65, eself_65⟩ : ∃ f9 : Int32 → Int32 → PS → PS → Option Int32, f9 = fun v3_60 v7_61 zp_63 zq_64 => self_65T (v3_60, v7_61, zp_63, zq_64) := ⟨_, rfl⟩
                have ihself_65 := fun (v3_60 : Int32) (v7_61 : Int32) (zp_63 : PS) (zq_64 : PS) (h9 : self_65 v3_60 v7_61 zp_63 zq_64 = some r) => ihself_65T (v3_60, v7_61, zp_63, zq_64) (by rw [eself_65] at h9; exact h9)
                replace hyp : fL_law_L185_B J_41 self_65 v3_60 v7_61 zp_63 zq_64 = some r := by rw [eself_65]; exact hyp
                have hl : lv_has ls 8 [(0, .ref b), (1, .ref (ap 0)), (2, .ref (aq 0)), (3, .int v3_60), (4, .int v4_9), (7, .int v7_61)] := hl
                have hOp_62 : OB g ap F zp_63 s H_62 := hOp_62
                have hOq_62 : OB g aq F zq_64 s H_62 := hOq_62
                show W p l e R s m args below meth c H_62 locs_62 c_62 s_62 Q (F0 m 185 ls [])
                unfold fL_law_L185_B at hyp
                have hc_62 : c_62 + (4 + n9_66 * 4 + n9_14 * 1399) ≤ cm ∧ s_62 + (24 + n9_66 * 24 + n9_14 * 8390) ≤ sm := by
                  have hq := hc_62
                  omega
                refine lv_iload hx hb dL_law_185 (lv_at hl 5 rfl) ?_
                refine lv_bipush (v := 6) hx hb dL_law_187 (by decide) ?_
                refine lv_icmp_ge (tgt := 222) hx hb dL_law_189 (by decide) (fun h_67 => ?_) (fun h_67 => ?_)
                · replace hyp := ite_t h_67 hyp
                  exact kJ_41 v3_60 zp_63 zq_64 _ _ _ _ ls hyp (lv_sub hl [0, 1, 2, 3, 4] rfl) hOp_62 hOq_62 hS_62 (by omega)
                · replace hyp := ite_f h_67 hyp
                  refine lv_iload_n hx hb dL_law_192 rfl (lv_at hl 3 rfl) ?_
                  refine lv_if_eq (tgt := 222) hx hb dL_law_193 (by decide) (fun h_68 => ?_) (fun h_68 => ?_)
                  · replace hyp := ite_t h_68 hyp
                    exact kJ_41 v3_60 zp_63 zq_64 _ _ _ _ ls hyp (lv_sub hl [0, 1, 2, 3, 4] rfl) hOp_62 hOq_62 hS_62 (by omega)
                  · replace hyp := ite_f h_68 hyp
                    refine lv_aload_n hx hb dL_law_196 rfl (lv_at hl 1 rfl) ?_
                    refine lv_iconst (v := 1) hx hb dL_law_197 (by decide) ?_
                    obtain ⟨r_70, hr_70, hyp⟩ := bnd_e hyp
                    refine hc_goBack (rest := []) C hAp hOp_62 hS_62 (1 : Int32) ml_L_142 (Nat.le_trans (Nat.le_of_ble_eq_true rfl) hRf) (Nat.le_trans (Nat.le_of_ble_eq_true rfl) hRl) hl.1 (Nat.le_of_ble_eq_true rfl) dL_law_198 ⟨by omega, by omega⟩ (fun H_69 locs_69 hOp_69 hS_69 hfr_69 => ?_)
                    generalize hq1 : c_62 + 2 = c_69, hq2 : s_62 + 12 = s_69
                    rw [← hr_70] at hOp_69 ⊢
                    have hOq_69 := OB_fr hAp (hdis) hfr_69 (OB_lt hOp_69) hOq_62
                    have hc_69 : c_69 + (2 + n9_66 * 4 + n9_14 * 1399) ≤ cm ∧ s_69 + (12 + n9_66 * 24 + n9_14 * 8390) ≤ sm := by omega
                    clear hS_62 hfr_69 hOp_62 hOq_62
                    refine lv_aload_n hx hb dL_law_201 rfl (lv_at hl 2 rfl) ?_
                    refine lv_iconst (v := 1) hx hb dL_law_202 (by decide) ?_
                    obtain ⟨r_72, hr_72, hyp⟩ := bnd_e hyp
                    refine hc_goBack (rest := [.long r_70.1]) C hAq hOq_69 hS_69 (1 : Int32) ml_L_142 (Nat.le_trans (Nat.le_of_ble_eq_true rfl) hRf) (Nat.le_trans (Nat.le_of_ble_eq_true rfl) hRl) hl.1 (Nat.le_of_ble_eq_true rfl) dL_law_203 ⟨by omega, by omega⟩ (fun H_71 locs_71 hOq_71 hS_71 hfr_71 => ?_)
                    generalize hq1 : c_69 + 2 = c_71, hq2 : s_69 + 12 = s_71
                    rw [← hr_72] at hOq_71 ⊢
                    have hOp_71 := OB_fr hAq (fun i j hi hj z => hdis j i hj hi z.symm) hfr_71 (OB_lt hOq_71) hOp_69
                    have hc_71 : c_71 + (0 + n9_66 * 4 + n9_14 * 1399) ≤ cm ∧ s_71 + (0 + n9_66 * 24 + n9_14 * 8390) ≤ sm := by omega
                    clear hS_69 hfr_71 hOp_69 hOq_69
                    refine W.lcmp hx hb dL_law_206 ?_
                    obtain ⟨J_75, eJ_75, hyp⟩ := jn_e hyp
                    have kJ_75 : ∀ (t_73 : Int32) (H_74 : Heap) (locs_74 : List Loc) (c_74 s_74 : Nat) (ls : Array Slot), J_75 t_73 = some r → lv_has ls 8 [(0, .ref b), (1, .ref (ap 0)), (2, .ref (aq 0)), (4, .int v4_9), (7, .int v7_61)] → OB g ap F r_70.2 s H_74 → OB g aq F r_72.2 s H_74 → va_S A s.heap H_74 locs_74 → (c_74 + (0 + n9_66 * 4 + n9_14 * 1399) ≤ cm ∧ s_74 + (0 + n9_66 * 24 + n9_14 * 8390) ≤ sm) → W p l e R s m args below meth c H_74 locs_74 c_74 s_74 Q (F0 m 215 ls [.int t_73]) := by
                      intro t_73 H_74 locs_74 c_74 s_74 ls hyp hl hOp_74 hOq_74 hS_74 hc_74
                      replace hyp := (congrFun (eJ_75) t_73).symm.trans hyp
                      refine lv_istore_n (lv' := [(3, .int t_73), (0, .ref b), (1, .ref (ap 0)), (2, .ref (aq 0)), (4, .int v4_9), (7, .int v7_61)]) hx hb dL_law_215 rfl hl (by decide) rfl (fun ls hl => ?_)
                      refine lv_iinc (v := v7_61 + 1) (lv' := [(7, .int (v7_61 + 1)), (3, .int t_73), (0, .ref b), (1, .ref (ap 0)), (2, .ref (aq 0)), (4, .int v4_9)]) hx hb dL_law_216 hl (k := 5) rfl rfl (by decide) rfl (fun ls hl => ?_)
                      refine lv_goto (tgt := 185) hx hb dL_law_219 (by decide) ?_
                      exact ihself_65 t_73 (v7_61 + 1) r_70.2 r_72.2 hyp _ _ _ _ ls (lv_sub hl [2, 3, 4, 1, 5, 0] rfl) hOp_74 hOq_74 hS_74 (by omega)
                    refine lv_if_ne (tgt := 214) hx hb dL_law_207 (by decide) (fun h_76 => ?_) (fun h_76 => ?_)
                    · replace hyp := ite_f h_76 hyp
                      refine lv_iconst (v := 0) hx hb dL_law_214 (by decide) ?_
                      exact kJ_75 0 _ _ _ _ ls hyp (lv_sub hl [0, 1, 2, 4, 5] rfl) hOp_71 hOq_71 hS_71 (by omega)
                    · replace hyp := ite_t h_76 hyp
                      refine lv_iconst (v := 1) hx hb dL_law_210 (by decide) ?_
                      refine lv_goto (tgt := 215) hx hb dL_law_211 (by decide) ?_
                      exact kJ_75 1 _ _ _ _ ls hyp (lv_sub hl [0, 1, 2, 4, 5] rfl) hOp_71 hOq_71 hS_71 (by omega)
              obtain ⟨J_80, eJ_80, hyp⟩ := jn_e hyp
              have kJ_80 : ∀ (zp_78 : PS) (zq_79 : PS) (H_77 : Heap) (locs_77 : List Loc) (c_77 s_77 : Nat) (ls : Array Slot), J_80 zp_78 zq_79 = some r → lv_has ls 8 [(0, .ref b), (1, .ref (ap 0)), (2, .ref (aq 0)), (4, .int v4_9)] → OB g ap F zp_78 s H_77 → OB g aq F zq_79 s H_77 → va_S A s.heap H_77 locs_77 → (c_77 + (28 + n9_14 * 1399) ≤ cm ∧ s_77 + (168 + n9_14 * 8390) ≤ sm) → W p l e R s m args below meth c H_77 locs_77 c_77 s_77 Q (F0 m 180 ls []) := by
                intro zp_78 zq_79 H_77 locs_77 c_77 s_77 ls hyp hl hOp_77 hOq_77 hS_77 hc_77
                replace hyp := (congrFun (congrFun (eJ_80) zp_78) zq_79).symm.trans hyp
                refine lv_iconst (v := 0) hx hb dL_law_180 (by decide) ?_
                exact kJ_59 0 zp_78 zq_79 _ _ _ _ ls hyp hl hOp_77 hOq_77 hS_77 (by omega)
              refine lv_if_eq (tgt := 180) hx hb dL_law_154 (by decide) (fun h_81 => ?_) (fun h_81 => ?_)
              · replace hyp := ite_t h_81 hyp
                exact kJ_80 zp_34 zq_35 _ _ _ _ ls hyp (lv_sub hl [0, 1, 2, 4] rfl) hOp_33 hOq_33 hS_33 (by omega)
              · replace hyp := ite_f h_81 hyp
                refine lv_aload_n hx hb dL_law_157 rfl (lv_at hl 2 rfl) ?_
                refine lv_iload hx hb dL_law_158 (lv_at hl 5 rfl) ?_
                obtain ⟨r_83, hr_83, hyp⟩ := opt_e hyp
                refine sH (As := [.ref (aq 0), .int (o_draw xs L ((2 * v4_9) + 1))]) (rest := []) C hAq hOq_33 hS_33 (mL_follows l hl0 g zc zp aq zq_35 (o_draw xs L ((2 * v4_9) + 1)) r_83 hr_83) cf_L_follows st_L_follows ml_L_287 ⟨Nat.le_trans (Nat.le_of_ble_eq_true rfl) hRf, Nat.le_trans (Nat.le_of_ble_eq_true rfl) hRl⟩ rfl hl.1 rfl (Nat.le_of_ble_eq_true rfl) dL_law_160 ⟨by omega, by omega⟩ (fun H_82 locs_82 hOq_82 hS_82 hfr_82 => ?_)
                generalize hq1 : c_33 + 201 = c_82, hq2 : s_33 + 1206 = s_82
                have hOp_82 := OB_fr hAq (fun i j hi hj z => hdis j i hj hi z.symm) hfr_82 (OB_lt hOq_82) hOp_33
                have hc_82 : c_82 + (29 + n9_14 * 1399) ≤ cm ∧ s_82 + (174 + n9_14 * 8390) ≤ sm := by omega
                clear hS_33 hfr_82 hOp_33 hOq_33
                refine lv_if_eq (tgt := 180) hx hb dL_law_163 (by decide) (fun h_84 => ?_) (fun h_84 => ?_)
                · replace hyp := ite_t h_84 hyp
                  exact kJ_80 zp_34 r_83.2 _ _ _ _ ls hyp (lv_sub hl [0, 1, 2, 4] rfl) hOp_82 hOq_82 hS_82 (by omega)
                · replace hyp := ite_f h_84 hyp
                  refine lv_aload_n hx hb dL_law_166 rfl (lv_at hl 1 rfl) ?_
                  refine lv_iconst (v := 1) hx hb dL_law_167 (by decide) ?_
                  obtain ⟨r_86, hr_86, hyp⟩ := bnd_e hyp
                  refine hc_keep (rest := []) C hAp hOp_82 hS_82 (1 : Int32) ml_L_140 (Nat.le_trans (Nat.le_of_ble_eq_true rfl) hRf) (Nat.le_trans (Nat.le_of_ble_eq_true rfl) hRl) hl.1 (Nat.le_of_ble_eq_true rfl) dL_law_168 ⟨by omega, by omega⟩ (fun H_85 locs_85 hOp_85 hS_85 hfr_85 => ?_)
                  generalize hq1 : c_82 + 1 = c_85, hq2 : s_82 + 6 = s_85
                  rw [← hr_86] at hOp_85 ⊢
                  have hOq_85 := OB_fr hAp (hdis) hfr_85 (OB_lt hOp_85) hOq_82
                  have hc_85 : c_85 + (28 + n9_14 * 1399) ≤ cm ∧ s_85 + (168 + n9_14 * 8390) ≤ sm := by omega
                  clear hS_82 hfr_85 hOp_82 hOq_82
                  refine lv_lconst (v := 0) hx hb dL_law_171 (by decide) ?_
                  refine W.lcmp hx hb dL_law_172 ?_
                  refine lv_if_ne (tgt := 180) hx hb dL_law_173 (by decide) (fun h_87 => ?_) (fun h_87 => ?_)
                  · replace hyp := ite_f h_87 hyp
                    exact kJ_80 r_86.2 r_83.2 _ _ _ _ ls hyp (lv_sub hl [0, 1, 2, 4] rfl) hOp_85 hOq_85 hS_85 (by omega)
                  · replace hyp := ite_t h_87 hyp
                    refine lv_iconst (v := 1) hx hb dL_law_176 (by decide) ?_
                    refine lv_goto (tgt := 181) hx hb dL_law_177 (by decide) ?_
                    exact kJ_59 1 r_86.2 r_83.2 _ _ _ _ ls hyp (lv_sub hl [0, 1, 2, 4] rfl) hOp_85 hOq_85 hS_85 (by omega)
          refine lv_icmp_ne (tgt := 143) hx hb dL_law_114 (by decide) (fun h_88 => ?_) (fun h_88 => ?_)
          · replace hyp := ite_f h_88 hyp
            exact kJ_36 t_29 r_26.2 r_28.2 _ _ _ _ ls hyp (lv_sub hl [1, 2, 3, 0, 4, 5] rfl) hOp_30 hOq_30 hS_30 (by omega)
          · replace hyp := ite_t h_88 hyp
            refine lv_iload_n hx hb dL_law_117 rfl (lv_at hl 0 rfl) ?_
            obtain ⟨J_93, eJ_93, hyp⟩ := jn_e hyp
            have kJ_93 : ∀ (t_89 : Int32) (zp_91 : PS) (zq_92 : PS) (H_90 : Heap) (locs_90 : List Loc) (c_90 s_90 : Nat) (ls : Array Slot), J_93 t_89 zp_91 zq_92 = some r → lv_has ls 8 [(0, .ref b), (1, .ref (ap 0)), (2, .ref (aq 0)), (4, .int v4_9), (6, .int (o_draw xs L ((2 * v4_9) + 1)))] → OB g ap F zp_91 s H_90 → OB g aq F zq_92 s H_90 → va_S A s.heap H_90 locs_90 → (c_90 + (230 + n9_14 * 1399) ≤ cm ∧ s_90 + (1380 + n9_14 * 8390) ≤ sm) → W p l e R s m args below meth c H_90 locs_90 c_90 s_90 Q (F0 m 142 ls [.int t_89]) := by
              intro t_89 zp_91 zq_92 H_90 locs_90 c_90 s_90 ls hyp hl hOp_90 hOq_90 hS_90 hc_90
              replace hyp := (congrFun (congrFun (congrFun (eJ_93) t_89) zp_91) zq_92).symm.trans hyp
              refine lv_istore_n (lv' := [(3, .int t_89), (0, .ref b), (1, .ref (ap 0)), (2, .ref (aq 0)), (4, .int v4_9), (6, .int (o_draw xs L ((2 * v4_9) + 1)))]) hx hb dL_law_142 rfl hl (by decide) rfl (fun ls hl => ?_)
              exact kJ_36 t_89 zp_91 zq_92 _ _ _ _ ls hyp (lv_sub hl [1, 2, 3, 0, 4, 5] rfl) hOp_90 hOq_90 hS_90 (by omega)
            obtain ⟨J_97, eJ_97, hyp⟩ := jn_e hyp
            have kJ_97 : ∀ (zp_95 : PS) (zq_96 : PS) (H_94 : Heap) (locs_94 : List Loc) (c_94 s_94 : Nat) (ls : Array Slot), J_97 zp_95 zq_96 = some r → lv_has ls 8 [(0, .ref b), (1, .ref (ap 0)), (2, .ref (aq 0)), (4, .int v4_9), (6, .int (o_draw xs L ((2 * v4_9) + 1)))] → OB g ap F zp_95 s H_94 → OB g aq F zq_96 s H_94 → va_S A s.heap H_94 locs_94 → (c_94 + (230 + n9_14 * 1399) ≤ cm ∧ s_94 + (1380 + n9_14 * 8390) ≤ sm) → W p l e R s m args below meth c H_94 locs_94 c_94 s_94 Q (F0 m 141 ls []) := by
              intro zp_95 zq_96 H_94 locs_94 c_94 s_94 ls hyp hl hOp_94 hOq_94 hS_94 hc_94
              replace hyp := (congrFun (congrFun (eJ_97) zp_95) zq_96).symm.trans hyp
              refine lv_iconst (v := 0) hx hb dL_law_141 (by decide) ?_
              exact kJ_93 0 zp_95 zq_96 _ _ _ _ ls hyp hl hOp_94 hOq_94 hS_94 (by omega)
            refine lv_if_eq (tgt := 141) hx hb dL_law_118 (by decide) (fun h_98 => ?_) (fun h_98 => ?_)
            · replace hyp := ite_t h_98 hyp
              exact kJ_97 r_26.2 r_28.2 _ _ _ _ ls hyp (lv_sub hl [1, 2, 3, 4, 5] rfl) hOp_30 hOq_30 hS_30 (by omega)
            · replace hyp := ite_f h_98 hyp
              refine lv_aload_n hx hb dL_law_121 rfl (lv_at hl 3 rfl) ?_
              obtain ⟨r_100, hr_100, hyp⟩ := opt_e hyp
              refine sH (As := [.ref (aq 0)]) (rest := []) C hAq hOq_30 hS_30 (mL_errors l hl0 g zc zp aq r_28.2 r_100 hr_100) cf_L_errors st_L_errors ml_L_273 ⟨Nat.le_trans (Nat.le_of_ble_eq_true rfl) hRf, Nat.le_trans (Nat.le_of_ble_eq_true rfl) hRl⟩ rfl hl.1 rfl (Nat.le_of_ble_eq_true rfl) dL_law_122 ⟨by omega, by omega⟩ (fun H_99 locs_99 hOq_99 hS_99 hfr_99 => ?_)
              generalize hq1 : c_30 + 308 = c_99, hq2 : s_30 + 1848 = s_99
              have hOp_99 := OB_fr hAq (fun i j hi hj z => hdis j i hj hi z.symm) hfr_99 (OB_lt hOq_99) hOp_30
              have hc_99 : c_99 + (1027 + n9_14 * 1399) ≤ cm ∧ s_99 + (6158 + n9_14 * 8390) ≤ sm := by omega
              clear hS_30 hfr_99 hOp_30 hOq_30
              refine lv_if_eq (tgt := 141) hx hb dL_law_125 (by decide) (fun h_101 => ?_) (fun h_101 => ?_)
              · replace hyp := ite_t h_101 hyp
                exact kJ_97 r_26.2 r_100.2 _ _ _ _ ls hyp (lv_sub hl [1, 2, 3, 4, 5] rfl) hOp_99 hOq_99 hS_99 (by omega)
              · replace hyp := ite_f h_101 hyp
                refine lv_aload_n hx hb dL_law_128 rfl (lv_at hl 3 rfl) ?_
                refine lv_iload hx hb dL_law_129 (lv_at hl 5 rfl) ?_
                obtain ⟨r_103, hr_103, hyp⟩ := opt_e hyp
                refine sH (As := [.ref (aq 0), .int (o_draw xs L ((2 * v4_9) + 1))]) (rest := []) C hAq hOq_99 hS_99 (mL_kept l hl0 g zc zp aq r_100.2 (o_draw xs L ((2 * v4_9) + 1)) r_103 hr_103) cf_L_kept st_L_kept ml_L_277 ⟨Nat.le_trans (Nat.le_of_ble_eq_true rfl) hRf, Nat.le_trans (Nat.le_of_ble_eq_true rfl) hRl⟩ rfl hl.1 rfl (Nat.le_of_ble_eq_true rfl) dL_law_131 ⟨by omega, by omega⟩ (fun H_102 locs_102 hOq_102 hS_102 hfr_102 => ?_)
                generalize hq1 : c_99 + 797 = c_102, hq2 : s_99 + 4778 = s_102
                have hOp_102 := OB_fr hAq (fun i j hi hj z => hdis j i hj hi z.symm) hfr_102 (OB_lt hOq_102) hOp_99
                have hc_102 : c_102 + (230 + n9_14 * 1399) ≤ cm ∧ s_102 + (1380 + n9_14 * 8390) ≤ sm := by omega
                clear hS_99 hfr_102 hOp_99 hOq_99
                refine lv_if_eq (tgt := 141) hx hb dL_law_134 (by decide) (fun h_104 => ?_) (fun h_104 => ?_)
                · replace hyp := ite_t h_104 hyp
                  exact kJ_97 r_26.2 r_100.2 _ _ _ _ ls hyp (lv_sub hl [1, 2, 3, 4, 5] rfl) hOp_102 hOq_102 hS_102 (by omega)
                · replace hyp := ite_f h_104 hyp
                  refine lv_iconst (v := 1) hx hb dL_law_137 (by decide) ?_
                  refine lv_goto (tgt := 142) hx hb dL_law_138 (by decide) ?_
                  exact kJ_93 1 r_26.2 r_100.2 _ _ _ _ ls hyp (lv_sub hl [1, 2, 3, 4, 5] rfl) hOp_102 hOq_102 hS_102 (by omega)
        refine lv_if_ne (tgt := 106) hx hb dL_law_99 (by decide) (fun h_105 => ?_) (fun h_105 => ?_)
        · replace hyp := ite_f h_105 hyp
          refine lv_iconst (v := 0) hx hb dL_law_106 (by decide) ?_
          exact kJ_31 0 _ _ _ _ ls hyp (lv_sub hl [2, 3, 4, 6, 0] rfl) hOp_27 hOq_27 hS_27 (by omega)
        · replace hyp := ite_t h_105 hyp
          refine lv_iconst (v := 1) hx hb dL_law_102 (by decide) ?_
          refine lv_goto (tgt := 107) hx hb dL_law_103 (by decide) ?_
          exact kJ_31 1 _ _ _ _ ls hyp (lv_sub hl [2, 3, 4, 6, 0] rfl) hOp_27 hOq_27 hS_27 (by omega)
  obtain ⟨J_109, eJ_109, hyp⟩ := jn_e hyp
  have kJ_109 : ∀ (zp_107 : PS) (zq_108 : PS) (H_106 : Heap) (locs_106 : List Loc) (c_106 s_106 : Nat) (ls : Array Slot), J_109 zp_107 zq_108 = some r → lv_has ls 8 [(0, .ref b), (1, .ref (ap 0)), (2, .ref (aq 0))] → OB g ap F zp_107 s H_106 → OB g aq F zq_108 s H_106 → va_S A s.heap H_106 locs_106 → (c_106 + (57359) ≤ cm ∧ s_106 + (343990) ≤ sm) → W p l e R s m args below meth c H_106 locs_106 c_106 s_106 Q (F0 m 44 ls []) := by
    intro zp_107 zq_108 H_106 locs_106 c_106 s_106 ls hyp hl hOp_106 hOq_106 hS_106 hc_106
    replace hyp := (congrFun (congrFun (eJ_109) zp_107) zq_108).symm.trans hyp
    refine lv_iconst (v := 0) hx hb dL_law_44 (by decide) ?_
    exact kJ_7 0 zp_107 zq_108 _ _ _ _ ls hyp hl hOp_106 hOq_106 hS_106 (by omega)
  refine lv_if_eq (tgt := 44) hx hb dL_law_21 (by decide) (fun h_110 => ?_) (fun h_110 => ?_)
  · replace hyp := ite_t h_110 hyp
    exact kJ_109 sp sq _ _ _ _ ls hyp hl hOp_1 hOq_1 hS_1 (by omega)
  · replace hyp := ite_f h_110 hyp
    refine lv_aload_n hx hb dL_law_24 rfl (lv_at hl 1 rfl) ?_
    obtain ⟨r_112, hr_112, hyp⟩ := opt_e hyp
    refine sH (As := [.ref (ap 0)]) (rest := []) C hAp hOp_1 hS_1 (mL_errors l hl0 g zc zp ap sp r_112 hr_112) cf_L_errors st_L_errors ml_L_273 ⟨Nat.le_trans (Nat.le_of_ble_eq_true rfl) hRf, Nat.le_trans (Nat.le_of_ble_eq_true rfl) hRl⟩ rfl hl.1 rfl (Nat.le_of_ble_eq_true rfl) dL_law_25 ⟨by omega, by omega⟩ (fun H_111 locs_111 hOp_111 hS_111 hfr_111 => ?_)
    generalize hq1 : c_1 + 308 = c_111, hq2 : s_1 + 1848 = s_111
    have hOq_111 := OB_fr hAp (hdis) hfr_111 (OB_lt hOp_111) hOq_1
    have hc_111 : c_111 + (58156) ≤ cm ∧ s_111 + (348768) ≤ sm := by omega
    clear hS_1 hfr_111 hOp_1 hOq_1
    refine lv_if_eq (tgt := 44) hx hb dL_law_28 (by decide) (fun h_113 => ?_) (fun h_113 => ?_)
    · replace hyp := ite_t h_113 hyp
      exact kJ_109 r_112.2 sq _ _ _ _ ls hyp hl hOp_111 hOq_111 hS_111 (by omega)
    · replace hyp := ite_f h_113 hyp
      refine lv_aload_n hx hb dL_law_31 rfl (lv_at hl 1 rfl) ?_
      refine lv_bipush (v := 7) hx hb dL_law_32 (by decide) ?_
      obtain ⟨r_115, hr_115, hyp⟩ := opt_e hyp
      refine sH (As := [.ref (ap 0), .int 7]) (rest := []) C hAp hOp_111 hS_111 (mL_kept l hl0 g zc zp ap r_112.2 7 r_115 hr_115) cf_L_kept st_L_kept ml_L_277 ⟨Nat.le_trans (Nat.le_of_ble_eq_true rfl) hRf, Nat.le_trans (Nat.le_of_ble_eq_true rfl) hRl⟩ rfl hl.1 rfl (Nat.le_of_ble_eq_true rfl) dL_law_34 ⟨by omega, by omega⟩ (fun H_114 locs_114 hOp_114 hS_114 hfr_114 => ?_)
      generalize hq1 : c_111 + 797 = c_114, hq2 : s_111 + 4778 = s_114
      have hOq_114 := OB_fr hAp (hdis) hfr_114 (OB_lt hOp_114) hOq_111
      have hc_114 : c_114 + (57359) ≤ cm ∧ s_114 + (343990) ≤ sm := by omega
      clear hS_111 hfr_114 hOp_111 hOq_111
      refine lv_if_eq (tgt := 44) hx hb dL_law_37 (by decide) (fun h_116 => ?_) (fun h_116 => ?_)
      · replace hyp := ite_t h_116 hyp
        exact kJ_109 r_112.2 sq _ _ _ _ ls hyp hl hOp_114 hOq_114 hS_114 (by omega)
      · replace hyp := ite_f h_116 hyp
        refine lv_iconst (v := 1) hx hb dL_law_40 (by decide) ?_
        refine lv_goto (tgt := 45) hx hb dL_law_41 (by decide) ?_
        exact kJ_7 1 r_112.2 sq _ _ _ _ ls hyp hl hOp_114 hOq_114 hS_114 (by omega)

noncomputable def fL_types (st : PS) (a1 : Int32) : Option (Int32 × PS) :=
  bnd (o_append st (97 + (a1 - a1 / 7 * 7))) (fun (r_2 : Int64 × PS) => if (lg_cmp r_2.1 0) ≤ 0 then (some (0, r_2.2)) else (bnd (o_append r_2.2 (49 + (a1 / 7))) (fun (r_5 : Int64 × PS) => if (lg_cmp r_5.1 0) ≤ 0 then (some (0, r_5.2)) else (some (1, r_5.2)))))
set_option maxRecDepth 100000 in
set_option maxHeartbeats 8000000 in
theorem mL_types (l : Launch) (hl0 : l.stackTraces = false) (g : GE) (zc zp : Nat) (aa : Nat → Nat) (st : PS) (a1 : Int32) (r : Int32 × PS) (hyp : fL_types st a1 = some r) : MH l yL_types cL_types 2 (some .boolean) 8 133 2 12 g zc zp aa [.ref (aa 0), .int a1] st r.2 (.int r.1) := by
  refine metH_intro hl0 rfl (by decide) rfl ?_
  intro p e R s m args below meth c Q A F hRf hRl hRc hRs hQ hr hlocks C hA hOt_0 ls hl
  obtain ⟨hx, hb, hml, hown, hts, hl0, hE, hSR, hNC, hOS, hOT, hAh⟩ := id C
  obtain ⟨c_0, hc0⟩ : ∃ q : Nat, q = 0 := ⟨_, rfl⟩
  obtain ⟨s_0, hs0⟩ : ∃ q : Nat, q = 0 := ⟨_, rfl⟩
  have hS_0 : va_S A s.heap s.heap [] := va_S.rf
  obtain ⟨H_0, hH0⟩ : ∃ q : Heap, q = s.heap := ⟨_, rfl⟩
  obtain ⟨locs_0, hL0⟩ : ∃ q : List Loc, q = [] := ⟨_, rfl⟩
  have hOt_0 : OB g aa F st s H_0 := by rw [hH0]; exact hOt_0
  have hS_0 : va_S A s.heap H_0 locs_0 := by rw [hH0, hL0]; exact hS_0
  suffices hk : W p l e R s m args below meth c H_0 locs_0 c_0 s_0 Q (F0 m 0 ls []) by rw [hH0, hL0, hc0, hs0] at hk; exact hk
  have hc_0 : c_0 + (2) ≤ 2 ∧ s_0 + (12) ≤ 12 := by omega
  have hl : lv_has ls 2 [(0, .ref (aa 0)), (1, .int a1)] := hl
  unfold fL_types at hyp
  refine lv_aload_n hx hb dL_types_0 rfl (lv_at hl 0 rfl) ?_
  refine lv_bipush (v := 97) hx hb dL_types_1 (by decide) ?_
  refine lv_iload_n hx hb dL_types_3 rfl (lv_at hl 1 rfl) ?_
  refine lv_bipush (v := 7) hx hb dL_types_4 (by decide) ?_
  refine lv_irem hx hb dL_types_6 (by decide) ?_
  refine lv_iadd hx hb dL_types_7 ?_
  obtain ⟨r_2, hr_2, hyp⟩ := bnd_e hyp
  refine hc_append (rest := []) C hA hOt_0 hS_0 (97 + (a1 - a1 / 7 * 7)) ml_L_138 (Nat.le_trans (Nat.le_of_ble_eq_true rfl) hRf) (Nat.le_trans (Nat.le_of_ble_eq_true rfl) hRl) hl.1 (Nat.le_of_ble_eq_true rfl) dL_types_8 ⟨by omega, by omega⟩ (fun H_1 locs_1 hOt_1 hS_1 hfr_1 => ?_)
  generalize hq1 : c_0 + 1 = c_1, hq2 : s_0 + 6 = s_1
  rw [← hr_2] at hOt_1 ⊢
  have hc_1 : c_1 + (1) ≤ 2 ∧ s_1 + (6) ≤ 12 := by omega
  clear hS_0 hfr_1 hOt_0
  refine lv_lconst (v := 0) hx hb dL_types_11 (by decide) ?_
  refine W.lcmp hx hb dL_types_12 ?_
  refine lv_if_le (tgt := 36) hx hb dL_types_13 (by decide) (fun h_3 => ?_) (fun h_3 => ?_)
  · replace hyp := ite_t h_3 hyp
    refine lv_iconst (v := 0) hx hb dL_types_36 (by decide) ?_
    have hyp := some_e hyp
    subst hyp
    subst hQ
    exact rhZ hx hb hr hlocks (Or.inl rfl) hOt_1 hS_1 ⟨by omega, by omega⟩ dL_types_37
  · replace hyp := ite_f h_3 hyp
    refine lv_aload_n hx hb dL_types_16 rfl (lv_at hl 0 rfl) ?_
    refine lv_bipush (v := 49) hx hb dL_types_17 (by decide) ?_
    refine lv_iload_n hx hb dL_types_19 rfl (lv_at hl 1 rfl) ?_
    refine lv_bipush (v := 7) hx hb dL_types_20 (by decide) ?_
    refine lv_idiv hx hb dL_types_22 (by decide) ?_
    refine lv_iadd hx hb dL_types_23 ?_
    obtain ⟨r_5, hr_5, hyp⟩ := bnd_e hyp
    refine hc_append (rest := []) C hA hOt_1 hS_1 (49 + (a1 / 7)) ml_L_138 (Nat.le_trans (Nat.le_of_ble_eq_true rfl) hRf) (Nat.le_trans (Nat.le_of_ble_eq_true rfl) hRl) hl.1 (Nat.le_of_ble_eq_true rfl) dL_types_24 ⟨by omega, by omega⟩ (fun H_4 locs_4 hOt_4 hS_4 hfr_4 => ?_)
    generalize hq1 : c_1 + 1 = c_4, hq2 : s_1 + 6 = s_4
    rw [← hr_5] at hOt_4 ⊢
    have hc_4 : c_4 + (0) ≤ 2 ∧ s_4 + (0) ≤ 12 := by omega
    clear hS_1 hfr_4 hOt_1
    refine lv_lconst (v := 0) hx hb dL_types_27 (by decide) ?_
    refine W.lcmp hx hb dL_types_28 ?_
    refine lv_if_le (tgt := 36) hx hb dL_types_29 (by decide) (fun h_6 => ?_) (fun h_6 => ?_)
    · replace hyp := ite_t h_6 hyp
      refine lv_iconst (v := 0) hx hb dL_types_36 (by decide) ?_
      have hyp := some_e hyp
      subst hyp
      subst hQ
      exact rhZ hx hb hr hlocks (Or.inl rfl) hOt_4 hS_4 ⟨by omega, by omega⟩ dL_types_37
    · replace hyp := ite_f h_6 hyp
      refine lv_iconst (v := 1) hx hb dL_types_32 (by decide) ?_
      refine lv_goto (tgt := 37) hx hb dL_types_33 (by decide) ?_
      have hyp := some_e hyp
      subst hyp
      subst hQ
      exact rhZ hx hb hr hlocks (Or.inr rfl) hOt_4 hS_4 ⟨by omega, by omega⟩ dL_types_37

noncomputable def fL_told (st : PS) (a1 : Int32) : Option (Int64 × PS) :=
  bnd (o_clearBuffer st) (fun (r_2 : Int32 × PS) => jn (fun (t_3 : Int32) => jn (fun (t_7 : Int32) => jn (fun (t_11 : Int32) => jn (fun (t_14 : Int32) (zt_16 : PS) => if t_14 = 0 then (some ((-1), zt_16)) else ((o_play zt_16).bind (fun (r_20 : Int64 × PS) => some (r_20.1, r_20.2)))) (fun J_17 => jn (fun (zt_22 : PS) => J_17 0 zt_22) (fun J_23 => if t_3 = 0 then (J_23 r_2.2) else ((fL_types r_2.2 (t_11 / 49)).bind (fun (r_26 : Int32 × PS) => if r_26.1 = 0 then (J_23 r_26.2) else ((fL_types r_26.2 (t_11 - t_11 / 49 * 49)).bind (fun (r_29 : Int32 × PS) => if r_29.1 = 0 then (J_23 r_29.2) else (jn (fun (zt_32 : PS) => J_17 1 zt_32) (fun J_33 => if 0 < (a1 - a1 / 3 * 3) then (J_33 r_29.2) else (bnd (o_append r_29.2 59) (fun (r_36 : Int64 × PS) => if (lg_cmp r_36.1 0) ≤ 0 then (J_23 r_36.2) else ((fL_types r_36.2 (a1 - a1 / 49 * 49)).bind (fun (r_39 : Int32 × PS) => if r_39.1 = 0 then (J_23 r_39.2) else ((fL_types r_39.2 ((a1 / 49) - (a1 / 49) / 49 * 49)).bind (fun (r_42 : Int32 × PS) => if r_42.1 = 0 then (J_23 r_42.2) else (J_33 r_42.2)))))))))))))))) (fun J_13 => if ((v_byPieces (aF r_2.2.1) t_7).toInt32) = 0 then (J_13 0) else (grd (decide (¬ ((v_byPieces (aF r_2.2.1) t_7).toInt32) = 0)) (J_13 ((v_moveAt (aF r_2.2.1) t_7 (a1 - a1 / ((v_byPieces (aF r_2.2.1) t_7).toInt32) * ((v_byPieces (aF r_2.2.1) t_7).toInt32))).toInt32))))) (fun J_9 => if (aS r_2.2.1) = 1 then (J_9 ((v_turn (aS r_2.2.1) (aM r_2.2.1)).toInt32)) else (J_9 0))) (fun J_5 => if r_2.1 < 0 then (J_5 0) else (J_5 1)))
set_option maxRecDepth 100000 in
set_option maxHeartbeats 8000000 in
theorem mL_told (l : Launch) (hl0 : l.stackTraces = false) (g : GE) (zc zp : Nat) (aa : Nat → Nat) (st : PS) (a1 : Int32) (r : Int64 × PS) (hyp : fL_told st a1 = some r) : MH l yL_told cL_told 6 (some .long) 9 206 28 168 g zc zp aa [.ref (aa 0), .int a1] st r.2 (.long r.1) := by
  refine metH_intro hl0 rfl (by decide) rfl ?_
  intro p e R s m args below meth c Q A F hRf hRl hRc hRs hQ hr hlocks C hA hOt_0 ls hl
  obtain ⟨hx, hb, hml, hown, hts, hl0, hE, hSR, hNC, hOS, hOT, hAh⟩ := id C
  obtain ⟨c_0, hc0⟩ : ∃ q : Nat, q = 0 := ⟨_, rfl⟩
  obtain ⟨s_0, hs0⟩ : ∃ q : Nat, q = 0 := ⟨_, rfl⟩
  have hS_0 : va_S A s.heap s.heap [] := va_S.rf
  obtain ⟨H_0, hH0⟩ : ∃ q : Heap, q = s.heap := ⟨_, rfl⟩
  obtain ⟨locs_0, hL0⟩ : ∃ q : List Loc, q = [] := ⟨_, rfl⟩
  have hOt_0 : OB g aa F st s H_0 := by rw [hH0]; exact hOt_0
  have hS_0 : va_S A s.heap H_0 locs_0 := by rw [hH0, hL0]; exact hS_0
  suffices hk : W p l e R s m args below meth c H_0 locs_0 c_0 s_0 Q (F0 m 0 ls []) by rw [hH0, hL0, hc0, hs0] at hk; exact hk
  have hc_0 : c_0 + (28) ≤ 28 ∧ s_0 + (168) ≤ 168 := by omega
  have hl : lv_has ls 6 [(0, .ref (aa 0)), (1, .int a1)] := hl
  unfold fL_told at hyp
  refine lv_aload_n hx hb dL_told_0 rfl (lv_at hl 0 rfl) ?_
  obtain ⟨r_2, hr_2, hyp⟩ := bnd_e hyp
  refine hc_clearBuffer (rest := []) C hA hOt_0 hS_0 ml_L_256 (Nat.le_trans (Nat.le_of_ble_eq_true rfl) hRf) (Nat.le_trans (Nat.le_of_ble_eq_true rfl) hRl) hl.1 (Nat.le_of_ble_eq_true rfl) dL_told_1 ⟨by omega, by omega⟩ (fun H_1 locs_1 hOt_1 hS_1 hfr_1 => ?_)
  generalize hq1 : c_0 + 0 = c_1, hq2 : s_0 + 0 = s_1
  rw [← hr_2] at hOt_1 ⊢
  have hc_1 : c_1 + (28) ≤ 28 ∧ s_1 + (168) ≤ 168 := by omega
  clear hS_0 hfr_1 hOt_0
  obtain ⟨J_5, eJ_5, hyp⟩ := jn_e hyp
  have kJ_5 : ∀ (t_3 : Int32) (H_4 : Heap) (locs_4 : List Loc) (c_4 s_4 : Nat) (ls : Array Slot), J_5 t_3 = some r → lv_has ls 6 [(0, .ref (aa 0)), (1, .int a1)] → OB g aa F r_2.2 s H_4 → va_S A s.heap H_4 locs_4 → (c_4 + (28) ≤ 28 ∧ s_4 + (168) ≤ 168) → W p l e R s m args below meth c H_4 locs_4 c_4 s_4 Q (F0 m 12 ls [.int t_3]) := by
    intro t_3 H_4 locs_4 c_4 s_4 ls hyp hl hOt_4 hS_4 hc_4
    replace hyp := (congrFun (eJ_5) t_3).symm.trans hyp
    refine lv_istore_n (lv' := [(2, .int t_3), (0, .ref (aa 0)), (1, .int a1)]) hx hb dL_told_12 rfl hl (by decide) rfl (fun ls hl => ?_)
    refine lv_aload_n hx hb dL_told_13 rfl (lv_at hl 1 rfl) ?_
    refine hc_standing (rest := []) C hA hOt_4 hS_4 ml_L_124 (Nat.le_trans (Nat.le_of_ble_eq_true rfl) hRf) (Nat.le_trans (Nat.le_of_ble_eq_true rfl) hRl) hl.1 (Nat.le_of_ble_eq_true rfl) dL_told_14 ⟨by omega, by omega⟩ (fun H_6 locs_6 hOt_6 hS_6 hfr_6 => ?_)
    generalize hq1 : c_4 + 0 = c_6, hq2 : s_4 + 0 = s_6
    have hc_6 : c_6 + (28) ≤ 28 ∧ s_6 + (168) ≤ 168 := by omega
    clear hS_4 hfr_6 hOt_4
    refine lv_iconst (v := 1) hx hb dL_told_17 (by decide) ?_
    obtain ⟨J_9, eJ_9, hyp⟩ := jn_e hyp
    have kJ_9 : ∀ (t_7 : Int32) (H_8 : Heap) (locs_8 : List Loc) (c_8 s_8 : Nat) (ls : Array Slot), J_9 t_7 = some r → lv_has ls 6 [(0, .ref (aa 0)), (1, .int a1), (2, .int t_3)] → OB g aa F r_2.2 s H_8 → va_S A s.heap H_8 locs_8 → (c_8 + (27) ≤ 28 ∧ s_8 + (162) ≤ 168) → W p l e R s m args below meth c H_8 locs_8 c_8 s_8 Q (F0 m 30 ls [.int t_7]) := by
      intro t_7 H_8 locs_8 c_8 s_8 ls hyp hl hOt_8 hS_8 hc_8
      replace hyp := (congrFun (eJ_9) t_7).symm.trans hyp
      refine lv_istore_n (lv' := [(3, .int t_7), (0, .ref (aa 0)), (1, .int a1), (2, .int t_3)]) hx hb dL_told_30 rfl hl (by decide) rfl (fun ls hl => ?_)
      refine lv_aload_n hx hb dL_told_31 rfl (lv_at hl 1 rfl) ?_
      refine lv_iload_n hx hb dL_told_32 rfl (lv_at hl 0 rfl) ?_
      refine hc_byPieces (rest := []) C hA hOt_8 hS_8 t_7 ml_L_158 (Nat.le_trans (Nat.le_of_ble_eq_true rfl) hRf) (Nat.le_trans (Nat.le_of_ble_eq_true rfl) hRl) hl.1 (Nat.le_of_ble_eq_true rfl) dL_told_33 ⟨by omega, by omega⟩ (fun H_10 locs_10 hOt_10 hS_10 hfr_10 => ?_)
      generalize hq1 : c_8 + 1 = c_10, hq2 : s_8 + 6 = s_10
      have hc_10 : c_10 + (26) ≤ 28 ∧ s_10 + (156) ≤ 168 := by omega
      clear hS_8 hfr_10 hOt_8
      refine lv_l2i hx hb dL_told_36 rfl ?_
      refine lv_istore (lv' := [(4, .int ((v_byPieces (aF r_2.2.1) t_7).toInt32)), (3, .int t_7), (0, .ref (aa 0)), (1, .int a1), (2, .int t_3)]) hx hb dL_told_37 hl (by decide) rfl (fun ls hl => ?_)
      refine lv_iload hx hb dL_told_39 (lv_at hl 0 rfl) ?_
      obtain ⟨J_13, eJ_13, hyp⟩ := jn_e hyp
      have kJ_13 : ∀ (t_11 : Int32) (H_12 : Heap) (locs_12 : List Loc) (c_12 s_12 : Nat) (ls : Array Slot), J_13 t_11 = some r → lv_has ls 6 [(0, .ref (aa 0)), (1, .int a1), (2, .int t_3)] → OB g aa F r_2.2 s H_12 → va_S A s.heap H_12 locs_12 → (c_12 + (24) ≤ 28 ∧ s_12 + (144) ≤ 168) → W p l e R s m args below meth c H_12 locs_12 c_12 s_12 Q (F0 m 58 ls [.int t_11]) := by
        intro t_11 H_12 locs_12 c_12 s_12 ls hyp hl hOt_12 hS_12 hc_12
        replace hyp := (congrFun (eJ_13) t_11).symm.trans hyp
        refine lv_istore (lv' := [(5, .int t_11), (0, .ref (aa 0)), (1, .int a1), (2, .int t_3)]) hx hb dL_told_58 hl (by decide) rfl (fun ls hl => ?_)
        refine lv_iload_n hx hb dL_told_60 rfl (lv_at hl 3 rfl) ?_
        obtain ⟨J_17, eJ_17, hyp⟩ := jn_e hyp
        have kJ_17 : ∀ (t_14 : Int32) (zt_16 : PS) (H_15 : Heap) (locs_15 : List Loc) (c_15 s_15 : Nat) (ls : Array Slot), J_17 t_14 zt_16 = some r → lv_has ls 6 [(0, .ref (aa 0))] → OB g aa F zt_16 s H_15 → va_S A s.heap H_15 locs_15 → (c_15 + (15) ≤ 28 ∧ s_15 + (90) ≤ 168) → W p l e R s m args below meth c H_15 locs_15 c_15 s_15 Q (F0 m 135 ls [.int t_14]) := by
          intro t_14 zt_16 H_15 locs_15 c_15 s_15 ls hyp hl hOt_15 hS_15 hc_15
          replace hyp := (congrFun (congrFun (eJ_17) t_14) zt_16).symm.trans hyp
          refine lv_istore_n (lv' := [(2, .int t_14), (0, .ref (aa 0))]) hx hb dL_told_135 rfl hl (by decide) rfl (fun ls hl => ?_)
          refine lv_iload_n hx hb dL_told_136 rfl (lv_at hl 0 rfl) ?_
          refine lv_if_eq (tgt := 147) hx hb dL_told_137 (by decide) (fun h_18 => ?_) (fun h_18 => ?_)
          · replace hyp := ite_t h_18 hyp
            refine lv_ldc2 (v := (-1)) hx hb hown (hts _ ct_L_230) dL_told_147 ?_
            have hyp := some_e hyp
            subst hyp
            subst hQ
            exact rhJ hx hb hr hlocks hOt_15 hS_15 ⟨by omega, by omega⟩ dL_told_150
          · replace hyp := ite_f h_18 hyp
            refine lv_aload_n hx hb dL_told_140 rfl (lv_at hl 1 rfl) ?_
            obtain ⟨r_20, hr_20, hyp⟩ := opt_e hyp
            refine hc_play (rest := []) C hA hOt_15 hS_15 hr_20 ml_L_263 (Nat.le_trans (Nat.le_of_ble_eq_true rfl) hRf) (Nat.le_trans (Nat.le_of_ble_eq_true rfl) hRl) hl.1 (Nat.le_of_ble_eq_true rfl) dL_told_141 ⟨by omega, by omega⟩ (fun H_19 locs_19 c_19 s_19 hn1 hn2 hOt_19 hS_19 hfr_19 => ?_)
            have hc_19 : c_19 + (0) ≤ 28 ∧ s_19 + (0) ≤ 168 := by omega
            clear hS_15 hfr_19 hOt_15
            refine lv_goto (tgt := 150) hx hb dL_told_144 (by decide) ?_
            have hyp := some_e hyp
            subst hyp
            subst hQ
            exact rhJ hx hb hr hlocks hOt_19 hS_19 ⟨by omega, by omega⟩ dL_told_150
        obtain ⟨J_23, eJ_23, hyp⟩ := jn_e hyp
        have kJ_23 : ∀ (zt_22 : PS) (H_21 : Heap) (locs_21 : List Loc) (c_21 s_21 : Nat) (ls : Array Slot), J_23 zt_22 = some r → lv_has ls 6 [(0, .ref (aa 0))] → OB g aa F zt_22 s H_21 → va_S A s.heap H_21 locs_21 → (c_21 + (15) ≤ 28 ∧ s_21 + (90) ≤ 168) → W p l e R s m args below meth c H_21 locs_21 c_21 s_21 Q (F0 m 134 ls []) := by
          intro zt_22 H_21 locs_21 c_21 s_21 ls hyp hl hOt_21 hS_21 hc_21
          replace hyp := (congrFun (eJ_23) zt_22).symm.trans hyp
          refine lv_iconst (v := 0) hx hb dL_told_134 (by decide) ?_
          exact kJ_17 0 zt_22 _ _ _ _ ls hyp hl hOt_21 hS_21 (by omega)
        refine lv_if_eq (tgt := 134) hx hb dL_told_61 (by decide) (fun h_24 => ?_) (fun h_24 => ?_)
        · replace hyp := ite_t h_24 hyp
          exact kJ_23 r_2.2 _ _ _ _ ls hyp (lv_sub hl [1] rfl) hOt_12 hS_12 (by omega)
        · replace hyp := ite_f h_24 hyp
          refine lv_aload_n hx hb dL_told_64 rfl (lv_at hl 1 rfl) ?_
          refine lv_iload hx hb dL_told_65 (lv_at hl 0 rfl) ?_
          refine lv_bipush (v := 49) hx hb dL_told_67 (by decide) ?_
          refine lv_idiv hx hb dL_told_69 (by decide) ?_
          obtain ⟨r_26, hr_26, hyp⟩ := opt_e hyp
          refine sH (As := [.ref (aa 0), .int (t_11 / 49)]) (rest := []) C hA hOt_12 hS_12 (mL_types l hl0 g zc zp aa r_2.2 (t_11 / 49) r_26 hr_26) cf_L_types st_L_types ml_L_259 ⟨Nat.le_trans (Nat.le_of_ble_eq_true rfl) hRf, Nat.le_trans (Nat.le_of_ble_eq_true rfl) hRl⟩ rfl hl.1 rfl (Nat.le_of_ble_eq_true rfl) dL_told_70 ⟨by omega, by omega⟩ (fun H_25 locs_25 hOt_25 hS_25 hfr_25 => ?_)
          generalize hq1 : c_12 + 2 = c_25, hq2 : s_12 + 12 = s_25
          have hc_25 : c_25 + (22) ≤ 28 ∧ s_25 + (132) ≤ 168 := by omega
          clear hS_12 hfr_25 hOt_12
          refine lv_if_eq (tgt := 134) hx hb dL_told_73 (by decide) (fun h_27 => ?_) (fun h_27 => ?_)
          · replace hyp := ite_t h_27 hyp
            exact kJ_23 r_26.2 _ _ _ _ ls hyp (lv_sub hl [1] rfl) hOt_25 hS_25 (by omega)
          · replace hyp := ite_f h_27 hyp
            refine lv_aload_n hx hb dL_told_76 rfl (lv_at hl 1 rfl) ?_
            refine lv_iload hx hb dL_told_77 (lv_at hl 0 rfl) ?_
            refine lv_bipush (v := 49) hx hb dL_told_79 (by decide) ?_
            refine lv_irem hx hb dL_told_81 (by decide) ?_
            obtain ⟨r_29, hr_29, hyp⟩ := opt_e hyp
            refine sH (As := [.ref (aa 0), .int (t_11 - t_11 / 49 * 49)]) (rest := []) C hA hOt_25 hS_25 (mL_types l hl0 g zc zp aa r_26.2 (t_11 - t_11 / 49 * 49) r_29 hr_29) cf_L_types st_L_types ml_L_259 ⟨Nat.le_trans (Nat.le_of_ble_eq_true rfl) hRf, Nat.le_trans (Nat.le_of_ble_eq_true rfl) hRl⟩ rfl hl.1 rfl (Nat.le_of_ble_eq_true rfl) dL_told_82 ⟨by omega, by omega⟩ (fun H_28 locs_28 hOt_28 hS_28 hfr_28 => ?_)
            generalize hq1 : c_25 + 2 = c_28, hq2 : s_25 + 12 = s_28
            have hc_28 : c_28 + (20) ≤ 28 ∧ s_28 + (120) ≤ 168 := by omega
            clear hS_25 hfr_28 hOt_25
            refine lv_if_eq (tgt := 134) hx hb dL_told_85 (by decide) (fun h_30 => ?_) (fun h_30 => ?_)
            · replace hyp := ite_t h_30 hyp
              exact kJ_23 r_29.2 _ _ _ _ ls hyp (lv_sub hl [1] rfl) hOt_28 hS_28 (by omega)
            · replace hyp := ite_f h_30 hyp
              refine lv_iload_n hx hb dL_told_88 rfl (lv_at hl 2 rfl) ?_
              refine lv_iconst (v := 3) hx hb dL_told_89 (by decide) ?_
              refine lv_irem hx hb dL_told_90 (by decide) ?_
              obtain ⟨J_33, eJ_33, hyp⟩ := jn_e hyp
              have kJ_33 : ∀ (zt_32 : PS) (H_31 : Heap) (locs_31 : List Loc) (c_31 s_31 : Nat) (ls : Array Slot), J_33 zt_32 = some r → lv_has ls 6 [(0, .ref (aa 0))] → OB g aa F zt_32 s H_31 → va_S A s.heap H_31 locs_31 → (c_31 + (15) ≤ 28 ∧ s_31 + (90) ≤ 168) → W p l e R s m args below meth c H_31 locs_31 c_31 s_31 Q (F0 m 130 ls []) := by
                intro zt_32 H_31 locs_31 c_31 s_31 ls hyp hl hOt_31 hS_31 hc_31
                replace hyp := (congrFun (eJ_33) zt_32).symm.trans hyp
                refine lv_iconst (v := 1) hx hb dL_told_130 (by decide) ?_
                refine lv_goto (tgt := 135) hx hb dL_told_131 (by decide) ?_
                exact kJ_17 1 zt_32 _ _ _ _ ls hyp hl hOt_31 hS_31 (by omega)
              refine lv_if_gt (tgt := 130) hx hb dL_told_91 (by decide) (fun h_34 => ?_) (fun h_34 => ?_)
              · replace hyp := ite_t h_34 hyp
                exact kJ_33 r_29.2 _ _ _ _ ls hyp (lv_sub hl [1] rfl) hOt_28 hS_28 (by omega)
              · replace hyp := ite_f h_34 hyp
                refine lv_aload_n hx hb dL_told_94 rfl (lv_at hl 1 rfl) ?_
                refine lv_bipush (v := 59) hx hb dL_told_95 (by decide) ?_
                obtain ⟨r_36, hr_36, hyp⟩ := bnd_e hyp
                refine hc_append (rest := []) C hA hOt_28 hS_28 (59 : Int32) ml_L_138 (Nat.le_trans (Nat.le_of_ble_eq_true rfl) hRf) (Nat.le_trans (Nat.le_of_ble_eq_true rfl) hRl) hl.1 (Nat.le_of_ble_eq_true rfl) dL_told_97 ⟨by omega, by omega⟩ (fun H_35 locs_35 hOt_35 hS_35 hfr_35 => ?_)
                generalize hq1 : c_28 + 1 = c_35, hq2 : s_28 + 6 = s_35
                rw [← hr_36] at hOt_35 ⊢
                have hc_35 : c_35 + (19) ≤ 28 ∧ s_35 + (114) ≤ 168 := by omega
                clear hS_28 hfr_35 hOt_28
                refine lv_lconst (v := 0) hx hb dL_told_100 (by decide) ?_
                refine W.lcmp hx hb dL_told_101 ?_
                refine lv_if_le (tgt := 134) hx hb dL_told_102 (by decide) (fun h_37 => ?_) (fun h_37 => ?_)
                · replace hyp := ite_t h_37 hyp
                  exact kJ_23 r_36.2 _ _ _ _ ls hyp (lv_sub hl [1] rfl) hOt_35 hS_35 (by omega)
                · replace hyp := ite_f h_37 hyp
                  refine lv_aload_n hx hb dL_told_105 rfl (lv_at hl 1 rfl) ?_
                  refine lv_iload_n hx hb dL_told_106 rfl (lv_at hl 2 rfl) ?_
                  refine lv_bipush (v := 49) hx hb dL_told_107 (by decide) ?_
                  refine lv_irem hx hb dL_told_109 (by decide) ?_
                  obtain ⟨r_39, hr_39, hyp⟩ := opt_e hyp
                  refine sH (As := [.ref (aa 0), .int (a1 - a1 / 49 * 49)]) (rest := []) C hA hOt_35 hS_35 (mL_types l hl0 g zc zp aa r_36.2 (a1 - a1 / 49 * 49) r_39 hr_39) cf_L_types st_L_types ml_L_259 ⟨Nat.le_trans (Nat.le_of_ble_eq_true rfl) hRf, Nat.le_trans (Nat.le_of_ble_eq_true rfl) hRl⟩ rfl hl.1 rfl (Nat.le_of_ble_eq_true rfl) dL_told_110 ⟨by omega, by omega⟩ (fun H_38 locs_38 hOt_38 hS_38 hfr_38 => ?_)
                  generalize hq1 : c_35 + 2 = c_38, hq2 : s_35 + 12 = s_38
                  have hc_38 : c_38 + (17) ≤ 28 ∧ s_38 + (102) ≤ 168 := by omega
                  clear hS_35 hfr_38 hOt_35
                  refine lv_if_eq (tgt := 134) hx hb dL_told_113 (by decide) (fun h_40 => ?_) (fun h_40 => ?_)
                  · replace hyp := ite_t h_40 hyp
                    exact kJ_23 r_39.2 _ _ _ _ ls hyp (lv_sub hl [1] rfl) hOt_38 hS_38 (by omega)
                  · replace hyp := ite_f h_40 hyp
                    refine lv_aload_n hx hb dL_told_116 rfl (lv_at hl 1 rfl) ?_
                    refine lv_iload_n hx hb dL_told_117 rfl (lv_at hl 2 rfl) ?_
                    refine lv_bipush (v := 49) hx hb dL_told_118 (by decide) ?_
                    refine lv_idiv hx hb dL_told_120 (by decide) ?_
                    refine lv_bipush (v := 49) hx hb dL_told_121 (by decide) ?_
                    refine lv_irem hx hb dL_told_123 (by decide) ?_
                    obtain ⟨r_42, hr_42, hyp⟩ := opt_e hyp
                    refine sH (As := [.ref (aa 0), .int ((a1 / 49) - (a1 / 49) / 49 * 49)]) (rest := []) C hA hOt_38 hS_38 (mL_types l hl0 g zc zp aa r_39.2 ((a1 / 49) - (a1 / 49) / 49 * 49) r_42 hr_42) cf_L_types st_L_types ml_L_259 ⟨Nat.le_trans (Nat.le_of_ble_eq_true rfl) hRf, Nat.le_trans (Nat.le_of_ble_eq_true rfl) hRl⟩ rfl hl.1 rfl (Nat.le_of_ble_eq_true rfl) dL_told_124 ⟨by omega, by omega⟩ (fun H_41 locs_41 hOt_41 hS_41 hfr_41 => ?_)
                    generalize hq1 : c_38 + 2 = c_41, hq2 : s_38 + 12 = s_41
                    have hc_41 : c_41 + (15) ≤ 28 ∧ s_41 + (90) ≤ 168 := by omega
                    clear hS_38 hfr_41 hOt_38
                    refine lv_if_eq (tgt := 134) hx hb dL_told_127 (by decide) (fun h_43 => ?_) (fun h_43 => ?_)
                    · replace hyp := ite_t h_43 hyp
                      exact kJ_23 r_42.2 _ _ _ _ ls hyp (lv_sub hl [1] rfl) hOt_41 hS_41 (by omega)
                    · replace hyp := ite_f h_43 hyp
                      exact kJ_33 r_42.2 _ _ _ _ ls hyp (lv_sub hl [1] rfl) hOt_41 hS_41 (by omega)
      refine lv_if_ne (tgt := 48) hx hb dL_told_41 (by decide) (fun h_44 => ?_) (fun h_44 => ?_)
      · replace hyp := ite_f h_44 hyp
        refine lv_aload_n hx hb dL_told_48 rfl (lv_at hl 2 rfl) ?_
        refine lv_iload_n hx hb dL_told_49 rfl (lv_at hl 1 rfl) ?_
        refine lv_iload_n hx hb dL_told_50 rfl (lv_at hl 3 rfl) ?_
        refine lv_iload hx hb dL_told_51 (lv_at hl 0 rfl) ?_
        obtain ⟨hi, hyp⟩ := grd_e hyp
        refine lv_irem hx hb dL_told_53 (of_decide_eq_true hi) ?_
        refine hc_moveAt (rest := []) C hA hOt_10 hS_10 t_7 (a1 - a1 / ((v_byPieces (aF r_2.2.1) t_7).toInt32) * ((v_byPieces (aF r_2.2.1) t_7).toInt32)) ml_L_173 (Nat.le_trans (Nat.le_of_ble_eq_true rfl) hRf) (Nat.le_trans (Nat.le_of_ble_eq_true rfl) hRl) hl.1 (Nat.le_of_ble_eq_true rfl) dL_told_54 ⟨by omega, by omega⟩ (fun H_45 locs_45 hOt_45 hS_45 hfr_45 => ?_)
        generalize hq1 : c_10 + 2 = c_45, hq2 : s_10 + 12 = s_45
        have hc_45 : c_45 + (24) ≤ 28 ∧ s_45 + (144) ≤ 168 := by omega
        clear hS_10 hfr_45 hOt_10
        refine lv_l2i hx hb dL_told_57 rfl ?_
        exact kJ_13 ((v_moveAt (aF r_2.2.1) t_7 (a1 - a1 / ((v_byPieces (aF r_2.2.1) t_7).toInt32) * ((v_byPieces (aF r_2.2.1) t_7).toInt32))).toInt32) _ _ _ _ ls hyp (lv_sub hl [2, 3, 4] rfl) hOt_45 hS_45 (by omega)
      · replace hyp := ite_t h_44 hyp
        refine lv_iconst (v := 0) hx hb dL_told_44 (by decide) ?_
        refine lv_goto (tgt := 58) hx hb dL_told_45 (by decide) ?_
        exact kJ_13 0 _ _ _ _ ls hyp (lv_sub hl [2, 3, 4] rfl) hOt_10 hS_10 (by omega)
    refine lv_icmp_ne (tgt := 29) hx hb dL_told_18 (by decide) (fun h_46 => ?_) (fun h_46 => ?_)
    · replace hyp := ite_f h_46 hyp
      refine lv_iconst (v := 0) hx hb dL_told_29 (by decide) ?_
      exact kJ_9 0 _ _ _ _ ls hyp (lv_sub hl [1, 2, 0] rfl) hOt_6 hS_6 (by omega)
    · replace hyp := ite_t h_46 hyp
      refine lv_aload_n hx hb dL_told_21 rfl (lv_at hl 1 rfl) ?_
      refine hc_turn (rest := []) C hA hOt_6 hS_6 ml_L_181 (Nat.le_trans (Nat.le_of_ble_eq_true rfl) hRf) (Nat.le_trans (Nat.le_of_ble_eq_true rfl) hRl) hl.1 (Nat.le_of_ble_eq_true rfl) dL_told_22 ⟨by omega, by omega⟩ (fun H_47 locs_47 hOt_47 hS_47 hfr_47 => ?_)
      generalize hq1 : c_6 + 1 = c_47, hq2 : s_6 + 6 = s_47
      have hc_47 : c_47 + (27) ≤ 28 ∧ s_47 + (162) ≤ 168 := by omega
      clear hS_6 hfr_47 hOt_6
      refine lv_l2i hx hb dL_told_25 rfl ?_
      refine lv_goto (tgt := 30) hx hb dL_told_26 (by decide) ?_
      exact kJ_9 ((v_turn (aS r_2.2.1) (aM r_2.2.1)).toInt32) _ _ _ _ ls hyp (lv_sub hl [1, 2, 0] rfl) hOt_47 hS_47 (by omega)
  refine lv_if_lt (tgt := 11) hx hb dL_told_4 (by decide) (fun h_48 => ?_) (fun h_48 => ?_)
  · replace hyp := ite_t h_48 hyp
    refine lv_iconst (v := 0) hx hb dL_told_11 (by decide) ?_
    exact kJ_5 0 _ _ _ _ ls hyp hl hOt_1 hS_1 (by omega)
  · replace hyp := ite_f h_48 hyp
    refine lv_iconst (v := 1) hx hb dL_told_7 (by decide) ?_
    refine lv_goto (tgt := 12) hx hb dL_told_8 (by decide) ?_
    exact kJ_5 1 _ _ _ _ ls hyp hl hOt_1 hS_1 (by omega)

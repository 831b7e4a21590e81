noncomputable def fL_act (st : PS) (a1 : Int32) (a2 : Int32) : Option (Int64 × PS) :=
  jn (fun (t_2 : Int32) => jn (fun (t_6 : Int32) => if (aS st.1) = 0 then (if 6 ≤ (a1 - a1 / 8 * 8) then (bnd (o_start st ((a2 / 49) - (a2 / 49) / 2 * 2)) (fun (r_59 : Int64 × PS) => some (r_59.1, r_59.2))) else (jn (fun (t_61 : Int32) => bnd (o_put st ((a2 - a2 / 49 * 49) / 7) (a2 - a2 / 7 * 7) t_61) (fun (r_65 : Int64 × PS) => some (r_65.1, r_65.2))) (fun J_63 => if (lg_cmp (v_kingAt (aF st.1)) (-9000000000000000003)) = 0 then (J_63 3) else (J_63 ((a2 / 49) - (a2 / 49) / 3 * 3))))) else (if (a1 - a1 / 24 * 24) = 0 then (if ((a2 / 49) - (a2 / 49) / 4 * 4) = 0 then (bnd (o_clearBoard st) (fun (r_15 : Int32 × PS) => some (r_15.1.toInt64, r_15.2))) else ((o_move st (a2 - a2 / 49 * 49) ((a2 / 49) - (a2 / 49) / 49 * 49)).bind (fun (r_13 : Int64 × PS) => some (r_13.1, r_13.2)))) else (if (a1 - a1 / 24 * 24) = 1 then (if (aS st.1) = 1 then (bnd (o_turnStrong st) (fun (r_21 : Int32 × PS) => if r_21.1 = 0 then (some (0, r_21.2)) else (some (1, r_21.2)))) else (bnd (o_setUp st) (fun (r_19 : Int32 × PS) => some (r_19.1.toInt64, r_19.2)))) else (if (a1 - a1 / 24 * 24) = 2 then ((fL_told st (a2 / 49)).bind (fun (r_25 : Int64 × PS) => some (r_25.1, r_25.2))) else (if (a1 - a1 / 24 * 24) = 3 then ((fL_told st (a2 / 49)).bind (fun (r_28 : Int64 × PS) => some (r_28.1, r_28.2))) else (if (a1 - a1 / 24 * 24) = 4 then (bnd (o_undo st) (fun (r_31 : Int64 × PS) => some (r_31.1, r_31.2))) else (if (a1 - a1 / 24 * 24) = 5 then (bnd (o_undo st) (fun (r_34 : Int64 × PS) => some (r_34.1, r_34.2))) else (if (a1 - a1 / 24 * 24) = 6 then (if ((a2 / 49) - (a2 / 49) / 2 * 2) = 0 then (bnd (o_keep st (((a2 / 49) / 2) &&& 1)) (fun (r_40 : Int64 × PS) => some (r_40.1, r_40.2))) else (bnd (o_goBack st (((a2 / 49) / 2) &&& 1)) (fun (r_38 : Int64 × PS) => some (r_38.1, r_38.2)))) else (if (a1 - a1 / 24 * 24) = 7 then (if ((v_byPieces (aF st.1) t_2).toInt32) = 0 then (bnd (o_setUp st) (fun (r_45 : Int32 × PS) => some (r_45.1.toInt64, r_45.2))) else (some (v_bestMove (aF st.1) (aG st.1) t_2, st))) else (jn (if ((a2 / 49) - (a2 / 49) / 3 * 3) = 0 then (bnd (o_setUp st) (fun (r_52 : Int32 × PS) => some (r_52.1.toInt64, r_52.2))) else (bnd (o_clearBoard st) (fun (r_50 : Int32 × PS) => some (r_50.1.toInt64, r_50.2)))) (fun J_47 => if ((v_byPieces (aF st.1) t_2).toInt32) = 0 then (J_47) else (if (aS st.1) ≤ 1 then ((o_move st (t_6 / 49) (t_6 - t_6 / 49 * 49)).bind (fun (r_56 : Int64 × PS) => some (r_56.1, r_56.2))) else (J_47))))))))))))) (fun J_8 => if ((v_byPieces (aF st.1) t_2).toInt32) = 0 then (J_8 0) else (grd (decide (¬ ((v_byPieces (aF st.1) t_2).toInt32) = 0)) (J_8 ((v_moveAt (aF st.1) t_2 (a2 - a2 / ((v_byPieces (aF st.1) t_2).toInt32) * ((v_byPieces (aF st.1) t_2).toInt32))).toInt32))))) (fun J_4 => if (aS st.1) = 1 then (J_4 ((v_turn (aS st.1) (aM st.1)).toInt32)) else (J_4 0))
set_option maxRecDepth 100000 in
set_option maxHeartbeats 8000000 in
theorem mL_act (l : Launch) (hl0 : l.stackTraces = false) (g : GE) (zc zp : Nat) (aa : Nat → Nat) (st : PS) (a1 : Int32) (a2 : Int32) (r : Int64 × PS) (hyp : fL_act st a1 a2 = some r) : MH l yL_act cL_act 8 (some .long) 10 231 32 192 g zc zp aa [.ref (aa 0), .int a1, .int a2] st r.2 (.long r.1) := by
  refine metH_intro hl0 rfl (by decide) rfl ?_
  intro p e R s m args below meth c Q A F hRf hRl hRc hRs hQ hr hlocks C hA hOt_0 ls hl
  obtain ⟨hx, hb, hml, hown, hts, hl0, hE, hSR, hNC, hOS, hOT, hAh⟩ := id C
  obtain ⟨c_0, hc0⟩ : ∃ q : Nat, q = 0 := ⟨_, rfl⟩
  obtain ⟨s_0, hs0⟩ : ∃ q : Nat, q = 0 := ⟨_, rfl⟩
  have hS_0 : va_S A s.heap s.heap [] := va_S.rf
  obtain ⟨H_0, hH0⟩ : ∃ q : Heap, q = s.heap := ⟨_, rfl⟩
  obtain ⟨locs_0, hL0⟩ : ∃ q : List Loc, q = [] := ⟨_, rfl⟩
  have hOt_0 : OB g aa F st s H_0 := by rw [hH0]; exact hOt_0
  have hS_0 : va_S A s.heap H_0 locs_0 := by rw [hH0, hL0]; exact hS_0
  suffices hk : W p l e R s m args below meth c H_0 locs_0 c_0 s_0 Q (F0 m 0 ls []) by rw [hH0, hL0, hc0, hs0] at hk; exact hk
  have hc_0 : c_0 + (32) ≤ 32 ∧ s_0 + (192) ≤ 192 := by omega
  have hl : lv_has ls 8 [(0, .ref (aa 0)), (1, .int a1), (2, .int a2)] := hl
  unfold fL_act at hyp
  refine lv_aload_n hx hb dL_act_0 rfl (lv_at hl 0 rfl) ?_
  refine hc_standing (rest := []) C hA hOt_0 hS_0 ml_L_124 (Nat.le_trans (Nat.le_of_ble_eq_true rfl) hRf) (Nat.le_trans (Nat.le_of_ble_eq_true rfl) hRl) hl.1 (Nat.le_of_ble_eq_true rfl) dL_act_1 ⟨by omega, by omega⟩ (fun H_1 locs_1 hOt_1 hS_1 hfr_1 => ?_)
  generalize hq1 : c_0 + 0 = c_1, hq2 : s_0 + 0 = s_1
  have hc_1 : c_1 + (32) ≤ 32 ∧ s_1 + (192) ≤ 192 := by omega
  clear hS_0 hfr_1 hOt_0
  refine lv_istore_n (lv' := [(3, .int (aS st.1)), (0, .ref (aa 0)), (1, .int a1), (2, .int a2)]) hx hb dL_act_4 rfl hl (by decide) rfl (fun ls hl => ?_)
  refine lv_iload_n hx hb dL_act_5 rfl (lv_at hl 0 rfl) ?_
  refine lv_iconst (v := 1) hx hb dL_act_6 (by decide) ?_
  obtain ⟨J_4, eJ_4, hyp⟩ := jn_e hyp
  have kJ_4 : ∀ (t_2 : Int32) (H_3 : Heap) (locs_3 : List Loc) (c_3 s_3 : Nat) (ls : Array Slot), J_4 t_2 = some r → lv_has ls 8 [(0, .ref (aa 0)), (1, .int a1), (2, .int a2), (3, .int (aS st.1))] → OB g aa F st s H_3 → va_S A s.heap H_3 locs_3 → (c_3 + (31) ≤ 32 ∧ s_3 + (186) ≤ 192) → W p l e R s m args below meth c H_3 locs_3 c_3 s_3 Q (F0 m 19 ls [.int t_2]) := by
    intro t_2 H_3 locs_3 c_3 s_3 ls hyp hl hOt_3 hS_3 hc_3
    replace hyp := (congrFun (eJ_4) t_2).symm.trans hyp
    refine lv_istore (lv' := [(4, .int t_2), (0, .ref (aa 0)), (1, .int a1), (2, .int a2), (3, .int (aS st.1))]) hx hb dL_act_19 hl (by decide) rfl (fun ls hl => ?_)
    refine lv_aload_n hx hb dL_act_21 rfl (lv_at hl 1 rfl) ?_
    refine lv_iload hx hb dL_act_22 (lv_at hl 0 rfl) ?_
    refine hc_byPieces (rest := []) C hA hOt_3 hS_3 t_2 ml_L_158 (Nat.le_trans (Nat.le_of_ble_eq_true rfl) hRf) (Nat.le_trans (Nat.le_of_ble_eq_true rfl) hRl) hl.1 (Nat.le_of_ble_eq_true rfl) dL_act_24 ⟨by omega, by omega⟩ (fun H_5 locs_5 hOt_5 hS_5 hfr_5 => ?_)
    generalize hq1 : c_3 + 1 = c_5, hq2 : s_3 + 6 = s_5
    have hc_5 : c_5 + (30) ≤ 32 ∧ s_5 + (180) ≤ 192 := by omega
    clear hS_3 hfr_5 hOt_3
    refine lv_l2i hx hb dL_act_27 rfl ?_
    refine lv_istore (lv' := [(5, .int ((v_byPieces (aF st.1) t_2).toInt32)), (4, .int t_2), (0, .ref (aa 0)), (1, .int a1), (2, .int a2), (3, .int (aS st.1))]) hx hb dL_act_28 hl (by decide) rfl (fun ls hl => ?_)
    refine lv_iload hx hb dL_act_30 (lv_at hl 0 rfl) ?_
    obtain ⟨J_8, eJ_8, hyp⟩ := jn_e hyp
    have kJ_8 : ∀ (t_6 : Int32) (H_7 : Heap) (locs_7 : List Loc) (c_7 s_7 : Nat) (ls : Array Slot), J_8 t_6 = some r → lv_has ls 8 [(0, .ref (aa 0)), (1, .int a1), (2, .int a2), (3, .int (aS st.1)), (4, .int t_2), (5, .int ((v_byPieces (aF st.1) t_2).toInt32))] → OB g aa F st s H_7 → va_S A s.heap H_7 locs_7 → (c_7 + (28) ≤ 32 ∧ s_7 + (168) ≤ 192) → W p l e R s m args below meth c H_7 locs_7 c_7 s_7 Q (F0 m 50 ls [.int t_6]) := by
      intro t_6 H_7 locs_7 c_7 s_7 ls hyp hl hOt_7 hS_7 hc_7
      replace hyp := (congrFun (eJ_8) t_6).symm.trans hyp
      refine lv_istore (lv' := [(6, .int t_6), (0, .ref (aa 0)), (1, .int a1), (2, .int a2), (3, .int (aS st.1)), (4, .int t_2), (5, .int ((v_byPieces (aF st.1) t_2).toInt32))]) hx hb dL_act_50 hl (by decide) rfl (fun ls hl => ?_)
      refine lv_iload_n hx hb dL_act_52 rfl (lv_at hl 3 rfl) ?_
      refine lv_bipush (v := 49) hx hb dL_act_53 (by decide) ?_
      refine lv_idiv hx hb dL_act_55 (by decide) ?_
      refine lv_istore (lv' := [(7, .int (a2 / 49)), (6, .int t_6), (0, .ref (aa 0)), (1, .int a1), (2, .int a2), (3, .int (aS st.1)), (4, .int t_2), (5, .int ((v_byPieces (aF st.1) t_2).toInt32))]) hx hb dL_act_56 hl (by decide) rfl (fun ls hl => ?_)
      refine lv_iload_n hx hb dL_act_58 rfl (lv_at hl 5 rfl) ?_
      refine lv_if_ne (tgt := 117) hx hb dL_act_59 (by decide) (fun h_9 => ?_) (fun h_9 => ?_)
      · replace hyp := ite_f h_9 hyp
        refine lv_iload_n hx hb dL_act_117 rfl (lv_at hl 3 rfl) ?_
        refine lv_bipush (v := 24) hx hb dL_act_118 (by decide) ?_
        refine lv_irem hx hb dL_act_120 (by decide) ?_
        by_cases h_10 : (a1 - a1 / 24 * 24) = 0
        · replace hyp := ite_t h_10 hyp
          refine lv_tableIn (off := 47) (tgt := 168) hx hb dL_act_121 (by rw [h_10]; decide) (by rw [h_10]; decide) (by rw [h_10]; decide) (by decide) ?_
          refine lv_iload hx hb dL_act_168 (lv_at hl 0 rfl) ?_
          refine lv_iconst (v := 4) hx hb dL_act_170 (by decide) ?_
          refine lv_irem hx hb dL_act_171 (by decide) ?_
          refine lv_if_ne (tgt := 183) hx hb dL_act_172 (by decide) (fun h_11 => ?_) (fun h_11 => ?_)
          · replace hyp := ite_f h_11 hyp
            refine lv_aload_n hx hb dL_act_183 rfl (lv_at hl 2 rfl) ?_
            refine lv_iload_n hx hb dL_act_184 rfl (lv_at hl 4 rfl) ?_
            refine lv_bipush (v := 49) hx hb dL_act_185 (by decide) ?_
            refine lv_irem hx hb dL_act_187 (by decide) ?_
            refine lv_iload hx hb dL_act_188 (lv_at hl 0 rfl) ?_
            refine lv_bipush (v := 49) hx hb dL_act_190 (by decide) ?_
            refine lv_irem hx hb dL_act_192 (by decide) ?_
            obtain ⟨r_13, hr_13, hyp⟩ := opt_e hyp
            refine hc_move (rest := []) C hA hOt_7 hS_7 (a2 - a2 / 49 * 49) ((a2 / 49) - (a2 / 49) / 49 * 49) hr_13 ml_L_135 (Nat.le_trans (Nat.le_of_ble_eq_true rfl) hRf) (Nat.le_trans (Nat.le_of_ble_eq_true rfl) hRl) hl.1 (Nat.le_of_ble_eq_true rfl) dL_act_193 ⟨by omega, by omega⟩ (fun H_12 locs_12 hOt_12 hS_12 hfr_12 => ?_)
            generalize hq1 : c_7 + 2 = c_12, hq2 : s_7 + 12 = s_12
            have hc_12 : c_12 + (0) ≤ 32 ∧ s_12 + (0) ≤ 192 := by omega
            clear hS_7 hfr_12 hOt_7
            have hyp := some_e hyp
            subst hyp
            subst hQ
            exact rhJ hx hb hr hlocks hOt_12 hS_12 ⟨by omega, by omega⟩ dL_act_196
          · replace hyp := ite_t h_11 hyp
            refine lv_aload_n hx hb dL_act_175 rfl (lv_at hl 2 rfl) ?_
            obtain ⟨r_15, hr_15, hyp⟩ := bnd_e hyp
            refine hc_clearBoard (rest := []) C hA hOt_7 hS_7 ml_L_247 (Nat.le_trans (Nat.le_of_ble_eq_true rfl) hRf) (Nat.le_trans (Nat.le_of_ble_eq_true rfl) hRl) hl.1 (Nat.le_of_ble_eq_true rfl) dL_act_176 ⟨by omega, by omega⟩ (fun H_14 locs_14 hOt_14 hS_14 hfr_14 => ?_)
            generalize hq1 : c_7 + 0 = c_14, hq2 : s_7 + 0 = s_14
            rw [← hr_15] at hOt_14 ⊢
            have hc_14 : c_14 + (0) ≤ 32 ∧ s_14 + (0) ≤ 192 := by omega
            clear hS_7 hfr_14 hOt_7
            refine lv_i2l hx hb dL_act_179 rfl ?_
            refine lv_goto (tgt := 196) hx hb dL_act_180 (by decide) ?_
            have hyp := some_e hyp
            subst hyp
            subst hQ
            exact rhJ hx hb hr hlocks hOt_14 hS_14 ⟨by omega, by omega⟩ dL_act_196
        · replace hyp := ite_f h_10 hyp
          by_cases h_16 : (a1 - a1 / 24 * 24) = 1
          · replace hyp := ite_t h_16 hyp
            refine lv_tableIn (off := 76) (tgt := 197) hx hb dL_act_121 (by rw [h_16]; decide) (by rw [h_16]; decide) (by rw [h_16]; decide) (by decide) ?_
            refine lv_iload_n hx hb dL_act_197 rfl (lv_at hl 5 rfl) ?_
            refine lv_iconst (v := 1) hx hb dL_act_198 (by decide) ?_
            refine lv_icmp_ne (tgt := 217) hx hb dL_act_199 (by decide) (fun h_17 => ?_) (fun h_17 => ?_)
            · replace hyp := ite_f h_17 hyp
              refine lv_aload_n hx hb dL_act_217 rfl (lv_at hl 2 rfl) ?_
              obtain ⟨r_19, hr_19, hyp⟩ := bnd_e hyp
              refine hc_setUp (rest := []) C hA hOt_7 hS_7 ml_L_250 (Nat.le_trans (Nat.le_of_ble_eq_true rfl) hRf) (Nat.le_trans (Nat.le_of_ble_eq_true rfl) hRl) hl.1 (Nat.le_of_ble_eq_true rfl) dL_act_218 ⟨by omega, by omega⟩ (fun H_18 locs_18 hOt_18 hS_18 hfr_18 => ?_)
              generalize hq1 : c_7 + 1 = c_18, hq2 : s_7 + 6 = s_18
              rw [← hr_19] at hOt_18 ⊢
              have hc_18 : c_18 + (0) ≤ 32 ∧ s_18 + (0) ≤ 192 := by omega
              clear hS_7 hfr_18 hOt_7
              refine lv_i2l hx hb dL_act_221 rfl ?_
              have hyp := some_e hyp
              subst hyp
              subst hQ
              exact rhJ hx hb hr hlocks hOt_18 hS_18 ⟨by omega, by omega⟩ dL_act_222
            · replace hyp := ite_t h_17 hyp
              refine lv_aload_n hx hb dL_act_202 rfl (lv_at hl 2 rfl) ?_
              obtain ⟨r_21, hr_21, hyp⟩ := bnd_e hyp
              refine hc_turnStrong (rest := []) C hA hOt_7 hS_7 ml_L_244 (Nat.le_trans (Nat.le_of_ble_eq_true rfl) hRf) (Nat.le_trans (Nat.le_of_ble_eq_true rfl) hRl) hl.1 (Nat.le_of_ble_eq_true rfl) dL_act_203 ⟨by omega, by omega⟩ (fun H_20 locs_20 hOt_20 hS_20 hfr_20 => ?_)
              generalize hq1 : c_7 + 0 = c_20, hq2 : s_7 + 0 = s_20
              rw [← hr_21] at hOt_20 ⊢
              have hc_20 : c_20 + (0) ≤ 32 ∧ s_20 + (0) ≤ 192 := by omega
              clear hS_7 hfr_20 hOt_7
              refine lv_if_eq (tgt := 213) hx hb dL_act_206 (by decide) (fun h_22 => ?_) (fun h_22 => ?_)
              · replace hyp := ite_t h_22 hyp
                refine lv_lconst (v := 0) hx hb dL_act_213 (by decide) ?_
                refine lv_goto (tgt := 222) hx hb dL_act_214 (by decide) ?_
                have hyp := some_e hyp
                subst hyp
                subst hQ
                exact rhJ hx hb hr hlocks hOt_20 hS_20 ⟨by omega, by omega⟩ dL_act_222
              · replace hyp := ite_f h_22 hyp
                refine lv_lconst (v := 1) hx hb dL_act_209 (by decide) ?_
                refine lv_goto (tgt := 222) hx hb dL_act_210 (by decide) ?_
                have hyp := some_e hyp
                subst hyp
                subst hQ
                exact rhJ hx hb hr hlocks hOt_20 hS_20 ⟨by omega, by omega⟩ dL_act_222
          · replace hyp := ite_f h_16 hyp
            by_cases h_23 : (a1 - a1 / 24 * 24) = 2
            · replace hyp := ite_t h_23 hyp
              refine lv_tableIn (off := 102) (tgt := 223) hx hb dL_act_121 (by rw [h_23]; decide) (by rw [h_23]; decide) (by rw [h_23]; decide) (by decide) ?_
              refine lv_aload_n hx hb dL_act_223 rfl (lv_at hl 2 rfl) ?_
              refine lv_iload hx hb dL_act_224 (lv_at hl 0 rfl) ?_
              obtain ⟨r_25, hr_25, hyp⟩ := opt_e hyp
              refine sH (As := [.ref (aa 0), .int (a2 / 49)]) (rest := []) C hA hOt_7 hS_7 (mL_told l hl0 g zc zp aa st (a2 / 49) r_25 hr_25) cf_L_told st_L_told ml_L_265 ⟨Nat.le_trans (Nat.le_of_ble_eq_true rfl) hRf, Nat.le_trans (Nat.le_of_ble_eq_true rfl) hRl⟩ rfl hl.1 rfl (Nat.le_of_ble_eq_true rfl) dL_act_226 ⟨by omega, by omega⟩ (fun H_24 locs_24 hOt_24 hS_24 hfr_24 => ?_)
              generalize hq1 : c_7 + 28 = c_24, hq2 : s_7 + 168 = s_24
              have hc_24 : c_24 + (0) ≤ 32 ∧ s_24 + (0) ≤ 192 := by omega
              clear hS_7 hfr_24 hOt_7
              have hyp := some_e hyp
              subst hyp
              subst hQ
              exact rhJ hx hb hr hlocks hOt_24 hS_24 ⟨by omega, by omega⟩ dL_act_229
            · replace hyp := ite_f h_23 hyp
              by_cases h_26 : (a1 - a1 / 24 * 24) = 3
              · replace hyp := ite_t h_26 hyp
                refine lv_tableIn (off := 102) (tgt := 223) hx hb dL_act_121 (by rw [h_26]; decide) (by rw [h_26]; decide) (by rw [h_26]; decide) (by decide) ?_
                refine lv_aload_n hx hb dL_act_223 rfl (lv_at hl 2 rfl) ?_
                refine lv_iload hx hb dL_act_224 (lv_at hl 0 rfl) ?_
                obtain ⟨r_28, hr_28, hyp⟩ := opt_e hyp
                refine sH (As := [.ref (aa 0), .int (a2 / 49)]) (rest := []) C hA hOt_7 hS_7 (mL_told l hl0 g zc zp aa st (a2 / 49) r_28 hr_28) cf_L_told st_L_told ml_L_265 ⟨Nat.le_trans (Nat.le_of_ble_eq_true rfl) hRf, Nat.le_trans (Nat.le_of_ble_eq_true rfl) hRl⟩ rfl hl.1 rfl (Nat.le_of_ble_eq_true rfl) dL_act_226 ⟨by omega, by omega⟩ (fun H_27 locs_27 hOt_27 hS_27 hfr_27 => ?_)
                generalize hq1 : c_7 + 28 = c_27, hq2 : s_7 + 168 = s_27
                have hc_27 : c_27 + (0) ≤ 32 ∧ s_27 + (0) ≤ 192 := by omega
                clear hS_7 hfr_27 hOt_7
                have hyp := some_e hyp
                subst hyp
                subst hQ
                exact rhJ hx hb hr hlocks hOt_27 hS_27 ⟨by omega, by omega⟩ dL_act_229
              · replace hyp := ite_f h_26 hyp
                by_cases h_29 : (a1 - a1 / 24 * 24) = 4
                · replace hyp := ite_t h_29 hyp
                  refine lv_tableIn (off := 109) (tgt := 230) hx hb dL_act_121 (by rw [h_29]; decide) (by rw [h_29]; decide) (by rw [h_29]; decide) (by decide) ?_
                  refine lv_aload_n hx hb dL_act_230 rfl (lv_at hl 2 rfl) ?_
                  obtain ⟨r_31, hr_31, hyp⟩ := bnd_e hyp
                  refine hc_undo (rest := []) C hA hOt_7 hS_7 ml_L_238 (Nat.le_trans (Nat.le_of_ble_eq_true rfl) hRf) (Nat.le_trans (Nat.le_of_ble_eq_true rfl) hRl) hl.1 (Nat.le_of_ble_eq_true rfl) dL_act_231 ⟨by omega, by omega⟩ (fun H_30 locs_30 hOt_30 hS_30 hfr_30 => ?_)
                  generalize hq1 : c_7 + 1 = c_30, hq2 : s_7 + 6 = s_30
                  rw [← hr_31] at hOt_30 ⊢
                  have hc_30 : c_30 + (0) ≤ 32 ∧ s_30 + (0) ≤ 192 := by omega
                  clear hS_7 hfr_30 hOt_7
                  have hyp := some_e hyp
                  subst hyp
                  subst hQ
                  exact rhJ hx hb hr hlocks hOt_30 hS_30 ⟨by omega, by omega⟩ dL_act_234
                · replace hyp := ite_f h_29 hyp
                  by_cases h_32 : (a1 - a1 / 24 * 24) = 5
                  · replace hyp := ite_t h_32 hyp
                    refine lv_tableIn (off := 109) (tgt := 230) hx hb dL_act_121 (by rw [h_32]; decide) (by rw [h_32]; decide) (by rw [h_32]; decide) (by decide) ?_
                    refine lv_aload_n hx hb dL_act_230 rfl (lv_at hl 2 rfl) ?_
                    obtain ⟨r_34, hr_34, hyp⟩ := bnd_e hyp
                    refine hc_undo (rest := []) C hA hOt_7 hS_7 ml_L_238 (Nat.le_trans (Nat.le_of_ble_eq_true rfl) hRf) (Nat.le_trans (Nat.le_of_ble_eq_true rfl) hRl) hl.1 (Nat.le_of_ble_eq_true rfl) dL_act_231 ⟨by omega, by omega⟩ (fun H_33 locs_33 hOt_33 hS_33 hfr_33 => ?_)
                    generalize hq1 : c_7 + 1 = c_33, hq2 : s_7 + 6 = s_33
                    rw [← hr_34] at hOt_33 ⊢
                    have hc_33 : c_33 + (0) ≤ 32 ∧ s_33 + (0) ≤ 192 := by omega
                    clear hS_7 hfr_33 hOt_7
                    have hyp := some_e hyp
                    subst hyp
                    subst hQ
                    exact rhJ hx hb hr hlocks hOt_33 hS_33 ⟨by omega, by omega⟩ dL_act_234
                  · replace hyp := ite_f h_32 hyp
                    by_cases h_35 : (a1 - a1 / 24 * 24) = 6
                    · replace hyp := ite_t h_35 hyp
                      refine lv_tableIn (off := 114) (tgt := 235) hx hb dL_act_121 (by rw [h_35]; decide) (by rw [h_35]; decide) (by rw [h_35]; decide) (by decide) ?_
                      refine lv_iload hx hb dL_act_235 (lv_at hl 0 rfl) ?_
                      refine lv_iconst (v := 2) hx hb dL_act_237 (by decide) ?_
                      refine lv_irem hx hb dL_act_238 (by decide) ?_
                      refine lv_if_ne (tgt := 255) hx hb dL_act_239 (by decide) (fun h_36 => ?_) (fun h_36 => ?_)
                      · replace hyp := ite_f h_36 hyp
                        refine lv_aload_n hx hb dL_act_255 rfl (lv_at hl 2 rfl) ?_
                        refine lv_iload hx hb dL_act_256 (lv_at hl 0 rfl) ?_
                        refine lv_iconst (v := 2) hx hb dL_act_258 (by decide) ?_
                        refine lv_idiv hx hb dL_act_259 (by decide) ?_
                        refine lv_iconst (v := 1) hx hb dL_act_260 (by decide) ?_
                        refine lv_iand hx hb dL_act_261 ?_
                        obtain ⟨r_38, hr_38, hyp⟩ := bnd_e hyp
                        refine hc_goBack (rest := []) C hA hOt_7 hS_7 (((a2 / 49) / 2) &&& 1) ml_L_142 (Nat.le_trans (Nat.le_of_ble_eq_true rfl) hRf) (Nat.le_trans (Nat.le_of_ble_eq_true rfl) hRl) hl.1 (Nat.le_of_ble_eq_true rfl) dL_act_262 ⟨by omega, by omega⟩ (fun H_37 locs_37 hOt_37 hS_37 hfr_37 => ?_)
                        generalize hq1 : c_7 + 2 = c_37, hq2 : s_7 + 12 = s_37
                        rw [← hr_38] at hOt_37 ⊢
                        have hc_37 : c_37 + (0) ≤ 32 ∧ s_37 + (0) ≤ 192 := by omega
                        clear hS_7 hfr_37 hOt_7
                        have hyp := some_e hyp
                        subst hyp
                        subst hQ
                        exact rhJ hx hb hr hlocks hOt_37 hS_37 ⟨by omega, by omega⟩ dL_act_265
                      · replace hyp := ite_t h_36 hyp
                        refine lv_aload_n hx hb dL_act_242 rfl (lv_at hl 2 rfl) ?_
                        refine lv_iload hx hb dL_act_243 (lv_at hl 0 rfl) ?_
                        refine lv_iconst (v := 2) hx hb dL_act_245 (by decide) ?_
                        refine lv_idiv hx hb dL_act_246 (by decide) ?_
                        refine lv_iconst (v := 1) hx hb dL_act_247 (by decide) ?_
                        refine lv_iand hx hb dL_act_248 ?_
                        obtain ⟨r_40, hr_40, hyp⟩ := bnd_e hyp
                        refine hc_keep (rest := []) C hA hOt_7 hS_7 (((a2 / 49) / 2) &&& 1) ml_L_140 (Nat.le_trans (Nat.le_of_ble_eq_true rfl) hRf) (Nat.le_trans (Nat.le_of_ble_eq_true rfl) hRl) hl.1 (Nat.le_of_ble_eq_true rfl) dL_act_249 ⟨by omega, by omega⟩ (fun H_39 locs_39 hOt_39 hS_39 hfr_39 => ?_)
                        generalize hq1 : c_7 + 1 = c_39, hq2 : s_7 + 6 = s_39
                        rw [← hr_40] at hOt_39 ⊢
                        have hc_39 : c_39 + (0) ≤ 32 ∧ s_39 + (0) ≤ 192 := by omega
                        clear hS_7 hfr_39 hOt_7
                        refine lv_goto (tgt := 265) hx hb dL_act_252 (by decide) ?_
                        have hyp := some_e hyp
                        subst hyp
                        subst hQ
                        exact rhJ hx hb hr hlocks hOt_39 hS_39 ⟨by omega, by omega⟩ dL_act_265
                    · replace hyp := ite_f h_35 hyp
                      by_cases h_41 : (a1 - a1 / 24 * 24) = 7
                      · replace hyp := ite_t h_41 hyp
                        refine lv_tableIn (off := 145) (tgt := 266) hx hb dL_act_121 (by rw [h_41]; decide) (by rw [h_41]; decide) (by rw [h_41]; decide) (by decide) ?_
                        refine lv_iload hx hb dL_act_266 (lv_at hl 7 rfl) ?_
                        refine lv_if_ne (tgt := 279) hx hb dL_act_268 (by decide) (fun h_42 => ?_) (fun h_42 => ?_)
                        · replace hyp := ite_f h_42 hyp
                          refine lv_aload_n hx hb dL_act_279 rfl (lv_at hl 2 rfl) ?_
                          refine lv_iload hx hb dL_act_280 (lv_at hl 6 rfl) ?_
                          refine hc_bestMove (rest := []) C hA hOt_7 hS_7 t_2 ml_L_175 (Nat.le_trans (Nat.le_of_ble_eq_true rfl) hRf) (Nat.le_trans (Nat.le_of_ble_eq_true rfl) hRl) hl.1 (Nat.le_of_ble_eq_true rfl) dL_act_282 ⟨by omega, by omega⟩ (fun H_43 locs_43 hOt_43 hS_43 hfr_43 => ?_)
                          generalize hq1 : c_7 + 2 = c_43, hq2 : s_7 + 12 = s_43
                          have hc_43 : c_43 + (0) ≤ 32 ∧ s_43 + (0) ≤ 192 := by omega
                          clear hS_7 hfr_43 hOt_7
                          have hyp := some_e hyp
                          subst hyp
                          subst hQ
                          exact rhJ hx hb hr hlocks hOt_43 hS_43 ⟨by omega, by omega⟩ dL_act_285
                        · replace hyp := ite_t h_42 hyp
                          refine lv_aload_n hx hb dL_act_271 rfl (lv_at hl 2 rfl) ?_
                          obtain ⟨r_45, hr_45, hyp⟩ := bnd_e hyp
                          refine hc_setUp (rest := []) C hA hOt_7 hS_7 ml_L_250 (Nat.le_trans (Nat.le_of_ble_eq_true rfl) hRf) (Nat.le_trans (Nat.le_of_ble_eq_true rfl) hRl) hl.1 (Nat.le_of_ble_eq_true rfl) dL_act_272 ⟨by omega, by omega⟩ (fun H_44 locs_44 hOt_44 hS_44 hfr_44 => ?_)
                          generalize hq1 : c_7 + 1 = c_44, hq2 : s_7 + 6 = s_44
                          rw [← hr_45] at hOt_44 ⊢
                          have hc_44 : c_44 + (0) ≤ 32 ∧ s_44 + (0) ≤ 192 := by omega
                          clear hS_7 hfr_44 hOt_7
                          refine lv_i2l hx hb dL_act_275 rfl ?_
                          refine lv_goto (tgt := 285) hx hb dL_act_276 (by decide) ?_
                          have hyp := some_e hyp
                          subst hyp
                          subst hQ
                          exact rhJ hx hb hr hlocks hOt_44 hS_44 ⟨by omega, by omega⟩ dL_act_285
                      · replace hyp := ite_f h_41 hyp
                        refine lv_tableOut (tgt := 286) hx hb dL_act_121 (by have a0 := tsw_ne (n := 0) h_10 (by decide); have a1 := tsw_ne (n := 1) h_16 (by decide); have a2 := tsw_ne (n := 2) h_23 (by decide); have a3 := tsw_ne (n := 3) h_26 (by decide); have a4 := tsw_ne (n := 4) h_29 (by decide); have a5 := tsw_ne (n := 5) h_32 (by decide); have a6 := tsw_ne (n := 6) h_35 (by decide); have a7 := tsw_ne (n := 7) h_41 (by decide); omega) (by decide) ?_
                        refine lv_iload hx hb dL_act_286 (lv_at hl 7 rfl) ?_
                        obtain ⟨J_47, eJ_47, hyp⟩ := jn_e hyp
                        have kJ_47 : ∀ (H_46 : Heap) (locs_46 : List Loc) (c_46 s_46 : Nat) (ls : Array Slot), J_47 = some r → lv_has ls 8 [(0, .ref (aa 0)), (7, .int (a2 / 49))] → OB g aa F st s H_46 → va_S A s.heap H_46 locs_46 → (c_46 + (1) ≤ 32 ∧ s_46 + (6) ≤ 192) → W p l e R s m args below meth c H_46 locs_46 c_46 s_46 Q (F0 m 296 ls []) := by
                          intro H_46 locs_46 c_46 s_46 ls hyp hl hOt_46 hS_46 hc_46
                          replace hyp := (eJ_47).symm.trans hyp
                          refine lv_iload hx hb dL_act_296 (lv_at hl 1 rfl) ?_
                          refine lv_iconst (v := 3) hx hb dL_act_298 (by decide) ?_
                          refine lv_irem hx hb dL_act_299 (by decide) ?_
                          refine lv_if_ne (tgt := 311) hx hb dL_act_300 (by decide) (fun h_48 => ?_) (fun h_48 => ?_)
                          · replace hyp := ite_f h_48 hyp
                            refine lv_aload_n hx hb dL_act_311 rfl (lv_at hl 0 rfl) ?_
                            obtain ⟨r_50, hr_50, hyp⟩ := bnd_e hyp
                            refine hc_clearBoard (rest := []) C hA hOt_46 hS_46 ml_L_247 (Nat.le_trans (Nat.le_of_ble_eq_true rfl) hRf) (Nat.le_trans (Nat.le_of_ble_eq_true rfl) hRl) hl.1 (Nat.le_of_ble_eq_true rfl) dL_act_312 ⟨by omega, by omega⟩ (fun H_49 locs_49 hOt_49 hS_49 hfr_49 => ?_)
                            generalize hq1 : c_46 + 0 = c_49, hq2 : s_46 + 0 = s_49
                            rw [← hr_50] at hOt_49 ⊢
                            have hc_49 : c_49 + (0) ≤ 32 ∧ s_49 + (0) ≤ 192 := by omega
                            clear hS_46 hfr_49 hOt_46
                            refine lv_i2l hx hb dL_act_315 rfl ?_
                            refine lv_goto (tgt := 333) hx hb dL_act_316 (by decide) ?_
                            have hyp := some_e hyp
                            subst hyp
                            subst hQ
                            exact rhJ hx hb hr hlocks hOt_49 hS_49 ⟨by omega, by omega⟩ dL_act_333
                          · replace hyp := ite_t h_48 hyp
                            refine lv_aload_n hx hb dL_act_303 rfl (lv_at hl 0 rfl) ?_
                            obtain ⟨r_52, hr_52, hyp⟩ := bnd_e hyp
                            refine hc_setUp (rest := []) C hA hOt_46 hS_46 ml_L_250 (Nat.le_trans (Nat.le_of_ble_eq_true rfl) hRf) (Nat.le_trans (Nat.le_of_ble_eq_true rfl) hRl) hl.1 (Nat.le_of_ble_eq_true rfl) dL_act_304 ⟨by omega, by omega⟩ (fun H_51 locs_51 hOt_51 hS_51 hfr_51 => ?_)
                            generalize hq1 : c_46 + 1 = c_51, hq2 : s_46 + 6 = s_51
                            rw [← hr_52] at hOt_51 ⊢
                            have hc_51 : c_51 + (0) ≤ 32 ∧ s_51 + (0) ≤ 192 := by omega
                            clear hS_46 hfr_51 hOt_46
                            refine lv_i2l hx hb dL_act_307 rfl ?_
                            refine lv_goto (tgt := 333) hx hb dL_act_308 (by decide) ?_
                            have hyp := some_e hyp
                            subst hyp
                            subst hQ
                            exact rhJ hx hb hr hlocks hOt_51 hS_51 ⟨by omega, by omega⟩ dL_act_333
                        refine lv_if_eq (tgt := 296) hx hb dL_act_288 (by decide) (fun h_53 => ?_) (fun h_53 => ?_)
                        · replace hyp := ite_t h_53 hyp
                          exact kJ_47 _ _ _ _ ls hyp (lv_sub hl [2, 0] rfl) hOt_7 hS_7 (by omega)
                        · replace hyp := ite_f h_53 hyp
                          refine lv_iload_n hx hb dL_act_291 rfl (lv_at hl 5 rfl) ?_
                          refine lv_iconst (v := 1) hx hb dL_act_292 (by decide) ?_
                          refine lv_icmp_le (tgt := 319) hx hb dL_act_293 (by decide) (fun h_54 => ?_) (fun h_54 => ?_)
                          · replace hyp := ite_t h_54 hyp
                            refine lv_aload_n hx hb dL_act_319 rfl (lv_at hl 2 rfl) ?_
                            refine lv_iload hx hb dL_act_320 (lv_at hl 1 rfl) ?_
                            refine lv_bipush (v := 49) hx hb dL_act_322 (by decide) ?_
                            refine lv_idiv hx hb dL_act_324 (by decide) ?_
                            refine lv_iload hx hb dL_act_325 (lv_at hl 1 rfl) ?_
                            refine lv_bipush (v := 49) hx hb dL_act_327 (by decide) ?_
                            refine lv_irem hx hb dL_act_329 (by decide) ?_
                            obtain ⟨r_56, hr_56, hyp⟩ := opt_e hyp
                            refine hc_move (rest := []) C hA hOt_7 hS_7 (t_6 / 49) (t_6 - t_6 / 49 * 49) hr_56 ml_L_135 (Nat.le_trans (Nat.le_of_ble_eq_true rfl) hRf) (Nat.le_trans (Nat.le_of_ble_eq_true rfl) hRl) hl.1 (Nat.le_of_ble_eq_true rfl) dL_act_330 ⟨by omega, by omega⟩ (fun H_55 locs_55 hOt_55 hS_55 hfr_55 => ?_)
                            generalize hq1 : c_7 + 2 = c_55, hq2 : s_7 + 12 = s_55
                            have hc_55 : c_55 + (0) ≤ 32 ∧ s_55 + (0) ≤ 192 := by omega
                            clear hS_7 hfr_55 hOt_7
                            have hyp := some_e hyp
                            subst hyp
                            subst hQ
                            exact rhJ hx hb hr hlocks hOt_55 hS_55 ⟨by omega, by omega⟩ dL_act_333
                          · replace hyp := ite_f h_54 hyp
                            exact kJ_47 _ _ _ _ ls hyp (lv_sub hl [2, 0] rfl) hOt_7 hS_7 (by omega)
      · replace hyp := ite_t h_9 hyp
        refine lv_iload_n hx hb dL_act_62 rfl (lv_at hl 3 rfl) ?_
        refine lv_bipush (v := 8) hx hb dL_act_63 (by decide) ?_
        refine lv_irem hx hb dL_act_65 (by decide) ?_
        refine lv_bipush (v := 6) hx hb dL_act_66 (by decide) ?_
        refine lv_icmp_ge (tgt := 108) hx hb dL_act_68 (by decide) (fun h_57 => ?_) (fun h_57 => ?_)
        · replace hyp := ite_t h_57 hyp
          refine lv_aload_n hx hb dL_act_108 rfl (lv_at hl 2 rfl) ?_
          refine lv_iload hx hb dL_act_109 (lv_at hl 0 rfl) ?_
          refine lv_iconst (v := 2) hx hb dL_act_111 (by decide) ?_
          refine lv_irem hx hb dL_act_112 (by decide) ?_
          obtain ⟨r_59, hr_59, hyp⟩ := bnd_e hyp
          refine hc_start (rest := []) C hA hOt_7 hS_7 ((a2 / 49) - (a2 / 49) / 2 * 2) ml_L_132 (Nat.le_trans (Nat.le_of_ble_eq_true rfl) hRf) (Nat.le_trans (Nat.le_of_ble_eq_true rfl) hRl) hl.1 (Nat.le_of_ble_eq_true rfl) dL_act_113 ⟨by omega, by omega⟩ (fun H_58 locs_58 hOt_58 hS_58 hfr_58 => ?_)
          generalize hq1 : c_7 + 2 = c_58, hq2 : s_7 + 12 = s_58
          rw [← hr_59] at hOt_58 ⊢
          have hc_58 : c_58 + (0) ≤ 32 ∧ s_58 + (0) ≤ 192 := by omega
          clear hS_7 hfr_58 hOt_7
          have hyp := some_e hyp
          subst hyp
          subst hQ
          exact rhJ hx hb hr hlocks hOt_58 hS_58 ⟨by omega, by omega⟩ dL_act_116
        · replace hyp := ite_f h_57 hyp
          refine lv_aload_n hx hb dL_act_71 rfl (lv_at hl 2 rfl) ?_
          refine lv_iload_n hx hb dL_act_72 rfl (lv_at hl 4 rfl) ?_
          refine lv_bipush (v := 49) hx hb dL_act_73 (by decide) ?_
          refine lv_irem hx hb dL_act_75 (by decide) ?_
          refine lv_bipush (v := 7) hx hb dL_act_76 (by decide) ?_
          refine lv_idiv hx hb dL_act_78 (by decide) ?_
          refine lv_iload_n hx hb dL_act_79 rfl (lv_at hl 4 rfl) ?_
          refine lv_bipush (v := 7) hx hb dL_act_80 (by decide) ?_
          refine lv_irem hx hb dL_act_82 (by decide) ?_
          refine lv_aload_n hx hb dL_act_83 rfl (lv_at hl 2 rfl) ?_
          refine hc_kingAt (rest := [.int (a2 - a2 / 7 * 7), .int ((a2 - a2 / 49 * 49) / 7), .ref (aa 0)]) C hA hOt_7 hS_7 ml_L_186 (Nat.le_trans (Nat.le_of_ble_eq_true rfl) hRf) (Nat.le_trans (Nat.le_of_ble_eq_true rfl) hRl) hl.1 (Nat.le_of_ble_eq_true rfl) dL_act_84 ⟨by omega, by omega⟩ (fun H_60 locs_60 hOt_60 hS_60 hfr_60 => ?_)
          generalize hq1 : c_7 + 1 = c_60, hq2 : s_7 + 6 = s_60
          have hc_60 : c_60 + (2) ≤ 32 ∧ s_60 + (12) ≤ 192 := by omega
          clear hS_7 hfr_60 hOt_7
          refine lv_ldc2 (v := (-9000000000000000003)) hx hb hown (hts _ ct_L_25) dL_act_87 ?_
          refine W.lcmp hx hb dL_act_90 ?_
          obtain ⟨J_63, eJ_63, hyp⟩ := jn_e hyp
          have kJ_63 : ∀ (t_61 : Int32) (H_62 : Heap) (locs_62 : List Loc) (c_62 s_62 : Nat) (ls : Array Slot), J_63 t_61 = some r → lv_has ls 8 [] → OB g aa F st s H_62 → va_S A s.heap H_62 locs_62 → (c_62 + (2) ≤ 32 ∧ s_62 + (12) ≤ 192) → W p l e R s m args below meth c H_62 locs_62 c_62 s_62 Q (F0 m 102 ls [.int t_61, .int (a2 - a2 / 7 * 7), .int ((a2 - a2 / 49 * 49) / 7), .ref (aa 0)]) := by
            intro t_61 H_62 locs_62 c_62 s_62 ls hyp hl hOt_62 hS_62 hc_62
            replace hyp := (congrFun (eJ_63) t_61).symm.trans hyp
            obtain ⟨r_65, hr_65, hyp⟩ := bnd_e hyp
            refine hc_put (rest := []) C hA hOt_62 hS_62 ((a2 - a2 / 49 * 49) / 7) (a2 - a2 / 7 * 7) t_61 ml_L_127 (Nat.le_trans (Nat.le_of_ble_eq_true rfl) hRf) (Nat.le_trans (Nat.le_of_ble_eq_true rfl) hRl) hl.1 (Nat.le_of_ble_eq_true rfl) dL_act_102 ⟨by omega, by omega⟩ (fun H_64 locs_64 hOt_64 hS_64 hfr_64 => ?_)
            generalize hq1 : c_62 + 2 = c_64, hq2 : s_62 + 12 = s_64
            rw [← hr_65] at hOt_64 ⊢
            have hc_64 : c_64 + (0) ≤ 32 ∧ s_64 + (0) ≤ 192 := by omega
            clear hS_62 hfr_64 hOt_62
            refine lv_goto (tgt := 116) hx hb dL_act_105 (by decide) ?_
            have hyp := some_e hyp
            subst hyp
            subst hQ
            exact rhJ hx hb hr hlocks hOt_64 hS_64 ⟨by omega, by omega⟩ dL_act_116
          refine lv_if_ne (tgt := 98) hx hb dL_act_91 (by decide) (fun h_66 => ?_) (fun h_66 => ?_)
          · replace hyp := ite_f h_66 hyp
            refine lv_iload hx hb dL_act_98 (lv_at hl 0 rfl) ?_
            refine lv_iconst (v := 3) hx hb dL_act_100 (by decide) ?_
            refine lv_irem hx hb dL_act_101 (by decide) ?_
            exact kJ_63 ((a2 / 49) - (a2 / 49) / 3 * 3) _ _ _ _ ls hyp (lv_sub hl [] rfl) hOt_60 hS_60 (by omega)
          · replace hyp := ite_t h_66 hyp
            refine lv_iconst (v := 3) hx hb dL_act_94 (by decide) ?_
            refine lv_goto (tgt := 102) hx hb dL_act_95 (by decide) ?_
            exact kJ_63 3 _ _ _ _ ls hyp (lv_sub hl [] rfl) hOt_60 hS_60 (by omega)
    refine lv_if_ne (tgt := 39) hx hb dL_act_32 (by decide) (fun h_67 => ?_) (fun h_67 => ?_)
    · replace hyp := ite_f h_67 hyp
      refine lv_aload_n hx hb dL_act_39 rfl (lv_at hl 2 rfl) ?_
      refine lv_iload hx hb dL_act_40 (lv_at hl 1 rfl) ?_
      refine lv_iload_n hx hb dL_act_42 rfl (lv_at hl 4 rfl) ?_
      refine lv_iload hx hb dL_act_43 (lv_at hl 0 rfl) ?_
      obtain ⟨hi, hyp⟩ := grd_e hyp
      refine lv_irem hx hb dL_act_45 (of_decide_eq_true hi) ?_
      refine hc_moveAt (rest := []) C hA hOt_5 hS_5 t_2 (a2 - a2 / ((v_byPieces (aF st.1) t_2).toInt32) * ((v_byPieces (aF st.1) t_2).toInt32)) ml_L_173 (Nat.le_trans (Nat.le_of_ble_eq_true rfl) hRf) (Nat.le_trans (Nat.le_of_ble_eq_true rfl) hRl) hl.1 (Nat.le_of_ble_eq_true rfl) dL_act_46 ⟨by omega, by omega⟩ (fun H_68 locs_68 hOt_68 hS_68 hfr_68 => ?_)
      generalize hq1 : c_5 + 2 = c_68, hq2 : s_5 + 12 = s_68
      have hc_68 : c_68 + (28) ≤ 32 ∧ s_68 + (168) ≤ 192 := by omega
      clear hS_5 hfr_68 hOt_5
      refine lv_l2i hx hb dL_act_49 rfl ?_
      exact kJ_8 ((v_moveAt (aF st.1) t_2 (a2 - a2 / ((v_byPieces (aF st.1) t_2).toInt32) * ((v_byPieces (aF st.1) t_2).toInt32))).toInt32) _ _ _ _ ls hyp (lv_sub hl [2, 3, 4, 5, 1, 0] rfl) hOt_68 hS_68 (by omega)
    · replace hyp := ite_t h_67 hyp
      refine lv_iconst (v := 0) hx hb dL_act_35 (by decide) ?_
      refine lv_goto (tgt := 50) hx hb dL_act_36 (by decide) ?_
      exact kJ_8 0 _ _ _ _ ls hyp (lv_sub hl [2, 3, 4, 5, 1, 0] rfl) hOt_5 hS_5 (by omega)
  refine lv_icmp_ne (tgt := 18) hx hb dL_act_7 (by decide) (fun h_69 => ?_) (fun h_69 => ?_)
  · replace hyp := ite_f h_69 hyp
    refine lv_iconst (v := 0) hx hb dL_act_18 (by decide) ?_
    exact kJ_4 0 _ _ _ _ ls hyp (lv_sub hl [1, 2, 3, 0] rfl) hOt_1 hS_1 (by omega)
  · replace hyp := ite_t h_69 hyp
    refine lv_aload_n hx hb dL_act_10 rfl (lv_at hl 1 rfl) ?_
    refine hc_turn (rest := []) C hA hOt_1 hS_1 ml_L_181 (Nat.le_trans (Nat.le_of_ble_eq_true rfl) hRf) (Nat.le_trans (Nat.le_of_ble_eq_true rfl) hRl) hl.1 (Nat.le_of_ble_eq_true rfl) dL_act_11 ⟨by omega, by omega⟩ (fun H_70 locs_70 hOt_70 hS_70 hfr_70 => ?_)
    generalize hq1 : c_1 + 1 = c_70, hq2 : s_1 + 6 = s_70
    have hc_70 : c_70 + (31) ≤ 32 ∧ s_70 + (186) ≤ 192 := by omega
    clear hS_1 hfr_70 hOt_1
    refine lv_l2i hx hb dL_act_14 rfl ?_
    refine lv_goto (tgt := 19) hx hb dL_act_15 (by decide) ?_
    exact kJ_4 ((v_turn (aS st.1) (aM st.1)).toInt32) _ _ _ _ ls hyp (lv_sub hl [1, 2, 3, 0] rfl) hOt_70 hS_70 (by omega)

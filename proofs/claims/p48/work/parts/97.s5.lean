noncomputable def fL_follows_L420_B (t_9 : Int32) (t_12 : Int32) (zt_18 : PS) (J_25 : Int32 → Option (Int32 × PS)) (v8_118 : Int32) (v9_120 : Int64) (self_124 : Int32 → Int32 → Option (Int32 × PS)) (v5_121 : Int32) (v11_122 : Int32) : Option (Int32 × PS) :=
  if t_12 ≤ v11_122 then (J_25 v5_121) else (if v5_121 = 0 then (J_25 v5_121) else (bnd (v_worthOf (aF zt_18.1) (aG zt_18.1) (((v_moveAt (aF zt_18.1) t_9 v11_122).toInt32) / 49) (((v_moveAt (aF zt_18.1) t_9 v11_122).toInt32) - ((v_moveAt (aF zt_18.1) t_9 v11_122).toInt32) / 49 * 49)) (fun (v13_130 : Int64) => jn (fun (t_131 : Int32) => self_124 t_131 (v11_122 + (1 + (t_12 / 5)))) (fun J_133 => jn (J_133 1) (fun J_135 => if (lg_cmp v13_130 v9_120) < 0 then (J_135) else (jn (J_133 0) (fun J_138 => if (lg_cmp v13_130 v9_120) = 0 then (if ((v_moveAt (aF zt_18.1) t_9 v11_122).toInt32) < v8_118 then (J_138) else (J_135)) else (J_138))))))))
noncomputable def fL_follows_L420 (t_9 : Int32) (t_12 : Int32) (zt_18 : PS) (J_25 : Int32 → Option (Int32 × PS)) (v8_118 : Int32) (v9_120 : Int64) (n : Nat) (v5_121 : Int32) (v11_122 : Int32) : Option (Int32 × PS) := lp (fun zf z => fL_follows_L420_B t_9 t_12 zt_18 J_25 v8_118 v9_120 (fun v5_121 v11_122 => zf (v5_121, v11_122)) z.1 z.2) n (v5_121, v11_122)
noncomputable def fL_follows_L70_B (st : PS) (a1 : Int32) (t_9 : Int32) (t_12 : Int32) (self_19 : Int32 → Int32 → PS → Option (Int32 × PS)) (v5_15 : Int32) (v8_16 : Int32) (zt_18 : PS) : Option (Int32 × PS) :=
  jn (jn (fun (v5_23 : Int32) => jn (fun (t_27 : Int32) (zt_29 : PS) => bnd ((v_piecesOf (aF zt_29.1) 0) + (v_piecesOf (aF zt_29.1) 1)) (fun (v9_33 : Int64) => jn (fun (t_34 : Int32) (zt_36 : PS) => if t_34 = 0 then (some (0, zt_36)) else (bnd (o_setUp zt_36) (fun (r_40 : Int32 × PS) => if r_40.1 = 13 then (if (aS r_40.2.1) = 1 then (if (aN r_40.2.1) = 0 then (if (lg_cmp (v_timesSeen (aH r_40.2.1)) 1) = 0 then (bnd (o_goBack r_40.2 1) (fun (r_49 : Int64 × PS) => if (lg_cmp r_49.1 0) = 0 then (if (aS r_49.2.1) = (aS st.1) then (if (aN r_49.2.1) = (aN st.1) then (bnd (o_undo r_49.2) (fun (r_56 : Int64 × PS) => if (lg_cmp r_56.1 0) = 0 then (bnd (o_undo r_56.2) (fun (r_59 : Int64 × PS) => if (lg_cmp r_59.1 0) = 0 then (if (aAm r_59.2.1) = (aAm st.1) then (some (1, r_59.2)) else (some (0, r_59.2))) else (some (0, r_59.2)))) else (some (0, r_56.2)))) else (some (0, r_49.2))) else (some (0, r_49.2))) else (some (0, r_49.2)))) else (some (0, r_40.2))) else (some (0, r_40.2))) else (some (0, r_40.2))) else (some (0, r_40.2))))) (fun J_37 => jn (fun (zt_64 : PS) => J_37 0 zt_64) (fun J_65 => if t_27 = 0 then (J_65 zt_29) else (bnd (o_clearBoard zt_29) (fun (r_68 : Int32 × PS) => if (lg_cmp r_68.1.toInt64 v9_33) = 0 then (if (aS r_68.2.1) = 0 then (if (lg_cmp (v_kingAt (aF r_68.2.1)) (-9000000000000000003)) = 0 then (if (lg_cmp (v_byPieces (aF r_68.2.1) (a1 - a1 / 2 * 2)) 0) = 0 then (bnd (o_put r_68.2 ((a1 - a1 / 5 * 5) + 1) (((a1 / 5) - (a1 / 5) / 2 * 2) + 1) 3) (fun (r_77 : Int64 × PS) => if (lg_cmp r_77.1 0) = 0 then (bnd (o_start r_77.2 1) (fun (r_80 : Int64 × PS) => if (lg_cmp r_80.1 0) ≤ 0 then (J_65 r_80.2) else (bnd (o_undo r_80.2) (fun (r_83 : Int64 × PS) => if (lg_cmp r_83.1 0) = 0 then (bnd (o_undo r_83.2) (fun (r_86 : Int64 × PS) => if (lg_cmp r_86.1 0) = 0 then (bnd (o_undo r_86.2) (fun (r_89 : Int64 × PS) => if (lg_cmp r_89.1 0) = 0 then (if (aS r_89.2.1) = (aS st.1) then (J_37 1 r_89.2) else (J_65 r_89.2)) else (J_65 r_89.2))) else (J_65 r_86.2))) else (J_65 r_83.2))))) else (J_65 r_77.2))) else (J_65 r_68.2)) else (J_65 r_68.2)) else (J_65 r_68.2)) else (J_65 r_68.2))))))) (fun J_30 => jn (fun (zt_94 : PS) => J_30 0 zt_94) (fun J_95 => if v5_23 = 0 then (J_95 zt_18) else (bnd (o_turnStrong zt_18) (fun (r_98 : Int32 × PS) => jn (fun (t_99 : Int32) => if r_98.1 = t_99 then (jn (fun (t_104 : Int32) => if (b01 (aG r_98.2.1)) = t_104 then (bnd (o_undo r_98.2) (fun (r_109 : Int64 × PS) => if (lg_cmp r_109.1 0) = 0 then (if (b01 (aG r_109.2.1)) = (b01 (aG zt_18.1)) then (J_30 1 r_109.2) else (J_95 r_109.2)) else (J_95 r_109.2))) else (J_95 r_98.2)) (fun J_106 => if (b01 (aG zt_18.1)) = 0 then (J_106 1) else (J_106 0))) else (J_95 r_98.2)) (fun J_101 => if (b01 (aG zt_18.1)) = 0 then (J_101 1) else (J_101 0))))))) (fun J_25 => if v5_15 = 0 then (J_25 v5_15) else (if t_12 ≤ 0 then (J_25 v5_15) else (bnd ((v_bestMove (aF zt_18.1) (aG zt_18.1) t_9).toInt32) (fun (v8_118 : Int32) => bnd (v_worthOf (aF zt_18.1) (aG zt_18.1) (v8_118 / 49) (v8_118 - v8_118 / 49 * 49)) (fun (v9_120 : Int64) => fL_follows_L420 t_9 t_12 zt_18 J_25 v8_118 v9_120 8 v5_15 0)))))) (fun J_22 => if t_12 ≤ v8_16 then (J_22) else (if v5_15 = 0 then (J_22) else (bnd (((v_moveAt (aF zt_18.1) t_9 v8_16).toInt32) / 49) (fun (v10_144 : Int32) => bnd (((v_moveAt (aF zt_18.1) t_9 v8_16).toInt32) - ((v_moveAt (aF zt_18.1) t_9 v8_16).toInt32) / 49 * 49) (fun (v11_145 : Int32) => bnd (v_wouldTake (aF zt_18.1) (aG zt_18.1) v10_144 v11_145) (fun (v12_147 : Int64) => bnd (v_wouldWin (aF zt_18.1) (aG zt_18.1) v10_144 v11_145) (fun (v14_149 : Int64) => bnd (v_worthOf (aF zt_18.1) (aG zt_18.1) v10_144 v11_145) (fun (v16_151 : Int64) => (o_move zt_18 v10_144 v11_145).bind (fun (r_155 : Int64 × PS) => jn (fun (t_156 : Int32) (zt_158 : PS) => self_19 t_156 (v8_16 + (1 + (t_12 / 6))) zt_158) (fun J_159 => jn (fun (zt_161 : PS) => J_159 0 zt_161) (fun J_162 => if (lg_cmp r_155.1 v12_147) = 0 then (if (lg_cmp (v_ofSide (aT1 r_155.2.1) (aT2 r_155.2.1) (1 - t_9)) ((v_ofSide (aT1 zt_18.1) (aT2 zt_18.1) (1 - t_9)) + v12_147)) = 0 then (if (aN r_155.2.1) = ((aN st.1) + 1) then (if (aAm r_155.2.1) = ((aAm st.1) + 1) then (if (lg_cmp (v_pieceAt (aF r_155.2.1) (v11_145 / 7) (v11_145 - v11_145 / 7 * 7)) 0) ≤ 0 then (J_162 r_155.2) else (if (lg_cmp (v_pieceAt (aF r_155.2.1) (v10_144 / 7) (v10_144 - v10_144 / 7 * 7)) 0) = 0 then (jn (fun (t_174 : Int32) => jn (fun (t_178 : Int32) => if t_174 = t_178 then (if (lg_cmp (v_ofSide (aW1 r_155.2.1) (aW2 r_155.2.1) t_9) ((v_ofSide (aW1 zt_18.1) (aW2 zt_18.1) t_9) + v14_149)) = 0 then (jn (bnd (o_undo r_155.2) (fun (r_187 : Int64 × PS) => if (lg_cmp r_187.1 0) = 0 then (if (aN r_187.2.1) = (aN st.1) then (if (aS r_187.2.1) = (aS st.1) then (J_159 1 r_187.2) else (J_162 r_187.2)) else (J_162 r_187.2)) else (J_162 r_187.2))) (fun J_185 => if (lg_cmp v14_149 1) = 0 then (if (lg_cmp v16_151 1000) = 0 then (J_185) else (J_162 r_155.2)) else (if (lg_cmp v16_151 ((20 * v12_147) - (100 * (v_winning (aF r_155.2.1) (aG r_155.2.1) (1 - t_9))))) = 0 then (J_185) else (J_162 r_155.2)))) else (J_162 r_155.2)) else (J_162 r_155.2)) (fun J_180 => if (aS r_155.2.1) = (2 + t_9) then (J_180 1) else (J_180 0))) (fun J_176 => if (lg_cmp v14_149 1) = 0 then (J_176 1) else (J_176 0))) else (J_162 r_155.2))) else (J_162 r_155.2)) else (J_162 r_155.2)) else (J_162 r_155.2)) else (J_162 r_155.2))))))))))))
noncomputable def fL_follows_L70 (st : PS) (a1 : Int32) (t_9 : Int32) (t_12 : Int32) (n : Nat) (v5_15 : Int32) (v8_16 : Int32) (zt_18 : PS) : Option (Int32 × PS) := lp (fun zf z => fL_follows_L70_B st a1 t_9 t_12 (fun v5_15 v8_16 zt_18 => zf (v5_15, v8_16, zt_18)) z.1 z.2.1 z.2.2) n (v5_15, v8_16, zt_18)
noncomputable def fL_follows (st : PS) (a1 : Int32) : Option (Int32 × PS) :=
  bnd (o_keep st 1) (fun (r_5 : Int64 × PS) => jn (fun (t_6 : Int32) => jn (fun (t_9 : Int32) => jn (fun (t_12 : Int32) => fL_follows_L70 st a1 t_9 t_12 8 t_6 0 r_5.2) (fun J_14 => if (aS st.1) = 1 then (J_14 ((v_byPieces (aF r_5.2.1) t_9).toInt32)) else (J_14 0))) (fun J_11 => if (aS st.1) = 1 then (J_11 ((v_turn (aS r_5.2.1) (aM r_5.2.1)).toInt32)) else (J_11 0))) (fun J_8 => if (lg_cmp r_5.1 0) = 0 then (J_8 1) else (J_8 0)))
set_option maxRecDepth 100000 in
set_option maxHeartbeats 8000000 in
theorem mL_follows (l : Launch) (hl0 : l.stackTraces = false) (g : GE) (zc zp : Nat) (aa : Nat → Nat) (st : PS) (a1 : Int32) (r : Int32 × PS) (hyp : fL_follows st a1 = some r) : MH l yL_follows cL_follows 22 (some .boolean) 10 218 201 1206 g zc zp aa [.ref (aa 0), .int a1] st r.2 (.int r.1) := by
  refine metH_intro hl0 rfl (by decide) rfl ?_
  intro p e R s m args below meth c Q A F hRf hRl hRc hRs hQ hr hlocks C hA hOt_0 ls hl
  obtain ⟨hx, hb, hml, hown, hts, hl0, hE, hSR, hNC, hOS, hOT, hAh⟩ := id C
  obtain ⟨c_0, hc0⟩ : ∃ q : Nat, q = 0 := ⟨_, rfl⟩
  obtain ⟨s_0, hs0⟩ : ∃ q : Nat, q = 0 := ⟨_, rfl⟩
  have hS_0 : va_S A s.heap s.heap [] := va_S.rf
  obtain ⟨H_0, hH0⟩ : ∃ q : Heap, q = s.heap := ⟨_, rfl⟩
  obtain ⟨locs_0, hL0⟩ : ∃ q : List Loc, q = [] := ⟨_, rfl⟩
  have hOt_0 : OB g aa F st s H_0 := by rw [hH0]; exact hOt_0
  have hS_0 : va_S A s.heap H_0 locs_0 := by rw [hH0, hL0]; exact hS_0
  suffices hk : W p l e R s m args below meth c H_0 locs_0 c_0 s_0 Q (F0 m 0 ls []) by rw [hH0, hL0, hc0, hs0] at hk; exact hk
  have hc_0 : c_0 + (201) ≤ 201 ∧ s_0 + (1206) ≤ 1206 := by omega
  have hl : lv_has ls 22 [(0, .ref (aa 0)), (1, .int a1)] := hl
  unfold fL_follows at hyp
  refine lv_aload_n hx hb dL_follows_0 rfl (lv_at hl 0 rfl) ?_
  refine hc_standing (rest := []) C hA hOt_0 hS_0 ml_L_124 (Nat.le_trans (Nat.le_of_ble_eq_true rfl) hRf) (Nat.le_trans (Nat.le_of_ble_eq_true rfl) hRl) hl.1 (Nat.le_of_ble_eq_true rfl) dL_follows_1 ⟨by omega, by omega⟩ (fun H_1 locs_1 hOt_1 hS_1 hfr_1 => ?_)
  generalize hq1 : c_0 + 0 = c_1, hq2 : s_0 + 0 = s_1
  have hc_1 : c_1 + (201) ≤ 201 ∧ s_1 + (1206) ≤ 1206 := by omega
  clear hS_0 hfr_1 hOt_0
  refine lv_istore_n (lv' := [(2, .int (aS st.1)), (0, .ref (aa 0)), (1, .int a1)]) hx hb dL_follows_4 rfl hl (by decide) rfl (fun ls hl => ?_)
  refine lv_aload_n hx hb dL_follows_5 rfl (lv_at hl 1 rfl) ?_
  refine hc_moves (rest := []) C hA hOt_1 hS_1 ml_L_211 (Nat.le_trans (Nat.le_of_ble_eq_true rfl) hRf) (Nat.le_trans (Nat.le_of_ble_eq_true rfl) hRl) hl.1 (Nat.le_of_ble_eq_true rfl) dL_follows_6 ⟨by omega, by omega⟩ (fun H_2 locs_2 hOt_2 hS_2 hfr_2 => ?_)
  generalize hq1 : c_1 + 0 = c_2, hq2 : s_1 + 0 = s_2
  have hc_2 : c_2 + (201) ≤ 201 ∧ s_2 + (1206) ≤ 1206 := by omega
  clear hS_1 hfr_2 hOt_1
  refine lv_istore_n (lv' := [(3, .int (aN st.1)), (2, .int (aS st.1)), (0, .ref (aa 0)), (1, .int a1)]) hx hb dL_follows_9 rfl hl (by decide) rfl (fun ls hl => ?_)
  refine lv_aload_n hx hb dL_follows_10 rfl (lv_at hl 2 rfl) ?_
  refine hc_allMoves (rest := []) C hA hOt_2 hS_2 ml_L_214 (Nat.le_trans (Nat.le_of_ble_eq_true rfl) hRf) (Nat.le_trans (Nat.le_of_ble_eq_true rfl) hRl) hl.1 (Nat.le_of_ble_eq_true rfl) dL_follows_11 ⟨by omega, by omega⟩ (fun H_3 locs_3 hOt_3 hS_3 hfr_3 => ?_)
  generalize hq1 : c_2 + 0 = c_3, hq2 : s_2 + 0 = s_3
  have hc_3 : c_3 + (201) ≤ 201 ∧ s_3 + (1206) ≤ 1206 := by omega
  clear hS_2 hfr_3 hOt_2
  refine lv_istore (lv' := [(4, .int (aAm st.1)), (3, .int (aN st.1)), (2, .int (aS st.1)), (0, .ref (aa 0)), (1, .int a1)]) hx hb dL_follows_14 hl (by decide) rfl (fun ls hl => ?_)
  refine lv_aload_n hx hb dL_follows_16 rfl (lv_at hl 3 rfl) ?_
  refine lv_iconst (v := 1) hx hb dL_follows_17 (by decide) ?_
  obtain ⟨r_5, hr_5, hyp⟩ := bnd_e hyp
  refine hc_keep (rest := []) C hA hOt_3 hS_3 (1 : Int32) ml_L_140 (Nat.le_trans (Nat.le_of_ble_eq_true rfl) hRf) (Nat.le_trans (Nat.le_of_ble_eq_true rfl) hRl) hl.1 (Nat.le_of_ble_eq_true rfl) dL_follows_18 ⟨by omega, by omega⟩ (fun H_4 locs_4 hOt_4 hS_4 hfr_4 => ?_)
  generalize hq1 : c_3 + 1 = c_4, hq2 : s_3 + 6 = s_4
  rw [← hr_5] at hOt_4 ⊢
  have hc_4 : c_4 + (200) ≤ 201 ∧ s_4 + (1200) ≤ 1206 := by omega
  clear hS_3 hfr_4 hOt_3
  refine lv_lconst (v := 0) hx hb dL_follows_21 (by decide) ?_
  refine W.lcmp hx hb dL_follows_22 ?_
  obtain ⟨J_8, eJ_8, hyp⟩ := jn_e hyp
  have kJ_8 : ∀ (t_6 : Int32) (H_7 : Heap) (locs_7 : List Loc) (c_7 s_7 : Nat) (ls : Array Slot), J_8 t_6 = some r → lv_has ls 22 [(0, .ref (aa 0)), (1, .int a1), (2, .int (aS st.1)), (3, .int (aN st.1)), (4, .int (aAm st.1))] → OB g aa F r_5.2 s H_7 → va_S A s.heap H_7 locs_7 → (c_7 + (200) ≤ 201 ∧ s_7 + (1200) ≤ 1206) → W p l e R s m args below meth c H_7 locs_7 c_7 s_7 Q (F0 m 31 ls [.int t_6]) := by
    intro t_6 H_7 locs_7 c_7 s_7 ls hyp hl hOt_7 hS_7 hc_7
    replace hyp := (congrFun (eJ_8) t_6).symm.trans hyp
    refine lv_istore (lv' := [(5, .int t_6), (0, .ref (aa 0)), (1, .int a1), (2, .int (aS st.1)), (3, .int (aN st.1)), (4, .int (aAm st.1))]) hx hb dL_follows_31 hl (by decide) rfl (fun ls hl => ?_)
    refine lv_iload_n hx hb dL_follows_33 rfl (lv_at hl 3 rfl) ?_
    refine lv_iconst (v := 1) hx hb dL_follows_34 (by decide) ?_
    obtain ⟨J_11, eJ_11, hyp⟩ := jn_e hyp
    have kJ_11 : ∀ (t_9 : Int32) (H_10 : Heap) (locs_10 : List Loc) (c_10 s_10 : Nat) (ls : Array Slot), J_11 t_9 = some r → lv_has ls 22 [(0, .ref (aa 0)), (1, .int a1), (2, .int (aS st.1)), (3, .int (aN st.1)), (4, .int (aAm st.1)), (5, .int t_6)] → OB g aa F r_5.2 s H_10 → va_S A s.heap H_10 locs_10 → (c_10 + (199) ≤ 201 ∧ s_10 + (1194) ≤ 1206) → W p l e R s m args below meth c H_10 locs_10 c_10 s_10 Q (F0 m 47 ls [.int t_9]) := by
      intro t_9 H_10 locs_10 c_10 s_10 ls hyp hl hOt_10 hS_10 hc_10
      replace hyp := (congrFun (eJ_11) t_9).symm.trans hyp
      refine lv_istore (lv' := [(6, .int t_9), (0, .ref (aa 0)), (1, .int a1), (2, .int (aS st.1)), (3, .int (aN st.1)), (4, .int (aAm st.1)), (5, .int t_6)]) hx hb dL_follows_47 hl (by decide) rfl (fun ls hl => ?_)
      refine lv_iload_n hx hb dL_follows_49 rfl (lv_at hl 3 rfl) ?_
      refine lv_iconst (v := 1) hx hb dL_follows_50 (by decide) ?_
      obtain ⟨J_14, eJ_14, hyp⟩ := jn_e hyp
      have kJ_14 : ∀ (t_12 : Int32) (H_13 : Heap) (locs_13 : List Loc) (c_13 s_13 : Nat) (ls : Array Slot), J_14 t_12 = some r → lv_has ls 22 [(0, .ref (aa 0)), (1, .int a1), (2, .int (aS st.1)), (3, .int (aN st.1)), (4, .int (aAm st.1)), (5, .int t_6), (6, .int t_9)] → OB g aa F r_5.2 s H_13 → va_S A s.heap H_13 locs_13 → (c_13 + (198) ≤ 201 ∧ s_13 + (1188) ≤ 1206) → W p l e R s m args below meth c H_13 locs_13 c_13 s_13 Q (F0 m 65 ls [.int t_12]) := by
        intro t_12 H_13 locs_13 c_13 s_13 ls hyp hl hOt_13 hS_13 hc_13
        replace hyp := (congrFun (eJ_14) t_12).symm.trans hyp
        refine lv_istore (lv' := [(7, .int t_12), (0, .ref (aa 0)), (1, .int a1), (2, .int (aS st.1)), (3, .int (aN st.1)), (4, .int (aAm st.1)), (5, .int t_6), (6, .int t_9)]) hx hb dL_follows_65 hl (by decide) rfl (fun ls hl => ?_)
        refine lv_iconst (v := 0) hx hb dL_follows_67 (by decide) ?_
        refine lv_istore (lv' := [(8, .int 0), (7, .int t_12), (0, .ref (aa 0)), (1, .int a1), (2, .int (aS st.1)), (3, .int (aN st.1)), (4, .int (aAm st.1)), (5, .int t_6), (6, .int t_9)]) hx hb dL_follows_68 hl (by decide) rfl (fun ls hl => ?_)
        refine lp_n (r := r) (fun (n9 : Nat) (z : Int32 × Int32 × PS) => ∀ (H_17 : Heap) (locs_17 : List Loc) (c_17 s_17 : Nat) (ls : Array Slot), lv_has ls 22 [(0, .ref (aa 0)), (1, .int a1), (2, .int (aS st.1)), (3, .int (aN st.1)), (4, .int (aAm st.1)), (5, .int z.1), (6, .int t_9), (7, .int t_12), (8, .int z.2.1)] → OB g aa F z.2.2 s H_17 → va_S A s.heap H_17 locs_17 → (c_17 + (54 + n9 * 18) ≤ 201 ∧ s_17 + (324 + n9 * 108) ≤ 1206) → W p l e R s m args below meth c H_17 locs_17 c_17 s_17 Q (F0 m 70 ls [])) ?_ 8 (t_6, 0, r_5.2) hyp _ _ _ _ ls (lv_sub hl [2, 3, 4, 5, 6, 7, 8, 1, 0] rfl) hOt_13 hS_13 (by omega)
        intro n9_20 self_19T ihself_19T z hyp H_17 locs_17 c_17 s_17 ls hl hOt_17 hS_17 hc_17
        obtain ⟨v5_15, v8_16, zt_18⟩ := z
        obtain ⟨self_19, eself_19⟩ : ∃ f9 : Int32 → Int32 → PS → Option (Int32 × PS), f9 = fun v5_15 v8_16 zt_18 => self_19T (v5_15, v8_16, zt_18) := ⟨_, rfl⟩
        have ihself_19 := fun (v5_15 : Int32) (v8_16 : Int32) (zt_18 : PS) (h9 : self_19 v5_15 v8_16 zt_18 = some r) => ihself_19T (v5_15, v8_16, zt_18) (by rw [eself_19] at h9; exact h9)
        replace hyp : fL_follows_L70_B st a1 t_9 t_12 self_19 v5_15 v8_16 zt_18 = some r := by rw [eself_19]; exact hyp
        have hl : lv_has ls 22 [(0, .ref (aa 0)), (1, .int a1), (2, .int (aS st.1)), (3, .int (aN st.1)), (4, .int (aAm st.1)), (5, .int v5_15), (6, .int t_9), (7, .int t_12), (8, .int v8_16)] := hl
        have hOt_17 : OB g aa F zt_18 s H_17 := hOt_17
        show W p l e R s m args below meth c H_17 locs_17 c_17 s_17 Q (F0 m 70 ls [])
        unfold fL_follows_L70_B at hyp
        have hc_17 : c_17 + (72 + n9_20 * 18) ≤ 201 ∧ s_17 + (432 + n9_20 * 108) ≤ 1206 := by
          have hq := hc_17
          omega
        refine lv_iload hx hb dL_follows_70 (lv_at hl 8 rfl) ?_
        refine lv_iload hx hb dL_follows_72 (lv_at hl 7 rfl) ?_
        obtain ⟨J_22, eJ_22, hyp⟩ := jn_e hyp
        have kJ_22 : ∀ (H_21 : Heap) (locs_21 : List Loc) (c_21 s_21 : Nat) (ls : Array Slot), J_22 = some r → lv_has ls 22 [(0, .ref (aa 0)), (1, .int a1), (2, .int (aS st.1)), (3, .int (aN st.1)), (4, .int (aAm st.1)), (5, .int v5_15), (6, .int t_9), (7, .int t_12)] → OB g aa F zt_18 s H_21 → va_S A s.heap H_21 locs_21 → (c_21 + (54) ≤ 201 ∧ s_21 + (324) ≤ 1206) → W p l e R s m args below meth c H_21 locs_21 c_21 s_21 Q (F0 m 382 ls []) := by
          intro H_21 locs_21 c_21 s_21 ls hyp hl hOt_21 hS_21 hc_21
          replace hyp := (eJ_22).symm.trans hyp
          refine lv_iload hx hb dL_follows_382 (lv_at hl 5 rfl) ?_
          obtain ⟨J_25, eJ_25, hyp⟩ := jn_e hyp
          have kJ_25 : ∀ (v5_23 : Int32) (H_24 : Heap) (locs_24 : List Loc) (c_24 s_24 : Nat) (ls : Array Slot), J_25 v5_23 = some r → lv_has ls 22 [(0, .ref (aa 0)), (1, .int a1), (2, .int (aS st.1)), (3, .int (aN st.1)), (4, .int (aAm st.1)), (5, .int v5_23)] → OB g aa F zt_18 s H_24 → va_S A s.heap H_24 locs_24 → (c_24 + (18) ≤ 201 ∧ s_24 + (108) ≤ 1206) → W p l e R s m args below meth c H_24 locs_24 c_24 s_24 Q (F0 m 503 ls []) := by
            intro v5_23 H_24 locs_24 c_24 s_24 ls hyp hl hOt_24 hS_24 hc_24
            replace hyp := (congrFun (eJ_25) v5_23).symm.trans hyp
            refine lv_aload_n hx hb dL_follows_503 rfl (lv_at hl 0 rfl) ?_
            refine hc_isStrong (rest := []) C hA hOt_24 hS_24 ml_L_240 (Nat.le_trans (Nat.le_of_ble_eq_true rfl) hRf) (Nat.le_trans (Nat.le_of_ble_eq_true rfl) hRl) hl.1 (Nat.le_of_ble_eq_true rfl) dL_follows_504 ⟨by omega, by omega⟩ (fun H_26 locs_26 hOt_26 hS_26 hfr_26 => ?_)
            generalize hq1 : c_24 + 0 = c_26, hq2 : s_24 + 0 = s_26
            have hc_26 : c_26 + (18) ≤ 201 ∧ s_26 + (108) ≤ 1206 := by omega
            clear hS_24 hfr_26 hOt_24
            refine lv_istore (lv' := [(8, .int (b01 (aG zt_18.1))), (0, .ref (aa 0)), (1, .int a1), (2, .int (aS st.1)), (3, .int (aN st.1)), (4, .int (aAm st.1)), (5, .int v5_23)]) hx hb dL_follows_507 hl (by decide) rfl (fun ls hl => ?_)
            refine lv_iload hx hb dL_follows_509 (lv_at hl 6 rfl) ?_
            obtain ⟨J_30, eJ_30, hyp⟩ := jn_e hyp
            have kJ_30 : ∀ (t_27 : Int32) (zt_29 : PS) (H_28 : Heap) (locs_28 : List Loc) (c_28 s_28 : Nat) (ls : Array Slot), J_30 t_27 zt_29 = some r → lv_has ls 22 [(0, .ref (aa 0)), (1, .int a1), (2, .int (aS st.1)), (3, .int (aN st.1)), (4, .int (aAm st.1))] → OB g aa F zt_29 s H_28 → va_S A s.heap H_28 locs_28 → (c_28 + (17) ≤ 201 ∧ s_28 + (102) ≤ 1206) → W p l e R s m args below meth c H_28 locs_28 c_28 s_28 Q (F0 m 571 ls [.int t_27]) := by
              intro t_27 zt_29 H_28 locs_28 c_28 s_28 ls hyp hl hOt_28 hS_28 hc_28
              replace hyp := (congrFun (congrFun (eJ_30) t_27) zt_29).symm.trans hyp
              refine lv_istore (lv' := [(5, .int t_27), (0, .ref (aa 0)), (1, .int a1), (2, .int (aS st.1)), (3, .int (aN st.1)), (4, .int (aAm st.1))]) hx hb dL_follows_571 hl (by decide) rfl (fun ls hl => ?_)
              refine lv_aload_n hx hb dL_follows_573 rfl (lv_at hl 1 rfl) ?_
              refine lv_iconst (v := 0) hx hb dL_follows_574 (by decide) ?_
              refine hc_piecesOf (rest := []) C hA hOt_28 hS_28 (0 : Int32) ml_L_146 (Nat.le_trans (Nat.le_of_ble_eq_true rfl) hRf) (Nat.le_trans (Nat.le_of_ble_eq_true rfl) hRl) hl.1 (Nat.le_of_ble_eq_true rfl) dL_follows_575 ⟨by omega, by omega⟩ (fun H_31 locs_31 hOt_31 hS_31 hfr_31 => ?_)
              generalize hq1 : c_28 + 1 = c_31, hq2 : s_28 + 6 = s_31
              have hc_31 : c_31 + (16) ≤ 201 ∧ s_31 + (96) ≤ 1206 := by omega
              clear hS_28 hfr_31 hOt_28
              refine lv_aload_n hx hb dL_follows_578 rfl (lv_at hl 1 rfl) ?_
              refine lv_iconst (v := 1) hx hb dL_follows_579 (by decide) ?_
              refine hc_piecesOf (rest := [.long (v_piecesOf (aF zt_29.1) 0)]) C hA hOt_31 hS_31 (1 : Int32) ml_L_146 (Nat.le_trans (Nat.le_of_ble_eq_true rfl) hRf) (Nat.le_trans (Nat.le_of_ble_eq_true rfl) hRl) hl.1 (Nat.le_of_ble_eq_true rfl) dL_follows_580 ⟨by omega, by omega⟩ (fun H_32 locs_32 hOt_32 hS_32 hfr_32 => ?_)
              generalize hq1 : c_31 + 1 = c_32, hq2 : s_31 + 6 = s_32
              have hc_32 : c_32 + (15) ≤ 201 ∧ s_32 + (90) ≤ 1206 := by omega
              clear hS_31 hfr_32 hOt_31
              refine lv_ladd hx hb dL_follows_583 ?_
              obtain ⟨v9_33, ev9_33, hyp⟩ := bnd_e hyp
              refine lv_eqj ev9_33 ?_
              refine lv_lstore (lv' := [(9, .long v9_33), (5, .int t_27), (0, .ref (aa 0)), (1, .int a1), (2, .int (aS st.1)), (3, .int (aN st.1)), (4, .int (aAm st.1))]) hx hb dL_follows_584 hl (by decide) rfl (fun ls hl => ?_)
              refine lv_iload hx hb dL_follows_586 (lv_at hl 1 rfl) ?_
              obtain ⟨J_37, eJ_37, hyp⟩ := jn_e hyp
              have kJ_37 : ∀ (t_34 : Int32) (zt_36 : PS) (H_35 : Heap) (locs_35 : List Loc) (c_35 s_35 : Nat) (ls : Array Slot), J_37 t_34 zt_36 = some r → lv_has ls 22 [(0, .ref (aa 0)), (2, .int (aS st.1)), (3, .int (aN st.1)), (4, .int (aAm st.1))] → OB g aa F zt_36 s H_35 → va_S A s.heap H_35 locs_35 → (c_35 + (6) ≤ 201 ∧ s_35 + (36) ≤ 1206) → W p l e R s m args below meth c H_35 locs_35 c_35 s_35 Q (F0 m 704 ls [.int t_34]) := by
                intro t_34 zt_36 H_35 locs_35 c_35 s_35 ls hyp hl hOt_35 hS_35 hc_35
                replace hyp := (congrFun (congrFun (eJ_37) t_34) zt_36).symm.trans hyp
                refine lv_istore (lv' := [(5, .int t_34), (0, .ref (aa 0)), (2, .int (aS st.1)), (3, .int (aN st.1)), (4, .int (aAm st.1))]) hx hb dL_follows_704 hl (by decide) rfl (fun ls hl => ?_)
                refine lv_iload hx hb dL_follows_706 (lv_at hl 0 rfl) ?_
                refine lv_if_eq (tgt := 801) hx hb dL_follows_708 (by decide) (fun h_38 => ?_) (fun h_38 => ?_)
                · replace hyp := ite_t h_38 hyp
                  refine lv_iconst (v := 0) hx hb dL_follows_801 (by decide) ?_
                  have hyp := some_e hyp
                  subst hyp
                  subst hQ
                  exact rhZ hx hb hr hlocks (Or.inl rfl) hOt_35 hS_35 ⟨by omega, by omega⟩ dL_follows_802
                · replace hyp := ite_f h_38 hyp
                  refine lv_aload_n hx hb dL_follows_711 rfl (lv_at hl 1 rfl) ?_
                  obtain ⟨r_40, hr_40, hyp⟩ := bnd_e hyp
                  refine hc_setUp (rest := []) C hA hOt_35 hS_35 ml_L_250 (Nat.le_trans (Nat.le_of_ble_eq_true rfl) hRf) (Nat.le_trans (Nat.le_of_ble_eq_true rfl) hRl) hl.1 (Nat.le_of_ble_eq_true rfl) dL_follows_712 ⟨by omega, by omega⟩ (fun H_39 locs_39 hOt_39 hS_39 hfr_39 => ?_)
                  generalize hq1 : c_35 + 1 = c_39, hq2 : s_35 + 6 = s_39
                  rw [← hr_40] at hOt_39 ⊢
                  have hc_39 : c_39 + (5) ≤ 201 ∧ s_39 + (30) ≤ 1206 := by omega
                  clear hS_35 hfr_39 hOt_35
                  refine lv_bipush (v := 13) hx hb dL_follows_715 (by decide) ?_
                  refine lv_icmp_ne (tgt := 801) hx hb dL_follows_717 (by decide) (fun h_41 => ?_) (fun h_41 => ?_)
                  · replace hyp := ite_f h_41 hyp
                    refine lv_iconst (v := 0) hx hb dL_follows_801 (by decide) ?_
                    have hyp := some_e hyp
                    subst hyp
                    subst hQ
                    exact rhZ hx hb hr hlocks (Or.inl rfl) hOt_39 hS_39 ⟨by omega, by omega⟩ dL_follows_802
                  · replace hyp := ite_t h_41 hyp
                    refine lv_aload_n hx hb dL_follows_720 rfl (lv_at hl 1 rfl) ?_
                    refine hc_standing (rest := []) C hA hOt_39 hS_39 ml_L_124 (Nat.le_trans (Nat.le_of_ble_eq_true rfl) hRf) (Nat.le_trans (Nat.le_of_ble_eq_true rfl) hRl) hl.1 (Nat.le_of_ble_eq_true rfl) dL_follows_721 ⟨by omega, by omega⟩ (fun H_42 locs_42 hOt_42 hS_42 hfr_42 => ?_)
                    generalize hq1 : c_39 + 0 = c_42, hq2 : s_39 + 0 = s_42
                    have hc_42 : c_42 + (5) ≤ 201 ∧ s_42 + (30) ≤ 1206 := by omega
                    clear hS_39 hfr_42 hOt_39
                    refine lv_iconst (v := 1) hx hb dL_follows_724 (by decide) ?_
                    refine lv_icmp_ne (tgt := 801) hx hb dL_follows_725 (by decide) (fun h_43 => ?_) (fun h_43 => ?_)
                    · replace hyp := ite_f h_43 hyp
                      refine lv_iconst (v := 0) hx hb dL_follows_801 (by decide) ?_
                      have hyp := some_e hyp
                      subst hyp
                      subst hQ
                      exact rhZ hx hb hr hlocks (Or.inl rfl) hOt_42 hS_42 ⟨by omega, by omega⟩ dL_follows_802
                    · replace hyp := ite_t h_43 hyp
                      refine lv_aload_n hx hb dL_follows_728 rfl (lv_at hl 1 rfl) ?_
                      refine hc_moves (rest := []) C hA hOt_42 hS_42 ml_L_211 (Nat.le_trans (Nat.le_of_ble_eq_true rfl) hRf) (Nat.le_trans (Nat.le_of_ble_eq_true rfl) hRl) hl.1 (Nat.le_of_ble_eq_true rfl) dL_follows_729 ⟨by omega, by omega⟩ (fun H_44 locs_44 hOt_44 hS_44 hfr_44 => ?_)
                      generalize hq1 : c_42 + 0 = c_44, hq2 : s_42 + 0 = s_44
                      have hc_44 : c_44 + (5) ≤ 201 ∧ s_44 + (30) ≤ 1206 := by omega
                      clear hS_42 hfr_44 hOt_42
                      refine lv_if_ne (tgt := 801) hx hb dL_follows_732 (by decide) (fun h_45 => ?_) (fun h_45 => ?_)
                      · replace hyp := ite_f h_45 hyp
                        refine lv_iconst (v := 0) hx hb dL_follows_801 (by decide) ?_
                        have hyp := some_e hyp
                        subst hyp
                        subst hQ
                        exact rhZ hx hb hr hlocks (Or.inl rfl) hOt_44 hS_44 ⟨by omega, by omega⟩ dL_follows_802
                      · replace hyp := ite_t h_45 hyp
                        refine lv_aload_n hx hb dL_follows_735 rfl (lv_at hl 1 rfl) ?_
                        refine hc_timesSeen (rest := []) C hA hOt_44 hS_44 ml_L_184 (Nat.le_trans (Nat.le_of_ble_eq_true rfl) hRf) (Nat.le_trans (Nat.le_of_ble_eq_true rfl) hRl) hl.1 (Nat.le_of_ble_eq_true rfl) dL_follows_736 ⟨by omega, by omega⟩ (fun H_46 locs_46 hOt_46 hS_46 hfr_46 => ?_)
                        generalize hq1 : c_44 + 1 = c_46, hq2 : s_44 + 6 = s_46
                        have hc_46 : c_46 + (4) ≤ 201 ∧ s_46 + (24) ≤ 1206 := by omega
                        clear hS_44 hfr_46 hOt_44
                        refine lv_lconst (v := 1) hx hb dL_follows_739 (by decide) ?_
                        refine W.lcmp hx hb dL_follows_740 ?_
                        refine lv_if_ne (tgt := 801) hx hb dL_follows_741 (by decide) (fun h_47 => ?_) (fun h_47 => ?_)
                        · replace hyp := ite_f h_47 hyp
                          refine lv_iconst (v := 0) hx hb dL_follows_801 (by decide) ?_
                          have hyp := some_e hyp
                          subst hyp
                          subst hQ
                          exact rhZ hx hb hr hlocks (Or.inl rfl) hOt_46 hS_46 ⟨by omega, by omega⟩ dL_follows_802
                        · replace hyp := ite_t h_47 hyp
                          refine lv_aload_n hx hb dL_follows_744 rfl (lv_at hl 1 rfl) ?_
                          refine lv_iconst (v := 1) hx hb dL_follows_745 (by decide) ?_
                          obtain ⟨r_49, hr_49, hyp⟩ := bnd_e hyp
                          refine hc_goBack (rest := []) C hA hOt_46 hS_46 (1 : Int32) ml_L_142 (Nat.le_trans (Nat.le_of_ble_eq_true rfl) hRf) (Nat.le_trans (Nat.le_of_ble_eq_true rfl) hRl) hl.1 (Nat.le_of_ble_eq_true rfl) dL_follows_746 ⟨by omega, by omega⟩ (fun H_48 locs_48 hOt_48 hS_48 hfr_48 => ?_)
                          generalize hq1 : c_46 + 2 = c_48, hq2 : s_46 + 12 = s_48
                          rw [← hr_49] at hOt_48 ⊢
                          have hc_48 : c_48 + (2) ≤ 201 ∧ s_48 + (12) ≤ 1206 := by omega
                          clear hS_46 hfr_48 hOt_46
                          refine lv_lconst (v := 0) hx hb dL_follows_749 (by decide) ?_
                          refine W.lcmp hx hb dL_follows_750 ?_
                          refine lv_if_ne (tgt := 801) hx hb dL_follows_751 (by decide) (fun h_50 => ?_) (fun h_50 => ?_)
                          · replace hyp := ite_f h_50 hyp
                            refine lv_iconst (v := 0) hx hb dL_follows_801 (by decide) ?_
                            have hyp := some_e hyp
                            subst hyp
                            subst hQ
                            exact rhZ hx hb hr hlocks (Or.inl rfl) hOt_48 hS_48 ⟨by omega, by omega⟩ dL_follows_802
                          · replace hyp := ite_t h_50 hyp
                            refine lv_aload_n hx hb dL_follows_754 rfl (lv_at hl 1 rfl) ?_
                            refine hc_standing (rest := []) C hA hOt_48 hS_48 ml_L_124 (Nat.le_trans (Nat.le_of_ble_eq_true rfl) hRf) (Nat.le_trans (Nat.le_of_ble_eq_true rfl) hRl) hl.1 (Nat.le_of_ble_eq_true rfl) dL_follows_755 ⟨by omega, by omega⟩ (fun H_51 locs_51 hOt_51 hS_51 hfr_51 => ?_)
                            generalize hq1 : c_48 + 0 = c_51, hq2 : s_48 + 0 = s_51
                            have hc_51 : c_51 + (2) ≤ 201 ∧ s_51 + (12) ≤ 1206 := by omega
                            clear hS_48 hfr_51 hOt_48
                            refine lv_iload_n hx hb dL_follows_758 rfl (lv_at hl 2 rfl) ?_
                            refine lv_icmp_ne (tgt := 801) hx hb dL_follows_759 (by decide) (fun h_52 => ?_) (fun h_52 => ?_)
                            · replace hyp := ite_f h_52 hyp
                              refine lv_iconst (v := 0) hx hb dL_follows_801 (by decide) ?_
                              have hyp := some_e hyp
                              subst hyp
                              subst hQ
                              exact rhZ hx hb hr hlocks (Or.inl rfl) hOt_51 hS_51 ⟨by omega, by omega⟩ dL_follows_802
                            · replace hyp := ite_t h_52 hyp
                              refine lv_aload_n hx hb dL_follows_762 rfl (lv_at hl 1 rfl) ?_
                              refine hc_moves (rest := []) C hA hOt_51 hS_51 ml_L_211 (Nat.le_trans (Nat.le_of_ble_eq_true rfl) hRf) (Nat.le_trans (Nat.le_of_ble_eq_true rfl) hRl) hl.1 (Nat.le_of_ble_eq_true rfl) dL_follows_763 ⟨by omega, by omega⟩ (fun H_53 locs_53 hOt_53 hS_53 hfr_53 => ?_)
                              generalize hq1 : c_51 + 0 = c_53, hq2 : s_51 + 0 = s_53
                              have hc_53 : c_53 + (2) ≤ 201 ∧ s_53 + (12) ≤ 1206 := by omega
                              clear hS_51 hfr_53 hOt_51
                              refine lv_iload_n hx hb dL_follows_766 rfl (lv_at hl 3 rfl) ?_
                              refine lv_icmp_ne (tgt := 801) hx hb dL_follows_767 (by decide) (fun h_54 => ?_) (fun h_54 => ?_)
                              · replace hyp := ite_f h_54 hyp
                                refine lv_iconst (v := 0) hx hb dL_follows_801 (by decide) ?_
                                have hyp := some_e hyp
                                subst hyp
                                subst hQ
                                exact rhZ hx hb hr hlocks (Or.inl rfl) hOt_53 hS_53 ⟨by omega, by omega⟩ dL_follows_802
                              · replace hyp := ite_t h_54 hyp
                                refine lv_aload_n hx hb dL_follows_770 rfl (lv_at hl 1 rfl) ?_
                                obtain ⟨r_56, hr_56, hyp⟩ := bnd_e hyp
                                refine hc_undo (rest := []) C hA hOt_53 hS_53 ml_L_238 (Nat.le_trans (Nat.le_of_ble_eq_true rfl) hRf) (Nat.le_trans (Nat.le_of_ble_eq_true rfl) hRl) hl.1 (Nat.le_of_ble_eq_true rfl) dL_follows_771 ⟨by omega, by omega⟩ (fun H_55 locs_55 hOt_55 hS_55 hfr_55 => ?_)
                                generalize hq1 : c_53 + 1 = c_55, hq2 : s_53 + 6 = s_55
                                rw [← hr_56] at hOt_55 ⊢
                                have hc_55 : c_55 + (1) ≤ 201 ∧ s_55 + (6) ≤ 1206 := by omega
                                clear hS_53 hfr_55 hOt_53
                                refine lv_lconst (v := 0) hx hb dL_follows_774 (by decide) ?_
                                refine W.lcmp hx hb dL_follows_775 ?_
                                refine lv_if_ne (tgt := 801) hx hb dL_follows_776 (by decide) (fun h_57 => ?_) (fun h_57 => ?_)
                                · replace hyp := ite_f h_57 hyp
                                  refine lv_iconst (v := 0) hx hb dL_follows_801 (by decide) ?_
                                  have hyp := some_e hyp
                                  subst hyp
                                  subst hQ
                                  exact rhZ hx hb hr hlocks (Or.inl rfl) hOt_55 hS_55 ⟨by omega, by omega⟩ dL_follows_802
                                · replace hyp := ite_t h_57 hyp
                                  refine lv_aload_n hx hb dL_follows_779 rfl (lv_at hl 1 rfl) ?_
                                  obtain ⟨r_59, hr_59, hyp⟩ := bnd_e hyp
                                  refine hc_undo (rest := []) C hA hOt_55 hS_55 ml_L_238 (Nat.le_trans (Nat.le_of_ble_eq_true rfl) hRf) (Nat.le_trans (Nat.le_of_ble_eq_true rfl) hRl) hl.1 (Nat.le_of_ble_eq_true rfl) dL_follows_780 ⟨by omega, by omega⟩ (fun H_58 locs_58 hOt_58 hS_58 hfr_58 => ?_)
                                  generalize hq1 : c_55 + 1 = c_58, hq2 : s_55 + 6 = s_58
                                  rw [← hr_59] at hOt_58 ⊢
                                  have hc_58 : c_58 + (0) ≤ 201 ∧ s_58 + (0) ≤ 1206 := by omega
                                  clear hS_55 hfr_58 hOt_55
                                  refine lv_lconst (v := 0) hx hb dL_follows_783 (by decide) ?_
                                  refine W.lcmp hx hb dL_follows_784 ?_
                                  refine lv_if_ne (tgt := 801) hx hb dL_follows_785 (by decide) (fun h_60 => ?_) (fun h_60 => ?_)
                                  · replace hyp := ite_f h_60 hyp
                                    refine lv_iconst (v := 0) hx hb dL_follows_801 (by decide) ?_
                                    have hyp := some_e hyp
                                    subst hyp
                                    subst hQ
                                    exact rhZ hx hb hr hlocks (Or.inl rfl) hOt_58 hS_58 ⟨by omega, by omega⟩ dL_follows_802
                                  · replace hyp := ite_t h_60 hyp
                                    refine lv_aload_n hx hb dL_follows_788 rfl (lv_at hl 1 rfl) ?_
                                    refine hc_allMoves (rest := []) C hA hOt_58 hS_58 ml_L_214 (Nat.le_trans (Nat.le_of_ble_eq_true rfl) hRf) (Nat.le_trans (Nat.le_of_ble_eq_true rfl) hRl) hl.1 (Nat.le_of_ble_eq_true rfl) dL_follows_789 ⟨by omega, by omega⟩ (fun H_61 locs_61 hOt_61 hS_61 hfr_61 => ?_)
                                    generalize hq1 : c_58 + 0 = c_61, hq2 : s_58 + 0 = s_61
                                    have hc_61 : c_61 + (0) ≤ 201 ∧ s_61 + (0) ≤ 1206 := by omega
                                    clear hS_58 hfr_61 hOt_58
                                    refine lv_iload hx hb dL_follows_792 (lv_at hl 4 rfl) ?_
                                    refine lv_icmp_ne (tgt := 801) hx hb dL_follows_794 (by decide) (fun h_62 => ?_) (fun h_62 => ?_)
                                    · replace hyp := ite_f h_62 hyp
                                      refine lv_iconst (v := 0) hx hb dL_follows_801 (by decide) ?_
                                      have hyp := some_e hyp
                                      subst hyp
                                      subst hQ
                                      exact rhZ hx hb hr hlocks (Or.inl rfl) hOt_61 hS_61 ⟨by omega, by omega⟩ dL_follows_802
                                    · replace hyp := ite_t h_62 hyp
                                      refine lv_iconst (v := 1) hx hb dL_follows_797 (by decide) ?_
                                      refine lv_goto (tgt := 802) hx hb dL_follows_798 (by decide) ?_
                                      have hyp := some_e hyp
                                      subst hyp
                                      subst hQ
                                      exact rhZ hx hb hr hlocks (Or.inr rfl) hOt_61 hS_61 ⟨by omega, by omega⟩ dL_follows_802
              obtain ⟨J_65, eJ_65, hyp⟩ := jn_e hyp
              have kJ_65 : ∀ (zt_64 : PS) (H_63 : Heap) (locs_63 : List Loc) (c_63 s_63 : Nat) (ls : Array Slot), J_65 zt_64 = some r → lv_has ls 22 [(0, .ref (aa 0)), (2, .int (aS st.1)), (3, .int (aN st.1)), (4, .int (aAm st.1))] → OB g aa F zt_64 s H_63 → va_S A s.heap H_63 locs_63 → (c_63 + (6) ≤ 201 ∧ s_63 + (36) ≤ 1206) → W p l e R s m args below meth c H_63 locs_63 c_63 s_63 Q (F0 m 703 ls []) := by
                intro zt_64 H_63 locs_63 c_63 s_63 ls hyp hl hOt_63 hS_63 hc_63
                replace hyp := (congrFun (eJ_65) zt_64).symm.trans hyp
                refine lv_iconst (v := 0) hx hb dL_follows_703 (by decide) ?_
                exact kJ_37 0 zt_64 _ _ _ _ ls hyp hl hOt_63 hS_63 (by omega)
              refine lv_if_eq (tgt := 703) hx hb dL_follows_588 (by decide) (fun h_66 => ?_) (fun h_66 => ?_)
              · replace hyp := ite_t h_66 hyp
                exact kJ_65 zt_29 _ _ _ _ ls hyp (lv_sub hl [2, 4, 5, 6] rfl) hOt_32 hS_32 (by omega)
              · replace hyp := ite_f h_66 hyp
                refine lv_aload_n hx hb dL_follows_591 rfl (lv_at hl 2 rfl) ?_
                obtain ⟨r_68, hr_68, hyp⟩ := bnd_e hyp
                refine hc_clearBoard (rest := []) C hA hOt_32 hS_32 ml_L_247 (Nat.le_trans (Nat.le_of_ble_eq_true rfl) hRf) (Nat.le_trans (Nat.le_of_ble_eq_true rfl) hRl) hl.1 (Nat.le_of_ble_eq_true rfl) dL_follows_592 ⟨by omega, by omega⟩ (fun H_67 locs_67 hOt_67 hS_67 hfr_67 => ?_)
                generalize hq1 : c_32 + 0 = c_67, hq2 : s_32 + 0 = s_67
                rw [← hr_68] at hOt_67 ⊢
                have hc_67 : c_67 + (15) ≤ 201 ∧ s_67 + (90) ≤ 1206 := by omega
                clear hS_32 hfr_67 hOt_32
                refine lv_i2l hx hb dL_follows_595 rfl ?_
                refine lv_lload hx hb dL_follows_596 (lv_at hl 0 rfl) ?_
                refine W.lcmp hx hb dL_follows_598 ?_
                refine lv_if_ne (tgt := 703) hx hb dL_follows_599 (by decide) (fun h_69 => ?_) (fun h_69 => ?_)
                · replace hyp := ite_f h_69 hyp
                  exact kJ_65 r_68.2 _ _ _ _ ls hyp (lv_sub hl [2, 4, 5, 6] rfl) hOt_67 hS_67 (by omega)
                · replace hyp := ite_t h_69 hyp
                  refine lv_aload_n hx hb dL_follows_602 rfl (lv_at hl 2 rfl) ?_
                  refine hc_standing (rest := []) C hA hOt_67 hS_67 ml_L_124 (Nat.le_trans (Nat.le_of_ble_eq_true rfl) hRf) (Nat.le_trans (Nat.le_of_ble_eq_true rfl) hRl) hl.1 (Nat.le_of_ble_eq_true rfl) dL_follows_603 ⟨by omega, by omega⟩ (fun H_70 locs_70 hOt_70 hS_70 hfr_70 => ?_)
                  generalize hq1 : c_67 + 0 = c_70, hq2 : s_67 + 0 = s_70
                  have hc_70 : c_70 + (15) ≤ 201 ∧ s_70 + (90) ≤ 1206 := by omega
                  clear hS_67 hfr_70 hOt_67
                  refine lv_if_ne (tgt := 703) hx hb dL_follows_606 (by decide) (fun h_71 => ?_) (fun h_71 => ?_)
                  · replace hyp := ite_f h_71 hyp
                    exact kJ_65 r_68.2 _ _ _ _ ls hyp (lv_sub hl [2, 4, 5, 6] rfl) hOt_70 hS_70 (by omega)
                  · replace hyp := ite_t h_71 hyp
                    refine lv_aload_n hx hb dL_follows_609 rfl (lv_at hl 2 rfl) ?_
                    refine hc_kingAt (rest := []) C hA hOt_70 hS_70 ml_L_186 (Nat.le_trans (Nat.le_of_ble_eq_true rfl) hRf) (Nat.le_trans (Nat.le_of_ble_eq_true rfl) hRl) hl.1 (Nat.le_of_ble_eq_true rfl) dL_follows_610 ⟨by omega, by omega⟩ (fun H_72 locs_72 hOt_72 hS_72 hfr_72 => ?_)
                    generalize hq1 : c_70 + 1 = c_72, hq2 : s_70 + 6 = s_72
                    have hc_72 : c_72 + (14) ≤ 201 ∧ s_72 + (84) ≤ 1206 := by omega
                    clear hS_70 hfr_72 hOt_70
                    refine lv_ldc2 (v := (-9000000000000000003)) hx hb hown (hts _ ct_L_25) dL_follows_613 ?_
                    refine W.lcmp hx hb dL_follows_616 ?_
                    refine lv_if_ne (tgt := 703) hx hb dL_follows_617 (by decide) (fun h_73 => ?_) (fun h_73 => ?_)
                    · replace hyp := ite_f h_73 hyp
                      exact kJ_65 r_68.2 _ _ _ _ ls hyp (lv_sub hl [2, 4, 5, 6] rfl) hOt_72 hS_72 (by omega)
                    · replace hyp := ite_t h_73 hyp
                      refine lv_aload_n hx hb dL_follows_620 rfl (lv_at hl 2 rfl) ?_
                      refine lv_iload_n hx hb dL_follows_621 rfl (lv_at hl 3 rfl) ?_
                      refine lv_iconst (v := 2) hx hb dL_follows_622 (by decide) ?_
                      refine lv_irem hx hb dL_follows_623 (by decide) ?_
                      refine hc_byPieces (rest := []) C hA hOt_72 hS_72 (a1 - a1 / 2 * 2) ml_L_158 (Nat.le_trans (Nat.le_of_ble_eq_true rfl) hRf) (Nat.le_trans (Nat.le_of_ble_eq_true rfl) hRl) hl.1 (Nat.le_of_ble_eq_true rfl) dL_follows_624 ⟨by omega, by omega⟩ (fun H_74 locs_74 hOt_74 hS_74 hfr_74 => ?_)
                      generalize hq1 : c_72 + 1 = c_74, hq2 : s_72 + 6 = s_74
                      have hc_74 : c_74 + (13) ≤ 201 ∧ s_74 + (78) ≤ 1206 := by omega
                      clear hS_72 hfr_74 hOt_72
                      refine lv_lconst (v := 0) hx hb dL_follows_627 (by decide) ?_
                      refine W.lcmp hx hb dL_follows_628 ?_
                      refine lv_if_ne (tgt := 703) hx hb dL_follows_629 (by decide) (fun h_75 => ?_) (fun h_75 => ?_)
                      · replace hyp := ite_f h_75 hyp
                        exact kJ_65 r_68.2 _ _ _ _ ls hyp (lv_sub hl [2, 4, 5, 6] rfl) hOt_74 hS_74 (by omega)
                      · replace hyp := ite_t h_75 hyp
                        refine lv_aload_n hx hb dL_follows_632 rfl (lv_at hl 2 rfl) ?_
                        refine lv_iload_n hx hb dL_follows_633 rfl (lv_at hl 3 rfl) ?_
                        refine lv_iconst (v := 5) hx hb dL_follows_634 (by decide) ?_
                        refine lv_irem hx hb dL_follows_635 (by decide) ?_
                        refine lv_iconst (v := 1) hx hb dL_follows_636 (by decide) ?_
                        refine lv_iadd hx hb dL_follows_637 ?_
                        refine lv_iload_n hx hb dL_follows_638 rfl (lv_at hl 3 rfl) ?_
                        refine lv_iconst (v := 5) hx hb dL_follows_639 (by decide) ?_
                        refine lv_idiv hx hb dL_follows_640 (by decide) ?_
                        refine lv_iconst (v := 2) hx hb dL_follows_641 (by decide) ?_
                        refine lv_irem hx hb dL_follows_642 (by decide) ?_
                        refine lv_iconst (v := 1) hx hb dL_follows_643 (by decide) ?_
                        refine lv_iadd hx hb dL_follows_644 ?_
                        refine lv_iconst (v := 3) hx hb dL_follows_645 (by decide) ?_
                        obtain ⟨r_77, hr_77, hyp⟩ := bnd_e hyp
                        refine hc_put (rest := []) C hA hOt_74 hS_74 ((a1 - a1 / 5 * 5) + 1) (((a1 / 5) - (a1 / 5) / 2 * 2) + 1) (3 : Int32) ml_L_127 (Nat.le_trans (Nat.le_of_ble_eq_true rfl) hRf) (Nat.le_trans (Nat.le_of_ble_eq_true rfl) hRl) hl.1 (Nat.le_of_ble_eq_true rfl) dL_follows_646 ⟨by omega, by omega⟩ (fun H_76 locs_76 hOt_76 hS_76 hfr_76 => ?_)
                        generalize hq1 : c_74 + 2 = c_76, hq2 : s_74 + 12 = s_76
                        rw [← hr_77] at hOt_76 ⊢
                        have hc_76 : c_76 + (11) ≤ 201 ∧ s_76 + (66) ≤ 1206 := by omega
                        clear hS_74 hfr_76 hOt_74
                        refine lv_lconst (v := 0) hx hb dL_follows_649 (by decide) ?_
                        refine W.lcmp hx hb dL_follows_650 ?_
                        refine lv_if_ne (tgt := 703) hx hb dL_follows_651 (by decide) (fun h_78 => ?_) (fun h_78 => ?_)
                        · replace hyp := ite_f h_78 hyp
                          exact kJ_65 r_77.2 _ _ _ _ ls hyp (lv_sub hl [2, 4, 5, 6] rfl) hOt_76 hS_76 (by omega)
                        · replace hyp := ite_t h_78 hyp
                          refine lv_aload_n hx hb dL_follows_654 rfl (lv_at hl 2 rfl) ?_
                          refine lv_iconst (v := 1) hx hb dL_follows_655 (by decide) ?_
                          obtain ⟨r_80, hr_80, hyp⟩ := bnd_e hyp
                          refine hc_start (rest := []) C hA hOt_76 hS_76 (1 : Int32) ml_L_132 (Nat.le_trans (Nat.le_of_ble_eq_true rfl) hRf) (Nat.le_trans (Nat.le_of_ble_eq_true rfl) hRl) hl.1 (Nat.le_of_ble_eq_true rfl) dL_follows_656 ⟨by omega, by omega⟩ (fun H_79 locs_79 hOt_79 hS_79 hfr_79 => ?_)
                          generalize hq1 : c_76 + 2 = c_79, hq2 : s_76 + 12 = s_79
                          rw [← hr_80] at hOt_79 ⊢
                          have hc_79 : c_79 + (9) ≤ 201 ∧ s_79 + (54) ≤ 1206 := by omega
                          clear hS_76 hfr_79 hOt_76
                          refine lv_lconst (v := 0) hx hb dL_follows_659 (by decide) ?_
                          refine W.lcmp hx hb dL_follows_660 ?_
                          refine lv_if_le (tgt := 703) hx hb dL_follows_661 (by decide) (fun h_81 => ?_) (fun h_81 => ?_)
                          · replace hyp := ite_t h_81 hyp
                            exact kJ_65 r_80.2 _ _ _ _ ls hyp (lv_sub hl [2, 4, 5, 6] rfl) hOt_79 hS_79 (by omega)
                          · replace hyp := ite_f h_81 hyp
                            refine lv_aload_n hx hb dL_follows_664 rfl (lv_at hl 2 rfl) ?_
                            obtain ⟨r_83, hr_83, hyp⟩ := bnd_e hyp
                            refine hc_undo (rest := []) C hA hOt_79 hS_79 ml_L_238 (Nat.le_trans (Nat.le_of_ble_eq_true rfl) hRf) (Nat.le_trans (Nat.le_of_ble_eq_true rfl) hRl) hl.1 (Nat.le_of_ble_eq_true rfl) dL_follows_665 ⟨by omega, by omega⟩ (fun H_82 locs_82 hOt_82 hS_82 hfr_82 => ?_)
                            generalize hq1 : c_79 + 1 = c_82, hq2 : s_79 + 6 = s_82
                            rw [← hr_83] at hOt_82 ⊢
                            have hc_82 : c_82 + (8) ≤ 201 ∧ s_82 + (48) ≤ 1206 := by omega
                            clear hS_79 hfr_82 hOt_79
                            refine lv_lconst (v := 0) hx hb dL_follows_668 (by decide) ?_
                            refine W.lcmp hx hb dL_follows_669 ?_
                            refine lv_if_ne (tgt := 703) hx hb dL_follows_670 (by decide) (fun h_84 => ?_) (fun h_84 => ?_)
                            · replace hyp := ite_f h_84 hyp
                              exact kJ_65 r_83.2 _ _ _ _ ls hyp (lv_sub hl [2, 4, 5, 6] rfl) hOt_82 hS_82 (by omega)
                            · replace hyp := ite_t h_84 hyp
                              refine lv_aload_n hx hb dL_follows_673 rfl (lv_at hl 2 rfl) ?_
                              obtain ⟨r_86, hr_86, hyp⟩ := bnd_e hyp
                              refine hc_undo (rest := []) C hA hOt_82 hS_82 ml_L_238 (Nat.le_trans (Nat.le_of_ble_eq_true rfl) hRf) (Nat.le_trans (Nat.le_of_ble_eq_true rfl) hRl) hl.1 (Nat.le_of_ble_eq_true rfl) dL_follows_674 ⟨by omega, by omega⟩ (fun H_85 locs_85 hOt_85 hS_85 hfr_85 => ?_)
                              generalize hq1 : c_82 + 1 = c_85, hq2 : s_82 + 6 = s_85
                              rw [← hr_86] at hOt_85 ⊢
                              have hc_85 : c_85 + (7) ≤ 201 ∧ s_85 + (42) ≤ 1206 := by omega
                              clear hS_82 hfr_85 hOt_82
                              refine lv_lconst (v := 0) hx hb dL_follows_677 (by decide) ?_
                              refine W.lcmp hx hb dL_follows_678 ?_
                              refine lv_if_ne (tgt := 703) hx hb dL_follows_679 (by decide) (fun h_87 => ?_) (fun h_87 => ?_)
                              · replace hyp := ite_f h_87 hyp
                                exact kJ_65 r_86.2 _ _ _ _ ls hyp (lv_sub hl [2, 4, 5, 6] rfl) hOt_85 hS_85 (by omega)
                              · replace hyp := ite_t h_87 hyp
                                refine lv_aload_n hx hb dL_follows_682 rfl (lv_at hl 2 rfl) ?_
                                obtain ⟨r_89, hr_89, hyp⟩ := bnd_e hyp
                                refine hc_undo (rest := []) C hA hOt_85 hS_85 ml_L_238 (Nat.le_trans (Nat.le_of_ble_eq_true rfl) hRf) (Nat.le_trans (Nat.le_of_ble_eq_true rfl) hRl) hl.1 (Nat.le_of_ble_eq_true rfl) dL_follows_683 ⟨by omega, by omega⟩ (fun H_88 locs_88 hOt_88 hS_88 hfr_88 => ?_)
                                generalize hq1 : c_85 + 1 = c_88, hq2 : s_85 + 6 = s_88
                                rw [← hr_89] at hOt_88 ⊢
                                have hc_88 : c_88 + (6) ≤ 201 ∧ s_88 + (36) ≤ 1206 := by omega
                                clear hS_85 hfr_88 hOt_85
                                refine lv_lconst (v := 0) hx hb dL_follows_686 (by decide) ?_
                                refine W.lcmp hx hb dL_follows_687 ?_
                                refine lv_if_ne (tgt := 703) hx hb dL_follows_688 (by decide) (fun h_90 => ?_) (fun h_90 => ?_)
                                · replace hyp := ite_f h_90 hyp
                                  exact kJ_65 r_89.2 _ _ _ _ ls hyp (lv_sub hl [2, 4, 5, 6] rfl) hOt_88 hS_88 (by omega)
                                · replace hyp := ite_t h_90 hyp
                                  refine lv_aload_n hx hb dL_follows_691 rfl (lv_at hl 2 rfl) ?_
                                  refine hc_standing (rest := []) C hA hOt_88 hS_88 ml_L_124 (Nat.le_trans (Nat.le_of_ble_eq_true rfl) hRf) (Nat.le_trans (Nat.le_of_ble_eq_true rfl) hRl) hl.1 (Nat.le_of_ble_eq_true rfl) dL_follows_692 ⟨by omega, by omega⟩ (fun H_91 locs_91 hOt_91 hS_91 hfr_91 => ?_)
                                  generalize hq1 : c_88 + 0 = c_91, hq2 : s_88 + 0 = s_91
                                  have hc_91 : c_91 + (6) ≤ 201 ∧ s_91 + (36) ≤ 1206 := by omega
                                  clear hS_88 hfr_91 hOt_88
                                  refine lv_iload_n hx hb dL_follows_695 rfl (lv_at hl 4 rfl) ?_
                                  refine lv_icmp_ne (tgt := 703) hx hb dL_follows_696 (by decide) (fun h_92 => ?_) (fun h_92 => ?_)
                                  · replace hyp := ite_f h_92 hyp
                                    exact kJ_65 r_89.2 _ _ _ _ ls hyp (lv_sub hl [2, 4, 5, 6] rfl) hOt_91 hS_91 (by omega)
                                  · replace hyp := ite_t h_92 hyp
                                    refine lv_iconst (v := 1) hx hb dL_follows_699 (by decide) ?_
                                    refine lv_goto (tgt := 704) hx hb dL_follows_700 (by decide) ?_
                                    exact kJ_37 1 r_89.2 _ _ _ _ ls hyp (lv_sub hl [2, 4, 5, 6] rfl) hOt_91 hS_91 (by omega)
            obtain ⟨J_95, eJ_95, hyp⟩ := jn_e hyp
            have kJ_95 : ∀ (zt_94 : PS) (H_93 : Heap) (locs_93 : List Loc) (c_93 s_93 : Nat) (ls : Array Slot), J_95 zt_94 = some r → lv_has ls 22 [(0, .ref (aa 0)), (1, .int a1), (2, .int (aS st.1)), (3, .int (aN st.1)), (4, .int (aAm st.1))] → OB g aa F zt_94 s H_93 → va_S A s.heap H_93 locs_93 → (c_93 + (17) ≤ 201 ∧ s_93 + (102) ≤ 1206) → W p l e R s m args below meth c H_93 locs_93 c_93 s_93 Q (F0 m 570 ls []) := by
              intro zt_94 H_93 locs_93 c_93 s_93 ls hyp hl hOt_93 hS_93 hc_93
              replace hyp := (congrFun (eJ_95) zt_94).symm.trans hyp
              refine lv_iconst (v := 0) hx hb dL_follows_570 (by decide) ?_
              exact kJ_30 0 zt_94 _ _ _ _ ls hyp hl hOt_93 hS_93 (by omega)
            refine lv_if_eq (tgt := 570) hx hb dL_follows_511 (by decide) (fun h_96 => ?_) (fun h_96 => ?_)
            · replace hyp := ite_t h_96 hyp
              exact kJ_95 zt_18 _ _ _ _ ls hyp (lv_sub hl [1, 2, 3, 4, 5] rfl) hOt_26 hS_26 (by omega)
            · replace hyp := ite_f h_96 hyp
              refine lv_aload_n hx hb dL_follows_514 rfl (lv_at hl 1 rfl) ?_
              obtain ⟨r_98, hr_98, hyp⟩ := bnd_e hyp
              refine hc_turnStrong (rest := []) C hA hOt_26 hS_26 ml_L_244 (Nat.le_trans (Nat.le_of_ble_eq_true rfl) hRf) (Nat.le_trans (Nat.le_of_ble_eq_true rfl) hRl) hl.1 (Nat.le_of_ble_eq_true rfl) dL_follows_515 ⟨by omega, by omega⟩ (fun H_97 locs_97 hOt_97 hS_97 hfr_97 => ?_)
              generalize hq1 : c_26 + 0 = c_97, hq2 : s_26 + 0 = s_97
              rw [← hr_98] at hOt_97 ⊢
              have hc_97 : c_97 + (18) ≤ 201 ∧ s_97 + (108) ≤ 1206 := by omega
              clear hS_26 hfr_97 hOt_26
              refine lv_iload hx hb dL_follows_518 (lv_at hl 0 rfl) ?_
              obtain ⟨J_101, eJ_101, hyp⟩ := jn_e hyp
              have kJ_101 : ∀ (t_99 : Int32) (H_100 : Heap) (locs_100 : List Loc) (c_100 s_100 : Nat) (ls : Array Slot), J_101 t_99 = some r → lv_has ls 22 [(0, .ref (aa 0)), (1, .int a1), (2, .int (aS st.1)), (3, .int (aN st.1)), (4, .int (aAm st.1)), (8, .int (b01 (aG zt_18.1)))] → OB g aa F r_98.2 s H_100 → va_S A s.heap H_100 locs_100 → (c_100 + (18) ≤ 201 ∧ s_100 + (108) ≤ 1206) → W p l e R s m args below meth c H_100 locs_100 c_100 s_100 Q (F0 m 528 ls [.int t_99, .int r_98.1]) := by
                intro t_99 H_100 locs_100 c_100 s_100 ls hyp hl hOt_100 hS_100 hc_100
                replace hyp := (congrFun (eJ_101) t_99).symm.trans hyp
                refine lv_icmp_ne (tgt := 570) hx hb dL_follows_528 (by decide) (fun h_102 => ?_) (fun h_102 => ?_)
                · replace hyp := ite_f h_102 hyp
                  exact kJ_95 r_98.2 _ _ _ _ ls hyp (lv_sub hl [0, 1, 2, 3, 4] rfl) hOt_100 hS_100 (by omega)
                · replace hyp := ite_t h_102 hyp
                  refine lv_aload_n hx hb dL_follows_531 rfl (lv_at hl 0 rfl) ?_
                  refine hc_isStrong (rest := []) C hA hOt_100 hS_100 ml_L_240 (Nat.le_trans (Nat.le_of_ble_eq_true rfl) hRf) (Nat.le_trans (Nat.le_of_ble_eq_true rfl) hRl) hl.1 (Nat.le_of_ble_eq_true rfl) dL_follows_532 ⟨by omega, by omega⟩ (fun H_103 locs_103 hOt_103 hS_103 hfr_103 => ?_)
                  generalize hq1 : c_100 + 0 = c_103, hq2 : s_100 + 0 = s_103
                  have hc_103 : c_103 + (18) ≤ 201 ∧ s_103 + (108) ≤ 1206 := by omega
                  clear hS_100 hfr_103 hOt_100
                  refine lv_iload hx hb dL_follows_535 (lv_at hl 5 rfl) ?_
                  obtain ⟨J_106, eJ_106, hyp⟩ := jn_e hyp
                  have kJ_106 : ∀ (t_104 : Int32) (H_105 : Heap) (locs_105 : List Loc) (c_105 s_105 : Nat) (ls : Array Slot), J_106 t_104 = some r → lv_has ls 22 [(0, .ref (aa 0)), (1, .int a1), (2, .int (aS st.1)), (3, .int (aN st.1)), (4, .int (aAm st.1)), (8, .int (b01 (aG zt_18.1)))] → OB g aa F r_98.2 s H_105 → va_S A s.heap H_105 locs_105 → (c_105 + (18) ≤ 201 ∧ s_105 + (108) ≤ 1206) → W p l e R s m args below meth c H_105 locs_105 c_105 s_105 Q (F0 m 545 ls [.int t_104, .int (b01 (aG r_98.2.1))]) := by
                    intro t_104 H_105 locs_105 c_105 s_105 ls hyp hl hOt_105 hS_105 hc_105
                    replace hyp := (congrFun (eJ_106) t_104).symm.trans hyp
                    refine lv_icmp_ne (tgt := 570) hx hb dL_follows_545 (by decide) (fun h_107 => ?_) (fun h_107 => ?_)
                    · replace hyp := ite_f h_107 hyp
                      exact kJ_95 r_98.2 _ _ _ _ ls hyp (lv_sub hl [0, 1, 2, 3, 4] rfl) hOt_105 hS_105 (by omega)
                    · replace hyp := ite_t h_107 hyp
                      refine lv_aload_n hx hb dL_follows_548 rfl (lv_at hl 0 rfl) ?_
                      obtain ⟨r_109, hr_109, hyp⟩ := bnd_e hyp
                      refine hc_undo (rest := []) C hA hOt_105 hS_105 ml_L_238 (Nat.le_trans (Nat.le_of_ble_eq_true rfl) hRf) (Nat.le_trans (Nat.le_of_ble_eq_true rfl) hRl) hl.1 (Nat.le_of_ble_eq_true rfl) dL_follows_549 ⟨by omega, by omega⟩ (fun H_108 locs_108 hOt_108 hS_108 hfr_108 => ?_)
                      generalize hq1 : c_105 + 1 = c_108, hq2 : s_105 + 6 = s_108
                      rw [← hr_109] at hOt_108 ⊢
                      have hc_108 : c_108 + (17) ≤ 201 ∧ s_108 + (102) ≤ 1206 := by omega
                      clear hS_105 hfr_108 hOt_105
                      refine lv_lconst (v := 0) hx hb dL_follows_552 (by decide) ?_
                      refine W.lcmp hx hb dL_follows_553 ?_
                      refine lv_if_ne (tgt := 570) hx hb dL_follows_554 (by decide) (fun h_110 => ?_) (fun h_110 => ?_)
                      · replace hyp := ite_f h_110 hyp
                        exact kJ_95 r_109.2 _ _ _ _ ls hyp (lv_sub hl [0, 1, 2, 3, 4] rfl) hOt_108 hS_108 (by omega)
                      · replace hyp := ite_t h_110 hyp
                        refine lv_aload_n hx hb dL_follows_557 rfl (lv_at hl 0 rfl) ?_
                        refine hc_isStrong (rest := []) C hA hOt_108 hS_108 ml_L_240 (Nat.le_trans (Nat.le_of_ble_eq_true rfl) hRf) (Nat.le_trans (Nat.le_of_ble_eq_true rfl) hRl) hl.1 (Nat.le_of_ble_eq_true rfl) dL_follows_558 ⟨by omega, by omega⟩ (fun H_111 locs_111 hOt_111 hS_111 hfr_111 => ?_)
                        generalize hq1 : c_108 + 0 = c_111, hq2 : s_108 + 0 = s_111
                        have hc_111 : c_111 + (17) ≤ 201 ∧ s_111 + (102) ≤ 1206 := by omega
                        clear hS_108 hfr_111 hOt_108
                        refine lv_iload hx hb dL_follows_561 (lv_at hl 5 rfl) ?_
                        refine lv_icmp_ne (tgt := 570) hx hb dL_follows_563 (by decide) (fun h_112 => ?_) (fun h_112 => ?_)
                        · replace hyp := ite_f h_112 hyp
                          exact kJ_95 r_109.2 _ _ _ _ ls hyp (lv_sub hl [0, 1, 2, 3, 4] rfl) hOt_111 hS_111 (by omega)
                        · replace hyp := ite_t h_112 hyp
                          refine lv_iconst (v := 1) hx hb dL_follows_566 (by decide) ?_
                          refine lv_goto (tgt := 571) hx hb dL_follows_567 (by decide) ?_
                          exact kJ_30 1 r_109.2 _ _ _ _ ls hyp (lv_sub hl [0, 1, 2, 3, 4] rfl) hOt_111 hS_111 (by omega)
                  refine lv_if_ne (tgt := 544) hx hb dL_follows_537 (by decide) (fun h_113 => ?_) (fun h_113 => ?_)
                  · replace hyp := ite_f h_113 hyp
                    refine lv_iconst (v := 0) hx hb dL_follows_544 (by decide) ?_
                    exact kJ_106 0 _ _ _ _ ls hyp hl hOt_103 hS_103 (by omega)
                  · replace hyp := ite_t h_113 hyp
                    refine lv_iconst (v := 1) hx hb dL_follows_540 (by decide) ?_
                    refine lv_goto (tgt := 545) hx hb dL_follows_541 (by decide) ?_
                    exact kJ_106 1 _ _ _ _ ls hyp hl hOt_103 hS_103 (by omega)
              refine lv_if_ne (tgt := 527) hx hb dL_follows_520 (by decide) (fun h_114 => ?_) (fun h_114 => ?_)
              · replace hyp := ite_f h_114 hyp
                refine lv_iconst (v := 0) hx hb dL_follows_527 (by decide) ?_
                exact kJ_101 0 _ _ _ _ ls hyp (lv_sub hl [1, 2, 3, 4, 5, 0] rfl) hOt_97 hS_97 (by omega)
              · replace hyp := ite_t h_114 hyp
                refine lv_iconst (v := 1) hx hb dL_follows_523 (by decide) ?_
                refine lv_goto (tgt := 528) hx hb dL_follows_524 (by decide) ?_
                exact kJ_101 1 _ _ _ _ ls hyp (lv_sub hl [1, 2, 3, 4, 5, 0] rfl) hOt_97 hS_97 (by omega)
          refine lv_if_eq (tgt := 503) hx hb dL_follows_384 (by decide) (fun h_115 => ?_) (fun h_115 => ?_)
          · replace hyp := ite_t h_115 hyp
            exact kJ_25 v5_15 _ _ _ _ ls hyp (lv_sub hl [0, 1, 2, 3, 4, 5] rfl) hOt_21 hS_21 (by omega)
          · replace hyp := ite_f h_115 hyp
            refine lv_iload hx hb dL_follows_387 (lv_at hl 7 rfl) ?_
            refine lv_if_le (tgt := 503) hx hb dL_follows_389 (by decide) (fun h_116 => ?_) (fun h_116 => ?_)
            · replace hyp := ite_t h_116 hyp
              exact kJ_25 v5_15 _ _ _ _ ls hyp (lv_sub hl [0, 1, 2, 3, 4, 5] rfl) hOt_21 hS_21 (by omega)
            · replace hyp := ite_f h_116 hyp
              refine lv_aload_n hx hb dL_follows_392 rfl (lv_at hl 0 rfl) ?_
              refine lv_iload hx hb dL_follows_393 (lv_at hl 6 rfl) ?_
              refine hc_bestMove (rest := []) C hA hOt_21 hS_21 t_9 ml_L_175 (Nat.le_trans (Nat.le_of_ble_eq_true rfl) hRf) (Nat.le_trans (Nat.le_of_ble_eq_true rfl) hRl) hl.1 (Nat.le_of_ble_eq_true rfl) dL_follows_395 ⟨by omega, by omega⟩ (fun H_117 locs_117 hOt_117 hS_117 hfr_117 => ?_)
              generalize hq1 : c_21 + 2 = c_117, hq2 : s_21 + 12 = s_117
              have hc_117 : c_117 + (52) ≤ 201 ∧ s_117 + (312) ≤ 1206 := by omega
              clear hS_21 hfr_117 hOt_21
              refine lv_l2i hx hb dL_follows_398 rfl ?_
              obtain ⟨v8_118, ev8_118, hyp⟩ := bnd_e hyp
              refine lv_eqi ev8_118 ?_
              refine lv_istore (lv' := [(8, .int v8_118), (0, .ref (aa 0)), (1, .int a1), (2, .int (aS st.1)), (3, .int (aN st.1)), (4, .int (aAm st.1)), (5, .int v5_15), (6, .int t_9), (7, .int t_12)]) hx hb dL_follows_399 hl (by decide) rfl (fun ls hl => ?_)
              refine lv_aload_n hx hb dL_follows_401 rfl (lv_at hl 1 rfl) ?_
              refine lv_iload hx hb dL_follows_402 (lv_at hl 0 rfl) ?_
              refine lv_bipush (v := 49) hx hb dL_follows_404 (by decide) ?_
              refine lv_idiv hx hb dL_follows_406 (by decide) ?_
              refine lv_iload hx hb dL_follows_407 (lv_at hl 0 rfl) ?_
              refine lv_bipush (v := 49) hx hb dL_follows_409 (by decide) ?_
              refine lv_irem hx hb dL_follows_411 (by decide) ?_
              refine hc_worthOf (rest := []) C hA hOt_117 hS_117 (v8_118 / 49) (v8_118 - v8_118 / 49 * 49) ml_L_168 (Nat.le_trans (Nat.le_of_ble_eq_true rfl) hRf) (Nat.le_trans (Nat.le_of_ble_eq_true rfl) hRl) hl.1 (Nat.le_of_ble_eq_true rfl) dL_follows_412 ⟨by omega, by omega⟩ (fun H_119 locs_119 hOt_119 hS_119 hfr_119 => ?_)
              generalize hq1 : c_117 + 2 = c_119, hq2 : s_117 + 12 = s_119
              have hc_119 : c_119 + (50) ≤ 201 ∧ s_119 + (300) ≤ 1206 := by omega
              clear hS_117 hfr_119 hOt_117
              obtain ⟨v9_120, ev9_120, hyp⟩ := bnd_e hyp
              refine lv_eqj ev9_120 ?_
              refine lv_lstore (lv' := [(9, .long v9_120), (8, .int v8_118), (0, .ref (aa 0)), (1, .int a1), (2, .int (aS st.1)), (3, .int (aN st.1)), (4, .int (aAm st.1)), (5, .int v5_15), (6, .int t_9), (7, .int t_12)]) hx hb dL_follows_415 hl (by decide) rfl (fun ls hl => ?_)
              refine lv_iconst (v := 0) hx hb dL_follows_417 (by decide) ?_
              refine lv_istore (lv' := [(11, .int 0), (9, .long v9_120), (8, .int v8_118), (0, .ref (aa 0)), (1, .int a1), (2, .int (aS st.1)), (3, .int (aN st.1)), (4, .int (aAm st.1)), (5, .int v5_15), (6, .int t_9), (7, .int t_12)]) hx hb dL_follows_418 hl (by decide) rfl (fun ls hl => ?_)
              refine lp_n (r := r) (fun (n9 : Nat) (z : Int32 × Int32) => ∀ (H_123 : Heap) (locs_123 : List Loc) (c_123 s_123 : Nat) (ls : Array Slot), lv_has ls 22 [(0, .ref (aa 0)), (1, .int a1), (2, .int (aS st.1)), (3, .int (aN st.1)), (4, .int (aAm st.1)), (5, .int z.1), (6, .int t_9), (7, .int t_12), (8, .int v8_118), (9, .long v9_120), (11, .int z.2)] → OB g aa F zt_18 s H_123 → va_S A s.heap H_123 locs_123 → (c_123 + (18 + n9 * 4) ≤ 201 ∧ s_123 + (108 + n9 * 24) ≤ 1206) → W p l e R s m args below meth c H_123 locs_123 c_123 s_123 Q (F0 m 420 ls [])) ?_ 8 (v5_15, 0) hyp _ _ _ _ ls (lv_sub hl [3, 4, 5, 6, 7, 8, 9, 10, 2, 1, 0] rfl) hOt_119 hS_119 (by omega)
              intro n9_125 self_124T ihself_124T z hyp H_123 locs_123 c_123 s_123 ls hl hOt_123 hS_123 hc_123
              obtain ⟨v5_121, v11_122⟩ := z
              obtain ⟨self_124, eself_124⟩ : ∃ f9 : Int32 → Int32 → Option (Int32 × PS), f9 = fun v5_121 v11_122 => self_124T (v5_121, v11_122) := ⟨_, rfl⟩
              have ihself_124 := fun (v5_121 : Int32) (v11_122 : Int32) (h9 : self_124 v5_121 v11_122 = some r) => ihself_124T (v5_121, v11_122) (by rw [eself_124] at h9; exact h9)
              replace hyp : fL_follows_L420_B t_9 t_12 zt_18 J_25 v8_118 v9_120 self_124 v5_121 v11_122 = some r := by rw [eself_124]; exact hyp
              have hl : lv_has ls 22 [(0, .ref (aa 0)), (1, .int a1), (2, .int (aS st.1)), (3, .int (aN st.1)), (4, .int (aAm st.1)), (5, .int v5_121), (6, .int t_9), (7, .int t_12), (8, .int v8_118), (9, .long v9_120), (11, .int v11_122)] := hl
              have hOt_123 : OB g aa F zt_18 s H_123 := hOt_123
              show W p l e R s m args below meth c H_123 locs_123 c_123 s_123 Q (F0 m 420 ls [])
              unfold fL_follows_L420_B at hyp
              have hc_123 : c_123 + (22 + n9_125 * 4) ≤ 201 ∧ s_123 + (132 + n9_125 * 24) ≤ 1206 := by
                have hq := hc_123
                omega
              refine lv_iload hx hb dL_follows_420 (lv_at hl 10 rfl) ?_
              refine lv_iload hx hb dL_follows_422 (lv_at hl 7 rfl) ?_
              refine lv_icmp_ge (tgt := 503) hx hb dL_follows_424 (by decide) (fun h_126 => ?_) (fun h_126 => ?_)
              · replace hyp := ite_t h_126 hyp
                exact kJ_25 v5_121 _ _ _ _ ls hyp (lv_sub hl [0, 1, 2, 3, 4, 5] rfl) hOt_123 hS_123 (by omega)
              · replace hyp := ite_f h_126 hyp
                refine lv_iload hx hb dL_follows_427 (lv_at hl 5 rfl) ?_
                refine lv_if_eq (tgt := 503) hx hb dL_follows_429 (by decide) (fun h_127 => ?_) (fun h_127 => ?_)
                · replace hyp := ite_t h_127 hyp
                  exact kJ_25 v5_121 _ _ _ _ ls hyp (lv_sub hl [0, 1, 2, 3, 4, 5] rfl) hOt_123 hS_123 (by omega)
                · replace hyp := ite_f h_127 hyp
                  refine lv_aload_n hx hb dL_follows_432 rfl (lv_at hl 0 rfl) ?_
                  refine lv_iload hx hb dL_follows_433 (lv_at hl 6 rfl) ?_
                  refine lv_iload hx hb dL_follows_435 (lv_at hl 10 rfl) ?_
                  refine hc_moveAt (rest := []) C hA hOt_123 hS_123 t_9 v11_122 ml_L_173 (Nat.le_trans (Nat.le_of_ble_eq_true rfl) hRf) (Nat.le_trans (Nat.le_of_ble_eq_true rfl) hRl) hl.1 (Nat.le_of_ble_eq_true rfl) dL_follows_437 ⟨by omega, by omega⟩ (fun H_128 locs_128 hOt_128 hS_128 hfr_128 => ?_)
                  generalize hq1 : c_123 + 2 = c_128, hq2 : s_123 + 12 = s_128
                  have hc_128 : c_128 + (20 + n9_125 * 4) ≤ 201 ∧ s_128 + (120 + n9_125 * 24) ≤ 1206 := by omega
                  clear hS_123 hfr_128 hOt_123
                  refine lv_l2i hx hb dL_follows_440 rfl ?_
                  refine lv_istore (lv' := [(12, .int ((v_moveAt (aF zt_18.1) t_9 v11_122).toInt32)), (0, .ref (aa 0)), (1, .int a1), (2, .int (aS st.1)), (3, .int (aN st.1)), (4, .int (aAm st.1)), (5, .int v5_121), (6, .int t_9), (7, .int t_12), (8, .int v8_118), (9, .long v9_120), (11, .int v11_122)]) hx hb dL_follows_441 hl (by decide) rfl (fun ls hl => ?_)
                  refine lv_aload_n hx hb dL_follows_443 rfl (lv_at hl 1 rfl) ?_
                  refine lv_iload hx hb dL_follows_444 (lv_at hl 0 rfl) ?_
                  refine lv_bipush (v := 49) hx hb dL_follows_446 (by decide) ?_
                  refine lv_idiv hx hb dL_follows_448 (by decide) ?_
                  refine lv_iload hx hb dL_follows_449 (lv_at hl 0 rfl) ?_
                  refine lv_bipush (v := 49) hx hb dL_follows_451 (by decide) ?_
                  refine lv_irem hx hb dL_follows_453 (by decide) ?_
                  refine hc_worthOf (rest := []) C hA hOt_128 hS_128 (((v_moveAt (aF zt_18.1) t_9 v11_122).toInt32) / 49) (((v_moveAt (aF zt_18.1) t_9 v11_122).toInt32) - ((v_moveAt (aF zt_18.1) t_9 v11_122).toInt32) / 49 * 49) ml_L_168 (Nat.le_trans (Nat.le_of_ble_eq_true rfl) hRf) (Nat.le_trans (Nat.le_of_ble_eq_true rfl) hRl) hl.1 (Nat.le_of_ble_eq_true rfl) dL_follows_454 ⟨by omega, by omega⟩ (fun H_129 locs_129 hOt_129 hS_129 hfr_129 => ?_)
                  generalize hq1 : c_128 + 2 = c_129, hq2 : s_128 + 12 = s_129
                  have hc_129 : c_129 + (18 + n9_125 * 4) ≤ 201 ∧ s_129 + (108 + n9_125 * 24) ≤ 1206 := by omega
                  clear hS_128 hfr_129 hOt_128
                  obtain ⟨v13_130, ev13_130, hyp⟩ := bnd_e hyp
                  refine lv_eqj ev13_130 ?_
                  refine lv_lstore (lv' := [(13, .long v13_130), (12, .int ((v_moveAt (aF zt_18.1) t_9 v11_122).toInt32)), (0, .ref (aa 0)), (1, .int a1), (2, .int (aS st.1)), (3, .int (aN st.1)), (4, .int (aAm st.1)), (5, .int v5_121), (6, .int t_9), (7, .int t_12), (8, .int v8_118), (9, .long v9_120), (11, .int v11_122)]) hx hb dL_follows_457 hl (by decide) rfl (fun ls hl => ?_)
                  refine lv_lload hx hb dL_follows_459 (lv_at hl 0 rfl) ?_
                  refine lv_lload hx hb dL_follows_461 (lv_at hl 11 rfl) ?_
                  refine W.lcmp hx hb dL_follows_463 ?_
                  obtain ⟨J_133, eJ_133, hyp⟩ := jn_e hyp
                  have kJ_133 : ∀ (t_131 : Int32) (H_132 : Heap) (locs_132 : List Loc) (c_132 s_132 : Nat) (ls : Array Slot), J_133 t_131 = some r → lv_has ls 22 [(0, .ref (aa 0)), (1, .int a1), (2, .int (aS st.1)), (3, .int (aN st.1)), (4, .int (aAm st.1)), (6, .int t_9), (7, .int t_12), (8, .int v8_118), (9, .long v9_120), (11, .int v11_122)] → OB g aa F zt_18 s H_132 → va_S A s.heap H_132 locs_132 → (c_132 + (18 + n9_125 * 4) ≤ 201 ∧ s_132 + (108 + n9_125 * 24) ≤ 1206) → W p l e R s m args below meth c H_132 locs_132 c_132 s_132 Q (F0 m 487 ls [.int t_131]) := by
                    intro t_131 H_132 locs_132 c_132 s_132 ls hyp hl hOt_132 hS_132 hc_132
                    replace hyp := (congrFun (eJ_133) t_131).symm.trans hyp
                    refine lv_istore (lv' := [(5, .int t_131), (0, .ref (aa 0)), (1, .int a1), (2, .int (aS st.1)), (3, .int (aN st.1)), (4, .int (aAm st.1)), (6, .int t_9), (7, .int t_12), (8, .int v8_118), (9, .long v9_120), (11, .int v11_122)]) hx hb dL_follows_487 hl (by decide) rfl (fun ls hl => ?_)
                    refine lv_iload hx hb dL_follows_489 (lv_at hl 10 rfl) ?_
                    refine lv_iconst (v := 1) hx hb dL_follows_491 (by decide) ?_
                    refine lv_iload hx hb dL_follows_492 (lv_at hl 7 rfl) ?_
                    refine lv_iconst (v := 5) hx hb dL_follows_494 (by decide) ?_
                    refine lv_idiv hx hb dL_follows_495 (by decide) ?_
                    refine lv_iadd hx hb dL_follows_496 ?_
                    refine lv_iadd hx hb dL_follows_497 ?_
                    refine lv_istore (lv' := [(11, .int (v11_122 + (1 + (t_12 / 5)))), (5, .int t_131), (0, .ref (aa 0)), (1, .int a1), (2, .int (aS st.1)), (3, .int (aN st.1)), (4, .int (aAm st.1)), (6, .int t_9), (7, .int t_12), (8, .int v8_118), (9, .long v9_120)]) hx hb dL_follows_498 hl (by decide) rfl (fun ls hl => ?_)
                    refine lv_goto (tgt := 420) hx hb dL_follows_500 (by decide) ?_
                    exact ihself_124 t_131 (v11_122 + (1 + (t_12 / 5))) hyp _ _ _ _ ls (lv_sub hl [2, 3, 4, 5, 6, 1, 7, 8, 9, 10, 0] rfl) hOt_132 hS_132 (by omega)
                  obtain ⟨J_135, eJ_135, hyp⟩ := jn_e hyp
                  have kJ_135 : ∀ (H_134 : Heap) (locs_134 : List Loc) (c_134 s_134 : Nat) (ls : Array Slot), J_135 = some r → lv_has ls 22 [(0, .ref (aa 0)), (1, .int a1), (2, .int (aS st.1)), (3, .int (aN st.1)), (4, .int (aAm st.1)), (6, .int t_9), (7, .int t_12), (8, .int v8_118), (9, .long v9_120), (11, .int v11_122)] → OB g aa F zt_18 s H_134 → va_S A s.heap H_134 locs_134 → (c_134 + (18 + n9_125 * 4) ≤ 201 ∧ s_134 + (108 + n9_125 * 24) ≤ 1206) → W p l e R s m args below meth c H_134 locs_134 c_134 s_134 Q (F0 m 482 ls []) := by
                    intro H_134 locs_134 c_134 s_134 ls hyp hl hOt_134 hS_134 hc_134
                    replace hyp := (eJ_135).symm.trans hyp
                    refine lv_iconst (v := 1) hx hb dL_follows_482 (by decide) ?_
                    refine lv_goto (tgt := 487) hx hb dL_follows_483 (by decide) ?_
                    exact kJ_133 1 _ _ _ _ ls hyp hl hOt_134 hS_134 (by omega)
                  refine lv_if_lt (tgt := 482) hx hb dL_follows_464 (by decide) (fun h_136 => ?_) (fun h_136 => ?_)
                  · replace hyp := ite_t h_136 hyp
                    exact kJ_135 _ _ _ _ ls hyp (lv_sub hl [2, 3, 4, 5, 6, 8, 9, 10, 11, 12] rfl) hOt_129 hS_129 (by omega)
                  · replace hyp := ite_f h_136 hyp
                    refine lv_lload hx hb dL_follows_467 (lv_at hl 0 rfl) ?_
                    refine lv_lload hx hb dL_follows_469 (lv_at hl 11 rfl) ?_
                    refine W.lcmp hx hb dL_follows_471 ?_
                    obtain ⟨J_138, eJ_138, hyp⟩ := jn_e hyp
                    have kJ_138 : ∀ (H_137 : Heap) (locs_137 : List Loc) (c_137 s_137 : Nat) (ls : Array Slot), J_138 = some r → lv_has ls 22 [(0, .ref (aa 0)), (1, .int a1), (2, .int (aS st.1)), (3, .int (aN st.1)), (4, .int (aAm st.1)), (6, .int t_9), (7, .int t_12), (8, .int v8_118), (9, .long v9_120), (11, .int v11_122)] → OB g aa F zt_18 s H_137 → va_S A s.heap H_137 locs_137 → (c_137 + (18 + n9_125 * 4) ≤ 201 ∧ s_137 + (108 + n9_125 * 24) ≤ 1206) → W p l e R s m args below meth c H_137 locs_137 c_137 s_137 Q (F0 m 486 ls []) := by
                      intro H_137 locs_137 c_137 s_137 ls hyp hl hOt_137 hS_137 hc_137
                      replace hyp := (eJ_138).symm.trans hyp
                      refine lv_iconst (v := 0) hx hb dL_follows_486 (by decide) ?_
                      exact kJ_133 0 _ _ _ _ ls hyp hl hOt_137 hS_137 (by omega)
                    refine lv_if_ne (tgt := 486) hx hb dL_follows_472 (by decide) (fun h_139 => ?_) (fun h_139 => ?_)
                    · replace hyp := ite_f h_139 hyp
                      exact kJ_138 _ _ _ _ ls hyp (lv_sub hl [2, 3, 4, 5, 6, 8, 9, 10, 11, 12] rfl) hOt_129 hS_129 (by omega)
                    · replace hyp := ite_t h_139 hyp
                      refine lv_iload hx hb dL_follows_475 (lv_at hl 10 rfl) ?_
                      refine lv_iload hx hb dL_follows_477 (lv_at hl 1 rfl) ?_
                      refine lv_icmp_gt (tgt := 486) hx hb dL_follows_479 (by decide) (fun h_140 => ?_) (fun h_140 => ?_)
                      · replace hyp := ite_t h_140 hyp
                        exact kJ_138 _ _ _ _ ls hyp (lv_sub hl [2, 3, 4, 5, 6, 8, 9, 10, 11, 12] rfl) hOt_129 hS_129 (by omega)
                      · replace hyp := ite_f h_140 hyp
                        exact kJ_135 _ _ _ _ ls hyp (lv_sub hl [2, 3, 4, 5, 6, 8, 9, 10, 11, 12] rfl) hOt_129 hS_129 (by omega)
        refine lv_icmp_ge (tgt := 382) hx hb dL_follows_74 (by decide) (fun h_141 => ?_) (fun h_141 => ?_)
        · replace hyp := ite_t h_141 hyp
          exact kJ_22 _ _ _ _ ls hyp (lv_sub hl [0, 1, 2, 3, 4, 5, 6, 7] rfl) hOt_17 hS_17 (by omega)
        · replace hyp := ite_f h_141 hyp
          refine lv_iload hx hb dL_follows_77 (lv_at hl 5 rfl) ?_
          refine lv_if_eq (tgt := 382) hx hb dL_follows_79 (by decide) (fun h_142 => ?_) (fun h_142 => ?_)
          · replace hyp := ite_t h_142 hyp
            exact kJ_22 _ _ _ _ ls hyp (lv_sub hl [0, 1, 2, 3, 4, 5, 6, 7] rfl) hOt_17 hS_17 (by omega)
          · replace hyp := ite_f h_142 hyp
            refine lv_aload_n hx hb dL_follows_82 rfl (lv_at hl 0 rfl) ?_
            refine lv_iload hx hb dL_follows_83 (lv_at hl 6 rfl) ?_
            refine lv_iload hx hb dL_follows_85 (lv_at hl 8 rfl) ?_
            refine hc_moveAt (rest := []) C hA hOt_17 hS_17 t_9 v8_16 ml_L_173 (Nat.le_trans (Nat.le_of_ble_eq_true rfl) hRf) (Nat.le_trans (Nat.le_of_ble_eq_true rfl) hRl) hl.1 (Nat.le_of_ble_eq_true rfl) dL_follows_87 ⟨by omega, by omega⟩ (fun H_143 locs_143 hOt_143 hS_143 hfr_143 => ?_)
            generalize hq1 : c_17 + 2 = c_143, hq2 : s_17 + 12 = s_143
            have hc_143 : c_143 + (70 + n9_20 * 18) ≤ 201 ∧ s_143 + (420 + n9_20 * 108) ≤ 1206 := by omega
            clear hS_17 hfr_143 hOt_17
            refine lv_l2i hx hb dL_follows_90 rfl ?_
            refine lv_istore (lv' := [(9, .int ((v_moveAt (aF zt_18.1) t_9 v8_16).toInt32)), (0, .ref (aa 0)), (1, .int a1), (2, .int (aS st.1)), (3, .int (aN st.1)), (4, .int (aAm st.1)), (5, .int v5_15), (6, .int t_9), (7, .int t_12), (8, .int v8_16)]) hx hb dL_follows_91 hl (by decide) rfl (fun ls hl => ?_)
            refine lv_iload hx hb dL_follows_93 (lv_at hl 0 rfl) ?_
            refine lv_bipush (v := 49) hx hb dL_follows_95 (by decide) ?_
            refine lv_idiv hx hb dL_follows_97 (by decide) ?_
            obtain ⟨v10_144, ev10_144, hyp⟩ := bnd_e hyp
            refine lv_eqi ev10_144 ?_
            refine lv_istore (lv' := [(10, .int v10_144), (9, .int ((v_moveAt (aF zt_18.1) t_9 v8_16).toInt32)), (0, .ref (aa 0)), (1, .int a1), (2, .int (aS st.1)), (3, .int (aN st.1)), (4, .int (aAm st.1)), (5, .int v5_15), (6, .int t_9), (7, .int t_12), (8, .int v8_16)]) hx hb dL_follows_98 hl (by decide) rfl (fun ls hl => ?_)
            refine lv_iload hx hb dL_follows_100 (lv_at hl 1 rfl) ?_
            refine lv_bipush (v := 49) hx hb dL_follows_102 (by decide) ?_
            refine lv_irem hx hb dL_follows_104 (by decide) ?_
            obtain ⟨v11_145, ev11_145, hyp⟩ := bnd_e hyp
            refine lv_eqi ev11_145 ?_
            refine lv_istore (lv' := [(11, .int v11_145), (10, .int v10_144), (9, .int ((v_moveAt (aF zt_18.1) t_9 v8_16).toInt32)), (0, .ref (aa 0)), (1, .int a1), (2, .int (aS st.1)), (3, .int (aN st.1)), (4, .int (aAm st.1)), (5, .int v5_15), (6, .int t_9), (7, .int t_12), (8, .int v8_16)]) hx hb dL_follows_105 hl (by decide) rfl (fun ls hl => ?_)
            refine lv_aload_n hx hb dL_follows_107 rfl (lv_at hl 3 rfl) ?_
            refine lv_iload hx hb dL_follows_108 (lv_at hl 1 rfl) ?_
            refine lv_iload hx hb dL_follows_110 (lv_at hl 0 rfl) ?_
            refine hc_wouldTake (rest := []) C hA hOt_143 hS_143 v10_144 v11_145 ml_L_164 (Nat.le_trans (Nat.le_of_ble_eq_true rfl) hRf) (Nat.le_trans (Nat.le_of_ble_eq_true rfl) hRl) hl.1 (Nat.le_of_ble_eq_true rfl) dL_follows_112 ⟨by omega, by omega⟩ (fun H_146 locs_146 hOt_146 hS_146 hfr_146 => ?_)
            generalize hq1 : c_143 + 2 = c_146, hq2 : s_143 + 12 = s_146
            have hc_146 : c_146 + (68 + n9_20 * 18) ≤ 201 ∧ s_146 + (408 + n9_20 * 108) ≤ 1206 := by omega
            clear hS_143 hfr_146 hOt_143
            obtain ⟨v12_147, ev12_147, hyp⟩ := bnd_e hyp
            refine lv_eqj ev12_147 ?_
            refine lv_lstore (lv' := [(12, .long v12_147), (11, .int v11_145), (10, .int v10_144), (9, .int ((v_moveAt (aF zt_18.1) t_9 v8_16).toInt32)), (0, .ref (aa 0)), (1, .int a1), (2, .int (aS st.1)), (3, .int (aN st.1)), (4, .int (aAm st.1)), (5, .int v5_15), (6, .int t_9), (7, .int t_12), (8, .int v8_16)]) hx hb dL_follows_115 hl (by decide) rfl (fun ls hl => ?_)
            refine lv_aload_n hx hb dL_follows_117 rfl (lv_at hl 4 rfl) ?_
            refine lv_iload hx hb dL_follows_118 (lv_at hl 2 rfl) ?_
            refine lv_iload hx hb dL_follows_120 (lv_at hl 1 rfl) ?_
            refine hc_wouldWin (rest := []) C hA hOt_146 hS_146 v10_144 v11_145 ml_L_166 (Nat.le_trans (Nat.le_of_ble_eq_true rfl) hRf) (Nat.le_trans (Nat.le_of_ble_eq_true rfl) hRl) hl.1 (Nat.le_of_ble_eq_true rfl) dL_follows_122 ⟨by omega, by omega⟩ (fun H_148 locs_148 hOt_148 hS_148 hfr_148 => ?_)
            generalize hq1 : c_146 + 2 = c_148, hq2 : s_146 + 12 = s_148
            have hc_148 : c_148 + (66 + n9_20 * 18) ≤ 201 ∧ s_148 + (396 + n9_20 * 108) ≤ 1206 := by omega
            clear hS_146 hfr_148 hOt_146
            obtain ⟨v14_149, ev14_149, hyp⟩ := bnd_e hyp
            refine lv_eqj ev14_149 ?_
            refine lv_lstore (lv' := [(14, .long v14_149), (12, .long v12_147), (11, .int v11_145), (10, .int v10_144), (9, .int ((v_moveAt (aF zt_18.1) t_9 v8_16).toInt32)), (0, .ref (aa 0)), (1, .int a1), (2, .int (aS st.1)), (3, .int (aN st.1)), (4, .int (aAm st.1)), (5, .int v5_15), (6, .int t_9), (7, .int t_12), (8, .int v8_16)]) hx hb dL_follows_125 hl (by decide) rfl (fun ls hl => ?_)
            refine lv_aload_n hx hb dL_follows_127 rfl (lv_at hl 5 rfl) ?_
            refine lv_iload hx hb dL_follows_128 (lv_at hl 3 rfl) ?_
            refine lv_iload hx hb dL_follows_130 (lv_at hl 2 rfl) ?_
            refine hc_worthOf (rest := []) C hA hOt_148 hS_148 v10_144 v11_145 ml_L_168 (Nat.le_trans (Nat.le_of_ble_eq_true rfl) hRf) (Nat.le_trans (Nat.le_of_ble_eq_true rfl) hRl) hl.1 (Nat.le_of_ble_eq_true rfl) dL_follows_132 ⟨by omega, by omega⟩ (fun H_150 locs_150 hOt_150 hS_150 hfr_150 => ?_)
            generalize hq1 : c_148 + 2 = c_150, hq2 : s_148 + 12 = s_150
            have hc_150 : c_150 + (64 + n9_20 * 18) ≤ 201 ∧ s_150 + (384 + n9_20 * 108) ≤ 1206 := by omega
            clear hS_148 hfr_150 hOt_148
            obtain ⟨v16_151, ev16_151, hyp⟩ := bnd_e hyp
            refine lv_eqj ev16_151 ?_
            refine lv_lstore (lv' := [(16, .long v16_151), (14, .long v14_149), (12, .long v12_147), (11, .int v11_145), (10, .int v10_144), (9, .int ((v_moveAt (aF zt_18.1) t_9 v8_16).toInt32)), (0, .ref (aa 0)), (1, .int a1), (2, .int (aS st.1)), (3, .int (aN st.1)), (4, .int (aAm st.1)), (5, .int v5_15), (6, .int t_9), (7, .int t_12), (8, .int v8_16)]) hx hb dL_follows_135 hl (by decide) rfl (fun ls hl => ?_)
            refine lv_aload_n hx hb dL_follows_137 rfl (lv_at hl 6 rfl) ?_
            refine lv_iconst (v := 1) hx hb dL_follows_138 (by decide) ?_
            refine lv_iload hx hb dL_follows_139 (lv_at hl 12 rfl) ?_
            refine lv_isub hx hb dL_follows_141 ?_
            refine hc_takenOf (rest := []) C hA hOt_150 hS_150 (1 - t_9) ml_L_179 (Nat.le_trans (Nat.le_of_ble_eq_true rfl) hRf) (Nat.le_trans (Nat.le_of_ble_eq_true rfl) hRl) hl.1 (Nat.le_of_ble_eq_true rfl) dL_follows_142 ⟨by omega, by omega⟩ (fun H_152 locs_152 hOt_152 hS_152 hfr_152 => ?_)
            generalize hq1 : c_150 + 1 = c_152, hq2 : s_150 + 6 = s_152
            have hc_152 : c_152 + (63 + n9_20 * 18) ≤ 201 ∧ s_152 + (378 + n9_20 * 108) ≤ 1206 := by omega
            clear hS_150 hfr_152 hOt_150
            refine lv_lstore (lv' := [(18, .long (v_ofSide (aT1 zt_18.1) (aT2 zt_18.1) (1 - t_9))), (16, .long v16_151), (14, .long v14_149), (12, .long v12_147), (11, .int v11_145), (10, .int v10_144), (9, .int ((v_moveAt (aF zt_18.1) t_9 v8_16).toInt32)), (0, .ref (aa 0)), (1, .int a1), (2, .int (aS st.1)), (3, .int (aN st.1)), (4, .int (aAm st.1)), (5, .int v5_15), (6, .int t_9), (7, .int t_12), (8, .int v8_16)]) hx hb dL_follows_145 hl (by decide) rfl (fun ls hl => ?_)
            refine lv_aload_n hx hb dL_follows_147 rfl (lv_at hl 7 rfl) ?_
            refine lv_iload hx hb dL_follows_148 (lv_at hl 13 rfl) ?_
            refine hc_wins (rest := []) C hA hOt_152 hS_152 t_9 ml_L_177 (Nat.le_trans (Nat.le_of_ble_eq_true rfl) hRf) (Nat.le_trans (Nat.le_of_ble_eq_true rfl) hRl) hl.1 (Nat.le_of_ble_eq_true rfl) dL_follows_150 ⟨by omega, by omega⟩ (fun H_153 locs_153 hOt_153 hS_153 hfr_153 => ?_)
            generalize hq1 : c_152 + 1 = c_153, hq2 : s_152 + 6 = s_153
            have hc_153 : c_153 + (62 + n9_20 * 18) ≤ 201 ∧ s_153 + (372 + n9_20 * 108) ≤ 1206 := by omega
            clear hS_152 hfr_153 hOt_152
            refine lv_lstore (lv' := [(20, .long (v_ofSide (aW1 zt_18.1) (aW2 zt_18.1) t_9)), (18, .long (v_ofSide (aT1 zt_18.1) (aT2 zt_18.1) (1 - t_9))), (16, .long v16_151), (14, .long v14_149), (12, .long v12_147), (11, .int v11_145), (10, .int v10_144), (9, .int ((v_moveAt (aF zt_18.1) t_9 v8_16).toInt32)), (0, .ref (aa 0)), (1, .int a1), (2, .int (aS st.1)), (3, .int (aN st.1)), (4, .int (aAm st.1)), (5, .int v5_15), (6, .int t_9), (7, .int t_12), (8, .int v8_16)]) hx hb dL_follows_153 hl (by decide) rfl (fun ls hl => ?_)
            refine lv_aload_n hx hb dL_follows_155 rfl (lv_at hl 8 rfl) ?_
            refine lv_iload hx hb dL_follows_156 (lv_at hl 6 rfl) ?_
            refine lv_iload hx hb dL_follows_158 (lv_at hl 5 rfl) ?_
            obtain ⟨r_155, hr_155, hyp⟩ := opt_e hyp
            refine hc_move (rest := []) C hA hOt_153 hS_153 v10_144 v11_145 hr_155 ml_L_135 (Nat.le_trans (Nat.le_of_ble_eq_true rfl) hRf) (Nat.le_trans (Nat.le_of_ble_eq_true rfl) hRl) hl.1 (Nat.le_of_ble_eq_true rfl) dL_follows_160 ⟨by omega, by omega⟩ (fun H_154 locs_154 hOt_154 hS_154 hfr_154 => ?_)
            generalize hq1 : c_153 + 2 = c_154, hq2 : s_153 + 12 = s_154
            have hc_154 : c_154 + (60 + n9_20 * 18) ≤ 201 ∧ s_154 + (360 + n9_20 * 108) ≤ 1206 := by omega
            clear hS_153 hfr_154 hOt_153
            refine lv_lload hx hb dL_follows_163 (lv_at hl 4 rfl) ?_
            refine W.lcmp hx hb dL_follows_165 ?_
            obtain ⟨J_159, eJ_159, hyp⟩ := jn_e hyp
            have kJ_159 : ∀ (t_156 : Int32) (zt_158 : PS) (H_157 : Heap) (locs_157 : List Loc) (c_157 s_157 : Nat) (ls : Array Slot), J_159 t_156 zt_158 = some r → lv_has ls 22 [(0, .ref (aa 0)), (1, .int a1), (2, .int (aS st.1)), (3, .int (aN st.1)), (4, .int (aAm st.1)), (6, .int t_9), (7, .int t_12), (8, .int v8_16)] → OB g aa F zt_158 s H_157 → va_S A s.heap H_157 locs_157 → (c_157 + (54 + n9_20 * 18) ≤ 201 ∧ s_157 + (324 + n9_20 * 108) ≤ 1206) → W p l e R s m args below meth c H_157 locs_157 c_157 s_157 Q (F0 m 365 ls [.int t_156]) := by
              intro t_156 zt_158 H_157 locs_157 c_157 s_157 ls hyp hl hOt_157 hS_157 hc_157
              replace hyp := (congrFun (congrFun (eJ_159) t_156) zt_158).symm.trans hyp
              refine lv_istore (lv' := [(5, .int t_156), (0, .ref (aa 0)), (1, .int a1), (2, .int (aS st.1)), (3, .int (aN st.1)), (4, .int (aAm st.1)), (6, .int t_9), (7, .int t_12), (8, .int v8_16)]) hx hb dL_follows_365 hl (by decide) rfl (fun ls hl => ?_)
              refine lv_iload hx hb dL_follows_367 (lv_at hl 8 rfl) ?_
              refine lv_iconst (v := 1) hx hb dL_follows_369 (by decide) ?_
              refine lv_iload hx hb dL_follows_370 (lv_at hl 7 rfl) ?_
              refine lv_bipush (v := 6) hx hb dL_follows_372 (by decide) ?_
              refine lv_idiv hx hb dL_follows_374 (by decide) ?_
              refine lv_iadd hx hb dL_follows_375 ?_
              refine lv_iadd hx hb dL_follows_376 ?_
              refine lv_istore (lv' := [(8, .int (v8_16 + (1 + (t_12 / 6)))), (5, .int t_156), (0, .ref (aa 0)), (1, .int a1), (2, .int (aS st.1)), (3, .int (aN st.1)), (4, .int (aAm st.1)), (6, .int t_9), (7, .int t_12)]) hx hb dL_follows_377 hl (by decide) rfl (fun ls hl => ?_)
              refine lv_goto (tgt := 70) hx hb dL_follows_379 (by decide) ?_
              exact ihself_19 t_156 (v8_16 + (1 + (t_12 / 6))) zt_158 hyp _ _ _ _ ls (lv_sub hl [2, 3, 4, 5, 6, 1, 7, 8, 0] rfl) hOt_157 hS_157 (by omega)
            obtain ⟨J_162, eJ_162, hyp⟩ := jn_e hyp
            have kJ_162 : ∀ (zt_161 : PS) (H_160 : Heap) (locs_160 : List Loc) (c_160 s_160 : Nat) (ls : Array Slot), J_162 zt_161 = some r → lv_has ls 22 [(0, .ref (aa 0)), (1, .int a1), (2, .int (aS st.1)), (3, .int (aN st.1)), (4, .int (aAm st.1)), (6, .int t_9), (7, .int t_12), (8, .int v8_16)] → OB g aa F zt_161 s H_160 → va_S A s.heap H_160 locs_160 → (c_160 + (54 + n9_20 * 18) ≤ 201 ∧ s_160 + (324 + n9_20 * 108) ≤ 1206) → W p l e R s m args below meth c H_160 locs_160 c_160 s_160 Q (F0 m 364 ls []) := by
              intro zt_161 H_160 locs_160 c_160 s_160 ls hyp hl hOt_160 hS_160 hc_160
              replace hyp := (congrFun (eJ_162) zt_161).symm.trans hyp
              refine lv_iconst (v := 0) hx hb dL_follows_364 (by decide) ?_
              exact kJ_159 0 zt_161 _ _ _ _ ls hyp hl hOt_160 hS_160 (by omega)
            refine lv_if_ne (tgt := 364) hx hb dL_follows_166 (by decide) (fun h_163 => ?_) (fun h_163 => ?_)
            · replace hyp := ite_f h_163 hyp
              exact kJ_162 r_155.2 _ _ _ _ ls hyp (lv_sub hl [8, 9, 10, 11, 12, 14, 15, 16] rfl) hOt_154 hS_154 (by omega)
            · replace hyp := ite_t h_163 hyp
              refine lv_aload_n hx hb dL_follows_169 rfl (lv_at hl 8 rfl) ?_
              refine lv_iconst (v := 1) hx hb dL_follows_170 (by decide) ?_
              refine lv_iload hx hb dL_follows_171 (lv_at hl 14 rfl) ?_
              refine lv_isub hx hb dL_follows_173 ?_
              refine hc_takenOf (rest := []) C hA hOt_154 hS_154 (1 - t_9) ml_L_179 (Nat.le_trans (Nat.le_of_ble_eq_true rfl) hRf) (Nat.le_trans (Nat.le_of_ble_eq_true rfl) hRl) hl.1 (Nat.le_of_ble_eq_true rfl) dL_follows_174 ⟨by omega, by omega⟩ (fun H_164 locs_164 hOt_164 hS_164 hfr_164 => ?_)
              generalize hq1 : c_154 + 1 = c_164, hq2 : s_154 + 6 = s_164
              have hc_164 : c_164 + (59 + n9_20 * 18) ≤ 201 ∧ s_164 + (354 + n9_20 * 108) ≤ 1206 := by omega
              clear hS_154 hfr_164 hOt_154
              refine lv_lload hx hb dL_follows_177 (lv_at hl 1 rfl) ?_
              refine lv_lload hx hb dL_follows_179 (lv_at hl 4 rfl) ?_
              refine lv_ladd hx hb dL_follows_181 ?_
              refine W.lcmp hx hb dL_follows_182 ?_
              refine lv_if_ne (tgt := 364) hx hb dL_follows_183 (by decide) (fun h_165 => ?_) (fun h_165 => ?_)
              · replace hyp := ite_f h_165 hyp
                exact kJ_162 r_155.2 _ _ _ _ ls hyp (lv_sub hl [8, 9, 10, 11, 12, 14, 15, 16] rfl) hOt_164 hS_164 (by omega)
              · replace hyp := ite_t h_165 hyp
                refine lv_aload_n hx hb dL_follows_186 rfl (lv_at hl 8 rfl) ?_
                refine hc_moves (rest := []) C hA hOt_164 hS_164 ml_L_211 (Nat.le_trans (Nat.le_of_ble_eq_true rfl) hRf) (Nat.le_trans (Nat.le_of_ble_eq_true rfl) hRl) hl.1 (Nat.le_of_ble_eq_true rfl) dL_follows_187 ⟨by omega, by omega⟩ (fun H_166 locs_166 hOt_166 hS_166 hfr_166 => ?_)
                generalize hq1 : c_164 + 0 = c_166, hq2 : s_164 + 0 = s_166
                have hc_166 : c_166 + (59 + n9_20 * 18) ≤ 201 ∧ s_166 + (354 + n9_20 * 108) ≤ 1206 := by omega
                clear hS_164 hfr_166 hOt_164
                refine lv_iload_n hx hb dL_follows_190 rfl (lv_at hl 11 rfl) ?_
                refine lv_iconst (v := 1) hx hb dL_follows_191 (by decide) ?_
                refine lv_iadd hx hb dL_follows_192 ?_
                refine lv_icmp_ne (tgt := 364) hx hb dL_follows_193 (by decide) (fun h_167 => ?_) (fun h_167 => ?_)
                · replace hyp := ite_f h_167 hyp
                  exact kJ_162 r_155.2 _ _ _ _ ls hyp (lv_sub hl [8, 9, 10, 11, 12, 14, 15, 16] rfl) hOt_166 hS_166 (by omega)
                · replace hyp := ite_t h_167 hyp
                  refine lv_aload_n hx hb dL_follows_196 rfl (lv_at hl 8 rfl) ?_
                  refine hc_allMoves (rest := []) C hA hOt_166 hS_166 ml_L_214 (Nat.le_trans (Nat.le_of_ble_eq_true rfl) hRf) (Nat.le_trans (Nat.le_of_ble_eq_true rfl) hRl) hl.1 (Nat.le_of_ble_eq_true rfl) dL_follows_197 ⟨by omega, by omega⟩ (fun H_168 locs_168 hOt_168 hS_168 hfr_168 => ?_)
                  generalize hq1 : c_166 + 0 = c_168, hq2 : s_166 + 0 = s_168
                  have hc_168 : c_168 + (59 + n9_20 * 18) ≤ 201 ∧ s_168 + (354 + n9_20 * 108) ≤ 1206 := by omega
                  clear hS_166 hfr_168 hOt_166
                  refine lv_iload hx hb dL_follows_200 (lv_at hl 12 rfl) ?_
                  refine lv_iconst (v := 1) hx hb dL_follows_202 (by decide) ?_
                  refine lv_iadd hx hb dL_follows_203 ?_
                  refine lv_icmp_ne (tgt := 364) hx hb dL_follows_204 (by decide) (fun h_169 => ?_) (fun h_169 => ?_)
                  · replace hyp := ite_f h_169 hyp
                    exact kJ_162 r_155.2 _ _ _ _ ls hyp (lv_sub hl [8, 9, 10, 11, 12, 14, 15, 16] rfl) hOt_168 hS_168 (by omega)
                  · replace hyp := ite_t h_169 hyp
                    refine lv_aload_n hx hb dL_follows_207 rfl (lv_at hl 8 rfl) ?_
                    refine lv_iload hx hb dL_follows_208 (lv_at hl 5 rfl) ?_
                    refine lv_bipush (v := 7) hx hb dL_follows_210 (by decide) ?_
                    refine lv_idiv hx hb dL_follows_212 (by decide) ?_
                    refine lv_iload hx hb dL_follows_213 (lv_at hl 5 rfl) ?_
                    refine lv_bipush (v := 7) hx hb dL_follows_215 (by decide) ?_
                    refine lv_irem hx hb dL_follows_217 (by decide) ?_
                    refine hc_pieceAt (rest := []) C hA hOt_168 hS_168 (v11_145 / 7) (v11_145 - v11_145 / 7 * 7) ml_L_144 (Nat.le_trans (Nat.le_of_ble_eq_true rfl) hRf) (Nat.le_trans (Nat.le_of_ble_eq_true rfl) hRl) hl.1 (Nat.le_of_ble_eq_true rfl) dL_follows_218 ⟨by omega, by omega⟩ (fun H_170 locs_170 hOt_170 hS_170 hfr_170 => ?_)
                    generalize hq1 : c_168 + 1 = c_170, hq2 : s_168 + 6 = s_170
                    have hc_170 : c_170 + (58 + n9_20 * 18) ≤ 201 ∧ s_170 + (348 + n9_20 * 108) ≤ 1206 := by omega
                    clear hS_168 hfr_170 hOt_168
                    refine lv_lconst (v := 0) hx hb dL_follows_221 (by decide) ?_
                    refine W.lcmp hx hb dL_follows_222 ?_
                    refine lv_if_le (tgt := 364) hx hb dL_follows_223 (by decide) (fun h_171 => ?_) (fun h_171 => ?_)
                    · replace hyp := ite_t h_171 hyp
                      exact kJ_162 r_155.2 _ _ _ _ ls hyp (lv_sub hl [8, 9, 10, 11, 12, 14, 15, 16] rfl) hOt_170 hS_170 (by omega)
                    · replace hyp := ite_f h_171 hyp
                      refine lv_aload_n hx hb dL_follows_226 rfl (lv_at hl 8 rfl) ?_
                      refine lv_iload hx hb dL_follows_227 (lv_at hl 6 rfl) ?_
                      refine lv_bipush (v := 7) hx hb dL_follows_229 (by decide) ?_
                      refine lv_idiv hx hb dL_follows_231 (by decide) ?_
                      refine lv_iload hx hb dL_follows_232 (lv_at hl 6 rfl) ?_
                      refine lv_bipush (v := 7) hx hb dL_follows_234 (by decide) ?_
                      refine lv_irem hx hb dL_follows_236 (by decide) ?_
                      refine hc_pieceAt (rest := []) C hA hOt_170 hS_170 (v10_144 / 7) (v10_144 - v10_144 / 7 * 7) ml_L_144 (Nat.le_trans (Nat.le_of_ble_eq_true rfl) hRf) (Nat.le_trans (Nat.le_of_ble_eq_true rfl) hRl) hl.1 (Nat.le_of_ble_eq_true rfl) dL_follows_237 ⟨by omega, by omega⟩ (fun H_172 locs_172 hOt_172 hS_172 hfr_172 => ?_)
                      generalize hq1 : c_170 + 1 = c_172, hq2 : s_170 + 6 = s_172
                      have hc_172 : c_172 + (57 + n9_20 * 18) ≤ 201 ∧ s_172 + (342 + n9_20 * 108) ≤ 1206 := by omega
                      clear hS_170 hfr_172 hOt_170
                      refine lv_lconst (v := 0) hx hb dL_follows_240 (by decide) ?_
                      refine W.lcmp hx hb dL_follows_241 ?_
                      refine lv_if_ne (tgt := 364) hx hb dL_follows_242 (by decide) (fun h_173 => ?_) (fun h_173 => ?_)
                      · replace hyp := ite_f h_173 hyp
                        exact kJ_162 r_155.2 _ _ _ _ ls hyp (lv_sub hl [8, 9, 10, 11, 12, 14, 15, 16] rfl) hOt_172 hS_172 (by omega)
                      · replace hyp := ite_t h_173 hyp
                        refine lv_lload hx hb dL_follows_245 (lv_at hl 3 rfl) ?_
                        refine lv_lconst (v := 1) hx hb dL_follows_247 (by decide) ?_
                        refine W.lcmp hx hb dL_follows_248 ?_
                        obtain ⟨J_176, eJ_176, hyp⟩ := jn_e hyp
                        have kJ_176 : ∀ (t_174 : Int32) (H_175 : Heap) (locs_175 : List Loc) (c_175 s_175 : Nat) (ls : Array Slot), J_176 t_174 = some r → lv_has ls 22 [(0, .ref (aa 0)), (1, .int a1), (2, .int (aS st.1)), (3, .int (aN st.1)), (4, .int (aAm st.1)), (6, .int t_9), (7, .int t_12), (8, .int v8_16), (12, .long v12_147), (14, .long v14_149), (16, .long v16_151), (20, .long (v_ofSide (aW1 zt_18.1) (aW2 zt_18.1) t_9))] → OB g aa F r_155.2 s H_175 → va_S A s.heap H_175 locs_175 → (c_175 + (57 + n9_20 * 18) ≤ 201 ∧ s_175 + (342 + n9_20 * 108) ≤ 1206) → W p l e R s m args below meth c H_175 locs_175 c_175 s_175 Q (F0 m 257 ls [.int t_174]) := by
                          intro t_174 H_175 locs_175 c_175 s_175 ls hyp hl hOt_175 hS_175 hc_175
                          replace hyp := (congrFun (eJ_176) t_174).symm.trans hyp
                          refine lv_aload_n hx hb dL_follows_257 rfl (lv_at hl 0 rfl) ?_
                          refine hc_standing (rest := [.int t_174]) C hA hOt_175 hS_175 ml_L_124 (Nat.le_trans (Nat.le_of_ble_eq_true rfl) hRf) (Nat.le_trans (Nat.le_of_ble_eq_true rfl) hRl) hl.1 (Nat.le_of_ble_eq_true rfl) dL_follows_258 ⟨by omega, by omega⟩ (fun H_177 locs_177 hOt_177 hS_177 hfr_177 => ?_)
                          generalize hq1 : c_175 + 0 = c_177, hq2 : s_175 + 0 = s_177
                          have hc_177 : c_177 + (57 + n9_20 * 18) ≤ 201 ∧ s_177 + (342 + n9_20 * 108) ≤ 1206 := by omega
                          clear hS_175 hfr_177 hOt_175
                          refine lv_iconst (v := 2) hx hb dL_follows_261 (by decide) ?_
                          refine lv_iload hx hb dL_follows_262 (lv_at hl 5 rfl) ?_
                          refine lv_iadd hx hb dL_follows_264 ?_
                          obtain ⟨J_180, eJ_180, hyp⟩ := jn_e hyp
                          have kJ_180 : ∀ (t_178 : Int32) (H_179 : Heap) (locs_179 : List Loc) (c_179 s_179 : Nat) (ls : Array Slot), J_180 t_178 = some r → lv_has ls 22 [(0, .ref (aa 0)), (1, .int a1), (2, .int (aS st.1)), (3, .int (aN st.1)), (4, .int (aAm st.1)), (6, .int t_9), (7, .int t_12), (8, .int v8_16), (12, .long v12_147), (14, .long v14_149), (16, .long v16_151), (20, .long (v_ofSide (aW1 zt_18.1) (aW2 zt_18.1) t_9))] → OB g aa F r_155.2 s H_179 → va_S A s.heap H_179 locs_179 → (c_179 + (57 + n9_20 * 18) ≤ 201 ∧ s_179 + (342 + n9_20 * 108) ≤ 1206) → W p l e R s m args below meth c H_179 locs_179 c_179 s_179 Q (F0 m 273 ls [.int t_178, .int t_174]) := by
                            intro t_178 H_179 locs_179 c_179 s_179 ls hyp hl hOt_179 hS_179 hc_179
                            replace hyp := (congrFun (eJ_180) t_178).symm.trans hyp
                            refine lv_icmp_ne (tgt := 364) hx hb dL_follows_273 (by decide) (fun h_181 => ?_) (fun h_181 => ?_)
                            · replace hyp := ite_f h_181 hyp
                              exact kJ_162 r_155.2 _ _ _ _ ls hyp (lv_sub hl [0, 1, 2, 3, 4, 5, 6, 7] rfl) hOt_179 hS_179 (by omega)
                            · replace hyp := ite_t h_181 hyp
                              refine lv_aload_n hx hb dL_follows_276 rfl (lv_at hl 0 rfl) ?_
                              refine lv_iload hx hb dL_follows_277 (lv_at hl 5 rfl) ?_
                              refine hc_wins (rest := []) C hA hOt_179 hS_179 t_9 ml_L_177 (Nat.le_trans (Nat.le_of_ble_eq_true rfl) hRf) (Nat.le_trans (Nat.le_of_ble_eq_true rfl) hRl) hl.1 (Nat.le_of_ble_eq_true rfl) dL_follows_279 ⟨by omega, by omega⟩ (fun H_182 locs_182 hOt_182 hS_182 hfr_182 => ?_)
                              generalize hq1 : c_179 + 1 = c_182, hq2 : s_179 + 6 = s_182
                              have hc_182 : c_182 + (56 + n9_20 * 18) ≤ 201 ∧ s_182 + (336 + n9_20 * 108) ≤ 1206 := by omega
                              clear hS_179 hfr_182 hOt_179
                              refine lv_lload hx hb dL_follows_282 (lv_at hl 11 rfl) ?_
                              refine lv_lload hx hb dL_follows_284 (lv_at hl 9 rfl) ?_
                              refine lv_ladd hx hb dL_follows_286 ?_
                              refine W.lcmp hx hb dL_follows_287 ?_
                              refine lv_if_ne (tgt := 364) hx hb dL_follows_288 (by decide) (fun h_183 => ?_) (fun h_183 => ?_)
                              · replace hyp := ite_f h_183 hyp
                                exact kJ_162 r_155.2 _ _ _ _ ls hyp (lv_sub hl [0, 1, 2, 3, 4, 5, 6, 7] rfl) hOt_182 hS_182 (by omega)
                              · replace hyp := ite_t h_183 hyp
                                refine lv_lload hx hb dL_follows_291 (lv_at hl 9 rfl) ?_
                                refine lv_lconst (v := 1) hx hb dL_follows_293 (by decide) ?_
                                refine W.lcmp hx hb dL_follows_294 ?_
                                obtain ⟨J_185, eJ_185, hyp⟩ := jn_e hyp
                                have kJ_185 : ∀ (H_184 : Heap) (locs_184 : List Loc) (c_184 s_184 : Nat) (ls : Array Slot), J_185 = some r → lv_has ls 22 [(0, .ref (aa 0)), (1, .int a1), (2, .int (aS st.1)), (3, .int (aN st.1)), (4, .int (aAm st.1)), (6, .int t_9), (7, .int t_12), (8, .int v8_16)] → OB g aa F r_155.2 s H_184 → va_S A s.heap H_184 locs_184 → (c_184 + (55 + n9_20 * 18) ≤ 201 ∧ s_184 + (330 + n9_20 * 108) ≤ 1206) → W p l e R s m args below meth c H_184 locs_184 c_184 s_184 Q (F0 m 335 ls []) := by
                                  intro H_184 locs_184 c_184 s_184 ls hyp hl hOt_184 hS_184 hc_184
                                  replace hyp := (eJ_185).symm.trans hyp
                                  refine lv_aload_n hx hb dL_follows_335 rfl (lv_at hl 0 rfl) ?_
                                  obtain ⟨r_187, hr_187, hyp⟩ := bnd_e hyp
                                  refine hc_undo (rest := []) C hA hOt_184 hS_184 ml_L_238 (Nat.le_trans (Nat.le_of_ble_eq_true rfl) hRf) (Nat.le_trans (Nat.le_of_ble_eq_true rfl) hRl) hl.1 (Nat.le_of_ble_eq_true rfl) dL_follows_336 ⟨by omega, by omega⟩ (fun H_186 locs_186 hOt_186 hS_186 hfr_186 => ?_)
                                  generalize hq1 : c_184 + 1 = c_186, hq2 : s_184 + 6 = s_186
                                  rw [← hr_187] at hOt_186 ⊢
                                  have hc_186 : c_186 + (54 + n9_20 * 18) ≤ 201 ∧ s_186 + (324 + n9_20 * 108) ≤ 1206 := by omega
                                  clear hS_184 hfr_186 hOt_184
                                  refine lv_lconst (v := 0) hx hb dL_follows_339 (by decide) ?_
                                  refine W.lcmp hx hb dL_follows_340 ?_
                                  refine lv_if_ne (tgt := 364) hx hb dL_follows_341 (by decide) (fun h_188 => ?_) (fun h_188 => ?_)
                                  · replace hyp := ite_f h_188 hyp
                                    exact kJ_162 r_187.2 _ _ _ _ ls hyp hl hOt_186 hS_186 (by omega)
                                  · replace hyp := ite_t h_188 hyp
                                    refine lv_aload_n hx hb dL_follows_344 rfl (lv_at hl 0 rfl) ?_
                                    refine hc_moves (rest := []) C hA hOt_186 hS_186 ml_L_211 (Nat.le_trans (Nat.le_of_ble_eq_true rfl) hRf) (Nat.le_trans (Nat.le_of_ble_eq_true rfl) hRl) hl.1 (Nat.le_of_ble_eq_true rfl) dL_follows_345 ⟨by omega, by omega⟩ (fun H_189 locs_189 hOt_189 hS_189 hfr_189 => ?_)
                                    generalize hq1 : c_186 + 0 = c_189, hq2 : s_186 + 0 = s_189
                                    have hc_189 : c_189 + (54 + n9_20 * 18) ≤ 201 ∧ s_189 + (324 + n9_20 * 108) ≤ 1206 := by omega
                                    clear hS_186 hfr_189 hOt_186
                                    refine lv_iload_n hx hb dL_follows_348 rfl (lv_at hl 3 rfl) ?_
                                    refine lv_icmp_ne (tgt := 364) hx hb dL_follows_349 (by decide) (fun h_190 => ?_) (fun h_190 => ?_)
                                    · replace hyp := ite_f h_190 hyp
                                      exact kJ_162 r_187.2 _ _ _ _ ls hyp hl hOt_189 hS_189 (by omega)
                                    · replace hyp := ite_t h_190 hyp
                                      refine lv_aload_n hx hb dL_follows_352 rfl (lv_at hl 0 rfl) ?_
                                      refine hc_standing (rest := []) C hA hOt_189 hS_189 ml_L_124 (Nat.le_trans (Nat.le_of_ble_eq_true rfl) hRf) (Nat.le_trans (Nat.le_of_ble_eq_true rfl) hRl) hl.1 (Nat.le_of_ble_eq_true rfl) dL_follows_353 ⟨by omega, by omega⟩ (fun H_191 locs_191 hOt_191 hS_191 hfr_191 => ?_)
                                      generalize hq1 : c_189 + 0 = c_191, hq2 : s_189 + 0 = s_191
                                      have hc_191 : c_191 + (54 + n9_20 * 18) ≤ 201 ∧ s_191 + (324 + n9_20 * 108) ≤ 1206 := by omega
                                      clear hS_189 hfr_191 hOt_189
                                      refine lv_iload_n hx hb dL_follows_356 rfl (lv_at hl 2 rfl) ?_
                                      refine lv_icmp_ne (tgt := 364) hx hb dL_follows_357 (by decide) (fun h_192 => ?_) (fun h_192 => ?_)
                                      · replace hyp := ite_f h_192 hyp
                                        exact kJ_162 r_187.2 _ _ _ _ ls hyp hl hOt_191 hS_191 (by omega)
                                      · replace hyp := ite_t h_192 hyp
                                        refine lv_iconst (v := 1) hx hb dL_follows_360 (by decide) ?_
                                        refine lv_goto (tgt := 365) hx hb dL_follows_361 (by decide) ?_
                                        exact kJ_159 1 r_187.2 _ _ _ _ ls hyp hl hOt_191 hS_191 (by omega)
                                refine lv_if_ne (tgt := 310) hx hb dL_follows_295 (by decide) (fun h_193 => ?_) (fun h_193 => ?_)
                                · replace hyp := ite_f h_193 hyp
                                  refine lv_lload hx hb dL_follows_310 (lv_at hl 10 rfl) ?_
                                  refine lv_ldc2 (v := 20) hx hb hown (hts _ ct_L_234) dL_follows_312 ?_
                                  refine lv_lload hx hb dL_follows_315 (lv_at hl 8 rfl) ?_
                                  refine lv_lmul hx hb dL_follows_317 ?_
                                  refine lv_ldc2 (v := 100) hx hb hown (hts _ ct_L_236) dL_follows_318 ?_
                                  refine lv_aload_n hx hb dL_follows_321 rfl (lv_at hl 0 rfl) ?_
                                  refine lv_iconst (v := 1) hx hb dL_follows_322 (by decide) ?_
                                  refine lv_iload hx hb dL_follows_323 (lv_at hl 5 rfl) ?_
                                  refine lv_isub hx hb dL_follows_325 ?_
                                  refine hc_winning (rest := [.long 100, .long (20 * v12_147), .long v16_151]) C hA hOt_182 hS_182 (1 - t_9) ml_L_170 (Nat.le_trans (Nat.le_of_ble_eq_true rfl) hRf) (Nat.le_trans (Nat.le_of_ble_eq_true rfl) hRl) hl.1 (Nat.le_of_ble_eq_true rfl) dL_follows_326 ⟨by omega, by omega⟩ (fun H_194 locs_194 hOt_194 hS_194 hfr_194 => ?_)
                                  generalize hq1 : c_182 + 1 = c_194, hq2 : s_182 + 6 = s_194
                                  have hc_194 : c_194 + (55 + n9_20 * 18) ≤ 201 ∧ s_194 + (330 + n9_20 * 108) ≤ 1206 := by omega
                                  clear hS_182 hfr_194 hOt_182
                                  refine lv_lmul hx hb dL_follows_329 ?_
                                  refine lv_lsub hx hb dL_follows_330 ?_
                                  refine W.lcmp hx hb dL_follows_331 ?_
                                  refine lv_if_ne (tgt := 364) hx hb dL_follows_332 (by decide) (fun h_195 => ?_) (fun h_195 => ?_)
                                  · replace hyp := ite_f h_195 hyp
                                    exact kJ_162 r_155.2 _ _ _ _ ls hyp (lv_sub hl [0, 1, 2, 3, 4, 5, 6, 7] rfl) hOt_194 hS_194 (by omega)
                                  · replace hyp := ite_t h_195 hyp
                                    exact kJ_185 _ _ _ _ ls hyp (lv_sub hl [0, 1, 2, 3, 4, 5, 6, 7] rfl) hOt_194 hS_194 (by omega)
                                · replace hyp := ite_t h_193 hyp
                                  refine lv_lload hx hb dL_follows_298 (lv_at hl 10 rfl) ?_
                                  refine lv_ldc2 (v := 1000) hx hb hown (hts _ ct_L_232) dL_follows_300 ?_
                                  refine W.lcmp hx hb dL_follows_303 ?_
                                  refine lv_if_ne (tgt := 364) hx hb dL_follows_304 (by decide) (fun h_196 => ?_) (fun h_196 => ?_)
                                  · replace hyp := ite_f h_196 hyp
                                    exact kJ_162 r_155.2 _ _ _ _ ls hyp (lv_sub hl [0, 1, 2, 3, 4, 5, 6, 7] rfl) hOt_182 hS_182 (by omega)
                                  · replace hyp := ite_t h_196 hyp
                                    refine lv_goto (tgt := 335) hx hb dL_follows_307 (by decide) ?_
                                    exact kJ_185 _ _ _ _ ls hyp (lv_sub hl [0, 1, 2, 3, 4, 5, 6, 7] rfl) hOt_182 hS_182 (by omega)
                          refine lv_icmp_ne (tgt := 272) hx hb dL_follows_265 (by decide) (fun h_197 => ?_) (fun h_197 => ?_)
                          · replace hyp := ite_f h_197 hyp
                            refine lv_iconst (v := 0) hx hb dL_follows_272 (by decide) ?_
                            exact kJ_180 0 _ _ _ _ ls hyp hl hOt_177 hS_177 (by omega)
                          · replace hyp := ite_t h_197 hyp
                            refine lv_iconst (v := 1) hx hb dL_follows_268 (by decide) ?_
                            refine lv_goto (tgt := 273) hx hb dL_follows_269 (by decide) ?_
                            exact kJ_180 1 _ _ _ _ ls hyp hl hOt_177 hS_177 (by omega)
                        refine lv_if_ne (tgt := 256) hx hb dL_follows_249 (by decide) (fun h_198 => ?_) (fun h_198 => ?_)
                        · replace hyp := ite_f h_198 hyp
                          refine lv_iconst (v := 0) hx hb dL_follows_256 (by decide) ?_
                          exact kJ_176 0 _ _ _ _ ls hyp (lv_sub hl [8, 9, 10, 11, 12, 14, 15, 16, 4, 3, 2, 0] rfl) hOt_172 hS_172 (by omega)
                        · replace hyp := ite_t h_198 hyp
                          refine lv_iconst (v := 1) hx hb dL_follows_252 (by decide) ?_
                          refine lv_goto (tgt := 257) hx hb dL_follows_253 (by decide) ?_
                          exact kJ_176 1 _ _ _ _ ls hyp (lv_sub hl [8, 9, 10, 11, 12, 14, 15, 16, 4, 3, 2, 0] rfl) hOt_172 hS_172 (by omega)
      refine lv_icmp_ne (tgt := 64) hx hb dL_follows_51 (by decide) (fun h_199 => ?_) (fun h_199 => ?_)
      · replace hyp := ite_f h_199 hyp
        refine lv_iconst (v := 0) hx hb dL_follows_64 (by decide) ?_
        exact kJ_14 0 _ _ _ _ ls hyp (lv_sub hl [1, 2, 3, 4, 5, 6, 0] rfl) hOt_10 hS_10 (by omega)
      · replace hyp := ite_t h_199 hyp
        refine lv_aload_n hx hb dL_follows_54 rfl (lv_at hl 1 rfl) ?_
        refine lv_iload hx hb dL_follows_55 (lv_at hl 0 rfl) ?_
        refine hc_byPieces (rest := []) C hA hOt_10 hS_10 t_9 ml_L_158 (Nat.le_trans (Nat.le_of_ble_eq_true rfl) hRf) (Nat.le_trans (Nat.le_of_ble_eq_true rfl) hRl) hl.1 (Nat.le_of_ble_eq_true rfl) dL_follows_57 ⟨by omega, by omega⟩ (fun H_200 locs_200 hOt_200 hS_200 hfr_200 => ?_)
        generalize hq1 : c_10 + 1 = c_200, hq2 : s_10 + 6 = s_200
        have hc_200 : c_200 + (198) ≤ 201 ∧ s_200 + (1188) ≤ 1206 := by omega
        clear hS_10 hfr_200 hOt_10
        refine lv_l2i hx hb dL_follows_60 rfl ?_
        refine lv_goto (tgt := 65) hx hb dL_follows_61 (by decide) ?_
        exact kJ_14 ((v_byPieces (aF r_5.2.1) t_9).toInt32) _ _ _ _ ls hyp (lv_sub hl [1, 2, 3, 4, 5, 6, 0] rfl) hOt_200 hS_200 (by omega)
    refine lv_icmp_ne (tgt := 46) hx hb dL_follows_35 (by decide) (fun h_201 => ?_) (fun h_201 => ?_)
    · replace hyp := ite_f h_201 hyp
      refine lv_iconst (v := 0) hx hb dL_follows_46 (by decide) ?_
      exact kJ_11 0 _ _ _ _ ls hyp (lv_sub hl [1, 2, 3, 4, 5, 0] rfl) hOt_7 hS_7 (by omega)
    · replace hyp := ite_t h_201 hyp
      refine lv_aload_n hx hb dL_follows_38 rfl (lv_at hl 1 rfl) ?_
      refine hc_turn (rest := []) C hA hOt_7 hS_7 ml_L_181 (Nat.le_trans (Nat.le_of_ble_eq_true rfl) hRf) (Nat.le_trans (Nat.le_of_ble_eq_true rfl) hRl) hl.1 (Nat.le_of_ble_eq_true rfl) dL_follows_39 ⟨by omega, by omega⟩ (fun H_202 locs_202 hOt_202 hS_202 hfr_202 => ?_)
      generalize hq1 : c_7 + 1 = c_202, hq2 : s_7 + 6 = s_202
      have hc_202 : c_202 + (199) ≤ 201 ∧ s_202 + (1194) ≤ 1206 := by omega
      clear hS_7 hfr_202 hOt_7
      refine lv_l2i hx hb dL_follows_42 rfl ?_
      refine lv_goto (tgt := 47) hx hb dL_follows_43 (by decide) ?_
      exact kJ_11 ((v_turn (aS r_5.2.1) (aM r_5.2.1)).toInt32) _ _ _ _ ls hyp (lv_sub hl [1, 2, 3, 4, 5, 0] rfl) hOt_202 hS_202 (by omega)
  refine lv_if_ne (tgt := 30) hx hb dL_follows_23 (by decide) (fun h_203 => ?_) (fun h_203 => ?_)
  · replace hyp := ite_f h_203 hyp
    refine lv_iconst (v := 0) hx hb dL_follows_30 (by decide) ?_
    exact kJ_8 0 _ _ _ _ ls hyp (lv_sub hl [3, 4, 2, 1, 0] rfl) hOt_4 hS_4 (by omega)
  · replace hyp := ite_t h_203 hyp
    refine lv_iconst (v := 1) hx hb dL_follows_26 (by decide) ?_
    refine lv_goto (tgt := 31) hx hb dL_follows_27 (by decide) ?_
    exact kJ_8 1 _ _ _ _ ls hyp (lv_sub hl [3, 4, 2, 1, 0] rfl) hOt_4 hS_4 (by omega)

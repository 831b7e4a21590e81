noncomputable def fL_kept_L703_B (st : PS) (self_22 : Int32 → Int32 → (Nat → Int32) → Option Int32) (v11_19 : Int32) (atf_21 : Nat → Int32) (self_42 : Int32 → Int64 → Int32 → Option Int32) (v5_38 : Int32) (v13_39 : Int64) (v15_40 : Int32) : Option Int32 :=
  jn (grd (inB v11_19 2) (self_22 v5_38 (v11_19 + 1) (upd atf_21 v11_19.toNatClampNeg ((v_byPieces (aF st.1) v11_19).toInt32)))) (fun J_45 => if ((v_byPieces (aF st.1) v11_19).toInt32) ≤ v15_40 then (J_45) else (if v5_38 = 0 then (J_45) else (jn (fun (t_50 : Int32) => bnd (v15_40 + (1 + (((v_byPieces (aF st.1) v11_19).toInt32) / 8))) (fun (v15_53 : Int32) => self_42 t_50 (v_moveAt (aF st.1) v11_19 v15_40) v15_53)) (fun J_52 => jn (J_52 0) (fun J_55 => if (lg_cmp (v_moveAt (aF st.1) v11_19 v15_40) v13_39) ≤ 0 then (J_55) else (if (lg_cmp (v_canMove (aF st.1) (((v_moveAt (aF st.1) v11_19 v15_40).toInt32) / 49) (((v_moveAt (aF st.1) v11_19 v15_40).toInt32) - ((v_moveAt (aF st.1) v11_19 v15_40).toInt32) / 49 * 49)) 1) = 0 then (jn (fun (t_60 : Int32) => jn (fun (t_63 : Int32) => if t_60 = t_63 then (J_52 1) else (J_55)) (fun J_65 => if v11_19 = 0 then (J_65 1) else (J_65 0))) (fun J_62 => if (lg_cmp (v_pieceAt (aF st.1) (((v_moveAt (aF st.1) v11_19 v15_40).toInt32) / 343) ((((v_moveAt (aF st.1) v11_19 v15_40).toInt32) / 49) - (((v_moveAt (aF st.1) v11_19 v15_40).toInt32) / 49) / 7 * 7)) 1) = 0 then (J_62 1) else (J_62 0))) else (J_55)))))))
noncomputable def fL_kept_L703 (st : PS) (self_22 : Int32 → Int32 → (Nat → Int32) → Option Int32) (v11_19 : Int32) (atf_21 : Nat → Int32) (n : Nat) (v5_38 : Int32) (v13_39 : Int64) (v15_40 : Int32) : Option Int32 := lp (fun zf z => fL_kept_L703_B st self_22 v11_19 atf_21 (fun v5_38 v13_39 v15_40 => zf (v5_38, v13_39, v15_40)) z.1 z.2.1 z.2.2) n (v5_38, v13_39, v15_40)
noncomputable def fL_kept_L621_B (st : PS) (v6_10 : Int64) (v8_11 : Int64) (self_22 : Int32 → Int32 → (Nat → Int32) → Option Int32) (v5_18 : Int32) (v11_19 : Int32) (atf_21 : Nat → Int32) : Option Int32 :=
  jn (if v5_18 = 0 then (some 0) else (grd (inB 0 2) (grd (inB 1 2) (if (lg_cmp v6_10 (((atf_21 (0 : Int32).toNatClampNeg) + (atf_21 (1 : Int32).toNatClampNeg)).toInt64)) = 0 then (if (lg_cmp v8_11 ((v_piecesOf (aF st.1) 0) + (v_piecesOf (aF st.1) 1))) = 0 then (some 1) else (some 0)) else (some 0))))) (fun J_25 => if 2 ≤ v11_19 then (J_25) else (if v5_18 = 0 then (J_25) else (jn (fun (t_35 : Int32) => fL_kept_L703 st self_22 v11_19 atf_21 10 t_35 (-1) 0) (fun J_37 => jn (J_37 0) (fun J_70 => if (lg_cmp (v_byPieces (aF st.1) v11_19) (((v_byPieces (aF st.1) v11_19).toInt32).toInt64)) = 0 then ((fL_in (v_winning (aF st.1) (aG st.1) v11_19) (0 : Int64) (((v_byPieces (aF st.1) v11_19).toInt32).toInt64)).bind (fun (r_73 : Int32) => if r_73 = 0 then (J_70) else (jn (J_37 1) (fun J_76 => if 0 < ((v_byPieces (aF st.1) v11_19).toInt32) then (J_76) else (if (lg_cmp (v_bestMove (aF st.1) (aG st.1) v11_19) (-9000000000000000003)) = 0 then (J_76) else (J_70)))))) else (J_70))))))
noncomputable def fL_kept_L621 (st : PS) (v6_10 : Int64) (v8_11 : Int64) (n : Nat) (v5_18 : Int32) (v11_19 : Int32) (atf_21 : Nat → Int32) : Option Int32 := lp (fun zf z => fL_kept_L621_B st v6_10 v8_11 (fun v5_18 v11_19 atf_21 => zf (v5_18, v11_19, atf_21)) z.1 z.2.1 z.2.2) n (v5_18, v11_19, atf_21)
noncomputable def fL_kept_L243_B (st : PS) (a1 : Int32) (self_14 : Int32 → Int64 → Int64 → Int32 → Option Int32) (v5_9 : Int32) (v6_10 : Int64) (v8_11 : Int64) (v11_12 : Int32) : Option Int32 :=
  jn (fL_kept_L621 st v6_10 v8_11 3 v5_9 0 (fun _ => 0)) (fun J_17 => if 49 ≤ v11_12 then (J_17) else (if v5_9 = 0 then (J_17) else (bnd (v_pieceAt (aF st.1) (v11_12 / 7) (v11_12 - v11_12 / 7 * 7)) (fun (v12_83 : Int64) => bnd (v_movesFrom (aF st.1) (v11_12 / 7) (v11_12 - v11_12 / 7 * 7)) (fun (v14_85 : Int64) => jn (fun (t_86 : Int32) => jn (fun (t_89 : Int64) => (fL_in v12_83 (0 : Int64) (3 : Int64)).bind (fun (r_92 : Int32) => jn (fun (t_93 : Int32) => bnd (((a1 - a1 / 49 * 49) + (3 * v11_12)) - ((a1 - a1 / 49 * 49) + (3 * v11_12)) / 49 * 49) (fun (v17_96 : Int32) => jn (fun (t_97 : Int32) => self_14 t_97 (v6_10 + v14_85) (v8_11 + t_89) (v11_12 + 1)) (fun J_99 => jn (J_99 0) (fun J_101 => if t_93 = 0 then (J_101) else (jn (fun (t_104 : Int32) => jn (fun (t_108 : Int32) => if t_104 = t_108 then (jn (fun (t_113 : Int32) => jn (fun (t_116 : Int32) => if t_113 = t_116 then (J_99 1) else (J_101)) (fun J_118 => if (lg_cmp v12_83 0) = 0 then (J_118 1) else (J_118 0))) (fun J_115 => if (lg_cmp (v_against (aF st.1) v11_12 v17_96) 1) = 0 then (J_115 1) else (J_115 0))) else (J_101)) (fun J_110 => if (lg_cmp (v_canMove (aF st.1) v11_12 v17_96) 1) = 0 then (J_110 1) else (J_110 0))) (fun J_106 => if (lg_cmp (v_against (aF st.1) v11_12 v17_96) 0) = 0 then (J_106 1) else (J_106 0))))))) (fun J_95 => jn (J_95 0) (fun J_125 => if r_92 = 0 then (J_125) else (jn ((fL_in v14_85 (0 : Int64) (12 : Int64)).bind (fun (r_129 : Int32) => if r_129 = 0 then (J_125) else (jn ((fL_isCorner v11_12).bind (fun (r_133 : Int32) => jn (jn (J_95 1) (fun J_137 => if t_86 = 0 then (jn (fun (t_140 : Int64) => if (lg_cmp (v_hostile (aF st.1) (v11_12 / 7) (v11_12 - v11_12 / 7 * 7) 0) t_140) = 0 then (jn (fun (t_145 : Int64) => if (lg_cmp (v_hostile (aF st.1) (v11_12 / 7) (v11_12 - v11_12 / 7 * 7) 1) t_145) = 0 then (J_137) else (J_125)) (fun J_147 => if (lg_cmp v12_83 1) = 0 then (J_147 1) else (J_147 0))) else (J_125)) (fun J_142 => if (lg_cmp v12_83 1) ≤ 0 then (J_142 0) else (J_142 1))) else (J_137))) (fun J_135 => if r_133 = 0 then (J_135) else (if (lg_cmp (v_hostile (aF st.1) (v11_12 / 7) (v11_12 - v11_12 / 7 * 7) 0) 1) = 0 then (if (lg_cmp (v_hostile (aF st.1) (v11_12 / 7) (v11_12 - v11_12 / 7 * 7) 1) 1) = 0 then (J_135) else (J_125)) else (J_125))))) (fun J_132 => if 0 < (lg_cmp v12_83 0) then (J_132) else (if (lg_cmp v14_85 0) = 0 then (J_132) else (J_125)))))) (fun J_128 => if t_86 = 0 then (J_128) else (if (lg_cmp v12_83 0) = 0 then (J_128) else (if (lg_cmp v12_83 3) = 0 then (J_128) else (J_125))))))))) (fun J_91 => if (lg_cmp v12_83 0) ≤ 0 then (J_91 0) else (J_91 1))) (fun J_88 => jn (J_88 1) (fun J_163 => if v11_12 = 24 then (J_163) else ((fL_isCorner v11_12).bind (fun (r_165 : Int32) => if r_165 = 0 then (J_88 0) else (J_163))))))))))
noncomputable def fL_kept_L243 (st : PS) (a1 : Int32) (n : Nat) (v5_9 : Int32) (v6_10 : Int64) (v8_11 : Int64) (v11_12 : Int32) : Option Int32 := lp (fun zf z => fL_kept_L243_B st a1 (fun v5_9 v6_10 v8_11 v11_12 => zf (v5_9, v6_10, v8_11, v11_12)) z.1 z.2.1 z.2.2.1 z.2.2.2) n (v5_9, v6_10, v8_11, v11_12)
noncomputable def fL_kept (st : PS) (a1 : Int32) : Option Int32 :=
  jn (fun (t_5 : Int32) => fL_kept_L243 st a1 50 t_5 0 0 0) (fun J_7 => jn (J_7 0) (fun J_168 => if (lg_cmp (v_byRounds (aF st.1)) (v_byRounds (aF st.1))) = 0 then ((fL_in ((aS st.1).toInt64) (0 : Int64) (4 : Int64)).bind (fun (r_170 : Int32) => if r_170 = 0 then (J_168) else ((fL_in ((nI (coN (qA (aF st.1)))).toInt64) (0 : Int64) (4 : Int64)).bind (fun (r_173 : Int32) => if r_173 = 0 then (J_168) else ((fL_in ((nI (reN (qA (aF st.1)))).toInt64) (0 : Int64) (48 : Int64)).bind (fun (r_176 : Int32) => if r_176 = 0 then (J_168) else (if (aAm st.1) < (aN st.1) then (J_168) else (jn (jn (jn (jn ((fL_in ((nI st.2.1.length).toInt64) (0 : Int64) (6 : Int64)).bind (fun (r_190 : Int32) => if r_190 = 0 then (J_168) else (J_7 1))) (fun J_188 => if (lg_cmp (v_kingAt (aF st.1)) (-9000000000000000003)) = 0 then (if (nI (reN (qA (aF st.1)))) = 0 then (if (nI (coN (qA (aF st.1)))) = 0 then (J_188) else (J_168)) else (J_168)) else (if (lg_cmp (v_pieceAt (aF st.1) (((v_kingAt (aF st.1)).toInt32) / 7) (((v_kingAt (aF st.1)).toInt32) - ((v_kingAt (aF st.1)).toInt32) / 7 * 7)) 3) = 0 then ((fL_in (v_pressure (aF st.1)) (0 : Int64) (4 : Int64)).bind (fun (r_196 : Int32) => if r_196 = 0 then (J_168) else (J_188))) else (J_168)))) (fun J_186 => if (aS st.1) = 1 then (if (lg_cmp (v_kingAt (aF st.1)) (-9000000000000000003)) = 0 then (J_168) else ((fL_isCorner ((v_kingAt (aF st.1)).toInt32)).bind (fun (r_204 : Int32) => if r_204 = 0 then (if 0 ≤ (lg_cmp (v_timesSeen (aH st.1)) 3) then (J_168) else (J_186)) else (J_168)))) else (J_186))) (fun J_184 => if (aS st.1) = 4 then (if (lg_cmp (v_timesSeen (aH st.1)) 3) = 0 then (J_184) else (J_168)) else (J_184))) (fun J_182 => if (aS st.1) = 0 then (J_182) else (if (lg_cmp (v_timesSeen (aH st.1)) 1) < 0 then (J_168) else (if 0 < (lg_cmp (v_timesSeen (aH st.1)) 3) then (J_168) else (J_182)))))))))))) else (J_168)))
set_option maxRecDepth 100000 in
set_option maxHeartbeats 8000000 in
theorem mL_kept (l : Launch) (hl0 : l.stackTraces = false) (g : GE) (zc zp : Nat) (aa : Nat → Nat) (st : PS) (a1 : Int32) (r : Int32) (hyp : fL_kept st a1 = some r) : MH l yL_kept cL_kept 18 (some .boolean) 9 218 797 4778 g zc zp aa [.ref (aa 0), .int a1] st st (.int r) := by
  refine metH_intro hl0 rfl (by decide) rfl ?_
  intro p e R s m args below meth c Q A F hRf hRl hRc hRs hQ hr hlocks C hA hOt_0 ls hl
  obtain ⟨hx, hb, hml, hown, hts, hl0, hE, hSR, hNC, hOS, hOT, hAh⟩ := id C
  obtain ⟨c_0, hc0⟩ : ∃ q : Nat, q = 0 := ⟨_, rfl⟩
  obtain ⟨s_0, hs0⟩ : ∃ q : Nat, q = 0 := ⟨_, rfl⟩
  have hS_0 : va_S A s.heap s.heap [] := va_S.rf
  obtain ⟨H_0, hH0⟩ : ∃ q : Heap, q = s.heap := ⟨_, rfl⟩
  obtain ⟨locs_0, hL0⟩ : ∃ q : List Loc, q = [] := ⟨_, rfl⟩
  have hOt_0 : OB g aa F st s H_0 := by rw [hH0]; exact hOt_0
  have hS_0 : va_S A s.heap H_0 locs_0 := by rw [hH0, hL0]; exact hS_0
  suffices hk : W p l e R s m args below meth c H_0 locs_0 c_0 s_0 Q (F0 m 0 ls []) by rw [hH0, hL0, hc0, hs0] at hk; exact hk
  have hc_0 : c_0 + (797) ≤ 797 ∧ s_0 + (4778) ≤ 4778 := by omega
  have hl : lv_has ls 18 [(0, .ref (aa 0)), (1, .int a1)] := hl
  unfold fL_kept at hyp
  refine lv_aload_n hx hb dL_kept_0 rfl (lv_at hl 0 rfl) ?_
  refine hc_standing (rest := []) C hA hOt_0 hS_0 ml_L_124 (Nat.le_trans (Nat.le_of_ble_eq_true rfl) hRf) (Nat.le_trans (Nat.le_of_ble_eq_true rfl) hRl) hl.1 (Nat.le_of_ble_eq_true rfl) dL_kept_1 ⟨by omega, by omega⟩ (fun H_1 locs_1 hOt_1 hS_1 hfr_1 => ?_)
  generalize hq1 : c_0 + 0 = c_1, hq2 : s_0 + 0 = s_1
  have hc_1 : c_1 + (797) ≤ 797 ∧ s_1 + (4778) ≤ 4778 := by omega
  clear hS_0 hfr_1 hOt_0
  refine lv_istore_n (lv' := [(2, .int (aS st.1)), (0, .ref (aa 0)), (1, .int a1)]) hx hb dL_kept_4 rfl hl (by decide) rfl (fun ls hl => ?_)
  refine lv_aload_n hx hb dL_kept_5 rfl (lv_at hl 1 rfl) ?_
  refine hc_kingAt (rest := []) C hA hOt_1 hS_1 ml_L_186 (Nat.le_trans (Nat.le_of_ble_eq_true rfl) hRf) (Nat.le_trans (Nat.le_of_ble_eq_true rfl) hRl) hl.1 (Nat.le_of_ble_eq_true rfl) dL_kept_6 ⟨by omega, by omega⟩ (fun H_2 locs_2 hOt_2 hS_2 hfr_2 => ?_)
  generalize hq1 : c_1 + 1 = c_2, hq2 : s_1 + 6 = s_2
  have hc_2 : c_2 + (796) ≤ 797 ∧ s_2 + (4772) ≤ 4778 := by omega
  clear hS_1 hfr_2 hOt_1
  refine lv_lstore_n (lv' := [(3, .long (v_kingAt (aF st.1))), (2, .int (aS st.1)), (0, .ref (aa 0)), (1, .int a1)]) hx hb dL_kept_9 rfl hl (by decide) rfl (fun ls hl => ?_)
  refine lv_aload_n hx hb dL_kept_10 rfl (lv_at hl 2 rfl) ?_
  refine hc_byRounds (rest := []) C hA hOt_2 hS_2 ml_L_191 (Nat.le_trans (Nat.le_of_ble_eq_true rfl) hRf) (Nat.le_trans (Nat.le_of_ble_eq_true rfl) hRl) hl.1 (Nat.le_of_ble_eq_true rfl) dL_kept_11 ⟨by omega, by omega⟩ (fun H_3 locs_3 hOt_3 hS_3 hfr_3 => ?_)
  generalize hq1 : c_2 + 1 = c_3, hq2 : s_2 + 6 = s_3
  have hc_3 : c_3 + (795) ≤ 797 ∧ s_3 + (4766) ≤ 4778 := by omega
  clear hS_2 hfr_3 hOt_2
  refine lv_aload_n hx hb dL_kept_14 rfl (lv_at hl 2 rfl) ?_
  refine hc_byCorners (rest := [.long (v_byRounds (aF st.1))]) C hA hOt_3 hS_3 ml_L_194 (Nat.le_trans (Nat.le_of_ble_eq_true rfl) hRf) (Nat.le_trans (Nat.le_of_ble_eq_true rfl) hRl) hl.1 (Nat.le_of_ble_eq_true rfl) dL_kept_15 ⟨by omega, by omega⟩ (fun H_4 locs_4 hOt_4 hS_4 hfr_4 => ?_)
  generalize hq1 : c_3 + 1 = c_4, hq2 : s_3 + 6 = s_4
  have hc_4 : c_4 + (794) ≤ 797 ∧ s_4 + (4760) ≤ 4778 := by omega
  clear hS_3 hfr_4 hOt_3
  refine W.lcmp hx hb dL_kept_18 ?_
  obtain ⟨J_7, eJ_7, hyp⟩ := jn_e hyp
  have kJ_7 : ∀ (t_5 : Int32) (H_6 : Heap) (locs_6 : List Loc) (c_6 s_6 : Nat) (ls : Array Slot), J_7 t_5 = some r → lv_has ls 18 [(0, .ref (aa 0)), (1, .int a1)] → OB g aa F st s H_6 → va_S A s.heap H_6 locs_6 → (c_6 + (788) ≤ 797 ∧ s_6 + (4724) ≤ 4778) → W p l e R s m args below meth c H_6 locs_6 c_6 s_6 Q (F0 m 227 ls [.int t_5]) := by
    intro t_5 H_6 locs_6 c_6 s_6 ls hyp hl hOt_6 hS_6 hc_6
    replace hyp := (congrFun (eJ_7) t_5).symm.trans hyp
    refine lv_istore (lv' := [(5, .int t_5), (0, .ref (aa 0)), (1, .int a1)]) hx hb dL_kept_227 hl (by decide) rfl (fun ls hl => ?_)
    refine lv_lconst (v := 0) hx hb dL_kept_229 (by decide) ?_
    refine lv_lstore (lv' := [(6, .long 0), (5, .int t_5), (0, .ref (aa 0)), (1, .int a1)]) hx hb dL_kept_230 hl (by decide) rfl (fun ls hl => ?_)
    refine lv_lconst (v := 0) hx hb dL_kept_232 (by decide) ?_
    refine lv_lstore (lv' := [(8, .long 0), (6, .long 0), (5, .int t_5), (0, .ref (aa 0)), (1, .int a1)]) hx hb dL_kept_233 hl (by decide) rfl (fun ls hl => ?_)
    refine lv_iconst (v := 2) hx hb dL_kept_235 (by decide) ?_
    have hz_8 := hOt_6.1
    have hb9 : H_6.size ∉ AL aa := fun z => absurd (OB_lt hOt_6 _ z) (Nat.lt_irrefl _)
    refine newIF (N := 2) hx hb hts ar_I hE hS_6 hAh (by decide) (by decide) (by decide) ⟨by omega, by omega⟩ dL_kept_236 (fun H_8 hP_8 hD_8 hS_8 ho_8 => ?_)
    have hsz : H_6.size < H_8.size := (hP_8 0 _ rfl).lt
    replace hOt_6 := OB_ext ho_8 hsz hOt_6
    obtain ⟨F9, hF9⟩ : ∃ F9 : Nat → Prop, F9 = fun q => F q ∨ q = H_6.size := ⟨_, rfl⟩
    rw [← hF9] at hOt_6
    have hFb : F9 H_6.size := by rw [hF9]; exact Or.inr rfl
    have hFF : ∀ q, F q → F9 q := fun q z => by rw [hF9]; exact Or.inl z
    have hA9 : OA A F9 aa := ⟨hA.1, fun i hi => ⟨(hA.2 i hi).1, hFF _ (hA.2 i hi).2⟩⟩
    obtain ⟨b9, hb8⟩ : ∃ b9 : Nat, b9 = H_6.size := ⟨_, rfl⟩
    rw [← hb8] at hb9 hFb hP_8 hD_8 ⊢
    generalize hq1 : c_6 + 1 = c_8, hq2 : s_6 + 2 = s_8
    have hOt_8 := hOt_6
    obtain ⟨locs_8, hlo⟩ : ∃ q : List Loc, q = locs_6 := ⟨_, rfl⟩
    rw [← hlo] at hS_8 ⊢
    have hc_8 : c_8 + (787) ≤ 797 ∧ s_8 + (4722) ≤ 4778 := by omega
    refine lv_astore (lv' := [(10, .ref b9), (8, .long 0), (6, .long 0), (5, .int t_5), (0, .ref (aa 0)), (1, .int a1)]) hx hb dL_kept_238 hl (by decide) rfl (fun ls hl => ?_)
    refine lv_iconst (v := 0) hx hb dL_kept_240 (by decide) ?_
    refine lv_istore (lv' := [(11, .int 0), (10, .ref b9), (8, .long 0), (6, .long 0), (5, .int t_5), (0, .ref (aa 0)), (1, .int a1)]) hx hb dL_kept_241 hl (by decide) rfl (fun ls hl => ?_)
    refine lp_n (r := r) (fun (n9 : Nat) (z : Int32 × Int64 × Int64 × Int32) => ∀ (H_13 : Heap) (locs_13 : List Loc) (c_13 s_13 : Nat) (ls : Array Slot), lv_has ls 18 [(0, .ref (aa 0)), (1, .int a1), (5, .int z.1), (6, .long z.2.1), (8, .long z.2.2.1), (10, .ref b9), (11, .int z.2.2.2)] → OB g aa F9 st s H_13 → va_S A s.heap H_13 locs_13 → (c_13 + (137 + n9 * 13) ≤ 797 ∧ s_13 + (822 + n9 * 78) ≤ 4778) → va_P g.1 vwCl [(b9, .inl (g.2.1, 2, .inl (fun _ => 0)))] H_13 → va_D A [(b9, .inl (g.2.1, 2, .inl (fun _ => 0)))] → W p l e R s m args below meth c H_13 locs_13 c_13 s_13 Q (F0 m 243 ls [])) ?_ 50 (t_5, 0, 0, 0) hyp _ _ _ _ ls (lv_sub hl [5, 6, 4, 3, 2, 1, 0] rfl) hOt_8 hS_8 (by omega) hP_8 hD_8
    intro n9_15 self_14T ihself_14T z hyp H_13 locs_13 c_13 s_13 ls hl hOt_13 hS_13 hc_13 hP_13 hD_13
    obtain ⟨v5_9, v6_10, v8_11, v11_12⟩ := z
    obtain ⟨self_14, eself_14⟩ : ∃ f9 : Int32 → Int64 → Int64 → Int32 → Option Int32, f9 = fun v5_9 v6_10 v8_11 v11_12 => self_14T (v5_9, v6_10, v8_11, v11_12) := ⟨_, rfl⟩
    have ihself_14 := fun (v5_9 : Int32) (v6_10 : Int64) (v8_11 : Int64) (v11_12 : Int32) (h9 : self_14 v5_9 v6_10 v8_11 v11_12 = some r) => ihself_14T (v5_9, v6_10, v8_11, v11_12) (by rw [eself_14] at h9; exact h9)
    replace hyp : fL_kept_L243_B st a1 self_14 v5_9 v6_10 v8_11 v11_12 = some r := by rw [eself_14]; exact hyp
    have hl : lv_has ls 18 [(0, .ref (aa 0)), (1, .int a1), (5, .int v5_9), (6, .long v6_10), (8, .long v8_11), (10, .ref b9), (11, .int v11_12)] := hl
    have hOt_13 : OB g aa F9 st s H_13 := hOt_13
    have hP_13 : va_P g.1 vwCl [(b9, .inl (g.2.1, 2, .inl (fun _ => 0)))] H_13 := hP_13
    have hD_13 : va_D A [(b9, .inl (g.2.1, 2, .inl (fun _ => 0)))] := hD_13
    show W p l e R s m args below meth c H_13 locs_13 c_13 s_13 Q (F0 m 243 ls [])
    unfold fL_kept_L243_B at hyp
    have hc_13 : c_13 + (150 + n9_15 * 13) ≤ 797 ∧ s_13 + (900 + n9_15 * 78) ≤ 4778 := by
      have hq := hc_13
      omega
    refine lv_iload hx hb dL_kept_243 (lv_at hl 6 rfl) ?_
    refine lv_bipush (v := 49) hx hb dL_kept_245 (by decide) ?_
    obtain ⟨J_17, eJ_17, hyp⟩ := jn_e hyp
    have kJ_17 : ∀ (H_16 : Heap) (locs_16 : List Loc) (c_16 s_16 : Nat) (ls : Array Slot), J_17 = some r → lv_has ls 18 [(0, .ref (aa 0)), (5, .int v5_9), (6, .long v6_10), (8, .long v8_11), (10, .ref b9)] → OB g aa F9 st s H_16 → va_S A s.heap H_16 locs_16 → (c_16 + (137) ≤ 797 ∧ s_16 + (822) ≤ 4778) → va_P g.1 vwCl [(b9, .inl (g.2.1, 2, .inl (fun _ => 0)))] H_16 → va_D A [(b9, .inl (g.2.1, 2, .inl (fun _ => 0)))] → W p l e R s m args below meth c H_16 locs_16 c_16 s_16 Q (F0 m 618 ls []) := by
      intro H_16 locs_16 c_16 s_16 ls hyp hl hOt_16 hS_16 hc_16 hP_16 hD_16
      replace hyp := (eJ_17).symm.trans hyp
      refine lv_iconst (v := 0) hx hb dL_kept_618 (by decide) ?_
      refine lv_istore (lv' := [(11, .int 0), (0, .ref (aa 0)), (5, .int v5_9), (6, .long v6_10), (8, .long v8_11), (10, .ref b9)]) hx hb dL_kept_619 hl (by decide) rfl (fun ls hl => ?_)
      refine lp_n (r := r) (fun (n9 : Nat) (z : Int32 × Int32 × (Nat → Int32)) => ∀ (H_20 : Heap) (locs_20 : List Loc) (c_20 s_20 : Nat) (ls : Array Slot), lv_has ls 18 [(0, .ref (aa 0)), (5, .int z.1), (6, .long v6_10), (8, .long v8_11), (10, .ref b9), (11, .int z.2.1)] → OB g aa F9 st s H_20 → va_S A s.heap H_20 locs_20 → (c_20 + (2 + n9 * 45) ≤ 797 ∧ s_20 + (12 + n9 * 270) ≤ 4778) → va_P g.1 vwCl [(b9, .inl (g.2.1, 2, .inl z.2.2))] H_20 → va_D A [(b9, .inl (g.2.1, 2, .inl z.2.2))] → W p l e R s m args below meth c H_20 locs_20 c_20 s_20 Q (F0 m 621 ls [])) ?_ 3 (v5_9, 0, (fun _ => 0)) hyp _ _ _ _ ls (lv_sub hl [1, 2, 3, 4, 5, 0] rfl) hOt_16 hS_16 (by omega) hP_16 hD_16
      intro n9_23 self_22T ihself_22T z hyp H_20 locs_20 c_20 s_20 ls hl hOt_20 hS_20 hc_20 hP_20 hD_20
      obtain ⟨v5_18, v11_19, atf_21⟩ := z
      obtain ⟨self_22, eself_22⟩ : ∃ f9 : Int32 → Int32 → (Nat → Int32) → Option Int32, f9 = fun v5_18 v11_19 atf_21 => self_22T (v5_18, v11_19, atf_21) := ⟨_, rfl⟩
      have ihself_22 := fun (v5_18 : Int32) (v11_19 : Int32) (atf_21 : Nat → Int32) (h9 : self_22 v5_18 v11_19 atf_21 = some r) => ihself_22T (v5_18, v11_19, atf_21) (by rw [eself_22] at h9; exact h9)
      replace hyp : fL_kept_L621_B st v6_10 v8_11 self_22 v5_18 v11_19 atf_21 = some r := by rw [eself_22]; exact hyp
      have hl : lv_has ls 18 [(0, .ref (aa 0)), (5, .int v5_18), (6, .long v6_10), (8, .long v8_11), (10, .ref b9), (11, .int v11_19)] := hl
      have hOt_20 : OB g aa F9 st s H_20 := hOt_20
      have hP_20 : va_P g.1 vwCl [(b9, .inl (g.2.1, 2, .inl atf_21))] H_20 := hP_20
      have hD_20 : va_D A [(b9, .inl (g.2.1, 2, .inl atf_21))] := hD_20
      show W p l e R s m args below meth c H_20 locs_20 c_20 s_20 Q (F0 m 621 ls [])
      unfold fL_kept_L621_B at hyp
      have hc_20 : c_20 + (47 + n9_23 * 45) ≤ 797 ∧ s_20 + (282 + n9_23 * 270) ≤ 4778 := by
        have hq := hc_20
        omega
      refine lv_iload hx hb dL_kept_621 (lv_at hl 5 rfl) ?_
      refine lv_iconst (v := 2) hx hb dL_kept_623 (by decide) ?_
      obtain ⟨J_25, eJ_25, hyp⟩ := jn_e hyp
      have kJ_25 : ∀ (H_24 : Heap) (locs_24 : List Loc) (c_24 s_24 : Nat) (ls : Array Slot), J_25 = some r → lv_has ls 18 [(0, .ref (aa 0)), (5, .int v5_18), (6, .long v6_10), (8, .long v8_11), (10, .ref b9)] → OB g aa F9 st s H_24 → va_S A s.heap H_24 locs_24 → (c_24 + (2) ≤ 797 ∧ s_24 + (12) ≤ 4778) → va_P g.1 vwCl [(b9, .inl (g.2.1, 2, .inl atf_21))] H_24 → va_D A [(b9, .inl (g.2.1, 2, .inl atf_21))] → W p l e R s m args below meth c H_24 locs_24 c_24 s_24 Q (F0 m 836 ls []) := by
        intro H_24 locs_24 c_24 s_24 ls hyp hl hOt_24 hS_24 hc_24 hP_24 hD_24
        replace hyp := (eJ_25).symm.trans hyp
        refine lv_iload hx hb dL_kept_836 (lv_at hl 1 rfl) ?_
        refine lv_if_eq (tgt := 878) hx hb dL_kept_838 (by decide) (fun h_26 => ?_) (fun h_26 => ?_)
        · replace hyp := ite_t h_26 hyp
          refine lv_iconst (v := 0) hx hb dL_kept_878 (by decide) ?_
          have hyp := some_e hyp
          subst hyp
          subst hQ
          exact rhZ hx hb hr hlocks (Or.inl rfl) (OB_weak hFF hOt_24) hS_24 ⟨by omega, by omega⟩ dL_kept_879
        · replace hyp := ite_f h_26 hyp
          refine lv_lload hx hb dL_kept_841 (lv_at hl 2 rfl) ?_
          refine lv_aload hx hb dL_kept_843 (lv_at hl 4 rfl) ?_
          refine lv_iconst (v := 0) hx hb dL_kept_845 (by decide) ?_
          obtain ⟨hi, hyp⟩ := grd_e hyp
          refine va_iald hx hb hE.1 hP_24 0 0 rfl rfl (inB_vp hi) dL_kept_846 ?_
          refine lv_aload hx hb dL_kept_847 (lv_at hl 4 rfl) ?_
          refine lv_iconst (v := 1) hx hb dL_kept_849 (by decide) ?_
          obtain ⟨hi, hyp⟩ := grd_e hyp
          refine va_iald hx hb hE.1 hP_24 0 0 rfl rfl (inB_vp hi) dL_kept_850 ?_
          refine lv_iadd hx hb dL_kept_851 ?_
          refine lv_i2l hx hb dL_kept_852 rfl ?_
          refine W.lcmp hx hb dL_kept_853 ?_
          refine lv_if_ne (tgt := 878) hx hb dL_kept_854 (by decide) (fun h_27 => ?_) (fun h_27 => ?_)
          · replace hyp := ite_f h_27 hyp
            refine lv_iconst (v := 0) hx hb dL_kept_878 (by decide) ?_
            have hyp := some_e hyp
            subst hyp
            subst hQ
            exact rhZ hx hb hr hlocks (Or.inl rfl) (OB_weak hFF hOt_24) hS_24 ⟨by omega, by omega⟩ dL_kept_879
          · replace hyp := ite_t h_27 hyp
            refine lv_lload hx hb dL_kept_857 (lv_at hl 3 rfl) ?_
            refine lv_aload_n hx hb dL_kept_859 rfl (lv_at hl 0 rfl) ?_
            refine lv_iconst (v := 0) hx hb dL_kept_860 (by decide) ?_
            refine hc_piecesOf (rest := [.long v8_11]) C hA9 hOt_24 hS_24 (0 : Int32) ml_L_146 (Nat.le_trans (Nat.le_of_ble_eq_true rfl) hRf) (Nat.le_trans (Nat.le_of_ble_eq_true rfl) hRl) hl.1 (Nat.le_of_ble_eq_true rfl) dL_kept_861 ⟨by omega, by omega⟩ (fun H_28 locs_28 hOt_28 hS_28 hfr_28 => ?_)
            generalize hq1 : c_24 + 1 = c_28, hq2 : s_24 + 6 = s_28
            have hP_28 := arr_fr hfr_28 hb9 hP_24
            have hD_28 := hD_24
            have hc_28 : c_28 + (1) ≤ 797 ∧ s_28 + (6) ≤ 4778 := by omega
            clear hS_24 hfr_28 hOt_24 hP_24 hD_24
            refine lv_aload_n hx hb dL_kept_864 rfl (lv_at hl 0 rfl) ?_
            refine lv_iconst (v := 1) hx hb dL_kept_865 (by decide) ?_
            refine hc_piecesOf (rest := [.long (v_piecesOf (aF st.1) 0), .long v8_11]) C hA9 hOt_28 hS_28 (1 : Int32) ml_L_146 (Nat.le_trans (Nat.le_of_ble_eq_true rfl) hRf) (Nat.le_trans (Nat.le_of_ble_eq_true rfl) hRl) hl.1 (Nat.le_of_ble_eq_true rfl) dL_kept_866 ⟨by omega, by omega⟩ (fun H_29 locs_29 hOt_29 hS_29 hfr_29 => ?_)
            generalize hq1 : c_28 + 1 = c_29, hq2 : s_28 + 6 = s_29
            have hP_29 := arr_fr hfr_29 hb9 hP_28
            have hD_29 := hD_28
            have hc_29 : c_29 + (0) ≤ 797 ∧ s_29 + (0) ≤ 4778 := by omega
            clear hS_28 hfr_29 hOt_28 hP_28 hD_28
            refine lv_ladd hx hb dL_kept_869 ?_
            refine W.lcmp hx hb dL_kept_870 ?_
            refine lv_if_ne (tgt := 878) hx hb dL_kept_871 (by decide) (fun h_30 => ?_) (fun h_30 => ?_)
            · replace hyp := ite_f h_30 hyp
              refine lv_iconst (v := 0) hx hb dL_kept_878 (by decide) ?_
              have hyp := some_e hyp
              subst hyp
              subst hQ
              exact rhZ hx hb hr hlocks (Or.inl rfl) (OB_weak hFF hOt_29) hS_29 ⟨by omega, by omega⟩ dL_kept_879
            · replace hyp := ite_t h_30 hyp
              refine lv_iconst (v := 1) hx hb dL_kept_874 (by decide) ?_
              refine lv_goto (tgt := 879) hx hb dL_kept_875 (by decide) ?_
              have hyp := some_e hyp
              subst hyp
              subst hQ
              exact rhZ hx hb hr hlocks (Or.inr rfl) (OB_weak hFF hOt_29) hS_29 ⟨by omega, by omega⟩ dL_kept_879
      refine lv_icmp_ge (tgt := 836) hx hb dL_kept_624 (by decide) (fun h_31 => ?_) (fun h_31 => ?_)
      · replace hyp := ite_t h_31 hyp
        exact kJ_25 _ _ _ _ ls hyp (lv_sub hl [0, 1, 2, 3, 4] rfl) hOt_20 hS_20 (by omega) hP_20 hD_20
      · replace hyp := ite_f h_31 hyp
        refine lv_iload hx hb dL_kept_627 (lv_at hl 1 rfl) ?_
        refine lv_if_eq (tgt := 836) hx hb dL_kept_629 (by decide) (fun h_32 => ?_) (fun h_32 => ?_)
        · replace hyp := ite_t h_32 hyp
          exact kJ_25 _ _ _ _ ls hyp (lv_sub hl [0, 1, 2, 3, 4] rfl) hOt_20 hS_20 (by omega) hP_20 hD_20
        · replace hyp := ite_f h_32 hyp
          refine lv_aload_n hx hb dL_kept_632 rfl (lv_at hl 0 rfl) ?_
          refine lv_iload hx hb dL_kept_633 (lv_at hl 5 rfl) ?_
          refine hc_byPieces (rest := []) C hA9 hOt_20 hS_20 v11_19 ml_L_158 (Nat.le_trans (Nat.le_of_ble_eq_true rfl) hRf) (Nat.le_trans (Nat.le_of_ble_eq_true rfl) hRl) hl.1 (Nat.le_of_ble_eq_true rfl) dL_kept_635 ⟨by omega, by omega⟩ (fun H_33 locs_33 hOt_33 hS_33 hfr_33 => ?_)
          generalize hq1 : c_20 + 1 = c_33, hq2 : s_20 + 6 = s_33
          have hP_33 := arr_fr hfr_33 hb9 hP_20
          have hD_33 := hD_20
          have hc_33 : c_33 + (46 + n9_23 * 45) ≤ 797 ∧ s_33 + (276 + n9_23 * 270) ≤ 4778 := by omega
          clear hS_20 hfr_33 hOt_20 hP_20 hD_20
          refine lv_l2i hx hb dL_kept_638 rfl ?_
          refine lv_istore (lv' := [(12, .int ((v_byPieces (aF st.1) v11_19).toInt32)), (0, .ref (aa 0)), (5, .int v5_18), (6, .long v6_10), (8, .long v8_11), (10, .ref b9), (11, .int v11_19)]) hx hb dL_kept_639 hl (by decide) rfl (fun ls hl => ?_)
          refine lv_ldc2 (v := (-1)) hx hb hown (hts _ ct_L_230) dL_kept_641 ?_
          refine lv_lstore (lv' := [(13, .long (-1)), (12, .int ((v_byPieces (aF st.1) v11_19).toInt32)), (0, .ref (aa 0)), (5, .int v5_18), (6, .long v6_10), (8, .long v8_11), (10, .ref b9), (11, .int v11_19)]) hx hb dL_kept_644 hl (by decide) rfl (fun ls hl => ?_)
          refine lv_aload_n hx hb dL_kept_646 rfl (lv_at hl 2 rfl) ?_
          refine lv_iload hx hb dL_kept_647 (lv_at hl 7 rfl) ?_
          refine hc_bySquares (rest := []) C hA9 hOt_33 hS_33 v11_19 ml_L_161 (Nat.le_trans (Nat.le_of_ble_eq_true rfl) hRf) (Nat.le_trans (Nat.le_of_ble_eq_true rfl) hRl) hl.1 (Nat.le_of_ble_eq_true rfl) dL_kept_649 ⟨by omega, by omega⟩ (fun H_34 locs_34 hOt_34 hS_34 hfr_34 => ?_)
          generalize hq1 : c_33 + 1 = c_34, hq2 : s_33 + 6 = s_34
          have hP_34 := arr_fr hfr_34 hb9 hP_33
          have hD_34 := hD_33
          have hc_34 : c_34 + (45 + n9_23 * 45) ≤ 797 ∧ s_34 + (270 + n9_23 * 270) ≤ 4778 := by omega
          clear hS_33 hfr_34 hOt_33 hP_33 hD_33
          refine lv_iload hx hb dL_kept_652 (lv_at hl 1 rfl) ?_
          refine lv_i2l hx hb dL_kept_654 rfl ?_
          refine W.lcmp hx hb dL_kept_655 ?_
          obtain ⟨J_37, eJ_37, hyp⟩ := jn_e hyp
          have kJ_37 : ∀ (t_35 : Int32) (H_36 : Heap) (locs_36 : List Loc) (c_36 s_36 : Nat) (ls : Array Slot), J_37 t_35 = some r → lv_has ls 18 [(0, .ref (aa 0)), (6, .long v6_10), (8, .long v8_11), (10, .ref b9), (11, .int v11_19), (12, .int ((v_byPieces (aF st.1) v11_19).toInt32)), (13, .long (-1))] → OB g aa F9 st s H_36 → va_S A s.heap H_36 locs_36 → (c_36 + (42 + n9_23 * 45) ≤ 797 ∧ s_36 + (252 + n9_23 * 270) ≤ 4778) → va_P g.1 vwCl [(b9, .inl (g.2.1, 2, .inl atf_21))] H_36 → va_D A [(b9, .inl (g.2.1, 2, .inl atf_21))] → W p l e R s m args below meth c H_36 locs_36 c_36 s_36 Q (F0 m 698 ls [.int t_35]) := by
            intro t_35 H_36 locs_36 c_36 s_36 ls hyp hl hOt_36 hS_36 hc_36 hP_36 hD_36
            replace hyp := (congrFun (eJ_37) t_35).symm.trans hyp
            refine lv_istore (lv' := [(5, .int t_35), (0, .ref (aa 0)), (6, .long v6_10), (8, .long v8_11), (10, .ref b9), (11, .int v11_19), (12, .int ((v_byPieces (aF st.1) v11_19).toInt32)), (13, .long (-1))]) hx hb dL_kept_698 hl (by decide) rfl (fun ls hl => ?_)
            refine lv_iconst (v := 0) hx hb dL_kept_700 (by decide) ?_
            refine lv_istore (lv' := [(15, .int 0), (5, .int t_35), (0, .ref (aa 0)), (6, .long v6_10), (8, .long v8_11), (10, .ref b9), (11, .int v11_19), (12, .int ((v_byPieces (aF st.1) v11_19).toInt32)), (13, .long (-1))]) hx hb dL_kept_701 hl (by decide) rfl (fun ls hl => ?_)
            refine lp_n (r := r) (fun (n9 : Nat) (z : Int32 × Int64 × Int32) => ∀ (H_41 : Heap) (locs_41 : List Loc) (c_41 s_41 : Nat) (ls : Array Slot), lv_has ls 18 [(0, .ref (aa 0)), (5, .int z.1), (6, .long v6_10), (8, .long v8_11), (10, .ref b9), (11, .int v11_19), (12, .int ((v_byPieces (aF st.1) v11_19).toInt32)), (13, .long z.2.1), (15, .int z.2.2)] → OB g aa F9 st s H_41 → va_S A s.heap H_41 locs_41 → (c_41 + (2 + n9 * 4 + n9_23 * 45) ≤ 797 ∧ s_41 + (12 + n9 * 24 + n9_23 * 270) ≤ 4778) → va_P g.1 vwCl [(b9, .inl (g.2.1, 2, .inl atf_21))] H_41 → va_D A [(b9, .inl (g.2.1, 2, .inl atf_21))] → W p l e R s m args below meth c H_41 locs_41 c_41 s_41 Q (F0 m 703 ls [])) ?_ 10 (t_35, (-1), 0) hyp _ _ _ _ ls (lv_sub hl [2, 1, 3, 4, 5, 6, 7, 8, 0] rfl) hOt_36 hS_36 (by omega) hP_36 hD_36
            intro n9_43 self_42T ihself_42T z hyp H_41 locs_41 c_41 s_41 ls hl hOt_41 hS_41 hc_41 hP_41 hD_41
            obtain ⟨v5_38, v13_39, v15_40⟩ := z
            obtain ⟨self_42, eself_42⟩ : ∃ f9 : Int32 → Int64 → Int32 → Option Int32, f9 = fun v5_38 v13_39 v15_40 => self_42T (v5_38, v13_39, v15_40) := ⟨_, rfl⟩
            have ihself_42 := fun (v5_38 : Int32) (v13_39 : Int64) (v15_40 : Int32) (h9 : self_42 v5_38 v13_39 v15_40 = some r) => ihself_42T (v5_38, v13_39, v15_40) (by rw [eself_42] at h9; exact h9)
            replace hyp : fL_kept_L703_B st self_22 v11_19 atf_21 self_42 v5_38 v13_39 v15_40 = some r := by rw [eself_42]; exact hyp
            have hl : lv_has ls 18 [(0, .ref (aa 0)), (5, .int v5_38), (6, .long v6_10), (8, .long v8_11), (10, .ref b9), (11, .int v11_19), (12, .int ((v_byPieces (aF st.1) v11_19).toInt32)), (13, .long v13_39), (15, .int v15_40)] := hl
            have hOt_41 : OB g aa F9 st s H_41 := hOt_41
            have hP_41 : va_P g.1 vwCl [(b9, .inl (g.2.1, 2, .inl atf_21))] H_41 := hP_41
            have hD_41 : va_D A [(b9, .inl (g.2.1, 2, .inl atf_21))] := hD_41
            show W p l e R s m args below meth c H_41 locs_41 c_41 s_41 Q (F0 m 703 ls [])
            unfold fL_kept_L703_B at hyp
            have hc_41 : c_41 + (6 + n9_43 * 4 + n9_23 * 45) ≤ 797 ∧ s_41 + (36 + n9_43 * 24 + n9_23 * 270) ≤ 4778 := by
              have hq := hc_41
              omega
            refine lv_iload hx hb dL_kept_703 (lv_at hl 8 rfl) ?_
            refine lv_iload hx hb dL_kept_705 (lv_at hl 6 rfl) ?_
            obtain ⟨J_45, eJ_45, hyp⟩ := jn_e hyp
            have kJ_45 : ∀ (H_44 : Heap) (locs_44 : List Loc) (c_44 s_44 : Nat) (ls : Array Slot), J_45 = some r → lv_has ls 18 [(0, .ref (aa 0)), (5, .int v5_38), (6, .long v6_10), (8, .long v8_11), (10, .ref b9), (11, .int v11_19), (12, .int ((v_byPieces (aF st.1) v11_19).toInt32))] → OB g aa F9 st s H_44 → va_S A s.heap H_44 locs_44 → (c_44 + (2 + n9_23 * 45) ≤ 797 ∧ s_44 + (12 + n9_23 * 270) ≤ 4778) → va_P g.1 vwCl [(b9, .inl (g.2.1, 2, .inl atf_21))] H_44 → va_D A [(b9, .inl (g.2.1, 2, .inl atf_21))] → W p l e R s m args below meth c H_44 locs_44 c_44 s_44 Q (F0 m 823 ls []) := by
              intro H_44 locs_44 c_44 s_44 ls hyp hl hOt_44 hS_44 hc_44 hP_44 hD_44
              replace hyp := (eJ_45).symm.trans hyp
              refine lv_aload hx hb dL_kept_823 (lv_at hl 4 rfl) ?_
              refine lv_iload hx hb dL_kept_825 (lv_at hl 5 rfl) ?_
              refine lv_iload hx hb dL_kept_827 (lv_at hl 6 rfl) ?_
              obtain ⟨hi, hyp⟩ := grd_e hyp
              refine iastF hx hb hE hP_44 hD_44 hS_44 (inB_vp hi) dL_kept_829 (fun H_46 locs_46 hP_46 hD_46 hS_46 ho_46 hz_46 => ?_)
              have hOt_46 := OB_put ho_46 hFb hb9 hz_46 hOt_44
              obtain ⟨c_46, hq1⟩ : ∃ q : Nat, q = c_44 := ⟨_, rfl⟩
              obtain ⟨s_46, hq2⟩ : ∃ q : Nat, q = s_44 := ⟨_, rfl⟩
              rw [← hq1, ← hq2]
              have hc_46 : c_46 + (2 + n9_23 * 45) ≤ 797 ∧ s_46 + (12 + n9_23 * 270) ≤ 4778 := by omega
              refine lv_iinc (v := v11_19 + 1) (lv' := [(11, .int (v11_19 + 1)), (0, .ref (aa 0)), (5, .int v5_38), (6, .long v6_10), (8, .long v8_11), (10, .ref b9), (12, .int ((v_byPieces (aF st.1) v11_19).toInt32))]) hx hb dL_kept_830 hl (k := 5) rfl rfl (by decide) rfl (fun ls hl => ?_)
              refine lv_goto (tgt := 621) hx hb dL_kept_833 (by decide) ?_
              exact ihself_22 v5_38 (v11_19 + 1) (upd atf_21 v11_19.toNatClampNeg ((v_byPieces (aF st.1) v11_19).toInt32)) hyp _ _ _ _ ls (lv_sub hl [1, 2, 3, 4, 5, 0] rfl) hOt_46 hS_46 (by omega) hP_46 hD_46
            refine lv_icmp_ge (tgt := 823) hx hb dL_kept_707 (by decide) (fun h_47 => ?_) (fun h_47 => ?_)
            · replace hyp := ite_t h_47 hyp
              exact kJ_45 _ _ _ _ ls hyp (lv_sub hl [0, 1, 2, 3, 4, 5, 6] rfl) hOt_41 hS_41 (by omega) hP_41 hD_41
            · replace hyp := ite_f h_47 hyp
              refine lv_iload hx hb dL_kept_710 (lv_at hl 1 rfl) ?_
              refine lv_if_eq (tgt := 823) hx hb dL_kept_712 (by decide) (fun h_48 => ?_) (fun h_48 => ?_)
              · replace hyp := ite_t h_48 hyp
                exact kJ_45 _ _ _ _ ls hyp (lv_sub hl [0, 1, 2, 3, 4, 5, 6] rfl) hOt_41 hS_41 (by omega) hP_41 hD_41
              · replace hyp := ite_f h_48 hyp
                refine lv_aload_n hx hb dL_kept_715 rfl (lv_at hl 0 rfl) ?_
                refine lv_iload hx hb dL_kept_716 (lv_at hl 5 rfl) ?_
                refine lv_iload hx hb dL_kept_718 (lv_at hl 8 rfl) ?_
                refine hc_moveAt (rest := []) C hA9 hOt_41 hS_41 v11_19 v15_40 ml_L_173 (Nat.le_trans (Nat.le_of_ble_eq_true rfl) hRf) (Nat.le_trans (Nat.le_of_ble_eq_true rfl) hRl) hl.1 (Nat.le_of_ble_eq_true rfl) dL_kept_720 ⟨by omega, by omega⟩ (fun H_49 locs_49 hOt_49 hS_49 hfr_49 => ?_)
                generalize hq1 : c_41 + 2 = c_49, hq2 : s_41 + 12 = s_49
                have hP_49 := arr_fr hfr_49 hb9 hP_41
                have hD_49 := hD_41
                have hc_49 : c_49 + (4 + n9_43 * 4 + n9_23 * 45) ≤ 797 ∧ s_49 + (24 + n9_43 * 24 + n9_23 * 270) ≤ 4778 := by omega
                clear hS_41 hfr_49 hOt_41 hP_41 hD_41
                refine lv_lstore (lv' := [(16, .long (v_moveAt (aF st.1) v11_19 v15_40)), (0, .ref (aa 0)), (5, .int v5_38), (6, .long v6_10), (8, .long v8_11), (10, .ref b9), (11, .int v11_19), (12, .int ((v_byPieces (aF st.1) v11_19).toInt32)), (13, .long v13_39), (15, .int v15_40)]) hx hb dL_kept_723 hl (by decide) rfl (fun ls hl => ?_)
                refine lv_lload hx hb dL_kept_725 (lv_at hl 0 rfl) ?_
                refine lv_lload hx hb dL_kept_727 (lv_at hl 8 rfl) ?_
                refine W.lcmp hx hb dL_kept_729 ?_
                obtain ⟨J_52, eJ_52, hyp⟩ := jn_e hyp
                have kJ_52 : ∀ (t_50 : Int32) (H_51 : Heap) (locs_51 : List Loc) (c_51 s_51 : Nat) (ls : Array Slot), J_52 t_50 = some r → lv_has ls 18 [(0, .ref (aa 0)), (6, .long v6_10), (8, .long v8_11), (10, .ref b9), (11, .int v11_19), (12, .int ((v_byPieces (aF st.1) v11_19).toInt32)), (15, .int v15_40), (16, .long (v_moveAt (aF st.1) v11_19 v15_40))] → OB g aa F9 st s H_51 → va_S A s.heap H_51 locs_51 → (c_51 + (2 + n9_43 * 4 + n9_23 * 45) ≤ 797 ∧ s_51 + (12 + n9_43 * 24 + n9_23 * 270) ≤ 4778) → va_P g.1 vwCl [(b9, .inl (g.2.1, 2, .inl atf_21))] H_51 → va_D A [(b9, .inl (g.2.1, 2, .inl atf_21))] → W p l e R s m args below meth c H_51 locs_51 c_51 s_51 Q (F0 m 802 ls [.int t_50]) := by
                  intro t_50 H_51 locs_51 c_51 s_51 ls hyp hl hOt_51 hS_51 hc_51 hP_51 hD_51
                  replace hyp := (congrFun (eJ_52) t_50).symm.trans hyp
                  refine lv_istore (lv' := [(5, .int t_50), (0, .ref (aa 0)), (6, .long v6_10), (8, .long v8_11), (10, .ref b9), (11, .int v11_19), (12, .int ((v_byPieces (aF st.1) v11_19).toInt32)), (15, .int v15_40), (16, .long (v_moveAt (aF st.1) v11_19 v15_40))]) hx hb dL_kept_802 hl (by decide) rfl (fun ls hl => ?_)
                  refine lv_lload hx hb dL_kept_804 (lv_at hl 8 rfl) ?_
                  refine lv_lstore (lv' := [(13, .long (v_moveAt (aF st.1) v11_19 v15_40)), (5, .int t_50), (0, .ref (aa 0)), (6, .long v6_10), (8, .long v8_11), (10, .ref b9), (11, .int v11_19), (12, .int ((v_byPieces (aF st.1) v11_19).toInt32)), (15, .int v15_40), (16, .long (v_moveAt (aF st.1) v11_19 v15_40))]) hx hb dL_kept_806 hl (by decide) rfl (fun ls hl => ?_)
                  refine lv_iload hx hb dL_kept_808 (lv_at hl 8 rfl) ?_
                  refine lv_iconst (v := 1) hx hb dL_kept_810 (by decide) ?_
                  refine lv_iload hx hb dL_kept_811 (lv_at hl 7 rfl) ?_
                  refine lv_bipush (v := 8) hx hb dL_kept_813 (by decide) ?_
                  refine lv_idiv hx hb dL_kept_815 (by decide) ?_
                  refine lv_iadd hx hb dL_kept_816 ?_
                  refine lv_iadd hx hb dL_kept_817 ?_
                  obtain ⟨v15_53, ev15_53, hyp⟩ := bnd_e hyp
                  refine lv_eqi ev15_53 ?_
                  refine lv_istore (lv' := [(15, .int v15_53), (13, .long (v_moveAt (aF st.1) v11_19 v15_40)), (5, .int t_50), (0, .ref (aa 0)), (6, .long v6_10), (8, .long v8_11), (10, .ref b9), (11, .int v11_19), (12, .int ((v_byPieces (aF st.1) v11_19).toInt32)), (16, .long (v_moveAt (aF st.1) v11_19 v15_40))]) hx hb dL_kept_818 hl (by decide) rfl (fun ls hl => ?_)
                  refine lv_goto (tgt := 703) hx hb dL_kept_820 (by decide) ?_
                  exact ihself_42 t_50 (v_moveAt (aF st.1) v11_19 v15_40) v15_53 hyp _ _ _ _ ls (lv_sub hl [3, 2, 4, 5, 6, 7, 8, 1, 0] rfl) hOt_51 hS_51 (by omega) hP_51 hD_51
                obtain ⟨J_55, eJ_55, hyp⟩ := jn_e hyp
                have kJ_55 : ∀ (H_54 : Heap) (locs_54 : List Loc) (c_54 s_54 : Nat) (ls : Array Slot), J_55 = some r → lv_has ls 18 [(0, .ref (aa 0)), (6, .long v6_10), (8, .long v8_11), (10, .ref b9), (11, .int v11_19), (12, .int ((v_byPieces (aF st.1) v11_19).toInt32)), (15, .int v15_40), (16, .long (v_moveAt (aF st.1) v11_19 v15_40))] → OB g aa F9 st s H_54 → va_S A s.heap H_54 locs_54 → (c_54 + (2 + n9_43 * 4 + n9_23 * 45) ≤ 797 ∧ s_54 + (12 + n9_43 * 24 + n9_23 * 270) ≤ 4778) → va_P g.1 vwCl [(b9, .inl (g.2.1, 2, .inl atf_21))] H_54 → va_D A [(b9, .inl (g.2.1, 2, .inl atf_21))] → W p l e R s m args below meth c H_54 locs_54 c_54 s_54 Q (F0 m 801 ls []) := by
                  intro H_54 locs_54 c_54 s_54 ls hyp hl hOt_54 hS_54 hc_54 hP_54 hD_54
                  replace hyp := (eJ_55).symm.trans hyp
                  refine lv_iconst (v := 0) hx hb dL_kept_801 (by decide) ?_
                  exact kJ_52 0 _ _ _ _ ls hyp hl hOt_54 hS_54 (by omega) hP_54 hD_54
                refine lv_if_le (tgt := 801) hx hb dL_kept_730 (by decide) (fun h_56 => ?_) (fun h_56 => ?_)
                · replace hyp := ite_t h_56 hyp
                  exact kJ_55 _ _ _ _ ls hyp (lv_sub hl [1, 3, 4, 5, 6, 7, 9, 0] rfl) hOt_49 hS_49 (by omega) hP_49 hD_49
                · replace hyp := ite_f h_56 hyp
                  refine lv_aload_n hx hb dL_kept_733 rfl (lv_at hl 1 rfl) ?_
                  refine lv_lload hx hb dL_kept_734 (lv_at hl 0 rfl) ?_
                  refine lv_l2i hx hb dL_kept_736 rfl ?_
                  refine lv_bipush (v := 49) hx hb dL_kept_737 (by decide) ?_
                  refine lv_idiv hx hb dL_kept_739 (by decide) ?_
                  refine lv_lload hx hb dL_kept_740 (lv_at hl 0 rfl) ?_
                  refine lv_l2i hx hb dL_kept_742 rfl ?_
                  refine lv_bipush (v := 49) hx hb dL_kept_743 (by decide) ?_
                  refine lv_irem hx hb dL_kept_745 (by decide) ?_
                  refine hc_canMove (rest := []) C hA9 hOt_49 hS_49 (((v_moveAt (aF st.1) v11_19 v15_40).toInt32) / 49) (((v_moveAt (aF st.1) v11_19 v15_40).toInt32) - ((v_moveAt (aF st.1) v11_19 v15_40).toInt32) / 49 * 49) ml_L_151 (Nat.le_trans (Nat.le_of_ble_eq_true rfl) hRf) (Nat.le_trans (Nat.le_of_ble_eq_true rfl) hRl) hl.1 (Nat.le_of_ble_eq_true rfl) dL_kept_746 ⟨by omega, by omega⟩ (fun H_57 locs_57 hOt_57 hS_57 hfr_57 => ?_)
                  generalize hq1 : c_49 + 1 = c_57, hq2 : s_49 + 6 = s_57
                  have hP_57 := arr_fr hfr_57 hb9 hP_49
                  have hD_57 := hD_49
                  have hc_57 : c_57 + (3 + n9_43 * 4 + n9_23 * 45) ≤ 797 ∧ s_57 + (18 + n9_43 * 24 + n9_23 * 270) ≤ 4778 := by omega
                  clear hS_49 hfr_57 hOt_49 hP_49 hD_49
                  refine lv_lconst (v := 1) hx hb dL_kept_749 (by decide) ?_
                  refine W.lcmp hx hb dL_kept_750 ?_
                  refine lv_if_ne (tgt := 801) hx hb dL_kept_751 (by decide) (fun h_58 => ?_) (fun h_58 => ?_)
                  · replace hyp := ite_f h_58 hyp
                    exact kJ_55 _ _ _ _ ls hyp (lv_sub hl [1, 3, 4, 5, 6, 7, 9, 0] rfl) hOt_57 hS_57 (by omega) hP_57 hD_57
                  · replace hyp := ite_t h_58 hyp
                    refine lv_aload_n hx hb dL_kept_754 rfl (lv_at hl 1 rfl) ?_
                    refine lv_lload hx hb dL_kept_755 (lv_at hl 0 rfl) ?_
                    refine lv_l2i hx hb dL_kept_757 rfl ?_
                    refine lv_sipush (v := 343) hx hb dL_kept_758 (by decide) ?_
                    refine lv_idiv hx hb dL_kept_761 (by decide) ?_
                    refine lv_lload hx hb dL_kept_762 (lv_at hl 0 rfl) ?_
                    refine lv_l2i hx hb dL_kept_764 rfl ?_
                    refine lv_bipush (v := 49) hx hb dL_kept_765 (by decide) ?_
                    refine lv_idiv hx hb dL_kept_767 (by decide) ?_
                    refine lv_bipush (v := 7) hx hb dL_kept_768 (by decide) ?_
                    refine lv_irem hx hb dL_kept_770 (by decide) ?_
                    refine hc_pieceAt (rest := []) C hA9 hOt_57 hS_57 (((v_moveAt (aF st.1) v11_19 v15_40).toInt32) / 343) ((((v_moveAt (aF st.1) v11_19 v15_40).toInt32) / 49) - (((v_moveAt (aF st.1) v11_19 v15_40).toInt32) / 49) / 7 * 7) ml_L_144 (Nat.le_trans (Nat.le_of_ble_eq_true rfl) hRf) (Nat.le_trans (Nat.le_of_ble_eq_true rfl) hRl) hl.1 (Nat.le_of_ble_eq_true rfl) dL_kept_771 ⟨by omega, by omega⟩ (fun H_59 locs_59 hOt_59 hS_59 hfr_59 => ?_)
                    generalize hq1 : c_57 + 1 = c_59, hq2 : s_57 + 6 = s_59
                    have hP_59 := arr_fr hfr_59 hb9 hP_57
                    have hD_59 := hD_57
                    have hc_59 : c_59 + (2 + n9_43 * 4 + n9_23 * 45) ≤ 797 ∧ s_59 + (12 + n9_43 * 24 + n9_23 * 270) ≤ 4778 := by omega
                    clear hS_57 hfr_59 hOt_57 hP_57 hD_57
                    refine lv_lconst (v := 1) hx hb dL_kept_774 (by decide) ?_
                    refine W.lcmp hx hb dL_kept_775 ?_
                    obtain ⟨J_62, eJ_62, hyp⟩ := jn_e hyp
                    have kJ_62 : ∀ (t_60 : Int32) (H_61 : Heap) (locs_61 : List Loc) (c_61 s_61 : Nat) (ls : Array Slot), J_62 t_60 = some r → lv_has ls 18 [(0, .ref (aa 0)), (6, .long v6_10), (8, .long v8_11), (10, .ref b9), (11, .int v11_19), (12, .int ((v_byPieces (aF st.1) v11_19).toInt32)), (15, .int v15_40), (16, .long (v_moveAt (aF st.1) v11_19 v15_40))] → OB g aa F9 st s H_61 → va_S A s.heap H_61 locs_61 → (c_61 + (2 + n9_43 * 4 + n9_23 * 45) ≤ 797 ∧ s_61 + (12 + n9_43 * 24 + n9_23 * 270) ≤ 4778) → va_P g.1 vwCl [(b9, .inl (g.2.1, 2, .inl atf_21))] H_61 → va_D A [(b9, .inl (g.2.1, 2, .inl atf_21))] → W p l e R s m args below meth c H_61 locs_61 c_61 s_61 Q (F0 m 784 ls [.int t_60]) := by
                      intro t_60 H_61 locs_61 c_61 s_61 ls hyp hl hOt_61 hS_61 hc_61 hP_61 hD_61
                      replace hyp := (congrFun (eJ_62) t_60).symm.trans hyp
                      refine lv_iload hx hb dL_kept_784 (lv_at hl 4 rfl) ?_
                      obtain ⟨J_65, eJ_65, hyp⟩ := jn_e hyp
                      have kJ_65 : ∀ (t_63 : Int32) (H_64 : Heap) (locs_64 : List Loc) (c_64 s_64 : Nat) (ls : Array Slot), J_65 t_63 = some r → lv_has ls 18 [(0, .ref (aa 0)), (6, .long v6_10), (8, .long v8_11), (10, .ref b9), (11, .int v11_19), (12, .int ((v_byPieces (aF st.1) v11_19).toInt32)), (15, .int v15_40), (16, .long (v_moveAt (aF st.1) v11_19 v15_40))] → OB g aa F9 st s H_64 → va_S A s.heap H_64 locs_64 → (c_64 + (2 + n9_43 * 4 + n9_23 * 45) ≤ 797 ∧ s_64 + (12 + n9_43 * 24 + n9_23 * 270) ≤ 4778) → va_P g.1 vwCl [(b9, .inl (g.2.1, 2, .inl atf_21))] H_64 → va_D A [(b9, .inl (g.2.1, 2, .inl atf_21))] → W p l e R s m args below meth c H_64 locs_64 c_64 s_64 Q (F0 m 794 ls [.int t_63, .int t_60]) := by
                        intro t_63 H_64 locs_64 c_64 s_64 ls hyp hl hOt_64 hS_64 hc_64 hP_64 hD_64
                        replace hyp := (congrFun (eJ_65) t_63).symm.trans hyp
                        refine lv_icmp_ne (tgt := 801) hx hb dL_kept_794 (by decide) (fun h_66 => ?_) (fun h_66 => ?_)
                        · replace hyp := ite_f h_66 hyp
                          exact kJ_55 _ _ _ _ ls hyp hl hOt_64 hS_64 (by omega) hP_64 hD_64
                        · replace hyp := ite_t h_66 hyp
                          refine lv_iconst (v := 1) hx hb dL_kept_797 (by decide) ?_
                          refine lv_goto (tgt := 802) hx hb dL_kept_798 (by decide) ?_
                          exact kJ_52 1 _ _ _ _ ls hyp hl hOt_64 hS_64 (by omega) hP_64 hD_64
                      refine lv_if_ne (tgt := 793) hx hb dL_kept_786 (by decide) (fun h_67 => ?_) (fun h_67 => ?_)
                      · replace hyp := ite_f h_67 hyp
                        refine lv_iconst (v := 0) hx hb dL_kept_793 (by decide) ?_
                        exact kJ_65 0 _ _ _ _ ls hyp hl hOt_61 hS_61 (by omega) hP_61 hD_61
                      · replace hyp := ite_t h_67 hyp
                        refine lv_iconst (v := 1) hx hb dL_kept_789 (by decide) ?_
                        refine lv_goto (tgt := 794) hx hb dL_kept_790 (by decide) ?_
                        exact kJ_65 1 _ _ _ _ ls hyp hl hOt_61 hS_61 (by omega) hP_61 hD_61
                    refine lv_if_ne (tgt := 783) hx hb dL_kept_776 (by decide) (fun h_68 => ?_) (fun h_68 => ?_)
                    · replace hyp := ite_f h_68 hyp
                      refine lv_iconst (v := 0) hx hb dL_kept_783 (by decide) ?_
                      exact kJ_62 0 _ _ _ _ ls hyp (lv_sub hl [1, 3, 4, 5, 6, 7, 9, 0] rfl) hOt_59 hS_59 (by omega) hP_59 hD_59
                    · replace hyp := ite_t h_68 hyp
                      refine lv_iconst (v := 1) hx hb dL_kept_779 (by decide) ?_
                      refine lv_goto (tgt := 784) hx hb dL_kept_780 (by decide) ?_
                      exact kJ_62 1 _ _ _ _ ls hyp (lv_sub hl [1, 3, 4, 5, 6, 7, 9, 0] rfl) hOt_59 hS_59 (by omega) hP_59 hD_59
          obtain ⟨J_70, eJ_70, hyp⟩ := jn_e hyp
          have kJ_70 : ∀ (H_69 : Heap) (locs_69 : List Loc) (c_69 s_69 : Nat) (ls : Array Slot), J_70 = some r → lv_has ls 18 [(0, .ref (aa 0)), (6, .long v6_10), (8, .long v8_11), (10, .ref b9), (11, .int v11_19), (12, .int ((v_byPieces (aF st.1) v11_19).toInt32)), (13, .long (-1))] → OB g aa F9 st s H_69 → va_S A s.heap H_69 locs_69 → (c_69 + (42 + n9_23 * 45) ≤ 797 ∧ s_69 + (252 + n9_23 * 270) ≤ 4778) → va_P g.1 vwCl [(b9, .inl (g.2.1, 2, .inl atf_21))] H_69 → va_D A [(b9, .inl (g.2.1, 2, .inl atf_21))] → W p l e R s m args below meth c H_69 locs_69 c_69 s_69 Q (F0 m 697 ls []) := by
            intro H_69 locs_69 c_69 s_69 ls hyp hl hOt_69 hS_69 hc_69 hP_69 hD_69
            replace hyp := (eJ_70).symm.trans hyp
            refine lv_iconst (v := 0) hx hb dL_kept_697 (by decide) ?_
            exact kJ_37 0 _ _ _ _ ls hyp hl hOt_69 hS_69 (by omega) hP_69 hD_69
          refine lv_if_ne (tgt := 697) hx hb dL_kept_656 (by decide) (fun h_71 => ?_) (fun h_71 => ?_)
          · replace hyp := ite_f h_71 hyp
            exact kJ_70 _ _ _ _ ls hyp (lv_sub hl [2, 4, 5, 6, 7, 1, 0] rfl) hOt_34 hS_34 (by omega) hP_34 hD_34
          · replace hyp := ite_t h_71 hyp
            refine lv_aload_n hx hb dL_kept_659 rfl (lv_at hl 2 rfl) ?_
            refine lv_iload hx hb dL_kept_660 (lv_at hl 7 rfl) ?_
            refine hc_winning (rest := []) C hA9 hOt_34 hS_34 v11_19 ml_L_170 (Nat.le_trans (Nat.le_of_ble_eq_true rfl) hRf) (Nat.le_trans (Nat.le_of_ble_eq_true rfl) hRl) hl.1 (Nat.le_of_ble_eq_true rfl) dL_kept_662 ⟨by omega, by omega⟩ (fun H_72 locs_72 hOt_72 hS_72 hfr_72 => ?_)
            generalize hq1 : c_34 + 1 = c_72, hq2 : s_34 + 6 = s_72
            have hP_72 := arr_fr hfr_72 hb9 hP_34
            have hD_72 := hD_34
            have hc_72 : c_72 + (44 + n9_23 * 45) ≤ 797 ∧ s_72 + (264 + n9_23 * 270) ≤ 4778 := by omega
            clear hS_34 hfr_72 hOt_34 hP_34 hD_34
            refine lv_lconst (v := 0) hx hb dL_kept_665 (by decide) ?_
            refine lv_iload hx hb dL_kept_666 (lv_at hl 1 rfl) ?_
            refine lv_i2l hx hb dL_kept_668 rfl ?_
            obtain ⟨r_73, hr_73, hyp⟩ := opt_e hyp
            refine pS (As := [.long (v_winning (aF st.1) (aG st.1) v11_19), .long 0, .long (((v_byPieces (aF st.1) v11_19).toInt32).toInt64)]) (rest := []) ⟨hx, hb, hml, hown, hts⟩ hE (mL_in l g (v_winning (aF st.1) (aG st.1) v11_19) (0 : Int64) (((v_byPieces (aF st.1) v11_19).toInt32).toInt64) r_73 hr_73) cf_L_in st_L_in ml_L_199 ⟨Nat.le_trans (Nat.le_of_ble_eq_true rfl) hRf, Nat.le_trans (Nat.le_of_ble_eq_true rfl) hRl⟩ va_P_nil rfl hl.1 rfl (Nat.le_of_ble_eq_true rfl) dL_kept_669 ⟨by omega, by omega⟩ ?_
            refine lv_if_eq (tgt := 697) hx hb dL_kept_672 (by decide) (fun h_74 => ?_) (fun h_74 => ?_)
            · replace hyp := ite_t h_74 hyp
              exact kJ_70 _ _ _ _ ls hyp (lv_sub hl [2, 4, 5, 6, 7, 1, 0] rfl) hOt_72 hS_72 (by omega) hP_72 hD_72
            · replace hyp := ite_f h_74 hyp
              refine lv_iload hx hb dL_kept_675 (lv_at hl 1 rfl) ?_
              obtain ⟨J_76, eJ_76, hyp⟩ := jn_e hyp
              have kJ_76 : ∀ (H_75 : Heap) (locs_75 : List Loc) (c_75 s_75 : Nat) (ls : Array Slot), J_76 = some r → lv_has ls 18 [(0, .ref (aa 0)), (6, .long v6_10), (8, .long v8_11), (10, .ref b9), (11, .int v11_19), (12, .int ((v_byPieces (aF st.1) v11_19).toInt32)), (13, .long (-1))] → OB g aa F9 st s H_75 → va_S A s.heap H_75 locs_75 → (c_75 + (42 + n9_23 * 45) ≤ 797 ∧ s_75 + (252 + n9_23 * 270) ≤ 4778) → va_P g.1 vwCl [(b9, .inl (g.2.1, 2, .inl atf_21))] H_75 → va_D A [(b9, .inl (g.2.1, 2, .inl atf_21))] → W p l e R s m args below meth c H_75 locs_75 c_75 s_75 Q (F0 m 693 ls []) := by
                intro H_75 locs_75 c_75 s_75 ls hyp hl hOt_75 hS_75 hc_75 hP_75 hD_75
                replace hyp := (eJ_76).symm.trans hyp
                refine lv_iconst (v := 1) hx hb dL_kept_693 (by decide) ?_
                refine lv_goto (tgt := 698) hx hb dL_kept_694 (by decide) ?_
                exact kJ_37 1 _ _ _ _ ls hyp hl hOt_75 hS_75 (by omega) hP_75 hD_75
              refine lv_if_gt (tgt := 693) hx hb dL_kept_677 (by decide) (fun h_77 => ?_) (fun h_77 => ?_)
              · replace hyp := ite_t h_77 hyp
                exact kJ_76 _ _ _ _ ls hyp (lv_sub hl [2, 4, 5, 6, 7, 1, 0] rfl) hOt_72 hS_72 (by omega) hP_72 hD_72
              · replace hyp := ite_f h_77 hyp
                refine lv_aload_n hx hb dL_kept_680 rfl (lv_at hl 2 rfl) ?_
                refine lv_iload hx hb dL_kept_681 (lv_at hl 7 rfl) ?_
                refine hc_bestMove (rest := []) C hA9 hOt_72 hS_72 v11_19 ml_L_175 (Nat.le_trans (Nat.le_of_ble_eq_true rfl) hRf) (Nat.le_trans (Nat.le_of_ble_eq_true rfl) hRl) hl.1 (Nat.le_of_ble_eq_true rfl) dL_kept_683 ⟨by omega, by omega⟩ (fun H_78 locs_78 hOt_78 hS_78 hfr_78 => ?_)
                generalize hq1 : c_72 + 2 = c_78, hq2 : s_72 + 12 = s_78
                have hP_78 := arr_fr hfr_78 hb9 hP_72
                have hD_78 := hD_72
                have hc_78 : c_78 + (42 + n9_23 * 45) ≤ 797 ∧ s_78 + (252 + n9_23 * 270) ≤ 4778 := by omega
                clear hS_72 hfr_78 hOt_72 hP_72 hD_72
                refine lv_ldc2 (v := (-9000000000000000003)) hx hb hown (hts _ ct_L_25) dL_kept_686 ?_
                refine W.lcmp hx hb dL_kept_689 ?_
                refine lv_if_ne (tgt := 697) hx hb dL_kept_690 (by decide) (fun h_79 => ?_) (fun h_79 => ?_)
                · replace hyp := ite_f h_79 hyp
                  exact kJ_70 _ _ _ _ ls hyp (lv_sub hl [2, 4, 5, 6, 7, 1, 0] rfl) hOt_78 hS_78 (by omega) hP_78 hD_78
                · replace hyp := ite_t h_79 hyp
                  exact kJ_76 _ _ _ _ ls hyp (lv_sub hl [2, 4, 5, 6, 7, 1, 0] rfl) hOt_78 hS_78 (by omega) hP_78 hD_78
    refine lv_icmp_ge (tgt := 618) hx hb dL_kept_247 (by decide) (fun h_80 => ?_) (fun h_80 => ?_)
    · replace hyp := ite_t h_80 hyp
      exact kJ_17 _ _ _ _ ls hyp (lv_sub hl [0, 2, 3, 4, 5] rfl) hOt_13 hS_13 (by omega) hP_13 hD_13
    · replace hyp := ite_f h_80 hyp
      refine lv_iload hx hb dL_kept_250 (lv_at hl 2 rfl) ?_
      refine lv_if_eq (tgt := 618) hx hb dL_kept_252 (by decide) (fun h_81 => ?_) (fun h_81 => ?_)
      · replace hyp := ite_t h_81 hyp
        exact kJ_17 _ _ _ _ ls hyp (lv_sub hl [0, 2, 3, 4, 5] rfl) hOt_13 hS_13 (by omega) hP_13 hD_13
      · replace hyp := ite_f h_81 hyp
        refine lv_aload_n hx hb dL_kept_255 rfl (lv_at hl 0 rfl) ?_
        refine lv_iload hx hb dL_kept_256 (lv_at hl 6 rfl) ?_
        refine lv_bipush (v := 7) hx hb dL_kept_258 (by decide) ?_
        refine lv_idiv hx hb dL_kept_260 (by decide) ?_
        refine lv_iload hx hb dL_kept_261 (lv_at hl 6 rfl) ?_
        refine lv_bipush (v := 7) hx hb dL_kept_263 (by decide) ?_
        refine lv_irem hx hb dL_kept_265 (by decide) ?_
        refine hc_pieceAt (rest := []) C hA9 hOt_13 hS_13 (v11_12 / 7) (v11_12 - v11_12 / 7 * 7) ml_L_144 (Nat.le_trans (Nat.le_of_ble_eq_true rfl) hRf) (Nat.le_trans (Nat.le_of_ble_eq_true rfl) hRl) hl.1 (Nat.le_of_ble_eq_true rfl) dL_kept_266 ⟨by omega, by omega⟩ (fun H_82 locs_82 hOt_82 hS_82 hfr_82 => ?_)
        generalize hq1 : c_13 + 1 = c_82, hq2 : s_13 + 6 = s_82
        have hP_82 := arr_fr hfr_82 hb9 hP_13
        have hD_82 := hD_13
        have hc_82 : c_82 + (149 + n9_15 * 13) ≤ 797 ∧ s_82 + (894 + n9_15 * 78) ≤ 4778 := by omega
        clear hS_13 hfr_82 hOt_13 hP_13 hD_13
        obtain ⟨v12_83, ev12_83, hyp⟩ := bnd_e hyp
        refine lv_eqj ev12_83 ?_
        refine lv_lstore (lv' := [(12, .long v12_83), (0, .ref (aa 0)), (1, .int a1), (5, .int v5_9), (6, .long v6_10), (8, .long v8_11), (10, .ref b9), (11, .int v11_12)]) hx hb dL_kept_269 hl (by decide) rfl (fun ls hl => ?_)
        refine lv_aload_n hx hb dL_kept_271 rfl (lv_at hl 1 rfl) ?_
        refine lv_iload hx hb dL_kept_272 (lv_at hl 7 rfl) ?_
        refine lv_bipush (v := 7) hx hb dL_kept_274 (by decide) ?_
        refine lv_idiv hx hb dL_kept_276 (by decide) ?_
        refine lv_iload hx hb dL_kept_277 (lv_at hl 7 rfl) ?_
        refine lv_bipush (v := 7) hx hb dL_kept_279 (by decide) ?_
        refine lv_irem hx hb dL_kept_281 (by decide) ?_
        refine hc_movesFrom (rest := []) C hA9 hOt_82 hS_82 (v11_12 / 7) (v11_12 - v11_12 / 7 * 7) ml_L_156 (Nat.le_trans (Nat.le_of_ble_eq_true rfl) hRf) (Nat.le_trans (Nat.le_of_ble_eq_true rfl) hRl) hl.1 (Nat.le_of_ble_eq_true rfl) dL_kept_282 ⟨by omega, by omega⟩ (fun H_84 locs_84 hOt_84 hS_84 hfr_84 => ?_)
        generalize hq1 : c_82 + 1 = c_84, hq2 : s_82 + 6 = s_84
        have hP_84 := arr_fr hfr_84 hb9 hP_82
        have hD_84 := hD_82
        have hc_84 : c_84 + (148 + n9_15 * 13) ≤ 797 ∧ s_84 + (888 + n9_15 * 78) ≤ 4778 := by omega
        clear hS_82 hfr_84 hOt_82 hP_82 hD_82
        obtain ⟨v14_85, ev14_85, hyp⟩ := bnd_e hyp
        refine lv_eqj ev14_85 ?_
        refine lv_lstore (lv' := [(14, .long v14_85), (12, .long v12_83), (0, .ref (aa 0)), (1, .int a1), (5, .int v5_9), (6, .long v6_10), (8, .long v8_11), (10, .ref b9), (11, .int v11_12)]) hx hb dL_kept_285 hl (by decide) rfl (fun ls hl => ?_)
        refine lv_iload hx hb dL_kept_287 (lv_at hl 8 rfl) ?_
        refine lv_bipush (v := 24) hx hb dL_kept_289 (by decide) ?_
        obtain ⟨J_88, eJ_88, hyp⟩ := jn_e hyp
        have kJ_88 : ∀ (t_86 : Int32) (H_87 : Heap) (locs_87 : List Loc) (c_87 s_87 : Nat) (ls : Array Slot), J_88 t_86 = some r → lv_has ls 18 [(0, .ref (aa 0)), (1, .int a1), (6, .long v6_10), (8, .long v8_11), (10, .ref b9), (11, .int v11_12), (12, .long v12_83), (14, .long v14_85)] → OB g aa F9 st s H_87 → va_S A s.heap H_87 locs_87 → (c_87 + (148 + n9_15 * 13) ≤ 797 ∧ s_87 + (888 + n9_15 * 78) ≤ 4778) → va_P g.1 vwCl [(b9, .inl (g.2.1, 2, .inl (fun _ => 0)))] H_87 → va_D A [(b9, .inl (g.2.1, 2, .inl (fun _ => 0)))] → W p l e R s m args below meth c H_87 locs_87 c_87 s_87 Q (F0 m 307 ls [.int t_86]) := by
          intro t_86 H_87 locs_87 c_87 s_87 ls hyp hl hOt_87 hS_87 hc_87 hP_87 hD_87
          replace hyp := (congrFun (eJ_88) t_86).symm.trans hyp
          refine lv_istore (lv' := [(16, .int t_86), (0, .ref (aa 0)), (1, .int a1), (6, .long v6_10), (8, .long v8_11), (10, .ref b9), (11, .int v11_12), (12, .long v12_83), (14, .long v14_85)]) hx hb dL_kept_307 hl (by decide) rfl (fun ls hl => ?_)
          refine lv_lload hx hb dL_kept_309 (lv_at hl 3 rfl) ?_
          refine lv_lload hx hb dL_kept_311 (lv_at hl 8 rfl) ?_
          refine lv_ladd hx hb dL_kept_313 ?_
          refine lv_lstore (lv' := [(6, .long (v6_10 + v14_85)), (16, .int t_86), (0, .ref (aa 0)), (1, .int a1), (8, .long v8_11), (10, .ref b9), (11, .int v11_12), (12, .long v12_83), (14, .long v14_85)]) hx hb dL_kept_314 hl (by decide) rfl (fun ls hl => ?_)
          refine lv_lload hx hb dL_kept_316 (lv_at hl 4 rfl) ?_
          refine lv_lload hx hb dL_kept_318 (lv_at hl 7 rfl) ?_
          refine lv_lconst (v := 0) hx hb dL_kept_320 (by decide) ?_
          refine W.lcmp hx hb dL_kept_321 ?_
          obtain ⟨J_91, eJ_91, hyp⟩ := jn_e hyp
          have kJ_91 : ∀ (t_89 : Int64) (H_90 : Heap) (locs_90 : List Loc) (c_90 s_90 : Nat) (ls : Array Slot), J_91 t_89 = some r → lv_has ls 18 [(0, .ref (aa 0)), (1, .int a1), (6, .long (v6_10 + v14_85)), (10, .ref b9), (11, .int v11_12), (12, .long v12_83), (14, .long v14_85), (16, .int t_86)] → OB g aa F9 st s H_90 → va_S A s.heap H_90 locs_90 → (c_90 + (148 + n9_15 * 13) ≤ 797 ∧ s_90 + (888 + n9_15 * 78) ≤ 4778) → va_P g.1 vwCl [(b9, .inl (g.2.1, 2, .inl (fun _ => 0)))] H_90 → va_D A [(b9, .inl (g.2.1, 2, .inl (fun _ => 0)))] → W p l e R s m args below meth c H_90 locs_90 c_90 s_90 Q (F0 m 330 ls [.long t_89, .long v8_11]) := by
            intro t_89 H_90 locs_90 c_90 s_90 ls hyp hl hOt_90 hS_90 hc_90 hP_90 hD_90
            replace hyp := (congrFun (eJ_91) t_89).symm.trans hyp
            refine lv_ladd hx hb dL_kept_330 ?_
            refine lv_lstore (lv' := [(8, .long (v8_11 + t_89)), (0, .ref (aa 0)), (1, .int a1), (6, .long (v6_10 + v14_85)), (10, .ref b9), (11, .int v11_12), (12, .long v12_83), (14, .long v14_85), (16, .int t_86)]) hx hb dL_kept_331 hl (by decide) rfl (fun ls hl => ?_)
            refine lv_lload hx hb dL_kept_333 (lv_at hl 6 rfl) ?_
            refine lv_lconst (v := 0) hx hb dL_kept_335 (by decide) ?_
            refine lv_ldc2 (v := 3) hx hb hown (hts _ ct_L_217) dL_kept_336 ?_
            obtain ⟨r_92, hr_92, hyp⟩ := opt_e hyp
            refine pS (As := [.long v12_83, .long 0, .long 3]) (rest := []) ⟨hx, hb, hml, hown, hts⟩ hE (mL_in l g v12_83 (0 : Int64) (3 : Int64) r_92 hr_92) cf_L_in st_L_in ml_L_199 ⟨Nat.le_trans (Nat.le_of_ble_eq_true rfl) hRf, Nat.le_trans (Nat.le_of_ble_eq_true rfl) hRl⟩ va_P_nil rfl hl.1 rfl (Nat.le_of_ble_eq_true rfl) dL_kept_339 ⟨by omega, by omega⟩ ?_
            obtain ⟨J_95, eJ_95, hyp⟩ := jn_e hyp
            have kJ_95 : ∀ (t_93 : Int32) (H_94 : Heap) (locs_94 : List Loc) (c_94 s_94 : Nat) (ls : Array Slot), J_95 t_93 = some r → lv_has ls 18 [(0, .ref (aa 0)), (1, .int a1), (6, .long (v6_10 + v14_85)), (8, .long (v8_11 + t_89)), (10, .ref b9), (11, .int v11_12), (12, .long v12_83)] → OB g aa F9 st s H_94 → va_S A s.heap H_94 locs_94 → (c_94 + (140 + n9_15 * 13) ≤ 797 ∧ s_94 + (840 + n9_15 * 78) ≤ 4778) → va_P g.1 vwCl [(b9, .inl (g.2.1, 2, .inl (fun _ => 0)))] H_94 → va_D A [(b9, .inl (g.2.1, 2, .inl (fun _ => 0)))] → W p l e R s m args below meth c H_94 locs_94 c_94 s_94 Q (F0 m 512 ls [.int t_93]) := by
              intro t_93 H_94 locs_94 c_94 s_94 ls hyp hl hOt_94 hS_94 hc_94 hP_94 hD_94
              replace hyp := (congrFun (eJ_95) t_93).symm.trans hyp
              refine lv_istore (lv' := [(5, .int t_93), (0, .ref (aa 0)), (1, .int a1), (6, .long (v6_10 + v14_85)), (8, .long (v8_11 + t_89)), (10, .ref b9), (11, .int v11_12), (12, .long v12_83)]) hx hb dL_kept_512 hl (by decide) rfl (fun ls hl => ?_)
              refine lv_iload_n hx hb dL_kept_514 rfl (lv_at hl 2 rfl) ?_
              refine lv_bipush (v := 49) hx hb dL_kept_515 (by decide) ?_
              refine lv_irem hx hb dL_kept_517 (by decide) ?_
              refine lv_iconst (v := 3) hx hb dL_kept_518 (by decide) ?_
              refine lv_iload hx hb dL_kept_519 (lv_at hl 6 rfl) ?_
              refine lv_imul hx hb dL_kept_521 ?_
              refine lv_iadd hx hb dL_kept_522 ?_
              refine lv_bipush (v := 49) hx hb dL_kept_523 (by decide) ?_
              refine lv_irem hx hb dL_kept_525 (by decide) ?_
              obtain ⟨v17_96, ev17_96, hyp⟩ := bnd_e hyp
              refine lv_eqi ev17_96 ?_
              refine lv_istore (lv' := [(17, .int v17_96), (5, .int t_93), (0, .ref (aa 0)), (1, .int a1), (6, .long (v6_10 + v14_85)), (8, .long (v8_11 + t_89)), (10, .ref b9), (11, .int v11_12), (12, .long v12_83)]) hx hb dL_kept_526 hl (by decide) rfl (fun ls hl => ?_)
              refine lv_iload hx hb dL_kept_528 (lv_at hl 1 rfl) ?_
              obtain ⟨J_99, eJ_99, hyp⟩ := jn_e hyp
              have kJ_99 : ∀ (t_97 : Int32) (H_98 : Heap) (locs_98 : List Loc) (c_98 s_98 : Nat) (ls : Array Slot), J_99 t_97 = some r → lv_has ls 18 [(0, .ref (aa 0)), (1, .int a1), (6, .long (v6_10 + v14_85)), (8, .long (v8_11 + t_89)), (10, .ref b9), (11, .int v11_12)] → OB g aa F9 st s H_98 → va_S A s.heap H_98 locs_98 → (c_98 + (137 + n9_15 * 13) ≤ 797 ∧ s_98 + (822 + n9_15 * 78) ≤ 4778) → va_P g.1 vwCl [(b9, .inl (g.2.1, 2, .inl (fun _ => 0)))] H_98 → va_D A [(b9, .inl (g.2.1, 2, .inl (fun _ => 0)))] → W p l e R s m args below meth c H_98 locs_98 c_98 s_98 Q (F0 m 610 ls [.int t_97]) := by
                intro t_97 H_98 locs_98 c_98 s_98 ls hyp hl hOt_98 hS_98 hc_98 hP_98 hD_98
                replace hyp := (congrFun (eJ_99) t_97).symm.trans hyp
                refine lv_istore (lv' := [(5, .int t_97), (0, .ref (aa 0)), (1, .int a1), (6, .long (v6_10 + v14_85)), (8, .long (v8_11 + t_89)), (10, .ref b9), (11, .int v11_12)]) hx hb dL_kept_610 hl (by decide) rfl (fun ls hl => ?_)
                refine lv_iinc (v := v11_12 + 1) (lv' := [(11, .int (v11_12 + 1)), (5, .int t_97), (0, .ref (aa 0)), (1, .int a1), (6, .long (v6_10 + v14_85)), (8, .long (v8_11 + t_89)), (10, .ref b9)]) hx hb dL_kept_612 hl (k := 6) rfl rfl (by decide) rfl (fun ls hl => ?_)
                refine lv_goto (tgt := 243) hx hb dL_kept_615 (by decide) ?_
                exact ihself_14 t_97 (v6_10 + v14_85) (v8_11 + t_89) (v11_12 + 1) hyp _ _ _ _ ls (lv_sub hl [2, 3, 1, 4, 5, 6, 0] rfl) hOt_98 hS_98 (by omega) hP_98 hD_98
              obtain ⟨J_101, eJ_101, hyp⟩ := jn_e hyp
              have kJ_101 : ∀ (H_100 : Heap) (locs_100 : List Loc) (c_100 s_100 : Nat) (ls : Array Slot), J_101 = some r → lv_has ls 18 [(0, .ref (aa 0)), (1, .int a1), (6, .long (v6_10 + v14_85)), (8, .long (v8_11 + t_89)), (10, .ref b9), (11, .int v11_12)] → OB g aa F9 st s H_100 → va_S A s.heap H_100 locs_100 → (c_100 + (137 + n9_15 * 13) ≤ 797 ∧ s_100 + (822 + n9_15 * 78) ≤ 4778) → va_P g.1 vwCl [(b9, .inl (g.2.1, 2, .inl (fun _ => 0)))] H_100 → va_D A [(b9, .inl (g.2.1, 2, .inl (fun _ => 0)))] → W p l e R s m args below meth c H_100 locs_100 c_100 s_100 Q (F0 m 609 ls []) := by
                intro H_100 locs_100 c_100 s_100 ls hyp hl hOt_100 hS_100 hc_100 hP_100 hD_100
                replace hyp := (eJ_101).symm.trans hyp
                refine lv_iconst (v := 0) hx hb dL_kept_609 (by decide) ?_
                exact kJ_99 0 _ _ _ _ ls hyp hl hOt_100 hS_100 (by omega) hP_100 hD_100
              refine lv_if_eq (tgt := 609) hx hb dL_kept_530 (by decide) (fun h_102 => ?_) (fun h_102 => ?_)
              · replace hyp := ite_t h_102 hyp
                exact kJ_101 _ _ _ _ ls hyp (lv_sub hl [2, 3, 4, 5, 6, 7] rfl) hOt_94 hS_94 (by omega) hP_94 hD_94
              · replace hyp := ite_f h_102 hyp
                refine lv_aload_n hx hb dL_kept_533 rfl (lv_at hl 2 rfl) ?_
                refine lv_iload hx hb dL_kept_534 (lv_at hl 7 rfl) ?_
                refine lv_iload hx hb dL_kept_536 (lv_at hl 0 rfl) ?_
                refine hc_against (rest := []) C hA9 hOt_94 hS_94 v11_12 v17_96 ml_L_153 (Nat.le_trans (Nat.le_of_ble_eq_true rfl) hRf) (Nat.le_trans (Nat.le_of_ble_eq_true rfl) hRl) hl.1 (Nat.le_of_ble_eq_true rfl) dL_kept_538 ⟨by omega, by omega⟩ (fun H_103 locs_103 hOt_103 hS_103 hfr_103 => ?_)
                generalize hq1 : c_94 + 1 = c_103, hq2 : s_94 + 6 = s_103
                have hP_103 := arr_fr hfr_103 hb9 hP_94
                have hD_103 := hD_94
                have hc_103 : c_103 + (139 + n9_15 * 13) ≤ 797 ∧ s_103 + (834 + n9_15 * 78) ≤ 4778 := by omega
                clear hS_94 hfr_103 hOt_94 hP_94 hD_94
                refine lv_lconst (v := 0) hx hb dL_kept_541 (by decide) ?_
                refine W.lcmp hx hb dL_kept_542 ?_
                obtain ⟨J_106, eJ_106, hyp⟩ := jn_e hyp
                have kJ_106 : ∀ (t_104 : Int32) (H_105 : Heap) (locs_105 : List Loc) (c_105 s_105 : Nat) (ls : Array Slot), J_106 t_104 = some r → lv_has ls 18 [(0, .ref (aa 0)), (1, .int a1), (6, .long (v6_10 + v14_85)), (8, .long (v8_11 + t_89)), (10, .ref b9), (11, .int v11_12), (12, .long v12_83), (17, .int v17_96)] → OB g aa F9 st s H_105 → va_S A s.heap H_105 locs_105 → (c_105 + (139 + n9_15 * 13) ≤ 797 ∧ s_105 + (834 + n9_15 * 78) ≤ 4778) → va_P g.1 vwCl [(b9, .inl (g.2.1, 2, .inl (fun _ => 0)))] H_105 → va_D A [(b9, .inl (g.2.1, 2, .inl (fun _ => 0)))] → W p l e R s m args below meth c H_105 locs_105 c_105 s_105 Q (F0 m 551 ls [.int t_104]) := by
                  intro t_104 H_105 locs_105 c_105 s_105 ls hyp hl hOt_105 hS_105 hc_105 hP_105 hD_105
                  replace hyp := (congrFun (eJ_106) t_104).symm.trans hyp
                  refine lv_aload_n hx hb dL_kept_551 rfl (lv_at hl 0 rfl) ?_
                  refine lv_iload hx hb dL_kept_552 (lv_at hl 5 rfl) ?_
                  refine lv_iload hx hb dL_kept_554 (lv_at hl 7 rfl) ?_
                  refine hc_canMove (rest := [.int t_104]) C hA9 hOt_105 hS_105 v11_12 v17_96 ml_L_151 (Nat.le_trans (Nat.le_of_ble_eq_true rfl) hRf) (Nat.le_trans (Nat.le_of_ble_eq_true rfl) hRl) hl.1 (Nat.le_of_ble_eq_true rfl) dL_kept_556 ⟨by omega, by omega⟩ (fun H_107 locs_107 hOt_107 hS_107 hfr_107 => ?_)
                  generalize hq1 : c_105 + 1 = c_107, hq2 : s_105 + 6 = s_107
                  have hP_107 := arr_fr hfr_107 hb9 hP_105
                  have hD_107 := hD_105
                  have hc_107 : c_107 + (138 + n9_15 * 13) ≤ 797 ∧ s_107 + (828 + n9_15 * 78) ≤ 4778 := by omega
                  clear hS_105 hfr_107 hOt_105 hP_105 hD_105
                  refine lv_lconst (v := 1) hx hb dL_kept_559 (by decide) ?_
                  refine W.lcmp hx hb dL_kept_560 ?_
                  obtain ⟨J_110, eJ_110, hyp⟩ := jn_e hyp
                  have kJ_110 : ∀ (t_108 : Int32) (H_109 : Heap) (locs_109 : List Loc) (c_109 s_109 : Nat) (ls : Array Slot), J_110 t_108 = some r → lv_has ls 18 [(0, .ref (aa 0)), (1, .int a1), (6, .long (v6_10 + v14_85)), (8, .long (v8_11 + t_89)), (10, .ref b9), (11, .int v11_12), (12, .long v12_83), (17, .int v17_96)] → OB g aa F9 st s H_109 → va_S A s.heap H_109 locs_109 → (c_109 + (138 + n9_15 * 13) ≤ 797 ∧ s_109 + (828 + n9_15 * 78) ≤ 4778) → va_P g.1 vwCl [(b9, .inl (g.2.1, 2, .inl (fun _ => 0)))] H_109 → va_D A [(b9, .inl (g.2.1, 2, .inl (fun _ => 0)))] → W p l e R s m args below meth c H_109 locs_109 c_109 s_109 Q (F0 m 569 ls [.int t_108, .int t_104]) := by
                    intro t_108 H_109 locs_109 c_109 s_109 ls hyp hl hOt_109 hS_109 hc_109 hP_109 hD_109
                    replace hyp := (congrFun (eJ_110) t_108).symm.trans hyp
                    refine lv_icmp_ne (tgt := 609) hx hb dL_kept_569 (by decide) (fun h_111 => ?_) (fun h_111 => ?_)
                    · replace hyp := ite_f h_111 hyp
                      exact kJ_101 _ _ _ _ ls hyp (lv_sub hl [0, 1, 2, 3, 4, 5] rfl) hOt_109 hS_109 (by omega) hP_109 hD_109
                    · replace hyp := ite_t h_111 hyp
                      refine lv_aload_n hx hb dL_kept_572 rfl (lv_at hl 0 rfl) ?_
                      refine lv_iload hx hb dL_kept_573 (lv_at hl 5 rfl) ?_
                      refine lv_iload hx hb dL_kept_575 (lv_at hl 7 rfl) ?_
                      refine hc_against (rest := []) C hA9 hOt_109 hS_109 v11_12 v17_96 ml_L_153 (Nat.le_trans (Nat.le_of_ble_eq_true rfl) hRf) (Nat.le_trans (Nat.le_of_ble_eq_true rfl) hRl) hl.1 (Nat.le_of_ble_eq_true rfl) dL_kept_577 ⟨by omega, by omega⟩ (fun H_112 locs_112 hOt_112 hS_112 hfr_112 => ?_)
                      generalize hq1 : c_109 + 1 = c_112, hq2 : s_109 + 6 = s_112
                      have hP_112 := arr_fr hfr_112 hb9 hP_109
                      have hD_112 := hD_109
                      have hc_112 : c_112 + (137 + n9_15 * 13) ≤ 797 ∧ s_112 + (822 + n9_15 * 78) ≤ 4778 := by omega
                      clear hS_109 hfr_112 hOt_109 hP_109 hD_109
                      refine lv_lconst (v := 1) hx hb dL_kept_580 (by decide) ?_
                      refine W.lcmp hx hb dL_kept_581 ?_
                      obtain ⟨J_115, eJ_115, hyp⟩ := jn_e hyp
                      have kJ_115 : ∀ (t_113 : Int32) (H_114 : Heap) (locs_114 : List Loc) (c_114 s_114 : Nat) (ls : Array Slot), J_115 t_113 = some r → lv_has ls 18 [(0, .ref (aa 0)), (1, .int a1), (6, .long (v6_10 + v14_85)), (8, .long (v8_11 + t_89)), (10, .ref b9), (11, .int v11_12), (12, .long v12_83)] → OB g aa F9 st s H_114 → va_S A s.heap H_114 locs_114 → (c_114 + (137 + n9_15 * 13) ≤ 797 ∧ s_114 + (822 + n9_15 * 78) ≤ 4778) → va_P g.1 vwCl [(b9, .inl (g.2.1, 2, .inl (fun _ => 0)))] H_114 → va_D A [(b9, .inl (g.2.1, 2, .inl (fun _ => 0)))] → W p l e R s m args below meth c H_114 locs_114 c_114 s_114 Q (F0 m 590 ls [.int t_113]) := by
                        intro t_113 H_114 locs_114 c_114 s_114 ls hyp hl hOt_114 hS_114 hc_114 hP_114 hD_114
                        replace hyp := (congrFun (eJ_115) t_113).symm.trans hyp
                        refine lv_lload hx hb dL_kept_590 (lv_at hl 6 rfl) ?_
                        refine lv_lconst (v := 0) hx hb dL_kept_592 (by decide) ?_
                        refine W.lcmp hx hb dL_kept_593 ?_
                        obtain ⟨J_118, eJ_118, hyp⟩ := jn_e hyp
                        have kJ_118 : ∀ (t_116 : Int32) (H_117 : Heap) (locs_117 : List Loc) (c_117 s_117 : Nat) (ls : Array Slot), J_118 t_116 = some r → lv_has ls 18 [(0, .ref (aa 0)), (1, .int a1), (6, .long (v6_10 + v14_85)), (8, .long (v8_11 + t_89)), (10, .ref b9), (11, .int v11_12)] → OB g aa F9 st s H_117 → va_S A s.heap H_117 locs_117 → (c_117 + (137 + n9_15 * 13) ≤ 797 ∧ s_117 + (822 + n9_15 * 78) ≤ 4778) → va_P g.1 vwCl [(b9, .inl (g.2.1, 2, .inl (fun _ => 0)))] H_117 → va_D A [(b9, .inl (g.2.1, 2, .inl (fun _ => 0)))] → W p l e R s m args below meth c H_117 locs_117 c_117 s_117 Q (F0 m 602 ls [.int t_116, .int t_113]) := by
                          intro t_116 H_117 locs_117 c_117 s_117 ls hyp hl hOt_117 hS_117 hc_117 hP_117 hD_117
                          replace hyp := (congrFun (eJ_118) t_116).symm.trans hyp
                          refine lv_icmp_ne (tgt := 609) hx hb dL_kept_602 (by decide) (fun h_119 => ?_) (fun h_119 => ?_)
                          · replace hyp := ite_f h_119 hyp
                            exact kJ_101 _ _ _ _ ls hyp hl hOt_117 hS_117 (by omega) hP_117 hD_117
                          · replace hyp := ite_t h_119 hyp
                            refine lv_iconst (v := 1) hx hb dL_kept_605 (by decide) ?_
                            refine lv_goto (tgt := 610) hx hb dL_kept_606 (by decide) ?_
                            exact kJ_99 1 _ _ _ _ ls hyp hl hOt_117 hS_117 (by omega) hP_117 hD_117
                        refine lv_if_ne (tgt := 601) hx hb dL_kept_594 (by decide) (fun h_120 => ?_) (fun h_120 => ?_)
                        · replace hyp := ite_f h_120 hyp
                          refine lv_iconst (v := 0) hx hb dL_kept_601 (by decide) ?_
                          exact kJ_118 0 _ _ _ _ ls hyp (lv_sub hl [0, 1, 2, 3, 4, 5] rfl) hOt_114 hS_114 (by omega) hP_114 hD_114
                        · replace hyp := ite_t h_120 hyp
                          refine lv_iconst (v := 1) hx hb dL_kept_597 (by decide) ?_
                          refine lv_goto (tgt := 602) hx hb dL_kept_598 (by decide) ?_
                          exact kJ_118 1 _ _ _ _ ls hyp (lv_sub hl [0, 1, 2, 3, 4, 5] rfl) hOt_114 hS_114 (by omega) hP_114 hD_114
                      refine lv_if_ne (tgt := 589) hx hb dL_kept_582 (by decide) (fun h_121 => ?_) (fun h_121 => ?_)
                      · replace hyp := ite_f h_121 hyp
                        refine lv_iconst (v := 0) hx hb dL_kept_589 (by decide) ?_
                        exact kJ_115 0 _ _ _ _ ls hyp (lv_sub hl [0, 1, 2, 3, 4, 5, 6] rfl) hOt_112 hS_112 (by omega) hP_112 hD_112
                      · replace hyp := ite_t h_121 hyp
                        refine lv_iconst (v := 1) hx hb dL_kept_585 (by decide) ?_
                        refine lv_goto (tgt := 590) hx hb dL_kept_586 (by decide) ?_
                        exact kJ_115 1 _ _ _ _ ls hyp (lv_sub hl [0, 1, 2, 3, 4, 5, 6] rfl) hOt_112 hS_112 (by omega) hP_112 hD_112
                  refine lv_if_ne (tgt := 568) hx hb dL_kept_561 (by decide) (fun h_122 => ?_) (fun h_122 => ?_)
                  · replace hyp := ite_f h_122 hyp
                    refine lv_iconst (v := 0) hx hb dL_kept_568 (by decide) ?_
                    exact kJ_110 0 _ _ _ _ ls hyp hl hOt_107 hS_107 (by omega) hP_107 hD_107
                  · replace hyp := ite_t h_122 hyp
                    refine lv_iconst (v := 1) hx hb dL_kept_564 (by decide) ?_
                    refine lv_goto (tgt := 569) hx hb dL_kept_565 (by decide) ?_
                    exact kJ_110 1 _ _ _ _ ls hyp hl hOt_107 hS_107 (by omega) hP_107 hD_107
                refine lv_if_ne (tgt := 550) hx hb dL_kept_543 (by decide) (fun h_123 => ?_) (fun h_123 => ?_)
                · replace hyp := ite_f h_123 hyp
                  refine lv_iconst (v := 0) hx hb dL_kept_550 (by decide) ?_
                  exact kJ_106 0 _ _ _ _ ls hyp (lv_sub hl [2, 3, 4, 5, 6, 7, 8, 0] rfl) hOt_103 hS_103 (by omega) hP_103 hD_103
                · replace hyp := ite_t h_123 hyp
                  refine lv_iconst (v := 1) hx hb dL_kept_546 (by decide) ?_
                  refine lv_goto (tgt := 551) hx hb dL_kept_547 (by decide) ?_
                  exact kJ_106 1 _ _ _ _ ls hyp (lv_sub hl [2, 3, 4, 5, 6, 7, 8, 0] rfl) hOt_103 hS_103 (by omega) hP_103 hD_103
            obtain ⟨J_125, eJ_125, hyp⟩ := jn_e hyp
            have kJ_125 : ∀ (H_124 : Heap) (locs_124 : List Loc) (c_124 s_124 : Nat) (ls : Array Slot), J_125 = some r → lv_has ls 18 [(0, .ref (aa 0)), (1, .int a1), (6, .long (v6_10 + v14_85)), (8, .long (v8_11 + t_89)), (10, .ref b9), (11, .int v11_12), (12, .long v12_83)] → OB g aa F9 st s H_124 → va_S A s.heap H_124 locs_124 → (c_124 + (140 + n9_15 * 13) ≤ 797 ∧ s_124 + (840 + n9_15 * 78) ≤ 4778) → va_P g.1 vwCl [(b9, .inl (g.2.1, 2, .inl (fun _ => 0)))] H_124 → va_D A [(b9, .inl (g.2.1, 2, .inl (fun _ => 0)))] → W p l e R s m args below meth c H_124 locs_124 c_124 s_124 Q (F0 m 511 ls []) := by
              intro H_124 locs_124 c_124 s_124 ls hyp hl hOt_124 hS_124 hc_124 hP_124 hD_124
              replace hyp := (eJ_125).symm.trans hyp
              refine lv_iconst (v := 0) hx hb dL_kept_511 (by decide) ?_
              exact kJ_95 0 _ _ _ _ ls hyp hl hOt_124 hS_124 (by omega) hP_124 hD_124
            refine lv_if_eq (tgt := 511) hx hb dL_kept_342 (by decide) (fun h_126 => ?_) (fun h_126 => ?_)
            · replace hyp := ite_t h_126 hyp
              exact kJ_125 _ _ _ _ ls hyp (lv_sub hl [1, 2, 3, 0, 4, 5, 6] rfl) hOt_90 hS_90 (by omega) hP_90 hD_90
            · replace hyp := ite_f h_126 hyp
              refine lv_iload hx hb dL_kept_345 (lv_at hl 8 rfl) ?_
              obtain ⟨J_128, eJ_128, hyp⟩ := jn_e hyp
              have kJ_128 : ∀ (H_127 : Heap) (locs_127 : List Loc) (c_127 s_127 : Nat) (ls : Array Slot), J_128 = some r → lv_has ls 18 [(0, .ref (aa 0)), (1, .int a1), (6, .long (v6_10 + v14_85)), (8, .long (v8_11 + t_89)), (10, .ref b9), (11, .int v11_12), (12, .long v12_83), (14, .long v14_85), (16, .int t_86)] → OB g aa F9 st s H_127 → va_S A s.heap H_127 locs_127 → (c_127 + (148 + n9_15 * 13) ≤ 797 ∧ s_127 + (888 + n9_15 * 78) ≤ 4778) → va_P g.1 vwCl [(b9, .inl (g.2.1, 2, .inl (fun _ => 0)))] H_127 → va_D A [(b9, .inl (g.2.1, 2, .inl (fun _ => 0)))] → W p l e R s m args below meth c H_127 locs_127 c_127 s_127 Q (F0 m 366 ls []) := by
                intro H_127 locs_127 c_127 s_127 ls hyp hl hOt_127 hS_127 hc_127 hP_127 hD_127
                replace hyp := (eJ_128).symm.trans hyp
                refine lv_lload hx hb dL_kept_366 (lv_at hl 7 rfl) ?_
                refine lv_lconst (v := 0) hx hb dL_kept_368 (by decide) ?_
                refine lv_ldc2 (v := 12) hx hb hown (hts _ ct_L_228) dL_kept_369 ?_
                obtain ⟨r_129, hr_129, hyp⟩ := opt_e hyp
                refine pS (As := [.long v14_85, .long 0, .long 12]) (rest := []) ⟨hx, hb, hml, hown, hts⟩ hE (mL_in l g v14_85 (0 : Int64) (12 : Int64) r_129 hr_129) cf_L_in st_L_in ml_L_199 ⟨Nat.le_trans (Nat.le_of_ble_eq_true rfl) hRf, Nat.le_trans (Nat.le_of_ble_eq_true rfl) hRl⟩ va_P_nil rfl hl.1 rfl (Nat.le_of_ble_eq_true rfl) dL_kept_372 ⟨by omega, by omega⟩ ?_
                refine lv_if_eq (tgt := 511) hx hb dL_kept_375 (by decide) (fun h_130 => ?_) (fun h_130 => ?_)
                · replace hyp := ite_t h_130 hyp
                  exact kJ_125 _ _ _ _ ls hyp (lv_sub hl [0, 1, 2, 3, 4, 5, 6] rfl) hOt_127 hS_127 (by omega) hP_127 hD_127
                · replace hyp := ite_f h_130 hyp
                  refine lv_lload hx hb dL_kept_378 (lv_at hl 6 rfl) ?_
                  refine lv_lconst (v := 0) hx hb dL_kept_380 (by decide) ?_
                  refine W.lcmp hx hb dL_kept_381 ?_
                  obtain ⟨J_132, eJ_132, hyp⟩ := jn_e hyp
                  have kJ_132 : ∀ (H_131 : Heap) (locs_131 : List Loc) (c_131 s_131 : Nat) (ls : Array Slot), J_132 = some r → lv_has ls 18 [(0, .ref (aa 0)), (1, .int a1), (6, .long (v6_10 + v14_85)), (8, .long (v8_11 + t_89)), (10, .ref b9), (11, .int v11_12), (12, .long v12_83), (16, .int t_86)] → OB g aa F9 st s H_131 → va_S A s.heap H_131 locs_131 → (c_131 + (148 + n9_15 * 13) ≤ 797 ∧ s_131 + (888 + n9_15 * 78) ≤ 4778) → va_P g.1 vwCl [(b9, .inl (g.2.1, 2, .inl (fun _ => 0)))] H_131 → va_D A [(b9, .inl (g.2.1, 2, .inl (fun _ => 0)))] → W p l e R s m args below meth c H_131 locs_131 c_131 s_131 Q (F0 m 392 ls []) := by
                    intro H_131 locs_131 c_131 s_131 ls hyp hl hOt_131 hS_131 hc_131 hP_131 hD_131
                    replace hyp := (eJ_132).symm.trans hyp
                    refine lv_iload hx hb dL_kept_392 (lv_at hl 5 rfl) ?_
                    obtain ⟨r_133, hr_133, hyp⟩ := opt_e hyp
                    refine pS (As := [.int v11_12]) (rest := []) ⟨hx, hb, hml, hown, hts⟩ hE (mL_isCorner l g v11_12 r_133 hr_133) cf_L_isCorner st_L_isCorner ml_L_219 ⟨Nat.le_trans (Nat.le_of_ble_eq_true rfl) hRf, Nat.le_trans (Nat.le_of_ble_eq_true rfl) hRl⟩ va_P_nil rfl hl.1 rfl (Nat.le_of_ble_eq_true rfl) dL_kept_394 ⟨by omega, by omega⟩ ?_
                    obtain ⟨J_135, eJ_135, hyp⟩ := jn_e hyp
                    have kJ_135 : ∀ (H_134 : Heap) (locs_134 : List Loc) (c_134 s_134 : Nat) (ls : Array Slot), J_135 = some r → lv_has ls 18 [(0, .ref (aa 0)), (1, .int a1), (6, .long (v6_10 + v14_85)), (8, .long (v8_11 + t_89)), (10, .ref b9), (11, .int v11_12), (12, .long v12_83), (16, .int t_86)] → OB g aa F9 st s H_134 → va_S A s.heap H_134 locs_134 → (c_134 + (144 + n9_15 * 13) ≤ 797 ∧ s_134 + (864 + n9_15 * 78) ≤ 4778) → va_P g.1 vwCl [(b9, .inl (g.2.1, 2, .inl (fun _ => 0)))] H_134 → va_D A [(b9, .inl (g.2.1, 2, .inl (fun _ => 0)))] → W p l e R s m args below meth c H_134 locs_134 c_134 s_134 Q (F0 m 440 ls []) := by
                      intro H_134 locs_134 c_134 s_134 ls hyp hl hOt_134 hS_134 hc_134 hP_134 hD_134
                      replace hyp := (eJ_135).symm.trans hyp
                      refine lv_iload hx hb dL_kept_440 (lv_at hl 7 rfl) ?_
                      obtain ⟨J_137, eJ_137, hyp⟩ := jn_e hyp
                      have kJ_137 : ∀ (H_136 : Heap) (locs_136 : List Loc) (c_136 s_136 : Nat) (ls : Array Slot), J_137 = some r → lv_has ls 18 [(0, .ref (aa 0)), (1, .int a1), (6, .long (v6_10 + v14_85)), (8, .long (v8_11 + t_89)), (10, .ref b9), (11, .int v11_12), (12, .long v12_83)] → OB g aa F9 st s H_136 → va_S A s.heap H_136 locs_136 → (c_136 + (140 + n9_15 * 13) ≤ 797 ∧ s_136 + (840 + n9_15 * 78) ≤ 4778) → va_P g.1 vwCl [(b9, .inl (g.2.1, 2, .inl (fun _ => 0)))] H_136 → va_D A [(b9, .inl (g.2.1, 2, .inl (fun _ => 0)))] → W p l e R s m args below meth c H_136 locs_136 c_136 s_136 Q (F0 m 507 ls []) := by
                        intro H_136 locs_136 c_136 s_136 ls hyp hl hOt_136 hS_136 hc_136 hP_136 hD_136
                        replace hyp := (eJ_137).symm.trans hyp
                        refine lv_iconst (v := 1) hx hb dL_kept_507 (by decide) ?_
                        refine lv_goto (tgt := 512) hx hb dL_kept_508 (by decide) ?_
                        exact kJ_95 1 _ _ _ _ ls hyp hl hOt_136 hS_136 (by omega) hP_136 hD_136
                      refine lv_if_ne (tgt := 507) hx hb dL_kept_442 (by decide) (fun h_138 => ?_) (fun h_138 => ?_)
                      · replace hyp := ite_f h_138 hyp
                        exact kJ_137 _ _ _ _ ls hyp (lv_sub hl [0, 1, 2, 3, 4, 5, 6] rfl) hOt_134 hS_134 (by omega) hP_134 hD_134
                      · replace hyp := ite_t h_138 hyp
                        refine lv_aload_n hx hb dL_kept_445 rfl (lv_at hl 0 rfl) ?_
                        refine lv_iload hx hb dL_kept_446 (lv_at hl 5 rfl) ?_
                        refine lv_bipush (v := 7) hx hb dL_kept_448 (by decide) ?_
                        refine lv_idiv hx hb dL_kept_450 (by decide) ?_
                        refine lv_iload hx hb dL_kept_451 (lv_at hl 5 rfl) ?_
                        refine lv_bipush (v := 7) hx hb dL_kept_453 (by decide) ?_
                        refine lv_irem hx hb dL_kept_455 (by decide) ?_
                        refine lv_iconst (v := 0) hx hb dL_kept_456 (by decide) ?_
                        refine hc_hostile (rest := []) C hA9 hOt_134 hS_134 (v11_12 / 7) (v11_12 - v11_12 / 7 * 7) (0 : Int32) ml_L_148 (Nat.le_trans (Nat.le_of_ble_eq_true rfl) hRf) (Nat.le_trans (Nat.le_of_ble_eq_true rfl) hRl) hl.1 (Nat.le_of_ble_eq_true rfl) dL_kept_457 ⟨by omega, by omega⟩ (fun H_139 locs_139 hOt_139 hS_139 hfr_139 => ?_)
                        generalize hq1 : c_134 + 2 = c_139, hq2 : s_134 + 12 = s_139
                        have hP_139 := arr_fr hfr_139 hb9 hP_134
                        have hD_139 := hD_134
                        have hc_139 : c_139 + (142 + n9_15 * 13) ≤ 797 ∧ s_139 + (852 + n9_15 * 78) ≤ 4778 := by omega
                        clear hS_134 hfr_139 hOt_134 hP_134 hD_134
                        refine lv_lload hx hb dL_kept_460 (lv_at hl 6 rfl) ?_
                        refine lv_lconst (v := 1) hx hb dL_kept_462 (by decide) ?_
                        refine W.lcmp hx hb dL_kept_463 ?_
                        obtain ⟨J_142, eJ_142, hyp⟩ := jn_e hyp
                        have kJ_142 : ∀ (t_140 : Int64) (H_141 : Heap) (locs_141 : List Loc) (c_141 s_141 : Nat) (ls : Array Slot), J_142 t_140 = some r → lv_has ls 18 [(0, .ref (aa 0)), (1, .int a1), (6, .long (v6_10 + v14_85)), (8, .long (v8_11 + t_89)), (10, .ref b9), (11, .int v11_12), (12, .long v12_83)] → OB g aa F9 st s H_141 → va_S A s.heap H_141 locs_141 → (c_141 + (142 + n9_15 * 13) ≤ 797 ∧ s_141 + (852 + n9_15 * 78) ≤ 4778) → va_P g.1 vwCl [(b9, .inl (g.2.1, 2, .inl (fun _ => 0)))] H_141 → va_D A [(b9, .inl (g.2.1, 2, .inl (fun _ => 0)))] → W p l e R s m args below meth c H_141 locs_141 c_141 s_141 Q (F0 m 472 ls [.long t_140, .long (v_hostile (aF st.1) (v11_12 / 7) (v11_12 - v11_12 / 7 * 7) 0)]) := by
                          intro t_140 H_141 locs_141 c_141 s_141 ls hyp hl hOt_141 hS_141 hc_141 hP_141 hD_141
                          replace hyp := (congrFun (eJ_142) t_140).symm.trans hyp
                          refine W.lcmp hx hb dL_kept_472 ?_
                          refine lv_if_ne (tgt := 511) hx hb dL_kept_473 (by decide) (fun h_143 => ?_) (fun h_143 => ?_)
                          · replace hyp := ite_f h_143 hyp
                            exact kJ_125 _ _ _ _ ls hyp hl hOt_141 hS_141 (by omega) hP_141 hD_141
                          · replace hyp := ite_t h_143 hyp
                            refine lv_aload_n hx hb dL_kept_476 rfl (lv_at hl 0 rfl) ?_
                            refine lv_iload hx hb dL_kept_477 (lv_at hl 5 rfl) ?_
                            refine lv_bipush (v := 7) hx hb dL_kept_479 (by decide) ?_
                            refine lv_idiv hx hb dL_kept_481 (by decide) ?_
                            refine lv_iload hx hb dL_kept_482 (lv_at hl 5 rfl) ?_
                            refine lv_bipush (v := 7) hx hb dL_kept_484 (by decide) ?_
                            refine lv_irem hx hb dL_kept_486 (by decide) ?_
                            refine lv_iconst (v := 1) hx hb dL_kept_487 (by decide) ?_
                            refine hc_hostile (rest := []) C hA9 hOt_141 hS_141 (v11_12 / 7) (v11_12 - v11_12 / 7 * 7) (1 : Int32) ml_L_148 (Nat.le_trans (Nat.le_of_ble_eq_true rfl) hRf) (Nat.le_trans (Nat.le_of_ble_eq_true rfl) hRl) hl.1 (Nat.le_of_ble_eq_true rfl) dL_kept_488 ⟨by omega, by omega⟩ (fun H_144 locs_144 hOt_144 hS_144 hfr_144 => ?_)
                            generalize hq1 : c_141 + 2 = c_144, hq2 : s_141 + 12 = s_144
                            have hP_144 := arr_fr hfr_144 hb9 hP_141
                            have hD_144 := hD_141
                            have hc_144 : c_144 + (140 + n9_15 * 13) ≤ 797 ∧ s_144 + (840 + n9_15 * 78) ≤ 4778 := by omega
                            clear hS_141 hfr_144 hOt_141 hP_141 hD_141
                            refine lv_lload hx hb dL_kept_491 (lv_at hl 6 rfl) ?_
                            refine lv_lconst (v := 1) hx hb dL_kept_493 (by decide) ?_
                            refine W.lcmp hx hb dL_kept_494 ?_
                            obtain ⟨J_147, eJ_147, hyp⟩ := jn_e hyp
                            have kJ_147 : ∀ (t_145 : Int64) (H_146 : Heap) (locs_146 : List Loc) (c_146 s_146 : Nat) (ls : Array Slot), J_147 t_145 = some r → lv_has ls 18 [(0, .ref (aa 0)), (1, .int a1), (6, .long (v6_10 + v14_85)), (8, .long (v8_11 + t_89)), (10, .ref b9), (11, .int v11_12), (12, .long v12_83)] → OB g aa F9 st s H_146 → va_S A s.heap H_146 locs_146 → (c_146 + (140 + n9_15 * 13) ≤ 797 ∧ s_146 + (840 + n9_15 * 78) ≤ 4778) → va_P g.1 vwCl [(b9, .inl (g.2.1, 2, .inl (fun _ => 0)))] H_146 → va_D A [(b9, .inl (g.2.1, 2, .inl (fun _ => 0)))] → W p l e R s m args below meth c H_146 locs_146 c_146 s_146 Q (F0 m 503 ls [.long t_145, .long (v_hostile (aF st.1) (v11_12 / 7) (v11_12 - v11_12 / 7 * 7) 1)]) := by
                              intro t_145 H_146 locs_146 c_146 s_146 ls hyp hl hOt_146 hS_146 hc_146 hP_146 hD_146
                              replace hyp := (congrFun (eJ_147) t_145).symm.trans hyp
                              refine W.lcmp hx hb dL_kept_503 ?_
                              refine lv_if_ne (tgt := 511) hx hb dL_kept_504 (by decide) (fun h_148 => ?_) (fun h_148 => ?_)
                              · replace hyp := ite_f h_148 hyp
                                exact kJ_125 _ _ _ _ ls hyp hl hOt_146 hS_146 (by omega) hP_146 hD_146
                              · replace hyp := ite_t h_148 hyp
                                exact kJ_137 _ _ _ _ ls hyp hl hOt_146 hS_146 (by omega) hP_146 hD_146
                            refine lv_if_ne (tgt := 502) hx hb dL_kept_495 (by decide) (fun h_149 => ?_) (fun h_149 => ?_)
                            · replace hyp := ite_f h_149 hyp
                              refine lv_lconst (v := 0) hx hb dL_kept_502 (by decide) ?_
                              exact kJ_147 0 _ _ _ _ ls hyp hl hOt_144 hS_144 (by omega) hP_144 hD_144
                            · replace hyp := ite_t h_149 hyp
                              refine lv_lconst (v := 1) hx hb dL_kept_498 (by decide) ?_
                              refine lv_goto (tgt := 503) hx hb dL_kept_499 (by decide) ?_
                              exact kJ_147 1 _ _ _ _ ls hyp hl hOt_144 hS_144 (by omega) hP_144 hD_144
                        refine lv_if_le (tgt := 471) hx hb dL_kept_464 (by decide) (fun h_150 => ?_) (fun h_150 => ?_)
                        · replace hyp := ite_t h_150 hyp
                          refine lv_lconst (v := 0) hx hb dL_kept_471 (by decide) ?_
                          exact kJ_142 0 _ _ _ _ ls hyp (lv_sub hl [0, 1, 2, 3, 4, 5, 6] rfl) hOt_139 hS_139 (by omega) hP_139 hD_139
                        · replace hyp := ite_f h_150 hyp
                          refine lv_lconst (v := 1) hx hb dL_kept_467 (by decide) ?_
                          refine lv_goto (tgt := 472) hx hb dL_kept_468 (by decide) ?_
                          exact kJ_142 1 _ _ _ _ ls hyp (lv_sub hl [0, 1, 2, 3, 4, 5, 6] rfl) hOt_139 hS_139 (by omega) hP_139 hD_139
                    refine lv_if_eq (tgt := 440) hx hb dL_kept_397 (by decide) (fun h_151 => ?_) (fun h_151 => ?_)
                    · replace hyp := ite_t h_151 hyp
                      exact kJ_135 _ _ _ _ ls hyp hl hOt_131 hS_131 (by omega) hP_131 hD_131
                    · replace hyp := ite_f h_151 hyp
                      refine lv_aload_n hx hb dL_kept_400 rfl (lv_at hl 0 rfl) ?_
                      refine lv_iload hx hb dL_kept_401 (lv_at hl 5 rfl) ?_
                      refine lv_bipush (v := 7) hx hb dL_kept_403 (by decide) ?_
                      refine lv_idiv hx hb dL_kept_405 (by decide) ?_
                      refine lv_iload hx hb dL_kept_406 (lv_at hl 5 rfl) ?_
                      refine lv_bipush (v := 7) hx hb dL_kept_408 (by decide) ?_
                      refine lv_irem hx hb dL_kept_410 (by decide) ?_
                      refine lv_iconst (v := 0) hx hb dL_kept_411 (by decide) ?_
                      refine hc_hostile (rest := []) C hA9 hOt_131 hS_131 (v11_12 / 7) (v11_12 - v11_12 / 7 * 7) (0 : Int32) ml_L_148 (Nat.le_trans (Nat.le_of_ble_eq_true rfl) hRf) (Nat.le_trans (Nat.le_of_ble_eq_true rfl) hRl) hl.1 (Nat.le_of_ble_eq_true rfl) dL_kept_412 ⟨by omega, by omega⟩ (fun H_152 locs_152 hOt_152 hS_152 hfr_152 => ?_)
                      generalize hq1 : c_131 + 2 = c_152, hq2 : s_131 + 12 = s_152
                      have hP_152 := arr_fr hfr_152 hb9 hP_131
                      have hD_152 := hD_131
                      have hc_152 : c_152 + (146 + n9_15 * 13) ≤ 797 ∧ s_152 + (876 + n9_15 * 78) ≤ 4778 := by omega
                      clear hS_131 hfr_152 hOt_131 hP_131 hD_131
                      refine lv_lconst (v := 1) hx hb dL_kept_415 (by decide) ?_
                      refine W.lcmp hx hb dL_kept_416 ?_
                      refine lv_if_ne (tgt := 511) hx hb dL_kept_417 (by decide) (fun h_153 => ?_) (fun h_153 => ?_)
                      · replace hyp := ite_f h_153 hyp
                        exact kJ_125 _ _ _ _ ls hyp (lv_sub hl [0, 1, 2, 3, 4, 5, 6] rfl) hOt_152 hS_152 (by omega) hP_152 hD_152
                      · replace hyp := ite_t h_153 hyp
                        refine lv_aload_n hx hb dL_kept_420 rfl (lv_at hl 0 rfl) ?_
                        refine lv_iload hx hb dL_kept_421 (lv_at hl 5 rfl) ?_
                        refine lv_bipush (v := 7) hx hb dL_kept_423 (by decide) ?_
                        refine lv_idiv hx hb dL_kept_425 (by decide) ?_
                        refine lv_iload hx hb dL_kept_426 (lv_at hl 5 rfl) ?_
                        refine lv_bipush (v := 7) hx hb dL_kept_428 (by decide) ?_
                        refine lv_irem hx hb dL_kept_430 (by decide) ?_
                        refine lv_iconst (v := 1) hx hb dL_kept_431 (by decide) ?_
                        refine hc_hostile (rest := []) C hA9 hOt_152 hS_152 (v11_12 / 7) (v11_12 - v11_12 / 7 * 7) (1 : Int32) ml_L_148 (Nat.le_trans (Nat.le_of_ble_eq_true rfl) hRf) (Nat.le_trans (Nat.le_of_ble_eq_true rfl) hRl) hl.1 (Nat.le_of_ble_eq_true rfl) dL_kept_432 ⟨by omega, by omega⟩ (fun H_154 locs_154 hOt_154 hS_154 hfr_154 => ?_)
                        generalize hq1 : c_152 + 2 = c_154, hq2 : s_152 + 12 = s_154
                        have hP_154 := arr_fr hfr_154 hb9 hP_152
                        have hD_154 := hD_152
                        have hc_154 : c_154 + (144 + n9_15 * 13) ≤ 797 ∧ s_154 + (864 + n9_15 * 78) ≤ 4778 := by omega
                        clear hS_152 hfr_154 hOt_152 hP_152 hD_152
                        refine lv_lconst (v := 1) hx hb dL_kept_435 (by decide) ?_
                        refine W.lcmp hx hb dL_kept_436 ?_
                        refine lv_if_ne (tgt := 511) hx hb dL_kept_437 (by decide) (fun h_155 => ?_) (fun h_155 => ?_)
                        · replace hyp := ite_f h_155 hyp
                          exact kJ_125 _ _ _ _ ls hyp (lv_sub hl [0, 1, 2, 3, 4, 5, 6] rfl) hOt_154 hS_154 (by omega) hP_154 hD_154
                        · replace hyp := ite_t h_155 hyp
                          exact kJ_135 _ _ _ _ ls hyp hl hOt_154 hS_154 (by omega) hP_154 hD_154
                  refine lv_if_gt (tgt := 392) hx hb dL_kept_382 (by decide) (fun h_156 => ?_) (fun h_156 => ?_)
                  · replace hyp := ite_t h_156 hyp
                    exact kJ_132 _ _ _ _ ls hyp (lv_sub hl [0, 1, 2, 3, 4, 5, 6, 8] rfl) hOt_127 hS_127 (by omega) hP_127 hD_127
                  · replace hyp := ite_f h_156 hyp
                    refine lv_lload hx hb dL_kept_385 (lv_at hl 7 rfl) ?_
                    refine lv_lconst (v := 0) hx hb dL_kept_387 (by decide) ?_
                    refine W.lcmp hx hb dL_kept_388 ?_
                    refine lv_if_ne (tgt := 511) hx hb dL_kept_389 (by decide) (fun h_157 => ?_) (fun h_157 => ?_)
                    · replace hyp := ite_f h_157 hyp
                      exact kJ_125 _ _ _ _ ls hyp (lv_sub hl [0, 1, 2, 3, 4, 5, 6] rfl) hOt_127 hS_127 (by omega) hP_127 hD_127
                    · replace hyp := ite_t h_157 hyp
                      exact kJ_132 _ _ _ _ ls hyp (lv_sub hl [0, 1, 2, 3, 4, 5, 6, 8] rfl) hOt_127 hS_127 (by omega) hP_127 hD_127
              refine lv_if_eq (tgt := 366) hx hb dL_kept_347 (by decide) (fun h_158 => ?_) (fun h_158 => ?_)
              · replace hyp := ite_t h_158 hyp
                exact kJ_128 _ _ _ _ ls hyp (lv_sub hl [1, 2, 3, 0, 4, 5, 6, 7, 8] rfl) hOt_90 hS_90 (by omega) hP_90 hD_90
              · replace hyp := ite_f h_158 hyp
                refine lv_lload hx hb dL_kept_350 (lv_at hl 6 rfl) ?_
                refine lv_lconst (v := 0) hx hb dL_kept_352 (by decide) ?_
                refine W.lcmp hx hb dL_kept_353 ?_
                refine lv_if_eq (tgt := 366) hx hb dL_kept_354 (by decide) (fun h_159 => ?_) (fun h_159 => ?_)
                · replace hyp := ite_t h_159 hyp
                  exact kJ_128 _ _ _ _ ls hyp (lv_sub hl [1, 2, 3, 0, 4, 5, 6, 7, 8] rfl) hOt_90 hS_90 (by omega) hP_90 hD_90
                · replace hyp := ite_f h_159 hyp
                  refine lv_lload hx hb dL_kept_357 (lv_at hl 6 rfl) ?_
                  refine lv_ldc2 (v := 3) hx hb hown (hts _ ct_L_217) dL_kept_359 ?_
                  refine W.lcmp hx hb dL_kept_362 ?_
                  refine lv_if_ne (tgt := 511) hx hb dL_kept_363 (by decide) (fun h_160 => ?_) (fun h_160 => ?_)
                  · replace hyp := ite_f h_160 hyp
                    exact kJ_125 _ _ _ _ ls hyp (lv_sub hl [1, 2, 3, 0, 4, 5, 6] rfl) hOt_90 hS_90 (by omega) hP_90 hD_90
                  · replace hyp := ite_t h_160 hyp
                    exact kJ_128 _ _ _ _ ls hyp (lv_sub hl [1, 2, 3, 0, 4, 5, 6, 7, 8] rfl) hOt_90 hS_90 (by omega) hP_90 hD_90
          refine lv_if_le (tgt := 329) hx hb dL_kept_322 (by decide) (fun h_161 => ?_) (fun h_161 => ?_)
          · replace hyp := ite_t h_161 hyp
            refine lv_lconst (v := 0) hx hb dL_kept_329 (by decide) ?_
            exact kJ_91 0 _ _ _ _ ls hyp (lv_sub hl [2, 3, 0, 5, 6, 7, 8, 1] rfl) hOt_87 hS_87 (by omega) hP_87 hD_87
          · replace hyp := ite_f h_161 hyp
            refine lv_lconst (v := 1) hx hb dL_kept_325 (by decide) ?_
            refine lv_goto (tgt := 330) hx hb dL_kept_326 (by decide) ?_
            exact kJ_91 1 _ _ _ _ ls hyp (lv_sub hl [2, 3, 0, 5, 6, 7, 8, 1] rfl) hOt_87 hS_87 (by omega) hP_87 hD_87
        obtain ⟨J_163, eJ_163, hyp⟩ := jn_e hyp
        have kJ_163 : ∀ (H_162 : Heap) (locs_162 : List Loc) (c_162 s_162 : Nat) (ls : Array Slot), J_163 = some r → lv_has ls 18 [(0, .ref (aa 0)), (1, .int a1), (6, .long v6_10), (8, .long v8_11), (10, .ref b9), (11, .int v11_12), (12, .long v12_83), (14, .long v14_85)] → OB g aa F9 st s H_162 → va_S A s.heap H_162 locs_162 → (c_162 + (148 + n9_15 * 13) ≤ 797 ∧ s_162 + (888 + n9_15 * 78) ≤ 4778) → va_P g.1 vwCl [(b9, .inl (g.2.1, 2, .inl (fun _ => 0)))] H_162 → va_D A [(b9, .inl (g.2.1, 2, .inl (fun _ => 0)))] → W p l e R s m args below meth c H_162 locs_162 c_162 s_162 Q (F0 m 302 ls []) := by
          intro H_162 locs_162 c_162 s_162 ls hyp hl hOt_162 hS_162 hc_162 hP_162 hD_162
          replace hyp := (eJ_163).symm.trans hyp
          refine lv_iconst (v := 1) hx hb dL_kept_302 (by decide) ?_
          refine lv_goto (tgt := 307) hx hb dL_kept_303 (by decide) ?_
          exact kJ_88 1 _ _ _ _ ls hyp hl hOt_162 hS_162 (by omega) hP_162 hD_162
        refine lv_icmp_eq (tgt := 302) hx hb dL_kept_291 (by decide) (fun h_164 => ?_) (fun h_164 => ?_)
        · replace hyp := ite_t h_164 hyp
          exact kJ_163 _ _ _ _ ls hyp (lv_sub hl [2, 3, 5, 6, 7, 8, 1, 0] rfl) hOt_84 hS_84 (by omega) hP_84 hD_84
        · replace hyp := ite_f h_164 hyp
          refine lv_iload hx hb dL_kept_294 (lv_at hl 8 rfl) ?_
          obtain ⟨r_165, hr_165, hyp⟩ := opt_e hyp
          refine pS (As := [.int v11_12]) (rest := []) ⟨hx, hb, hml, hown, hts⟩ hE (mL_isCorner l g v11_12 r_165 hr_165) cf_L_isCorner st_L_isCorner ml_L_219 ⟨Nat.le_trans (Nat.le_of_ble_eq_true rfl) hRf, Nat.le_trans (Nat.le_of_ble_eq_true rfl) hRl⟩ va_P_nil rfl hl.1 rfl (Nat.le_of_ble_eq_true rfl) dL_kept_296 ⟨by omega, by omega⟩ ?_
          refine lv_if_eq (tgt := 306) hx hb dL_kept_299 (by decide) (fun h_166 => ?_) (fun h_166 => ?_)
          · replace hyp := ite_t h_166 hyp
            refine lv_iconst (v := 0) hx hb dL_kept_306 (by decide) ?_
            exact kJ_88 0 _ _ _ _ ls hyp (lv_sub hl [2, 3, 5, 6, 7, 8, 1, 0] rfl) hOt_84 hS_84 (by omega) hP_84 hD_84
          · replace hyp := ite_f h_166 hyp
            exact kJ_163 _ _ _ _ ls hyp (lv_sub hl [2, 3, 5, 6, 7, 8, 1, 0] rfl) hOt_84 hS_84 (by omega) hP_84 hD_84
  obtain ⟨J_168, eJ_168, hyp⟩ := jn_e hyp
  have kJ_168 : ∀ (H_167 : Heap) (locs_167 : List Loc) (c_167 s_167 : Nat) (ls : Array Slot), J_168 = some r → lv_has ls 18 [(0, .ref (aa 0)), (1, .int a1)] → OB g aa F st s H_167 → va_S A s.heap H_167 locs_167 → (c_167 + (788) ≤ 797 ∧ s_167 + (4724) ≤ 4778) → W p l e R s m args below meth c H_167 locs_167 c_167 s_167 Q (F0 m 226 ls []) := by
    intro H_167 locs_167 c_167 s_167 ls hyp hl hOt_167 hS_167 hc_167
    replace hyp := (eJ_168).symm.trans hyp
    refine lv_iconst (v := 0) hx hb dL_kept_226 (by decide) ?_
    exact kJ_7 0 _ _ _ _ ls hyp hl hOt_167 hS_167 (by omega)
  refine lv_if_ne (tgt := 226) hx hb dL_kept_19 (by decide) (fun h_169 => ?_) (fun h_169 => ?_)
  · replace hyp := ite_f h_169 hyp
    exact kJ_168 _ _ _ _ ls hyp (lv_sub hl [2, 3] rfl) hOt_4 hS_4 (by omega)
  · replace hyp := ite_t h_169 hyp
    refine lv_iload_n hx hb dL_kept_22 rfl (lv_at hl 1 rfl) ?_
    refine lv_i2l hx hb dL_kept_23 rfl ?_
    refine lv_lconst (v := 0) hx hb dL_kept_24 (by decide) ?_
    refine lv_ldc2 (v := 4) hx hb hown (hts _ ct_L_197) dL_kept_25 ?_
    obtain ⟨r_170, hr_170, hyp⟩ := opt_e hyp
    refine pS (As := [.long ((aS st.1).toInt64), .long 0, .long 4]) (rest := []) ⟨hx, hb, hml, hown, hts⟩ hE (mL_in l g ((aS st.1).toInt64) (0 : Int64) (4 : Int64) r_170 hr_170) cf_L_in st_L_in ml_L_199 ⟨Nat.le_trans (Nat.le_of_ble_eq_true rfl) hRf, Nat.le_trans (Nat.le_of_ble_eq_true rfl) hRl⟩ va_P_nil rfl hl.1 rfl (Nat.le_of_ble_eq_true rfl) dL_kept_28 ⟨by omega, by omega⟩ ?_
    refine lv_if_eq (tgt := 226) hx hb dL_kept_31 (by decide) (fun h_171 => ?_) (fun h_171 => ?_)
    · replace hyp := ite_t h_171 hyp
      exact kJ_168 _ _ _ _ ls hyp (lv_sub hl [2, 3] rfl) hOt_4 hS_4 (by omega)
    · replace hyp := ite_f h_171 hyp
      refine lv_aload_n hx hb dL_kept_34 rfl (lv_at hl 2 rfl) ?_
      refine hc_openCorners (rest := []) C hA hOt_4 hS_4 ml_L_203 (Nat.le_trans (Nat.le_of_ble_eq_true rfl) hRf) (Nat.le_trans (Nat.le_of_ble_eq_true rfl) hRl) hl.1 (Nat.le_of_ble_eq_true rfl) dL_kept_35 ⟨by omega, by omega⟩ (fun H_172 locs_172 hOt_172 hS_172 hfr_172 => ?_)
      generalize hq1 : c_4 + 0 = c_172, hq2 : s_4 + 0 = s_172
      have hc_172 : c_172 + (794) ≤ 797 ∧ s_172 + (4760) ≤ 4778 := by omega
      clear hS_4 hfr_172 hOt_4
      refine lv_i2l hx hb dL_kept_38 rfl ?_
      refine lv_lconst (v := 0) hx hb dL_kept_39 (by decide) ?_
      refine lv_ldc2 (v := 4) hx hb hown (hts _ ct_L_197) dL_kept_40 ?_
      obtain ⟨r_173, hr_173, hyp⟩ := opt_e hyp
      refine pS (As := [.long ((nI (coN (qA (aF st.1)))).toInt64), .long 0, .long 4]) (rest := []) ⟨hx, hb, hml, hown, hts⟩ hE (mL_in l g ((nI (coN (qA (aF st.1)))).toInt64) (0 : Int64) (4 : Int64) r_173 hr_173) cf_L_in st_L_in ml_L_199 ⟨Nat.le_trans (Nat.le_of_ble_eq_true rfl) hRf, Nat.le_trans (Nat.le_of_ble_eq_true rfl) hRl⟩ va_P_nil rfl hl.1 rfl (Nat.le_of_ble_eq_true rfl) dL_kept_43 ⟨by omega, by omega⟩ ?_
      refine lv_if_eq (tgt := 226) hx hb dL_kept_46 (by decide) (fun h_174 => ?_) (fun h_174 => ?_)
      · replace hyp := ite_t h_174 hyp
        exact kJ_168 _ _ _ _ ls hyp (lv_sub hl [2, 3] rfl) hOt_172 hS_172 (by omega)
      · replace hyp := ite_f h_174 hyp
        refine lv_aload_n hx hb dL_kept_49 rfl (lv_at hl 2 rfl) ?_
        refine hc_kingReach (rest := []) C hA hOt_172 hS_172 ml_L_206 (Nat.le_trans (Nat.le_of_ble_eq_true rfl) hRf) (Nat.le_trans (Nat.le_of_ble_eq_true rfl) hRl) hl.1 (Nat.le_of_ble_eq_true rfl) dL_kept_50 ⟨by omega, by omega⟩ (fun H_175 locs_175 hOt_175 hS_175 hfr_175 => ?_)
        generalize hq1 : c_172 + 0 = c_175, hq2 : s_172 + 0 = s_175
        have hc_175 : c_175 + (794) ≤ 797 ∧ s_175 + (4760) ≤ 4778 := by omega
        clear hS_172 hfr_175 hOt_172
        refine lv_i2l hx hb dL_kept_53 rfl ?_
        refine lv_lconst (v := 0) hx hb dL_kept_54 (by decide) ?_
        refine lv_ldc2 (v := 48) hx hb hown (hts _ ct_L_209) dL_kept_55 ?_
        obtain ⟨r_176, hr_176, hyp⟩ := opt_e hyp
        refine pS (As := [.long ((nI (reN (qA (aF st.1)))).toInt64), .long 0, .long 48]) (rest := []) ⟨hx, hb, hml, hown, hts⟩ hE (mL_in l g ((nI (reN (qA (aF st.1)))).toInt64) (0 : Int64) (48 : Int64) r_176 hr_176) cf_L_in st_L_in ml_L_199 ⟨Nat.le_trans (Nat.le_of_ble_eq_true rfl) hRf, Nat.le_trans (Nat.le_of_ble_eq_true rfl) hRl⟩ va_P_nil rfl hl.1 rfl (Nat.le_of_ble_eq_true rfl) dL_kept_58 ⟨by omega, by omega⟩ ?_
        refine lv_if_eq (tgt := 226) hx hb dL_kept_61 (by decide) (fun h_177 => ?_) (fun h_177 => ?_)
        · replace hyp := ite_t h_177 hyp
          exact kJ_168 _ _ _ _ ls hyp (lv_sub hl [2, 3] rfl) hOt_175 hS_175 (by omega)
        · replace hyp := ite_f h_177 hyp
          refine lv_aload_n hx hb dL_kept_64 rfl (lv_at hl 2 rfl) ?_
          refine hc_moves (rest := []) C hA hOt_175 hS_175 ml_L_211 (Nat.le_trans (Nat.le_of_ble_eq_true rfl) hRf) (Nat.le_trans (Nat.le_of_ble_eq_true rfl) hRl) hl.1 (Nat.le_of_ble_eq_true rfl) dL_kept_65 ⟨by omega, by omega⟩ (fun H_178 locs_178 hOt_178 hS_178 hfr_178 => ?_)
          generalize hq1 : c_175 + 0 = c_178, hq2 : s_175 + 0 = s_178
          have hc_178 : c_178 + (794) ≤ 797 ∧ s_178 + (4760) ≤ 4778 := by omega
          clear hS_175 hfr_178 hOt_175
          refine lv_aload_n hx hb dL_kept_68 rfl (lv_at hl 2 rfl) ?_
          refine hc_allMoves (rest := [.int (aN st.1)]) C hA hOt_178 hS_178 ml_L_214 (Nat.le_trans (Nat.le_of_ble_eq_true rfl) hRf) (Nat.le_trans (Nat.le_of_ble_eq_true rfl) hRl) hl.1 (Nat.le_of_ble_eq_true rfl) dL_kept_69 ⟨by omega, by omega⟩ (fun H_179 locs_179 hOt_179 hS_179 hfr_179 => ?_)
          generalize hq1 : c_178 + 0 = c_179, hq2 : s_178 + 0 = s_179
          have hc_179 : c_179 + (794) ≤ 797 ∧ s_179 + (4760) ≤ 4778 := by omega
          clear hS_178 hfr_179 hOt_178
          refine lv_icmp_gt (tgt := 226) hx hb dL_kept_72 (by decide) (fun h_180 => ?_) (fun h_180 => ?_)
          · replace hyp := ite_t h_180 hyp
            exact kJ_168 _ _ _ _ ls hyp (lv_sub hl [2, 3] rfl) hOt_179 hS_179 (by omega)
          · replace hyp := ite_f h_180 hyp
            refine lv_iload_n hx hb dL_kept_75 rfl (lv_at hl 1 rfl) ?_
            obtain ⟨J_182, eJ_182, hyp⟩ := jn_e hyp
            have kJ_182 : ∀ (H_181 : Heap) (locs_181 : List Loc) (c_181 s_181 : Nat) (ls : Array Slot), J_182 = some r → lv_has ls 18 [(0, .ref (aa 0)), (1, .int a1), (2, .int (aS st.1)), (3, .long (v_kingAt (aF st.1)))] → OB g aa F st s H_181 → va_S A s.heap H_181 locs_181 → (c_181 + (792) ≤ 797 ∧ s_181 + (4748) ≤ 4778) → W p l e R s m args below meth c H_181 locs_181 c_181 s_181 Q (F0 m 99 ls []) := by
              intro H_181 locs_181 c_181 s_181 ls hyp hl hOt_181 hS_181 hc_181
              replace hyp := (eJ_182).symm.trans hyp
              refine lv_iload_n hx hb dL_kept_99 rfl (lv_at hl 2 rfl) ?_
              refine lv_iconst (v := 4) hx hb dL_kept_100 (by decide) ?_
              obtain ⟨J_184, eJ_184, hyp⟩ := jn_e hyp
              have kJ_184 : ∀ (H_183 : Heap) (locs_183 : List Loc) (c_183 s_183 : Nat) (ls : Array Slot), J_184 = some r → lv_has ls 18 [(0, .ref (aa 0)), (1, .int a1), (2, .int (aS st.1)), (3, .long (v_kingAt (aF st.1)))] → OB g aa F st s H_183 → va_S A s.heap H_183 locs_183 → (c_183 + (791) ≤ 797 ∧ s_183 + (4742) ≤ 4778) → W p l e R s m args below meth c H_183 locs_183 c_183 s_183 Q (F0 m 115 ls []) := by
                intro H_183 locs_183 c_183 s_183 ls hyp hl hOt_183 hS_183 hc_183
                replace hyp := (eJ_184).symm.trans hyp
                refine lv_iload_n hx hb dL_kept_115 rfl (lv_at hl 2 rfl) ?_
                refine lv_iconst (v := 1) hx hb dL_kept_116 (by decide) ?_
                obtain ⟨J_186, eJ_186, hyp⟩ := jn_e hyp
                have kJ_186 : ∀ (H_185 : Heap) (locs_185 : List Loc) (c_185 s_185 : Nat) (ls : Array Slot), J_186 = some r → lv_has ls 18 [(0, .ref (aa 0)), (1, .int a1), (3, .long (v_kingAt (aF st.1)))] → OB g aa F st s H_185 → va_S A s.heap H_185 locs_185 → (c_185 + (790) ≤ 797 ∧ s_185 + (4736) ≤ 4778) → W p l e R s m args below meth c H_185 locs_185 c_185 s_185 Q (F0 m 147 ls []) := by
                  intro H_185 locs_185 c_185 s_185 ls hyp hl hOt_185 hS_185 hc_185
                  replace hyp := (eJ_186).symm.trans hyp
                  refine lv_lload_n hx hb dL_kept_147 rfl (lv_at hl 2 rfl) ?_
                  refine lv_ldc2 (v := (-9000000000000000003)) hx hb hown (hts _ ct_L_25) dL_kept_148 ?_
                  refine W.lcmp hx hb dL_kept_151 ?_
                  obtain ⟨J_188, eJ_188, hyp⟩ := jn_e hyp
                  have kJ_188 : ∀ (H_187 : Heap) (locs_187 : List Loc) (c_187 s_187 : Nat) (ls : Array Slot), J_188 = some r → lv_has ls 18 [(0, .ref (aa 0)), (1, .int a1)] → OB g aa F st s H_187 → va_S A s.heap H_187 locs_187 → (c_187 + (788) ≤ 797 ∧ s_187 + (4724) ≤ 4778) → W p l e R s m args below meth c H_187 locs_187 c_187 s_187 Q (F0 m 207 ls []) := by
                    intro H_187 locs_187 c_187 s_187 ls hyp hl hOt_187 hS_187 hc_187
                    replace hyp := (eJ_188).symm.trans hyp
                    refine lv_aload_n hx hb dL_kept_207 rfl (lv_at hl 0 rfl) ?_
                    refine hc_savedStates (rest := []) C hA hOt_187 hS_187 ml_L_223 (Nat.le_trans (Nat.le_of_ble_eq_true rfl) hRf) (Nat.le_trans (Nat.le_of_ble_eq_true rfl) hRl) hl.1 (Nat.le_of_ble_eq_true rfl) dL_kept_208 ⟨by omega, by omega⟩ (fun H_189 locs_189 hOt_189 hS_189 hfr_189 => ?_)
                    generalize hq1 : c_187 + 0 = c_189, hq2 : s_187 + 0 = s_189
                    have hc_189 : c_189 + (788) ≤ 797 ∧ s_189 + (4724) ≤ 4778 := by omega
                    clear hS_187 hfr_189 hOt_187
                    refine lv_i2l hx hb dL_kept_211 rfl ?_
                    refine lv_lconst (v := 0) hx hb dL_kept_212 (by decide) ?_
                    refine lv_ldc2 (v := 6) hx hb hown (hts _ ct_L_226) dL_kept_213 ?_
                    obtain ⟨r_190, hr_190, hyp⟩ := opt_e hyp
                    refine pS (As := [.long ((nI st.2.1.length).toInt64), .long 0, .long 6]) (rest := []) ⟨hx, hb, hml, hown, hts⟩ hE (mL_in l g ((nI st.2.1.length).toInt64) (0 : Int64) (6 : Int64) r_190 hr_190) cf_L_in st_L_in ml_L_199 ⟨Nat.le_trans (Nat.le_of_ble_eq_true rfl) hRf, Nat.le_trans (Nat.le_of_ble_eq_true rfl) hRl⟩ va_P_nil rfl hl.1 rfl (Nat.le_of_ble_eq_true rfl) dL_kept_216 ⟨by omega, by omega⟩ ?_
                    refine lv_if_eq (tgt := 226) hx hb dL_kept_219 (by decide) (fun h_191 => ?_) (fun h_191 => ?_)
                    · replace hyp := ite_t h_191 hyp
                      exact kJ_168 _ _ _ _ ls hyp hl hOt_189 hS_189 (by omega)
                    · replace hyp := ite_f h_191 hyp
                      refine lv_iconst (v := 1) hx hb dL_kept_222 (by decide) ?_
                      refine lv_goto (tgt := 227) hx hb dL_kept_223 (by decide) ?_
                      exact kJ_7 1 _ _ _ _ ls hyp hl hOt_189 hS_189 (by omega)
                  refine lv_if_ne (tgt := 172) hx hb dL_kept_152 (by decide) (fun h_192 => ?_) (fun h_192 => ?_)
                  · replace hyp := ite_f h_192 hyp
                    refine lv_aload_n hx hb dL_kept_172 rfl (lv_at hl 0 rfl) ?_
                    refine lv_lload_n hx hb dL_kept_173 rfl (lv_at hl 2 rfl) ?_
                    refine lv_l2i hx hb dL_kept_174 rfl ?_
                    refine lv_bipush (v := 7) hx hb dL_kept_175 (by decide) ?_
                    refine lv_idiv hx hb dL_kept_177 (by decide) ?_
                    refine lv_lload_n hx hb dL_kept_178 rfl (lv_at hl 2 rfl) ?_
                    refine lv_l2i hx hb dL_kept_179 rfl ?_
                    refine lv_bipush (v := 7) hx hb dL_kept_180 (by decide) ?_
                    refine lv_irem hx hb dL_kept_182 (by decide) ?_
                    refine hc_pieceAt (rest := []) C hA hOt_185 hS_185 (((v_kingAt (aF st.1)).toInt32) / 7) (((v_kingAt (aF st.1)).toInt32) - ((v_kingAt (aF st.1)).toInt32) / 7 * 7) ml_L_144 (Nat.le_trans (Nat.le_of_ble_eq_true rfl) hRf) (Nat.le_trans (Nat.le_of_ble_eq_true rfl) hRl) hl.1 (Nat.le_of_ble_eq_true rfl) dL_kept_183 ⟨by omega, by omega⟩ (fun H_193 locs_193 hOt_193 hS_193 hfr_193 => ?_)
                    generalize hq1 : c_185 + 1 = c_193, hq2 : s_185 + 6 = s_193
                    have hc_193 : c_193 + (789) ≤ 797 ∧ s_193 + (4730) ≤ 4778 := by omega
                    clear hS_185 hfr_193 hOt_185
                    refine lv_ldc2 (v := 3) hx hb hown (hts _ ct_L_217) dL_kept_186 ?_
                    refine W.lcmp hx hb dL_kept_189 ?_
                    refine lv_if_ne (tgt := 226) hx hb dL_kept_190 (by decide) (fun h_194 => ?_) (fun h_194 => ?_)
                    · replace hyp := ite_f h_194 hyp
                      exact kJ_168 _ _ _ _ ls hyp (lv_sub hl [0, 1] rfl) hOt_193 hS_193 (by omega)
                    · replace hyp := ite_t h_194 hyp
                      refine lv_aload_n hx hb dL_kept_193 rfl (lv_at hl 0 rfl) ?_
                      refine hc_pressure (rest := []) C hA hOt_193 hS_193 ml_L_188 (Nat.le_trans (Nat.le_of_ble_eq_true rfl) hRf) (Nat.le_trans (Nat.le_of_ble_eq_true rfl) hRl) hl.1 (Nat.le_of_ble_eq_true rfl) dL_kept_194 ⟨by omega, by omega⟩ (fun H_195 locs_195 hOt_195 hS_195 hfr_195 => ?_)
                      generalize hq1 : c_193 + 1 = c_195, hq2 : s_193 + 6 = s_195
                      have hc_195 : c_195 + (788) ≤ 797 ∧ s_195 + (4724) ≤ 4778 := by omega
                      clear hS_193 hfr_195 hOt_193
                      refine lv_lconst (v := 0) hx hb dL_kept_197 (by decide) ?_
                      refine lv_ldc2 (v := 4) hx hb hown (hts _ ct_L_197) dL_kept_198 ?_
                      obtain ⟨r_196, hr_196, hyp⟩ := opt_e hyp
                      refine pS (As := [.long (v_pressure (aF st.1)), .long 0, .long 4]) (rest := []) ⟨hx, hb, hml, hown, hts⟩ hE (mL_in l g (v_pressure (aF st.1)) (0 : Int64) (4 : Int64) r_196 hr_196) cf_L_in st_L_in ml_L_199 ⟨Nat.le_trans (Nat.le_of_ble_eq_true rfl) hRf, Nat.le_trans (Nat.le_of_ble_eq_true rfl) hRl⟩ va_P_nil rfl hl.1 rfl (Nat.le_of_ble_eq_true rfl) dL_kept_201 ⟨by omega, by omega⟩ ?_
                      refine lv_if_eq (tgt := 226) hx hb dL_kept_204 (by decide) (fun h_197 => ?_) (fun h_197 => ?_)
                      · replace hyp := ite_t h_197 hyp
                        exact kJ_168 _ _ _ _ ls hyp (lv_sub hl [0, 1] rfl) hOt_195 hS_195 (by omega)
                      · replace hyp := ite_f h_197 hyp
                        exact kJ_188 _ _ _ _ ls hyp (lv_sub hl [0, 1] rfl) hOt_195 hS_195 (by omega)
                  · replace hyp := ite_t h_192 hyp
                    refine lv_aload_n hx hb dL_kept_155 rfl (lv_at hl 0 rfl) ?_
                    refine hc_kingReach (rest := []) C hA hOt_185 hS_185 ml_L_206 (Nat.le_trans (Nat.le_of_ble_eq_true rfl) hRf) (Nat.le_trans (Nat.le_of_ble_eq_true rfl) hRl) hl.1 (Nat.le_of_ble_eq_true rfl) dL_kept_156 ⟨by omega, by omega⟩ (fun H_198 locs_198 hOt_198 hS_198 hfr_198 => ?_)
                    generalize hq1 : c_185 + 0 = c_198, hq2 : s_185 + 0 = s_198
                    have hc_198 : c_198 + (788) ≤ 797 ∧ s_198 + (4724) ≤ 4778 := by omega
                    clear hS_185 hfr_198 hOt_185
                    refine lv_if_ne (tgt := 226) hx hb dL_kept_159 (by decide) (fun h_199 => ?_) (fun h_199 => ?_)
                    · replace hyp := ite_f h_199 hyp
                      exact kJ_168 _ _ _ _ ls hyp (lv_sub hl [0, 1] rfl) hOt_198 hS_198 (by omega)
                    · replace hyp := ite_t h_199 hyp
                      refine lv_aload_n hx hb dL_kept_162 rfl (lv_at hl 0 rfl) ?_
                      refine hc_openCorners (rest := []) C hA hOt_198 hS_198 ml_L_203 (Nat.le_trans (Nat.le_of_ble_eq_true rfl) hRf) (Nat.le_trans (Nat.le_of_ble_eq_true rfl) hRl) hl.1 (Nat.le_of_ble_eq_true rfl) dL_kept_163 ⟨by omega, by omega⟩ (fun H_200 locs_200 hOt_200 hS_200 hfr_200 => ?_)
                      generalize hq1 : c_198 + 0 = c_200, hq2 : s_198 + 0 = s_200
                      have hc_200 : c_200 + (788) ≤ 797 ∧ s_200 + (4724) ≤ 4778 := by omega
                      clear hS_198 hfr_200 hOt_198
                      refine lv_if_ne (tgt := 226) hx hb dL_kept_166 (by decide) (fun h_201 => ?_) (fun h_201 => ?_)
                      · replace hyp := ite_f h_201 hyp
                        exact kJ_168 _ _ _ _ ls hyp (lv_sub hl [0, 1] rfl) hOt_200 hS_200 (by omega)
                      · replace hyp := ite_t h_201 hyp
                        refine lv_goto (tgt := 207) hx hb dL_kept_169 (by decide) ?_
                        exact kJ_188 _ _ _ _ ls hyp (lv_sub hl [0, 1] rfl) hOt_200 hS_200 (by omega)
                refine lv_icmp_ne (tgt := 147) hx hb dL_kept_117 (by decide) (fun h_202 => ?_) (fun h_202 => ?_)
                · replace hyp := ite_f h_202 hyp
                  exact kJ_186 _ _ _ _ ls hyp (lv_sub hl [0, 1, 3] rfl) hOt_183 hS_183 (by omega)
                · replace hyp := ite_t h_202 hyp
                  refine lv_lload_n hx hb dL_kept_120 rfl (lv_at hl 3 rfl) ?_
                  refine lv_ldc2 (v := (-9000000000000000003)) hx hb hown (hts _ ct_L_25) dL_kept_121 ?_
                  refine W.lcmp hx hb dL_kept_124 ?_
                  refine lv_if_eq (tgt := 226) hx hb dL_kept_125 (by decide) (fun h_203 => ?_) (fun h_203 => ?_)
                  · replace hyp := ite_t h_203 hyp
                    exact kJ_168 _ _ _ _ ls hyp (lv_sub hl [0, 1] rfl) hOt_183 hS_183 (by omega)
                  · replace hyp := ite_f h_203 hyp
                    refine lv_lload_n hx hb dL_kept_128 rfl (lv_at hl 3 rfl) ?_
                    refine lv_l2i hx hb dL_kept_129 rfl ?_
                    obtain ⟨r_204, hr_204, hyp⟩ := opt_e hyp
                    refine pS (As := [.int ((v_kingAt (aF st.1)).toInt32)]) (rest := []) ⟨hx, hb, hml, hown, hts⟩ hE (mL_isCorner l g ((v_kingAt (aF st.1)).toInt32) r_204 hr_204) cf_L_isCorner st_L_isCorner ml_L_219 ⟨Nat.le_trans (Nat.le_of_ble_eq_true rfl) hRf, Nat.le_trans (Nat.le_of_ble_eq_true rfl) hRl⟩ va_P_nil rfl hl.1 rfl (Nat.le_of_ble_eq_true rfl) dL_kept_130 ⟨by omega, by omega⟩ ?_
                    refine lv_if_ne (tgt := 226) hx hb dL_kept_133 (by decide) (fun h_205 => ?_) (fun h_205 => ?_)
                    · replace hyp := ite_f h_205 hyp
                      exact kJ_168 _ _ _ _ ls hyp (lv_sub hl [0, 1] rfl) hOt_183 hS_183 (by omega)
                    · replace hyp := ite_t h_205 hyp
                      refine lv_aload_n hx hb dL_kept_136 rfl (lv_at hl 0 rfl) ?_
                      refine hc_timesSeen (rest := []) C hA hOt_183 hS_183 ml_L_184 (Nat.le_trans (Nat.le_of_ble_eq_true rfl) hRf) (Nat.le_trans (Nat.le_of_ble_eq_true rfl) hRl) hl.1 (Nat.le_of_ble_eq_true rfl) dL_kept_137 ⟨by omega, by omega⟩ (fun H_206 locs_206 hOt_206 hS_206 hfr_206 => ?_)
                      generalize hq1 : c_183 + 1 = c_206, hq2 : s_183 + 6 = s_206
                      have hc_206 : c_206 + (790) ≤ 797 ∧ s_206 + (4736) ≤ 4778 := by omega
                      clear hS_183 hfr_206 hOt_183
                      refine lv_ldc2 (v := 3) hx hb hown (hts _ ct_L_217) dL_kept_140 ?_
                      refine W.lcmp hx hb dL_kept_143 ?_
                      refine lv_if_ge (tgt := 226) hx hb dL_kept_144 (by decide) (fun h_207 => ?_) (fun h_207 => ?_)
                      · replace hyp := ite_t h_207 hyp
                        exact kJ_168 _ _ _ _ ls hyp (lv_sub hl [0, 1] rfl) hOt_206 hS_206 (by omega)
                      · replace hyp := ite_f h_207 hyp
                        exact kJ_186 _ _ _ _ ls hyp (lv_sub hl [0, 1, 3] rfl) hOt_206 hS_206 (by omega)
              refine lv_icmp_ne (tgt := 115) hx hb dL_kept_101 (by decide) (fun h_208 => ?_) (fun h_208 => ?_)
              · replace hyp := ite_f h_208 hyp
                exact kJ_184 _ _ _ _ ls hyp hl hOt_181 hS_181 (by omega)
              · replace hyp := ite_t h_208 hyp
                refine lv_aload_n hx hb dL_kept_104 rfl (lv_at hl 0 rfl) ?_
                refine hc_timesSeen (rest := []) C hA hOt_181 hS_181 ml_L_184 (Nat.le_trans (Nat.le_of_ble_eq_true rfl) hRf) (Nat.le_trans (Nat.le_of_ble_eq_true rfl) hRl) hl.1 (Nat.le_of_ble_eq_true rfl) dL_kept_105 ⟨by omega, by omega⟩ (fun H_209 locs_209 hOt_209 hS_209 hfr_209 => ?_)
                generalize hq1 : c_181 + 1 = c_209, hq2 : s_181 + 6 = s_209
                have hc_209 : c_209 + (791) ≤ 797 ∧ s_209 + (4742) ≤ 4778 := by omega
                clear hS_181 hfr_209 hOt_181
                refine lv_ldc2 (v := 3) hx hb hown (hts _ ct_L_217) dL_kept_108 ?_
                refine W.lcmp hx hb dL_kept_111 ?_
                refine lv_if_ne (tgt := 226) hx hb dL_kept_112 (by decide) (fun h_210 => ?_) (fun h_210 => ?_)
                · replace hyp := ite_f h_210 hyp
                  exact kJ_168 _ _ _ _ ls hyp (lv_sub hl [0, 1] rfl) hOt_209 hS_209 (by omega)
                · replace hyp := ite_t h_210 hyp
                  exact kJ_184 _ _ _ _ ls hyp hl hOt_209 hS_209 (by omega)
            refine lv_if_eq (tgt := 99) hx hb dL_kept_76 (by decide) (fun h_211 => ?_) (fun h_211 => ?_)
            · replace hyp := ite_t h_211 hyp
              exact kJ_182 _ _ _ _ ls hyp (lv_sub hl [2, 3, 1, 0] rfl) hOt_179 hS_179 (by omega)
            · replace hyp := ite_f h_211 hyp
              refine lv_aload_n hx hb dL_kept_79 rfl (lv_at hl 2 rfl) ?_
              refine hc_timesSeen (rest := []) C hA hOt_179 hS_179 ml_L_184 (Nat.le_trans (Nat.le_of_ble_eq_true rfl) hRf) (Nat.le_trans (Nat.le_of_ble_eq_true rfl) hRl) hl.1 (Nat.le_of_ble_eq_true rfl) dL_kept_80 ⟨by omega, by omega⟩ (fun H_212 locs_212 hOt_212 hS_212 hfr_212 => ?_)
              generalize hq1 : c_179 + 1 = c_212, hq2 : s_179 + 6 = s_212
              have hc_212 : c_212 + (793) ≤ 797 ∧ s_212 + (4754) ≤ 4778 := by omega
              clear hS_179 hfr_212 hOt_179
              refine lv_lconst (v := 1) hx hb dL_kept_83 (by decide) ?_
              refine W.lcmp hx hb dL_kept_84 ?_
              refine lv_if_lt (tgt := 226) hx hb dL_kept_85 (by decide) (fun h_213 => ?_) (fun h_213 => ?_)
              · replace hyp := ite_t h_213 hyp
                exact kJ_168 _ _ _ _ ls hyp (lv_sub hl [2, 3] rfl) hOt_212 hS_212 (by omega)
              · replace hyp := ite_f h_213 hyp
                refine lv_aload_n hx hb dL_kept_88 rfl (lv_at hl 2 rfl) ?_
                refine hc_timesSeen (rest := []) C hA hOt_212 hS_212 ml_L_184 (Nat.le_trans (Nat.le_of_ble_eq_true rfl) hRf) (Nat.le_trans (Nat.le_of_ble_eq_true rfl) hRl) hl.1 (Nat.le_of_ble_eq_true rfl) dL_kept_89 ⟨by omega, by omega⟩ (fun H_214 locs_214 hOt_214 hS_214 hfr_214 => ?_)
                generalize hq1 : c_212 + 1 = c_214, hq2 : s_212 + 6 = s_214
                have hc_214 : c_214 + (792) ≤ 797 ∧ s_214 + (4748) ≤ 4778 := by omega
                clear hS_212 hfr_214 hOt_212
                refine lv_ldc2 (v := 3) hx hb hown (hts _ ct_L_217) dL_kept_92 ?_
                refine W.lcmp hx hb dL_kept_95 ?_
                refine lv_if_gt (tgt := 226) hx hb dL_kept_96 (by decide) (fun h_215 => ?_) (fun h_215 => ?_)
                · replace hyp := ite_t h_215 hyp
                  exact kJ_168 _ _ _ _ ls hyp (lv_sub hl [2, 3] rfl) hOt_214 hS_214 (by omega)
                · replace hyp := ite_f h_215 hyp
                  exact kJ_182 _ _ _ _ ls hyp (lv_sub hl [2, 3, 1, 0] rfl) hOt_214 hS_214 (by omega)

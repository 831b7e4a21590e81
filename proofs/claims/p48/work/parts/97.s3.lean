noncomputable def fL_errors_L537_B (st : PS) (self_16 : Int32 → Int32 → PS → Option (Int32 × PS)) (v4_12 : Int32) (v5_13 : Int32) (zt_15 : PS) : Option (Int32 × PS) :=
  jn (if v4_12 = 0 then (some (0, zt_15)) else (if (lg_cmp (v_digest zt_15) (v_digest st)) = 0 then (some (1, zt_15)) else (some (0, zt_15)))) (fun J_19 => if 49 ≤ v5_13 then (J_19) else (if v4_12 = 0 then (J_19) else (jn (fun (t_26 : Int32) (zt_28 : PS) => self_16 t_26 (v5_13 + 1) zt_28) (fun J_29 => jn (fun (zt_31 : PS) => J_29 1 zt_31) (fun J_32 => if (lg_cmp (v_against (aF zt_15.1) v5_13 30) 0) = 0 then (J_32 zt_15) else ((o_move zt_15 v5_13 30).bind (fun (r_35 : Int64 × PS) => jn (J_29 0 r_35.2) (fun J_37 => if (lg_cmp r_35.1 (-9000000000000000003)) = 0 then (if (lg_cmp (v_wouldTake (aF r_35.2.1) (aG r_35.2.1) v5_13 30) (-9000000000000000003)) = 0 then (J_32 r_35.2) else (J_37)) else (J_37)))))))))
noncomputable def fL_errors_L537 (st : PS) (n : Nat) (v4_12 : Int32) (v5_13 : Int32) (zt_15 : PS) : Option (Int32 × PS) := lp (fun zf z => fL_errors_L537_B st (fun v4_12 v5_13 zt_15 => zf (v4_12, v5_13, zt_15)) z.1 z.2.1 z.2.2) n (v4_12, v5_13, zt_15)
noncomputable def fL_errors (st : PS) : Option (Int32 × PS) :=
  jn (fun (t_3 : Int32) => bnd (o_put st 7 0 0) (fun (r_7 : Int64 × PS) => jn (fun (t_8 : Int32) (zt_10 : PS) => fL_errors_L537 st 50 t_8 0 zt_10) (fun J_11 => jn (fun (zt_42 : PS) => J_11 0 zt_42) (fun J_43 => if (lg_cmp r_7.1 (-9000000000000000001)) = 0 then (bnd (o_put r_7.2 0 (-1) 9) (fun (r_46 : Int64 × PS) => if (lg_cmp r_46.1 (-9000000000000000001)) = 0 then (bnd (o_put r_46.2 0 0 4) (fun (r_49 : Int64 × PS) => if (lg_cmp r_49.1 (-9000000000000000002)) = 0 then (bnd (o_start r_49.2 2) (fun (r_52 : Int64 × PS) => if (lg_cmp r_52.1 (-9000000000000000001)) = 0 then ((o_move r_52.2 49 0).bind (fun (r_55 : Int64 × PS) => if (lg_cmp r_55.1 (-9000000000000000001)) = 0 then ((o_move r_55.2 0 (-1)).bind (fun (r_58 : Int64 × PS) => if (lg_cmp r_58.1 (-9000000000000000001)) = 0 then ((o_move r_58.2 9 9).bind (fun (r_61 : Int64 × PS) => if (lg_cmp r_61.1 (-9000000000000000003)) = 0 then (bnd (o_append r_61.2 127) (fun (r_64 : Int64 × PS) => if (lg_cmp r_64.1 (-9000000000000000002)) = 0 then (bnd (o_keep r_64.2 2) (fun (r_67 : Int64 × PS) => if (lg_cmp r_67.1 (-9000000000000000002)) = 0 then (bnd (o_goBack r_67.2 (-1)) (fun (r_70 : Int64 × PS) => if (lg_cmp r_70.1 (-9000000000000000002)) = 0 then (if (lg_cmp (v_pieceAt (aF r_70.2.1) (-1) 0) (-9000000000000000001)) = 0 then (if (lg_cmp (v_piecesOf (aF r_70.2.1) 2) (-9000000000000000001)) = 0 then (if (lg_cmp (v_hostile (aF r_70.2.1) 0 7 0) (-9000000000000000001)) = 0 then (if (lg_cmp (v_hostile (aF r_70.2.1) 0 0 (-1)) (-9000000000000000001)) = 0 then (if (lg_cmp (v_canMove (aF r_70.2.1) 49 0) (-9000000000000000001)) = 0 then (if (lg_cmp (v_against (aF r_70.2.1) 0 49) (-9000000000000000001)) = 0 then (if (lg_cmp (v_movesFrom (aF r_70.2.1) 7 7) (-9000000000000000001)) = 0 then (if (lg_cmp (v_byPieces (aF r_70.2.1) (-1)) (-9000000000000000001)) = 0 then (if (lg_cmp (v_byPieces (aF r_70.2.1) 2) (-9000000000000000001)) = 0 then (if (lg_cmp (v_wouldTake (aF r_70.2.1) (aG r_70.2.1) (-1) 0) (-9000000000000000001)) = 0 then (if (lg_cmp (v_wouldTake (aF r_70.2.1) (aG r_70.2.1) 3 3) (-9000000000000000003)) = 0 then (if (lg_cmp (v_wouldWin (aF r_70.2.1) (aG r_70.2.1) 5 5) (-9000000000000000003)) = 0 then (if (lg_cmp (v_worthOf (aF r_70.2.1) (aG r_70.2.1) 24 24) (-9000000000000000003)) = 0 then (if (lg_cmp (v_winning (aF r_70.2.1) (aG r_70.2.1) 2) (-9000000000000000001)) = 0 then (if (lg_cmp (v_moveAt (aF r_70.2.1) 0 ((v_byPieces (aF r_70.2.1) 0).toInt32)) (-9000000000000000001)) = 0 then (if (lg_cmp (v_moveAt (aF r_70.2.1) 2 0) (-9000000000000000001)) = 0 then (if (lg_cmp (v_bestMove (aF r_70.2.1) (aG r_70.2.1) (-1)) (-9000000000000000001)) = 0 then (if (lg_cmp (v_ofSide (aW1 r_70.2.1) (aW2 r_70.2.1) 2) (-9000000000000000001)) = 0 then (if (lg_cmp (v_ofSide (aT1 r_70.2.1) (aT2 r_70.2.1) (-1)) (-9000000000000000001)) = 0 then (jn (fun (zt_112 : PS) => jn (fun (zt_116 : PS) => jn (J_11 1 zt_116) (fun J_120 => if (lg_cmp (v_kingAt (aF zt_116.1)) (-9000000000000000003)) = 0 then (if (lg_cmp (v_pressure (aF zt_116.1)) (-9000000000000000003)) = 0 then (if (lg_cmp (v_byRounds (aF zt_116.1)) (-9000000000000000003)) = 0 then (if (lg_cmp (v_byRounds (aF zt_116.1)) (-9000000000000000003)) = 0 then (J_120) else (J_43 zt_116)) else (J_43 zt_116)) else (J_43 zt_116)) else (J_120))) (fun J_117 => if (aS zt_112.1) = 0 then (if (lg_cmp (v_timesSeen (aH zt_112.1)) (-9000000000000000003)) = 0 then (J_117 zt_112) else (J_43 zt_112)) else (bnd (o_put zt_112 3 1 1) (fun (r_130 : Int64 × PS) => if (lg_cmp r_130.1 (-9000000000000000003)) = 0 then (bnd (o_start r_130.2 0) (fun (r_133 : Int64 × PS) => if (lg_cmp r_133.1 (-9000000000000000003)) = 0 then (J_117 r_133.2) else (J_43 r_133.2))) else (J_43 r_130.2))))) (fun J_113 => if t_3 = 0 then (if (lg_cmp (v_turn (aS r_70.2.1) (aM r_70.2.1)) (-9000000000000000003)) = 0 then ((o_move r_70.2 3 4).bind (fun (r_141 : Int64 × PS) => if (lg_cmp r_141.1 (-9000000000000000003)) = 0 then (J_113 r_141.2) else (J_43 r_141.2))) else (J_43 r_70.2)) else (J_113 r_70.2))) else (J_43 r_70.2)) else (J_43 r_70.2)) else (J_43 r_70.2)) else (J_43 r_70.2)) else (J_43 r_70.2)) else (J_43 r_70.2)) else (J_43 r_70.2)) else (J_43 r_70.2)) else (J_43 r_70.2)) else (J_43 r_70.2)) else (J_43 r_70.2)) else (J_43 r_70.2)) else (J_43 r_70.2)) else (J_43 r_70.2)) else (J_43 r_70.2)) else (J_43 r_70.2)) else (J_43 r_70.2)) else (J_43 r_70.2)) else (J_43 r_70.2)) else (J_43 r_70.2))) else (J_43 r_67.2))) else (J_43 r_64.2))) else (J_43 r_61.2))) else (J_43 r_58.2))) else (J_43 r_55.2))) else (J_43 r_52.2))) else (J_43 r_49.2))) else (J_43 r_46.2))) else (J_43 r_7.2))))) (fun J_5 => if (aS st.1) = 1 then (J_5 1) else (J_5 0))
set_option maxRecDepth 100000 in
set_option maxHeartbeats 8000000 in
theorem mL_errors (l : Launch) (hl0 : l.stackTraces = false) (g : GE) (zc zp : Nat) (aa : Nat → Nat) (st : PS) (r : Int32 × PS) (hyp : fL_errors st = some r) : MH l yL_errors cL_errors 6 (some .boolean) 10 218 308 1848 g zc zp aa [.ref (aa 0)] st r.2 (.int r.1) := by
  refine metH_intro hl0 rfl (by decide) rfl ?_
  intro p e R s m args below meth c Q A F hRf hRl hRc hRs hQ hr hlocks C hA hOt_0 ls hl
  obtain ⟨hx, hb, hml, hown, hts, hl0, hE, hSR, hNC, hOS, hOT, hAh⟩ := id C
  obtain ⟨c_0, hc0⟩ : ∃ q : Nat, q = 0 := ⟨_, rfl⟩
  obtain ⟨s_0, hs0⟩ : ∃ q : Nat, q = 0 := ⟨_, rfl⟩
  have hS_0 : va_S A s.heap s.heap [] := va_S.rf
  obtain ⟨H_0, hH0⟩ : ∃ q : Heap, q = s.heap := ⟨_, rfl⟩
  obtain ⟨locs_0, hL0⟩ : ∃ q : List Loc, q = [] := ⟨_, rfl⟩
  have hOt_0 : OB g aa F st s H_0 := by rw [hH0]; exact hOt_0
  have hS_0 : va_S A s.heap H_0 locs_0 := by rw [hH0, hL0]; exact hS_0
  suffices hk : W p l e R s m args below meth c H_0 locs_0 c_0 s_0 Q (F0 m 0 ls []) by rw [hH0, hL0, hc0, hs0] at hk; exact hk
  have hc_0 : c_0 + (308) ≤ 308 ∧ s_0 + (1848) ≤ 1848 := by omega
  have hl : lv_has ls 6 [(0, .ref (aa 0))] := hl
  unfold fL_errors at hyp
  refine lv_aload_n hx hb dL_errors_0 rfl (lv_at hl 0 rfl) ?_
  refine hc_digest (rest := []) C hA hOt_0 hS_0 ml_L_120 (Nat.le_trans (Nat.le_of_ble_eq_true rfl) hRf) (Nat.le_trans (Nat.le_of_ble_eq_true rfl) hRl) hl.1 (Nat.le_of_ble_eq_true rfl) dL_errors_1 ⟨by omega, by omega⟩ (fun H_1 locs_1 hOt_1 hS_1 hfr_1 => ?_)
  generalize hq1 : c_0 + 0 = c_1, hq2 : s_0 + 0 = s_1
  have hc_1 : c_1 + (308) ≤ 308 ∧ s_1 + (1848) ≤ 1848 := by omega
  clear hS_0 hfr_1 hOt_0
  refine lv_lstore_n (lv' := [(1, .long (v_digest st)), (0, .ref (aa 0))]) hx hb dL_errors_4 rfl hl (by decide) rfl (fun ls hl => ?_)
  refine lv_aload_n hx hb dL_errors_5 rfl (lv_at hl 1 rfl) ?_
  refine hc_standing (rest := []) C hA hOt_1 hS_1 ml_L_124 (Nat.le_trans (Nat.le_of_ble_eq_true rfl) hRf) (Nat.le_trans (Nat.le_of_ble_eq_true rfl) hRl) hl.1 (Nat.le_of_ble_eq_true rfl) dL_errors_6 ⟨by omega, by omega⟩ (fun H_2 locs_2 hOt_2 hS_2 hfr_2 => ?_)
  generalize hq1 : c_1 + 0 = c_2, hq2 : s_1 + 0 = s_2
  have hc_2 : c_2 + (308) ≤ 308 ∧ s_2 + (1848) ≤ 1848 := by omega
  clear hS_1 hfr_2 hOt_1
  refine lv_iconst (v := 1) hx hb dL_errors_9 (by decide) ?_
  obtain ⟨J_5, eJ_5, hyp⟩ := jn_e hyp
  have kJ_5 : ∀ (t_3 : Int32) (H_4 : Heap) (locs_4 : List Loc) (c_4 s_4 : Nat) (ls : Array Slot), J_5 t_3 = some r → lv_has ls 6 [(0, .ref (aa 0)), (1, .long (v_digest st))] → OB g aa F st s H_4 → va_S A s.heap H_4 locs_4 → (c_4 + (308) ≤ 308 ∧ s_4 + (1848) ≤ 1848) → W p l e R s m args below meth c H_4 locs_4 c_4 s_4 Q (F0 m 18 ls [.int t_3]) := by
    intro t_3 H_4 locs_4 c_4 s_4 ls hyp hl hOt_4 hS_4 hc_4
    replace hyp := (congrFun (eJ_5) t_3).symm.trans hyp
    refine lv_istore_n (lv' := [(3, .int t_3), (0, .ref (aa 0)), (1, .long (v_digest st))]) hx hb dL_errors_18 rfl hl (by decide) rfl (fun ls hl => ?_)
    refine lv_aload_n hx hb dL_errors_19 rfl (lv_at hl 1 rfl) ?_
    refine lv_bipush (v := 7) hx hb dL_errors_20 (by decide) ?_
    refine lv_iconst (v := 0) hx hb dL_errors_22 (by decide) ?_
    refine lv_iconst (v := 0) hx hb dL_errors_23 (by decide) ?_
    obtain ⟨r_7, hr_7, hyp⟩ := bnd_e hyp
    refine hc_put (rest := []) C hA hOt_4 hS_4 (7 : Int32) (0 : Int32) (0 : Int32) ml_L_127 (Nat.le_trans (Nat.le_of_ble_eq_true rfl) hRf) (Nat.le_trans (Nat.le_of_ble_eq_true rfl) hRl) hl.1 (Nat.le_of_ble_eq_true rfl) dL_errors_24 ⟨by omega, by omega⟩ (fun H_6 locs_6 hOt_6 hS_6 hfr_6 => ?_)
    generalize hq1 : c_4 + 2 = c_6, hq2 : s_4 + 12 = s_6
    rw [← hr_7] at hOt_6 ⊢
    have hc_6 : c_6 + (306) ≤ 308 ∧ s_6 + (1836) ≤ 1848 := by omega
    clear hS_4 hfr_6 hOt_4
    refine lv_ldc2 (v := (-9000000000000000001)) hx hb hown (hts _ ct_L_17) dL_errors_27 ?_
    refine W.lcmp hx hb dL_errors_30 ?_
    obtain ⟨J_11, eJ_11, hyp⟩ := jn_e hyp
    have kJ_11 : ∀ (t_8 : Int32) (zt_10 : PS) (H_9 : Heap) (locs_9 : List Loc) (c_9 s_9 : Nat) (ls : Array Slot), J_11 t_8 zt_10 = some r → lv_has ls 6 [(0, .ref (aa 0)), (1, .long (v_digest st))] → OB g aa F zt_10 s H_9 → va_S A s.heap H_9 locs_9 → (c_9 + (250) ≤ 308 ∧ s_9 + (1500) ≤ 1848) → W p l e R s m args below meth c H_9 locs_9 c_9 s_9 Q (F0 m 532 ls [.int t_8]) := by
      intro t_8 zt_10 H_9 locs_9 c_9 s_9 ls hyp hl hOt_9 hS_9 hc_9
      replace hyp := (congrFun (congrFun (eJ_11) t_8) zt_10).symm.trans hyp
      refine lv_istore (lv' := [(4, .int t_8), (0, .ref (aa 0)), (1, .long (v_digest st))]) hx hb dL_errors_532 hl (by decide) rfl (fun ls hl => ?_)
      refine lv_iconst (v := 0) hx hb dL_errors_534 (by decide) ?_
      refine lv_istore (lv' := [(5, .int 0), (4, .int t_8), (0, .ref (aa 0)), (1, .long (v_digest st))]) hx hb dL_errors_535 hl (by decide) rfl (fun ls hl => ?_)
      refine lp_n (r := r) (fun (n9 : Nat) (z : Int32 × Int32 × PS) => ∀ (H_14 : Heap) (locs_14 : List Loc) (c_14 s_14 : Nat) (ls : Array Slot), lv_has ls 6 [(0, .ref (aa 0)), (1, .long (v_digest st)), (4, .int z.1), (5, .int z.2.1)] → OB g aa F z.2.2 s H_14 → va_S A s.heap H_14 locs_14 → (c_14 + (0 + n9 * 5) ≤ 308 ∧ s_14 + (0 + n9 * 30) ≤ 1848) → W p l e R s m args below meth c H_14 locs_14 c_14 s_14 Q (F0 m 537 ls [])) ?_ 50 (t_8, 0, zt_10) hyp _ _ _ _ ls (lv_sub hl [2, 3, 1, 0] rfl) hOt_9 hS_9 (by omega)
      intro n9_17 self_16T ihself_16T z hyp H_14 locs_14 c_14 s_14 ls hl hOt_14 hS_14 hc_14
      obtain ⟨v4_12, v5_13, zt_15⟩ := z
      obtain ⟨self_16, eself_16⟩ : ∃ f9 : Int32 → Int32 → PS → Option (Int32 × PS), f9 = fun v4_12 v5_13 zt_15 => self_16T (v4_12, v5_13, zt_15) := ⟨_, rfl⟩
      have ihself_16 := fun (v4_12 : Int32) (v5_13 : Int32) (zt_15 : PS) (h9 : self_16 v4_12 v5_13 zt_15 = some r) => ihself_16T (v4_12, v5_13, zt_15) (by rw [eself_16] at h9; exact h9)
      replace hyp : fL_errors_L537_B st self_16 v4_12 v5_13 zt_15 = some r := by rw [eself_16]; exact hyp
      have hl : lv_has ls 6 [(0, .ref (aa 0)), (1, .long (v_digest st)), (4, .int v4_12), (5, .int v5_13)] := hl
      have hOt_14 : OB g aa F zt_15 s H_14 := hOt_14
      show W p l e R s m args below meth c H_14 locs_14 c_14 s_14 Q (F0 m 537 ls [])
      unfold fL_errors_L537_B at hyp
      have hc_14 : c_14 + (5 + n9_17 * 5) ≤ 308 ∧ s_14 + (30 + n9_17 * 30) ≤ 1848 := by
        have hq := hc_14
        omega
      refine lv_iload hx hb dL_errors_537 (lv_at hl 3 rfl) ?_
      refine lv_bipush (v := 49) hx hb dL_errors_539 (by decide) ?_
      obtain ⟨J_19, eJ_19, hyp⟩ := jn_e hyp
      have kJ_19 : ∀ (H_18 : Heap) (locs_18 : List Loc) (c_18 s_18 : Nat) (ls : Array Slot), J_19 = some r → lv_has ls 6 [(0, .ref (aa 0)), (1, .long (v_digest st)), (4, .int v4_12)] → OB g aa F zt_15 s H_18 → va_S A s.heap H_18 locs_18 → (c_18 + (0) ≤ 308 ∧ s_18 + (0) ≤ 1848) → W p l e R s m args below meth c H_18 locs_18 c_18 s_18 Q (F0 m 605 ls []) := by
        intro H_18 locs_18 c_18 s_18 ls hyp hl hOt_18 hS_18 hc_18
        replace hyp := (eJ_19).symm.trans hyp
        refine lv_iload hx hb dL_errors_605 (lv_at hl 2 rfl) ?_
        refine lv_if_eq (tgt := 623) hx hb dL_errors_607 (by decide) (fun h_20 => ?_) (fun h_20 => ?_)
        · replace hyp := ite_t h_20 hyp
          refine lv_iconst (v := 0) hx hb dL_errors_623 (by decide) ?_
          have hyp := some_e hyp
          subst hyp
          subst hQ
          exact rhZ hx hb hr hlocks (Or.inl rfl) hOt_18 hS_18 ⟨by omega, by omega⟩ dL_errors_624
        · replace hyp := ite_f h_20 hyp
          refine lv_aload_n hx hb dL_errors_610 rfl (lv_at hl 0 rfl) ?_
          refine hc_digest (rest := []) C hA hOt_18 hS_18 ml_L_120 (Nat.le_trans (Nat.le_of_ble_eq_true rfl) hRf) (Nat.le_trans (Nat.le_of_ble_eq_true rfl) hRl) hl.1 (Nat.le_of_ble_eq_true rfl) dL_errors_611 ⟨by omega, by omega⟩ (fun H_21 locs_21 hOt_21 hS_21 hfr_21 => ?_)
          generalize hq1 : c_18 + 0 = c_21, hq2 : s_18 + 0 = s_21
          have hc_21 : c_21 + (0) ≤ 308 ∧ s_21 + (0) ≤ 1848 := by omega
          clear hS_18 hfr_21 hOt_18
          refine lv_lload_n hx hb dL_errors_614 rfl (lv_at hl 1 rfl) ?_
          refine W.lcmp hx hb dL_errors_615 ?_
          refine lv_if_ne (tgt := 623) hx hb dL_errors_616 (by decide) (fun h_22 => ?_) (fun h_22 => ?_)
          · replace hyp := ite_f h_22 hyp
            refine lv_iconst (v := 0) hx hb dL_errors_623 (by decide) ?_
            have hyp := some_e hyp
            subst hyp
            subst hQ
            exact rhZ hx hb hr hlocks (Or.inl rfl) hOt_21 hS_21 ⟨by omega, by omega⟩ dL_errors_624
          · replace hyp := ite_t h_22 hyp
            refine lv_iconst (v := 1) hx hb dL_errors_619 (by decide) ?_
            refine lv_goto (tgt := 624) hx hb dL_errors_620 (by decide) ?_
            have hyp := some_e hyp
            subst hyp
            subst hQ
            exact rhZ hx hb hr hlocks (Or.inr rfl) hOt_21 hS_21 ⟨by omega, by omega⟩ dL_errors_624
      refine lv_icmp_ge (tgt := 605) hx hb dL_errors_541 (by decide) (fun h_23 => ?_) (fun h_23 => ?_)
      · replace hyp := ite_t h_23 hyp
        exact kJ_19 _ _ _ _ ls hyp (lv_sub hl [0, 1, 2] rfl) hOt_14 hS_14 (by omega)
      · replace hyp := ite_f h_23 hyp
        refine lv_iload hx hb dL_errors_544 (lv_at hl 2 rfl) ?_
        refine lv_if_eq (tgt := 605) hx hb dL_errors_546 (by decide) (fun h_24 => ?_) (fun h_24 => ?_)
        · replace hyp := ite_t h_24 hyp
          exact kJ_19 _ _ _ _ ls hyp (lv_sub hl [0, 1, 2] rfl) hOt_14 hS_14 (by omega)
        · replace hyp := ite_f h_24 hyp
          refine lv_aload_n hx hb dL_errors_549 rfl (lv_at hl 0 rfl) ?_
          refine lv_iload hx hb dL_errors_550 (lv_at hl 3 rfl) ?_
          refine lv_bipush (v := 30) hx hb dL_errors_552 (by decide) ?_
          refine hc_against (rest := []) C hA hOt_14 hS_14 v5_13 (30 : Int32) ml_L_153 (Nat.le_trans (Nat.le_of_ble_eq_true rfl) hRf) (Nat.le_trans (Nat.le_of_ble_eq_true rfl) hRl) hl.1 (Nat.le_of_ble_eq_true rfl) dL_errors_554 ⟨by omega, by omega⟩ (fun H_25 locs_25 hOt_25 hS_25 hfr_25 => ?_)
          generalize hq1 : c_14 + 1 = c_25, hq2 : s_14 + 6 = s_25
          have hc_25 : c_25 + (4 + n9_17 * 5) ≤ 308 ∧ s_25 + (24 + n9_17 * 30) ≤ 1848 := by omega
          clear hS_14 hfr_25 hOt_14
          refine lv_lconst (v := 0) hx hb dL_errors_557 (by decide) ?_
          refine W.lcmp hx hb dL_errors_558 ?_
          obtain ⟨J_29, eJ_29, hyp⟩ := jn_e hyp
          have kJ_29 : ∀ (t_26 : Int32) (zt_28 : PS) (H_27 : Heap) (locs_27 : List Loc) (c_27 s_27 : Nat) (ls : Array Slot), J_29 t_26 zt_28 = some r → lv_has ls 6 [(0, .ref (aa 0)), (1, .long (v_digest st)), (5, .int v5_13)] → OB g aa F zt_28 s H_27 → va_S A s.heap H_27 locs_27 → (c_27 + (0 + n9_17 * 5) ≤ 308 ∧ s_27 + (0 + n9_17 * 30) ≤ 1848) → W p l e R s m args below meth c H_27 locs_27 c_27 s_27 Q (F0 m 597 ls [.int t_26]) := by
            intro t_26 zt_28 H_27 locs_27 c_27 s_27 ls hyp hl hOt_27 hS_27 hc_27
            replace hyp := (congrFun (congrFun (eJ_29) t_26) zt_28).symm.trans hyp
            refine lv_istore (lv' := [(4, .int t_26), (0, .ref (aa 0)), (1, .long (v_digest st)), (5, .int v5_13)]) hx hb dL_errors_597 hl (by decide) rfl (fun ls hl => ?_)
            refine lv_iinc (v := v5_13 + 1) (lv' := [(5, .int (v5_13 + 1)), (4, .int t_26), (0, .ref (aa 0)), (1, .long (v_digest st))]) hx hb dL_errors_599 hl (k := 3) rfl rfl (by decide) rfl (fun ls hl => ?_)
            refine lv_goto (tgt := 537) hx hb dL_errors_602 (by decide) ?_
            exact ihself_16 t_26 (v5_13 + 1) zt_28 hyp _ _ _ _ ls (lv_sub hl [2, 3, 1, 0] rfl) hOt_27 hS_27 (by omega)
          obtain ⟨J_32, eJ_32, hyp⟩ := jn_e hyp
          have kJ_32 : ∀ (zt_31 : PS) (H_30 : Heap) (locs_30 : List Loc) (c_30 s_30 : Nat) (ls : Array Slot), J_32 zt_31 = some r → lv_has ls 6 [(0, .ref (aa 0)), (1, .long (v_digest st)), (5, .int v5_13)] → OB g aa F zt_31 s H_30 → va_S A s.heap H_30 locs_30 → (c_30 + (0 + n9_17 * 5) ≤ 308 ∧ s_30 + (0 + n9_17 * 30) ≤ 1848) → W p l e R s m args below meth c H_30 locs_30 c_30 s_30 Q (F0 m 592 ls []) := by
            intro zt_31 H_30 locs_30 c_30 s_30 ls hyp hl hOt_30 hS_30 hc_30
            replace hyp := (congrFun (eJ_32) zt_31).symm.trans hyp
            refine lv_iconst (v := 1) hx hb dL_errors_592 (by decide) ?_
            refine lv_goto (tgt := 597) hx hb dL_errors_593 (by decide) ?_
            exact kJ_29 1 zt_31 _ _ _ _ ls hyp hl hOt_30 hS_30 (by omega)
          refine lv_if_eq (tgt := 592) hx hb dL_errors_559 (by decide) (fun h_33 => ?_) (fun h_33 => ?_)
          · replace hyp := ite_t h_33 hyp
            exact kJ_32 zt_15 _ _ _ _ ls hyp (lv_sub hl [0, 1, 3] rfl) hOt_25 hS_25 (by omega)
          · replace hyp := ite_f h_33 hyp
            refine lv_aload_n hx hb dL_errors_562 rfl (lv_at hl 0 rfl) ?_
            refine lv_iload hx hb dL_errors_563 (lv_at hl 3 rfl) ?_
            refine lv_bipush (v := 30) hx hb dL_errors_565 (by decide) ?_
            obtain ⟨r_35, hr_35, hyp⟩ := opt_e hyp
            refine hc_move (rest := []) C hA hOt_25 hS_25 v5_13 (30 : Int32) hr_35 ml_L_135 (Nat.le_trans (Nat.le_of_ble_eq_true rfl) hRf) (Nat.le_trans (Nat.le_of_ble_eq_true rfl) hRl) hl.1 (Nat.le_of_ble_eq_true rfl) dL_errors_567 ⟨by omega, by omega⟩ (fun H_34 locs_34 hOt_34 hS_34 hfr_34 => ?_)
            generalize hq1 : c_25 + 2 = c_34, hq2 : s_25 + 12 = s_34
            have hc_34 : c_34 + (2 + n9_17 * 5) ≤ 308 ∧ s_34 + (12 + n9_17 * 30) ≤ 1848 := by omega
            clear hS_25 hfr_34 hOt_25
            refine lv_ldc2 (v := (-9000000000000000003)) hx hb hown (hts _ ct_L_25) dL_errors_570 ?_
            refine W.lcmp hx hb dL_errors_573 ?_
            obtain ⟨J_37, eJ_37, hyp⟩ := jn_e hyp
            have kJ_37 : ∀ (H_36 : Heap) (locs_36 : List Loc) (c_36 s_36 : Nat) (ls : Array Slot), J_37 = some r → lv_has ls 6 [(0, .ref (aa 0)), (1, .long (v_digest st)), (5, .int v5_13)] → OB g aa F r_35.2 s H_36 → va_S A s.heap H_36 locs_36 → (c_36 + (0 + n9_17 * 5) ≤ 308 ∧ s_36 + (0 + n9_17 * 30) ≤ 1848) → W p l e R s m args below meth c H_36 locs_36 c_36 s_36 Q (F0 m 596 ls []) := by
              intro H_36 locs_36 c_36 s_36 ls hyp hl hOt_36 hS_36 hc_36
              replace hyp := (eJ_37).symm.trans hyp
              refine lv_iconst (v := 0) hx hb dL_errors_596 (by decide) ?_
              exact kJ_29 0 r_35.2 _ _ _ _ ls hyp hl hOt_36 hS_36 (by omega)
            refine lv_if_ne (tgt := 596) hx hb dL_errors_574 (by decide) (fun h_38 => ?_) (fun h_38 => ?_)
            · replace hyp := ite_f h_38 hyp
              exact kJ_37 _ _ _ _ ls hyp (lv_sub hl [0, 1, 3] rfl) hOt_34 hS_34 (by omega)
            · replace hyp := ite_t h_38 hyp
              refine lv_aload_n hx hb dL_errors_577 rfl (lv_at hl 0 rfl) ?_
              refine lv_iload hx hb dL_errors_578 (lv_at hl 3 rfl) ?_
              refine lv_bipush (v := 30) hx hb dL_errors_580 (by decide) ?_
              refine hc_wouldTake (rest := []) C hA hOt_34 hS_34 v5_13 (30 : Int32) ml_L_164 (Nat.le_trans (Nat.le_of_ble_eq_true rfl) hRf) (Nat.le_trans (Nat.le_of_ble_eq_true rfl) hRl) hl.1 (Nat.le_of_ble_eq_true rfl) dL_errors_582 ⟨by omega, by omega⟩ (fun H_39 locs_39 hOt_39 hS_39 hfr_39 => ?_)
              generalize hq1 : c_34 + 2 = c_39, hq2 : s_34 + 12 = s_39
              have hc_39 : c_39 + (0 + n9_17 * 5) ≤ 308 ∧ s_39 + (0 + n9_17 * 30) ≤ 1848 := by omega
              clear hS_34 hfr_39 hOt_34
              refine lv_ldc2 (v := (-9000000000000000003)) hx hb hown (hts _ ct_L_25) dL_errors_585 ?_
              refine W.lcmp hx hb dL_errors_588 ?_
              refine lv_if_ne (tgt := 596) hx hb dL_errors_589 (by decide) (fun h_40 => ?_) (fun h_40 => ?_)
              · replace hyp := ite_f h_40 hyp
                exact kJ_37 _ _ _ _ ls hyp (lv_sub hl [0, 1, 3] rfl) hOt_39 hS_39 (by omega)
              · replace hyp := ite_t h_40 hyp
                exact kJ_32 r_35.2 _ _ _ _ ls hyp (lv_sub hl [0, 1, 3] rfl) hOt_39 hS_39 (by omega)
    obtain ⟨J_43, eJ_43, hyp⟩ := jn_e hyp
    have kJ_43 : ∀ (zt_42 : PS) (H_41 : Heap) (locs_41 : List Loc) (c_41 s_41 : Nat) (ls : Array Slot), J_43 zt_42 = some r → lv_has ls 6 [(0, .ref (aa 0)), (1, .long (v_digest st))] → OB g aa F zt_42 s H_41 → va_S A s.heap H_41 locs_41 → (c_41 + (250) ≤ 308 ∧ s_41 + (1500) ≤ 1848) → W p l e R s m args below meth c H_41 locs_41 c_41 s_41 Q (F0 m 531 ls []) := by
      intro zt_42 H_41 locs_41 c_41 s_41 ls hyp hl hOt_41 hS_41 hc_41
      replace hyp := (congrFun (eJ_43) zt_42).symm.trans hyp
      refine lv_iconst (v := 0) hx hb dL_errors_531 (by decide) ?_
      exact kJ_11 0 zt_42 _ _ _ _ ls hyp hl hOt_41 hS_41 (by omega)
    refine lv_if_ne (tgt := 531) hx hb dL_errors_31 (by decide) (fun h_44 => ?_) (fun h_44 => ?_)
    · replace hyp := ite_f h_44 hyp
      exact kJ_43 r_7.2 _ _ _ _ ls hyp (lv_sub hl [1, 2] rfl) hOt_6 hS_6 (by omega)
    · replace hyp := ite_t h_44 hyp
      refine lv_aload_n hx hb dL_errors_34 rfl (lv_at hl 1 rfl) ?_
      refine lv_iconst (v := 0) hx hb dL_errors_35 (by decide) ?_
      refine lv_iconst (v := (-1)) hx hb dL_errors_36 (by decide) ?_
      refine lv_bipush (v := 9) hx hb dL_errors_37 (by decide) ?_
      obtain ⟨r_46, hr_46, hyp⟩ := bnd_e hyp
      refine hc_put (rest := []) C hA hOt_6 hS_6 (0 : Int32) ((-1) : Int32) (9 : Int32) ml_L_127 (Nat.le_trans (Nat.le_of_ble_eq_true rfl) hRf) (Nat.le_trans (Nat.le_of_ble_eq_true rfl) hRl) hl.1 (Nat.le_of_ble_eq_true rfl) dL_errors_39 ⟨by omega, by omega⟩ (fun H_45 locs_45 hOt_45 hS_45 hfr_45 => ?_)
      generalize hq1 : c_6 + 2 = c_45, hq2 : s_6 + 12 = s_45
      rw [← hr_46] at hOt_45 ⊢
      have hc_45 : c_45 + (304) ≤ 308 ∧ s_45 + (1824) ≤ 1848 := by omega
      clear hS_6 hfr_45 hOt_6
      refine lv_ldc2 (v := (-9000000000000000001)) hx hb hown (hts _ ct_L_17) dL_errors_42 ?_
      refine W.lcmp hx hb dL_errors_45 ?_
      refine lv_if_ne (tgt := 531) hx hb dL_errors_46 (by decide) (fun h_47 => ?_) (fun h_47 => ?_)
      · replace hyp := ite_f h_47 hyp
        exact kJ_43 r_46.2 _ _ _ _ ls hyp (lv_sub hl [1, 2] rfl) hOt_45 hS_45 (by omega)
      · replace hyp := ite_t h_47 hyp
        refine lv_aload_n hx hb dL_errors_49 rfl (lv_at hl 1 rfl) ?_
        refine lv_iconst (v := 0) hx hb dL_errors_50 (by decide) ?_
        refine lv_iconst (v := 0) hx hb dL_errors_51 (by decide) ?_
        refine lv_iconst (v := 4) hx hb dL_errors_52 (by decide) ?_
        obtain ⟨r_49, hr_49, hyp⟩ := bnd_e hyp
        refine hc_put (rest := []) C hA hOt_45 hS_45 (0 : Int32) (0 : Int32) (4 : Int32) ml_L_127 (Nat.le_trans (Nat.le_of_ble_eq_true rfl) hRf) (Nat.le_trans (Nat.le_of_ble_eq_true rfl) hRl) hl.1 (Nat.le_of_ble_eq_true rfl) dL_errors_53 ⟨by omega, by omega⟩ (fun H_48 locs_48 hOt_48 hS_48 hfr_48 => ?_)
        generalize hq1 : c_45 + 2 = c_48, hq2 : s_45 + 12 = s_48
        rw [← hr_49] at hOt_48 ⊢
        have hc_48 : c_48 + (302) ≤ 308 ∧ s_48 + (1812) ≤ 1848 := by omega
        clear hS_45 hfr_48 hOt_45
        refine lv_ldc2 (v := (-9000000000000000002)) hx hb hown (hts _ ct_L_21) dL_errors_56 ?_
        refine W.lcmp hx hb dL_errors_59 ?_
        refine lv_if_ne (tgt := 531) hx hb dL_errors_60 (by decide) (fun h_50 => ?_) (fun h_50 => ?_)
        · replace hyp := ite_f h_50 hyp
          exact kJ_43 r_49.2 _ _ _ _ ls hyp (lv_sub hl [1, 2] rfl) hOt_48 hS_48 (by omega)
        · replace hyp := ite_t h_50 hyp
          refine lv_aload_n hx hb dL_errors_63 rfl (lv_at hl 1 rfl) ?_
          refine lv_iconst (v := 2) hx hb dL_errors_64 (by decide) ?_
          obtain ⟨r_52, hr_52, hyp⟩ := bnd_e hyp
          refine hc_start (rest := []) C hA hOt_48 hS_48 (2 : Int32) ml_L_132 (Nat.le_trans (Nat.le_of_ble_eq_true rfl) hRf) (Nat.le_trans (Nat.le_of_ble_eq_true rfl) hRl) hl.1 (Nat.le_of_ble_eq_true rfl) dL_errors_65 ⟨by omega, by omega⟩ (fun H_51 locs_51 hOt_51 hS_51 hfr_51 => ?_)
          generalize hq1 : c_48 + 2 = c_51, hq2 : s_48 + 12 = s_51
          rw [← hr_52] at hOt_51 ⊢
          have hc_51 : c_51 + (300) ≤ 308 ∧ s_51 + (1800) ≤ 1848 := by omega
          clear hS_48 hfr_51 hOt_48
          refine lv_ldc2 (v := (-9000000000000000001)) hx hb hown (hts _ ct_L_17) dL_errors_68 ?_
          refine W.lcmp hx hb dL_errors_71 ?_
          refine lv_if_ne (tgt := 531) hx hb dL_errors_72 (by decide) (fun h_53 => ?_) (fun h_53 => ?_)
          · replace hyp := ite_f h_53 hyp
            exact kJ_43 r_52.2 _ _ _ _ ls hyp (lv_sub hl [1, 2] rfl) hOt_51 hS_51 (by omega)
          · replace hyp := ite_t h_53 hyp
            refine lv_aload_n hx hb dL_errors_75 rfl (lv_at hl 1 rfl) ?_
            refine lv_bipush (v := 49) hx hb dL_errors_76 (by decide) ?_
            refine lv_iconst (v := 0) hx hb dL_errors_78 (by decide) ?_
            obtain ⟨r_55, hr_55, hyp⟩ := opt_e hyp
            refine hc_move (rest := []) C hA hOt_51 hS_51 (49 : Int32) (0 : Int32) hr_55 ml_L_135 (Nat.le_trans (Nat.le_of_ble_eq_true rfl) hRf) (Nat.le_trans (Nat.le_of_ble_eq_true rfl) hRl) hl.1 (Nat.le_of_ble_eq_true rfl) dL_errors_79 ⟨by omega, by omega⟩ (fun H_54 locs_54 hOt_54 hS_54 hfr_54 => ?_)
            generalize hq1 : c_51 + 2 = c_54, hq2 : s_51 + 12 = s_54
            have hc_54 : c_54 + (298) ≤ 308 ∧ s_54 + (1788) ≤ 1848 := by omega
            clear hS_51 hfr_54 hOt_51
            refine lv_ldc2 (v := (-9000000000000000001)) hx hb hown (hts _ ct_L_17) dL_errors_82 ?_
            refine W.lcmp hx hb dL_errors_85 ?_
            refine lv_if_ne (tgt := 531) hx hb dL_errors_86 (by decide) (fun h_56 => ?_) (fun h_56 => ?_)
            · replace hyp := ite_f h_56 hyp
              exact kJ_43 r_55.2 _ _ _ _ ls hyp (lv_sub hl [1, 2] rfl) hOt_54 hS_54 (by omega)
            · replace hyp := ite_t h_56 hyp
              refine lv_aload_n hx hb dL_errors_89 rfl (lv_at hl 1 rfl) ?_
              refine lv_iconst (v := 0) hx hb dL_errors_90 (by decide) ?_
              refine lv_iconst (v := (-1)) hx hb dL_errors_91 (by decide) ?_
              obtain ⟨r_58, hr_58, hyp⟩ := opt_e hyp
              refine hc_move (rest := []) C hA hOt_54 hS_54 (0 : Int32) ((-1) : Int32) hr_58 ml_L_135 (Nat.le_trans (Nat.le_of_ble_eq_true rfl) hRf) (Nat.le_trans (Nat.le_of_ble_eq_true rfl) hRl) hl.1 (Nat.le_of_ble_eq_true rfl) dL_errors_92 ⟨by omega, by omega⟩ (fun H_57 locs_57 hOt_57 hS_57 hfr_57 => ?_)
              generalize hq1 : c_54 + 2 = c_57, hq2 : s_54 + 12 = s_57
              have hc_57 : c_57 + (296) ≤ 308 ∧ s_57 + (1776) ≤ 1848 := by omega
              clear hS_54 hfr_57 hOt_54
              refine lv_ldc2 (v := (-9000000000000000001)) hx hb hown (hts _ ct_L_17) dL_errors_95 ?_
              refine W.lcmp hx hb dL_errors_98 ?_
              refine lv_if_ne (tgt := 531) hx hb dL_errors_99 (by decide) (fun h_59 => ?_) (fun h_59 => ?_)
              · replace hyp := ite_f h_59 hyp
                exact kJ_43 r_58.2 _ _ _ _ ls hyp (lv_sub hl [1, 2] rfl) hOt_57 hS_57 (by omega)
              · replace hyp := ite_t h_59 hyp
                refine lv_aload_n hx hb dL_errors_102 rfl (lv_at hl 1 rfl) ?_
                refine lv_bipush (v := 9) hx hb dL_errors_103 (by decide) ?_
                refine lv_bipush (v := 9) hx hb dL_errors_105 (by decide) ?_
                obtain ⟨r_61, hr_61, hyp⟩ := opt_e hyp
                refine hc_move (rest := []) C hA hOt_57 hS_57 (9 : Int32) (9 : Int32) hr_61 ml_L_135 (Nat.le_trans (Nat.le_of_ble_eq_true rfl) hRf) (Nat.le_trans (Nat.le_of_ble_eq_true rfl) hRl) hl.1 (Nat.le_of_ble_eq_true rfl) dL_errors_107 ⟨by omega, by omega⟩ (fun H_60 locs_60 hOt_60 hS_60 hfr_60 => ?_)
                generalize hq1 : c_57 + 2 = c_60, hq2 : s_57 + 12 = s_60
                have hc_60 : c_60 + (294) ≤ 308 ∧ s_60 + (1764) ≤ 1848 := by omega
                clear hS_57 hfr_60 hOt_57
                refine lv_ldc2 (v := (-9000000000000000003)) hx hb hown (hts _ ct_L_25) dL_errors_110 ?_
                refine W.lcmp hx hb dL_errors_113 ?_
                refine lv_if_ne (tgt := 531) hx hb dL_errors_114 (by decide) (fun h_62 => ?_) (fun h_62 => ?_)
                · replace hyp := ite_f h_62 hyp
                  exact kJ_43 r_61.2 _ _ _ _ ls hyp (lv_sub hl [1, 2] rfl) hOt_60 hS_60 (by omega)
                · replace hyp := ite_t h_62 hyp
                  refine lv_aload_n hx hb dL_errors_117 rfl (lv_at hl 1 rfl) ?_
                  refine lv_bipush (v := 127) hx hb dL_errors_118 (by decide) ?_
                  obtain ⟨r_64, hr_64, hyp⟩ := bnd_e hyp
                  refine hc_append (rest := []) C hA hOt_60 hS_60 (127 : Int32) ml_L_138 (Nat.le_trans (Nat.le_of_ble_eq_true rfl) hRf) (Nat.le_trans (Nat.le_of_ble_eq_true rfl) hRl) hl.1 (Nat.le_of_ble_eq_true rfl) dL_errors_120 ⟨by omega, by omega⟩ (fun H_63 locs_63 hOt_63 hS_63 hfr_63 => ?_)
                  generalize hq1 : c_60 + 1 = c_63, hq2 : s_60 + 6 = s_63
                  rw [← hr_64] at hOt_63 ⊢
                  have hc_63 : c_63 + (293) ≤ 308 ∧ s_63 + (1758) ≤ 1848 := by omega
                  clear hS_60 hfr_63 hOt_60
                  refine lv_ldc2 (v := (-9000000000000000002)) hx hb hown (hts _ ct_L_21) dL_errors_123 ?_
                  refine W.lcmp hx hb dL_errors_126 ?_
                  refine lv_if_ne (tgt := 531) hx hb dL_errors_127 (by decide) (fun h_65 => ?_) (fun h_65 => ?_)
                  · replace hyp := ite_f h_65 hyp
                    exact kJ_43 r_64.2 _ _ _ _ ls hyp (lv_sub hl [1, 2] rfl) hOt_63 hS_63 (by omega)
                  · replace hyp := ite_t h_65 hyp
                    refine lv_aload_n hx hb dL_errors_130 rfl (lv_at hl 1 rfl) ?_
                    refine lv_iconst (v := 2) hx hb dL_errors_131 (by decide) ?_
                    obtain ⟨r_67, hr_67, hyp⟩ := bnd_e hyp
                    refine hc_keep (rest := []) C hA hOt_63 hS_63 (2 : Int32) ml_L_140 (Nat.le_trans (Nat.le_of_ble_eq_true rfl) hRf) (Nat.le_trans (Nat.le_of_ble_eq_true rfl) hRl) hl.1 (Nat.le_of_ble_eq_true rfl) dL_errors_132 ⟨by omega, by omega⟩ (fun H_66 locs_66 hOt_66 hS_66 hfr_66 => ?_)
                    generalize hq1 : c_63 + 1 = c_66, hq2 : s_63 + 6 = s_66
                    rw [← hr_67] at hOt_66 ⊢
                    have hc_66 : c_66 + (292) ≤ 308 ∧ s_66 + (1752) ≤ 1848 := by omega
                    clear hS_63 hfr_66 hOt_63
                    refine lv_ldc2 (v := (-9000000000000000002)) hx hb hown (hts _ ct_L_21) dL_errors_135 ?_
                    refine W.lcmp hx hb dL_errors_138 ?_
                    refine lv_if_ne (tgt := 531) hx hb dL_errors_139 (by decide) (fun h_68 => ?_) (fun h_68 => ?_)
                    · replace hyp := ite_f h_68 hyp
                      exact kJ_43 r_67.2 _ _ _ _ ls hyp (lv_sub hl [1, 2] rfl) hOt_66 hS_66 (by omega)
                    · replace hyp := ite_t h_68 hyp
                      refine lv_aload_n hx hb dL_errors_142 rfl (lv_at hl 1 rfl) ?_
                      refine lv_iconst (v := (-1)) hx hb dL_errors_143 (by decide) ?_
                      obtain ⟨r_70, hr_70, hyp⟩ := bnd_e hyp
                      refine hc_goBack (rest := []) C hA hOt_66 hS_66 ((-1) : Int32) ml_L_142 (Nat.le_trans (Nat.le_of_ble_eq_true rfl) hRf) (Nat.le_trans (Nat.le_of_ble_eq_true rfl) hRl) hl.1 (Nat.le_of_ble_eq_true rfl) dL_errors_144 ⟨by omega, by omega⟩ (fun H_69 locs_69 hOt_69 hS_69 hfr_69 => ?_)
                      generalize hq1 : c_66 + 2 = c_69, hq2 : s_66 + 12 = s_69
                      rw [← hr_70] at hOt_69 ⊢
                      have hc_69 : c_69 + (290) ≤ 308 ∧ s_69 + (1740) ≤ 1848 := by omega
                      clear hS_66 hfr_69 hOt_66
                      refine lv_ldc2 (v := (-9000000000000000002)) hx hb hown (hts _ ct_L_21) dL_errors_147 ?_
                      refine W.lcmp hx hb dL_errors_150 ?_
                      refine lv_if_ne (tgt := 531) hx hb dL_errors_151 (by decide) (fun h_71 => ?_) (fun h_71 => ?_)
                      · replace hyp := ite_f h_71 hyp
                        exact kJ_43 r_70.2 _ _ _ _ ls hyp (lv_sub hl [1, 2] rfl) hOt_69 hS_69 (by omega)
                      · replace hyp := ite_t h_71 hyp
                        refine lv_aload_n hx hb dL_errors_154 rfl (lv_at hl 1 rfl) ?_
                        refine lv_iconst (v := (-1)) hx hb dL_errors_155 (by decide) ?_
                        refine lv_iconst (v := 0) hx hb dL_errors_156 (by decide) ?_
                        refine hc_pieceAt (rest := []) C hA hOt_69 hS_69 ((-1) : Int32) (0 : Int32) ml_L_144 (Nat.le_trans (Nat.le_of_ble_eq_true rfl) hRf) (Nat.le_trans (Nat.le_of_ble_eq_true rfl) hRl) hl.1 (Nat.le_of_ble_eq_true rfl) dL_errors_157 ⟨by omega, by omega⟩ (fun H_72 locs_72 hOt_72 hS_72 hfr_72 => ?_)
                        generalize hq1 : c_69 + 1 = c_72, hq2 : s_69 + 6 = s_72
                        have hc_72 : c_72 + (289) ≤ 308 ∧ s_72 + (1734) ≤ 1848 := by omega
                        clear hS_69 hfr_72 hOt_69
                        refine lv_ldc2 (v := (-9000000000000000001)) hx hb hown (hts _ ct_L_17) dL_errors_160 ?_
                        refine W.lcmp hx hb dL_errors_163 ?_
                        refine lv_if_ne (tgt := 531) hx hb dL_errors_164 (by decide) (fun h_73 => ?_) (fun h_73 => ?_)
                        · replace hyp := ite_f h_73 hyp
                          exact kJ_43 r_70.2 _ _ _ _ ls hyp (lv_sub hl [1, 2] rfl) hOt_72 hS_72 (by omega)
                        · replace hyp := ite_t h_73 hyp
                          refine lv_aload_n hx hb dL_errors_167 rfl (lv_at hl 1 rfl) ?_
                          refine lv_iconst (v := 2) hx hb dL_errors_168 (by decide) ?_
                          refine hc_piecesOf (rest := []) C hA hOt_72 hS_72 (2 : Int32) ml_L_146 (Nat.le_trans (Nat.le_of_ble_eq_true rfl) hRf) (Nat.le_trans (Nat.le_of_ble_eq_true rfl) hRl) hl.1 (Nat.le_of_ble_eq_true rfl) dL_errors_169 ⟨by omega, by omega⟩ (fun H_74 locs_74 hOt_74 hS_74 hfr_74 => ?_)
                          generalize hq1 : c_72 + 1 = c_74, hq2 : s_72 + 6 = s_74
                          have hc_74 : c_74 + (288) ≤ 308 ∧ s_74 + (1728) ≤ 1848 := by omega
                          clear hS_72 hfr_74 hOt_72
                          refine lv_ldc2 (v := (-9000000000000000001)) hx hb hown (hts _ ct_L_17) dL_errors_172 ?_
                          refine W.lcmp hx hb dL_errors_175 ?_
                          refine lv_if_ne (tgt := 531) hx hb dL_errors_176 (by decide) (fun h_75 => ?_) (fun h_75 => ?_)
                          · replace hyp := ite_f h_75 hyp
                            exact kJ_43 r_70.2 _ _ _ _ ls hyp (lv_sub hl [1, 2] rfl) hOt_74 hS_74 (by omega)
                          · replace hyp := ite_t h_75 hyp
                            refine lv_aload_n hx hb dL_errors_179 rfl (lv_at hl 1 rfl) ?_
                            refine lv_iconst (v := 0) hx hb dL_errors_180 (by decide) ?_
                            refine lv_bipush (v := 7) hx hb dL_errors_181 (by decide) ?_
                            refine lv_iconst (v := 0) hx hb dL_errors_183 (by decide) ?_
                            refine hc_hostile (rest := []) C hA hOt_74 hS_74 (0 : Int32) (7 : Int32) (0 : Int32) ml_L_148 (Nat.le_trans (Nat.le_of_ble_eq_true rfl) hRf) (Nat.le_trans (Nat.le_of_ble_eq_true rfl) hRl) hl.1 (Nat.le_of_ble_eq_true rfl) dL_errors_184 ⟨by omega, by omega⟩ (fun H_76 locs_76 hOt_76 hS_76 hfr_76 => ?_)
                            generalize hq1 : c_74 + 2 = c_76, hq2 : s_74 + 12 = s_76
                            have hc_76 : c_76 + (286) ≤ 308 ∧ s_76 + (1716) ≤ 1848 := by omega
                            clear hS_74 hfr_76 hOt_74
                            refine lv_ldc2 (v := (-9000000000000000001)) hx hb hown (hts _ ct_L_17) dL_errors_187 ?_
                            refine W.lcmp hx hb dL_errors_190 ?_
                            refine lv_if_ne (tgt := 531) hx hb dL_errors_191 (by decide) (fun h_77 => ?_) (fun h_77 => ?_)
                            · replace hyp := ite_f h_77 hyp
                              exact kJ_43 r_70.2 _ _ _ _ ls hyp (lv_sub hl [1, 2] rfl) hOt_76 hS_76 (by omega)
                            · replace hyp := ite_t h_77 hyp
                              refine lv_aload_n hx hb dL_errors_194 rfl (lv_at hl 1 rfl) ?_
                              refine lv_iconst (v := 0) hx hb dL_errors_195 (by decide) ?_
                              refine lv_iconst (v := 0) hx hb dL_errors_196 (by decide) ?_
                              refine lv_iconst (v := (-1)) hx hb dL_errors_197 (by decide) ?_
                              refine hc_hostile (rest := []) C hA hOt_76 hS_76 (0 : Int32) (0 : Int32) ((-1) : Int32) ml_L_148 (Nat.le_trans (Nat.le_of_ble_eq_true rfl) hRf) (Nat.le_trans (Nat.le_of_ble_eq_true rfl) hRl) hl.1 (Nat.le_of_ble_eq_true rfl) dL_errors_198 ⟨by omega, by omega⟩ (fun H_78 locs_78 hOt_78 hS_78 hfr_78 => ?_)
                              generalize hq1 : c_76 + 2 = c_78, hq2 : s_76 + 12 = s_78
                              have hc_78 : c_78 + (284) ≤ 308 ∧ s_78 + (1704) ≤ 1848 := by omega
                              clear hS_76 hfr_78 hOt_76
                              refine lv_ldc2 (v := (-9000000000000000001)) hx hb hown (hts _ ct_L_17) dL_errors_201 ?_
                              refine W.lcmp hx hb dL_errors_204 ?_
                              refine lv_if_ne (tgt := 531) hx hb dL_errors_205 (by decide) (fun h_79 => ?_) (fun h_79 => ?_)
                              · replace hyp := ite_f h_79 hyp
                                exact kJ_43 r_70.2 _ _ _ _ ls hyp (lv_sub hl [1, 2] rfl) hOt_78 hS_78 (by omega)
                              · replace hyp := ite_t h_79 hyp
                                refine lv_aload_n hx hb dL_errors_208 rfl (lv_at hl 1 rfl) ?_
                                refine lv_bipush (v := 49) hx hb dL_errors_209 (by decide) ?_
                                refine lv_iconst (v := 0) hx hb dL_errors_211 (by decide) ?_
                                refine hc_canMove (rest := []) C hA hOt_78 hS_78 (49 : Int32) (0 : Int32) ml_L_151 (Nat.le_trans (Nat.le_of_ble_eq_true rfl) hRf) (Nat.le_trans (Nat.le_of_ble_eq_true rfl) hRl) hl.1 (Nat.le_of_ble_eq_true rfl) dL_errors_212 ⟨by omega, by omega⟩ (fun H_80 locs_80 hOt_80 hS_80 hfr_80 => ?_)
                                generalize hq1 : c_78 + 1 = c_80, hq2 : s_78 + 6 = s_80
                                have hc_80 : c_80 + (283) ≤ 308 ∧ s_80 + (1698) ≤ 1848 := by omega
                                clear hS_78 hfr_80 hOt_78
                                refine lv_ldc2 (v := (-9000000000000000001)) hx hb hown (hts _ ct_L_17) dL_errors_215 ?_
                                refine W.lcmp hx hb dL_errors_218 ?_
                                refine lv_if_ne (tgt := 531) hx hb dL_errors_219 (by decide) (fun h_81 => ?_) (fun h_81 => ?_)
                                · replace hyp := ite_f h_81 hyp
                                  exact kJ_43 r_70.2 _ _ _ _ ls hyp (lv_sub hl [1, 2] rfl) hOt_80 hS_80 (by omega)
                                · replace hyp := ite_t h_81 hyp
                                  refine lv_aload_n hx hb dL_errors_222 rfl (lv_at hl 1 rfl) ?_
                                  refine lv_iconst (v := 0) hx hb dL_errors_223 (by decide) ?_
                                  refine lv_bipush (v := 49) hx hb dL_errors_224 (by decide) ?_
                                  refine hc_against (rest := []) C hA hOt_80 hS_80 (0 : Int32) (49 : Int32) ml_L_153 (Nat.le_trans (Nat.le_of_ble_eq_true rfl) hRf) (Nat.le_trans (Nat.le_of_ble_eq_true rfl) hRl) hl.1 (Nat.le_of_ble_eq_true rfl) dL_errors_226 ⟨by omega, by omega⟩ (fun H_82 locs_82 hOt_82 hS_82 hfr_82 => ?_)
                                  generalize hq1 : c_80 + 1 = c_82, hq2 : s_80 + 6 = s_82
                                  have hc_82 : c_82 + (282) ≤ 308 ∧ s_82 + (1692) ≤ 1848 := by omega
                                  clear hS_80 hfr_82 hOt_80
                                  refine lv_ldc2 (v := (-9000000000000000001)) hx hb hown (hts _ ct_L_17) dL_errors_229 ?_
                                  refine W.lcmp hx hb dL_errors_232 ?_
                                  refine lv_if_ne (tgt := 531) hx hb dL_errors_233 (by decide) (fun h_83 => ?_) (fun h_83 => ?_)
                                  · replace hyp := ite_f h_83 hyp
                                    exact kJ_43 r_70.2 _ _ _ _ ls hyp (lv_sub hl [1, 2] rfl) hOt_82 hS_82 (by omega)
                                  · replace hyp := ite_t h_83 hyp
                                    refine lv_aload_n hx hb dL_errors_236 rfl (lv_at hl 1 rfl) ?_
                                    refine lv_bipush (v := 7) hx hb dL_errors_237 (by decide) ?_
                                    refine lv_bipush (v := 7) hx hb dL_errors_239 (by decide) ?_
                                    refine hc_movesFrom (rest := []) C hA hOt_82 hS_82 (7 : Int32) (7 : Int32) ml_L_156 (Nat.le_trans (Nat.le_of_ble_eq_true rfl) hRf) (Nat.le_trans (Nat.le_of_ble_eq_true rfl) hRl) hl.1 (Nat.le_of_ble_eq_true rfl) dL_errors_241 ⟨by omega, by omega⟩ (fun H_84 locs_84 hOt_84 hS_84 hfr_84 => ?_)
                                    generalize hq1 : c_82 + 1 = c_84, hq2 : s_82 + 6 = s_84
                                    have hc_84 : c_84 + (281) ≤ 308 ∧ s_84 + (1686) ≤ 1848 := by omega
                                    clear hS_82 hfr_84 hOt_82
                                    refine lv_ldc2 (v := (-9000000000000000001)) hx hb hown (hts _ ct_L_17) dL_errors_244 ?_
                                    refine W.lcmp hx hb dL_errors_247 ?_
                                    refine lv_if_ne (tgt := 531) hx hb dL_errors_248 (by decide) (fun h_85 => ?_) (fun h_85 => ?_)
                                    · replace hyp := ite_f h_85 hyp
                                      exact kJ_43 r_70.2 _ _ _ _ ls hyp (lv_sub hl [1, 2] rfl) hOt_84 hS_84 (by omega)
                                    · replace hyp := ite_t h_85 hyp
                                      refine lv_aload_n hx hb dL_errors_251 rfl (lv_at hl 1 rfl) ?_
                                      refine lv_iconst (v := (-1)) hx hb dL_errors_252 (by decide) ?_
                                      refine hc_byPieces (rest := []) C hA hOt_84 hS_84 ((-1) : Int32) ml_L_158 (Nat.le_trans (Nat.le_of_ble_eq_true rfl) hRf) (Nat.le_trans (Nat.le_of_ble_eq_true rfl) hRl) hl.1 (Nat.le_of_ble_eq_true rfl) dL_errors_253 ⟨by omega, by omega⟩ (fun H_86 locs_86 hOt_86 hS_86 hfr_86 => ?_)
                                      generalize hq1 : c_84 + 1 = c_86, hq2 : s_84 + 6 = s_86
                                      have hc_86 : c_86 + (280) ≤ 308 ∧ s_86 + (1680) ≤ 1848 := by omega
                                      clear hS_84 hfr_86 hOt_84
                                      refine lv_ldc2 (v := (-9000000000000000001)) hx hb hown (hts _ ct_L_17) dL_errors_256 ?_
                                      refine W.lcmp hx hb dL_errors_259 ?_
                                      refine lv_if_ne (tgt := 531) hx hb dL_errors_260 (by decide) (fun h_87 => ?_) (fun h_87 => ?_)
                                      · replace hyp := ite_f h_87 hyp
                                        exact kJ_43 r_70.2 _ _ _ _ ls hyp (lv_sub hl [1, 2] rfl) hOt_86 hS_86 (by omega)
                                      · replace hyp := ite_t h_87 hyp
                                        refine lv_aload_n hx hb dL_errors_263 rfl (lv_at hl 1 rfl) ?_
                                        refine lv_iconst (v := 2) hx hb dL_errors_264 (by decide) ?_
                                        refine hc_bySquares (rest := []) C hA hOt_86 hS_86 (2 : Int32) ml_L_161 (Nat.le_trans (Nat.le_of_ble_eq_true rfl) hRf) (Nat.le_trans (Nat.le_of_ble_eq_true rfl) hRl) hl.1 (Nat.le_of_ble_eq_true rfl) dL_errors_265 ⟨by omega, by omega⟩ (fun H_88 locs_88 hOt_88 hS_88 hfr_88 => ?_)
                                        generalize hq1 : c_86 + 1 = c_88, hq2 : s_86 + 6 = s_88
                                        have hc_88 : c_88 + (279) ≤ 308 ∧ s_88 + (1674) ≤ 1848 := by omega
                                        clear hS_86 hfr_88 hOt_86
                                        refine lv_ldc2 (v := (-9000000000000000001)) hx hb hown (hts _ ct_L_17) dL_errors_268 ?_
                                        refine W.lcmp hx hb dL_errors_271 ?_
                                        refine lv_if_ne (tgt := 531) hx hb dL_errors_272 (by decide) (fun h_89 => ?_) (fun h_89 => ?_)
                                        · replace hyp := ite_f h_89 hyp
                                          exact kJ_43 r_70.2 _ _ _ _ ls hyp (lv_sub hl [1, 2] rfl) hOt_88 hS_88 (by omega)
                                        · replace hyp := ite_t h_89 hyp
                                          refine lv_aload_n hx hb dL_errors_275 rfl (lv_at hl 1 rfl) ?_
                                          refine lv_iconst (v := (-1)) hx hb dL_errors_276 (by decide) ?_
                                          refine lv_iconst (v := 0) hx hb dL_errors_277 (by decide) ?_
                                          refine hc_wouldTake (rest := []) C hA hOt_88 hS_88 ((-1) : Int32) (0 : Int32) ml_L_164 (Nat.le_trans (Nat.le_of_ble_eq_true rfl) hRf) (Nat.le_trans (Nat.le_of_ble_eq_true rfl) hRl) hl.1 (Nat.le_of_ble_eq_true rfl) dL_errors_278 ⟨by omega, by omega⟩ (fun H_90 locs_90 hOt_90 hS_90 hfr_90 => ?_)
                                          generalize hq1 : c_88 + 2 = c_90, hq2 : s_88 + 12 = s_90
                                          have hc_90 : c_90 + (277) ≤ 308 ∧ s_90 + (1662) ≤ 1848 := by omega
                                          clear hS_88 hfr_90 hOt_88
                                          refine lv_ldc2 (v := (-9000000000000000001)) hx hb hown (hts _ ct_L_17) dL_errors_281 ?_
                                          refine W.lcmp hx hb dL_errors_284 ?_
                                          refine lv_if_ne (tgt := 531) hx hb dL_errors_285 (by decide) (fun h_91 => ?_) (fun h_91 => ?_)
                                          · replace hyp := ite_f h_91 hyp
                                            exact kJ_43 r_70.2 _ _ _ _ ls hyp (lv_sub hl [1, 2] rfl) hOt_90 hS_90 (by omega)
                                          · replace hyp := ite_t h_91 hyp
                                            refine lv_aload_n hx hb dL_errors_288 rfl (lv_at hl 1 rfl) ?_
                                            refine lv_iconst (v := 3) hx hb dL_errors_289 (by decide) ?_
                                            refine lv_iconst (v := 3) hx hb dL_errors_290 (by decide) ?_
                                            refine hc_wouldTake (rest := []) C hA hOt_90 hS_90 (3 : Int32) (3 : Int32) ml_L_164 (Nat.le_trans (Nat.le_of_ble_eq_true rfl) hRf) (Nat.le_trans (Nat.le_of_ble_eq_true rfl) hRl) hl.1 (Nat.le_of_ble_eq_true rfl) dL_errors_291 ⟨by omega, by omega⟩ (fun H_92 locs_92 hOt_92 hS_92 hfr_92 => ?_)
                                            generalize hq1 : c_90 + 2 = c_92, hq2 : s_90 + 12 = s_92
                                            have hc_92 : c_92 + (275) ≤ 308 ∧ s_92 + (1650) ≤ 1848 := by omega
                                            clear hS_90 hfr_92 hOt_90
                                            refine lv_ldc2 (v := (-9000000000000000003)) hx hb hown (hts _ ct_L_25) dL_errors_294 ?_
                                            refine W.lcmp hx hb dL_errors_297 ?_
                                            refine lv_if_ne (tgt := 531) hx hb dL_errors_298 (by decide) (fun h_93 => ?_) (fun h_93 => ?_)
                                            · replace hyp := ite_f h_93 hyp
                                              exact kJ_43 r_70.2 _ _ _ _ ls hyp (lv_sub hl [1, 2] rfl) hOt_92 hS_92 (by omega)
                                            · replace hyp := ite_t h_93 hyp
                                              refine lv_aload_n hx hb dL_errors_301 rfl (lv_at hl 1 rfl) ?_
                                              refine lv_iconst (v := 5) hx hb dL_errors_302 (by decide) ?_
                                              refine lv_iconst (v := 5) hx hb dL_errors_303 (by decide) ?_
                                              refine hc_wouldWin (rest := []) C hA hOt_92 hS_92 (5 : Int32) (5 : Int32) ml_L_166 (Nat.le_trans (Nat.le_of_ble_eq_true rfl) hRf) (Nat.le_trans (Nat.le_of_ble_eq_true rfl) hRl) hl.1 (Nat.le_of_ble_eq_true rfl) dL_errors_304 ⟨by omega, by omega⟩ (fun H_94 locs_94 hOt_94 hS_94 hfr_94 => ?_)
                                              generalize hq1 : c_92 + 2 = c_94, hq2 : s_92 + 12 = s_94
                                              have hc_94 : c_94 + (273) ≤ 308 ∧ s_94 + (1638) ≤ 1848 := by omega
                                              clear hS_92 hfr_94 hOt_92
                                              refine lv_ldc2 (v := (-9000000000000000003)) hx hb hown (hts _ ct_L_25) dL_errors_307 ?_
                                              refine W.lcmp hx hb dL_errors_310 ?_
                                              refine lv_if_ne (tgt := 531) hx hb dL_errors_311 (by decide) (fun h_95 => ?_) (fun h_95 => ?_)
                                              · replace hyp := ite_f h_95 hyp
                                                exact kJ_43 r_70.2 _ _ _ _ ls hyp (lv_sub hl [1, 2] rfl) hOt_94 hS_94 (by omega)
                                              · replace hyp := ite_t h_95 hyp
                                                refine lv_aload_n hx hb dL_errors_314 rfl (lv_at hl 1 rfl) ?_
                                                refine lv_bipush (v := 24) hx hb dL_errors_315 (by decide) ?_
                                                refine lv_bipush (v := 24) hx hb dL_errors_317 (by decide) ?_
                                                refine hc_worthOf (rest := []) C hA hOt_94 hS_94 (24 : Int32) (24 : Int32) ml_L_168 (Nat.le_trans (Nat.le_of_ble_eq_true rfl) hRf) (Nat.le_trans (Nat.le_of_ble_eq_true rfl) hRl) hl.1 (Nat.le_of_ble_eq_true rfl) dL_errors_319 ⟨by omega, by omega⟩ (fun H_96 locs_96 hOt_96 hS_96 hfr_96 => ?_)
                                                generalize hq1 : c_94 + 2 = c_96, hq2 : s_94 + 12 = s_96
                                                have hc_96 : c_96 + (271) ≤ 308 ∧ s_96 + (1626) ≤ 1848 := by omega
                                                clear hS_94 hfr_96 hOt_94
                                                refine lv_ldc2 (v := (-9000000000000000003)) hx hb hown (hts _ ct_L_25) dL_errors_322 ?_
                                                refine W.lcmp hx hb dL_errors_325 ?_
                                                refine lv_if_ne (tgt := 531) hx hb dL_errors_326 (by decide) (fun h_97 => ?_) (fun h_97 => ?_)
                                                · replace hyp := ite_f h_97 hyp
                                                  exact kJ_43 r_70.2 _ _ _ _ ls hyp (lv_sub hl [1, 2] rfl) hOt_96 hS_96 (by omega)
                                                · replace hyp := ite_t h_97 hyp
                                                  refine lv_aload_n hx hb dL_errors_329 rfl (lv_at hl 1 rfl) ?_
                                                  refine lv_iconst (v := 2) hx hb dL_errors_330 (by decide) ?_
                                                  refine hc_winning (rest := []) C hA hOt_96 hS_96 (2 : Int32) ml_L_170 (Nat.le_trans (Nat.le_of_ble_eq_true rfl) hRf) (Nat.le_trans (Nat.le_of_ble_eq_true rfl) hRl) hl.1 (Nat.le_of_ble_eq_true rfl) dL_errors_331 ⟨by omega, by omega⟩ (fun H_98 locs_98 hOt_98 hS_98 hfr_98 => ?_)
                                                  generalize hq1 : c_96 + 1 = c_98, hq2 : s_96 + 6 = s_98
                                                  have hc_98 : c_98 + (270) ≤ 308 ∧ s_98 + (1620) ≤ 1848 := by omega
                                                  clear hS_96 hfr_98 hOt_96
                                                  refine lv_ldc2 (v := (-9000000000000000001)) hx hb hown (hts _ ct_L_17) dL_errors_334 ?_
                                                  refine W.lcmp hx hb dL_errors_337 ?_
                                                  refine lv_if_ne (tgt := 531) hx hb dL_errors_338 (by decide) (fun h_99 => ?_) (fun h_99 => ?_)
                                                  · replace hyp := ite_f h_99 hyp
                                                    exact kJ_43 r_70.2 _ _ _ _ ls hyp (lv_sub hl [1, 2] rfl) hOt_98 hS_98 (by omega)
                                                  · replace hyp := ite_t h_99 hyp
                                                    refine lv_aload_n hx hb dL_errors_341 rfl (lv_at hl 1 rfl) ?_
                                                    refine lv_iconst (v := 0) hx hb dL_errors_342 (by decide) ?_
                                                    refine lv_aload_n hx hb dL_errors_343 rfl (lv_at hl 1 rfl) ?_
                                                    refine lv_iconst (v := 0) hx hb dL_errors_344 (by decide) ?_
                                                    refine hc_byPieces (rest := [.int 0, .ref (aa 0)]) C hA hOt_98 hS_98 (0 : Int32) ml_L_158 (Nat.le_trans (Nat.le_of_ble_eq_true rfl) hRf) (Nat.le_trans (Nat.le_of_ble_eq_true rfl) hRl) hl.1 (Nat.le_of_ble_eq_true rfl) dL_errors_345 ⟨by omega, by omega⟩ (fun H_100 locs_100 hOt_100 hS_100 hfr_100 => ?_)
                                                    generalize hq1 : c_98 + 1 = c_100, hq2 : s_98 + 6 = s_100
                                                    have hc_100 : c_100 + (269) ≤ 308 ∧ s_100 + (1614) ≤ 1848 := by omega
                                                    clear hS_98 hfr_100 hOt_98
                                                    refine lv_l2i hx hb dL_errors_348 rfl ?_
                                                    refine hc_moveAt (rest := []) C hA hOt_100 hS_100 (0 : Int32) ((v_byPieces (aF r_70.2.1) 0).toInt32) ml_L_173 (Nat.le_trans (Nat.le_of_ble_eq_true rfl) hRf) (Nat.le_trans (Nat.le_of_ble_eq_true rfl) hRl) hl.1 (Nat.le_of_ble_eq_true rfl) dL_errors_349 ⟨by omega, by omega⟩ (fun H_101 locs_101 hOt_101 hS_101 hfr_101 => ?_)
                                                    generalize hq1 : c_100 + 2 = c_101, hq2 : s_100 + 12 = s_101
                                                    have hc_101 : c_101 + (267) ≤ 308 ∧ s_101 + (1602) ≤ 1848 := by omega
                                                    clear hS_100 hfr_101 hOt_100
                                                    refine lv_ldc2 (v := (-9000000000000000001)) hx hb hown (hts _ ct_L_17) dL_errors_352 ?_
                                                    refine W.lcmp hx hb dL_errors_355 ?_
                                                    refine lv_if_ne (tgt := 531) hx hb dL_errors_356 (by decide) (fun h_102 => ?_) (fun h_102 => ?_)
                                                    · replace hyp := ite_f h_102 hyp
                                                      exact kJ_43 r_70.2 _ _ _ _ ls hyp (lv_sub hl [1, 2] rfl) hOt_101 hS_101 (by omega)
                                                    · replace hyp := ite_t h_102 hyp
                                                      refine lv_aload_n hx hb dL_errors_359 rfl (lv_at hl 1 rfl) ?_
                                                      refine lv_iconst (v := 2) hx hb dL_errors_360 (by decide) ?_
                                                      refine lv_iconst (v := 0) hx hb dL_errors_361 (by decide) ?_
                                                      refine hc_moveAt (rest := []) C hA hOt_101 hS_101 (2 : Int32) (0 : Int32) ml_L_173 (Nat.le_trans (Nat.le_of_ble_eq_true rfl) hRf) (Nat.le_trans (Nat.le_of_ble_eq_true rfl) hRl) hl.1 (Nat.le_of_ble_eq_true rfl) dL_errors_362 ⟨by omega, by omega⟩ (fun H_103 locs_103 hOt_103 hS_103 hfr_103 => ?_)
                                                      generalize hq1 : c_101 + 2 = c_103, hq2 : s_101 + 12 = s_103
                                                      have hc_103 : c_103 + (265) ≤ 308 ∧ s_103 + (1590) ≤ 1848 := by omega
                                                      clear hS_101 hfr_103 hOt_101
                                                      refine lv_ldc2 (v := (-9000000000000000001)) hx hb hown (hts _ ct_L_17) dL_errors_365 ?_
                                                      refine W.lcmp hx hb dL_errors_368 ?_
                                                      refine lv_if_ne (tgt := 531) hx hb dL_errors_369 (by decide) (fun h_104 => ?_) (fun h_104 => ?_)
                                                      · replace hyp := ite_f h_104 hyp
                                                        exact kJ_43 r_70.2 _ _ _ _ ls hyp (lv_sub hl [1, 2] rfl) hOt_103 hS_103 (by omega)
                                                      · replace hyp := ite_t h_104 hyp
                                                        refine lv_aload_n hx hb dL_errors_372 rfl (lv_at hl 1 rfl) ?_
                                                        refine lv_iconst (v := (-1)) hx hb dL_errors_373 (by decide) ?_
                                                        refine hc_bestMove (rest := []) C hA hOt_103 hS_103 ((-1) : Int32) ml_L_175 (Nat.le_trans (Nat.le_of_ble_eq_true rfl) hRf) (Nat.le_trans (Nat.le_of_ble_eq_true rfl) hRl) hl.1 (Nat.le_of_ble_eq_true rfl) dL_errors_374 ⟨by omega, by omega⟩ (fun H_105 locs_105 hOt_105 hS_105 hfr_105 => ?_)
                                                        generalize hq1 : c_103 + 2 = c_105, hq2 : s_103 + 12 = s_105
                                                        have hc_105 : c_105 + (263) ≤ 308 ∧ s_105 + (1578) ≤ 1848 := by omega
                                                        clear hS_103 hfr_105 hOt_103
                                                        refine lv_ldc2 (v := (-9000000000000000001)) hx hb hown (hts _ ct_L_17) dL_errors_377 ?_
                                                        refine W.lcmp hx hb dL_errors_380 ?_
                                                        refine lv_if_ne (tgt := 531) hx hb dL_errors_381 (by decide) (fun h_106 => ?_) (fun h_106 => ?_)
                                                        · replace hyp := ite_f h_106 hyp
                                                          exact kJ_43 r_70.2 _ _ _ _ ls hyp (lv_sub hl [1, 2] rfl) hOt_105 hS_105 (by omega)
                                                        · replace hyp := ite_t h_106 hyp
                                                          refine lv_aload_n hx hb dL_errors_384 rfl (lv_at hl 1 rfl) ?_
                                                          refine lv_iconst (v := 2) hx hb dL_errors_385 (by decide) ?_
                                                          refine hc_wins (rest := []) C hA hOt_105 hS_105 (2 : Int32) ml_L_177 (Nat.le_trans (Nat.le_of_ble_eq_true rfl) hRf) (Nat.le_trans (Nat.le_of_ble_eq_true rfl) hRl) hl.1 (Nat.le_of_ble_eq_true rfl) dL_errors_386 ⟨by omega, by omega⟩ (fun H_107 locs_107 hOt_107 hS_107 hfr_107 => ?_)
                                                          generalize hq1 : c_105 + 1 = c_107, hq2 : s_105 + 6 = s_107
                                                          have hc_107 : c_107 + (262) ≤ 308 ∧ s_107 + (1572) ≤ 1848 := by omega
                                                          clear hS_105 hfr_107 hOt_105
                                                          refine lv_ldc2 (v := (-9000000000000000001)) hx hb hown (hts _ ct_L_17) dL_errors_389 ?_
                                                          refine W.lcmp hx hb dL_errors_392 ?_
                                                          refine lv_if_ne (tgt := 531) hx hb dL_errors_393 (by decide) (fun h_108 => ?_) (fun h_108 => ?_)
                                                          · replace hyp := ite_f h_108 hyp
                                                            exact kJ_43 r_70.2 _ _ _ _ ls hyp (lv_sub hl [1, 2] rfl) hOt_107 hS_107 (by omega)
                                                          · replace hyp := ite_t h_108 hyp
                                                            refine lv_aload_n hx hb dL_errors_396 rfl (lv_at hl 1 rfl) ?_
                                                            refine lv_iconst (v := (-1)) hx hb dL_errors_397 (by decide) ?_
                                                            refine hc_takenOf (rest := []) C hA hOt_107 hS_107 ((-1) : Int32) ml_L_179 (Nat.le_trans (Nat.le_of_ble_eq_true rfl) hRf) (Nat.le_trans (Nat.le_of_ble_eq_true rfl) hRl) hl.1 (Nat.le_of_ble_eq_true rfl) dL_errors_398 ⟨by omega, by omega⟩ (fun H_109 locs_109 hOt_109 hS_109 hfr_109 => ?_)
                                                            generalize hq1 : c_107 + 1 = c_109, hq2 : s_107 + 6 = s_109
                                                            have hc_109 : c_109 + (261) ≤ 308 ∧ s_109 + (1566) ≤ 1848 := by omega
                                                            clear hS_107 hfr_109 hOt_107
                                                            refine lv_ldc2 (v := (-9000000000000000001)) hx hb hown (hts _ ct_L_17) dL_errors_401 ?_
                                                            refine W.lcmp hx hb dL_errors_404 ?_
                                                            refine lv_if_ne (tgt := 531) hx hb dL_errors_405 (by decide) (fun h_110 => ?_) (fun h_110 => ?_)
                                                            · replace hyp := ite_f h_110 hyp
                                                              exact kJ_43 r_70.2 _ _ _ _ ls hyp (lv_sub hl [1, 2] rfl) hOt_109 hS_109 (by omega)
                                                            · replace hyp := ite_t h_110 hyp
                                                              refine lv_iload_n hx hb dL_errors_408 rfl (lv_at hl 0 rfl) ?_
                                                              obtain ⟨J_113, eJ_113, hyp⟩ := jn_e hyp
                                                              have kJ_113 : ∀ (zt_112 : PS) (H_111 : Heap) (locs_111 : List Loc) (c_111 s_111 : Nat) (ls : Array Slot), J_113 zt_112 = some r → lv_has ls 6 [(0, .ref (aa 0)), (1, .long (v_digest st))] → OB g aa F zt_112 s H_111 → va_S A s.heap H_111 locs_111 → (c_111 + (258) ≤ 308 ∧ s_111 + (1548) ≤ 1848) → W p l e R s m args below meth c H_111 locs_111 c_111 s_111 Q (F0 m 436 ls []) := by
                                                                intro zt_112 H_111 locs_111 c_111 s_111 ls hyp hl hOt_111 hS_111 hc_111
                                                                replace hyp := (congrFun (eJ_113) zt_112).symm.trans hyp
                                                                refine lv_aload_n hx hb dL_errors_436 rfl (lv_at hl 0 rfl) ?_
                                                                refine hc_standing (rest := []) C hA hOt_111 hS_111 ml_L_124 (Nat.le_trans (Nat.le_of_ble_eq_true rfl) hRf) (Nat.le_trans (Nat.le_of_ble_eq_true rfl) hRl) hl.1 (Nat.le_of_ble_eq_true rfl) dL_errors_437 ⟨by omega, by omega⟩ (fun H_114 locs_114 hOt_114 hS_114 hfr_114 => ?_)
                                                                generalize hq1 : c_111 + 0 = c_114, hq2 : s_111 + 0 = s_114
                                                                have hc_114 : c_114 + (258) ≤ 308 ∧ s_114 + (1548) ≤ 1848 := by omega
                                                                clear hS_111 hfr_114 hOt_111
                                                                obtain ⟨J_117, eJ_117, hyp⟩ := jn_e hyp
                                                                have kJ_117 : ∀ (zt_116 : PS) (H_115 : Heap) (locs_115 : List Loc) (c_115 s_115 : Nat) (ls : Array Slot), J_117 zt_116 = some r → lv_has ls 6 [(0, .ref (aa 0)), (1, .long (v_digest st))] → OB g aa F zt_116 s H_115 → va_S A s.heap H_115 locs_115 → (c_115 + (254) ≤ 308 ∧ s_115 + (1524) ≤ 1848) → W p l e R s m args below meth c H_115 locs_115 c_115 s_115 Q (F0 m 483 ls []) := by
                                                                  intro zt_116 H_115 locs_115 c_115 s_115 ls hyp hl hOt_115 hS_115 hc_115
                                                                  replace hyp := (congrFun (eJ_117) zt_116).symm.trans hyp
                                                                  refine lv_aload_n hx hb dL_errors_483 rfl (lv_at hl 0 rfl) ?_
                                                                  refine hc_kingAt (rest := []) C hA hOt_115 hS_115 ml_L_186 (Nat.le_trans (Nat.le_of_ble_eq_true rfl) hRf) (Nat.le_trans (Nat.le_of_ble_eq_true rfl) hRl) hl.1 (Nat.le_of_ble_eq_true rfl) dL_errors_484 ⟨by omega, by omega⟩ (fun H_118 locs_118 hOt_118 hS_118 hfr_118 => ?_)
                                                                  generalize hq1 : c_115 + 1 = c_118, hq2 : s_115 + 6 = s_118
                                                                  have hc_118 : c_118 + (253) ≤ 308 ∧ s_118 + (1518) ≤ 1848 := by omega
                                                                  clear hS_115 hfr_118 hOt_115
                                                                  refine lv_ldc2 (v := (-9000000000000000003)) hx hb hown (hts _ ct_L_25) dL_errors_487 ?_
                                                                  refine W.lcmp hx hb dL_errors_490 ?_
                                                                  obtain ⟨J_120, eJ_120, hyp⟩ := jn_e hyp
                                                                  have kJ_120 : ∀ (H_119 : Heap) (locs_119 : List Loc) (c_119 s_119 : Nat) (ls : Array Slot), J_120 = some r → lv_has ls 6 [(0, .ref (aa 0)), (1, .long (v_digest st))] → OB g aa F zt_116 s H_119 → va_S A s.heap H_119 locs_119 → (c_119 + (250) ≤ 308 ∧ s_119 + (1500) ≤ 1848) → W p l e R s m args below meth c H_119 locs_119 c_119 s_119 Q (F0 m 527 ls []) := by
                                                                    intro H_119 locs_119 c_119 s_119 ls hyp hl hOt_119 hS_119 hc_119
                                                                    replace hyp := (eJ_120).symm.trans hyp
                                                                    refine lv_iconst (v := 1) hx hb dL_errors_527 (by decide) ?_
                                                                    refine lv_goto (tgt := 532) hx hb dL_errors_528 (by decide) ?_
                                                                    exact kJ_11 1 zt_116 _ _ _ _ ls hyp hl hOt_119 hS_119 (by omega)
                                                                  refine lv_if_ne (tgt := 527) hx hb dL_errors_491 (by decide) (fun h_121 => ?_) (fun h_121 => ?_)
                                                                  · replace hyp := ite_f h_121 hyp
                                                                    exact kJ_120 _ _ _ _ ls hyp hl hOt_118 hS_118 (by omega)
                                                                  · replace hyp := ite_t h_121 hyp
                                                                    refine lv_aload_n hx hb dL_errors_494 rfl (lv_at hl 0 rfl) ?_
                                                                    refine hc_pressure (rest := []) C hA hOt_118 hS_118 ml_L_188 (Nat.le_trans (Nat.le_of_ble_eq_true rfl) hRf) (Nat.le_trans (Nat.le_of_ble_eq_true rfl) hRl) hl.1 (Nat.le_of_ble_eq_true rfl) dL_errors_495 ⟨by omega, by omega⟩ (fun H_122 locs_122 hOt_122 hS_122 hfr_122 => ?_)
                                                                    generalize hq1 : c_118 + 1 = c_122, hq2 : s_118 + 6 = s_122
                                                                    have hc_122 : c_122 + (252) ≤ 308 ∧ s_122 + (1512) ≤ 1848 := by omega
                                                                    clear hS_118 hfr_122 hOt_118
                                                                    refine lv_ldc2 (v := (-9000000000000000003)) hx hb hown (hts _ ct_L_25) dL_errors_498 ?_
                                                                    refine W.lcmp hx hb dL_errors_501 ?_
                                                                    refine lv_if_ne (tgt := 531) hx hb dL_errors_502 (by decide) (fun h_123 => ?_) (fun h_123 => ?_)
                                                                    · replace hyp := ite_f h_123 hyp
                                                                      exact kJ_43 zt_116 _ _ _ _ ls hyp hl hOt_122 hS_122 (by omega)
                                                                    · replace hyp := ite_t h_123 hyp
                                                                      refine lv_aload_n hx hb dL_errors_505 rfl (lv_at hl 0 rfl) ?_
                                                                      refine hc_byRounds (rest := []) C hA hOt_122 hS_122 ml_L_191 (Nat.le_trans (Nat.le_of_ble_eq_true rfl) hRf) (Nat.le_trans (Nat.le_of_ble_eq_true rfl) hRl) hl.1 (Nat.le_of_ble_eq_true rfl) dL_errors_506 ⟨by omega, by omega⟩ (fun H_124 locs_124 hOt_124 hS_124 hfr_124 => ?_)
                                                                      generalize hq1 : c_122 + 1 = c_124, hq2 : s_122 + 6 = s_124
                                                                      have hc_124 : c_124 + (251) ≤ 308 ∧ s_124 + (1506) ≤ 1848 := by omega
                                                                      clear hS_122 hfr_124 hOt_122
                                                                      refine lv_ldc2 (v := (-9000000000000000003)) hx hb hown (hts _ ct_L_25) dL_errors_509 ?_
                                                                      refine W.lcmp hx hb dL_errors_512 ?_
                                                                      refine lv_if_ne (tgt := 531) hx hb dL_errors_513 (by decide) (fun h_125 => ?_) (fun h_125 => ?_)
                                                                      · replace hyp := ite_f h_125 hyp
                                                                        exact kJ_43 zt_116 _ _ _ _ ls hyp hl hOt_124 hS_124 (by omega)
                                                                      · replace hyp := ite_t h_125 hyp
                                                                        refine lv_aload_n hx hb dL_errors_516 rfl (lv_at hl 0 rfl) ?_
                                                                        refine hc_byCorners (rest := []) C hA hOt_124 hS_124 ml_L_194 (Nat.le_trans (Nat.le_of_ble_eq_true rfl) hRf) (Nat.le_trans (Nat.le_of_ble_eq_true rfl) hRl) hl.1 (Nat.le_of_ble_eq_true rfl) dL_errors_517 ⟨by omega, by omega⟩ (fun H_126 locs_126 hOt_126 hS_126 hfr_126 => ?_)
                                                                        generalize hq1 : c_124 + 1 = c_126, hq2 : s_124 + 6 = s_126
                                                                        have hc_126 : c_126 + (250) ≤ 308 ∧ s_126 + (1500) ≤ 1848 := by omega
                                                                        clear hS_124 hfr_126 hOt_124
                                                                        refine lv_ldc2 (v := (-9000000000000000003)) hx hb hown (hts _ ct_L_25) dL_errors_520 ?_
                                                                        refine W.lcmp hx hb dL_errors_523 ?_
                                                                        refine lv_if_ne (tgt := 531) hx hb dL_errors_524 (by decide) (fun h_127 => ?_) (fun h_127 => ?_)
                                                                        · replace hyp := ite_f h_127 hyp
                                                                          exact kJ_43 zt_116 _ _ _ _ ls hyp hl hOt_126 hS_126 (by omega)
                                                                        · replace hyp := ite_t h_127 hyp
                                                                          exact kJ_120 _ _ _ _ ls hyp hl hOt_126 hS_126 (by omega)
                                                                refine lv_if_ne (tgt := 457) hx hb dL_errors_440 (by decide) (fun h_128 => ?_) (fun h_128 => ?_)
                                                                · replace hyp := ite_f h_128 hyp
                                                                  refine lv_aload_n hx hb dL_errors_457 rfl (lv_at hl 0 rfl) ?_
                                                                  refine lv_iconst (v := 3) hx hb dL_errors_458 (by decide) ?_
                                                                  refine lv_iconst (v := 1) hx hb dL_errors_459 (by decide) ?_
                                                                  refine lv_iconst (v := 1) hx hb dL_errors_460 (by decide) ?_
                                                                  obtain ⟨r_130, hr_130, hyp⟩ := bnd_e hyp
                                                                  refine hc_put (rest := []) C hA hOt_114 hS_114 (3 : Int32) (1 : Int32) (1 : Int32) ml_L_127 (Nat.le_trans (Nat.le_of_ble_eq_true rfl) hRf) (Nat.le_trans (Nat.le_of_ble_eq_true rfl) hRl) hl.1 (Nat.le_of_ble_eq_true rfl) dL_errors_461 ⟨by omega, by omega⟩ (fun H_129 locs_129 hOt_129 hS_129 hfr_129 => ?_)
                                                                  generalize hq1 : c_114 + 2 = c_129, hq2 : s_114 + 12 = s_129
                                                                  rw [← hr_130] at hOt_129 ⊢
                                                                  have hc_129 : c_129 + (256) ≤ 308 ∧ s_129 + (1536) ≤ 1848 := by omega
                                                                  clear hS_114 hfr_129 hOt_114
                                                                  refine lv_ldc2 (v := (-9000000000000000003)) hx hb hown (hts _ ct_L_25) dL_errors_464 ?_
                                                                  refine W.lcmp hx hb dL_errors_467 ?_
                                                                  refine lv_if_ne (tgt := 531) hx hb dL_errors_468 (by decide) (fun h_131 => ?_) (fun h_131 => ?_)
                                                                  · replace hyp := ite_f h_131 hyp
                                                                    exact kJ_43 r_130.2 _ _ _ _ ls hyp hl hOt_129 hS_129 (by omega)
                                                                  · replace hyp := ite_t h_131 hyp
                                                                    refine lv_aload_n hx hb dL_errors_471 rfl (lv_at hl 0 rfl) ?_
                                                                    refine lv_iconst (v := 0) hx hb dL_errors_472 (by decide) ?_
                                                                    obtain ⟨r_133, hr_133, hyp⟩ := bnd_e hyp
                                                                    refine hc_start (rest := []) C hA hOt_129 hS_129 (0 : Int32) ml_L_132 (Nat.le_trans (Nat.le_of_ble_eq_true rfl) hRf) (Nat.le_trans (Nat.le_of_ble_eq_true rfl) hRl) hl.1 (Nat.le_of_ble_eq_true rfl) dL_errors_473 ⟨by omega, by omega⟩ (fun H_132 locs_132 hOt_132 hS_132 hfr_132 => ?_)
                                                                    generalize hq1 : c_129 + 2 = c_132, hq2 : s_129 + 12 = s_132
                                                                    rw [← hr_133] at hOt_132 ⊢
                                                                    have hc_132 : c_132 + (254) ≤ 308 ∧ s_132 + (1524) ≤ 1848 := by omega
                                                                    clear hS_129 hfr_132 hOt_129
                                                                    refine lv_ldc2 (v := (-9000000000000000003)) hx hb hown (hts _ ct_L_25) dL_errors_476 ?_
                                                                    refine W.lcmp hx hb dL_errors_479 ?_
                                                                    refine lv_if_ne (tgt := 531) hx hb dL_errors_480 (by decide) (fun h_134 => ?_) (fun h_134 => ?_)
                                                                    · replace hyp := ite_f h_134 hyp
                                                                      exact kJ_43 r_133.2 _ _ _ _ ls hyp hl hOt_132 hS_132 (by omega)
                                                                    · replace hyp := ite_t h_134 hyp
                                                                      exact kJ_117 r_133.2 _ _ _ _ ls hyp hl hOt_132 hS_132 (by omega)
                                                                · replace hyp := ite_t h_128 hyp
                                                                  refine lv_aload_n hx hb dL_errors_443 rfl (lv_at hl 0 rfl) ?_
                                                                  refine hc_timesSeen (rest := []) C hA hOt_114 hS_114 ml_L_184 (Nat.le_trans (Nat.le_of_ble_eq_true rfl) hRf) (Nat.le_trans (Nat.le_of_ble_eq_true rfl) hRl) hl.1 (Nat.le_of_ble_eq_true rfl) dL_errors_444 ⟨by omega, by omega⟩ (fun H_135 locs_135 hOt_135 hS_135 hfr_135 => ?_)
                                                                  generalize hq1 : c_114 + 1 = c_135, hq2 : s_114 + 6 = s_135
                                                                  have hc_135 : c_135 + (254) ≤ 308 ∧ s_135 + (1524) ≤ 1848 := by omega
                                                                  clear hS_114 hfr_135 hOt_114
                                                                  refine lv_ldc2 (v := (-9000000000000000003)) hx hb hown (hts _ ct_L_25) dL_errors_447 ?_
                                                                  refine W.lcmp hx hb dL_errors_450 ?_
                                                                  refine lv_if_ne (tgt := 531) hx hb dL_errors_451 (by decide) (fun h_136 => ?_) (fun h_136 => ?_)
                                                                  · replace hyp := ite_f h_136 hyp
                                                                    exact kJ_43 zt_112 _ _ _ _ ls hyp hl hOt_135 hS_135 (by omega)
                                                                  · replace hyp := ite_t h_136 hyp
                                                                    refine lv_goto (tgt := 483) hx hb dL_errors_454 (by decide) ?_
                                                                    exact kJ_117 zt_112 _ _ _ _ ls hyp hl hOt_135 hS_135 (by omega)
                                                              refine lv_if_ne (tgt := 436) hx hb dL_errors_409 (by decide) (fun h_137 => ?_) (fun h_137 => ?_)
                                                              · replace hyp := ite_f h_137 hyp
                                                                exact kJ_113 r_70.2 _ _ _ _ ls hyp (lv_sub hl [1, 2] rfl) hOt_109 hS_109 (by omega)
                                                              · replace hyp := ite_t h_137 hyp
                                                                refine lv_aload_n hx hb dL_errors_412 rfl (lv_at hl 1 rfl) ?_
                                                                refine hc_turn (rest := []) C hA hOt_109 hS_109 ml_L_181 (Nat.le_trans (Nat.le_of_ble_eq_true rfl) hRf) (Nat.le_trans (Nat.le_of_ble_eq_true rfl) hRl) hl.1 (Nat.le_of_ble_eq_true rfl) dL_errors_413 ⟨by omega, by omega⟩ (fun H_138 locs_138 hOt_138 hS_138 hfr_138 => ?_)
                                                                generalize hq1 : c_109 + 1 = c_138, hq2 : s_109 + 6 = s_138
                                                                have hc_138 : c_138 + (260) ≤ 308 ∧ s_138 + (1560) ≤ 1848 := by omega
                                                                clear hS_109 hfr_138 hOt_109
                                                                refine lv_ldc2 (v := (-9000000000000000003)) hx hb hown (hts _ ct_L_25) dL_errors_416 ?_
                                                                refine W.lcmp hx hb dL_errors_419 ?_
                                                                refine lv_if_ne (tgt := 531) hx hb dL_errors_420 (by decide) (fun h_139 => ?_) (fun h_139 => ?_)
                                                                · replace hyp := ite_f h_139 hyp
                                                                  exact kJ_43 r_70.2 _ _ _ _ ls hyp (lv_sub hl [1, 2] rfl) hOt_138 hS_138 (by omega)
                                                                · replace hyp := ite_t h_139 hyp
                                                                  refine lv_aload_n hx hb dL_errors_423 rfl (lv_at hl 1 rfl) ?_
                                                                  refine lv_iconst (v := 3) hx hb dL_errors_424 (by decide) ?_
                                                                  refine lv_iconst (v := 4) hx hb dL_errors_425 (by decide) ?_
                                                                  obtain ⟨r_141, hr_141, hyp⟩ := opt_e hyp
                                                                  refine hc_move (rest := []) C hA hOt_138 hS_138 (3 : Int32) (4 : Int32) hr_141 ml_L_135 (Nat.le_trans (Nat.le_of_ble_eq_true rfl) hRf) (Nat.le_trans (Nat.le_of_ble_eq_true rfl) hRl) hl.1 (Nat.le_of_ble_eq_true rfl) dL_errors_426 ⟨by omega, by omega⟩ (fun H_140 locs_140 hOt_140 hS_140 hfr_140 => ?_)
                                                                  generalize hq1 : c_138 + 2 = c_140, hq2 : s_138 + 12 = s_140
                                                                  have hc_140 : c_140 + (258) ≤ 308 ∧ s_140 + (1548) ≤ 1848 := by omega
                                                                  clear hS_138 hfr_140 hOt_138
                                                                  refine lv_ldc2 (v := (-9000000000000000003)) hx hb hown (hts _ ct_L_25) dL_errors_429 ?_
                                                                  refine W.lcmp hx hb dL_errors_432 ?_
                                                                  refine lv_if_ne (tgt := 531) hx hb dL_errors_433 (by decide) (fun h_142 => ?_) (fun h_142 => ?_)
                                                                  · replace hyp := ite_f h_142 hyp
                                                                    exact kJ_43 r_141.2 _ _ _ _ ls hyp (lv_sub hl [1, 2] rfl) hOt_140 hS_140 (by omega)
                                                                  · replace hyp := ite_t h_142 hyp
                                                                    exact kJ_113 r_141.2 _ _ _ _ ls hyp (lv_sub hl [1, 2] rfl) hOt_140 hS_140 (by omega)
  refine lv_icmp_ne (tgt := 17) hx hb dL_errors_10 (by decide) (fun h_143 => ?_) (fun h_143 => ?_)
  · replace hyp := ite_f h_143 hyp
    refine lv_iconst (v := 0) hx hb dL_errors_17 (by decide) ?_
    exact kJ_5 0 _ _ _ _ ls hyp (lv_sub hl [1, 0] rfl) hOt_2 hS_2 (by omega)
  · replace hyp := ite_t h_143 hyp
    refine lv_iconst (v := 1) hx hb dL_errors_13 (by decide) ?_
    refine lv_goto (tgt := 18) hx hb dL_errors_14 (by decide) ?_
    exact kJ_5 1 _ _ _ _ ls hyp (lv_sub hl [1, 0] rfl) hOt_2 hS_2 (by omega)

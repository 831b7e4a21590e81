noncomputable def fL_alike (sp sq : PS) : Option Int32 :=
  if (lg_cmp (v_digest sp) (v_digest sq)) = 0 then (if (v_firstError sp) = (v_firstError sq) then (some 1) else (some 0)) else (some 0)
set_option maxRecDepth 100000 in
set_option maxHeartbeats 8000000 in
theorem mL_alike (l : Launch) (hl0 : l.stackTraces = false) (g : GE) (zc zp : Nat) (ap aq : Nat → Nat) (sp sq : PS) (r : Int32) (hyp : fL_alike sp sq = some r) : MH2 l yL_alike cL_alike 2 (some .boolean) 8 193 0 0 g zc zp ap aq [.ref (ap 0), .ref (aq 0)] sp sq (.int r) := by
  refine metH2_intro hl0 rfl (by decide) rfl ?_
  intro p e R s m args below meth c Q A F hRf hRl hRc hRs hQ hr hlocks C hAp hAq hdis hOp_0 hOq_0 ls hl
  obtain ⟨hx, hb, hml, hown, hts, hl0, hE, hSR, hNC, hOS, hOT, hAh⟩ := id C
  obtain ⟨c_0, hc0⟩ : ∃ q : Nat, q = 0 := ⟨_, rfl⟩
  obtain ⟨s_0, hs0⟩ : ∃ q : Nat, q = 0 := ⟨_, rfl⟩
  have hS_0 : va_S A s.heap s.heap [] := va_S.rf
  obtain ⟨H_0, hH0⟩ : ∃ q : Heap, q = s.heap := ⟨_, rfl⟩
  obtain ⟨locs_0, hL0⟩ : ∃ q : List Loc, q = [] := ⟨_, rfl⟩
  have hOp_0 : OB g ap F sp s H_0 := by rw [hH0]; exact hOp_0
  have hOq_0 : OB g aq F sq s H_0 := by rw [hH0]; exact hOq_0
  have hS_0 : va_S A s.heap H_0 locs_0 := by rw [hH0, hL0]; exact hS_0
  suffices hk : W p l e R s m args below meth c H_0 locs_0 c_0 s_0 Q (F0 m 0 ls []) by rw [hH0, hL0, hc0, hs0] at hk; exact hk
  have hc_0 : c_0 + (0) ≤ 0 ∧ s_0 + (0) ≤ 0 := by omega
  have hl : lv_has ls 2 [(0, .ref (ap 0)), (1, .ref (aq 0))] := hl
  unfold fL_alike at hyp
  refine lv_aload_n hx hb dL_alike_0 rfl (lv_at hl 0 rfl) ?_
  refine hc_digest (rest := []) C hAp hOp_0 hS_0 ml_L_120 (Nat.le_trans (Nat.le_of_ble_eq_true rfl) hRf) (Nat.le_trans (Nat.le_of_ble_eq_true rfl) hRl) hl.1 (Nat.le_of_ble_eq_true rfl) dL_alike_1 ⟨by omega, by omega⟩ (fun H_1 locs_1 hOp_1 hS_1 hfr_1 => ?_)
  generalize hq1 : c_0 + 0 = c_1, hq2 : s_0 + 0 = s_1
  have hOq_1 := OB_fr hAp (hdis) hfr_1 (OB_lt hOp_1) hOq_0
  have hc_1 : c_1 + (0) ≤ 0 ∧ s_1 + (0) ≤ 0 := by omega
  clear hS_0 hfr_1 hOp_0 hOq_0
  refine lv_aload_n hx hb dL_alike_4 rfl (lv_at hl 1 rfl) ?_
  refine hc_digest (rest := [.long (v_digest sp)]) C hAq hOq_1 hS_1 ml_L_120 (Nat.le_trans (Nat.le_of_ble_eq_true rfl) hRf) (Nat.le_trans (Nat.le_of_ble_eq_true rfl) hRl) hl.1 (Nat.le_of_ble_eq_true rfl) dL_alike_5 ⟨by omega, by omega⟩ (fun H_2 locs_2 hOq_2 hS_2 hfr_2 => ?_)
  generalize hq1 : c_1 + 0 = c_2, hq2 : s_1 + 0 = s_2
  have hOp_2 := OB_fr hAq (fun i j hi hj z => hdis j i hj hi z.symm) hfr_2 (OB_lt hOq_2) hOp_1
  have hc_2 : c_2 + (0) ≤ 0 ∧ s_2 + (0) ≤ 0 := by omega
  clear hS_1 hfr_2 hOp_1 hOq_1
  refine W.lcmp hx hb dL_alike_8 ?_
  refine lv_if_ne (tgt := 27) hx hb dL_alike_9 (by decide) (fun h_3 => ?_) (fun h_3 => ?_)
  · replace hyp := ite_f h_3 hyp
    refine lv_iconst (v := 0) hx hb dL_alike_27 (by decide) ?_
    have hyp := some_e hyp
    subst hyp
    subst hQ
    exact rh2Z hx hb hr hlocks (Or.inl rfl) hOp_2 hOq_2 hS_2 ⟨by omega, by omega⟩ dL_alike_28
  · replace hyp := ite_t h_3 hyp
    refine lv_aload_n hx hb dL_alike_12 rfl (lv_at hl 0 rfl) ?_
    refine hc_firstError (rest := []) C hAp hOp_2 hS_2 ml_L_253 (Nat.le_trans (Nat.le_of_ble_eq_true rfl) hRf) (Nat.le_trans (Nat.le_of_ble_eq_true rfl) hRl) hl.1 (Nat.le_of_ble_eq_true rfl) dL_alike_13 ⟨by omega, by omega⟩ (fun H_4 locs_4 hOp_4 hS_4 hfr_4 => ?_)
    generalize hq1 : c_2 + 0 = c_4, hq2 : s_2 + 0 = s_4
    have hOq_4 := OB_fr hAp (hdis) hfr_4 (OB_lt hOp_4) hOq_2
    have hc_4 : c_4 + (0) ≤ 0 ∧ s_4 + (0) ≤ 0 := by omega
    clear hS_2 hfr_4 hOp_2 hOq_2
    refine lv_aload_n hx hb dL_alike_16 rfl (lv_at hl 1 rfl) ?_
    refine hc_firstError (rest := [.int (v_firstError sp)]) C hAq hOq_4 hS_4 ml_L_253 (Nat.le_trans (Nat.le_of_ble_eq_true rfl) hRf) (Nat.le_trans (Nat.le_of_ble_eq_true rfl) hRl) hl.1 (Nat.le_of_ble_eq_true rfl) dL_alike_17 ⟨by omega, by omega⟩ (fun H_5 locs_5 hOq_5 hS_5 hfr_5 => ?_)
    generalize hq1 : c_4 + 0 = c_5, hq2 : s_4 + 0 = s_5
    have hOp_5 := OB_fr hAq (fun i j hi hj z => hdis j i hj hi z.symm) hfr_5 (OB_lt hOq_5) hOp_4
    have hc_5 : c_5 + (0) ≤ 0 ∧ s_5 + (0) ≤ 0 := by omega
    clear hS_4 hfr_5 hOp_4 hOq_4
    refine lv_icmp_ne (tgt := 27) hx hb dL_alike_20 (by decide) (fun h_6 => ?_) (fun h_6 => ?_)
    · replace hyp := ite_f h_6 hyp
      refine lv_iconst (v := 0) hx hb dL_alike_27 (by decide) ?_
      have hyp := some_e hyp
      subst hyp
      subst hQ
      exact rh2Z hx hb hr hlocks (Or.inl rfl) hOp_5 hOq_5 hS_5 ⟨by omega, by omega⟩ dL_alike_28
    · replace hyp := ite_t h_6 hyp
      refine lv_iconst (v := 1) hx hb dL_alike_23 (by decide) ?_
      refine lv_goto (tgt := 28) hx hb dL_alike_24 (by decide) ?_
      have hyp := some_e hyp
      subst hyp
      subst hQ
      exact rh2Z hx hb hr hlocks (Or.inr rfl) hOp_5 hOq_5 hS_5 ⟨by omega, by omega⟩ dL_alike_28

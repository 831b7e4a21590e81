def fX9_in (a1 : Int64) (a2 : Int64) (a3 : Int64) : Option Int32 :=
  if (lg_cmp a1 a2) < 0 then (some 0) else (if 0 < (lg_cmp a1 a3) then (some 0) else (some 1))
set_option maxRecDepth 100000 in
set_option maxHeartbeats 4000000 in
theorem mX9_in (l : Launch) (g : GE) (a1 : Int64) (a2 : Int64) (a3 : Int64) (r : Int32) (hyp : fX9_in a1 a2 a3 = some r) : PI l yX9_in cX9_in 6 (some .boolean) 0 0 g [] [.long a1, .long a2, .long a3] r := by
  refine metP_intro (by decide) rfl ?_
  intro p e R s m args below meth c Q hRf hRl hQ hx hb hml hr hlocks hown hts hin hE hP ls hl
  have hown : s.vm.findClass "HallGuardsModel" = some m.cls := hown
  have hl : lv_has ls 6 [(0, .long a1), (2, .long a2), (4, .long a3)] := hl
  unfold fX9_in at hyp
  refine lv_lload_n hx hb dX9_in_0 rfl (lv_at hl 0 rfl) ?_
  refine lv_lload_n hx hb dX9_in_1 rfl (lv_at hl 1 rfl) ?_
  refine W.lcmp hx hb dX9_in_2 ?_
  refine lv_if_lt (tgt := 17) hx hb dX9_in_3 (by decide) (fun h_1 => ?_) (fun h_1 => ?_)
  · replace hyp := ite_t h_1 hyp
    refine lv_iconst (v := 0) hx hb dX9_in_17 (by decide) ?_
    subst hQ
    exact rZ hx hb hr hlocks (Or.inl rfl) (some_e hyp) dX9_in_18
  · replace hyp := ite_f h_1 hyp
    refine lv_lload_n hx hb dX9_in_6 rfl (lv_at hl 0 rfl) ?_
    refine lv_lload hx hb dX9_in_7 (lv_at hl 2 rfl) ?_
    refine W.lcmp hx hb dX9_in_9 ?_
    refine lv_if_gt (tgt := 17) hx hb dX9_in_10 (by decide) (fun h_2 => ?_) (fun h_2 => ?_)
    · replace hyp := ite_t h_2 hyp
      refine lv_iconst (v := 0) hx hb dX9_in_17 (by decide) ?_
      subst hQ
      exact rZ hx hb hr hlocks (Or.inl rfl) (some_e hyp) dX9_in_18
    · replace hyp := ite_f h_2 hyp
      refine lv_iconst (v := 1) hx hb dX9_in_13 (by decide) ?_
      refine lv_goto (tgt := 18) hx hb dX9_in_14 (by decide) ?_
      subst hQ
      exact rZ hx hb hr hlocks (Or.inr rfl) (some_e hyp) dX9_in_18

def fX9_isSquare (a1 : Int32) : Option Int32 :=
  (fX9_in a1.toInt64 0 48).bind (fun (r_1 : Int32) => grd (is01 r_1) (some r_1))
set_option maxRecDepth 100000 in
set_option maxHeartbeats 4000000 in
theorem mX9_isSquare (l : Launch) (g : GE) (a1 : Int32) (r : Int32) (hyp : fX9_isSquare a1 = some r) : PI l yX9_isSquare cX9_isSquare 1 (some .boolean) 1 25 g [] [.int a1] r := by
  refine metP_intro (by decide) rfl ?_
  intro p e R s m args below meth c Q hRf hRl hQ hx hb hml hr hlocks hown hts hin hE hP ls hl
  have hown : s.vm.findClass "HallGuardsModel" = some m.cls := hown
  have hl : lv_has ls 1 [(0, .int a1)] := hl
  unfold fX9_isSquare at hyp
  refine lv_iload_n hx hb dX9_isSquare_0 rfl (lv_at hl 0 rfl) ?_
  refine lv_i2l hx hb dX9_isSquare_1 rfl ?_
  refine lv_lconst (v := 0) hx hb dX9_isSquare_2 (by decide) ?_
  refine lv_ldc2 (v := 48) hx hb hown (hts _ ct_X9_56) dX9_isSquare_3 ?_
  obtain ⟨r_1, hr_1, hyp⟩ := opt_e hyp
  refine pS (As := [.long a1.toInt64, .long 0, .long 48]) (rest := []) ⟨hx, hb, hml, hown, hts⟩ hE (mX9_in l g a1.toInt64 0 48 r_1 hr_1) cf_X9_in st_X9_in ml_X9_58 ⟨Nat.le_trans (Nat.le_of_ble_eq_true rfl) hRf, Nat.le_trans (Nat.le_of_ble_eq_true rfl) hRl⟩ (va_P_nil) rfl hl.1 rfl (Nat.le_of_ble_eq_true rfl) dX9_isSquare_6 ⟨Nat.zero_le _, Nat.zero_le _⟩ ?_
  obtain ⟨h01, hyp⟩ := grd_e hyp
  subst hQ
  exact rZ hx hb hr hlocks (is01_e h01) (some_e hyp) dX9_isSquare_9

def fX9_isSide (a1 : Int32) : Option Int32 :=
  (fX9_in a1.toInt64 0 1).bind (fun (r_1 : Int32) => grd (is01 r_1) (some r_1))
set_option maxRecDepth 100000 in
set_option maxHeartbeats 4000000 in
theorem mX9_isSide (l : Launch) (g : GE) (a1 : Int32) (r : Int32) (hyp : fX9_isSide a1 = some r) : PI l yX9_isSide cX9_isSide 1 (some .boolean) 1 25 g [] [.int a1] r := by
  refine metP_intro (by decide) rfl ?_
  intro p e R s m args below meth c Q hRf hRl hQ hx hb hml hr hlocks hown hts hin hE hP ls hl
  have hown : s.vm.findClass "HallGuardsModel" = some m.cls := hown
  have hl : lv_has ls 1 [(0, .int a1)] := hl
  unfold fX9_isSide at hyp
  refine lv_iload_n hx hb dX9_isSide_0 rfl (lv_at hl 0 rfl) ?_
  refine lv_i2l hx hb dX9_isSide_1 rfl ?_
  refine lv_lconst (v := 0) hx hb dX9_isSide_2 (by decide) ?_
  refine lv_lconst (v := 1) hx hb dX9_isSide_3 (by decide) ?_
  obtain ⟨r_1, hr_1, hyp⟩ := opt_e hyp
  refine pS (As := [.long a1.toInt64, .long 0, .long 1]) (rest := []) ⟨hx, hb, hml, hown, hts⟩ hE (mX9_in l g a1.toInt64 0 1 r_1 hr_1) cf_X9_in st_X9_in ml_X9_58 ⟨Nat.le_trans (Nat.le_of_ble_eq_true rfl) hRf, Nat.le_trans (Nat.le_of_ble_eq_true rfl) hRl⟩ (va_P_nil) rfl hl.1 rfl (Nat.le_of_ble_eq_true rfl) dX9_isSide_4 ⟨Nat.zero_le _, Nat.zero_le _⟩ ?_
  obtain ⟨h01, hyp⟩ := grd_e hyp
  subst hQ
  exact rZ hx hb hr hlocks (is01_e h01) (some_e hyp) dX9_isSide_7

def fX9_isCorner (a1 : Int32) : Option Int32 :=
  if a1 = 0 then (some 1) else (if a1 = 6 then (some 1) else (if a1 = 42 then (some 1) else (if a1 = 48 then (some 1) else (some 0))))
set_option maxRecDepth 100000 in
set_option maxHeartbeats 4000000 in
theorem mX9_isCorner (l : Launch) (g : GE) (a1 : Int32) (r : Int32) (hyp : fX9_isCorner a1 = some r) : PI l yX9_isCorner cX9_isCorner 1 (some .boolean) 0 0 g [] [.int a1] r := by
  refine metP_intro (by decide) rfl ?_
  intro p e R s m args below meth c Q hRf hRl hQ hx hb hml hr hlocks hown hts hin hE hP ls hl
  have hown : s.vm.findClass "HallGuardsModel" = some m.cls := hown
  have hl : lv_has ls 1 [(0, .int a1)] := hl
  unfold fX9_isCorner at hyp
  refine lv_iload_n hx hb dX9_isCorner_0 rfl (lv_at hl 0 rfl) ?_
  refine lv_if_eq (tgt := 22) hx hb dX9_isCorner_1 (by decide) (fun h_1 => ?_) (fun h_1 => ?_)
  · replace hyp := ite_t h_1 hyp
    refine lv_iconst (v := 1) hx hb dX9_isCorner_22 (by decide) ?_
    refine lv_goto (tgt := 27) hx hb dX9_isCorner_23 (by decide) ?_
    subst hQ
    exact rZ hx hb hr hlocks (Or.inr rfl) (some_e hyp) dX9_isCorner_27
  · replace hyp := ite_f h_1 hyp
    refine lv_iload_n hx hb dX9_isCorner_4 rfl (lv_at hl 0 rfl) ?_
    refine lv_bipush (v := 6) hx hb dX9_isCorner_5 (by decide) ?_
    refine lv_icmp_eq (tgt := 22) hx hb dX9_isCorner_7 (by decide) (fun h_2 => ?_) (fun h_2 => ?_)
    · replace hyp := ite_t h_2 hyp
      refine lv_iconst (v := 1) hx hb dX9_isCorner_22 (by decide) ?_
      refine lv_goto (tgt := 27) hx hb dX9_isCorner_23 (by decide) ?_
      subst hQ
      exact rZ hx hb hr hlocks (Or.inr rfl) (some_e hyp) dX9_isCorner_27
    · replace hyp := ite_f h_2 hyp
      refine lv_iload_n hx hb dX9_isCorner_10 rfl (lv_at hl 0 rfl) ?_
      refine lv_bipush (v := 42) hx hb dX9_isCorner_11 (by decide) ?_
      refine lv_icmp_eq (tgt := 22) hx hb dX9_isCorner_13 (by decide) (fun h_3 => ?_) (fun h_3 => ?_)
      · replace hyp := ite_t h_3 hyp
        refine lv_iconst (v := 1) hx hb dX9_isCorner_22 (by decide) ?_
        refine lv_goto (tgt := 27) hx hb dX9_isCorner_23 (by decide) ?_
        subst hQ
        exact rZ hx hb hr hlocks (Or.inr rfl) (some_e hyp) dX9_isCorner_27
      · replace hyp := ite_f h_3 hyp
        refine lv_iload_n hx hb dX9_isCorner_16 rfl (lv_at hl 0 rfl) ?_
        refine lv_bipush (v := 48) hx hb dX9_isCorner_17 (by decide) ?_
        refine lv_icmp_ne (tgt := 26) hx hb dX9_isCorner_19 (by decide) (fun h_4 => ?_) (fun h_4 => ?_)
        · replace hyp := ite_f h_4 hyp
          refine lv_iconst (v := 0) hx hb dX9_isCorner_26 (by decide) ?_
          subst hQ
          exact rZ hx hb hr hlocks (Or.inl rfl) (some_e hyp) dX9_isCorner_27
        · replace hyp := ite_t h_4 hyp
          refine lv_iconst (v := 1) hx hb dX9_isCorner_22 (by decide) ?_
          refine lv_goto (tgt := 27) hx hb dX9_isCorner_23 (by decide) ?_
          subst hQ
          exact rZ hx hb hr hlocks (Or.inr rfl) (some_e hyp) dX9_isCorner_27

def fX9_side (a1 : Int32) : Option Int32 :=
  if a1 = 0 then (some (-1)) else (if a1 = 1 then (some 0) else (some 1))
set_option maxRecDepth 100000 in
set_option maxHeartbeats 4000000 in
theorem mX9_side (l : Launch) (g : GE) (a1 : Int32) (r : Int32) (hyp : fX9_side a1 = some r) : PI l yX9_side cX9_side 1 (some .int) 0 0 g [] [.int a1] r := by
  refine metP_intro (by decide) rfl ?_
  intro p e R s m args below meth c Q hRf hRl hQ hx hb hml hr hlocks hown hts hin hE hP ls hl
  have hown : s.vm.findClass "HallGuardsModel" = some m.cls := hown
  have hl : lv_has ls 1 [(0, .int a1)] := hl
  unfold fX9_side at hyp
  refine lv_iload_n hx hb dX9_side_0 rfl (lv_at hl 0 rfl) ?_
  refine lv_if_ne (tgt := 8) hx hb dX9_side_1 (by decide) (fun h_1 => ?_) (fun h_1 => ?_)
  · replace hyp := ite_f h_1 hyp
    refine lv_iload_n hx hb dX9_side_8 rfl (lv_at hl 0 rfl) ?_
    refine lv_iconst (v := 1) hx hb dX9_side_9 (by decide) ?_
    refine lv_icmp_ne (tgt := 17) hx hb dX9_side_10 (by decide) (fun h_2 => ?_) (fun h_2 => ?_)
    · replace hyp := ite_f h_2 hyp
      refine lv_iconst (v := 1) hx hb dX9_side_17 (by decide) ?_
      subst hQ
      exact rI hx hb hr hlocks (some_e hyp) dX9_side_18
    · replace hyp := ite_t h_2 hyp
      refine lv_iconst (v := 0) hx hb dX9_side_13 (by decide) ?_
      refine lv_goto (tgt := 18) hx hb dX9_side_14 (by decide) ?_
      subst hQ
      exact rI hx hb hr hlocks (some_e hyp) dX9_side_18
  · replace hyp := ite_t h_1 hyp
    refine lv_iconst (v := (-1)) hx hb dX9_side_4 (by decide) ?_
    refine lv_goto (tgt := 18) hx hb dX9_side_5 (by decide) ?_
    subst hQ
    exact rI hx hb hr hlocks (some_e hyp) dX9_side_18

def fX9_isCell (a1 : Int32) (a2 : Int32) : Option Int32 :=
  (fX9_in a1.toInt64 0 6).bind (fun (r_1 : Int32) => if r_1 = 0 then (some 0) else ((fX9_in a2.toInt64 0 6).bind (fun (r_3 : Int32) => if r_3 = 0 then (some 0) else (some 1))))
set_option maxRecDepth 100000 in
set_option maxHeartbeats 4000000 in
theorem mX9_isCell (l : Launch) (g : GE) (a1 : Int32) (a2 : Int32) (r : Int32) (hyp : fX9_isCell a1 a2 = some r) : PI l yX9_isCell cX9_isCell 2 (some .boolean) 1 25 g [] [.int a1, .int a2] r := by
  refine metP_intro (by decide) rfl ?_
  intro p e R s m args below meth c Q hRf hRl hQ hx hb hml hr hlocks hown hts hin hE hP ls hl
  have hown : s.vm.findClass "HallGuardsModel" = some m.cls := hown
  have hl : lv_has ls 2 [(0, .int a1), (1, .int a2)] := hl
  unfold fX9_isCell at hyp
  refine lv_iload_n hx hb dX9_isCell_0 rfl (lv_at hl 0 rfl) ?_
  refine lv_i2l hx hb dX9_isCell_1 rfl ?_
  refine lv_lconst (v := 0) hx hb dX9_isCell_2 (by decide) ?_
  refine lv_ldc2 (v := 6) hx hb hown (hts _ ct_X9_62) dX9_isCell_3 ?_
  obtain ⟨r_1, hr_1, hyp⟩ := opt_e hyp
  refine pS (As := [.long a1.toInt64, .long 0, .long 6]) (rest := []) ⟨hx, hb, hml, hown, hts⟩ hE (mX9_in l g a1.toInt64 0 6 r_1 hr_1) cf_X9_in st_X9_in ml_X9_58 ⟨Nat.le_trans (Nat.le_of_ble_eq_true rfl) hRf, Nat.le_trans (Nat.le_of_ble_eq_true rfl) hRl⟩ (va_P_nil) rfl hl.1 rfl (Nat.le_of_ble_eq_true rfl) dX9_isCell_6 ⟨Nat.zero_le _, Nat.zero_le _⟩ ?_
  refine lv_if_eq (tgt := 28) hx hb dX9_isCell_9 (by decide) (fun h_2 => ?_) (fun h_2 => ?_)
  · replace hyp := ite_t h_2 hyp
    refine lv_iconst (v := 0) hx hb dX9_isCell_28 (by decide) ?_
    subst hQ
    exact rZ hx hb hr hlocks (Or.inl rfl) (some_e hyp) dX9_isCell_29
  · replace hyp := ite_f h_2 hyp
    refine lv_iload_n hx hb dX9_isCell_12 rfl (lv_at hl 1 rfl) ?_
    refine lv_i2l hx hb dX9_isCell_13 rfl ?_
    refine lv_lconst (v := 0) hx hb dX9_isCell_14 (by decide) ?_
    refine lv_ldc2 (v := 6) hx hb hown (hts _ ct_X9_62) dX9_isCell_15 ?_
    obtain ⟨r_3, hr_3, hyp⟩ := opt_e hyp
    refine pS (As := [.long a2.toInt64, .long 0, .long 6]) (rest := []) ⟨hx, hb, hml, hown, hts⟩ hE (mX9_in l g a2.toInt64 0 6 r_3 hr_3) cf_X9_in st_X9_in ml_X9_58 ⟨Nat.le_trans (Nat.le_of_ble_eq_true rfl) hRf, Nat.le_trans (Nat.le_of_ble_eq_true rfl) hRl⟩ (va_P_nil) rfl hl.1 rfl (Nat.le_of_ble_eq_true rfl) dX9_isCell_18 ⟨Nat.zero_le _, Nat.zero_le _⟩ ?_
    refine lv_if_eq (tgt := 28) hx hb dX9_isCell_21 (by decide) (fun h_4 => ?_) (fun h_4 => ?_)
    · replace hyp := ite_t h_4 hyp
      refine lv_iconst (v := 0) hx hb dX9_isCell_28 (by decide) ?_
      subst hQ
      exact rZ hx hb hr hlocks (Or.inl rfl) (some_e hyp) dX9_isCell_29
    · replace hyp := ite_f h_4 hyp
      refine lv_iconst (v := 1) hx hb dX9_isCell_24 (by decide) ?_
      refine lv_goto (tgt := 29) hx hb dX9_isCell_25 (by decide) ?_
      subst hQ
      exact rZ hx hb hr hlocks (Or.inr rfl) (some_e hyp) dX9_isCell_29

def fX9_next (a1 : Int32) (a2 : Int32) : Option Int32 :=
  jn (fun (t_1 : Int32) => jn (fun (t_3 : Int32) => if a1 = (-1) then (some (-1)) else ((fX9_isCell ((a1 / 7) + t_1) ((a1 - a1 / 7 * 7) + t_3)).bind (fun (r_6 : Int32) => if r_6 = 0 then (some (-1)) else (some ((7 * ((a1 / 7) + t_1)) + ((a1 - a1 / 7 * 7) + t_3)))))) (fun J_4 => if a2 = 1 then (J_4 1) else (if a2 = 3 then (J_4 (-1)) else (J_4 0)))) (fun J_2 => if a2 = 0 then (J_2 (-1)) else (if a2 = 2 then (J_2 1) else (J_2 0)))
set_option maxRecDepth 100000 in
set_option maxHeartbeats 4000000 in
theorem mX9_next (l : Launch) (g : GE) (a1 : Int32) (a2 : Int32) (r : Int32) (hyp : fX9_next a1 a2 = some r) : PI l yX9_next cX9_next 4 (some .int) 2 46 g [] [.int a1, .int a2] r := by
  refine metP_intro (by decide) rfl ?_
  intro p e R s m args below meth c Q hRf hRl hQ hx hb hml hr hlocks hown hts hin hE hP ls hl
  have hown : s.vm.findClass "HallGuardsModel" = some m.cls := hown
  have hl : lv_has ls 4 [(0, .int a1), (1, .int a2)] := hl
  unfold fX9_next at hyp
  refine lv_iload_n hx hb dX9_next_0 rfl (lv_at hl 0 rfl) ?_
  refine lv_bipush (v := 7) hx hb dX9_next_1 (by decide) ?_
  refine lv_idiv hx hb dX9_next_3 (by decide) ?_
  refine lv_iload_n hx hb dX9_next_4 rfl (lv_at hl 1 rfl) ?_
  obtain ⟨J_2, eJ_2, hyp⟩ := jn_e hyp
  have kJ_2 : ∀ (t_1 : Int32) (ls : Array Slot), J_2 t_1 = some r → lv_has ls 4 [(0, .int a1), (1, .int a2)] → W p l e R s m args below meth c s.heap [] 0 0 Q (F0 m 22 ls [.int t_1, .int (a1 / 7)]) := by
    intro t_1  ls hyp hl
    replace hyp := (congrFun (eJ_2) t_1).symm.trans hyp
    refine lv_iadd hx hb dX9_next_22 ?_
    refine lv_istore_n (lv' := [(2, .int ((a1 / 7) + t_1)), (0, .int a1), (1, .int a2)]) hx hb dX9_next_23 rfl hl (by decide) rfl (fun ls hl => ?_)
    refine lv_iload_n hx hb dX9_next_24 rfl (lv_at hl 1 rfl) ?_
    refine lv_bipush (v := 7) hx hb dX9_next_25 (by decide) ?_
    refine lv_irem hx hb dX9_next_27 (by decide) ?_
    refine lv_iload_n hx hb dX9_next_28 rfl (lv_at hl 2 rfl) ?_
    refine lv_iconst (v := 1) hx hb dX9_next_29 (by decide) ?_
    obtain ⟨J_4, eJ_4, hyp⟩ := jn_e hyp
    have kJ_4 : ∀ (t_3 : Int32) (ls : Array Slot), J_4 t_3 = some r → lv_has ls 4 [(0, .int a1), (2, .int ((a1 / 7) + t_1))] → W p l e R s m args below meth c s.heap [] 0 0 Q (F0 m 47 ls [.int t_3, .int (a1 - a1 / 7 * 7)]) := by
      intro t_3  ls hyp hl
      replace hyp := (congrFun (eJ_4) t_3).symm.trans hyp
      refine lv_iadd hx hb dX9_next_47 ?_
      refine lv_istore_n (lv' := [(3, .int ((a1 - a1 / 7 * 7) + t_3)), (0, .int a1), (2, .int ((a1 / 7) + t_1))]) hx hb dX9_next_48 rfl hl (by decide) rfl (fun ls hl => ?_)
      refine lv_iload_n hx hb dX9_next_49 rfl (lv_at hl 1 rfl) ?_
      refine lv_iconst (v := (-1)) hx hb dX9_next_50 (by decide) ?_
      refine lv_icmp_eq (tgt := 62) hx hb dX9_next_51 (by decide) (fun h_5 => ?_) (fun h_5 => ?_)
      · replace hyp := ite_t h_5 hyp
        refine lv_iconst (v := (-1)) hx hb dX9_next_62 (by decide) ?_
        refine lv_goto (tgt := 72) hx hb dX9_next_63 (by decide) ?_
        subst hQ
        exact rI hx hb hr hlocks (some_e hyp) dX9_next_72
      · replace hyp := ite_f h_5 hyp
        refine lv_iload_n hx hb dX9_next_54 rfl (lv_at hl 2 rfl) ?_
        refine lv_iload_n hx hb dX9_next_55 rfl (lv_at hl 0 rfl) ?_
        obtain ⟨r_6, hr_6, hyp⟩ := opt_e hyp
        refine pS (As := [.int ((a1 / 7) + t_1), .int ((a1 - a1 / 7 * 7) + t_3)]) (rest := []) ⟨hx, hb, hml, hown, hts⟩ hE (mX9_isCell l g ((a1 / 7) + t_1) ((a1 - a1 / 7 * 7) + t_3) r_6 hr_6) cf_X9_isCell st_X9_isCell ml_X9_64 ⟨Nat.le_trans (Nat.le_of_ble_eq_true rfl) hRf, Nat.le_trans (Nat.le_of_ble_eq_true rfl) hRl⟩ (va_P_nil) rfl hl.1 rfl (Nat.le_of_ble_eq_true rfl) dX9_next_56 ⟨Nat.zero_le _, Nat.zero_le _⟩ ?_
        refine lv_if_ne (tgt := 66) hx hb dX9_next_59 (by decide) (fun h_7 => ?_) (fun h_7 => ?_)
        · replace hyp := ite_f h_7 hyp
          refine lv_bipush (v := 7) hx hb dX9_next_66 (by decide) ?_
          refine lv_iload_n hx hb dX9_next_68 rfl (lv_at hl 2 rfl) ?_
          refine lv_imul hx hb dX9_next_69 ?_
          refine lv_iload_n hx hb dX9_next_70 rfl (lv_at hl 0 rfl) ?_
          refine lv_iadd hx hb dX9_next_71 ?_
          subst hQ
          exact rI hx hb hr hlocks (some_e hyp) dX9_next_72
        · replace hyp := ite_t h_7 hyp
          refine lv_iconst (v := (-1)) hx hb dX9_next_62 (by decide) ?_
          refine lv_goto (tgt := 72) hx hb dX9_next_63 (by decide) ?_
          subst hQ
          exact rI hx hb hr hlocks (some_e hyp) dX9_next_72
    refine lv_icmp_ne (tgt := 37) hx hb dX9_next_30 (by decide) (fun h_8 => ?_) (fun h_8 => ?_)
    · replace hyp := ite_f h_8 hyp
      refine lv_iload_n hx hb dX9_next_37 rfl (lv_at hl 2 rfl) ?_
      refine lv_iconst (v := 3) hx hb dX9_next_38 (by decide) ?_
      refine lv_icmp_ne (tgt := 46) hx hb dX9_next_39 (by decide) (fun h_9 => ?_) (fun h_9 => ?_)
      · replace hyp := ite_f h_9 hyp
        refine lv_iconst (v := 0) hx hb dX9_next_46 (by decide) ?_
        exact kJ_4 0 ls hyp (lv_sub hl [1, 0] rfl)
      · replace hyp := ite_t h_9 hyp
        refine lv_iconst (v := (-1)) hx hb dX9_next_42 (by decide) ?_
        refine lv_goto (tgt := 47) hx hb dX9_next_43 (by decide) ?_
        exact kJ_4 (-1) ls hyp (lv_sub hl [1, 0] rfl)
    · replace hyp := ite_t h_8 hyp
      refine lv_iconst (v := 1) hx hb dX9_next_33 (by decide) ?_
      refine lv_goto (tgt := 47) hx hb dX9_next_34 (by decide) ?_
      exact kJ_4 1 ls hyp (lv_sub hl [1, 0] rfl)
  refine lv_if_ne (tgt := 12) hx hb dX9_next_5 (by decide) (fun h_10 => ?_) (fun h_10 => ?_)
  · replace hyp := ite_f h_10 hyp
    refine lv_iload_n hx hb dX9_next_12 rfl (lv_at hl 1 rfl) ?_
    refine lv_iconst (v := 2) hx hb dX9_next_13 (by decide) ?_
    refine lv_icmp_ne (tgt := 21) hx hb dX9_next_14 (by decide) (fun h_11 => ?_) (fun h_11 => ?_)
    · replace hyp := ite_f h_11 hyp
      refine lv_iconst (v := 0) hx hb dX9_next_21 (by decide) ?_
      exact kJ_2 0 ls hyp hl
    · replace hyp := ite_t h_11 hyp
      refine lv_iconst (v := 1) hx hb dX9_next_17 (by decide) ?_
      refine lv_goto (tgt := 22) hx hb dX9_next_18 (by decide) ?_
      exact kJ_2 1 ls hyp hl
  · replace hyp := ite_t h_10 hyp
    refine lv_iconst (v := (-1)) hx hb dX9_next_8 (by decide) ?_
    refine lv_goto (tgt := 22) hx hb dX9_next_9 (by decide) ?_
    exact kJ_2 (-1) ls hyp hl

def fX9_rests (a1 : Int32) (a2 : Int32) : Option Int32 :=
  if a1 = 3 then (some 1) else (if a2 = 24 then (some 0) else ((fX9_isCorner a2).bind (fun (r_3 : Int32) => if r_3 = 0 then (some 1) else (some 0))))
set_option maxRecDepth 100000 in
set_option maxHeartbeats 4000000 in
theorem mX9_rests (l : Launch) (g : GE) (a1 : Int32) (a2 : Int32) (r : Int32) (hyp : fX9_rests a1 a2 = some r) : PI l yX9_rests cX9_rests 2 (some .boolean) 1 20 g [] [.int a1, .int a2] r := by
  refine metP_intro (by decide) rfl ?_
  intro p e R s m args below meth c Q hRf hRl hQ hx hb hml hr hlocks hown hts hin hE hP ls hl
  have hown : s.vm.findClass "HallGuardsModel" = some m.cls := hown
  have hl : lv_has ls 2 [(0, .int a1), (1, .int a2)] := hl
  unfold fX9_rests at hyp
  refine lv_iload_n hx hb dX9_rests_0 rfl (lv_at hl 0 rfl) ?_
  refine lv_iconst (v := 3) hx hb dX9_rests_1 (by decide) ?_
  refine lv_icmp_eq (tgt := 18) hx hb dX9_rests_2 (by decide) (fun h_1 => ?_) (fun h_1 => ?_)
  · replace hyp := ite_t h_1 hyp
    refine lv_iconst (v := 1) hx hb dX9_rests_18 (by decide) ?_
    refine lv_goto (tgt := 23) hx hb dX9_rests_19 (by decide) ?_
    subst hQ
    exact rZ hx hb hr hlocks (Or.inr rfl) (some_e hyp) dX9_rests_23
  · replace hyp := ite_f h_1 hyp
    refine lv_iload_n hx hb dX9_rests_5 rfl (lv_at hl 1 rfl) ?_
    refine lv_bipush (v := 24) hx hb dX9_rests_6 (by decide) ?_
    refine lv_icmp_eq (tgt := 22) hx hb dX9_rests_8 (by decide) (fun h_2 => ?_) (fun h_2 => ?_)
    · replace hyp := ite_t h_2 hyp
      refine lv_iconst (v := 0) hx hb dX9_rests_22 (by decide) ?_
      subst hQ
      exact rZ hx hb hr hlocks (Or.inl rfl) (some_e hyp) dX9_rests_23
    · replace hyp := ite_f h_2 hyp
      refine lv_iload_n hx hb dX9_rests_11 rfl (lv_at hl 1 rfl) ?_
      obtain ⟨r_3, hr_3, hyp⟩ := opt_e hyp
      refine pS (As := [.int a2]) (rest := []) ⟨hx, hb, hml, hown, hts⟩ hE (mX9_isCorner l g a2 r_3 hr_3) cf_X9_isCorner st_X9_isCorner ml_X9_68 ⟨Nat.le_trans (Nat.le_of_ble_eq_true rfl) hRf, Nat.le_trans (Nat.le_of_ble_eq_true rfl) hRl⟩ (va_P_nil) rfl hl.1 rfl (Nat.le_of_ble_eq_true rfl) dX9_rests_12 ⟨Nat.zero_le _, Nat.zero_le _⟩ ?_
      refine lv_if_ne (tgt := 22) hx hb dX9_rests_15 (by decide) (fun h_4 => ?_) (fun h_4 => ?_)
      · replace hyp := ite_f h_4 hyp
        refine lv_iconst (v := 0) hx hb dX9_rests_22 (by decide) ?_
        subst hQ
        exact rZ hx hb hr hlocks (Or.inl rfl) (some_e hyp) dX9_rests_23
      · replace hyp := ite_t h_4 hyp
        refine lv_iconst (v := 1) hx hb dX9_rests_18 (by decide) ?_
        refine lv_goto (tgt := 23) hx hb dX9_rests_19 (by decide) ?_
        subst hQ
        exact rZ hx hb hr hlocks (Or.inr rfl) (some_e hyp) dX9_rests_23

def fX9_hostile (row : Nat → Int32) (a1 : Int32) (a2 : Int32) : Option Int32 :=
  jn (fun (t_1 : Int32) => (fX9_isCorner a1).bind (fun (r_3 : Int32) => if r_3 = 0 then (if t_1 = 0 then (grd (inB a1 61) (if (row a1.toNatClampNeg) ≤ 0 then (some 0) else (grd (inB a1 61) ((fX9_side (row a1.toNatClampNeg)).bind (fun (r_7 : Int32) => if r_7 = a2 then (some 0) else (some 1)))))) else (some 1)) else (some 1))) (fun J_2 => jn (J_2 0) (fun J_9 => if a1 = 24 then (grd (inB a1 61) (if (row a1.toNatClampNeg) = 0 then (J_2 1) else (J_9))) else (J_9)))
set_option maxRecDepth 100000 in
set_option maxHeartbeats 4000000 in
theorem mX9_hostile (l : Launch) (g : GE) (ra : Nat) (row : Nat → Int32) (a1 : Int32) (a2 : Int32) (r : Int32) (hyp : fX9_hostile row a1 a2 = some r) : PI l yX9_hostile cX9_hostile 4 (some .boolean) 1 20 g [(ra, .inl (g.2.1, 61, .inl row))] [.ref ra, .int a1, .int a2] r := by
  refine metP_intro (by decide) rfl ?_
  intro p e R s m args below meth c Q hRf hRl hQ hx hb hml hr hlocks hown hts hin hE hP ls hl
  have hown : s.vm.findClass "HallGuardsModel" = some m.cls := hown
  have hl : lv_has ls 4 [(0, .ref ra), (1, .int a1), (2, .int a2)] := hl
  unfold fX9_hostile at hyp
  refine lv_iload_n hx hb dX9_hostile_0 rfl (lv_at hl 1 rfl) ?_
  refine lv_bipush (v := 24) hx hb dX9_hostile_1 (by decide) ?_
  obtain ⟨J_2, eJ_2, hyp⟩ := jn_e hyp
  have kJ_2 : ∀ (t_1 : Int32) (ls : Array Slot), J_2 t_1 = some r → lv_has ls 4 [(0, .ref ra), (1, .int a1), (2, .int a2)] → W p l e R s m args below meth c s.heap [] 0 0 Q (F0 m 17 ls [.int t_1]) := by
    intro t_1  ls hyp hl
    replace hyp := (congrFun (eJ_2) t_1).symm.trans hyp
    refine lv_istore_n (lv' := [(3, .int t_1), (0, .ref ra), (1, .int a1), (2, .int a2)]) hx hb dX9_hostile_17 rfl hl (by decide) rfl (fun ls hl => ?_)
    refine lv_iload_n hx hb dX9_hostile_18 rfl (lv_at hl 2 rfl) ?_
    obtain ⟨r_3, hr_3, hyp⟩ := opt_e hyp
    refine pS (As := [.int a1]) (rest := []) ⟨hx, hb, hml, hown, hts⟩ hE (mX9_isCorner l g a1 r_3 hr_3) cf_X9_isCorner st_X9_isCorner ml_X9_68 ⟨Nat.le_trans (Nat.le_of_ble_eq_true rfl) hRf, Nat.le_trans (Nat.le_of_ble_eq_true rfl) hRl⟩ (va_P_nil) rfl hl.1 rfl (Nat.le_of_ble_eq_true rfl) dX9_hostile_19 ⟨Nat.zero_le _, Nat.zero_le _⟩ ?_
    refine lv_if_ne (tgt := 45) hx hb dX9_hostile_22 (by decide) (fun h_4 => ?_) (fun h_4 => ?_)
    · replace hyp := ite_f h_4 hyp
      refine lv_iconst (v := 1) hx hb dX9_hostile_45 (by decide) ?_
      refine lv_goto (tgt := 50) hx hb dX9_hostile_46 (by decide) ?_
      subst hQ
      exact rZ hx hb hr hlocks (Or.inr rfl) (some_e hyp) dX9_hostile_50
    · replace hyp := ite_t h_4 hyp
      refine lv_iload_n hx hb dX9_hostile_25 rfl (lv_at hl 0 rfl) ?_
      refine lv_if_ne (tgt := 45) hx hb dX9_hostile_26 (by decide) (fun h_5 => ?_) (fun h_5 => ?_)
      · replace hyp := ite_f h_5 hyp
        refine lv_iconst (v := 1) hx hb dX9_hostile_45 (by decide) ?_
        refine lv_goto (tgt := 50) hx hb dX9_hostile_46 (by decide) ?_
        subst hQ
        exact rZ hx hb hr hlocks (Or.inr rfl) (some_e hyp) dX9_hostile_50
      · replace hyp := ite_t h_5 hyp
        refine lv_aload_n hx hb dX9_hostile_29 rfl (lv_at hl 1 rfl) ?_
        refine lv_iload_n hx hb dX9_hostile_30 rfl (lv_at hl 2 rfl) ?_
        obtain ⟨hi, hyp⟩ := grd_e hyp
        refine va_iald hx hb hE.1 hP 0 0 rfl rfl (inB_vp hi) dX9_hostile_31 ?_
        refine lv_if_le (tgt := 49) hx hb dX9_hostile_32 (by decide) (fun h_6 => ?_) (fun h_6 => ?_)
        · replace hyp := ite_t h_6 hyp
          refine lv_iconst (v := 0) hx hb dX9_hostile_49 (by decide) ?_
          subst hQ
          exact rZ hx hb hr hlocks (Or.inl rfl) (some_e hyp) dX9_hostile_50
        · replace hyp := ite_f h_6 hyp
          refine lv_aload_n hx hb dX9_hostile_35 rfl (lv_at hl 1 rfl) ?_
          refine lv_iload_n hx hb dX9_hostile_36 rfl (lv_at hl 2 rfl) ?_
          obtain ⟨hi, hyp⟩ := grd_e hyp
          refine va_iald hx hb hE.1 hP 0 0 rfl rfl (inB_vp hi) dX9_hostile_37 ?_
          obtain ⟨r_7, hr_7, hyp⟩ := opt_e hyp
          refine pS (As := [.int (row a1.toNatClampNeg)]) (rest := []) ⟨hx, hb, hml, hown, hts⟩ hE (mX9_side l g (row a1.toNatClampNeg) r_7 hr_7) cf_X9_side st_X9_side ml_X9_72 ⟨Nat.le_trans (Nat.le_of_ble_eq_true rfl) hRf, Nat.le_trans (Nat.le_of_ble_eq_true rfl) hRl⟩ (va_P_nil) rfl hl.1 rfl (Nat.le_of_ble_eq_true rfl) dX9_hostile_38 ⟨Nat.zero_le _, Nat.zero_le _⟩ ?_
          refine lv_iload_n hx hb dX9_hostile_41 rfl (lv_at hl 3 rfl) ?_
          refine lv_icmp_eq (tgt := 49) hx hb dX9_hostile_42 (by decide) (fun h_8 => ?_) (fun h_8 => ?_)
          · replace hyp := ite_t h_8 hyp
            refine lv_iconst (v := 0) hx hb dX9_hostile_49 (by decide) ?_
            subst hQ
            exact rZ hx hb hr hlocks (Or.inl rfl) (some_e hyp) dX9_hostile_50
          · replace hyp := ite_f h_8 hyp
            refine lv_iconst (v := 1) hx hb dX9_hostile_45 (by decide) ?_
            refine lv_goto (tgt := 50) hx hb dX9_hostile_46 (by decide) ?_
            subst hQ
            exact rZ hx hb hr hlocks (Or.inr rfl) (some_e hyp) dX9_hostile_50
  obtain ⟨J_9, eJ_9, hyp⟩ := jn_e hyp
  have kJ_9 : ∀ (ls : Array Slot), J_9 = some r → lv_has ls 4 [(0, .ref ra), (1, .int a1), (2, .int a2)] → W p l e R s m args below meth c s.heap [] 0 0 Q (F0 m 16 ls []) := by
    intro  ls hyp hl
    replace hyp := (eJ_9).symm.trans hyp
    refine lv_iconst (v := 0) hx hb dX9_hostile_16 (by decide) ?_
    exact kJ_2 0 ls hyp hl
  refine lv_icmp_ne (tgt := 16) hx hb dX9_hostile_3 (by decide) (fun h_10 => ?_) (fun h_10 => ?_)
  · replace hyp := ite_f h_10 hyp
    exact kJ_9 ls hyp hl
  · replace hyp := ite_t h_10 hyp
    refine lv_aload_n hx hb dX9_hostile_6 rfl (lv_at hl 0 rfl) ?_
    refine lv_iload_n hx hb dX9_hostile_7 rfl (lv_at hl 1 rfl) ?_
    obtain ⟨hi, hyp⟩ := grd_e hyp
    refine va_iald hx hb hE.1 hP 0 0 rfl rfl (inB_vp hi) dX9_hostile_8 ?_
    refine lv_if_ne (tgt := 16) hx hb dX9_hostile_9 (by decide) (fun h_11 => ?_) (fun h_11 => ?_)
    · replace hyp := ite_f h_11 hyp
      exact kJ_9 ls hyp hl
    · replace hyp := ite_t h_11 hyp
      refine lv_iconst (v := 1) hx hb dX9_hostile_12 (by decide) ?_
      refine lv_goto (tgt := 17) hx hb dX9_hostile_13 (by decide) ?_
      exact kJ_2 1 ls hyp hl

def fX9_king_L2_B (row : Nat → Int32) (self_2 : Int32 → Option Int32) (v1_1 : Int32) : Option Int32 :=
  if 49 ≤ v1_1 then (some (-1)) else (grd (inB v1_1 61) (if (row v1_1.toNatClampNeg) = 3 then (some v1_1) else (self_2 (v1_1 + 1))))
def fX9_king_L2 (row : Nat → Int32) (n : Nat) (v1_1 : Int32) : Option Int32 := lp (fun zf z => fX9_king_L2_B row zf z) n v1_1
def fX9_king (row : Nat → Int32) : Option Int32 :=
  fX9_king_L2 row 64 0
set_option maxRecDepth 100000 in
set_option maxHeartbeats 4000000 in
theorem mX9_king (l : Launch) (g : GE) (ra : Nat) (row : Nat → Int32) (r : Int32) (hyp : fX9_king row = some r) : PI l yX9_king cX9_king 2 (some .int) 0 0 g [(ra, .inl (g.2.1, 61, .inl row))] [.ref ra] r := by
  refine metP_intro (by decide) rfl ?_
  intro p e R s m args below meth c Q hRf hRl hQ hx hb hml hr hlocks hown hts hin hE hP ls hl
  have hown : s.vm.findClass "HallGuardsModel" = some m.cls := hown
  have hl : lv_has ls 2 [(0, .ref ra)] := hl
  unfold fX9_king at hyp
  refine lv_iconst (v := 0) hx hb dX9_king_0 (by decide) ?_
  refine lv_istore_n (lv' := [(1, .int 0), (0, .ref ra)]) hx hb dX9_king_1 rfl hl (by decide) rfl (fun ls hl => ?_)
  refine lp_i (r := r) (fun z : Int32 => ∀ (ls : Array Slot), lv_has ls 2 [(0, .ref ra), (1, .int z)] → W p l e R s m args below meth c s.heap [] 0 0 Q (F0 m 2 ls [])) ?_ 64 0 hyp ls (lv_sub hl [1, 0] rfl)
  intro self_2 ihself_2 z hyp ls hl
  generalize z = v1_1 at hyp hl ⊢
  replace hyp : fX9_king_L2_B row self_2 v1_1 = some r := hyp
  have hl : lv_has ls 2 [(0, .ref ra), (1, .int v1_1)] := hl
  show W p l e R s m args below meth c s.heap [] 0 0 Q (F0 m 2 ls [])
  unfold fX9_king_L2_B at hyp
  refine lv_iload_n hx hb dX9_king_2 rfl (lv_at hl 1 rfl) ?_
  refine lv_bipush (v := 49) hx hb dX9_king_3 (by decide) ?_
  refine lv_icmp_ge (tgt := 23) hx hb dX9_king_5 (by decide) (fun h_3 => ?_) (fun h_3 => ?_)
  · replace hyp := ite_t h_3 hyp
    refine lv_iconst (v := (-1)) hx hb dX9_king_23 (by decide) ?_
    subst hQ
    exact rI hx hb hr hlocks (some_e hyp) dX9_king_24
  · replace hyp := ite_f h_3 hyp
    refine lv_aload_n hx hb dX9_king_8 rfl (lv_at hl 0 rfl) ?_
    refine lv_iload_n hx hb dX9_king_9 rfl (lv_at hl 1 rfl) ?_
    obtain ⟨hi, hyp⟩ := grd_e hyp
    refine va_iald hx hb hE.1 hP 0 0 rfl rfl (inB_vp hi) dX9_king_10 ?_
    refine lv_iconst (v := 3) hx hb dX9_king_11 (by decide) ?_
    refine lv_icmp_ne (tgt := 17) hx hb dX9_king_12 (by decide) (fun h_4 => ?_) (fun h_4 => ?_)
    · replace hyp := ite_f h_4 hyp
      refine lv_iinc (v := v1_1 + 1) (lv' := [(1, .int (v1_1 + 1)), (0, .ref ra)]) hx hb dX9_king_17 hl (k := 1) rfl rfl (by decide) rfl (fun ls hl => ?_)
      refine lv_goto (tgt := 2) hx hb dX9_king_20 (by decide) ?_
      exact ihself_2 (v1_1 + 1) hyp ls (lv_sub hl [1, 0] rfl)
    · replace hyp := ite_t h_4 hyp
      refine lv_iload_n hx hb dX9_king_15 rfl (lv_at hl 1 rfl) ?_
      subst hQ
      exact rI hx hb hr hlocks (some_e hyp) dX9_king_16

def fX9_against_L84_B (row : Nat → Int32) (a1 : Int32) (a2 : Int32) (t_6 : Int32) (self_10 : Int32 → Option Int32) (v5_9 : Int32) : Option Int32 :=
  (fX9_next a2 t_6).bind (fun (r_11 : Int32) => if v5_9 = r_11 then (grd (inB a1 61) ((fX9_rests (row a1.toNatClampNeg) a2).bind (fun (r_13 : Int32) => if r_13 = 0 then (some 4) else (some 0)))) else (grd (inB v5_9 61) (if (row v5_9.toNatClampNeg) ≤ 0 then ((fX9_next v5_9 t_6).bind (fun (r_16 : Int32) => self_10 r_16)) else (some 3))))
def fX9_against_L84 (row : Nat → Int32) (a1 : Int32) (a2 : Int32) (t_6 : Int32) (n : Nat) (v5_9 : Int32) : Option Int32 := lp (fun zf z => fX9_against_L84_B row a1 a2 t_6 zf z) n v5_9
def fX9_against (row : Nat → Int32) (a1 : Int32) (a2 : Int32) : Option Int32 :=
  grd (inB a1 61) (if (row a1.toNatClampNeg) = 0 then (some 1) else (jn (fun (t_2 : Int32) => if a1 = a2 then (some 2) else (jn (jn (fun (t_6 : Int32) => (fX9_next a1 t_6).bind (fun (r_8 : Int32) => fX9_against_L84 row a1 a2 t_6 64 r_8)) (fun J_7 => if t_2 = 0 then (if a2 ≤ a1 then (J_7 0) else (J_7 2)) else (if a2 ≤ a1 then (J_7 3) else (J_7 1)))) (fun J_5 => if t_2 = 0 then (if (a1 - a1 / 7 * 7) = (a2 - a2 / 7 * 7) then (J_5) else (some 2)) else (J_5)))) (fun J_3 => if (a1 / 7) = (a2 / 7) then (J_3 1) else (J_3 0))))
set_option maxRecDepth 100000 in
set_option maxHeartbeats 4000000 in
theorem mX9_against (l : Launch) (g : GE) (ra : Nat) (row : Nat → Int32) (a1 : Int32) (a2 : Int32) (r : Int32) (hyp : fX9_against row a1 a2 = some r) : PI l yX9_against cX9_against 6 (some .int) 3 69 g [(ra, .inl (g.2.1, 61, .inl row))] [.ref ra, .int a1, .int a2] r := by
  refine metP_intro (by decide) rfl ?_
  intro p e R s m args below meth c Q hRf hRl hQ hx hb hml hr hlocks hown hts hin hE hP ls hl
  have hown : s.vm.findClass "HallGuardsModel" = some m.cls := hown
  have hl : lv_has ls 6 [(0, .ref ra), (1, .int a1), (2, .int a2)] := hl
  unfold fX9_against at hyp
  refine lv_aload_n hx hb dX9_against_0 rfl (lv_at hl 0 rfl) ?_
  refine lv_iload_n hx hb dX9_against_1 rfl (lv_at hl 1 rfl) ?_
  obtain ⟨hi, hyp⟩ := grd_e hyp
  refine va_iald hx hb hE.1 hP 0 0 rfl rfl (inB_vp hi) dX9_against_2 ?_
  refine lv_if_ne (tgt := 8) hx hb dX9_against_3 (by decide) (fun h_1 => ?_) (fun h_1 => ?_)
  · replace hyp := ite_f h_1 hyp
    refine lv_iload_n hx hb dX9_against_8 rfl (lv_at hl 1 rfl) ?_
    refine lv_bipush (v := 7) hx hb dX9_against_9 (by decide) ?_
    refine lv_idiv hx hb dX9_against_11 (by decide) ?_
    refine lv_iload_n hx hb dX9_against_12 rfl (lv_at hl 2 rfl) ?_
    refine lv_bipush (v := 7) hx hb dX9_against_13 (by decide) ?_
    refine lv_idiv hx hb dX9_against_15 (by decide) ?_
    obtain ⟨J_3, eJ_3, hyp⟩ := jn_e hyp
    have kJ_3 : ∀ (t_2 : Int32) (ls : Array Slot), J_3 t_2 = some r → lv_has ls 6 [(0, .ref ra), (1, .int a1), (2, .int a2)] → W p l e R s m args below meth c s.heap [] 0 0 Q (F0 m 24 ls [.int t_2]) := by
      intro t_2  ls hyp hl
      replace hyp := (congrFun (eJ_3) t_2).symm.trans hyp
      refine lv_istore_n (lv' := [(3, .int t_2), (0, .ref ra), (1, .int a1), (2, .int a2)]) hx hb dX9_against_24 rfl hl (by decide) rfl (fun ls hl => ?_)
      refine lv_iload_n hx hb dX9_against_25 rfl (lv_at hl 2 rfl) ?_
      refine lv_iload_n hx hb dX9_against_26 rfl (lv_at hl 3 rfl) ?_
      refine lv_icmp_eq (tgt := 45) hx hb dX9_against_27 (by decide) (fun h_4 => ?_) (fun h_4 => ?_)
      · replace hyp := ite_t h_4 hyp
        refine lv_iconst (v := 2) hx hb dX9_against_45 (by decide) ?_
        subst hQ
        exact rI hx hb hr hlocks (some_e hyp) dX9_against_46
      · replace hyp := ite_f h_4 hyp
        refine lv_iload_n hx hb dX9_against_30 rfl (lv_at hl 0 rfl) ?_
        obtain ⟨J_5, eJ_5, hyp⟩ := jn_e hyp
        have kJ_5 : ∀ (ls : Array Slot), J_5 = some r → lv_has ls 6 [(0, .ref ra), (1, .int a1), (2, .int a2), (3, .int t_2)] → W p l e R s m args below meth c s.heap [] 0 0 Q (F0 m 47 ls []) := by
          intro  ls hyp hl
          replace hyp := (eJ_5).symm.trans hyp
          refine lv_iload_n hx hb dX9_against_47 rfl (lv_at hl 3 rfl) ?_
          obtain ⟨J_7, eJ_7, hyp⟩ := jn_e hyp
          have kJ_7 : ∀ (t_6 : Int32) (ls : Array Slot), J_7 t_6 = some r → lv_has ls 6 [(0, .ref ra), (1, .int a1), (2, .int a2)] → W p l e R s m args below meth c s.heap [] 0 0 Q (F0 m 74 ls [.int t_6]) := by
            intro t_6  ls hyp hl
            replace hyp := (congrFun (eJ_7) t_6).symm.trans hyp
            refine lv_istore (lv' := [(4, .int t_6), (0, .ref ra), (1, .int a1), (2, .int a2)]) hx hb dX9_against_74 hl (by decide) rfl (fun ls hl => ?_)
            refine lv_iload_n hx hb dX9_against_76 rfl (lv_at hl 2 rfl) ?_
            refine lv_iload hx hb dX9_against_77 (lv_at hl 0 rfl) ?_
            obtain ⟨r_8, hr_8, hyp⟩ := opt_e hyp
            refine pS (As := [.int a1, .int t_6]) (rest := []) ⟨hx, hb, hml, hown, hts⟩ hE (mX9_next l g a1 t_6 r_8 hr_8) cf_X9_next st_X9_next ml_X9_76 ⟨Nat.le_trans (Nat.le_of_ble_eq_true rfl) hRf, Nat.le_trans (Nat.le_of_ble_eq_true rfl) hRl⟩ (va_P_nil) rfl hl.1 rfl (Nat.le_of_ble_eq_true rfl) dX9_against_79 ⟨Nat.zero_le _, Nat.zero_le _⟩ ?_
            refine lv_istore (lv' := [(5, .int r_8), (4, .int t_6), (0, .ref ra), (1, .int a1), (2, .int a2)]) hx hb dX9_against_82 hl (by decide) rfl (fun ls hl => ?_)
            refine lp_i (r := r) (fun z : Int32 => ∀ (ls : Array Slot), lv_has ls 6 [(0, .ref ra), (1, .int a1), (2, .int a2), (4, .int t_6), (5, .int z)] → W p l e R s m args below meth c s.heap [] 0 0 Q (F0 m 84 ls [])) ?_ 64 r_8 hyp ls (lv_sub hl [2, 3, 4, 1, 0] rfl)
            intro self_10 ihself_10 z hyp ls hl
            generalize z = v5_9 at hyp hl ⊢
            replace hyp : fX9_against_L84_B row a1 a2 t_6 self_10 v5_9 = some r := hyp
            have hl : lv_has ls 6 [(0, .ref ra), (1, .int a1), (2, .int a2), (4, .int t_6), (5, .int v5_9)] := hl
            show W p l e R s m args below meth c s.heap [] 0 0 Q (F0 m 84 ls [])
            unfold fX9_against_L84_B at hyp
            refine lv_iload hx hb dX9_against_84 (lv_at hl 4 rfl) ?_
            refine lv_iload_n hx hb dX9_against_86 rfl (lv_at hl 2 rfl) ?_
            refine lv_iload hx hb dX9_against_87 (lv_at hl 3 rfl) ?_
            obtain ⟨r_11, hr_11, hyp⟩ := opt_e hyp
            refine pS (As := [.int a2, .int t_6]) (rest := [.int v5_9]) ⟨hx, hb, hml, hown, hts⟩ hE (mX9_next l g a2 t_6 r_11 hr_11) cf_X9_next st_X9_next ml_X9_76 ⟨Nat.le_trans (Nat.le_of_ble_eq_true rfl) hRf, Nat.le_trans (Nat.le_of_ble_eq_true rfl) hRl⟩ (va_P_nil) rfl hl.1 rfl (Nat.le_of_ble_eq_true rfl) dX9_against_89 ⟨Nat.zero_le _, Nat.zero_le _⟩ ?_
            refine lv_icmp_eq (tgt := 116) hx hb dX9_against_92 (by decide) (fun h_12 => ?_) (fun h_12 => ?_)
            · replace hyp := ite_t h_12 hyp
              refine lv_aload_n hx hb dX9_against_116 rfl (lv_at hl 0 rfl) ?_
              refine lv_iload_n hx hb dX9_against_117 rfl (lv_at hl 1 rfl) ?_
              obtain ⟨hi, hyp⟩ := grd_e hyp
              refine va_iald hx hb hE.1 hP 0 0 rfl rfl (inB_vp hi) dX9_against_118 ?_
              refine lv_iload_n hx hb dX9_against_119 rfl (lv_at hl 2 rfl) ?_
              obtain ⟨r_13, hr_13, hyp⟩ := opt_e hyp
              refine pS (As := [.int (row a1.toNatClampNeg), .int a2]) (rest := []) ⟨hx, hb, hml, hown, hts⟩ hE (mX9_rests l g (row a1.toNatClampNeg) a2 r_13 hr_13) cf_X9_rests st_X9_rests ml_X9_80 ⟨Nat.le_trans (Nat.le_of_ble_eq_true rfl) hRf, Nat.le_trans (Nat.le_of_ble_eq_true rfl) hRl⟩ (va_P_nil) rfl hl.1 rfl (Nat.le_of_ble_eq_true rfl) dX9_against_120 ⟨Nat.zero_le _, Nat.zero_le _⟩ ?_
              refine lv_if_eq (tgt := 130) hx hb dX9_against_123 (by decide) (fun h_14 => ?_) (fun h_14 => ?_)
              · replace hyp := ite_t h_14 hyp
                refine lv_iconst (v := 4) hx hb dX9_against_130 (by decide) ?_
                subst hQ
                exact rI hx hb hr hlocks (some_e hyp) dX9_against_131
              · replace hyp := ite_f h_14 hyp
                refine lv_iconst (v := 0) hx hb dX9_against_126 (by decide) ?_
                refine lv_goto (tgt := 131) hx hb dX9_against_127 (by decide) ?_
                subst hQ
                exact rI hx hb hr hlocks (some_e hyp) dX9_against_131
            · replace hyp := ite_f h_12 hyp
              refine lv_aload_n hx hb dX9_against_95 rfl (lv_at hl 0 rfl) ?_
              refine lv_iload hx hb dX9_against_96 (lv_at hl 4 rfl) ?_
              obtain ⟨hi, hyp⟩ := grd_e hyp
              refine va_iald hx hb hE.1 hP 0 0 rfl rfl (inB_vp hi) dX9_against_98 ?_
              refine lv_if_le (tgt := 104) hx hb dX9_against_99 (by decide) (fun h_15 => ?_) (fun h_15 => ?_)
              · replace hyp := ite_t h_15 hyp
                refine lv_iload hx hb dX9_against_104 (lv_at hl 4 rfl) ?_
                refine lv_iload hx hb dX9_against_106 (lv_at hl 3 rfl) ?_
                obtain ⟨r_16, hr_16, hyp⟩ := opt_e hyp
                refine pS (As := [.int v5_9, .int t_6]) (rest := []) ⟨hx, hb, hml, hown, hts⟩ hE (mX9_next l g v5_9 t_6 r_16 hr_16) cf_X9_next st_X9_next ml_X9_76 ⟨Nat.le_trans (Nat.le_of_ble_eq_true rfl) hRf, Nat.le_trans (Nat.le_of_ble_eq_true rfl) hRl⟩ (va_P_nil) rfl hl.1 rfl (Nat.le_of_ble_eq_true rfl) dX9_against_108 ⟨Nat.zero_le _, Nat.zero_le _⟩ ?_
                refine lv_istore (lv' := [(5, .int r_16), (0, .ref ra), (1, .int a1), (2, .int a2), (4, .int t_6)]) hx hb dX9_against_111 hl (by decide) rfl (fun ls hl => ?_)
                refine lv_goto (tgt := 84) hx hb dX9_against_113 (by decide) ?_
                exact ihself_10 r_16 hyp ls (lv_sub hl [1, 2, 3, 4, 0] rfl)
              · replace hyp := ite_f h_15 hyp
                refine lv_iconst (v := 3) hx hb dX9_against_102 (by decide) ?_
                subst hQ
                exact rI hx hb hr hlocks (some_e hyp) dX9_against_103
          refine lv_if_eq (tgt := 64) hx hb dX9_against_48 (by decide) (fun h_17 => ?_) (fun h_17 => ?_)
          · replace hyp := ite_t h_17 hyp
            refine lv_iload_n hx hb dX9_against_64 rfl (lv_at hl 2 rfl) ?_
            refine lv_iload_n hx hb dX9_against_65 rfl (lv_at hl 1 rfl) ?_
            refine lv_icmp_le (tgt := 73) hx hb dX9_against_66 (by decide) (fun h_18 => ?_) (fun h_18 => ?_)
            · replace hyp := ite_t h_18 hyp
              refine lv_iconst (v := 0) hx hb dX9_against_73 (by decide) ?_
              exact kJ_7 0 ls hyp (lv_sub hl [0, 1, 2] rfl)
            · replace hyp := ite_f h_18 hyp
              refine lv_iconst (v := 2) hx hb dX9_against_69 (by decide) ?_
              refine lv_goto (tgt := 74) hx hb dX9_against_70 (by decide) ?_
              exact kJ_7 2 ls hyp (lv_sub hl [0, 1, 2] rfl)
          · replace hyp := ite_f h_17 hyp
            refine lv_iload_n hx hb dX9_against_51 rfl (lv_at hl 2 rfl) ?_
            refine lv_iload_n hx hb dX9_against_52 rfl (lv_at hl 1 rfl) ?_
            refine lv_icmp_le (tgt := 60) hx hb dX9_against_53 (by decide) (fun h_19 => ?_) (fun h_19 => ?_)
            · replace hyp := ite_t h_19 hyp
              refine lv_iconst (v := 3) hx hb dX9_against_60 (by decide) ?_
              refine lv_goto (tgt := 74) hx hb dX9_against_61 (by decide) ?_
              exact kJ_7 3 ls hyp (lv_sub hl [0, 1, 2] rfl)
            · replace hyp := ite_f h_19 hyp
              refine lv_iconst (v := 1) hx hb dX9_against_56 (by decide) ?_
              refine lv_goto (tgt := 74) hx hb dX9_against_57 (by decide) ?_
              exact kJ_7 1 ls hyp (lv_sub hl [0, 1, 2] rfl)
        refine lv_if_ne (tgt := 47) hx hb dX9_against_31 (by decide) (fun h_20 => ?_) (fun h_20 => ?_)
        · replace hyp := ite_f h_20 hyp
          exact kJ_5 ls hyp (lv_sub hl [1, 2, 3, 0] rfl)
        · replace hyp := ite_t h_20 hyp
          refine lv_iload_n hx hb dX9_against_34 rfl (lv_at hl 2 rfl) ?_
          refine lv_bipush (v := 7) hx hb dX9_against_35 (by decide) ?_
          refine lv_irem hx hb dX9_against_37 (by decide) ?_
          refine lv_iload_n hx hb dX9_against_38 rfl (lv_at hl 3 rfl) ?_
          refine lv_bipush (v := 7) hx hb dX9_against_39 (by decide) ?_
          refine lv_irem hx hb dX9_against_41 (by decide) ?_
          refine lv_icmp_eq (tgt := 47) hx hb dX9_against_42 (by decide) (fun h_21 => ?_) (fun h_21 => ?_)
          · replace hyp := ite_t h_21 hyp
            exact kJ_5 ls hyp (lv_sub hl [1, 2, 3, 0] rfl)
          · replace hyp := ite_f h_21 hyp
            refine lv_iconst (v := 2) hx hb dX9_against_45 (by decide) ?_
            subst hQ
            exact rI hx hb hr hlocks (some_e hyp) dX9_against_46
    refine lv_icmp_ne (tgt := 23) hx hb dX9_against_16 (by decide) (fun h_22 => ?_) (fun h_22 => ?_)
    · replace hyp := ite_f h_22 hyp
      refine lv_iconst (v := 0) hx hb dX9_against_23 (by decide) ?_
      exact kJ_3 0 ls hyp hl
    · replace hyp := ite_t h_22 hyp
      refine lv_iconst (v := 1) hx hb dX9_against_19 (by decide) ?_
      refine lv_goto (tgt := 24) hx hb dX9_against_20 (by decide) ?_
      exact kJ_3 1 ls hyp hl
  · replace hyp := ite_t h_1 hyp
    refine lv_iconst (v := 1) hx hb dX9_against_6 (by decide) ?_
    subst hQ
    exact rI hx hb hr hlocks (some_e hyp) dX9_against_7

def fX9_goals_L22_B (row : Nat → Int32) (a1 : Int32) (self_3 : Int32 → Int32 → Option Int32) (v3_2 : Int32) (self_9 : Int32 → Int32 → Option Int32) (v2_7 : Int32) (v4_8 : Int32) : Option Int32 :=
  if v4_8 = (-1) then (self_3 v2_7 (v3_2 + 1)) else (grd (inB v4_8 61) (if (row v4_8.toNatClampNeg) = 0 then (grd (inB a1 61) ((fX9_rests (row a1.toNatClampNeg) v4_8).bind (fun (r_12 : Int32) => jn (fun (t_13 : Int32) => (fX9_next v4_8 v3_2).bind (fun (r_15 : Int32) => self_9 (v2_7 + t_13) r_15)) (fun J_14 => if r_12 = 0 then (J_14 0) else (J_14 1))))) else (self_3 v2_7 (v3_2 + 1))))
def fX9_goals_L22 (row : Nat → Int32) (a1 : Int32) (self_3 : Int32 → Int32 → Option Int32) (v3_2 : Int32) (n : Nat) (v2_7 : Int32) (v4_8 : Int32) : Option Int32 := lp (fun zf z => fX9_goals_L22_B row a1 self_3 v3_2 (fun v2_7 v4_8 => zf (v2_7, v4_8)) z.1 z.2) n (v2_7, v4_8)
def fX9_goals_L4_B (row : Nat → Int32) (a1 : Int32) (self_3 : Int32 → Int32 → Option Int32) (v2_1 : Int32) (v3_2 : Int32) : Option Int32 :=
  if 4 ≤ v3_2 then (some v2_1) else (grd (inB a1 61) (if (row a1.toNatClampNeg) ≤ 0 then (some v2_1) else ((fX9_next a1 v3_2).bind (fun (r_6 : Int32) => fX9_goals_L22 row a1 self_3 v3_2 64 v2_1 r_6))))
def fX9_goals_L4 (row : Nat → Int32) (a1 : Int32) (n : Nat) (v2_1 : Int32) (v3_2 : Int32) : Option Int32 := lp (fun zf z => fX9_goals_L4_B row a1 (fun v2_1 v3_2 => zf (v2_1, v3_2)) z.1 z.2) n (v2_1, v3_2)
def fX9_goals (row : Nat → Int32) (a1 : Int32) : Option Int32 :=
  fX9_goals_L4 row a1 64 0 0
set_option maxRecDepth 100000 in
set_option maxHeartbeats 4000000 in
theorem mX9_goals (l : Launch) (g : GE) (ra : Nat) (row : Nat → Int32) (a1 : Int32) (r : Int32) (hyp : fX9_goals row a1 = some r) : PI l yX9_goals cX9_goals 5 (some .int) 3 69 g [(ra, .inl (g.2.1, 61, .inl row))] [.ref ra, .int a1] r := by
  refine metP_intro (by decide) rfl ?_
  intro p e R s m args below meth c Q hRf hRl hQ hx hb hml hr hlocks hown hts hin hE hP ls hl
  have hown : s.vm.findClass "HallGuardsModel" = some m.cls := hown
  have hl : lv_has ls 5 [(0, .ref ra), (1, .int a1)] := hl
  unfold fX9_goals at hyp
  refine lv_iconst (v := 0) hx hb dX9_goals_0 (by decide) ?_
  refine lv_istore_n (lv' := [(2, .int 0), (0, .ref ra), (1, .int a1)]) hx hb dX9_goals_1 rfl hl (by decide) rfl (fun ls hl => ?_)
  refine lv_iconst (v := 0) hx hb dX9_goals_2 (by decide) ?_
  refine lv_istore_n (lv' := [(3, .int 0), (2, .int 0), (0, .ref ra), (1, .int a1)]) hx hb dX9_goals_3 rfl hl (by decide) rfl (fun ls hl => ?_)
  refine lp_i (r := r) (fun z : Int32 × Int32 => ∀ (ls : Array Slot), lv_has ls 5 [(0, .ref ra), (1, .int a1), (2, .int z.1), (3, .int z.2)] → W p l e R s m args below meth c s.heap [] 0 0 Q (F0 m 4 ls [])) ?_ 64 (0, 0) hyp ls (lv_sub hl [2, 3, 1, 0] rfl)
  intro self_3T ihself_3T z hyp ls hl
  obtain ⟨v2_1, v3_2⟩ := z
  obtain ⟨self_3, eself_3⟩ : ∃ f9 : Int32 → Int32 → Option Int32, f9 = fun v2_1 v3_2 => self_3T (v2_1, v3_2) := ⟨_, rfl⟩
  have ihself_3 := fun (v2_1 : Int32) (v3_2 : Int32) (h9 : self_3 v2_1 v3_2 = some r) => ihself_3T (v2_1, v3_2) (by rw [eself_3] at h9; exact h9)
  replace hyp : fX9_goals_L4_B row a1 self_3 v2_1 v3_2 = some r := by rw [eself_3]; exact hyp
  have hl : lv_has ls 5 [(0, .ref ra), (1, .int a1), (2, .int v2_1), (3, .int v3_2)] := hl
  show W p l e R s m args below meth c s.heap [] 0 0 Q (F0 m 4 ls [])
  unfold fX9_goals_L4_B at hyp
  refine lv_iload_n hx hb dX9_goals_4 rfl (lv_at hl 3 rfl) ?_
  refine lv_iconst (v := 4) hx hb dX9_goals_5 (by decide) ?_
  refine lv_icmp_ge (tgt := 71) hx hb dX9_goals_6 (by decide) (fun h_4 => ?_) (fun h_4 => ?_)
  · replace hyp := ite_t h_4 hyp
    refine lv_iload_n hx hb dX9_goals_71 rfl (lv_at hl 2 rfl) ?_
    subst hQ
    exact rI hx hb hr hlocks (some_e hyp) dX9_goals_72
  · replace hyp := ite_f h_4 hyp
    refine lv_aload_n hx hb dX9_goals_9 rfl (lv_at hl 0 rfl) ?_
    refine lv_iload_n hx hb dX9_goals_10 rfl (lv_at hl 1 rfl) ?_
    obtain ⟨hi, hyp⟩ := grd_e hyp
    refine va_iald hx hb hE.1 hP 0 0 rfl rfl (inB_vp hi) dX9_goals_11 ?_
    refine lv_if_le (tgt := 71) hx hb dX9_goals_12 (by decide) (fun h_5 => ?_) (fun h_5 => ?_)
    · replace hyp := ite_t h_5 hyp
      refine lv_iload_n hx hb dX9_goals_71 rfl (lv_at hl 2 rfl) ?_
      subst hQ
      exact rI hx hb hr hlocks (some_e hyp) dX9_goals_72
    · replace hyp := ite_f h_5 hyp
      refine lv_iload_n hx hb dX9_goals_15 rfl (lv_at hl 1 rfl) ?_
      refine lv_iload_n hx hb dX9_goals_16 rfl (lv_at hl 3 rfl) ?_
      obtain ⟨r_6, hr_6, hyp⟩ := opt_e hyp
      refine pS (As := [.int a1, .int v3_2]) (rest := []) ⟨hx, hb, hml, hown, hts⟩ hE (mX9_next l g a1 v3_2 r_6 hr_6) cf_X9_next st_X9_next ml_X9_76 ⟨Nat.le_trans (Nat.le_of_ble_eq_true rfl) hRf, Nat.le_trans (Nat.le_of_ble_eq_true rfl) hRl⟩ (va_P_nil) rfl hl.1 rfl (Nat.le_of_ble_eq_true rfl) dX9_goals_17 ⟨Nat.zero_le _, Nat.zero_le _⟩ ?_
      refine lv_istore (lv' := [(4, .int r_6), (0, .ref ra), (1, .int a1), (2, .int v2_1), (3, .int v3_2)]) hx hb dX9_goals_20 hl (by decide) rfl (fun ls hl => ?_)
      refine lp_i (r := r) (fun z : Int32 × Int32 => ∀ (ls : Array Slot), lv_has ls 5 [(0, .ref ra), (1, .int a1), (2, .int z.1), (3, .int v3_2), (4, .int z.2)] → W p l e R s m args below meth c s.heap [] 0 0 Q (F0 m 22 ls [])) ?_ 64 (v2_1, r_6) hyp ls (lv_sub hl [1, 2, 3, 4, 0] rfl)
      intro self_9T ihself_9T z hyp ls hl
      obtain ⟨v2_7, v4_8⟩ := z
      obtain ⟨self_9, eself_9⟩ : ∃ f9 : Int32 → Int32 → Option Int32, f9 = fun v2_7 v4_8 => self_9T (v2_7, v4_8) := ⟨_, rfl⟩
      have ihself_9 := fun (v2_7 : Int32) (v4_8 : Int32) (h9 : self_9 v2_7 v4_8 = some r) => ihself_9T (v2_7, v4_8) (by rw [eself_9] at h9; exact h9)
      replace hyp : fX9_goals_L22_B row a1 self_3 v3_2 self_9 v2_7 v4_8 = some r := by rw [eself_9]; exact hyp
      have hl : lv_has ls 5 [(0, .ref ra), (1, .int a1), (2, .int v2_7), (3, .int v3_2), (4, .int v4_8)] := hl
      show W p l e R s m args below meth c s.heap [] 0 0 Q (F0 m 22 ls [])
      unfold fX9_goals_L22_B at hyp
      refine lv_iload hx hb dX9_goals_22 (lv_at hl 4 rfl) ?_
      refine lv_iconst (v := (-1)) hx hb dX9_goals_24 (by decide) ?_
      refine lv_icmp_eq (tgt := 65) hx hb dX9_goals_25 (by decide) (fun h_10 => ?_) (fun h_10 => ?_)
      · replace hyp := ite_t h_10 hyp
        refine lv_iinc (v := v3_2 + 1) (lv' := [(3, .int (v3_2 + 1)), (0, .ref ra), (1, .int a1), (2, .int v2_7), (4, .int v4_8)]) hx hb dX9_goals_65 hl (k := 3) rfl rfl (by decide) rfl (fun ls hl => ?_)
        refine lv_goto (tgt := 4) hx hb dX9_goals_68 (by decide) ?_
        exact ihself_3 v2_7 (v3_2 + 1) hyp ls (lv_sub hl [1, 2, 3, 0] rfl)
      · replace hyp := ite_f h_10 hyp
        refine lv_aload_n hx hb dX9_goals_28 rfl (lv_at hl 0 rfl) ?_
        refine lv_iload hx hb dX9_goals_29 (lv_at hl 4 rfl) ?_
        obtain ⟨hi, hyp⟩ := grd_e hyp
        refine va_iald hx hb hE.1 hP 0 0 rfl rfl (inB_vp hi) dX9_goals_31 ?_
        refine lv_if_ne (tgt := 65) hx hb dX9_goals_32 (by decide) (fun h_11 => ?_) (fun h_11 => ?_)
        · replace hyp := ite_f h_11 hyp
          refine lv_iinc (v := v3_2 + 1) (lv' := [(3, .int (v3_2 + 1)), (0, .ref ra), (1, .int a1), (2, .int v2_7), (4, .int v4_8)]) hx hb dX9_goals_65 hl (k := 3) rfl rfl (by decide) rfl (fun ls hl => ?_)
          refine lv_goto (tgt := 4) hx hb dX9_goals_68 (by decide) ?_
          exact ihself_3 v2_7 (v3_2 + 1) hyp ls (lv_sub hl [1, 2, 3, 0] rfl)
        · replace hyp := ite_t h_11 hyp
          refine lv_iload_n hx hb dX9_goals_35 rfl (lv_at hl 2 rfl) ?_
          refine lv_aload_n hx hb dX9_goals_36 rfl (lv_at hl 0 rfl) ?_
          refine lv_iload_n hx hb dX9_goals_37 rfl (lv_at hl 1 rfl) ?_
          obtain ⟨hi, hyp⟩ := grd_e hyp
          refine va_iald hx hb hE.1 hP 0 0 rfl rfl (inB_vp hi) dX9_goals_38 ?_
          refine lv_iload hx hb dX9_goals_39 (lv_at hl 4 rfl) ?_
          obtain ⟨r_12, hr_12, hyp⟩ := opt_e hyp
          refine pS (As := [.int (row a1.toNatClampNeg), .int v4_8]) (rest := [.int v2_7]) ⟨hx, hb, hml, hown, hts⟩ hE (mX9_rests l g (row a1.toNatClampNeg) v4_8 r_12 hr_12) cf_X9_rests st_X9_rests ml_X9_80 ⟨Nat.le_trans (Nat.le_of_ble_eq_true rfl) hRf, Nat.le_trans (Nat.le_of_ble_eq_true rfl) hRl⟩ (va_P_nil) rfl hl.1 rfl (Nat.le_of_ble_eq_true rfl) dX9_goals_41 ⟨Nat.zero_le _, Nat.zero_le _⟩ ?_
          obtain ⟨J_14, eJ_14, hyp⟩ := jn_e hyp
          have kJ_14 : ∀ (t_13 : Int32) (ls : Array Slot), J_14 t_13 = some r → lv_has ls 5 [(0, .ref ra), (1, .int a1), (3, .int v3_2), (4, .int v4_8)] → W p l e R s m args below meth c s.heap [] 0 0 Q (F0 m 52 ls [.int t_13, .int v2_7]) := by
            intro t_13  ls hyp hl
            replace hyp := (congrFun (eJ_14) t_13).symm.trans hyp
            refine lv_iadd hx hb dX9_goals_52 ?_
            refine lv_istore_n (lv' := [(2, .int (v2_7 + t_13)), (0, .ref ra), (1, .int a1), (3, .int v3_2), (4, .int v4_8)]) hx hb dX9_goals_53 rfl hl (by decide) rfl (fun ls hl => ?_)
            refine lv_iload hx hb dX9_goals_54 (lv_at hl 4 rfl) ?_
            refine lv_iload_n hx hb dX9_goals_56 rfl (lv_at hl 3 rfl) ?_
            obtain ⟨r_15, hr_15, hyp⟩ := opt_e hyp
            refine pS (As := [.int v4_8, .int v3_2]) (rest := []) ⟨hx, hb, hml, hown, hts⟩ hE (mX9_next l g v4_8 v3_2 r_15 hr_15) cf_X9_next st_X9_next ml_X9_76 ⟨Nat.le_trans (Nat.le_of_ble_eq_true rfl) hRf, Nat.le_trans (Nat.le_of_ble_eq_true rfl) hRl⟩ (va_P_nil) rfl hl.1 rfl (Nat.le_of_ble_eq_true rfl) dX9_goals_57 ⟨Nat.zero_le _, Nat.zero_le _⟩ ?_
            refine lv_istore (lv' := [(4, .int r_15), (2, .int (v2_7 + t_13)), (0, .ref ra), (1, .int a1), (3, .int v3_2)]) hx hb dX9_goals_60 hl (by decide) rfl (fun ls hl => ?_)
            refine lv_goto (tgt := 22) hx hb dX9_goals_62 (by decide) ?_
            exact ihself_9 (v2_7 + t_13) r_15 hyp ls (lv_sub hl [2, 3, 1, 4, 0] rfl)
          refine lv_if_eq (tgt := 51) hx hb dX9_goals_44 (by decide) (fun h_16 => ?_) (fun h_16 => ?_)
          · replace hyp := ite_t h_16 hyp
            refine lv_iconst (v := 0) hx hb dX9_goals_51 (by decide) ?_
            exact kJ_14 0 ls hyp (lv_sub hl [0, 1, 3, 4] rfl)
          · replace hyp := ite_f h_16 hyp
            refine lv_iconst (v := 1) hx hb dX9_goals_47 (by decide) ?_
            refine lv_goto (tgt := 52) hx hb dX9_goals_48 (by decide) ?_
            exact kJ_14 1 ls hyp (lv_sub hl [0, 1, 3, 4] rfl)

def fX9_moveCount_L4_B (row : Nat → Int32) (a1 : Int32) (self_3 : Int32 → Int32 → Option Int32) (v2_1 : Int32) (v3_2 : Int32) : Option Int32 :=
  if 49 ≤ v3_2 then (some v2_1) else (grd (inB v3_2 61) ((fX9_side (row v3_2.toNatClampNeg)).bind (fun (r_5 : Int32) => jn (fun (t_6 : Int32) => self_3 (v2_1 + t_6) (v3_2 + 1)) (fun J_7 => if r_5 = a1 then ((fX9_goals row v3_2).bind (fun (r_9 : Int32) => J_7 r_9)) else (J_7 0)))))
def fX9_moveCount_L4 (row : Nat → Int32) (a1 : Int32) (n : Nat) (v2_1 : Int32) (v3_2 : Int32) : Option Int32 := lp (fun zf z => fX9_moveCount_L4_B row a1 (fun v2_1 v3_2 => zf (v2_1, v3_2)) z.1 z.2) n (v2_1, v3_2)
def fX9_moveCount (row : Nat → Int32) (a1 : Int32) : Option Int32 :=
  fX9_moveCount_L4 row a1 64 0 0
set_option maxRecDepth 100000 in
set_option maxHeartbeats 4000000 in
theorem mX9_moveCount (l : Launch) (g : GE) (ra : Nat) (row : Nat → Int32) (a1 : Int32) (r : Int32) (hyp : fX9_moveCount row a1 = some r) : PI l yX9_moveCount cX9_moveCount 4 (some .int) 4 93 g [(ra, .inl (g.2.1, 61, .inl row))] [.ref ra, .int a1] r := by
  refine metP_intro (by decide) rfl ?_
  intro p e R s m args below meth c Q hRf hRl hQ hx hb hml hr hlocks hown hts hin hE hP ls hl
  have hown : s.vm.findClass "HallGuardsModel" = some m.cls := hown
  have hl : lv_has ls 4 [(0, .ref ra), (1, .int a1)] := hl
  unfold fX9_moveCount at hyp
  refine lv_iconst (v := 0) hx hb dX9_moveCount_0 (by decide) ?_
  refine lv_istore_n (lv' := [(2, .int 0), (0, .ref ra), (1, .int a1)]) hx hb dX9_moveCount_1 rfl hl (by decide) rfl (fun ls hl => ?_)
  refine lv_iconst (v := 0) hx hb dX9_moveCount_2 (by decide) ?_
  refine lv_istore_n (lv' := [(3, .int 0), (2, .int 0), (0, .ref ra), (1, .int a1)]) hx hb dX9_moveCount_3 rfl hl (by decide) rfl (fun ls hl => ?_)
  refine lp_i (r := r) (fun z : Int32 × Int32 => ∀ (ls : Array Slot), lv_has ls 4 [(0, .ref ra), (1, .int a1), (2, .int z.1), (3, .int z.2)] → W p l e R s m args below meth c s.heap [] 0 0 Q (F0 m 4 ls [])) ?_ 64 (0, 0) hyp ls (lv_sub hl [2, 3, 1, 0] rfl)
  intro self_3T ihself_3T z hyp ls hl
  obtain ⟨v2_1, v3_2⟩ := z
  obtain ⟨self_3, eself_3⟩ : ∃ f9 : Int32 → Int32 → Option Int32, f9 = fun v2_1 v3_2 => self_3T (v2_1, v3_2) := ⟨_, rfl⟩
  have ihself_3 := fun (v2_1 : Int32) (v3_2 : Int32) (h9 : self_3 v2_1 v3_2 = some r) => ihself_3T (v2_1, v3_2) (by rw [eself_3] at h9; exact h9)
  replace hyp : fX9_moveCount_L4_B row a1 self_3 v2_1 v3_2 = some r := by rw [eself_3]; exact hyp
  have hl : lv_has ls 4 [(0, .ref ra), (1, .int a1), (2, .int v2_1), (3, .int v3_2)] := hl
  show W p l e R s m args below meth c s.heap [] 0 0 Q (F0 m 4 ls [])
  unfold fX9_moveCount_L4_B at hyp
  refine lv_iload_n hx hb dX9_moveCount_4 rfl (lv_at hl 3 rfl) ?_
  refine lv_bipush (v := 49) hx hb dX9_moveCount_5 (by decide) ?_
  refine lv_icmp_ge (tgt := 38) hx hb dX9_moveCount_7 (by decide) (fun h_4 => ?_) (fun h_4 => ?_)
  · replace hyp := ite_t h_4 hyp
    refine lv_iload_n hx hb dX9_moveCount_38 rfl (lv_at hl 2 rfl) ?_
    subst hQ
    exact rI hx hb hr hlocks (some_e hyp) dX9_moveCount_39
  · replace hyp := ite_f h_4 hyp
    refine lv_iload_n hx hb dX9_moveCount_10 rfl (lv_at hl 2 rfl) ?_
    refine lv_aload_n hx hb dX9_moveCount_11 rfl (lv_at hl 0 rfl) ?_
    refine lv_iload_n hx hb dX9_moveCount_12 rfl (lv_at hl 3 rfl) ?_
    obtain ⟨hi, hyp⟩ := grd_e hyp
    refine va_iald hx hb hE.1 hP 0 0 rfl rfl (inB_vp hi) dX9_moveCount_13 ?_
    obtain ⟨r_5, hr_5, hyp⟩ := opt_e hyp
    refine pS (As := [.int (row v3_2.toNatClampNeg)]) (rest := [.int v2_1]) ⟨hx, hb, hml, hown, hts⟩ hE (mX9_side l g (row v3_2.toNatClampNeg) r_5 hr_5) cf_X9_side st_X9_side ml_X9_72 ⟨Nat.le_trans (Nat.le_of_ble_eq_true rfl) hRf, Nat.le_trans (Nat.le_of_ble_eq_true rfl) hRl⟩ (va_P_nil) rfl hl.1 rfl (Nat.le_of_ble_eq_true rfl) dX9_moveCount_14 ⟨Nat.zero_le _, Nat.zero_le _⟩ ?_
    refine lv_iload_n hx hb dX9_moveCount_17 rfl (lv_at hl 1 rfl) ?_
    obtain ⟨J_7, eJ_7, hyp⟩ := jn_e hyp
    have kJ_7 : ∀ (t_6 : Int32) (ls : Array Slot), J_7 t_6 = some r → lv_has ls 4 [(0, .ref ra), (1, .int a1), (3, .int v3_2)] → W p l e R s m args below meth c s.heap [] 0 0 Q (F0 m 30 ls [.int t_6, .int v2_1]) := by
      intro t_6  ls hyp hl
      replace hyp := (congrFun (eJ_7) t_6).symm.trans hyp
      refine lv_iadd hx hb dX9_moveCount_30 ?_
      refine lv_istore_n (lv' := [(2, .int (v2_1 + t_6)), (0, .ref ra), (1, .int a1), (3, .int v3_2)]) hx hb dX9_moveCount_31 rfl hl (by decide) rfl (fun ls hl => ?_)
      refine lv_iinc (v := v3_2 + 1) (lv' := [(3, .int (v3_2 + 1)), (2, .int (v2_1 + t_6)), (0, .ref ra), (1, .int a1)]) hx hb dX9_moveCount_32 hl (k := 3) rfl rfl (by decide) rfl (fun ls hl => ?_)
      refine lv_goto (tgt := 4) hx hb dX9_moveCount_35 (by decide) ?_
      exact ihself_3 (v2_1 + t_6) (v3_2 + 1) hyp ls (lv_sub hl [2, 3, 1, 0] rfl)
    refine lv_icmp_ne (tgt := 29) hx hb dX9_moveCount_18 (by decide) (fun h_8 => ?_) (fun h_8 => ?_)
    · replace hyp := ite_f h_8 hyp
      refine lv_iconst (v := 0) hx hb dX9_moveCount_29 (by decide) ?_
      exact kJ_7 0 ls hyp (lv_sub hl [0, 1, 3] rfl)
    · replace hyp := ite_t h_8 hyp
      refine lv_aload_n hx hb dX9_moveCount_21 rfl (lv_at hl 0 rfl) ?_
      refine lv_iload_n hx hb dX9_moveCount_22 rfl (lv_at hl 3 rfl) ?_
      obtain ⟨r_9, hr_9, hyp⟩ := opt_e hyp
      refine pS (As := [.ref ra, .int v3_2]) (rest := [.int v2_1]) ⟨hx, hb, hml, hown, hts⟩ hE (mX9_goals l g ra row v3_2 r_9 hr_9) cf_X9_goals st_X9_goals ml_X9_83 ⟨Nat.le_trans (Nat.le_of_ble_eq_true rfl) hRf, Nat.le_trans (Nat.le_of_ble_eq_true rfl) hRl⟩ (hP.sub (ws' := [(ra, .inl (g.2.1, 61, .inl row))]) [0] rfl) rfl hl.1 rfl (Nat.le_of_ble_eq_true rfl) dX9_moveCount_23 ⟨Nat.zero_le _, Nat.zero_le _⟩ ?_
      refine lv_goto (tgt := 30) hx hb dX9_moveCount_26 (by decide) ?_
      exact kJ_7 r_9 ls hyp (lv_sub hl [0, 1, 3] rfl)

def fX9_isShut_L4_B (row : Nat → Int32) (a1 : Int32) (self_3 : Int32 → Int32 → Option Int32) (v2_1 : Int32) (v3_2 : Int32) : Option Int32 :=
  if 4 ≤ v3_2 then (grd (is01 v2_1) (some v2_1)) else ((fX9_next a1 v3_2).bind (fun (r_5 : Int32) => jn (fun (t_6 : Int32) => self_3 t_6 (v3_2 + 1)) (fun J_7 => jn (J_7 0) (fun J_8 => if v2_1 = 0 then (J_8) else (if r_5 = (-1) then (J_8) else ((fX9_hostile row r_5 1).bind (fun (r_11 : Int32) => if r_11 = 0 then (J_8) else (J_7 1))))))))
def fX9_isShut_L4 (row : Nat → Int32) (a1 : Int32) (n : Nat) (v2_1 : Int32) (v3_2 : Int32) : Option Int32 := lp (fun zf z => fX9_isShut_L4_B row a1 (fun v2_1 v3_2 => zf (v2_1, v3_2)) z.1 z.2) n (v2_1, v3_2)
def fX9_isShut (row : Nat → Int32) (a1 : Int32) : Option Int32 :=
  fX9_isShut_L4 row a1 64 1 0
set_option maxRecDepth 100000 in
set_option maxHeartbeats 4000000 in
theorem mX9_isShut (l : Launch) (g : GE) (ra : Nat) (row : Nat → Int32) (a1 : Int32) (r : Int32) (hyp : fX9_isShut row a1 = some r) : PI l yX9_isShut cX9_isShut 5 (some .boolean) 3 69 g [(ra, .inl (g.2.1, 61, .inl row))] [.ref ra, .int a1] r := by
  refine metP_intro (by decide) rfl ?_
  intro p e R s m args below meth c Q hRf hRl hQ hx hb hml hr hlocks hown hts hin hE hP ls hl
  have hown : s.vm.findClass "HallGuardsModel" = some m.cls := hown
  have hl : lv_has ls 5 [(0, .ref ra), (1, .int a1)] := hl
  unfold fX9_isShut at hyp
  refine lv_iconst (v := 1) hx hb dX9_isShut_0 (by decide) ?_
  refine lv_istore_n (lv' := [(2, .int 1), (0, .ref ra), (1, .int a1)]) hx hb dX9_isShut_1 rfl hl (by decide) rfl (fun ls hl => ?_)
  refine lv_iconst (v := 0) hx hb dX9_isShut_2 (by decide) ?_
  refine lv_istore_n (lv' := [(3, .int 0), (2, .int 1), (0, .ref ra), (1, .int a1)]) hx hb dX9_isShut_3 rfl hl (by decide) rfl (fun ls hl => ?_)
  refine lp_i (r := r) (fun z : Int32 × Int32 => ∀ (ls : Array Slot), lv_has ls 5 [(0, .ref ra), (1, .int a1), (2, .int z.1), (3, .int z.2)] → W p l e R s m args below meth c s.heap [] 0 0 Q (F0 m 4 ls [])) ?_ 64 (1, 0) hyp ls (lv_sub hl [2, 3, 1, 0] rfl)
  intro self_3T ihself_3T z hyp ls hl
  obtain ⟨v2_1, v3_2⟩ := z
  obtain ⟨self_3, eself_3⟩ : ∃ f9 : Int32 → Int32 → Option Int32, f9 = fun v2_1 v3_2 => self_3T (v2_1, v3_2) := ⟨_, rfl⟩
  have ihself_3 := fun (v2_1 : Int32) (v3_2 : Int32) (h9 : self_3 v2_1 v3_2 = some r) => ihself_3T (v2_1, v3_2) (by rw [eself_3] at h9; exact h9)
  replace hyp : fX9_isShut_L4_B row a1 self_3 v2_1 v3_2 = some r := by rw [eself_3]; exact hyp
  have hl : lv_has ls 5 [(0, .ref ra), (1, .int a1), (2, .int v2_1), (3, .int v3_2)] := hl
  show W p l e R s m args below meth c s.heap [] 0 0 Q (F0 m 4 ls [])
  unfold fX9_isShut_L4_B at hyp
  refine lv_iload_n hx hb dX9_isShut_4 rfl (lv_at hl 3 rfl) ?_
  refine lv_iconst (v := 4) hx hb dX9_isShut_5 (by decide) ?_
  refine lv_icmp_ge (tgt := 48) hx hb dX9_isShut_6 (by decide) (fun h_4 => ?_) (fun h_4 => ?_)
  · replace hyp := ite_t h_4 hyp
    refine lv_iload_n hx hb dX9_isShut_48 rfl (lv_at hl 2 rfl) ?_
    obtain ⟨h01, hyp⟩ := grd_e hyp
    subst hQ
    exact rZ hx hb hr hlocks (is01_e h01) (some_e hyp) dX9_isShut_49
  · replace hyp := ite_f h_4 hyp
    refine lv_iload_n hx hb dX9_isShut_9 rfl (lv_at hl 1 rfl) ?_
    refine lv_iload_n hx hb dX9_isShut_10 rfl (lv_at hl 3 rfl) ?_
    obtain ⟨r_5, hr_5, hyp⟩ := opt_e hyp
    refine pS (As := [.int a1, .int v3_2]) (rest := []) ⟨hx, hb, hml, hown, hts⟩ hE (mX9_next l g a1 v3_2 r_5 hr_5) cf_X9_next st_X9_next ml_X9_76 ⟨Nat.le_trans (Nat.le_of_ble_eq_true rfl) hRf, Nat.le_trans (Nat.le_of_ble_eq_true rfl) hRl⟩ (va_P_nil) rfl hl.1 rfl (Nat.le_of_ble_eq_true rfl) dX9_isShut_11 ⟨Nat.zero_le _, Nat.zero_le _⟩ ?_
    refine lv_istore (lv' := [(4, .int r_5), (0, .ref ra), (1, .int a1), (2, .int v2_1), (3, .int v3_2)]) hx hb dX9_isShut_14 hl (by decide) rfl (fun ls hl => ?_)
    refine lv_iload_n hx hb dX9_isShut_16 rfl (lv_at hl 3 rfl) ?_
    obtain ⟨J_7, eJ_7, hyp⟩ := jn_e hyp
    have kJ_7 : ∀ (t_6 : Int32) (ls : Array Slot), J_7 t_6 = some r → lv_has ls 5 [(0, .ref ra), (1, .int a1), (3, .int v3_2)] → W p l e R s m args below meth c s.heap [] 0 0 Q (F0 m 41 ls [.int t_6]) := by
      intro t_6  ls hyp hl
      replace hyp := (congrFun (eJ_7) t_6).symm.trans hyp
      refine lv_istore_n (lv' := [(2, .int t_6), (0, .ref ra), (1, .int a1), (3, .int v3_2)]) hx hb dX9_isShut_41 rfl hl (by decide) rfl (fun ls hl => ?_)
      refine lv_iinc (v := v3_2 + 1) (lv' := [(3, .int (v3_2 + 1)), (2, .int t_6), (0, .ref ra), (1, .int a1)]) hx hb dX9_isShut_42 hl (k := 3) rfl rfl (by decide) rfl (fun ls hl => ?_)
      refine lv_goto (tgt := 4) hx hb dX9_isShut_45 (by decide) ?_
      exact ihself_3 t_6 (v3_2 + 1) hyp ls (lv_sub hl [2, 3, 1, 0] rfl)
    obtain ⟨J_8, eJ_8, hyp⟩ := jn_e hyp
    have kJ_8 : ∀ (ls : Array Slot), J_8 = some r → lv_has ls 5 [(0, .ref ra), (1, .int a1), (3, .int v3_2)] → W p l e R s m args below meth c s.heap [] 0 0 Q (F0 m 40 ls []) := by
      intro  ls hyp hl
      replace hyp := (eJ_8).symm.trans hyp
      refine lv_iconst (v := 0) hx hb dX9_isShut_40 (by decide) ?_
      exact kJ_7 0 ls hyp hl
    refine lv_if_eq (tgt := 40) hx hb dX9_isShut_17 (by decide) (fun h_9 => ?_) (fun h_9 => ?_)
    · replace hyp := ite_t h_9 hyp
      exact kJ_8 ls hyp (lv_sub hl [1, 2, 4] rfl)
    · replace hyp := ite_f h_9 hyp
      refine lv_iload hx hb dX9_isShut_20 (lv_at hl 0 rfl) ?_
      refine lv_iconst (v := (-1)) hx hb dX9_isShut_22 (by decide) ?_
      refine lv_icmp_eq (tgt := 40) hx hb dX9_isShut_23 (by decide) (fun h_10 => ?_) (fun h_10 => ?_)
      · replace hyp := ite_t h_10 hyp
        exact kJ_8 ls hyp (lv_sub hl [1, 2, 4] rfl)
      · replace hyp := ite_f h_10 hyp
        refine lv_aload_n hx hb dX9_isShut_26 rfl (lv_at hl 1 rfl) ?_
        refine lv_iload hx hb dX9_isShut_27 (lv_at hl 0 rfl) ?_
        refine lv_iconst (v := 1) hx hb dX9_isShut_29 (by decide) ?_
        obtain ⟨r_11, hr_11, hyp⟩ := opt_e hyp
        refine pS (As := [.ref ra, .int r_5, .int 1]) (rest := []) ⟨hx, hb, hml, hown, hts⟩ hE (mX9_hostile l g ra row r_5 1 r_11 hr_11) cf_X9_hostile st_X9_hostile ml_X9_87 ⟨Nat.le_trans (Nat.le_of_ble_eq_true rfl) hRf, Nat.le_trans (Nat.le_of_ble_eq_true rfl) hRl⟩ (hP.sub (ws' := [(ra, .inl (g.2.1, 61, .inl row))]) [0] rfl) rfl hl.1 rfl (Nat.le_of_ble_eq_true rfl) dX9_isShut_30 ⟨Nat.zero_le _, Nat.zero_le _⟩ ?_
        refine lv_if_eq (tgt := 40) hx hb dX9_isShut_33 (by decide) (fun h_12 => ?_) (fun h_12 => ?_)
        · replace hyp := ite_t h_12 hyp
          exact kJ_8 ls hyp (lv_sub hl [1, 2, 4] rfl)
        · replace hyp := ite_f h_12 hyp
          refine lv_iconst (v := 1) hx hb dX9_isShut_36 (by decide) ?_
          refine lv_goto (tgt := 41) hx hb dX9_isShut_37 (by decide) ?_
          exact kJ_7 1 ls hyp (lv_sub hl [1, 2, 4] rfl)

def fX9_isStrongAt_L14_B (row : Nat → Int32) (a1 : Int32) (self_5 : Int32 → Int32 → Option Int32) (v2_3 : Int32) (v3_4 : Int32) : Option Int32 :=
  if 4 ≤ v3_4 then (if v2_3 = 0 then (grd (inB 52 61) (if (row (52 : Int32).toNatClampNeg) = 1 then (some 1) else (some 0))) else (some 1)) else (jn (fun (t_9 : Int32) => self_5 t_9 (v3_4 + 1)) (fun J_10 => jn (J_10 1) (fun J_11 => if v2_3 = 0 then ((fX9_next a1 v3_4).bind (fun (r_13 : Int32) => if r_13 = 24 then (J_11) else (J_10 0))) else (J_11))))
def fX9_isStrongAt_L14 (row : Nat → Int32) (a1 : Int32) (n : Nat) (v2_3 : Int32) (v3_4 : Int32) : Option Int32 := lp (fun zf z => fX9_isStrongAt_L14_B row a1 (fun v2_3 v3_4 => zf (v2_3, v3_4)) z.1 z.2) n (v2_3, v3_4)
def fX9_isStrongAt (row : Nat → Int32) (a1 : Int32) : Option Int32 :=
  jn (fun (t_1 : Int32) => fX9_isStrongAt_L14 row a1 64 t_1 0) (fun J_2 => if a1 = 24 then (J_2 1) else (J_2 0))
set_option maxRecDepth 100000 in
set_option maxHeartbeats 4000000 in
theorem mX9_isStrongAt (l : Launch) (g : GE) (ra : Nat) (row : Nat → Int32) (a1 : Int32) (r : Int32) (hyp : fX9_isStrongAt row a1 = some r) : PI l yX9_isStrongAt cX9_isStrongAt 4 (some .boolean) 3 69 g [(ra, .inl (g.2.1, 61, .inl row))] [.ref ra, .int a1] r := by
  refine metP_intro (by decide) rfl ?_
  intro p e R s m args below meth c Q hRf hRl hQ hx hb hml hr hlocks hown hts hin hE hP ls hl
  have hown : s.vm.findClass "HallGuardsModel" = some m.cls := hown
  have hl : lv_has ls 4 [(0, .ref ra), (1, .int a1)] := hl
  unfold fX9_isStrongAt at hyp
  refine lv_iload_n hx hb dX9_isStrongAt_0 rfl (lv_at hl 1 rfl) ?_
  refine lv_bipush (v := 24) hx hb dX9_isStrongAt_1 (by decide) ?_
  obtain ⟨J_2, eJ_2, hyp⟩ := jn_e hyp
  have kJ_2 : ∀ (t_1 : Int32) (ls : Array Slot), J_2 t_1 = some r → lv_has ls 4 [(0, .ref ra), (1, .int a1)] → W p l e R s m args below meth c s.heap [] 0 0 Q (F0 m 11 ls [.int t_1]) := by
    intro t_1  ls hyp hl
    replace hyp := (congrFun (eJ_2) t_1).symm.trans hyp
    refine lv_istore_n (lv' := [(2, .int t_1), (0, .ref ra), (1, .int a1)]) hx hb dX9_isStrongAt_11 rfl hl (by decide) rfl (fun ls hl => ?_)
    refine lv_iconst (v := 0) hx hb dX9_isStrongAt_12 (by decide) ?_
    refine lv_istore_n (lv' := [(3, .int 0), (2, .int t_1), (0, .ref ra), (1, .int a1)]) hx hb dX9_isStrongAt_13 rfl hl (by decide) rfl (fun ls hl => ?_)
    refine lp_i (r := r) (fun z : Int32 × Int32 => ∀ (ls : Array Slot), lv_has ls 4 [(0, .ref ra), (1, .int a1), (2, .int z.1), (3, .int z.2)] → W p l e R s m args below meth c s.heap [] 0 0 Q (F0 m 14 ls [])) ?_ 64 (t_1, 0) hyp ls (lv_sub hl [2, 3, 1, 0] rfl)
    intro self_5T ihself_5T z hyp ls hl
    obtain ⟨v2_3, v3_4⟩ := z
    obtain ⟨self_5, eself_5⟩ : ∃ f9 : Int32 → Int32 → Option Int32, f9 = fun v2_3 v3_4 => self_5T (v2_3, v3_4) := ⟨_, rfl⟩
    have ihself_5 := fun (v2_3 : Int32) (v3_4 : Int32) (h9 : self_5 v2_3 v3_4 = some r) => ihself_5T (v2_3, v3_4) (by rw [eself_5] at h9; exact h9)
    replace hyp : fX9_isStrongAt_L14_B row a1 self_5 v2_3 v3_4 = some r := by rw [eself_5]; exact hyp
    have hl : lv_has ls 4 [(0, .ref ra), (1, .int a1), (2, .int v2_3), (3, .int v3_4)] := hl
    show W p l e R s m args below meth c s.heap [] 0 0 Q (F0 m 14 ls [])
    unfold fX9_isStrongAt_L14_B at hyp
    refine lv_iload_n hx hb dX9_isStrongAt_14 rfl (lv_at hl 3 rfl) ?_
    refine lv_iconst (v := 4) hx hb dX9_isStrongAt_15 (by decide) ?_
    refine lv_icmp_ge (tgt := 45) hx hb dX9_isStrongAt_16 (by decide) (fun h_6 => ?_) (fun h_6 => ?_)
    · replace hyp := ite_t h_6 hyp
      refine lv_iload_n hx hb dX9_isStrongAt_45 rfl (lv_at hl 2 rfl) ?_
      refine lv_if_ne (tgt := 57) hx hb dX9_isStrongAt_46 (by decide) (fun h_7 => ?_) (fun h_7 => ?_)
      · replace hyp := ite_f h_7 hyp
        refine lv_iconst (v := 1) hx hb dX9_isStrongAt_57 (by decide) ?_
        refine lv_goto (tgt := 62) hx hb dX9_isStrongAt_58 (by decide) ?_
        subst hQ
        exact rZ hx hb hr hlocks (Or.inr rfl) (some_e hyp) dX9_isStrongAt_62
      · replace hyp := ite_t h_7 hyp
        refine lv_aload_n hx hb dX9_isStrongAt_49 rfl (lv_at hl 0 rfl) ?_
        refine lv_bipush (v := 52) hx hb dX9_isStrongAt_50 (by decide) ?_
        obtain ⟨hi, hyp⟩ := grd_e hyp
        refine va_iald hx hb hE.1 hP 0 0 rfl rfl (inB_vp hi) dX9_isStrongAt_52 ?_
        refine lv_iconst (v := 1) hx hb dX9_isStrongAt_53 (by decide) ?_
        refine lv_icmp_ne (tgt := 61) hx hb dX9_isStrongAt_54 (by decide) (fun h_8 => ?_) (fun h_8 => ?_)
        · replace hyp := ite_f h_8 hyp
          refine lv_iconst (v := 0) hx hb dX9_isStrongAt_61 (by decide) ?_
          subst hQ
          exact rZ hx hb hr hlocks (Or.inl rfl) (some_e hyp) dX9_isStrongAt_62
        · replace hyp := ite_t h_8 hyp
          refine lv_iconst (v := 1) hx hb dX9_isStrongAt_57 (by decide) ?_
          refine lv_goto (tgt := 62) hx hb dX9_isStrongAt_58 (by decide) ?_
          subst hQ
          exact rZ hx hb hr hlocks (Or.inr rfl) (some_e hyp) dX9_isStrongAt_62
    · replace hyp := ite_f h_6 hyp
      refine lv_iload_n hx hb dX9_isStrongAt_19 rfl (lv_at hl 2 rfl) ?_
      obtain ⟨J_10, eJ_10, hyp⟩ := jn_e hyp
      have kJ_10 : ∀ (t_9 : Int32) (ls : Array Slot), J_10 t_9 = some r → lv_has ls 4 [(0, .ref ra), (1, .int a1), (3, .int v3_4)] → W p l e R s m args below meth c s.heap [] 0 0 Q (F0 m 38 ls [.int t_9]) := by
        intro t_9  ls hyp hl
        replace hyp := (congrFun (eJ_10) t_9).symm.trans hyp
        refine lv_istore_n (lv' := [(2, .int t_9), (0, .ref ra), (1, .int a1), (3, .int v3_4)]) hx hb dX9_isStrongAt_38 rfl hl (by decide) rfl (fun ls hl => ?_)
        refine lv_iinc (v := v3_4 + 1) (lv' := [(3, .int (v3_4 + 1)), (2, .int t_9), (0, .ref ra), (1, .int a1)]) hx hb dX9_isStrongAt_39 hl (k := 3) rfl rfl (by decide) rfl (fun ls hl => ?_)
        refine lv_goto (tgt := 14) hx hb dX9_isStrongAt_42 (by decide) ?_
        exact ihself_5 t_9 (v3_4 + 1) hyp ls (lv_sub hl [2, 3, 1, 0] rfl)
      obtain ⟨J_11, eJ_11, hyp⟩ := jn_e hyp
      have kJ_11 : ∀ (ls : Array Slot), J_11 = some r → lv_has ls 4 [(0, .ref ra), (1, .int a1), (3, .int v3_4)] → W p l e R s m args below meth c s.heap [] 0 0 Q (F0 m 33 ls []) := by
        intro  ls hyp hl
        replace hyp := (eJ_11).symm.trans hyp
        refine lv_iconst (v := 1) hx hb dX9_isStrongAt_33 (by decide) ?_
        refine lv_goto (tgt := 38) hx hb dX9_isStrongAt_34 (by decide) ?_
        exact kJ_10 1 ls hyp hl
      refine lv_if_ne (tgt := 33) hx hb dX9_isStrongAt_20 (by decide) (fun h_12 => ?_) (fun h_12 => ?_)
      · replace hyp := ite_f h_12 hyp
        exact kJ_11 ls hyp (lv_sub hl [0, 1, 3] rfl)
      · replace hyp := ite_t h_12 hyp
        refine lv_iload_n hx hb dX9_isStrongAt_23 rfl (lv_at hl 1 rfl) ?_
        refine lv_iload_n hx hb dX9_isStrongAt_24 rfl (lv_at hl 3 rfl) ?_
        obtain ⟨r_13, hr_13, hyp⟩ := opt_e hyp
        refine pS (As := [.int a1, .int v3_4]) (rest := []) ⟨hx, hb, hml, hown, hts⟩ hE (mX9_next l g a1 v3_4 r_13 hr_13) cf_X9_next st_X9_next ml_X9_76 ⟨Nat.le_trans (Nat.le_of_ble_eq_true rfl) hRf, Nat.le_trans (Nat.le_of_ble_eq_true rfl) hRl⟩ (va_P_nil) rfl hl.1 rfl (Nat.le_of_ble_eq_true rfl) dX9_isStrongAt_25 ⟨Nat.zero_le _, Nat.zero_le _⟩ ?_
        refine lv_bipush (v := 24) hx hb dX9_isStrongAt_28 (by decide) ?_
        refine lv_icmp_ne (tgt := 37) hx hb dX9_isStrongAt_30 (by decide) (fun h_14 => ?_) (fun h_14 => ?_)
        · replace hyp := ite_f h_14 hyp
          refine lv_iconst (v := 0) hx hb dX9_isStrongAt_37 (by decide) ?_
          exact kJ_10 0 ls hyp (lv_sub hl [0, 1, 3] rfl)
        · replace hyp := ite_t h_14 hyp
          exact kJ_11 ls hyp (lv_sub hl [0, 1, 3] rfl)
  refine lv_icmp_ne (tgt := 10) hx hb dX9_isStrongAt_3 (by decide) (fun h_15 => ?_) (fun h_15 => ?_)
  · replace hyp := ite_f h_15 hyp
    refine lv_iconst (v := 0) hx hb dX9_isStrongAt_10 (by decide) ?_
    exact kJ_2 0 ls hyp hl
  · replace hyp := ite_t h_15 hyp
    refine lv_iconst (v := 1) hx hb dX9_isStrongAt_6 (by decide) ?_
    refine lv_goto (tgt := 11) hx hb dX9_isStrongAt_7 (by decide) ?_
    exact kJ_2 1 ls hyp hl

def fX9_step_L161_B (v4_2 : Int64) (self_9 : Int32 → Int32 → (Nat → Int32) → Option (Int32 × (Nat → Int32))) (v6_6 : Int32) (v7_7 : Int32) (wrow_8 : Nat → Int32) : Option (Int32 × (Nat → Int32)) :=
  if 49 ≤ v7_7 then (some (v6_6, wrow_8)) else (if (lg_cmp ((v4_2 >>> (v7_7.toInt64 &&& 63)) &&& 1) 1) = 0 then (grd (inB v7_7 61) ((fX9_side (wrow_8 v7_7.toNatClampNeg)).bind (fun (r_12 : Int32) => grd (inB (58 + r_12) 61) (grd (inB (58 + r_12) 61) (grd (inB v7_7 61) (self_9 (v6_6 + 1) (v7_7 + 1) (upd (upd wrow_8 (58 + r_12).toNatClampNeg ((wrow_8 (58 + r_12).toNatClampNeg) + 1)) v7_7.toNatClampNeg 0))))))) else (self_9 v6_6 (v7_7 + 1) wrow_8))
def fX9_step_L161 (v4_2 : Int64) (n : Nat) (v6_6 : Int32) (v7_7 : Int32) (wrow_8 : Nat → Int32) : Option (Int32 × (Nat → Int32)) := lp (fun zf z => fX9_step_L161_B v4_2 (fun v6_6 v7_7 wrow_8 => zf (v6_6, v7_7, wrow_8)) z.1 z.2.1 z.2.2) n (v6_6, v7_7, wrow_8)
def fX9_step_L26_B (row : Nat → Int32) (a1 : Int32) (a2 : Int32) (r_1 : Int32) (self_4 : Int64 → Int32 → Option (Int32 × (Nat → Int32))) (v4_2 : Int64) (v7_3 : Int32) : Option (Int32 × (Nat → Int32)) :=
  if 4 ≤ v7_3 then (fX9_step_L161 v4_2 64 0 0 (upd (upd row a2.toNatClampNeg (row a1.toNatClampNeg)) a1.toNatClampNeg 0)) else ((fX9_next a2 v7_3).bind (fun (r_13 : Int32) => jn (fun (t_14 : Int32) => if t_14 ≤ 0 then (self_4 v4_2 (v7_3 + 1)) else ((fX9_side t_14).bind (fun (r_17 : Int32) => if r_17 = r_1 then (self_4 v4_2 (v7_3 + 1)) else ((fX9_next r_13 v7_3).bind (fun (r_19 : Int32) => jn (fun (t_20 : Int32) => jn (fun (t_22 : Int32) => jn (fun (t_24 : Int64) => self_4 (v4_2 ||| t_24) (v7_3 + 1)) (fun J_25 => if t_22 = 0 then (J_25 0) else (J_25 ((1 : Int64) <<< (r_13.toInt64 &&& 63))))) (fun J_23 => jn (J_23 t_20) (fun J_27 => if t_14 = 3 then ((fX9_isStrongAt (upd (upd row a2.toNatClampNeg (row a1.toNatClampNeg)) a1.toNatClampNeg 0) r_13).bind (fun (r_29 : Int32) => if r_29 = 0 then (J_27) else ((fX9_isShut (upd (upd row a2.toNatClampNeg (row a1.toNatClampNeg)) a1.toNatClampNeg 0) r_13).bind (fun (r_31 : Int32) => J_23 r_31)))) else (J_27)))) (fun J_21 => jn (J_21 0) (fun J_32 => if r_19 = (-1) then (J_32) else ((fX9_side t_14).bind (fun (r_34 : Int32) => (fX9_hostile (upd (upd row a2.toNatClampNeg (row a1.toNatClampNeg)) a1.toNatClampNeg 0) r_19 r_34).bind (fun (r_35 : Int32) => if r_35 = 0 then (J_32) else (J_21 1))))))))))) (fun J_15 => if r_13 = (-1) then (J_15 0) else (grd (inB r_13 61) (J_15 ((upd (upd row a2.toNatClampNeg (row a1.toNatClampNeg)) a1.toNatClampNeg 0) r_13.toNatClampNeg))))))
def fX9_step_L26 (row : Nat → Int32) (a1 : Int32) (a2 : Int32) (r_1 : Int32) (n : Nat) (v4_2 : Int64) (v7_3 : Int32) : Option (Int32 × (Nat → Int32)) := lp (fun zf z => fX9_step_L26_B row a1 a2 r_1 (fun v4_2 v7_3 => zf (v4_2, v7_3)) z.1 z.2) n (v4_2, v7_3)
def fX9_step (row : Nat → Int32) (a1 : Int32) (a2 : Int32) : Option (Int32 × (Nat → Int32)) :=
  grd (inB a1 61) (grd (inB a2 61) (grd (inB a1 61) (grd (inB a2 61) ((fX9_side ((upd (upd row a2.toNatClampNeg (row a1.toNatClampNeg)) a1.toNatClampNeg 0) a2.toNatClampNeg)).bind (fun (r_1 : Int32) => fX9_step_L26 row a1 a2 r_1 64 0 0)))))
set_option maxRecDepth 100000 in
set_option maxHeartbeats 4000000 in
theorem mX9_step (l : Launch) (g : GE) (ra : Nat) (row : Nat → Int32) (a1 : Int32) (a2 : Int32) (r : Int32 × (Nat → Int32)) (hyp : fX9_step row a1 a2 = some r) : WM l yX9_step cX9_step 13 (some .int) 4 93 g [(ra, .inl (g.2.1, 61, .inl row))] [.ref ra, .int a1, .int a2] (some (.int r.1)) [(ra, .inl (g.2.1, 61, .inl r.2))] := by
  refine metW_intro (by decide) rfl ?_
  intro p e R s m args below meth c Q A hRf hRl hQ hx hb hml hr hlocks hown hts hin hE hA H locs hP hD hS ls hl
  have hown : s.vm.findClass "HallGuardsModel" = some m.cls := hown
  have hl : lv_has ls 13 [(0, .ref ra), (1, .int a1), (2, .int a2)] := hl
  unfold fX9_step at hyp
  refine lv_aload_n hx hb dX9_step_0 rfl (lv_at hl 0 rfl) ?_
  refine lv_iload_n hx hb dX9_step_1 rfl (lv_at hl 2 rfl) ?_
  refine lv_aload_n hx hb dX9_step_2 rfl (lv_at hl 0 rfl) ?_
  refine lv_iload_n hx hb dX9_step_3 rfl (lv_at hl 1 rfl) ?_
  obtain ⟨hi, hyp⟩ := grd_e hyp
  refine va_iald hx hb hE.1 hP 0 0 rfl rfl (inB_vp hi) dX9_step_4 ?_
  obtain ⟨hi, hyp⟩ := grd_e hyp
  refine va_iast hx hb hE.1 hP hD hS 0 0 rfl rfl (inB_vp hi) dX9_step_5 (fun H locs hP hD hS => ?_)
  have hP : va_P g.1 vwCl [(ra, .inl (g.2.1, 61, .inl (upd row a2.toNatClampNeg (row a1.toNatClampNeg))))] H := hP
  have hD : va_D A [(ra, .inl (g.2.1, 61, .inl (upd row a2.toNatClampNeg (row a1.toNatClampNeg))))] := hD
  refine lv_aload_n hx hb dX9_step_6 rfl (lv_at hl 0 rfl) ?_
  refine lv_iload_n hx hb dX9_step_7 rfl (lv_at hl 1 rfl) ?_
  refine lv_iconst (v := 0) hx hb dX9_step_8 (by decide) ?_
  obtain ⟨hi, hyp⟩ := grd_e hyp
  refine va_iast hx hb hE.1 hP hD hS 0 0 rfl rfl (inB_vp hi) dX9_step_9 (fun H locs hP hD hS => ?_)
  have hP : va_P g.1 vwCl [(ra, .inl (g.2.1, 61, .inl (upd (upd row a2.toNatClampNeg (row a1.toNatClampNeg)) a1.toNatClampNeg 0)))] H := hP
  have hD : va_D A [(ra, .inl (g.2.1, 61, .inl (upd (upd row a2.toNatClampNeg (row a1.toNatClampNeg)) a1.toNatClampNeg 0)))] := hD
  refine lv_aload_n hx hb dX9_step_10 rfl (lv_at hl 0 rfl) ?_
  refine lv_iload_n hx hb dX9_step_11 rfl (lv_at hl 2 rfl) ?_
  obtain ⟨hi, hyp⟩ := grd_e hyp
  refine va_iald hx hb hE.1 hP 0 0 rfl rfl (inB_vp hi) dX9_step_12 ?_
  obtain ⟨r_1, hr_1, hyp⟩ := opt_e hyp
  refine pS (As := [.int ((upd (upd row a2.toNatClampNeg (row a1.toNatClampNeg)) a1.toNatClampNeg 0) a2.toNatClampNeg)]) (rest := []) ⟨hx, hb, hml, hown, hts⟩ hE (mX9_side l g ((upd (upd row a2.toNatClampNeg (row a1.toNatClampNeg)) a1.toNatClampNeg 0) a2.toNatClampNeg) r_1 hr_1) cf_X9_side st_X9_side ml_X9_72 ⟨Nat.le_trans (Nat.le_of_ble_eq_true rfl) hRf, Nat.le_trans (Nat.le_of_ble_eq_true rfl) hRl⟩ (va_P_nil) rfl hl.1 rfl (Nat.le_of_ble_eq_true rfl) dX9_step_13 ⟨Nat.zero_le _, Nat.zero_le _⟩ ?_
  refine lv_istore_n (lv' := [(3, .int r_1), (0, .ref ra), (1, .int a1), (2, .int a2)]) hx hb dX9_step_16 rfl hl (by decide) rfl (fun ls hl => ?_)
  refine lv_lconst (v := 0) hx hb dX9_step_17 (by decide) ?_
  refine lv_lstore (lv' := [(4, .long 0), (3, .int r_1), (0, .ref ra), (1, .int a1), (2, .int a2)]) hx hb dX9_step_18 hl (by decide) rfl (fun ls hl => ?_)
  refine lv_iconst (v := 0) hx hb dX9_step_20 (by decide) ?_
  refine lv_istore (lv' := [(6, .int 0), (4, .long 0), (3, .int r_1), (0, .ref ra), (1, .int a1), (2, .int a2)]) hx hb dX9_step_21 hl (by decide) rfl (fun ls hl => ?_)
  refine lv_iconst (v := 0) hx hb dX9_step_23 (by decide) ?_
  refine lv_istore (lv' := [(7, .int 0), (6, .int 0), (4, .long 0), (3, .int r_1), (0, .ref ra), (1, .int a1), (2, .int a2)]) hx hb dX9_step_24 hl (by decide) rfl (fun ls hl => ?_)
  refine lp_i (r := r) (fun z : Int64 × Int32 => ∀ (H : Heap) (locs : List Loc) (ls : Array Slot), lv_has ls 13 [(0, .ref ra), (2, .int a2), (3, .int r_1), (4, .long z.1), (6, .int 0), (7, .int z.2)] → va_P g.1 vwCl [(ra, .inl (g.2.1, 61, .inl (upd (upd row a2.toNatClampNeg (row a1.toNatClampNeg)) a1.toNatClampNeg 0)))] H → va_D A [(ra, .inl (g.2.1, 61, .inl (upd (upd row a2.toNatClampNeg (row a1.toNatClampNeg)) a1.toNatClampNeg 0)))] → va_S A s.heap H locs → W p l e R s m args below meth c H locs 0 0 Q (F0 m 26 ls [])) ?_ 64 (0, 0) hyp _ _ ls (lv_sub hl [4, 6, 3, 2, 1, 0] rfl) hP hD hS
  intro self_4T ihself_4T z hyp H locs ls hl hP hD hS
  obtain ⟨v4_2, v7_3⟩ := z
  obtain ⟨self_4, eself_4⟩ : ∃ f9 : Int64 → Int32 → Option (Int32 × (Nat → Int32)), f9 = fun v4_2 v7_3 => self_4T (v4_2, v7_3) := ⟨_, rfl⟩
  have ihself_4 := fun (v4_2 : Int64) (v7_3 : Int32) (h9 : self_4 v4_2 v7_3 = some r) => ihself_4T (v4_2, v7_3) (by rw [eself_4] at h9; exact h9)
  replace hyp : fX9_step_L26_B row a1 a2 r_1 self_4 v4_2 v7_3 = some r := by rw [eself_4]; exact hyp
  have hl : lv_has ls 13 [(0, .ref ra), (2, .int a2), (3, .int r_1), (4, .long v4_2), (6, .int 0), (7, .int v7_3)] := hl
  have hP : va_P g.1 vwCl [(ra, .inl (g.2.1, 61, .inl (upd (upd row a2.toNatClampNeg (row a1.toNatClampNeg)) a1.toNatClampNeg 0)))] H := hP
  have hD : va_D A [(ra, .inl (g.2.1, 61, .inl (upd (upd row a2.toNatClampNeg (row a1.toNatClampNeg)) a1.toNatClampNeg 0)))] := hD
  show W p l e R s m args below meth c H locs 0 0 Q (F0 m 26 ls [])
  unfold fX9_step_L26_B at hyp
  refine lv_iload hx hb dX9_step_26 (lv_at hl 5 rfl) ?_
  refine lv_iconst (v := 4) hx hb dX9_step_28 (by decide) ?_
  refine lv_icmp_ge (tgt := 158) hx hb dX9_step_29 (by decide) (fun h_5 => ?_) (fun h_5 => ?_)
  · replace hyp := ite_t h_5 hyp
    refine lv_iconst (v := 0) hx hb dX9_step_158 (by decide) ?_
    refine lv_istore (lv' := [(7, .int 0), (0, .ref ra), (2, .int a2), (3, .int r_1), (4, .long v4_2), (6, .int 0)]) hx hb dX9_step_159 hl (by decide) rfl (fun ls hl => ?_)
    refine lp_i (r := r) (fun z : Int32 × Int32 × (Nat → Int32) => ∀ (H : Heap) (locs : List Loc) (ls : Array Slot), lv_has ls 13 [(0, .ref ra), (4, .long v4_2), (6, .int z.1), (7, .int z.2.1)] → va_P g.1 vwCl [(ra, .inl (g.2.1, 61, .inl z.2.2))] H → va_D A [(ra, .inl (g.2.1, 61, .inl z.2.2))] → va_S A s.heap H locs → W p l e R s m args below meth c H locs 0 0 Q (F0 m 161 ls [])) ?_ 64 (0, 0, upd (upd row a2.toNatClampNeg (row a1.toNatClampNeg)) a1.toNatClampNeg 0) hyp _ _ ls (lv_sub hl [1, 4, 5, 0] rfl) hP hD hS
    intro self_9T ihself_9T z hyp H locs ls hl hP hD hS
    obtain ⟨v6_6, v7_7, wrow_8⟩ := z
    obtain ⟨self_9, eself_9⟩ : ∃ f9 : Int32 → Int32 → (Nat → Int32) → Option (Int32 × (Nat → Int32)), f9 = fun v6_6 v7_7 wrow_8 => self_9T (v6_6, v7_7, wrow_8) := ⟨_, rfl⟩
    have ihself_9 := fun (v6_6 : Int32) (v7_7 : Int32) (wrow_8 : Nat → Int32) (h9 : self_9 v6_6 v7_7 wrow_8 = some r) => ihself_9T (v6_6, v7_7, wrow_8) (by rw [eself_9] at h9; exact h9)
    replace hyp : fX9_step_L161_B v4_2 self_9 v6_6 v7_7 wrow_8 = some r := by rw [eself_9]; exact hyp
    have hl : lv_has ls 13 [(0, .ref ra), (4, .long v4_2), (6, .int v6_6), (7, .int v7_7)] := hl
    have hP : va_P g.1 vwCl [(ra, .inl (g.2.1, 61, .inl wrow_8))] H := hP
    have hD : va_D A [(ra, .inl (g.2.1, 61, .inl wrow_8))] := hD
    show W p l e R s m args below meth c H locs 0 0 Q (F0 m 161 ls [])
    unfold fX9_step_L161_B at hyp
    refine lv_iload hx hb dX9_step_161 (lv_at hl 3 rfl) ?_
    refine lv_bipush (v := 49) hx hb dX9_step_163 (by decide) ?_
    refine lv_icmp_ge (tgt := 210) hx hb dX9_step_165 (by decide) (fun h_10 => ?_) (fun h_10 => ?_)
    · replace hyp := ite_t h_10 hyp
      refine lv_iload hx hb dX9_step_210 (lv_at hl 2 rfl) ?_
      have hyp := some_e hyp
      subst hyp
      subst hQ
      exact rwI hx hb hr hlocks  hP hD hS dX9_step_212
    · replace hyp := ite_f h_10 hyp
      refine lv_lload hx hb dX9_step_168 (lv_at hl 1 rfl) ?_
      refine lv_iload hx hb dX9_step_170 (lv_at hl 3 rfl) ?_
      refine lv_lshr hx hb dX9_step_172 rfl ?_
      refine lv_lconst (v := 1) hx hb dX9_step_173 (by decide) ?_
      refine lv_land hx hb dX9_step_174 ?_
      refine lv_lconst (v := 1) hx hb dX9_step_175 (by decide) ?_
      refine W.lcmp hx hb dX9_step_176 ?_
      refine lv_if_ne (tgt := 204) hx hb dX9_step_177 (by decide) (fun h_11 => ?_) (fun h_11 => ?_)
      · replace hyp := ite_f h_11 hyp
        refine lv_iinc (v := v7_7 + 1) (lv' := [(7, .int (v7_7 + 1)), (0, .ref ra), (4, .long v4_2), (6, .int v6_6)]) hx hb dX9_step_204 hl (k := 3) rfl rfl (by decide) rfl (fun ls hl => ?_)
        refine lv_goto (tgt := 161) hx hb dX9_step_207 (by decide) ?_
        exact ihself_9 v6_6 (v7_7 + 1) wrow_8 hyp H locs ls (lv_sub hl [1, 2, 3, 0] rfl) hP hD hS
      · replace hyp := ite_t h_11 hyp
        refine lv_aload_n hx hb dX9_step_180 rfl (lv_at hl 0 rfl) ?_
        refine lv_bipush (v := 58) hx hb dX9_step_181 (by decide) ?_
        refine lv_aload_n hx hb dX9_step_183 rfl (lv_at hl 0 rfl) ?_
        refine lv_iload hx hb dX9_step_184 (lv_at hl 3 rfl) ?_
        obtain ⟨hi, hyp⟩ := grd_e hyp
        refine va_iald hx hb hE.1 hP 0 0 rfl rfl (inB_vp hi) dX9_step_186 ?_
        obtain ⟨r_12, hr_12, hyp⟩ := opt_e hyp
        refine pS (As := [.int (wrow_8 v7_7.toNatClampNeg)]) (rest := [.int 58, .ref ra]) ⟨hx, hb, hml, hown, hts⟩ hE (mX9_side l g (wrow_8 v7_7.toNatClampNeg) r_12 hr_12) cf_X9_side st_X9_side ml_X9_72 ⟨Nat.le_trans (Nat.le_of_ble_eq_true rfl) hRf, Nat.le_trans (Nat.le_of_ble_eq_true rfl) hRl⟩ (va_P_nil) rfl hl.1 rfl (Nat.le_of_ble_eq_true rfl) dX9_step_187 ⟨Nat.zero_le _, Nat.zero_le _⟩ ?_
        refine lv_iadd hx hb dX9_step_190 ?_
        refine lv_dup2_11 hx hb dX9_step_191 rfl rfl ?_
        obtain ⟨hi, hyp⟩ := grd_e hyp
        refine va_iald hx hb hE.1 hP 0 0 rfl rfl (inB_vp hi) dX9_step_192 ?_
        refine lv_iconst (v := 1) hx hb dX9_step_193 (by decide) ?_
        refine lv_iadd hx hb dX9_step_194 ?_
        obtain ⟨hi, hyp⟩ := grd_e hyp
        refine va_iast hx hb hE.1 hP hD hS 0 0 rfl rfl (inB_vp hi) dX9_step_195 (fun H locs hP hD hS => ?_)
        have hP : va_P g.1 vwCl [(ra, .inl (g.2.1, 61, .inl (upd wrow_8 (58 + r_12).toNatClampNeg ((wrow_8 (58 + r_12).toNatClampNeg) + 1))))] H := hP
        have hD : va_D A [(ra, .inl (g.2.1, 61, .inl (upd wrow_8 (58 + r_12).toNatClampNeg ((wrow_8 (58 + r_12).toNatClampNeg) + 1))))] := hD
        refine lv_aload_n hx hb dX9_step_196 rfl (lv_at hl 0 rfl) ?_
        refine lv_iload hx hb dX9_step_197 (lv_at hl 3 rfl) ?_
        refine lv_iconst (v := 0) hx hb dX9_step_199 (by decide) ?_
        obtain ⟨hi, hyp⟩ := grd_e hyp
        refine va_iast hx hb hE.1 hP hD hS 0 0 rfl rfl (inB_vp hi) dX9_step_200 (fun H locs hP hD hS => ?_)
        have hP : va_P g.1 vwCl [(ra, .inl (g.2.1, 61, .inl (upd (upd wrow_8 (58 + r_12).toNatClampNeg ((wrow_8 (58 + r_12).toNatClampNeg) + 1)) v7_7.toNatClampNeg 0)))] H := hP
        have hD : va_D A [(ra, .inl (g.2.1, 61, .inl (upd (upd wrow_8 (58 + r_12).toNatClampNeg ((wrow_8 (58 + r_12).toNatClampNeg) + 1)) v7_7.toNatClampNeg 0)))] := hD
        refine lv_iinc (v := v6_6 + 1) (lv' := [(6, .int (v6_6 + 1)), (0, .ref ra), (4, .long v4_2), (7, .int v7_7)]) hx hb dX9_step_201 hl (k := 2) rfl rfl (by decide) rfl (fun ls hl => ?_)
        refine lv_iinc (v := v7_7 + 1) (lv' := [(7, .int (v7_7 + 1)), (6, .int (v6_6 + 1)), (0, .ref ra), (4, .long v4_2)]) hx hb dX9_step_204 hl (k := 3) rfl rfl (by decide) rfl (fun ls hl => ?_)
        refine lv_goto (tgt := 161) hx hb dX9_step_207 (by decide) ?_
        exact ihself_9 (v6_6 + 1) (v7_7 + 1) (upd (upd wrow_8 (58 + r_12).toNatClampNeg ((wrow_8 (58 + r_12).toNatClampNeg) + 1)) v7_7.toNatClampNeg 0) hyp H locs ls (lv_sub hl [2, 3, 1, 0] rfl) hP hD hS
  · replace hyp := ite_f h_5 hyp
    refine lv_iload_n hx hb dX9_step_32 rfl (lv_at hl 1 rfl) ?_
    refine lv_iload hx hb dX9_step_33 (lv_at hl 5 rfl) ?_
    obtain ⟨r_13, hr_13, hyp⟩ := opt_e hyp
    refine pS (As := [.int a2, .int v7_3]) (rest := []) ⟨hx, hb, hml, hown, hts⟩ hE (mX9_next l g a2 v7_3 r_13 hr_13) cf_X9_next st_X9_next ml_X9_76 ⟨Nat.le_trans (Nat.le_of_ble_eq_true rfl) hRf, Nat.le_trans (Nat.le_of_ble_eq_true rfl) hRl⟩ (va_P_nil) rfl hl.1 rfl (Nat.le_of_ble_eq_true rfl) dX9_step_35 ⟨Nat.zero_le _, Nat.zero_le _⟩ ?_
    refine lv_istore (lv' := [(8, .int r_13), (0, .ref ra), (2, .int a2), (3, .int r_1), (4, .long v4_2), (6, .int 0), (7, .int v7_3)]) hx hb dX9_step_38 hl (by decide) rfl (fun ls hl => ?_)
    refine lv_iload hx hb dX9_step_40 (lv_at hl 0 rfl) ?_
    refine lv_iconst (v := (-1)) hx hb dX9_step_42 (by decide) ?_
    obtain ⟨J_15, eJ_15, hyp⟩ := jn_e hyp
    have kJ_15 : ∀ (t_14 : Int32) (H : Heap) (locs : List Loc) (ls : Array Slot), J_15 t_14 = some r → lv_has ls 13 [(0, .ref ra), (2, .int a2), (3, .int r_1), (4, .long v4_2), (6, .int 0), (7, .int v7_3), (8, .int r_13)] → va_P g.1 vwCl [(ra, .inl (g.2.1, 61, .inl (upd (upd row a2.toNatClampNeg (row a1.toNatClampNeg)) a1.toNatClampNeg 0)))] H → va_D A [(ra, .inl (g.2.1, 61, .inl (upd (upd row a2.toNatClampNeg (row a1.toNatClampNeg)) a1.toNatClampNeg 0)))] → va_S A s.heap H locs → W p l e R s m args below meth c H locs 0 0 Q (F0 m 54 ls [.int t_14]) := by
      intro t_14 H locs  ls hyp hl hP hD hS
      replace hyp := (congrFun (eJ_15) t_14).symm.trans hyp
      refine lv_istore (lv' := [(9, .int t_14), (0, .ref ra), (2, .int a2), (3, .int r_1), (4, .long v4_2), (6, .int 0), (7, .int v7_3), (8, .int r_13)]) hx hb dX9_step_54 hl (by decide) rfl (fun ls hl => ?_)
      refine lv_iload hx hb dX9_step_56 (lv_at hl 0 rfl) ?_
      refine lv_if_le (tgt := 152) hx hb dX9_step_58 (by decide) (fun h_16 => ?_) (fun h_16 => ?_)
      · replace hyp := ite_t h_16 hyp
        refine lv_iinc (v := v7_3 + 1) (lv' := [(7, .int (v7_3 + 1)), (9, .int t_14), (0, .ref ra), (2, .int a2), (3, .int r_1), (4, .long v4_2), (6, .int 0), (8, .int r_13)]) hx hb dX9_step_152 hl (k := 6) rfl rfl (by decide) rfl (fun ls hl => ?_)
        refine lv_goto (tgt := 26) hx hb dX9_step_155 (by decide) ?_
        exact ihself_4 v4_2 (v7_3 + 1) hyp H locs ls (lv_sub hl [2, 3, 4, 5, 6, 0] rfl) hP hD hS
      · replace hyp := ite_f h_16 hyp
        refine lv_iload hx hb dX9_step_61 (lv_at hl 0 rfl) ?_
        obtain ⟨r_17, hr_17, hyp⟩ := opt_e hyp
        refine pS (As := [.int t_14]) (rest := []) ⟨hx, hb, hml, hown, hts⟩ hE (mX9_side l g t_14 r_17 hr_17) cf_X9_side st_X9_side ml_X9_72 ⟨Nat.le_trans (Nat.le_of_ble_eq_true rfl) hRf, Nat.le_trans (Nat.le_of_ble_eq_true rfl) hRl⟩ (va_P_nil) rfl hl.1 rfl (Nat.le_of_ble_eq_true rfl) dX9_step_63 ⟨Nat.zero_le _, Nat.zero_le _⟩ ?_
        refine lv_iload_n hx hb dX9_step_66 rfl (lv_at hl 3 rfl) ?_
        refine lv_icmp_eq (tgt := 152) hx hb dX9_step_67 (by decide) (fun h_18 => ?_) (fun h_18 => ?_)
        · replace hyp := ite_t h_18 hyp
          refine lv_iinc (v := v7_3 + 1) (lv' := [(7, .int (v7_3 + 1)), (9, .int t_14), (0, .ref ra), (2, .int a2), (3, .int r_1), (4, .long v4_2), (6, .int 0), (8, .int r_13)]) hx hb dX9_step_152 hl (k := 6) rfl rfl (by decide) rfl (fun ls hl => ?_)
          refine lv_goto (tgt := 26) hx hb dX9_step_155 (by decide) ?_
          exact ihself_4 v4_2 (v7_3 + 1) hyp H locs ls (lv_sub hl [2, 3, 4, 5, 6, 0] rfl) hP hD hS
        · replace hyp := ite_f h_18 hyp
          refine lv_iload hx hb dX9_step_70 (lv_at hl 7 rfl) ?_
          refine lv_iload hx hb dX9_step_72 (lv_at hl 6 rfl) ?_
          obtain ⟨r_19, hr_19, hyp⟩ := opt_e hyp
          refine pS (As := [.int r_13, .int v7_3]) (rest := []) ⟨hx, hb, hml, hown, hts⟩ hE (mX9_next l g r_13 v7_3 r_19 hr_19) cf_X9_next st_X9_next ml_X9_76 ⟨Nat.le_trans (Nat.le_of_ble_eq_true rfl) hRf, Nat.le_trans (Nat.le_of_ble_eq_true rfl) hRl⟩ (va_P_nil) rfl hl.1 rfl (Nat.le_of_ble_eq_true rfl) dX9_step_74 ⟨Nat.zero_le _, Nat.zero_le _⟩ ?_
          refine lv_istore (lv' := [(10, .int r_19), (9, .int t_14), (0, .ref ra), (2, .int a2), (3, .int r_1), (4, .long v4_2), (6, .int 0), (7, .int v7_3), (8, .int r_13)]) hx hb dX9_step_77 hl (by decide) rfl (fun ls hl => ?_)
          refine lv_iload hx hb dX9_step_79 (lv_at hl 0 rfl) ?_
          refine lv_iconst (v := (-1)) hx hb dX9_step_81 (by decide) ?_
          obtain ⟨J_21, eJ_21, hyp⟩ := jn_e hyp
          have kJ_21 : ∀ (t_20 : Int32) (H : Heap) (locs : List Loc) (ls : Array Slot), J_21 t_20 = some r → lv_has ls 13 [(0, .ref ra), (2, .int a2), (3, .int r_1), (4, .long v4_2), (6, .int 0), (7, .int v7_3), (8, .int r_13), (9, .int t_14)] → va_P g.1 vwCl [(ra, .inl (g.2.1, 61, .inl (upd (upd row a2.toNatClampNeg (row a1.toNatClampNeg)) a1.toNatClampNeg 0)))] H → va_D A [(ra, .inl (g.2.1, 61, .inl (upd (upd row a2.toNatClampNeg (row a1.toNatClampNeg)) a1.toNatClampNeg 0)))] → va_S A s.heap H locs → W p l e R s m args below meth c H locs 0 0 Q (F0 m 104 ls [.int t_20]) := by
            intro t_20 H locs  ls hyp hl hP hD hS
            replace hyp := (congrFun (eJ_21) t_20).symm.trans hyp
            refine lv_istore (lv' := [(11, .int t_20), (0, .ref ra), (2, .int a2), (3, .int r_1), (4, .long v4_2), (6, .int 0), (7, .int v7_3), (8, .int r_13), (9, .int t_14)]) hx hb dX9_step_104 hl (by decide) rfl (fun ls hl => ?_)
            refine lv_iload hx hb dX9_step_106 (lv_at hl 8 rfl) ?_
            refine lv_iconst (v := 3) hx hb dX9_step_108 (by decide) ?_
            obtain ⟨J_23, eJ_23, hyp⟩ := jn_e hyp
            have kJ_23 : ∀ (t_22 : Int32) (H : Heap) (locs : List Loc) (ls : Array Slot), J_23 t_22 = some r → lv_has ls 13 [(0, .ref ra), (2, .int a2), (3, .int r_1), (4, .long v4_2), (6, .int 0), (7, .int v7_3), (8, .int r_13)] → va_P g.1 vwCl [(ra, .inl (g.2.1, 61, .inl (upd (upd row a2.toNatClampNeg (row a1.toNatClampNeg)) a1.toNatClampNeg 0)))] H → va_D A [(ra, .inl (g.2.1, 61, .inl (upd (upd row a2.toNatClampNeg (row a1.toNatClampNeg)) a1.toNatClampNeg 0)))] → va_S A s.heap H locs → W p l e R s m args below meth c H locs 0 0 Q (F0 m 132 ls [.int t_22]) := by
              intro t_22 H locs  ls hyp hl hP hD hS
              replace hyp := (congrFun (eJ_23) t_22).symm.trans hyp
              refine lv_istore (lv' := [(12, .int t_22), (0, .ref ra), (2, .int a2), (3, .int r_1), (4, .long v4_2), (6, .int 0), (7, .int v7_3), (8, .int r_13)]) hx hb dX9_step_132 hl (by decide) rfl (fun ls hl => ?_)
              refine lv_lload hx hb dX9_step_134 (lv_at hl 4 rfl) ?_
              refine lv_iload hx hb dX9_step_136 (lv_at hl 0 rfl) ?_
              obtain ⟨J_25, eJ_25, hyp⟩ := jn_e hyp
              have kJ_25 : ∀ (t_24 : Int64) (H : Heap) (locs : List Loc) (ls : Array Slot), J_25 t_24 = some r → lv_has ls 13 [(0, .ref ra), (2, .int a2), (3, .int r_1), (6, .int 0), (7, .int v7_3)] → va_P g.1 vwCl [(ra, .inl (g.2.1, 61, .inl (upd (upd row a2.toNatClampNeg (row a1.toNatClampNeg)) a1.toNatClampNeg 0)))] H → va_D A [(ra, .inl (g.2.1, 61, .inl (upd (upd row a2.toNatClampNeg (row a1.toNatClampNeg)) a1.toNatClampNeg 0)))] → va_S A s.heap H locs → W p l e R s m args below meth c H locs 0 0 Q (F0 m 149 ls [.long t_24, .long v4_2]) := by
                intro t_24 H locs  ls hyp hl hP hD hS
                replace hyp := (congrFun (eJ_25) t_24).symm.trans hyp
                refine lv_lor hx hb dX9_step_149 ?_
                refine lv_lstore (lv' := [(4, .long (v4_2 ||| t_24)), (0, .ref ra), (2, .int a2), (3, .int r_1), (6, .int 0), (7, .int v7_3)]) hx hb dX9_step_150 hl (by decide) rfl (fun ls hl => ?_)
                refine lv_iinc (v := v7_3 + 1) (lv' := [(7, .int (v7_3 + 1)), (4, .long (v4_2 ||| t_24)), (0, .ref ra), (2, .int a2), (3, .int r_1), (6, .int 0)]) hx hb dX9_step_152 hl (k := 5) rfl rfl (by decide) rfl (fun ls hl => ?_)
                refine lv_goto (tgt := 26) hx hb dX9_step_155 (by decide) ?_
                exact ihself_4 (v4_2 ||| t_24) (v7_3 + 1) hyp H locs ls (lv_sub hl [2, 3, 4, 1, 5, 0] rfl) hP hD hS
              refine lv_if_eq (tgt := 148) hx hb dX9_step_138 (by decide) (fun h_26 => ?_) (fun h_26 => ?_)
              · replace hyp := ite_t h_26 hyp
                refine lv_lconst (v := 0) hx hb dX9_step_148 (by decide) ?_
                exact kJ_25 0 H locs ls hyp (lv_sub hl [1, 2, 3, 5, 6] rfl) hP hD hS
              · replace hyp := ite_f h_26 hyp
                refine lv_lconst (v := 1) hx hb dX9_step_141 (by decide) ?_
                refine lv_iload hx hb dX9_step_142 (lv_at hl 7 rfl) ?_
                refine lv_lshl hx hb dX9_step_144 rfl ?_
                refine lv_goto (tgt := 149) hx hb dX9_step_145 (by decide) ?_
                exact kJ_25 ((1 : Int64) <<< (r_13.toInt64 &&& 63)) H locs ls hyp (lv_sub hl [1, 2, 3, 5, 6] rfl) hP hD hS
            obtain ⟨J_27, eJ_27, hyp⟩ := jn_e hyp
            have kJ_27 : ∀ (H : Heap) (locs : List Loc) (ls : Array Slot), J_27 = some r → lv_has ls 13 [(0, .ref ra), (2, .int a2), (3, .int r_1), (4, .long v4_2), (6, .int 0), (7, .int v7_3), (8, .int r_13), (11, .int t_20)] → va_P g.1 vwCl [(ra, .inl (g.2.1, 61, .inl (upd (upd row a2.toNatClampNeg (row a1.toNatClampNeg)) a1.toNatClampNeg 0)))] H → va_D A [(ra, .inl (g.2.1, 61, .inl (upd (upd row a2.toNatClampNeg (row a1.toNatClampNeg)) a1.toNatClampNeg 0)))] → va_S A s.heap H locs → W p l e R s m args below meth c H locs 0 0 Q (F0 m 130 ls []) := by
              intro H locs  ls hyp hl hP hD hS
              replace hyp := (eJ_27).symm.trans hyp
              refine lv_iload hx hb dX9_step_130 (lv_at hl 7 rfl) ?_
              exact kJ_23 t_20 H locs ls hyp (lv_sub hl [0, 1, 2, 3, 4, 5, 6] rfl) hP hD hS
            refine lv_icmp_ne (tgt := 130) hx hb dX9_step_109 (by decide) (fun h_28 => ?_) (fun h_28 => ?_)
            · replace hyp := ite_f h_28 hyp
              exact kJ_27 H locs ls hyp (lv_sub hl [1, 2, 3, 4, 5, 6, 7, 0] rfl) hP hD hS
            · replace hyp := ite_t h_28 hyp
              refine lv_aload_n hx hb dX9_step_112 rfl (lv_at hl 1 rfl) ?_
              refine lv_iload hx hb dX9_step_113 (lv_at hl 7 rfl) ?_
              obtain ⟨r_29, hr_29, hyp⟩ := opt_e hyp
              refine pS (As := [.ref ra, .int r_13]) (rest := []) ⟨hx, hb, hml, hown, hts⟩ hE (mX9_isStrongAt l g ra (upd (upd row a2.toNatClampNeg (row a1.toNatClampNeg)) a1.toNatClampNeg 0) r_13 r_29 hr_29) cf_X9_isStrongAt st_X9_isStrongAt ml_X9_91 ⟨Nat.le_trans (Nat.le_of_ble_eq_true rfl) hRf, Nat.le_trans (Nat.le_of_ble_eq_true rfl) hRl⟩ (hP.sub (ws' := [(ra, .inl (g.2.1, 61, .inl (upd (upd row a2.toNatClampNeg (row a1.toNatClampNeg)) a1.toNatClampNeg 0)))]) [0] rfl) rfl hl.1 rfl (Nat.le_of_ble_eq_true rfl) dX9_step_115 ⟨Nat.zero_le _, Nat.zero_le _⟩ ?_
              refine lv_if_eq (tgt := 130) hx hb dX9_step_118 (by decide) (fun h_30 => ?_) (fun h_30 => ?_)
              · replace hyp := ite_t h_30 hyp
                exact kJ_27 H locs ls hyp (lv_sub hl [1, 2, 3, 4, 5, 6, 7, 0] rfl) hP hD hS
              · replace hyp := ite_f h_30 hyp
                refine lv_aload_n hx hb dX9_step_121 rfl (lv_at hl 1 rfl) ?_
                refine lv_iload hx hb dX9_step_122 (lv_at hl 7 rfl) ?_
                obtain ⟨r_31, hr_31, hyp⟩ := opt_e hyp
                refine pS (As := [.ref ra, .int r_13]) (rest := []) ⟨hx, hb, hml, hown, hts⟩ hE (mX9_isShut l g ra (upd (upd row a2.toNatClampNeg (row a1.toNatClampNeg)) a1.toNatClampNeg 0) r_13 r_31 hr_31) cf_X9_isShut st_X9_isShut ml_X9_95 ⟨Nat.le_trans (Nat.le_of_ble_eq_true rfl) hRf, Nat.le_trans (Nat.le_of_ble_eq_true rfl) hRl⟩ (hP.sub (ws' := [(ra, .inl (g.2.1, 61, .inl (upd (upd row a2.toNatClampNeg (row a1.toNatClampNeg)) a1.toNatClampNeg 0)))]) [0] rfl) rfl hl.1 rfl (Nat.le_of_ble_eq_true rfl) dX9_step_124 ⟨Nat.zero_le _, Nat.zero_le _⟩ ?_
                refine lv_goto (tgt := 132) hx hb dX9_step_127 (by decide) ?_
                exact kJ_23 r_31 H locs ls hyp (lv_sub hl [1, 2, 3, 4, 5, 6, 7] rfl) hP hD hS
          obtain ⟨J_32, eJ_32, hyp⟩ := jn_e hyp
          have kJ_32 : ∀ (H : Heap) (locs : List Loc) (ls : Array Slot), J_32 = some r → lv_has ls 13 [(0, .ref ra), (2, .int a2), (3, .int r_1), (4, .long v4_2), (6, .int 0), (7, .int v7_3), (8, .int r_13), (9, .int t_14)] → va_P g.1 vwCl [(ra, .inl (g.2.1, 61, .inl (upd (upd row a2.toNatClampNeg (row a1.toNatClampNeg)) a1.toNatClampNeg 0)))] H → va_D A [(ra, .inl (g.2.1, 61, .inl (upd (upd row a2.toNatClampNeg (row a1.toNatClampNeg)) a1.toNatClampNeg 0)))] → va_S A s.heap H locs → W p l e R s m args below meth c H locs 0 0 Q (F0 m 103 ls []) := by
            intro H locs  ls hyp hl hP hD hS
            replace hyp := (eJ_32).symm.trans hyp
            refine lv_iconst (v := 0) hx hb dX9_step_103 (by decide) ?_
            exact kJ_21 0 H locs ls hyp hl hP hD hS
          refine lv_icmp_eq (tgt := 103) hx hb dX9_step_82 (by decide) (fun h_33 => ?_) (fun h_33 => ?_)
          · replace hyp := ite_t h_33 hyp
            exact kJ_32 H locs ls hyp (lv_sub hl [2, 3, 4, 5, 6, 7, 8, 1] rfl) hP hD hS
          · replace hyp := ite_f h_33 hyp
            refine lv_aload_n hx hb dX9_step_85 rfl (lv_at hl 2 rfl) ?_
            refine lv_iload hx hb dX9_step_86 (lv_at hl 0 rfl) ?_
            refine lv_iload hx hb dX9_step_88 (lv_at hl 1 rfl) ?_
            obtain ⟨r_34, hr_34, hyp⟩ := opt_e hyp
            refine pS (As := [.int t_14]) (rest := [.int r_19, .ref ra]) ⟨hx, hb, hml, hown, hts⟩ hE (mX9_side l g t_14 r_34 hr_34) cf_X9_side st_X9_side ml_X9_72 ⟨Nat.le_trans (Nat.le_of_ble_eq_true rfl) hRf, Nat.le_trans (Nat.le_of_ble_eq_true rfl) hRl⟩ (va_P_nil) rfl hl.1 rfl (Nat.le_of_ble_eq_true rfl) dX9_step_90 ⟨Nat.zero_le _, Nat.zero_le _⟩ ?_
            obtain ⟨r_35, hr_35, hyp⟩ := opt_e hyp
            refine pS (As := [.ref ra, .int r_19, .int r_34]) (rest := []) ⟨hx, hb, hml, hown, hts⟩ hE (mX9_hostile l g ra (upd (upd row a2.toNatClampNeg (row a1.toNatClampNeg)) a1.toNatClampNeg 0) r_19 r_34 r_35 hr_35) cf_X9_hostile st_X9_hostile ml_X9_87 ⟨Nat.le_trans (Nat.le_of_ble_eq_true rfl) hRf, Nat.le_trans (Nat.le_of_ble_eq_true rfl) hRl⟩ (hP.sub (ws' := [(ra, .inl (g.2.1, 61, .inl (upd (upd row a2.toNatClampNeg (row a1.toNatClampNeg)) a1.toNatClampNeg 0)))]) [0] rfl) rfl hl.1 rfl (Nat.le_of_ble_eq_true rfl) dX9_step_93 ⟨Nat.zero_le _, Nat.zero_le _⟩ ?_
            refine lv_if_eq (tgt := 103) hx hb dX9_step_96 (by decide) (fun h_36 => ?_) (fun h_36 => ?_)
            · replace hyp := ite_t h_36 hyp
              exact kJ_32 H locs ls hyp (lv_sub hl [2, 3, 4, 5, 6, 7, 8, 1] rfl) hP hD hS
            · replace hyp := ite_f h_36 hyp
              refine lv_iconst (v := 1) hx hb dX9_step_99 (by decide) ?_
              refine lv_goto (tgt := 104) hx hb dX9_step_100 (by decide) ?_
              exact kJ_21 1 H locs ls hyp (lv_sub hl [2, 3, 4, 5, 6, 7, 8, 1] rfl) hP hD hS
    refine lv_icmp_ne (tgt := 50) hx hb dX9_step_43 (by decide) (fun h_37 => ?_) (fun h_37 => ?_)
    · replace hyp := ite_f h_37 hyp
      refine lv_aload_n hx hb dX9_step_50 rfl (lv_at hl 1 rfl) ?_
      refine lv_iload hx hb dX9_step_51 (lv_at hl 0 rfl) ?_
      obtain ⟨hi, hyp⟩ := grd_e hyp
      refine va_iald hx hb hE.1 hP 0 0 rfl rfl (inB_vp hi) dX9_step_53 ?_
      exact kJ_15 ((upd (upd row a2.toNatClampNeg (row a1.toNatClampNeg)) a1.toNatClampNeg 0) r_13.toNatClampNeg) H locs ls hyp (lv_sub hl [1, 2, 3, 4, 5, 6, 0] rfl) hP hD hS
    · replace hyp := ite_t h_37 hyp
      refine lv_iconst (v := 0) hx hb dX9_step_46 (by decide) ?_
      refine lv_goto (tgt := 54) hx hb dX9_step_47 (by decide) ?_
      exact kJ_15 0 H locs ls hyp (lv_sub hl [1, 2, 3, 4, 5, 6, 0] rfl) hP hD hS

def fX9_wonBy (row : Nat → Int32) (a1 : Int32) : Option Int32 :=
  (fX9_king row).bind (fun (r_1 : Int32) => if r_1 = (-1) then (some 0) else ((fX9_isCorner r_1).bind (fun (r_3 : Int32) => if r_3 = 0 then ((fX9_moveCount row (1 - a1)).bind (fun (r_5 : Int32) => if r_5 = 0 then (some a1) else (some (-1)))) else (some 1))))
set_option maxRecDepth 100000 in
set_option maxHeartbeats 4000000 in
theorem mX9_wonBy (l : Launch) (g : GE) (ra : Nat) (row : Nat → Int32) (a1 : Int32) (r : Int32) (hyp : fX9_wonBy row a1 = some r) : PI l yX9_wonBy cX9_wonBy 3 (some .int) 5 116 g [(ra, .inl (g.2.1, 61, .inl row))] [.ref ra, .int a1] r := by
  refine metP_intro (by decide) rfl ?_
  intro p e R s m args below meth c Q hRf hRl hQ hx hb hml hr hlocks hown hts hin hE hP ls hl
  have hown : s.vm.findClass "HallGuardsModel" = some m.cls := hown
  have hl : lv_has ls 3 [(0, .ref ra), (1, .int a1)] := hl
  unfold fX9_wonBy at hyp
  refine lv_aload_n hx hb dX9_wonBy_0 rfl (lv_at hl 0 rfl) ?_
  obtain ⟨r_1, hr_1, hyp⟩ := opt_e hyp
  refine pS (As := [.ref ra]) (rest := []) ⟨hx, hb, hml, hown, hts⟩ hE (mX9_king l g ra row r_1 hr_1) cf_X9_king st_X9_king ml_X9_98 ⟨Nat.le_trans (Nat.le_of_ble_eq_true rfl) hRf, Nat.le_trans (Nat.le_of_ble_eq_true rfl) hRl⟩ (hP.sub (ws' := [(ra, .inl (g.2.1, 61, .inl row))]) [0] rfl) rfl hl.1 rfl (Nat.le_of_ble_eq_true rfl) dX9_wonBy_1 ⟨Nat.zero_le _, Nat.zero_le _⟩ ?_
  refine lv_istore_n (lv' := [(2, .int r_1), (0, .ref ra), (1, .int a1)]) hx hb dX9_wonBy_4 rfl hl (by decide) rfl (fun ls hl => ?_)
  refine lv_iload_n hx hb dX9_wonBy_5 rfl (lv_at hl 0 rfl) ?_
  refine lv_iconst (v := (-1)) hx hb dX9_wonBy_6 (by decide) ?_
  refine lv_icmp_ne (tgt := 12) hx hb dX9_wonBy_7 (by decide) (fun h_2 => ?_) (fun h_2 => ?_)
  · replace hyp := ite_f h_2 hyp
    refine lv_iload_n hx hb dX9_wonBy_12 rfl (lv_at hl 0 rfl) ?_
    obtain ⟨r_3, hr_3, hyp⟩ := opt_e hyp
    refine pS (As := [.int r_1]) (rest := []) ⟨hx, hb, hml, hown, hts⟩ hE (mX9_isCorner l g r_1 r_3 hr_3) cf_X9_isCorner st_X9_isCorner ml_X9_68 ⟨Nat.le_trans (Nat.le_of_ble_eq_true rfl) hRf, Nat.le_trans (Nat.le_of_ble_eq_true rfl) hRl⟩ (va_P_nil) rfl hl.1 rfl (Nat.le_of_ble_eq_true rfl) dX9_wonBy_13 ⟨Nat.zero_le _, Nat.zero_le _⟩ ?_
    refine lv_if_eq (tgt := 23) hx hb dX9_wonBy_16 (by decide) (fun h_4 => ?_) (fun h_4 => ?_)
    · replace hyp := ite_t h_4 hyp
      refine lv_aload_n hx hb dX9_wonBy_23 rfl (lv_at hl 1 rfl) ?_
      refine lv_iconst (v := 1) hx hb dX9_wonBy_24 (by decide) ?_
      refine lv_iload_n hx hb dX9_wonBy_25 rfl (lv_at hl 2 rfl) ?_
      refine lv_isub hx hb dX9_wonBy_26 ?_
      obtain ⟨r_5, hr_5, hyp⟩ := opt_e hyp
      refine pS (As := [.ref ra, .int (1 - a1)]) (rest := []) ⟨hx, hb, hml, hown, hts⟩ hE (mX9_moveCount l g ra row (1 - a1) r_5 hr_5) cf_X9_moveCount st_X9_moveCount ml_X9_101 ⟨Nat.le_trans (Nat.le_of_ble_eq_true rfl) hRf, Nat.le_trans (Nat.le_of_ble_eq_true rfl) hRl⟩ (hP.sub (ws' := [(ra, .inl (g.2.1, 61, .inl row))]) [0] rfl) rfl hl.1 rfl (Nat.le_of_ble_eq_true rfl) dX9_wonBy_27 ⟨Nat.zero_le _, Nat.zero_le _⟩ ?_
      refine lv_if_ne (tgt := 37) hx hb dX9_wonBy_30 (by decide) (fun h_6 => ?_) (fun h_6 => ?_)
      · replace hyp := ite_f h_6 hyp
        refine lv_iconst (v := (-1)) hx hb dX9_wonBy_37 (by decide) ?_
        subst hQ
        exact rI hx hb hr hlocks (some_e hyp) dX9_wonBy_38
      · replace hyp := ite_t h_6 hyp
        refine lv_iload_n hx hb dX9_wonBy_33 rfl (lv_at hl 2 rfl) ?_
        refine lv_goto (tgt := 38) hx hb dX9_wonBy_34 (by decide) ?_
        subst hQ
        exact rI hx hb hr hlocks (some_e hyp) dX9_wonBy_38
    · replace hyp := ite_f h_4 hyp
      refine lv_iconst (v := 1) hx hb dX9_wonBy_19 (by decide) ?_
      refine lv_goto (tgt := 38) hx hb dX9_wonBy_20 (by decide) ?_
      subst hQ
      exact rI hx hb hr hlocks (some_e hyp) dX9_wonBy_38
  · replace hyp := ite_t h_2 hyp
    refine lv_iconst (v := 0) hx hb dX9_wonBy_10 (by decide) ?_
    subst hQ
    exact rI hx hb hr hlocks (some_e hyp) dX9_wonBy_11

def fX9_code_L5_B (row : Nat → Int32) (a2 : Int32) (self_3 : Int64 → Int32 → Option Int64) (v3_1 : Int64) (v5_2 : Int32) : Option Int64 :=
  if a2 ≤ v5_2 then (some v3_1) else (grd (inB v5_2 61) (bnd ((v3_1 <<< ((2 : Int32).toInt64 &&& 63)) ||| ((row v5_2.toNatClampNeg).toInt64)) (fun (v3_5 : Int64) => self_3 v3_5 (v5_2 + 1))))
def fX9_code_L5 (row : Nat → Int32) (a2 : Int32) (n : Nat) (v3_1 : Int64) (v5_2 : Int32) : Option Int64 := lp (fun zf z => fX9_code_L5_B row a2 (fun v3_1 v5_2 => zf (v3_1, v5_2)) z.1 z.2) n (v3_1, v5_2)
def fX9_code (row : Nat → Int32) (a1 : Int32) (a2 : Int32) : Option Int64 :=
  fX9_code_L5 row a2 64 0 a1
set_option maxRecDepth 100000 in
set_option maxHeartbeats 4000000 in
theorem mX9_code (l : Launch) (g : GE) (ra : Nat) (row : Nat → Int32) (a1 : Int32) (a2 : Int32) (r : Int64) (hyp : fX9_code row a1 a2 = some r) : PJ l yX9_code cX9_code 6 (some .long) 0 0 g [(ra, .inl (g.2.1, 61, .inl row))] [.ref ra, .int a1, .int a2] r := by
  refine metP_intro (by decide) rfl ?_
  intro p e R s m args below meth c Q hRf hRl hQ hx hb hml hr hlocks hown hts hin hE hP ls hl
  have hown : s.vm.findClass "HallGuardsModel" = some m.cls := hown
  have hl : lv_has ls 6 [(0, .ref ra), (1, .int a1), (2, .int a2)] := hl
  unfold fX9_code at hyp
  refine lv_lconst (v := 0) hx hb dX9_code_0 (by decide) ?_
  refine lv_lstore_n (lv' := [(3, .long 0), (0, .ref ra), (1, .int a1), (2, .int a2)]) hx hb dX9_code_1 rfl hl (by decide) rfl (fun ls hl => ?_)
  refine lv_iload_n hx hb dX9_code_2 rfl (lv_at hl 2 rfl) ?_
  refine lv_istore (lv' := [(5, .int a1), (3, .long 0), (0, .ref ra), (1, .int a1), (2, .int a2)]) hx hb dX9_code_3 hl (by decide) rfl (fun ls hl => ?_)
  refine lp_i (r := r) (fun z : Int64 × Int32 => ∀ (ls : Array Slot), lv_has ls 6 [(0, .ref ra), (2, .int a2), (3, .long z.1), (5, .int z.2)] → W p l e R s m args below meth c s.heap [] 0 0 Q (F0 m 5 ls [])) ?_ 64 (0, a1) hyp ls (lv_sub hl [2, 4, 1, 0] rfl)
  intro self_3T ihself_3T z hyp ls hl
  obtain ⟨v3_1, v5_2⟩ := z
  obtain ⟨self_3, eself_3⟩ : ∃ f9 : Int64 → Int32 → Option Int64, f9 = fun v3_1 v5_2 => self_3T (v3_1, v5_2) := ⟨_, rfl⟩
  have ihself_3 := fun (v3_1 : Int64) (v5_2 : Int32) (h9 : self_3 v3_1 v5_2 = some r) => ihself_3T (v3_1, v5_2) (by rw [eself_3] at h9; exact h9)
  replace hyp : fX9_code_L5_B row a2 self_3 v3_1 v5_2 = some r := by rw [eself_3]; exact hyp
  have hl : lv_has ls 6 [(0, .ref ra), (2, .int a2), (3, .long v3_1), (5, .int v5_2)] := hl
  show W p l e R s m args below meth c s.heap [] 0 0 Q (F0 m 5 ls [])
  unfold fX9_code_L5_B at hyp
  refine lv_iload hx hb dX9_code_5 (lv_at hl 3 rfl) ?_
  refine lv_iload_n hx hb dX9_code_7 rfl (lv_at hl 1 rfl) ?_
  refine lv_icmp_ge (tgt := 27) hx hb dX9_code_8 (by decide) (fun h_4 => ?_) (fun h_4 => ?_)
  · replace hyp := ite_t h_4 hyp
    refine lv_lload_n hx hb dX9_code_27 rfl (lv_at hl 2 rfl) ?_
    subst hQ
    exact rJ hx hb hr hlocks (some_e hyp) dX9_code_28
  · replace hyp := ite_f h_4 hyp
    refine lv_lload_n hx hb dX9_code_11 rfl (lv_at hl 2 rfl) ?_
    refine lv_iconst (v := 2) hx hb dX9_code_12 (by decide) ?_
    refine lv_lshl hx hb dX9_code_13 rfl ?_
    refine lv_aload_n hx hb dX9_code_14 rfl (lv_at hl 0 rfl) ?_
    refine lv_iload hx hb dX9_code_15 (lv_at hl 3 rfl) ?_
    obtain ⟨hi, hyp⟩ := grd_e hyp
    refine va_iald hx hb hE.1 hP 0 0 rfl rfl (inB_vp hi) dX9_code_17 ?_
    refine lv_i2l hx hb dX9_code_18 rfl ?_
    refine lv_lor hx hb dX9_code_19 ?_
    obtain ⟨v3_5, ev3_5, hyp⟩ := bnd_e hyp
    refine lv_eqj ev3_5 ?_
    refine lv_lstore_n (lv' := [(3, .long v3_5), (0, .ref ra), (2, .int a2), (5, .int v5_2)]) hx hb dX9_code_20 rfl hl (by decide) rfl (fun ls hl => ?_)
    refine lv_iinc (v := v5_2 + 1) (lv' := [(5, .int (v5_2 + 1)), (3, .long v3_5), (0, .ref ra), (2, .int a2)]) hx hb dX9_code_21 hl (k := 3) rfl rfl (by decide) rfl (fun ls hl => ?_)
    refine lv_goto (tgt := 5) hx hb dX9_code_24 (by decide) ?_
    exact ihself_3 v3_5 (v5_2 + 1) hyp ls (lv_sub hl [2, 3, 1, 0] rfl)

def fX9_piecesIn_L4_B (row : Nat → Int32) (self_3 : Int32 → Int32 → Option Int32) (v1_1 : Int32) (v2_2 : Int32) : Option Int32 :=
  if 49 ≤ v2_2 then (some v1_1) else (grd (inB v2_2 61) (jn (fun (t_5 : Int32) => self_3 (v1_1 + t_5) (v2_2 + 1)) (fun J_6 => if (row v2_2.toNatClampNeg) ≤ 0 then (J_6 0) else (J_6 1))))
def fX9_piecesIn_L4 (row : Nat → Int32) (n : Nat) (v1_1 : Int32) (v2_2 : Int32) : Option Int32 := lp (fun zf z => fX9_piecesIn_L4_B row (fun v1_1 v2_2 => zf (v1_1, v2_2)) z.1 z.2) n (v1_1, v2_2)
def fX9_piecesIn (row : Nat → Int32) : Option Int32 :=
  fX9_piecesIn_L4 row 64 0 0
set_option maxRecDepth 100000 in
set_option maxHeartbeats 4000000 in
theorem mX9_piecesIn (l : Launch) (g : GE) (ra : Nat) (row : Nat → Int32) (r : Int32) (hyp : fX9_piecesIn row = some r) : PI l yX9_piecesIn cX9_piecesIn 3 (some .int) 0 0 g [(ra, .inl (g.2.1, 61, .inl row))] [.ref ra] r := by
  refine metP_intro (by decide) rfl ?_
  intro p e R s m args below meth c Q hRf hRl hQ hx hb hml hr hlocks hown hts hin hE hP ls hl
  have hown : s.vm.findClass "HallGuardsModel" = some m.cls := hown
  have hl : lv_has ls 3 [(0, .ref ra)] := hl
  unfold fX9_piecesIn at hyp
  refine lv_iconst (v := 0) hx hb dX9_piecesIn_0 (by decide) ?_
  refine lv_istore_n (lv' := [(1, .int 0), (0, .ref ra)]) hx hb dX9_piecesIn_1 rfl hl (by decide) rfl (fun ls hl => ?_)
  refine lv_iconst (v := 0) hx hb dX9_piecesIn_2 (by decide) ?_
  refine lv_istore_n (lv' := [(2, .int 0), (1, .int 0), (0, .ref ra)]) hx hb dX9_piecesIn_3 rfl hl (by decide) rfl (fun ls hl => ?_)
  refine lp_i (r := r) (fun z : Int32 × Int32 => ∀ (ls : Array Slot), lv_has ls 3 [(0, .ref ra), (1, .int z.1), (2, .int z.2)] → W p l e R s m args below meth c s.heap [] 0 0 Q (F0 m 4 ls [])) ?_ 64 (0, 0) hyp ls (lv_sub hl [2, 1, 0] rfl)
  intro self_3T ihself_3T z hyp ls hl
  obtain ⟨v1_1, v2_2⟩ := z
  obtain ⟨self_3, eself_3⟩ : ∃ f9 : Int32 → Int32 → Option Int32, f9 = fun v1_1 v2_2 => self_3T (v1_1, v2_2) := ⟨_, rfl⟩
  have ihself_3 := fun (v1_1 : Int32) (v2_2 : Int32) (h9 : self_3 v1_1 v2_2 = some r) => ihself_3T (v1_1, v2_2) (by rw [eself_3] at h9; exact h9)
  replace hyp : fX9_piecesIn_L4_B row self_3 v1_1 v2_2 = some r := by rw [eself_3]; exact hyp
  have hl : lv_has ls 3 [(0, .ref ra), (1, .int v1_1), (2, .int v2_2)] := hl
  show W p l e R s m args below meth c s.heap [] 0 0 Q (F0 m 4 ls [])
  unfold fX9_piecesIn_L4_B at hyp
  refine lv_iload_n hx hb dX9_piecesIn_4 rfl (lv_at hl 2 rfl) ?_
  refine lv_bipush (v := 49) hx hb dX9_piecesIn_5 (by decide) ?_
  refine lv_icmp_ge (tgt := 30) hx hb dX9_piecesIn_7 (by decide) (fun h_4 => ?_) (fun h_4 => ?_)
  · replace hyp := ite_t h_4 hyp
    refine lv_iload_n hx hb dX9_piecesIn_30 rfl (lv_at hl 1 rfl) ?_
    subst hQ
    exact rI hx hb hr hlocks (some_e hyp) dX9_piecesIn_31
  · replace hyp := ite_f h_4 hyp
    refine lv_iload_n hx hb dX9_piecesIn_10 rfl (lv_at hl 1 rfl) ?_
    refine lv_aload_n hx hb dX9_piecesIn_11 rfl (lv_at hl 0 rfl) ?_
    refine lv_iload_n hx hb dX9_piecesIn_12 rfl (lv_at hl 2 rfl) ?_
    obtain ⟨hi, hyp⟩ := grd_e hyp
    refine va_iald hx hb hE.1 hP 0 0 rfl rfl (inB_vp hi) dX9_piecesIn_13 ?_
    obtain ⟨J_6, eJ_6, hyp⟩ := jn_e hyp
    have kJ_6 : ∀ (t_5 : Int32) (ls : Array Slot), J_6 t_5 = some r → lv_has ls 3 [(0, .ref ra), (2, .int v2_2)] → W p l e R s m args below meth c s.heap [] 0 0 Q (F0 m 22 ls [.int t_5, .int v1_1]) := by
      intro t_5  ls hyp hl
      replace hyp := (congrFun (eJ_6) t_5).symm.trans hyp
      refine lv_iadd hx hb dX9_piecesIn_22 ?_
      refine lv_istore_n (lv' := [(1, .int (v1_1 + t_5)), (0, .ref ra), (2, .int v2_2)]) hx hb dX9_piecesIn_23 rfl hl (by decide) rfl (fun ls hl => ?_)
      refine lv_iinc (v := v2_2 + 1) (lv' := [(2, .int (v2_2 + 1)), (1, .int (v1_1 + t_5)), (0, .ref ra)]) hx hb dX9_piecesIn_24 hl (k := 2) rfl rfl (by decide) rfl (fun ls hl => ?_)
      refine lv_goto (tgt := 4) hx hb dX9_piecesIn_27 (by decide) ?_
      exact ihself_3 (v1_1 + t_5) (v2_2 + 1) hyp ls (lv_sub hl [2, 1, 0] rfl)
    refine lv_if_le (tgt := 21) hx hb dX9_piecesIn_14 (by decide) (fun h_7 => ?_) (fun h_7 => ?_)
    · replace hyp := ite_t h_7 hyp
      refine lv_iconst (v := 0) hx hb dX9_piecesIn_21 (by decide) ?_
      exact kJ_6 0 ls hyp (lv_sub hl [0, 2] rfl)
    · replace hyp := ite_f h_7 hyp
      refine lv_iconst (v := 1) hx hb dX9_piecesIn_17 (by decide) ?_
      refine lv_goto (tgt := 22) hx hb dX9_piecesIn_18 (by decide) ?_
      exact kJ_6 1 ls hyp (lv_sub hl [0, 2] rfl)

def fX9_mayMove (row : Nat → Int32) (a1 : Int32) (a2 : Int32) : Option Int32 :=
  grd (inB 50 61) (if (row (50 : Int32).toNatClampNeg) = 1 then (grd (inB a1 61) ((fX9_side (row a1.toNatClampNeg)).bind (fun (r_2 : Int32) => grd (inB 49 61) (if r_2 = (row (49 : Int32).toNatClampNeg) then ((fX9_against row a1 a2).bind (fun (r_4 : Int32) => if r_4 = 0 then (some 1) else (some 0))) else (some 0))))) else (some 0))
set_option maxRecDepth 100000 in
set_option maxHeartbeats 4000000 in
theorem mX9_mayMove (l : Launch) (g : GE) (ra : Nat) (row : Nat → Int32) (a1 : Int32) (a2 : Int32) (r : Int32) (hyp : fX9_mayMove row a1 a2 = some r) : PI l yX9_mayMove cX9_mayMove 3 (some .boolean) 4 94 g [(ra, .inl (g.2.1, 61, .inl row))] [.ref ra, .int a1, .int a2] r := by
  refine metP_intro (by decide) rfl ?_
  intro p e R s m args below meth c Q hRf hRl hQ hx hb hml hr hlocks hown hts hin hE hP ls hl
  have hown : s.vm.findClass "HallGuardsModel" = some m.cls := hown
  have hl : lv_has ls 3 [(0, .ref ra), (1, .int a1), (2, .int a2)] := hl
  unfold fX9_mayMove at hyp
  refine lv_aload_n hx hb dX9_mayMove_0 rfl (lv_at hl 0 rfl) ?_
  refine lv_bipush (v := 50) hx hb dX9_mayMove_1 (by decide) ?_
  obtain ⟨hi, hyp⟩ := grd_e hyp
  refine va_iald hx hb hE.1 hP 0 0 rfl rfl (inB_vp hi) dX9_mayMove_3 ?_
  refine lv_iconst (v := 1) hx hb dX9_mayMove_4 (by decide) ?_
  refine lv_icmp_ne (tgt := 34) hx hb dX9_mayMove_5 (by decide) (fun h_1 => ?_) (fun h_1 => ?_)
  · replace hyp := ite_f h_1 hyp
    refine lv_iconst (v := 0) hx hb dX9_mayMove_34 (by decide) ?_
    subst hQ
    exact rZ hx hb hr hlocks (Or.inl rfl) (some_e hyp) dX9_mayMove_35
  · replace hyp := ite_t h_1 hyp
    refine lv_aload_n hx hb dX9_mayMove_8 rfl (lv_at hl 0 rfl) ?_
    refine lv_iload_n hx hb dX9_mayMove_9 rfl (lv_at hl 1 rfl) ?_
    obtain ⟨hi, hyp⟩ := grd_e hyp
    refine va_iald hx hb hE.1 hP 0 0 rfl rfl (inB_vp hi) dX9_mayMove_10 ?_
    obtain ⟨r_2, hr_2, hyp⟩ := opt_e hyp
    refine pS (As := [.int (row a1.toNatClampNeg)]) (rest := []) ⟨hx, hb, hml, hown, hts⟩ hE (mX9_side l g (row a1.toNatClampNeg) r_2 hr_2) cf_X9_side st_X9_side ml_X9_72 ⟨Nat.le_trans (Nat.le_of_ble_eq_true rfl) hRf, Nat.le_trans (Nat.le_of_ble_eq_true rfl) hRl⟩ (va_P_nil) rfl hl.1 rfl (Nat.le_of_ble_eq_true rfl) dX9_mayMove_11 ⟨Nat.zero_le _, Nat.zero_le _⟩ ?_
    refine lv_aload_n hx hb dX9_mayMove_14 rfl (lv_at hl 0 rfl) ?_
    refine lv_bipush (v := 49) hx hb dX9_mayMove_15 (by decide) ?_
    obtain ⟨hi, hyp⟩ := grd_e hyp
    refine va_iald hx hb hE.1 hP 0 0 rfl rfl (inB_vp hi) dX9_mayMove_17 ?_
    refine lv_icmp_ne (tgt := 34) hx hb dX9_mayMove_18 (by decide) (fun h_3 => ?_) (fun h_3 => ?_)
    · replace hyp := ite_f h_3 hyp
      refine lv_iconst (v := 0) hx hb dX9_mayMove_34 (by decide) ?_
      subst hQ
      exact rZ hx hb hr hlocks (Or.inl rfl) (some_e hyp) dX9_mayMove_35
    · replace hyp := ite_t h_3 hyp
      refine lv_aload_n hx hb dX9_mayMove_21 rfl (lv_at hl 0 rfl) ?_
      refine lv_iload_n hx hb dX9_mayMove_22 rfl (lv_at hl 1 rfl) ?_
      refine lv_iload_n hx hb dX9_mayMove_23 rfl (lv_at hl 2 rfl) ?_
      obtain ⟨r_4, hr_4, hyp⟩ := opt_e hyp
      refine pS (As := [.ref ra, .int a1, .int a2]) (rest := []) ⟨hx, hb, hml, hown, hts⟩ hE (mX9_against l g ra row a1 a2 r_4 hr_4) cf_X9_against st_X9_against ml_X9_132 ⟨Nat.le_trans (Nat.le_of_ble_eq_true rfl) hRf, Nat.le_trans (Nat.le_of_ble_eq_true rfl) hRl⟩ (hP.sub (ws' := [(ra, .inl (g.2.1, 61, .inl row))]) [0] rfl) rfl hl.1 rfl (Nat.le_of_ble_eq_true rfl) dX9_mayMove_24 ⟨Nat.zero_le _, Nat.zero_le _⟩ ?_
      refine lv_if_ne (tgt := 34) hx hb dX9_mayMove_27 (by decide) (fun h_5 => ?_) (fun h_5 => ?_)
      · replace hyp := ite_f h_5 hyp
        refine lv_iconst (v := 0) hx hb dX9_mayMove_34 (by decide) ?_
        subst hQ
        exact rZ hx hb hr hlocks (Or.inl rfl) (some_e hyp) dX9_mayMove_35
      · replace hyp := ite_t h_5 hyp
        refine lv_iconst (v := 1) hx hb dX9_mayMove_30 (by decide) ?_
        refine lv_goto (tgt := 35) hx hb dX9_mayMove_31 (by decide) ?_
        subst hQ
        exact rZ hx hb hr hlocks (Or.inr rfl) (some_e hyp) dX9_mayMove_35

def fX9_count_L4_B (row : Nat → Int32) (a1 : Int32) (self_3 : Int32 → Int32 → Option Int32) (v2_1 : Int32) (v3_2 : Int32) : Option Int32 :=
  if 49 ≤ v3_2 then (some v2_1) else (grd (inB v3_2 61) ((fX9_side (row v3_2.toNatClampNeg)).bind (fun (r_5 : Int32) => jn (fun (t_6 : Int32) => self_3 (v2_1 + t_6) (v3_2 + 1)) (fun J_7 => if r_5 = a1 then (J_7 1) else (J_7 0)))))
def fX9_count_L4 (row : Nat → Int32) (a1 : Int32) (n : Nat) (v2_1 : Int32) (v3_2 : Int32) : Option Int32 := lp (fun zf z => fX9_count_L4_B row a1 (fun v2_1 v3_2 => zf (v2_1, v3_2)) z.1 z.2) n (v2_1, v3_2)
def fX9_count (row : Nat → Int32) (a1 : Int32) : Option Int32 :=
  fX9_count_L4 row a1 64 0 0
set_option maxRecDepth 100000 in
set_option maxHeartbeats 4000000 in
theorem mX9_count (l : Launch) (g : GE) (ra : Nat) (row : Nat → Int32) (a1 : Int32) (r : Int32) (hyp : fX9_count row a1 = some r) : PI l yX9_count cX9_count 4 (some .int) 1 20 g [(ra, .inl (g.2.1, 61, .inl row))] [.ref ra, .int a1] r := by
  refine metP_intro (by decide) rfl ?_
  intro p e R s m args below meth c Q hRf hRl hQ hx hb hml hr hlocks hown hts hin hE hP ls hl
  have hown : s.vm.findClass "HallGuardsModel" = some m.cls := hown
  have hl : lv_has ls 4 [(0, .ref ra), (1, .int a1)] := hl
  unfold fX9_count at hyp
  refine lv_iconst (v := 0) hx hb dX9_count_0 (by decide) ?_
  refine lv_istore_n (lv' := [(2, .int 0), (0, .ref ra), (1, .int a1)]) hx hb dX9_count_1 rfl hl (by decide) rfl (fun ls hl => ?_)
  refine lv_iconst (v := 0) hx hb dX9_count_2 (by decide) ?_
  refine lv_istore_n (lv' := [(3, .int 0), (2, .int 0), (0, .ref ra), (1, .int a1)]) hx hb dX9_count_3 rfl hl (by decide) rfl (fun ls hl => ?_)
  refine lp_i (r := r) (fun z : Int32 × Int32 => ∀ (ls : Array Slot), lv_has ls 4 [(0, .ref ra), (1, .int a1), (2, .int z.1), (3, .int z.2)] → W p l e R s m args below meth c s.heap [] 0 0 Q (F0 m 4 ls [])) ?_ 64 (0, 0) hyp ls (lv_sub hl [2, 3, 1, 0] rfl)
  intro self_3T ihself_3T z hyp ls hl
  obtain ⟨v2_1, v3_2⟩ := z
  obtain ⟨self_3, eself_3⟩ : ∃ f9 : Int32 → Int32 → Option Int32, f9 = fun v2_1 v3_2 => self_3T (v2_1, v3_2) := ⟨_, rfl⟩
  have ihself_3 := fun (v2_1 : Int32) (v3_2 : Int32) (h9 : self_3 v2_1 v3_2 = some r) => ihself_3T (v2_1, v3_2) (by rw [eself_3] at h9; exact h9)
  replace hyp : fX9_count_L4_B row a1 self_3 v2_1 v3_2 = some r := by rw [eself_3]; exact hyp
  have hl : lv_has ls 4 [(0, .ref ra), (1, .int a1), (2, .int v2_1), (3, .int v3_2)] := hl
  show W p l e R s m args below meth c s.heap [] 0 0 Q (F0 m 4 ls [])
  unfold fX9_count_L4_B at hyp
  refine lv_iload_n hx hb dX9_count_4 rfl (lv_at hl 3 rfl) ?_
  refine lv_bipush (v := 49) hx hb dX9_count_5 (by decide) ?_
  refine lv_icmp_ge (tgt := 34) hx hb dX9_count_7 (by decide) (fun h_4 => ?_) (fun h_4 => ?_)
  · replace hyp := ite_t h_4 hyp
    refine lv_iload_n hx hb dX9_count_34 rfl (lv_at hl 2 rfl) ?_
    subst hQ
    exact rI hx hb hr hlocks (some_e hyp) dX9_count_35
  · replace hyp := ite_f h_4 hyp
    refine lv_iload_n hx hb dX9_count_10 rfl (lv_at hl 2 rfl) ?_
    refine lv_aload_n hx hb dX9_count_11 rfl (lv_at hl 0 rfl) ?_
    refine lv_iload_n hx hb dX9_count_12 rfl (lv_at hl 3 rfl) ?_
    obtain ⟨hi, hyp⟩ := grd_e hyp
    refine va_iald hx hb hE.1 hP 0 0 rfl rfl (inB_vp hi) dX9_count_13 ?_
    obtain ⟨r_5, hr_5, hyp⟩ := opt_e hyp
    refine pS (As := [.int (row v3_2.toNatClampNeg)]) (rest := [.int v2_1]) ⟨hx, hb, hml, hown, hts⟩ hE (mX9_side l g (row v3_2.toNatClampNeg) r_5 hr_5) cf_X9_side st_X9_side ml_X9_72 ⟨Nat.le_trans (Nat.le_of_ble_eq_true rfl) hRf, Nat.le_trans (Nat.le_of_ble_eq_true rfl) hRl⟩ (va_P_nil) rfl hl.1 rfl (Nat.le_of_ble_eq_true rfl) dX9_count_14 ⟨Nat.zero_le _, Nat.zero_le _⟩ ?_
    refine lv_iload_n hx hb dX9_count_17 rfl (lv_at hl 1 rfl) ?_
    obtain ⟨J_7, eJ_7, hyp⟩ := jn_e hyp
    have kJ_7 : ∀ (t_6 : Int32) (ls : Array Slot), J_7 t_6 = some r → lv_has ls 4 [(0, .ref ra), (1, .int a1), (3, .int v3_2)] → W p l e R s m args below meth c s.heap [] 0 0 Q (F0 m 26 ls [.int t_6, .int v2_1]) := by
      intro t_6  ls hyp hl
      replace hyp := (congrFun (eJ_7) t_6).symm.trans hyp
      refine lv_iadd hx hb dX9_count_26 ?_
      refine lv_istore_n (lv' := [(2, .int (v2_1 + t_6)), (0, .ref ra), (1, .int a1), (3, .int v3_2)]) hx hb dX9_count_27 rfl hl (by decide) rfl (fun ls hl => ?_)
      refine lv_iinc (v := v3_2 + 1) (lv' := [(3, .int (v3_2 + 1)), (2, .int (v2_1 + t_6)), (0, .ref ra), (1, .int a1)]) hx hb dX9_count_28 hl (k := 3) rfl rfl (by decide) rfl (fun ls hl => ?_)
      refine lv_goto (tgt := 4) hx hb dX9_count_31 (by decide) ?_
      exact ihself_3 (v2_1 + t_6) (v3_2 + 1) hyp ls (lv_sub hl [2, 3, 1, 0] rfl)
    refine lv_icmp_ne (tgt := 25) hx hb dX9_count_18 (by decide) (fun h_8 => ?_) (fun h_8 => ?_)
    · replace hyp := ite_f h_8 hyp
      refine lv_iconst (v := 0) hx hb dX9_count_25 (by decide) ?_
      exact kJ_7 0 ls hyp (lv_sub hl [0, 1, 3] rfl)
    · replace hyp := ite_t h_8 hyp
      refine lv_iconst (v := 1) hx hb dX9_count_21 (by decide) ?_
      refine lv_goto (tgt := 26) hx hb dX9_count_22 (by decide) ?_
      exact kJ_7 1 ls hyp (lv_sub hl [0, 1, 3] rfl)

def fX9_copy_L2_B (row : Nat → Int32) (self_3 : Int32 → (Nat → Int32) → Option ((Nat → Int32))) (v2_1 : Int32) (wrowb_2 : Nat → Int32) : Option ((Nat → Int32)) :=
  if 61 ≤ v2_1 then (some (wrowb_2)) else (grd (inB v2_1 61) (grd (inB v2_1 61) (self_3 (v2_1 + 1) (upd wrowb_2 v2_1.toNatClampNeg (row v2_1.toNatClampNeg)))))
def fX9_copy_L2 (row : Nat → Int32) (n : Nat) (v2_1 : Int32) (wrowb_2 : Nat → Int32) : Option ((Nat → Int32)) := lp (fun zf z => fX9_copy_L2_B row (fun v2_1 wrowb_2 => zf (v2_1, wrowb_2)) z.1 z.2) n (v2_1, wrowb_2)
def fX9_copy (row : Nat → Int32) (rowb : Nat → Int32) : Option ((Nat → Int32)) :=
  fX9_copy_L2 row 64 0 rowb
set_option maxRecDepth 100000 in
set_option maxHeartbeats 4000000 in
theorem mX9_copy (l : Launch) (g : GE) (ra rb : Nat) (row : Nat → Int32) (rowb : Nat → Int32) (r : (Nat → Int32)) (hyp : fX9_copy row rowb = some r) : WM l yX9_copy cX9_copy 3 none 0 0 g [(ra, .inl (g.2.1, 61, .inl row)), (rb, .inl (g.2.1, 61, .inl rowb))] [.ref ra, .ref rb] none [(ra, .inl (g.2.1, 61, .inl row)), (rb, .inl (g.2.1, 61, .inl r))] := by
  refine metW_intro (by decide) rfl ?_
  intro p e R s m args below meth c Q A hRf hRl hQ hx hb hml hr hlocks hown hts hin hE hA H locs hP hD hS ls hl
  have hown : s.vm.findClass "HallGuardsModel" = some m.cls := hown
  have hl : lv_has ls 3 [(0, .ref ra), (1, .ref rb)] := hl
  unfold fX9_copy at hyp
  refine lv_iconst (v := 0) hx hb dX9_copy_0 (by decide) ?_
  refine lv_istore_n (lv' := [(2, .int 0), (0, .ref ra), (1, .ref rb)]) hx hb dX9_copy_1 rfl hl (by decide) rfl (fun ls hl => ?_)
  refine lp_i (r := r) (fun z : Int32 × (Nat → Int32) => ∀ (H : Heap) (locs : List Loc) (ls : Array Slot), lv_has ls 3 [(0, .ref ra), (1, .ref rb), (2, .int z.1)] → va_P g.1 vwCl [(ra, .inl (g.2.1, 61, .inl row)), (rb, .inl (g.2.1, 61, .inl z.2))] H → va_D A [(ra, .inl (g.2.1, 61, .inl row)), (rb, .inl (g.2.1, 61, .inl z.2))] → va_S A s.heap H locs → W p l e R s m args below meth c H locs 0 0 Q (F0 m 2 ls [])) ?_ 64 (0, rowb) hyp _ _ ls (lv_sub hl [1, 2, 0] rfl) hP hD hS
  intro self_3T ihself_3T z hyp H locs ls hl hP hD hS
  obtain ⟨v2_1, wrowb_2⟩ := z
  obtain ⟨self_3, eself_3⟩ : ∃ f9 : Int32 → (Nat → Int32) → Option ((Nat → Int32)), f9 = fun v2_1 wrowb_2 => self_3T (v2_1, wrowb_2) := ⟨_, rfl⟩
  have ihself_3 := fun (v2_1 : Int32) (wrowb_2 : Nat → Int32) (h9 : self_3 v2_1 wrowb_2 = some r) => ihself_3T (v2_1, wrowb_2) (by rw [eself_3] at h9; exact h9)
  replace hyp : fX9_copy_L2_B row self_3 v2_1 wrowb_2 = some r := by rw [eself_3]; exact hyp
  have hl : lv_has ls 3 [(0, .ref ra), (1, .ref rb), (2, .int v2_1)] := hl
  have hP : va_P g.1 vwCl [(ra, .inl (g.2.1, 61, .inl row)), (rb, .inl (g.2.1, 61, .inl wrowb_2))] H := hP
  have hD : va_D A [(ra, .inl (g.2.1, 61, .inl row)), (rb, .inl (g.2.1, 61, .inl wrowb_2))] := hD
  show W p l e R s m args below meth c H locs 0 0 Q (F0 m 2 ls [])
  unfold fX9_copy_L2_B at hyp
  refine lv_iload_n hx hb dX9_copy_2 rfl (lv_at hl 2 rfl) ?_
  refine lv_bipush (v := 61) hx hb dX9_copy_3 (by decide) ?_
  refine lv_icmp_ge (tgt := 20) hx hb dX9_copy_5 (by decide) (fun h_4 => ?_) (fun h_4 => ?_)
  · replace hyp := ite_t h_4 hyp
    have hyp := some_e hyp
    subst hyp
    subst hQ
    exact rwV hx hb hr hlocks  hP hD hS dX9_copy_20
  · replace hyp := ite_f h_4 hyp
    refine lv_aload_n hx hb dX9_copy_8 rfl (lv_at hl 1 rfl) ?_
    refine lv_iload_n hx hb dX9_copy_9 rfl (lv_at hl 2 rfl) ?_
    refine lv_aload_n hx hb dX9_copy_10 rfl (lv_at hl 0 rfl) ?_
    refine lv_iload_n hx hb dX9_copy_11 rfl (lv_at hl 2 rfl) ?_
    obtain ⟨hi, hyp⟩ := grd_e hyp
    refine va_iald hx hb hE.1 hP 0 0 rfl rfl (inB_vp hi) dX9_copy_12 ?_
    obtain ⟨hi, hyp⟩ := grd_e hyp
    refine va_iast hx hb hE.1 hP hD hS 1 0 rfl rfl (inB_vp hi) dX9_copy_13 (fun H locs hP hD hS => ?_)
    have hP : va_P g.1 vwCl [(ra, .inl (g.2.1, 61, .inl row)), (rb, .inl (g.2.1, 61, .inl (upd wrowb_2 v2_1.toNatClampNeg (row v2_1.toNatClampNeg))))] H := hP
    have hD : va_D A [(ra, .inl (g.2.1, 61, .inl row)), (rb, .inl (g.2.1, 61, .inl (upd wrowb_2 v2_1.toNatClampNeg (row v2_1.toNatClampNeg))))] := hD
    refine lv_iinc (v := v2_1 + 1) (lv' := [(2, .int (v2_1 + 1)), (0, .ref ra), (1, .ref rb)]) hx hb dX9_copy_14 hl (k := 2) rfl rfl (by decide) rfl (fun ls hl => ?_)
    refine lv_goto (tgt := 2) hx hb dX9_copy_17 (by decide) ?_
    exact ihself_3 (v2_1 + 1) (upd wrowb_2 v2_1.toNatClampNeg (row v2_1.toNatClampNeg)) hyp H locs ls (lv_sub hl [1, 2, 0] rfl) hP hD hS

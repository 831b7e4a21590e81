def fX8_sideOf (a1 : Int32) : Option Int32 :=
  if a1 = 0 then (some (-1)) else (if a1 = 1 then (some 0) else (some 1))
set_option maxRecDepth 100000 in
set_option maxHeartbeats 4000000 in
theorem mX8_sideOf (l : Launch) (g : GE) (a1 : Int32) (r : Int32) (hyp : fX8_sideOf a1 = some r) : PI l yX8_sideOf cX8_sideOf 1 (some .int) 0 0 g [] [.int a1] r := by
  refine metP_intro (by decide) rfl ?_
  intro p e R s m args below meth c Q hRf hRl hQ hx hb hml hr hlocks hown hts hin hE hP ls hl
  have hown : s.vm.findClass "HallGuards" = some m.cls := hown
  have hl : lv_has ls 1 [(0, .int a1)] := hl
  unfold fX8_sideOf at hyp
  refine lv_iload_n hx hb dX8_sideOf_0 rfl (lv_at hl 0 rfl) ?_
  refine lv_if_ne (tgt := 6) hx hb dX8_sideOf_1 (by decide) (fun h_1 => ?_) (fun h_1 => ?_)
  · replace hyp := ite_f h_1 hyp
    refine lv_iload_n hx hb dX8_sideOf_6 rfl (lv_at hl 0 rfl) ?_
    refine lv_iconst (v := 1) hx hb dX8_sideOf_7 (by decide) ?_
    refine lv_icmp_ne (tgt := 15) hx hb dX8_sideOf_8 (by decide) (fun h_2 => ?_) (fun h_2 => ?_)
    · replace hyp := ite_f h_2 hyp
      refine lv_iconst (v := 1) hx hb dX8_sideOf_15 (by decide) ?_
      subst hQ
      exact rI hx hb hr hlocks (some_e hyp) dX8_sideOf_16
    · replace hyp := ite_t h_2 hyp
      refine lv_iconst (v := 0) hx hb dX8_sideOf_11 (by decide) ?_
      refine lv_goto (tgt := 16) hx hb dX8_sideOf_12 (by decide) ?_
      subst hQ
      exact rI hx hb hr hlocks (some_e hyp) dX8_sideOf_16
  · replace hyp := ite_t h_1 hyp
    refine lv_iconst (v := (-1)) hx hb dX8_sideOf_4 (by decide) ?_
    subst hQ
    exact rI hx hb hr hlocks (some_e hyp) dX8_sideOf_5

def fX8_beside (a1 : Int32) (a2 : Int32) : Option Int32 :=
  if 0 ≤ a1 then (if a2 = 0 then (if a1 < 7 then (some (-1)) else (some (a1 - 7))) else (if a2 = 1 then (if (a1 - a1 / 7 * 7) ≤ 0 then (some (-1)) else (some (a1 - 1))) else (if a2 = 2 then (if 6 ≤ (a1 - a1 / 7 * 7) then (some (-1)) else (some (a1 + 1))) else (if 42 ≤ a1 then (some (-1)) else (some (a1 + 7)))))) else (some (-1))
set_option maxRecDepth 100000 in
set_option maxHeartbeats 4000000 in
theorem mX8_beside (l : Launch) (g : GE) (a1 : Int32) (a2 : Int32) (r : Int32) (hyp : fX8_beside a1 a2 = some r) : PI l yX8_beside cX8_beside 2 (some .int) 0 0 g [] [.int a1, .int a2] r := by
  refine metP_intro (by decide) rfl ?_
  intro p e R s m args below meth c Q hRf hRl hQ hx hb hml hr hlocks hown hts hin hE hP ls hl
  have hown : s.vm.findClass "HallGuards" = some m.cls := hown
  have hl : lv_has ls 2 [(0, .int a1), (1, .int a2)] := hl
  unfold fX8_beside at hyp
  refine lv_iload_n hx hb dX8_beside_0 rfl (lv_at hl 0 rfl) ?_
  refine lv_if_ge (tgt := 6) hx hb dX8_beside_1 (by decide) (fun h_1 => ?_) (fun h_1 => ?_)
  · replace hyp := ite_t h_1 hyp
    refine lv_iload_n hx hb dX8_beside_6 rfl (lv_at hl 1 rfl) ?_
    by_cases h_2 : a2 = 0
    · replace hyp := ite_t h_2 hyp
      refine lv_tableIn (off := 25) (tgt := 32) hx hb dX8_beside_7 (by rw [h_2]; decide) (by rw [h_2]; decide) (by rw [h_2]; decide) (by decide) ?_
      refine lv_iload_n hx hb dX8_beside_32 rfl (lv_at hl 0 rfl) ?_
      refine lv_bipush (v := 7) hx hb dX8_beside_33 (by decide) ?_
      refine lv_icmp_lt (tgt := 45) hx hb dX8_beside_35 (by decide) (fun h_3 => ?_) (fun h_3 => ?_)
      · replace hyp := ite_t h_3 hyp
        refine lv_iconst (v := (-1)) hx hb dX8_beside_45 (by decide) ?_
        subst hQ
        exact rI hx hb hr hlocks (some_e hyp) dX8_beside_46
      · replace hyp := ite_f h_3 hyp
        refine lv_iload_n hx hb dX8_beside_38 rfl (lv_at hl 0 rfl) ?_
        refine lv_bipush (v := 7) hx hb dX8_beside_39 (by decide) ?_
        refine lv_isub hx hb dX8_beside_41 ?_
        refine lv_goto (tgt := 46) hx hb dX8_beside_42 (by decide) ?_
        subst hQ
        exact rI hx hb hr hlocks (some_e hyp) dX8_beside_46
    · replace hyp := ite_f h_2 hyp
      by_cases h_4 : a2 = 1
      · replace hyp := ite_t h_4 hyp
        refine lv_tableIn (off := 40) (tgt := 47) hx hb dX8_beside_7 (by rw [h_4]; decide) (by rw [h_4]; decide) (by rw [h_4]; decide) (by decide) ?_
        refine lv_iload_n hx hb dX8_beside_47 rfl (lv_at hl 0 rfl) ?_
        refine lv_bipush (v := 7) hx hb dX8_beside_48 (by decide) ?_
        refine lv_irem hx hb dX8_beside_50 (by decide) ?_
        refine lv_if_le (tgt := 60) hx hb dX8_beside_51 (by decide) (fun h_5 => ?_) (fun h_5 => ?_)
        · replace hyp := ite_t h_5 hyp
          refine lv_iconst (v := (-1)) hx hb dX8_beside_60 (by decide) ?_
          subst hQ
          exact rI hx hb hr hlocks (some_e hyp) dX8_beside_61
        · replace hyp := ite_f h_5 hyp
          refine lv_iload_n hx hb dX8_beside_54 rfl (lv_at hl 0 rfl) ?_
          refine lv_iconst (v := 1) hx hb dX8_beside_55 (by decide) ?_
          refine lv_isub hx hb dX8_beside_56 ?_
          refine lv_goto (tgt := 61) hx hb dX8_beside_57 (by decide) ?_
          subst hQ
          exact rI hx hb hr hlocks (some_e hyp) dX8_beside_61
      · replace hyp := ite_f h_4 hyp
        by_cases h_6 : a2 = 2
        · replace hyp := ite_t h_6 hyp
          refine lv_tableIn (off := 55) (tgt := 62) hx hb dX8_beside_7 (by rw [h_6]; decide) (by rw [h_6]; decide) (by rw [h_6]; decide) (by decide) ?_
          refine lv_iload_n hx hb dX8_beside_62 rfl (lv_at hl 0 rfl) ?_
          refine lv_bipush (v := 7) hx hb dX8_beside_63 (by decide) ?_
          refine lv_irem hx hb dX8_beside_65 (by decide) ?_
          refine lv_bipush (v := 6) hx hb dX8_beside_66 (by decide) ?_
          refine lv_icmp_ge (tgt := 77) hx hb dX8_beside_68 (by decide) (fun h_7 => ?_) (fun h_7 => ?_)
          · replace hyp := ite_t h_7 hyp
            refine lv_iconst (v := (-1)) hx hb dX8_beside_77 (by decide) ?_
            subst hQ
            exact rI hx hb hr hlocks (some_e hyp) dX8_beside_78
          · replace hyp := ite_f h_7 hyp
            refine lv_iload_n hx hb dX8_beside_71 rfl (lv_at hl 0 rfl) ?_
            refine lv_iconst (v := 1) hx hb dX8_beside_72 (by decide) ?_
            refine lv_iadd hx hb dX8_beside_73 ?_
            refine lv_goto (tgt := 78) hx hb dX8_beside_74 (by decide) ?_
            subst hQ
            exact rI hx hb hr hlocks (some_e hyp) dX8_beside_78
        · replace hyp := ite_f h_6 hyp
          refine lv_tableOut (tgt := 79) hx hb dX8_beside_7 (by have a0 := tsw_ne (n := 0) h_2 (by decide); have a1 := tsw_ne (n := 1) h_4 (by decide); have a2 := tsw_ne (n := 2) h_6 (by decide); omega) (by decide) ?_
          refine lv_iload_n hx hb dX8_beside_79 rfl (lv_at hl 0 rfl) ?_
          refine lv_bipush (v := 42) hx hb dX8_beside_80 (by decide) ?_
          refine lv_icmp_ge (tgt := 92) hx hb dX8_beside_82 (by decide) (fun h_8 => ?_) (fun h_8 => ?_)
          · replace hyp := ite_t h_8 hyp
            refine lv_iconst (v := (-1)) hx hb dX8_beside_92 (by decide) ?_
            subst hQ
            exact rI hx hb hr hlocks (some_e hyp) dX8_beside_93
          · replace hyp := ite_f h_8 hyp
            refine lv_iload_n hx hb dX8_beside_85 rfl (lv_at hl 0 rfl) ?_
            refine lv_bipush (v := 7) hx hb dX8_beside_86 (by decide) ?_
            refine lv_iadd hx hb dX8_beside_88 ?_
            refine lv_goto (tgt := 93) hx hb dX8_beside_89 (by decide) ?_
            subst hQ
            exact rI hx hb hr hlocks (some_e hyp) dX8_beside_93
  · replace hyp := ite_f h_1 hyp
    refine lv_iconst (v := (-1)) hx hb dX8_beside_4 (by decide) ?_
    subst hQ
    exact rI hx hb hr hlocks (some_e hyp) dX8_beside_5

def fX8_opposite (a1 : Int32) : Option Int32 :=
  some (3 - a1)
set_option maxRecDepth 100000 in
set_option maxHeartbeats 4000000 in
theorem mX8_opposite (l : Launch) (g : GE) (a1 : Int32) (r : Int32) (hyp : fX8_opposite a1 = some r) : PI l yX8_opposite cX8_opposite 1 (some .int) 0 0 g [] [.int a1] r := by
  refine metP_intro (by decide) rfl ?_
  intro p e R s m args below meth c Q hRf hRl hQ hx hb hml hr hlocks hown hts hin hE hP ls hl
  have hown : s.vm.findClass "HallGuards" = some m.cls := hown
  have hl : lv_has ls 1 [(0, .int a1)] := hl
  unfold fX8_opposite at hyp
  refine lv_iconst (v := 3) hx hb dX8_opposite_0 (by decide) ?_
  refine lv_iload_n hx hb dX8_opposite_1 rfl (lv_at hl 0 rfl) ?_
  refine lv_isub hx hb dX8_opposite_2 ?_
  subst hQ
  exact rI hx hb hr hlocks (some_e hyp) dX8_opposite_3

def fX8_directionOf (a1 : Int32) (a2 : Int32) : Option Int32 :=
  if a1 = a2 then (some (-1)) else (if (a1 / 7) = (a2 / 7) then (if a1 ≤ a2 then (some 2) else (some 1)) else (if (a1 - a1 / 7 * 7) = (a2 - a2 / 7 * 7) then (if a1 ≤ a2 then (some 3) else (some 0)) else (some (-1))))
set_option maxRecDepth 100000 in
set_option maxHeartbeats 4000000 in
theorem mX8_directionOf (l : Launch) (g : GE) (a1 : Int32) (a2 : Int32) (r : Int32) (hyp : fX8_directionOf a1 a2 = some r) : PI l yX8_directionOf cX8_directionOf 2 (some .int) 0 0 g [] [.int a1, .int a2] r := by
  refine metP_intro (by decide) rfl ?_
  intro p e R s m args below meth c Q hRf hRl hQ hx hb hml hr hlocks hown hts hin hE hP ls hl
  have hown : s.vm.findClass "HallGuards" = some m.cls := hown
  have hl : lv_has ls 2 [(0, .int a1), (1, .int a2)] := hl
  unfold fX8_directionOf at hyp
  refine lv_iload_n hx hb dX8_directionOf_0 rfl (lv_at hl 0 rfl) ?_
  refine lv_iload_n hx hb dX8_directionOf_1 rfl (lv_at hl 1 rfl) ?_
  refine lv_icmp_ne (tgt := 7) hx hb dX8_directionOf_2 (by decide) (fun h_1 => ?_) (fun h_1 => ?_)
  · replace hyp := ite_f h_1 hyp
    refine lv_iload_n hx hb dX8_directionOf_7 rfl (lv_at hl 0 rfl) ?_
    refine lv_bipush (v := 7) hx hb dX8_directionOf_8 (by decide) ?_
    refine lv_idiv hx hb dX8_directionOf_10 (by decide) ?_
    refine lv_iload_n hx hb dX8_directionOf_11 rfl (lv_at hl 1 rfl) ?_
    refine lv_bipush (v := 7) hx hb dX8_directionOf_12 (by decide) ?_
    refine lv_idiv hx hb dX8_directionOf_14 (by decide) ?_
    refine lv_icmp_ne (tgt := 29) hx hb dX8_directionOf_15 (by decide) (fun h_2 => ?_) (fun h_2 => ?_)
    · replace hyp := ite_f h_2 hyp
      refine lv_iload_n hx hb dX8_directionOf_29 rfl (lv_at hl 0 rfl) ?_
      refine lv_bipush (v := 7) hx hb dX8_directionOf_30 (by decide) ?_
      refine lv_irem hx hb dX8_directionOf_32 (by decide) ?_
      refine lv_iload_n hx hb dX8_directionOf_33 rfl (lv_at hl 1 rfl) ?_
      refine lv_bipush (v := 7) hx hb dX8_directionOf_34 (by decide) ?_
      refine lv_irem hx hb dX8_directionOf_36 (by decide) ?_
      refine lv_icmp_ne (tgt := 51) hx hb dX8_directionOf_37 (by decide) (fun h_3 => ?_) (fun h_3 => ?_)
      · replace hyp := ite_f h_3 hyp
        refine lv_iconst (v := (-1)) hx hb dX8_directionOf_51 (by decide) ?_
        subst hQ
        exact rI hx hb hr hlocks (some_e hyp) dX8_directionOf_52
      · replace hyp := ite_t h_3 hyp
        refine lv_iload_n hx hb dX8_directionOf_40 rfl (lv_at hl 1 rfl) ?_
        refine lv_iload_n hx hb dX8_directionOf_41 rfl (lv_at hl 0 rfl) ?_
        refine lv_icmp_ge (tgt := 49) hx hb dX8_directionOf_42 (by decide) (fun h_4 => ?_) (fun h_4 => ?_)
        · replace hyp := ite_t h_4 hyp
          refine lv_iconst (v := 3) hx hb dX8_directionOf_49 (by decide) ?_
          subst hQ
          exact rI hx hb hr hlocks (some_e hyp) dX8_directionOf_50
        · replace hyp := ite_f h_4 hyp
          refine lv_iconst (v := 0) hx hb dX8_directionOf_45 (by decide) ?_
          refine lv_goto (tgt := 50) hx hb dX8_directionOf_46 (by decide) ?_
          subst hQ
          exact rI hx hb hr hlocks (some_e hyp) dX8_directionOf_50
    · replace hyp := ite_t h_2 hyp
      refine lv_iload_n hx hb dX8_directionOf_18 rfl (lv_at hl 1 rfl) ?_
      refine lv_iload_n hx hb dX8_directionOf_19 rfl (lv_at hl 0 rfl) ?_
      refine lv_icmp_ge (tgt := 27) hx hb dX8_directionOf_20 (by decide) (fun h_5 => ?_) (fun h_5 => ?_)
      · replace hyp := ite_t h_5 hyp
        refine lv_iconst (v := 2) hx hb dX8_directionOf_27 (by decide) ?_
        subst hQ
        exact rI hx hb hr hlocks (some_e hyp) dX8_directionOf_28
      · replace hyp := ite_f h_5 hyp
        refine lv_iconst (v := 1) hx hb dX8_directionOf_23 (by decide) ?_
        refine lv_goto (tgt := 28) hx hb dX8_directionOf_24 (by decide) ?_
        subst hQ
        exact rI hx hb hr hlocks (some_e hyp) dX8_directionOf_28
  · replace hyp := ite_t h_1 hyp
    refine lv_iconst (v := (-1)) hx hb dX8_directionOf_5 (by decide) ?_
    subst hQ
    exact rI hx hb hr hlocks (some_e hyp) dX8_directionOf_6

def fX8_isCorner (a1 : Int32) : Option Int32 :=
  if (lg_cmp ((((285873023221825 : Int64).toUInt64 >>> (a1.toInt64.toUInt64 &&& Int64.toUInt64 63)).toInt64) &&& 1) 0) = 0 then (some 0) else (some 1)
set_option maxRecDepth 100000 in
set_option maxHeartbeats 4000000 in
theorem mX8_isCorner (l : Launch) (g : GE) (a1 : Int32) (r : Int32) (hyp : fX8_isCorner a1 = some r) : PI l yX8_isCorner cX8_isCorner 1 (some .boolean) 0 0 g [] [.int a1] r := by
  refine metP_intro (by decide) rfl ?_
  intro p e R s m args below meth c Q hRf hRl hQ hx hb hml hr hlocks hown hts hin hE hP ls hl
  have hown : s.vm.findClass "HallGuards" = some m.cls := hown
  have hl : lv_has ls 1 [(0, .int a1)] := hl
  unfold fX8_isCorner at hyp
  refine lv_ldc2 (v := 285873023221825) hx hb hown (hts _ ct_X8_355) dX8_isCorner_0 ?_
  refine lv_iload_n hx hb dX8_isCorner_3 rfl (lv_at hl 0 rfl) ?_
  refine lv_lushr hx hb dX8_isCorner_4 rfl ?_
  refine lv_lconst (v := 1) hx hb dX8_isCorner_5 (by decide) ?_
  refine lv_land hx hb dX8_isCorner_6 ?_
  refine lv_lconst (v := 0) hx hb dX8_isCorner_7 (by decide) ?_
  refine W.lcmp hx hb dX8_isCorner_8 ?_
  refine lv_if_eq (tgt := 16) hx hb dX8_isCorner_9 (by decide) (fun h_1 => ?_) (fun h_1 => ?_)
  · replace hyp := ite_t h_1 hyp
    refine lv_iconst (v := 0) hx hb dX8_isCorner_16 (by decide) ?_
    subst hQ
    exact rZ hx hb hr hlocks (Or.inl rfl) (some_e hyp) dX8_isCorner_17
  · replace hyp := ite_f h_1 hyp
    refine lv_iconst (v := 1) hx hb dX8_isCorner_12 (by decide) ?_
    refine lv_goto (tgt := 17) hx hb dX8_isCorner_13 (by decide) ?_
    subst hQ
    exact rZ hx hb hr hlocks (Or.inr rfl) (some_e hyp) dX8_isCorner_17

def fX8_mayStop (a1 : Int32) (a2 : Int32) : Option Int32 :=
  if a1 = 3 then (some 1) else (if (lg_cmp ((((285873039999041 : Int64).toUInt64 >>> (a2.toInt64.toUInt64 &&& Int64.toUInt64 63)).toInt64) &&& 1) 0) = 0 then (some 1) else (some 0))
set_option maxRecDepth 100000 in
set_option maxHeartbeats 4000000 in
theorem mX8_mayStop (l : Launch) (g : GE) (a1 : Int32) (a2 : Int32) (r : Int32) (hyp : fX8_mayStop a1 a2 = some r) : PI l yX8_mayStop cX8_mayStop 2 (some .boolean) 0 0 g [] [.int a1, .int a2] r := by
  refine metP_intro (by decide) rfl ?_
  intro p e R s m args below meth c Q hRf hRl hQ hx hb hml hr hlocks hown hts hin hE hP ls hl
  have hown : s.vm.findClass "HallGuards" = some m.cls := hown
  have hl : lv_has ls 2 [(0, .int a1), (1, .int a2)] := hl
  unfold fX8_mayStop at hyp
  refine lv_iload_n hx hb dX8_mayStop_0 rfl (lv_at hl 0 rfl) ?_
  refine lv_iconst (v := 3) hx hb dX8_mayStop_1 (by decide) ?_
  refine lv_icmp_eq (tgt := 17) hx hb dX8_mayStop_2 (by decide) (fun h_1 => ?_) (fun h_1 => ?_)
  · replace hyp := ite_t h_1 hyp
    refine lv_iconst (v := 1) hx hb dX8_mayStop_17 (by decide) ?_
    refine lv_goto (tgt := 22) hx hb dX8_mayStop_18 (by decide) ?_
    subst hQ
    exact rZ hx hb hr hlocks (Or.inr rfl) (some_e hyp) dX8_mayStop_22
  · replace hyp := ite_f h_1 hyp
    refine lv_ldc2 (v := 285873039999041) hx hb hown (hts _ ct_X8_357) dX8_mayStop_5 ?_
    refine lv_iload_n hx hb dX8_mayStop_8 rfl (lv_at hl 1 rfl) ?_
    refine lv_lushr hx hb dX8_mayStop_9 rfl ?_
    refine lv_lconst (v := 1) hx hb dX8_mayStop_10 (by decide) ?_
    refine lv_land hx hb dX8_mayStop_11 ?_
    refine lv_lconst (v := 0) hx hb dX8_mayStop_12 (by decide) ?_
    refine W.lcmp hx hb dX8_mayStop_13 ?_
    refine lv_if_ne (tgt := 21) hx hb dX8_mayStop_14 (by decide) (fun h_2 => ?_) (fun h_2 => ?_)
    · replace hyp := ite_f h_2 hyp
      refine lv_iconst (v := 0) hx hb dX8_mayStop_21 (by decide) ?_
      subst hQ
      exact rZ hx hb hr hlocks (Or.inl rfl) (some_e hyp) dX8_mayStop_22
    · replace hyp := ite_t h_2 hyp
      refine lv_iconst (v := 1) hx hb dX8_mayStop_17 (by decide) ?_
      refine lv_goto (tgt := 22) hx hb dX8_mayStop_18 (by decide) ?_
      subst hQ
      exact rZ hx hb hr hlocks (Or.inr rfl) (some_e hyp) dX8_mayStop_22

def fX1_at (f : Nat → Int32) (a1 : Int32) : Option Int32 :=
  if a1 < 0 then (some 0) else (if a1 < 49 then (grd (inB a1 49) (some (f a1.toNatClampNeg))) else (some 0))
set_option maxRecDepth 100000 in
set_option maxHeartbeats 4000000 in
theorem mX1_at (l : Launch) (g : GE) (b ca : Nat) (kk : Int32) (sg : Int32) (f : Nat → Int32) (a1 : Int32) (r : Int32) (hyp : fX1_at f a1 = some r) : PI l yX1_at cX1_at 2 (some .int) 0 0 g [(b, .inr (1, [.ref ca, .int kk, .int sg])), (ca, .inl (g.2.1, 49, .inl f))] [.ref b, .int a1] r := by
  refine metP_intro (by decide) rfl ?_
  intro p e R s m args below meth c Q hRf hRl hQ hx hb hml hr hlocks hown hts hin hE hP ls hl
  have hown : s.vm.findClass "HallGuards$Board" = some m.cls := hown
  have hl : lv_has ls 2 [(0, .ref b), (1, .int a1)] := hl
  unfold fX1_at at hyp
  refine lv_iload_n hx hb dX1_at_0 rfl (lv_at hl 1 rfl) ?_
  refine lv_if_lt (tgt := 10) hx hb dX1_at_1 (by decide) (fun h_1 => ?_) (fun h_1 => ?_)
  · replace hyp := ite_t h_1 hyp
    refine lv_iconst (v := 0) hx hb dX1_at_10 (by decide) ?_
    refine lv_goto (tgt := 20) hx hb dX1_at_11 (by decide) ?_
    subst hQ
    exact rI hx hb hr hlocks (some_e hyp) dX1_at_20
  · replace hyp := ite_f h_1 hyp
    refine lv_iload_n hx hb dX1_at_4 rfl (lv_at hl 1 rfl) ?_
    refine lv_bipush (v := 49) hx hb dX1_at_5 (by decide) ?_
    refine lv_icmp_lt (tgt := 14) hx hb dX1_at_7 (by decide) (fun h_2 => ?_) (fun h_2 => ?_)
    · replace hyp := ite_t h_2 hyp
      refine lv_aload_n hx hb dX1_at_14 rfl (lv_at hl 0 rfl) ?_
      refine gf_X1_9 hx hb hts hown hE hP 0 rfl rfl dX1_at_15 ?_
      refine lv_iload_n hx hb dX1_at_18 rfl (lv_at hl 1 rfl) ?_
      obtain ⟨hi, hyp⟩ := grd_e hyp
      refine va_iald hx hb hE.1 hP 1 0 rfl rfl (inB_vp hi) dX1_at_19 ?_
      subst hQ
      exact rI hx hb hr hlocks (some_e hyp) dX1_at_20
    · replace hyp := ite_f h_2 hyp
      refine lv_iconst (v := 0) hx hb dX1_at_10 (by decide) ?_
      refine lv_goto (tgt := 20) hx hb dX1_at_11 (by decide) ?_
      subst hQ
      exact rI hx hb hr hlocks (some_e hyp) dX1_at_20

def fX1_countFrom_L34_B (f : Nat → Int32) (r_1 : Int32) (self_5 : Int32 → Int32 → Option Int32) (v4_4 : Int32) (self_11 : Int32 → Int32 → Int32 → Option Int32) (v3_8 : Int32) (v5_9 : Int32) (v6_10 : Int32) : Option Int32 :=
  if 7 ≤ v6_10 then (self_5 v3_8 (v4_4 + 1)) else (if v5_9 < 0 then (self_5 v3_8 (v4_4 + 1)) else ((fX1_at f v5_9).bind (fun (r_14 : Int32) => if r_14 = 0 then ((fX8_mayStop r_1 v5_9).bind (fun (r_16 : Int32) => jn (fun (v3_17 : Int32) => (fX8_beside v5_9 v4_4).bind (fun (r_19 : Int32) => self_11 v3_17 r_19 (v6_10 + 1))) (fun J_18 => if r_16 = 0 then (J_18 v3_8) else (J_18 (v3_8 + 1))))) else (self_5 v3_8 (v4_4 + 1)))))
def fX1_countFrom_L34 (f : Nat → Int32) (r_1 : Int32) (self_5 : Int32 → Int32 → Option Int32) (v4_4 : Int32) (n : Nat) (v3_8 : Int32) (v5_9 : Int32) (v6_10 : Int32) : Option Int32 := lp (fun zf z => fX1_countFrom_L34_B f r_1 self_5 v4_4 (fun v3_8 v5_9 v6_10 => zf (v3_8, v5_9, v6_10)) z.1 z.2.1 z.2.2) n (v3_8, v5_9, v6_10)
def fX1_countFrom_L17_B (f : Nat → Int32) (a1 : Int32) (r_1 : Int32) (self_5 : Int32 → Int32 → Option Int32) (v3_3 : Int32) (v4_4 : Int32) : Option Int32 :=
  if 4 ≤ v4_4 then (some v3_3) else ((fX8_beside a1 v4_4).bind (fun (r_7 : Int32) => fX1_countFrom_L34 f r_1 self_5 v4_4 64 v3_3 r_7 1))
def fX1_countFrom_L17 (f : Nat → Int32) (a1 : Int32) (r_1 : Int32) (n : Nat) (v3_3 : Int32) (v4_4 : Int32) : Option Int32 := lp (fun zf z => fX1_countFrom_L17_B f a1 r_1 (fun v3_3 v4_4 => zf (v3_3, v4_4)) z.1 z.2) n (v3_3, v4_4)
def fX1_countFrom (f : Nat → Int32) (a1 : Int32) : Option Int32 :=
  (fX1_at f a1).bind (fun (r_1 : Int32) => if r_1 = 0 then (some 0) else (fX1_countFrom_L17 f a1 r_1 64 0 0))
set_option maxRecDepth 100000 in
set_option maxHeartbeats 4000000 in
theorem mX1_countFrom (l : Launch) (g : GE) (b ca : Nat) (kk : Int32) (sg : Int32) (f : Nat → Int32) (a1 : Int32) (r : Int32) (hyp : fX1_countFrom f a1 = some r) : PI l yX1_countFrom cX1_countFrom 7 (some .int) 1 21 g [(b, .inr (1, [.ref ca, .int kk, .int sg])), (ca, .inl (g.2.1, 49, .inl f))] [.ref b, .int a1] r := by
  refine metP_intro (by decide) rfl ?_
  intro p e R s m args below meth c Q hRf hRl hQ hx hb hml hr hlocks hown hts hin hE hP ls hl
  have hown : s.vm.findClass "HallGuards$Board" = some m.cls := hown
  have hl : lv_has ls 7 [(0, .ref b), (1, .int a1)] := hl
  unfold fX1_countFrom at hyp
  refine lv_aload_n hx hb dX1_countFrom_0 rfl (lv_at hl 0 rfl) ?_
  refine lv_iload_n hx hb dX1_countFrom_1 rfl (lv_at hl 1 rfl) ?_
  obtain ⟨r_1, hr_1, hyp⟩ := opt_e hyp
  refine pV (As := [.int a1]) (rest := []) ⟨hx, hb, hml, hown, hts⟩ hE (mX1_at l g b ca kk sg f a1 r_1 hr_1) cf_X1_at im_X1_at se_X1_at ml_X1_60 ⟨Nat.le_trans (Nat.le_of_ble_eq_true rfl) hRf, Nat.le_trans (Nat.le_of_ble_eq_true rfl) hRl⟩ (hP.sub (ws' := [(b, .inr (1, [.ref ca, .int kk, .int sg])), (ca, .inl (g.2.1, 49, .inl f))]) [0, 1] rfl) (ci := 1) (q0 := 0) rfl rfl rfl rfl hl.1 rfl (Nat.le_of_ble_eq_true rfl) dX1_countFrom_2 ⟨Nat.zero_le _, Nat.zero_le _⟩ ?_
  refine lv_istore_n (lv' := [(2, .int r_1), (0, .ref b), (1, .int a1)]) hx hb dX1_countFrom_5 rfl hl (by decide) rfl (fun ls hl => ?_)
  refine lv_iload_n hx hb dX1_countFrom_6 rfl (lv_at hl 0 rfl) ?_
  refine lv_if_ne (tgt := 12) hx hb dX1_countFrom_7 (by decide) (fun h_2 => ?_) (fun h_2 => ?_)
  · replace hyp := ite_f h_2 hyp
    refine lv_iconst (v := 0) hx hb dX1_countFrom_12 (by decide) ?_
    refine lv_istore_n (lv' := [(3, .int 0), (2, .int r_1), (0, .ref b), (1, .int a1)]) hx hb dX1_countFrom_13 rfl hl (by decide) rfl (fun ls hl => ?_)
    refine lv_iconst (v := 0) hx hb dX1_countFrom_14 (by decide) ?_
    refine lv_istore (lv' := [(4, .int 0), (3, .int 0), (2, .int r_1), (0, .ref b), (1, .int a1)]) hx hb dX1_countFrom_15 hl (by decide) rfl (fun ls hl => ?_)
    refine lp_i (r := r) (fun z : Int32 × Int32 => ∀ (ls : Array Slot), lv_has ls 7 [(0, .ref b), (1, .int a1), (2, .int r_1), (3, .int z.1), (4, .int z.2)] → W p l e R s m args below meth c s.heap [] 0 0 Q (F0 m 17 ls [])) ?_ 64 (0, 0) hyp ls (lv_sub hl [3, 4, 2, 1, 0] rfl)
    intro self_5T ihself_5T z hyp ls hl
    obtain ⟨v3_3, v4_4⟩ := z
    obtain ⟨self_5, eself_5⟩ : ∃ f9 : Int32 → Int32 → Option Int32, f9 = fun v3_3 v4_4 => self_5T (v3_3, v4_4) := ⟨_, rfl⟩
    have ihself_5 := fun (v3_3 : Int32) (v4_4 : Int32) (h9 : self_5 v3_3 v4_4 = some r) => ihself_5T (v3_3, v4_4) (by rw [eself_5] at h9; exact h9)
    replace hyp : fX1_countFrom_L17_B f a1 r_1 self_5 v3_3 v4_4 = some r := by rw [eself_5]; exact hyp
    have hl : lv_has ls 7 [(0, .ref b), (1, .int a1), (2, .int r_1), (3, .int v3_3), (4, .int v4_4)] := hl
    show W p l e R s m args below meth c s.heap [] 0 0 Q (F0 m 17 ls [])
    unfold fX1_countFrom_L17_B at hyp
    refine lv_iload hx hb dX1_countFrom_17 (lv_at hl 4 rfl) ?_
    refine lv_iconst (v := 4) hx hb dX1_countFrom_19 (by decide) ?_
    refine lv_icmp_ge (tgt := 88) hx hb dX1_countFrom_20 (by decide) (fun h_6 => ?_) (fun h_6 => ?_)
    · replace hyp := ite_t h_6 hyp
      refine lv_iload_n hx hb dX1_countFrom_88 rfl (lv_at hl 3 rfl) ?_
      subst hQ
      exact rI hx hb hr hlocks (some_e hyp) dX1_countFrom_89
    · replace hyp := ite_f h_6 hyp
      refine lv_iload_n hx hb dX1_countFrom_23 rfl (lv_at hl 1 rfl) ?_
      refine lv_iload hx hb dX1_countFrom_24 (lv_at hl 4 rfl) ?_
      obtain ⟨r_7, hr_7, hyp⟩ := opt_e hyp
      refine pSN (As := [.int a1, .int v4_4]) (rest := []) ⟨hx, hb, hml, hown, hts⟩ hE (mX8_beside l g a1 v4_4 r_7 hr_7) cf_X8_beside st_X8_beside ml_X1_53 ⟨Nat.le_trans (Nat.le_of_ble_eq_true rfl) hRf, Nat.le_trans (Nat.le_of_ble_eq_true rfl) hRl⟩ (va_P_nil) rfl hl.1 rfl (Nat.le_of_ble_eq_true rfl) dX1_countFrom_26 ⟨Nat.zero_le _, Nat.zero_le _⟩ ?_
      refine lv_istore (lv' := [(5, .int r_7), (0, .ref b), (1, .int a1), (2, .int r_1), (3, .int v3_3), (4, .int v4_4)]) hx hb dX1_countFrom_29 hl (by decide) rfl (fun ls hl => ?_)
      refine lv_iconst (v := 1) hx hb dX1_countFrom_31 (by decide) ?_
      refine lv_istore (lv' := [(6, .int 1), (5, .int r_7), (0, .ref b), (1, .int a1), (2, .int r_1), (3, .int v3_3), (4, .int v4_4)]) hx hb dX1_countFrom_32 hl (by decide) rfl (fun ls hl => ?_)
      refine lp_i (r := r) (fun z : Int32 × Int32 × Int32 => ∀ (ls : Array Slot), lv_has ls 7 [(0, .ref b), (1, .int a1), (2, .int r_1), (3, .int z.1), (4, .int v4_4), (5, .int z.2.1), (6, .int z.2.2)] → W p l e R s m args below meth c s.heap [] 0 0 Q (F0 m 34 ls [])) ?_ 64 (v3_3, r_7, 1) hyp ls (lv_sub hl [2, 3, 4, 5, 6, 1, 0] rfl)
      intro self_11T ihself_11T z hyp ls hl
      obtain ⟨v3_8, v5_9, v6_10⟩ := z
      obtain ⟨self_11, eself_11⟩ : ∃ f9 : Int32 → Int32 → Int32 → Option Int32, f9 = fun v3_8 v5_9 v6_10 => self_11T (v3_8, v5_9, v6_10) := ⟨_, rfl⟩
      have ihself_11 := fun (v3_8 : Int32) (v5_9 : Int32) (v6_10 : Int32) (h9 : self_11 v3_8 v5_9 v6_10 = some r) => ihself_11T (v3_8, v5_9, v6_10) (by rw [eself_11] at h9; exact h9)
      replace hyp : fX1_countFrom_L34_B f r_1 self_5 v4_4 self_11 v3_8 v5_9 v6_10 = some r := by rw [eself_11]; exact hyp
      have hl : lv_has ls 7 [(0, .ref b), (1, .int a1), (2, .int r_1), (3, .int v3_8), (4, .int v4_4), (5, .int v5_9), (6, .int v6_10)] := hl
      show W p l e R s m args below meth c s.heap [] 0 0 Q (F0 m 34 ls [])
      unfold fX1_countFrom_L34_B at hyp
      refine lv_iload hx hb dX1_countFrom_34 (lv_at hl 6 rfl) ?_
      refine lv_bipush (v := 7) hx hb dX1_countFrom_36 (by decide) ?_
      refine lv_icmp_ge (tgt := 82) hx hb dX1_countFrom_38 (by decide) (fun h_12 => ?_) (fun h_12 => ?_)
      · replace hyp := ite_t h_12 hyp
        refine lv_iinc (v := v4_4 + 1) (lv' := [(4, .int (v4_4 + 1)), (0, .ref b), (1, .int a1), (2, .int r_1), (3, .int v3_8), (5, .int v5_9), (6, .int v6_10)]) hx hb dX1_countFrom_82 hl (k := 4) rfl rfl (by decide) rfl (fun ls hl => ?_)
        refine lv_goto (tgt := 17) hx hb dX1_countFrom_85 (by decide) ?_
        exact ihself_5 v3_8 (v4_4 + 1) hyp ls (lv_sub hl [1, 2, 3, 4, 0] rfl)
      · replace hyp := ite_f h_12 hyp
        refine lv_iload hx hb dX1_countFrom_41 (lv_at hl 5 rfl) ?_
        refine lv_if_lt (tgt := 82) hx hb dX1_countFrom_43 (by decide) (fun h_13 => ?_) (fun h_13 => ?_)
        · replace hyp := ite_t h_13 hyp
          refine lv_iinc (v := v4_4 + 1) (lv' := [(4, .int (v4_4 + 1)), (0, .ref b), (1, .int a1), (2, .int r_1), (3, .int v3_8), (5, .int v5_9), (6, .int v6_10)]) hx hb dX1_countFrom_82 hl (k := 4) rfl rfl (by decide) rfl (fun ls hl => ?_)
          refine lv_goto (tgt := 17) hx hb dX1_countFrom_85 (by decide) ?_
          exact ihself_5 v3_8 (v4_4 + 1) hyp ls (lv_sub hl [1, 2, 3, 4, 0] rfl)
        · replace hyp := ite_f h_13 hyp
          refine lv_aload_n hx hb dX1_countFrom_46 rfl (lv_at hl 0 rfl) ?_
          refine lv_iload hx hb dX1_countFrom_47 (lv_at hl 5 rfl) ?_
          obtain ⟨r_14, hr_14, hyp⟩ := opt_e hyp
          refine pV (As := [.int v5_9]) (rest := []) ⟨hx, hb, hml, hown, hts⟩ hE (mX1_at l g b ca kk sg f v5_9 r_14 hr_14) cf_X1_at im_X1_at se_X1_at ml_X1_60 ⟨Nat.le_trans (Nat.le_of_ble_eq_true rfl) hRf, Nat.le_trans (Nat.le_of_ble_eq_true rfl) hRl⟩ (hP.sub (ws' := [(b, .inr (1, [.ref ca, .int kk, .int sg])), (ca, .inl (g.2.1, 49, .inl f))]) [0, 1] rfl) (ci := 1) (q0 := 0) rfl rfl rfl rfl hl.1 rfl (Nat.le_of_ble_eq_true rfl) dX1_countFrom_49 ⟨Nat.zero_le _, Nat.zero_le _⟩ ?_
          refine lv_if_ne (tgt := 82) hx hb dX1_countFrom_52 (by decide) (fun h_15 => ?_) (fun h_15 => ?_)
          · replace hyp := ite_f h_15 hyp
            refine lv_iinc (v := v4_4 + 1) (lv' := [(4, .int (v4_4 + 1)), (0, .ref b), (1, .int a1), (2, .int r_1), (3, .int v3_8), (5, .int v5_9), (6, .int v6_10)]) hx hb dX1_countFrom_82 hl (k := 4) rfl rfl (by decide) rfl (fun ls hl => ?_)
            refine lv_goto (tgt := 17) hx hb dX1_countFrom_85 (by decide) ?_
            exact ihself_5 v3_8 (v4_4 + 1) hyp ls (lv_sub hl [1, 2, 3, 4, 0] rfl)
          · replace hyp := ite_t h_15 hyp
            refine lv_iload_n hx hb dX1_countFrom_55 rfl (lv_at hl 2 rfl) ?_
            refine lv_iload hx hb dX1_countFrom_56 (lv_at hl 5 rfl) ?_
            obtain ⟨r_16, hr_16, hyp⟩ := opt_e hyp
            refine pSN (As := [.int r_1, .int v5_9]) (rest := []) ⟨hx, hb, hml, hown, hts⟩ hE (mX8_mayStop l g r_1 v5_9 r_16 hr_16) cf_X8_mayStop st_X8_mayStop ml_X1_38 ⟨Nat.le_trans (Nat.le_of_ble_eq_true rfl) hRf, Nat.le_trans (Nat.le_of_ble_eq_true rfl) hRl⟩ (va_P_nil) rfl hl.1 rfl (Nat.le_of_ble_eq_true rfl) dX1_countFrom_58 ⟨Nat.zero_le _, Nat.zero_le _⟩ ?_
            obtain ⟨J_18, eJ_18, hyp⟩ := jn_e hyp
            have kJ_18 : ∀ (v3_17 : Int32) (ls : Array Slot), J_18 v3_17 = some r → lv_has ls 7 [(0, .ref b), (1, .int a1), (2, .int r_1), (3, .int v3_17), (4, .int v4_4), (5, .int v5_9), (6, .int v6_10)] → W p l e R s m args below meth c s.heap [] 0 0 Q (F0 m 67 ls []) := by
              intro v3_17  ls hyp hl
              replace hyp := (congrFun (eJ_18) v3_17).symm.trans hyp
              refine lv_iload hx hb dX1_countFrom_67 (lv_at hl 5 rfl) ?_
              refine lv_iload hx hb dX1_countFrom_69 (lv_at hl 4 rfl) ?_
              obtain ⟨r_19, hr_19, hyp⟩ := opt_e hyp
              refine pSN (As := [.int v5_9, .int v4_4]) (rest := []) ⟨hx, hb, hml, hown, hts⟩ hE (mX8_beside l g v5_9 v4_4 r_19 hr_19) cf_X8_beside st_X8_beside ml_X1_53 ⟨Nat.le_trans (Nat.le_of_ble_eq_true rfl) hRf, Nat.le_trans (Nat.le_of_ble_eq_true rfl) hRl⟩ (va_P_nil) rfl hl.1 rfl (Nat.le_of_ble_eq_true rfl) dX1_countFrom_71 ⟨Nat.zero_le _, Nat.zero_le _⟩ ?_
              refine lv_istore (lv' := [(5, .int r_19), (0, .ref b), (1, .int a1), (2, .int r_1), (3, .int v3_17), (4, .int v4_4), (6, .int v6_10)]) hx hb dX1_countFrom_74 hl (by decide) rfl (fun ls hl => ?_)
              refine lv_iinc (v := v6_10 + 1) (lv' := [(6, .int (v6_10 + 1)), (5, .int r_19), (0, .ref b), (1, .int a1), (2, .int r_1), (3, .int v3_17), (4, .int v4_4)]) hx hb dX1_countFrom_76 hl (k := 6) rfl rfl (by decide) rfl (fun ls hl => ?_)
              refine lv_goto (tgt := 34) hx hb dX1_countFrom_79 (by decide) ?_
              exact ihself_11 v3_17 r_19 (v6_10 + 1) hyp ls (lv_sub hl [2, 3, 4, 5, 6, 1, 0] rfl)
            refine lv_if_eq (tgt := 67) hx hb dX1_countFrom_61 (by decide) (fun h_20 => ?_) (fun h_20 => ?_)
            · replace hyp := ite_t h_20 hyp
              exact kJ_18 v3_8 ls hyp hl
            · replace hyp := ite_f h_20 hyp
              refine lv_iinc (v := v3_8 + 1) (lv' := [(3, .int (v3_8 + 1)), (0, .ref b), (1, .int a1), (2, .int r_1), (4, .int v4_4), (5, .int v5_9), (6, .int v6_10)]) hx hb dX1_countFrom_64 hl (k := 3) rfl rfl (by decide) rfl (fun ls hl => ?_)
              exact kJ_18 (v3_8 + 1) ls hyp (lv_sub hl [1, 2, 3, 0, 4, 5, 6] rfl)
  · replace hyp := ite_t h_2 hyp
    refine lv_iconst (v := 0) hx hb dX1_countFrom_10 (by decide) ?_
    subst hQ
    exact rI hx hb hr hlocks (some_e hyp) dX1_countFrom_11

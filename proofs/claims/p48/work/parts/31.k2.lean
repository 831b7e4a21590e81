def fX4_isFull (tl : Int32) : Option Int32 :=
  if tl < 60 then (some 0) else (some 1)
set_option maxRecDepth 100000 in
set_option maxHeartbeats 4000000 in
theorem mX4_isFull (l : Launch) (g : GE) (mt tc : Nat) (tl : Int32) (r : Int32) (hyp : fX4_isFull tl = some r) : PI l yX4_isFull cX4_isFull 1 (some .boolean) 0 0 g [(mt, .inr (4, [.ref tc, .int tl]))] [.ref mt] r := by
  refine metP_intro (by decide) rfl ?_
  intro p e R s m args below meth c Q hRf hRl hQ hx hb hml hr hlocks hown hts hin hE hP ls hl
  have hown : s.vm.findClass "HallGuards$MoveText" = some m.cls := hown
  have hl : lv_has ls 1 [(0, .ref mt)] := hl
  unfold fX4_isFull at hyp
  refine lv_aload_n hx hb dX4_isFull_0 rfl (lv_at hl 0 rfl) ?_
  refine gf_X4_15 hx hb hts hown hE hP 0 rfl rfl dX4_isFull_1 ?_
  refine lv_bipush (v := 60) hx hb dX4_isFull_4 (by decide) ?_
  refine lv_icmp_lt (tgt := 13) hx hb dX4_isFull_6 (by decide) (fun h_1 => ?_) (fun h_1 => ?_)
  · replace hyp := ite_t h_1 hyp
    refine lv_iconst (v := 0) hx hb dX4_isFull_13 (by decide) ?_
    subst hQ
    exact rZ hx hb hr hlocks (Or.inl rfl) (some_e hyp) dX4_isFull_14
  · replace hyp := ite_f h_1 hyp
    refine lv_iconst (v := 1) hx hb dX4_isFull_9 (by decide) ?_
    refine lv_goto (tgt := 14) hx hb dX4_isFull_10 (by decide) ?_
    subst hQ
    exact rZ hx hb hr hlocks (Or.inr rfl) (some_e hyp) dX4_isFull_14

def fX4_add (tl : Int32) (tf : Nat → Int32) (a1 : Int32) : Option ((Nat → Int32) × Int32) :=
  (fX4_isFull tl).bind (fun (r_1 : Int32) => if r_1 = 0 then (grd (inB tl 60) (some (upd tf tl.toNatClampNeg a1, tl + 1))) else (some (tf, tl)))
set_option maxRecDepth 100000 in
set_option maxHeartbeats 4000000 in
theorem mX4_add (l : Launch) (g : GE) (mt tc : Nat) (tl : Int32) (tf : Nat → Int32) (a1 : Int32) (r : (Nat → Int32) × Int32) (hyp : fX4_add tl tf a1 = some r) : WM l yX4_add cX4_add 2 none 1 20 g [(mt, .inr (4, [.ref tc, .int tl])), (tc, .inl (g.2.1, 60, .inl tf))] [.ref mt, .int a1] none [(mt, .inr (4, [.ref tc, .int r.2])), (tc, .inl (g.2.1, 60, .inl r.1))] := by
  refine metW_intro (by decide) rfl ?_
  intro p e R s m args below meth c Q A hRf hRl hQ hx hb hml hr hlocks hown hts hin hE hA H locs hP hD hS ls hl
  have hown : s.vm.findClass "HallGuards$MoveText" = some m.cls := hown
  have hl : lv_has ls 2 [(0, .ref mt), (1, .int a1)] := hl
  unfold fX4_add at hyp
  refine lv_aload_n hx hb dX4_add_0 rfl (lv_at hl 0 rfl) ?_
  obtain ⟨r_1, hr_1, hyp⟩ := opt_e hyp
  refine pV (As := []) (rest := []) ⟨hx, hb, hml, hown, hts⟩ hE (mX4_isFull l g mt tc tl r_1 hr_1) cf_X4_isFull im_X4_isFull se_X4_isFull ml_X4_19 ⟨Nat.le_trans (Nat.le_of_ble_eq_true rfl) hRf, Nat.le_trans (Nat.le_of_ble_eq_true rfl) hRl⟩ (hP.sub (ws' := [(mt, .inr (4, [.ref tc, .int tl]))]) [0] rfl) (ci := 4) (q0 := 0) rfl rfl rfl rfl hl.1 rfl (Nat.le_of_ble_eq_true rfl) dX4_add_1 ⟨Nat.zero_le _, Nat.zero_le _⟩ ?_
  refine lv_if_ne (tgt := 27) hx hb dX4_add_4 (by decide) (fun h_2 => ?_) (fun h_2 => ?_)
  · replace hyp := ite_f h_2 hyp
    have hyp := some_e hyp
    subst hyp
    subst hQ
    exact rwV hx hb hr hlocks  hP hD hS dX4_add_27
  · replace hyp := ite_t h_2 hyp
    refine lv_aload_n hx hb dX4_add_7 rfl (lv_at hl 0 rfl) ?_
    refine gf_X4_11 hx hb hts hown hE hP 0 rfl rfl dX4_add_8 ?_
    refine lv_aload_n hx hb dX4_add_11 rfl (lv_at hl 0 rfl) ?_
    refine gf_X4_15 hx hb hts hown hE hP 0 rfl rfl dX4_add_12 ?_
    refine lv_iload_n hx hb dX4_add_15 rfl (lv_at hl 1 rfl) ?_
    obtain ⟨hi, hyp⟩ := grd_e hyp
    refine va_iast hx hb hE.1 hP hD hS 1 0 rfl rfl (inB_vp hi) dX4_add_16 (fun H locs hP hD hS => ?_)
    have hP : va_P g.1 vwCl [(mt, .inr (4, [.ref tc, .int tl])), (tc, .inl (g.2.1, 60, .inl (upd tf tl.toNatClampNeg a1)))] H := hP
    have hD : va_D A [(mt, .inr (4, [.ref tc, .int tl])), (tc, .inl (g.2.1, 60, .inl (upd tf tl.toNatClampNeg a1)))] := hD
    refine lv_aload_n hx hb dX4_add_17 rfl (lv_at hl 0 rfl) ?_
    refine lv_dup hx hb dX4_add_18 rfl ?_
    refine gf_X4_15 hx hb hts hown hE hP 0 rfl rfl dX4_add_19 ?_
    refine lv_iconst (v := 1) hx hb dX4_add_22 (by decide) ?_
    refine lv_iadd hx hb dX4_add_23 ?_
    refine pf_X4_15 hx hb hts hown hE hP hD hS 0 rfl rfl dX4_add_24 (fun H locs hP hD hS => ?_)
    have hP : va_P g.1 vwCl [(mt, .inr (4, [.ref tc, .int (tl + 1)])), (tc, .inl (g.2.1, 60, .inl (upd tf tl.toNatClampNeg a1)))] H := hP
    have hD : va_D A [(mt, .inr (4, [.ref tc, .int (tl + 1)])), (tc, .inl (g.2.1, 60, .inl (upd tf tl.toNatClampNeg a1)))] := hD
    have hyp := some_e hyp
    subst hyp
    subst hQ
    exact rwV hx hb hr hlocks  hP hD hS dX4_add_27

def fX4_empty : Option Int32 :=
  some (0)
set_option maxRecDepth 100000 in
set_option maxHeartbeats 4000000 in
theorem mX4_empty (l : Launch) (g : GE) (mt tc : Nat) (tl : Int32) (r : Int32) (hyp : fX4_empty = some r) : WM l yX4_empty cX4_empty 1 none 0 0 g [(mt, .inr (4, [.ref tc, .int tl]))] [.ref mt] none [(mt, .inr (4, [.ref tc, .int r]))] := by
  refine metW_intro (by decide) rfl ?_
  intro p e R s m args below meth c Q A hRf hRl hQ hx hb hml hr hlocks hown hts hin hE hA H locs hP hD hS ls hl
  have hown : s.vm.findClass "HallGuards$MoveText" = some m.cls := hown
  have hl : lv_has ls 1 [(0, .ref mt)] := hl
  unfold fX4_empty at hyp
  refine lv_aload_n hx hb dX4_empty_0 rfl (lv_at hl 0 rfl) ?_
  refine lv_iconst (v := 0) hx hb dX4_empty_1 (by decide) ?_
  refine pf_X4_15 hx hb hts hown hE hP hD hS 0 rfl rfl dX4_empty_2 (fun H locs hP hD hS => ?_)
  have hP : va_P g.1 vwCl [(mt, .inr (4, [.ref tc, .int 0]))] H := hP
  have hD : va_D A [(mt, .inr (4, [.ref tc, .int 0]))] := hD
  have hyp := some_e hyp
  subst hyp
  subst hQ
  exact rwV hx hb hr hlocks  hP hD hS dX4_empty_5

def fX4_codeAt (tl : Int32) (tf : Nat → Int32) (a1 : Int32) : Option Int32 :=
  if a1 < 0 then (some 0) else (if a1 < tl then (grd (inB a1 60) (some (tf a1.toNatClampNeg))) else (some 0))
set_option maxRecDepth 100000 in
set_option maxHeartbeats 4000000 in
theorem mX4_codeAt (l : Launch) (g : GE) (mt tc : Nat) (tl : Int32) (tf : Nat → Int32) (a1 : Int32) (r : Int32) (hyp : fX4_codeAt tl tf a1 = some r) : PI l yX4_codeAt cX4_codeAt 2 (some .int) 0 0 g [(mt, .inr (4, [.ref tc, .int tl])), (tc, .inl (g.2.1, 60, .inl tf))] [.ref mt, .int a1] r := by
  refine metP_intro (by decide) rfl ?_
  intro p e R s m args below meth c Q hRf hRl hQ hx hb hml hr hlocks hown hts hin hE hP ls hl
  have hown : s.vm.findClass "HallGuards$MoveText" = some m.cls := hown
  have hl : lv_has ls 2 [(0, .ref mt), (1, .int a1)] := hl
  unfold fX4_codeAt at hyp
  refine lv_iload_n hx hb dX4_codeAt_0 rfl (lv_at hl 1 rfl) ?_
  refine lv_if_lt (tgt := 12) hx hb dX4_codeAt_1 (by decide) (fun h_1 => ?_) (fun h_1 => ?_)
  · replace hyp := ite_t h_1 hyp
    refine lv_iconst (v := 0) hx hb dX4_codeAt_12 (by decide) ?_
    refine lv_goto (tgt := 22) hx hb dX4_codeAt_13 (by decide) ?_
    subst hQ
    exact rI hx hb hr hlocks (some_e hyp) dX4_codeAt_22
  · replace hyp := ite_f h_1 hyp
    refine lv_iload_n hx hb dX4_codeAt_4 rfl (lv_at hl 1 rfl) ?_
    refine lv_aload_n hx hb dX4_codeAt_5 rfl (lv_at hl 0 rfl) ?_
    refine gf_X4_15 hx hb hts hown hE hP 0 rfl rfl dX4_codeAt_6 ?_
    refine lv_icmp_lt (tgt := 16) hx hb dX4_codeAt_9 (by decide) (fun h_2 => ?_) (fun h_2 => ?_)
    · replace hyp := ite_t h_2 hyp
      refine lv_aload_n hx hb dX4_codeAt_16 rfl (lv_at hl 0 rfl) ?_
      refine gf_X4_11 hx hb hts hown hE hP 0 rfl rfl dX4_codeAt_17 ?_
      refine lv_iload_n hx hb dX4_codeAt_20 rfl (lv_at hl 1 rfl) ?_
      obtain ⟨hi, hyp⟩ := grd_e hyp
      refine va_iald hx hb hE.1 hP 1 0 rfl rfl (inB_vp hi) dX4_codeAt_21 ?_
      subst hQ
      exact rI hx hb hr hlocks (some_e hyp) dX4_codeAt_22
    · replace hyp := ite_f h_2 hyp
      refine lv_iconst (v := 0) hx hb dX4_codeAt_12 (by decide) ?_
      refine lv_goto (tgt := 22) hx hb dX4_codeAt_13 (by decide) ?_
      subst hQ
      exact rI hx hb hr hlocks (some_e hyp) dX4_codeAt_22

def fX4_fits (a1 : Int32) (a2 : Int32) : Option Int32 :=
  if a2 = 0 then (if a1 < 97 then (some 0) else (if 103 < a1 then (some 0) else (some 1))) else (if a2 = 1 then (if a1 < 49 then (some 0) else (if 55 < a1 then (some 0) else (some 1))) else (if a2 = 2 then (if a1 < 97 then (some 0) else (if 103 < a1 then (some 0) else (some 1))) else (if a2 = 3 then (if a1 < 49 then (some 0) else (if 55 < a1 then (some 0) else (some 1))) else (if a1 = 59 then (some 1) else (some 0)))))
set_option maxRecDepth 100000 in
set_option maxHeartbeats 4000000 in
theorem mX4_fits (l : Launch) (g : GE) (a1 : Int32) (a2 : Int32) (r : Int32) (hyp : fX4_fits a1 a2 = some r) : PI l yX4_fits cX4_fits 2 (some .boolean) 0 0 g [] [.int a1, .int a2] r := by
  refine metP_intro (by decide) rfl ?_
  intro p e R s m args below meth c Q hRf hRl hQ hx hb hml hr hlocks hown hts hin hE hP ls hl
  have hown : s.vm.findClass "HallGuards$MoveText" = some m.cls := hown
  have hl : lv_has ls 2 [(0, .int a1), (1, .int a2)] := hl
  unfold fX4_fits at hyp
  refine lv_iload_n hx hb dX4_fits_0 rfl (lv_at hl 1 rfl) ?_
  by_cases h_1 : a2 = 0
  · replace hyp := ite_t h_1 hyp
    refine lv_tableIn (off := 31) (tgt := 32) hx hb dX4_fits_1 (by rw [h_1]; decide) (by rw [h_1]; decide) (by rw [h_1]; decide) (by decide) ?_
    refine lv_iload_n hx hb dX4_fits_32 rfl (lv_at hl 0 rfl) ?_
    refine lv_bipush (v := 97) hx hb dX4_fits_33 (by decide) ?_
    refine lv_icmp_lt (tgt := 48) hx hb dX4_fits_35 (by decide) (fun h_2 => ?_) (fun h_2 => ?_)
    · replace hyp := ite_t h_2 hyp
      refine lv_iconst (v := 0) hx hb dX4_fits_48 (by decide) ?_
      subst hQ
      exact rZ hx hb hr hlocks (Or.inl rfl) (some_e hyp) dX4_fits_49
    · replace hyp := ite_f h_2 hyp
      refine lv_iload_n hx hb dX4_fits_38 rfl (lv_at hl 0 rfl) ?_
      refine lv_bipush (v := 103) hx hb dX4_fits_39 (by decide) ?_
      refine lv_icmp_gt (tgt := 48) hx hb dX4_fits_41 (by decide) (fun h_3 => ?_) (fun h_3 => ?_)
      · replace hyp := ite_t h_3 hyp
        refine lv_iconst (v := 0) hx hb dX4_fits_48 (by decide) ?_
        subst hQ
        exact rZ hx hb hr hlocks (Or.inl rfl) (some_e hyp) dX4_fits_49
      · replace hyp := ite_f h_3 hyp
        refine lv_iconst (v := 1) hx hb dX4_fits_44 (by decide) ?_
        refine lv_goto (tgt := 49) hx hb dX4_fits_45 (by decide) ?_
        subst hQ
        exact rZ hx hb hr hlocks (Or.inr rfl) (some_e hyp) dX4_fits_49
  · replace hyp := ite_f h_1 hyp
    by_cases h_4 : a2 = 1
    · replace hyp := ite_t h_4 hyp
      refine lv_tableIn (off := 49) (tgt := 50) hx hb dX4_fits_1 (by rw [h_4]; decide) (by rw [h_4]; decide) (by rw [h_4]; decide) (by decide) ?_
      refine lv_iload_n hx hb dX4_fits_50 rfl (lv_at hl 0 rfl) ?_
      refine lv_bipush (v := 49) hx hb dX4_fits_51 (by decide) ?_
      refine lv_icmp_lt (tgt := 66) hx hb dX4_fits_53 (by decide) (fun h_5 => ?_) (fun h_5 => ?_)
      · replace hyp := ite_t h_5 hyp
        refine lv_iconst (v := 0) hx hb dX4_fits_66 (by decide) ?_
        subst hQ
        exact rZ hx hb hr hlocks (Or.inl rfl) (some_e hyp) dX4_fits_67
      · replace hyp := ite_f h_5 hyp
        refine lv_iload_n hx hb dX4_fits_56 rfl (lv_at hl 0 rfl) ?_
        refine lv_bipush (v := 55) hx hb dX4_fits_57 (by decide) ?_
        refine lv_icmp_gt (tgt := 66) hx hb dX4_fits_59 (by decide) (fun h_6 => ?_) (fun h_6 => ?_)
        · replace hyp := ite_t h_6 hyp
          refine lv_iconst (v := 0) hx hb dX4_fits_66 (by decide) ?_
          subst hQ
          exact rZ hx hb hr hlocks (Or.inl rfl) (some_e hyp) dX4_fits_67
        · replace hyp := ite_f h_6 hyp
          refine lv_iconst (v := 1) hx hb dX4_fits_62 (by decide) ?_
          refine lv_goto (tgt := 67) hx hb dX4_fits_63 (by decide) ?_
          subst hQ
          exact rZ hx hb hr hlocks (Or.inr rfl) (some_e hyp) dX4_fits_67
    · replace hyp := ite_f h_4 hyp
      by_cases h_7 : a2 = 2
      · replace hyp := ite_t h_7 hyp
        refine lv_tableIn (off := 31) (tgt := 32) hx hb dX4_fits_1 (by rw [h_7]; decide) (by rw [h_7]; decide) (by rw [h_7]; decide) (by decide) ?_
        refine lv_iload_n hx hb dX4_fits_32 rfl (lv_at hl 0 rfl) ?_
        refine lv_bipush (v := 97) hx hb dX4_fits_33 (by decide) ?_
        refine lv_icmp_lt (tgt := 48) hx hb dX4_fits_35 (by decide) (fun h_8 => ?_) (fun h_8 => ?_)
        · replace hyp := ite_t h_8 hyp
          refine lv_iconst (v := 0) hx hb dX4_fits_48 (by decide) ?_
          subst hQ
          exact rZ hx hb hr hlocks (Or.inl rfl) (some_e hyp) dX4_fits_49
        · replace hyp := ite_f h_8 hyp
          refine lv_iload_n hx hb dX4_fits_38 rfl (lv_at hl 0 rfl) ?_
          refine lv_bipush (v := 103) hx hb dX4_fits_39 (by decide) ?_
          refine lv_icmp_gt (tgt := 48) hx hb dX4_fits_41 (by decide) (fun h_9 => ?_) (fun h_9 => ?_)
          · replace hyp := ite_t h_9 hyp
            refine lv_iconst (v := 0) hx hb dX4_fits_48 (by decide) ?_
            subst hQ
            exact rZ hx hb hr hlocks (Or.inl rfl) (some_e hyp) dX4_fits_49
          · replace hyp := ite_f h_9 hyp
            refine lv_iconst (v := 1) hx hb dX4_fits_44 (by decide) ?_
            refine lv_goto (tgt := 49) hx hb dX4_fits_45 (by decide) ?_
            subst hQ
            exact rZ hx hb hr hlocks (Or.inr rfl) (some_e hyp) dX4_fits_49
      · replace hyp := ite_f h_7 hyp
        by_cases h_10 : a2 = 3
        · replace hyp := ite_t h_10 hyp
          refine lv_tableIn (off := 49) (tgt := 50) hx hb dX4_fits_1 (by rw [h_10]; decide) (by rw [h_10]; decide) (by rw [h_10]; decide) (by decide) ?_
          refine lv_iload_n hx hb dX4_fits_50 rfl (lv_at hl 0 rfl) ?_
          refine lv_bipush (v := 49) hx hb dX4_fits_51 (by decide) ?_
          refine lv_icmp_lt (tgt := 66) hx hb dX4_fits_53 (by decide) (fun h_11 => ?_) (fun h_11 => ?_)
          · replace hyp := ite_t h_11 hyp
            refine lv_iconst (v := 0) hx hb dX4_fits_66 (by decide) ?_
            subst hQ
            exact rZ hx hb hr hlocks (Or.inl rfl) (some_e hyp) dX4_fits_67
          · replace hyp := ite_f h_11 hyp
            refine lv_iload_n hx hb dX4_fits_56 rfl (lv_at hl 0 rfl) ?_
            refine lv_bipush (v := 55) hx hb dX4_fits_57 (by decide) ?_
            refine lv_icmp_gt (tgt := 66) hx hb dX4_fits_59 (by decide) (fun h_12 => ?_) (fun h_12 => ?_)
            · replace hyp := ite_t h_12 hyp
              refine lv_iconst (v := 0) hx hb dX4_fits_66 (by decide) ?_
              subst hQ
              exact rZ hx hb hr hlocks (Or.inl rfl) (some_e hyp) dX4_fits_67
            · replace hyp := ite_f h_12 hyp
              refine lv_iconst (v := 1) hx hb dX4_fits_62 (by decide) ?_
              refine lv_goto (tgt := 67) hx hb dX4_fits_63 (by decide) ?_
              subst hQ
              exact rZ hx hb hr hlocks (Or.inr rfl) (some_e hyp) dX4_fits_67
        · replace hyp := ite_f h_10 hyp
          refine lv_tableOut (tgt := 68) hx hb dX4_fits_1 (by have a0 := tsw_ne (n := 0) h_1 (by decide); have a1 := tsw_ne (n := 1) h_4 (by decide); have a2 := tsw_ne (n := 2) h_7 (by decide); have a3 := tsw_ne (n := 3) h_10 (by decide); omega) (by decide) ?_
          refine lv_iload_n hx hb dX4_fits_68 rfl (lv_at hl 0 rfl) ?_
          refine lv_bipush (v := 59) hx hb dX4_fits_69 (by decide) ?_
          refine lv_icmp_ne (tgt := 78) hx hb dX4_fits_71 (by decide) (fun h_13 => ?_) (fun h_13 => ?_)
          · replace hyp := ite_f h_13 hyp
            refine lv_iconst (v := 0) hx hb dX4_fits_78 (by decide) ?_
            subst hQ
            exact rZ hx hb hr hlocks (Or.inl rfl) (some_e hyp) dX4_fits_79
          · replace hyp := ite_t h_13 hyp
            refine lv_iconst (v := 1) hx hb dX4_fits_74 (by decide) ?_
            refine lv_goto (tgt := 79) hx hb dX4_fits_75 (by decide) ?_
            subst hQ
            exact rZ hx hb hr hlocks (Or.inr rfl) (some_e hyp) dX4_fits_79

def fX4_errorIndex_L2_B (tl : Int32) (tf : Nat → Int32) (self_2 : Int32 → Option Int32) (v1_1 : Int32) : Option Int32 :=
  if tl ≤ v1_1 then (some tl) else ((fX4_codeAt tl tf v1_1).bind (fun (r_4 : Int32) => (fX4_fits r_4 (v1_1 - v1_1 / 5 * 5)).bind (fun (r_5 : Int32) => if r_5 = 0 then (some v1_1) else (self_2 (v1_1 + 1)))))
def fX4_errorIndex_L2 (tl : Int32) (tf : Nat → Int32) (n : Nat) (v1_1 : Int32) : Option Int32 := lp (fun zf z => fX4_errorIndex_L2_B tl tf zf z) n v1_1
def fX4_errorIndex (tl : Int32) (tf : Nat → Int32) : Option Int32 :=
  fX4_errorIndex_L2 tl tf 64 0
set_option maxRecDepth 100000 in
set_option maxHeartbeats 4000000 in
theorem mX4_errorIndex (l : Launch) (g : GE) (mt tc : Nat) (tl : Int32) (tf : Nat → Int32) (r : Int32) (hyp : fX4_errorIndex tl tf = some r) : PI l yX4_errorIndex cX4_errorIndex 2 (some .int) 1 21 g [(mt, .inr (4, [.ref tc, .int tl])), (tc, .inl (g.2.1, 60, .inl tf))] [.ref mt] r := by
  refine metP_intro (by decide) rfl ?_
  intro p e R s m args below meth c Q hRf hRl hQ hx hb hml hr hlocks hown hts hin hE hP ls hl
  have hown : s.vm.findClass "HallGuards$MoveText" = some m.cls := hown
  have hl : lv_has ls 2 [(0, .ref mt)] := hl
  unfold fX4_errorIndex at hyp
  refine lv_iconst (v := 0) hx hb dX4_errorIndex_0 (by decide) ?_
  refine lv_istore_n (lv' := [(1, .int 0), (0, .ref mt)]) hx hb dX4_errorIndex_1 rfl hl (by decide) rfl (fun ls hl => ?_)
  refine lp_i (r := r) (fun z : Int32 => ∀ (ls : Array Slot), lv_has ls 2 [(0, .ref mt), (1, .int z)] → W p l e R s m args below meth c s.heap [] 0 0 Q (F0 m 2 ls [])) ?_ 64 0 hyp ls (lv_sub hl [1, 0] rfl)
  intro self_2 ihself_2 z hyp ls hl
  generalize z = v1_1 at hyp hl ⊢
  replace hyp : fX4_errorIndex_L2_B tl tf self_2 v1_1 = some r := hyp
  have hl : lv_has ls 2 [(0, .ref mt), (1, .int v1_1)] := hl
  show W p l e R s m args below meth c s.heap [] 0 0 Q (F0 m 2 ls [])
  unfold fX4_errorIndex_L2_B at hyp
  refine lv_iload_n hx hb dX4_errorIndex_2 rfl (lv_at hl 1 rfl) ?_
  refine lv_aload_n hx hb dX4_errorIndex_3 rfl (lv_at hl 0 rfl) ?_
  refine gf_X4_15 hx hb hts hown hE hP 0 rfl rfl dX4_errorIndex_4 ?_
  refine lv_icmp_ge (tgt := 32) hx hb dX4_errorIndex_7 (by decide) (fun h_3 => ?_) (fun h_3 => ?_)
  · replace hyp := ite_t h_3 hyp
    refine lv_aload_n hx hb dX4_errorIndex_32 rfl (lv_at hl 0 rfl) ?_
    refine gf_X4_15 hx hb hts hown hE hP 0 rfl rfl dX4_errorIndex_33 ?_
    subst hQ
    exact rI hx hb hr hlocks (some_e hyp) dX4_errorIndex_36
  · replace hyp := ite_f h_3 hyp
    refine lv_aload_n hx hb dX4_errorIndex_10 rfl (lv_at hl 0 rfl) ?_
    refine lv_iload_n hx hb dX4_errorIndex_11 rfl (lv_at hl 1 rfl) ?_
    obtain ⟨r_4, hr_4, hyp⟩ := opt_e hyp
    refine pV (As := [.int v1_1]) (rest := []) ⟨hx, hb, hml, hown, hts⟩ hE (mX4_codeAt l g mt tc tl tf v1_1 r_4 hr_4) cf_X4_codeAt im_X4_codeAt se_X4_codeAt ml_X4_23 ⟨Nat.le_trans (Nat.le_of_ble_eq_true rfl) hRf, Nat.le_trans (Nat.le_of_ble_eq_true rfl) hRl⟩ (hP.sub (ws' := [(mt, .inr (4, [.ref tc, .int tl])), (tc, .inl (g.2.1, 60, .inl tf))]) [0, 1] rfl) (ci := 4) (q0 := 0) rfl rfl rfl rfl hl.1 rfl (Nat.le_of_ble_eq_true rfl) dX4_errorIndex_12 ⟨Nat.zero_le _, Nat.zero_le _⟩ ?_
    refine lv_iload_n hx hb dX4_errorIndex_15 rfl (lv_at hl 1 rfl) ?_
    refine lv_iconst (v := 5) hx hb dX4_errorIndex_16 (by decide) ?_
    refine lv_irem hx hb dX4_errorIndex_17 (by decide) ?_
    obtain ⟨r_5, hr_5, hyp⟩ := opt_e hyp
    refine pS (As := [.int r_4, .int (v1_1 - v1_1 / 5 * 5)]) (rest := []) ⟨hx, hb, hml, hown, hts⟩ hE (mX4_fits l g r_4 (v1_1 - v1_1 / 5 * 5) r_5 hr_5) cf_X4_fits st_X4_fits ml_X4_27 ⟨Nat.le_trans (Nat.le_of_ble_eq_true rfl) hRf, Nat.le_trans (Nat.le_of_ble_eq_true rfl) hRl⟩ (va_P_nil) rfl hl.1 rfl (Nat.le_of_ble_eq_true rfl) dX4_errorIndex_18 ⟨Nat.zero_le _, Nat.zero_le _⟩ ?_
    refine lv_if_ne (tgt := 26) hx hb dX4_errorIndex_21 (by decide) (fun h_6 => ?_) (fun h_6 => ?_)
    · replace hyp := ite_f h_6 hyp
      refine lv_iinc (v := v1_1 + 1) (lv' := [(1, .int (v1_1 + 1)), (0, .ref mt)]) hx hb dX4_errorIndex_26 hl (k := 1) rfl rfl (by decide) rfl (fun ls hl => ?_)
      refine lv_goto (tgt := 2) hx hb dX4_errorIndex_29 (by decide) ?_
      exact ihself_2 (v1_1 + 1) hyp ls (lv_sub hl [1, 0] rfl)
    · replace hyp := ite_t h_6 hyp
      refine lv_iload_n hx hb dX4_errorIndex_24 rfl (lv_at hl 1 rfl) ?_
      subst hQ
      exact rI hx hb hr hlocks (some_e hyp) dX4_errorIndex_25

def fX4_tellsMoves (tl : Int32) (tf : Nat → Int32) : Option Int32 :=
  if (tl - tl / 5 * 5) = 4 then ((fX4_errorIndex tl tf).bind (fun (r_2 : Int32) => if r_2 = tl then (some 1) else (some 0))) else (some 0)
set_option maxRecDepth 100000 in
set_option maxHeartbeats 4000000 in
theorem mX4_tellsMoves (l : Launch) (g : GE) (mt tc : Nat) (tl : Int32) (tf : Nat → Int32) (r : Int32) (hyp : fX4_tellsMoves tl tf = some r) : PI l yX4_tellsMoves cX4_tellsMoves 1 (some .boolean) 2 42 g [(mt, .inr (4, [.ref tc, .int tl])), (tc, .inl (g.2.1, 60, .inl tf))] [.ref mt] r := by
  refine metP_intro (by decide) rfl ?_
  intro p e R s m args below meth c Q hRf hRl hQ hx hb hml hr hlocks hown hts hin hE hP ls hl
  have hown : s.vm.findClass "HallGuards$MoveText" = some m.cls := hown
  have hl : lv_has ls 1 [(0, .ref mt)] := hl
  unfold fX4_tellsMoves at hyp
  refine lv_aload_n hx hb dX4_tellsMoves_0 rfl (lv_at hl 0 rfl) ?_
  refine gf_X4_15 hx hb hts hown hE hP 0 rfl rfl dX4_tellsMoves_1 ?_
  refine lv_iconst (v := 5) hx hb dX4_tellsMoves_4 (by decide) ?_
  refine lv_irem hx hb dX4_tellsMoves_5 (by decide) ?_
  refine lv_iconst (v := 4) hx hb dX4_tellsMoves_6 (by decide) ?_
  refine lv_icmp_ne (tgt := 25) hx hb dX4_tellsMoves_7 (by decide) (fun h_1 => ?_) (fun h_1 => ?_)
  · replace hyp := ite_f h_1 hyp
    refine lv_iconst (v := 0) hx hb dX4_tellsMoves_25 (by decide) ?_
    subst hQ
    exact rZ hx hb hr hlocks (Or.inl rfl) (some_e hyp) dX4_tellsMoves_26
  · replace hyp := ite_t h_1 hyp
    refine lv_aload_n hx hb dX4_tellsMoves_10 rfl (lv_at hl 0 rfl) ?_
    obtain ⟨r_2, hr_2, hyp⟩ := opt_e hyp
    refine pV (As := []) (rest := []) ⟨hx, hb, hml, hown, hts⟩ hE (mX4_errorIndex l g mt tc tl tf r_2 hr_2) cf_X4_errorIndex im_X4_errorIndex se_X4_errorIndex ml_X4_31 ⟨Nat.le_trans (Nat.le_of_ble_eq_true rfl) hRf, Nat.le_trans (Nat.le_of_ble_eq_true rfl) hRl⟩ (hP.sub (ws' := [(mt, .inr (4, [.ref tc, .int tl])), (tc, .inl (g.2.1, 60, .inl tf))]) [0, 1] rfl) (ci := 4) (q0 := 0) rfl rfl rfl rfl hl.1 rfl (Nat.le_of_ble_eq_true rfl) dX4_tellsMoves_11 ⟨Nat.zero_le _, Nat.zero_le _⟩ ?_
    refine lv_aload_n hx hb dX4_tellsMoves_14 rfl (lv_at hl 0 rfl) ?_
    refine gf_X4_15 hx hb hts hown hE hP 0 rfl rfl dX4_tellsMoves_15 ?_
    refine lv_icmp_ne (tgt := 25) hx hb dX4_tellsMoves_18 (by decide) (fun h_3 => ?_) (fun h_3 => ?_)
    · replace hyp := ite_f h_3 hyp
      refine lv_iconst (v := 0) hx hb dX4_tellsMoves_25 (by decide) ?_
      subst hQ
      exact rZ hx hb hr hlocks (Or.inl rfl) (some_e hyp) dX4_tellsMoves_26
    · replace hyp := ite_t h_3 hyp
      refine lv_iconst (v := 1) hx hb dX4_tellsMoves_21 (by decide) ?_
      refine lv_goto (tgt := 26) hx hb dX4_tellsMoves_22 (by decide) ?_
      subst hQ
      exact rZ hx hb hr hlocks (Or.inr rfl) (some_e hyp) dX4_tellsMoves_26

def fX4_parts (tl : Int32) : Option Int32 :=
  some ((tl + 1) / 5)
set_option maxRecDepth 100000 in
set_option maxHeartbeats 4000000 in
theorem mX4_parts (l : Launch) (g : GE) (mt tc : Nat) (tl : Int32) (r : Int32) (hyp : fX4_parts tl = some r) : PI l yX4_parts cX4_parts 1 (some .int) 0 0 g [(mt, .inr (4, [.ref tc, .int tl]))] [.ref mt] r := by
  refine metP_intro (by decide) rfl ?_
  intro p e R s m args below meth c Q hRf hRl hQ hx hb hml hr hlocks hown hts hin hE hP ls hl
  have hown : s.vm.findClass "HallGuards$MoveText" = some m.cls := hown
  have hl : lv_has ls 1 [(0, .ref mt)] := hl
  unfold fX4_parts at hyp
  refine lv_aload_n hx hb dX4_parts_0 rfl (lv_at hl 0 rfl) ?_
  refine gf_X4_15 hx hb hts hown hE hP 0 rfl rfl dX4_parts_1 ?_
  refine lv_iconst (v := 1) hx hb dX4_parts_4 (by decide) ?_
  refine lv_iadd hx hb dX4_parts_5 ?_
  refine lv_iconst (v := 5) hx hb dX4_parts_6 (by decide) ?_
  refine lv_idiv hx hb dX4_parts_7 (by decide) ?_
  subst hQ
  exact rI hx hb hr hlocks (some_e hyp) dX4_parts_8

def fX4_squareAt (tl : Int32) (tf : Nat → Int32) (a1 : Int32) : Option Int32 :=
  (fX4_codeAt tl tf (a1 + 1)).bind (fun (r_1 : Int32) => (fX4_codeAt tl tf a1).bind (fun (r_2 : Int32) => some (((7 * (r_1 - 49)) + r_2) - 97)))
set_option maxRecDepth 100000 in
set_option maxHeartbeats 4000000 in
theorem mX4_squareAt (l : Launch) (g : GE) (mt tc : Nat) (tl : Int32) (tf : Nat → Int32) (a1 : Int32) (r : Int32) (hyp : fX4_squareAt tl tf a1 = some r) : PI l yX4_squareAt cX4_squareAt 2 (some .int) 1 21 g [(mt, .inr (4, [.ref tc, .int tl])), (tc, .inl (g.2.1, 60, .inl tf))] [.ref mt, .int a1] r := by
  refine metP_intro (by decide) rfl ?_
  intro p e R s m args below meth c Q hRf hRl hQ hx hb hml hr hlocks hown hts hin hE hP ls hl
  have hown : s.vm.findClass "HallGuards$MoveText" = some m.cls := hown
  have hl : lv_has ls 2 [(0, .ref mt), (1, .int a1)] := hl
  unfold fX4_squareAt at hyp
  refine lv_bipush (v := 7) hx hb dX4_squareAt_0 (by decide) ?_
  refine lv_aload_n hx hb dX4_squareAt_2 rfl (lv_at hl 0 rfl) ?_
  refine lv_iload_n hx hb dX4_squareAt_3 rfl (lv_at hl 1 rfl) ?_
  refine lv_iconst (v := 1) hx hb dX4_squareAt_4 (by decide) ?_
  refine lv_iadd hx hb dX4_squareAt_5 ?_
  obtain ⟨r_1, hr_1, hyp⟩ := opt_e hyp
  refine pV (As := [.int (a1 + 1)]) (rest := [.int 7]) ⟨hx, hb, hml, hown, hts⟩ hE (mX4_codeAt l g mt tc tl tf (a1 + 1) r_1 hr_1) cf_X4_codeAt im_X4_codeAt se_X4_codeAt ml_X4_23 ⟨Nat.le_trans (Nat.le_of_ble_eq_true rfl) hRf, Nat.le_trans (Nat.le_of_ble_eq_true rfl) hRl⟩ (hP.sub (ws' := [(mt, .inr (4, [.ref tc, .int tl])), (tc, .inl (g.2.1, 60, .inl tf))]) [0, 1] rfl) (ci := 4) (q0 := 0) rfl rfl rfl rfl hl.1 rfl (Nat.le_of_ble_eq_true rfl) dX4_squareAt_6 ⟨Nat.zero_le _, Nat.zero_le _⟩ ?_
  refine lv_bipush (v := 49) hx hb dX4_squareAt_9 (by decide) ?_
  refine lv_isub hx hb dX4_squareAt_11 ?_
  refine lv_imul hx hb dX4_squareAt_12 ?_
  refine lv_aload_n hx hb dX4_squareAt_13 rfl (lv_at hl 0 rfl) ?_
  refine lv_iload_n hx hb dX4_squareAt_14 rfl (lv_at hl 1 rfl) ?_
  obtain ⟨r_2, hr_2, hyp⟩ := opt_e hyp
  refine pV (As := [.int a1]) (rest := [.int (7 * (r_1 - 49))]) ⟨hx, hb, hml, hown, hts⟩ hE (mX4_codeAt l g mt tc tl tf a1 r_2 hr_2) cf_X4_codeAt im_X4_codeAt se_X4_codeAt ml_X4_23 ⟨Nat.le_trans (Nat.le_of_ble_eq_true rfl) hRf, Nat.le_trans (Nat.le_of_ble_eq_true rfl) hRl⟩ (hP.sub (ws' := [(mt, .inr (4, [.ref tc, .int tl])), (tc, .inl (g.2.1, 60, .inl tf))]) [0, 1] rfl) (ci := 4) (q0 := 0) rfl rfl rfl rfl hl.1 rfl (Nat.le_of_ble_eq_true rfl) dX4_squareAt_15 ⟨Nat.zero_le _, Nat.zero_le _⟩ ?_
  refine lv_iadd hx hb dX4_squareAt_18 ?_
  refine lv_bipush (v := 97) hx hb dX4_squareAt_19 (by decide) ?_
  refine lv_isub hx hb dX4_squareAt_21 ?_
  subst hQ
  exact rI hx hb hr hlocks (some_e hyp) dX4_squareAt_22

def fX0_takes (bf : Nat → Int32) (kk : Int32) (sg : Int32) (f : Nat → Int32) (a1 : Int32) (a2 : Int32) : Option (Int32 × (Nat → Int32) × Int32 × Int32) :=
  (fX1_copyFrom bf kk sg f).bind (fun (r_1 : (Nat → Int32) × Int32 × Int32) => (fX1_carryOut r_1.2.1 r_1.2.2 r_1.1 a1 a2).bind (fun (r_2 : Int32 × (Nat → Int32) × Int32) => some (r_2.1, r_2.2.1, r_2.2.2, r_1.2.2)))
set_option maxRecDepth 100000 in
set_option maxHeartbeats 4000000 in
theorem mX0_takes (l : Launch) (g : GE) (ad be bc b ca rp rl : Nat) (bk : Int32) (bs : Int32) (bf : Nat → Int32) (kk : Int32) (sg : Int32) (f : Nat → Int32) (a1 : Int32) (a2 : Int32) (r : Int32 × (Nat → Int32) × Int32 × Int32) (hyp : fX0_takes bf kk sg f a1 a2 = some r) : WM l yX0_takes cX0_takes 4 (some .int) 4 97 g [(ad, .inr (0, [.ref be, .ref rp, .ref rl])), (be, .inr (1, [.ref bc, .int bk, .int bs])), (bc, .inl (g.2.1, 49, .inl bf)), (b, .inr (1, [.ref ca, .int kk, .int sg])), (ca, .inl (g.2.1, 49, .inl f))] [.ref ad, .ref b, .int a1, .int a2] (some (.int r.1)) [(ad, .inr (0, [.ref be, .ref rp, .ref rl])), (be, .inr (1, [.ref bc, .int r.2.2.1, .int r.2.2.2])), (bc, .inl (g.2.1, 49, .inl r.2.1)), (b, .inr (1, [.ref ca, .int kk, .int sg])), (ca, .inl (g.2.1, 49, .inl f))] := by
  refine metW_intro (by decide) rfl ?_
  intro p e R s m args below meth c Q A hRf hRl hQ hx hb hml hr hlocks hown hts hin hE hA H locs hP hD hS ls hl
  have hown : s.vm.findClass "HallGuards$Advice" = some m.cls := hown
  have hl : lv_has ls 4 [(0, .ref ad), (1, .ref b), (2, .int a1), (3, .int a2)] := hl
  unfold fX0_takes at hyp
  refine lv_aload_n hx hb dX0_takes_0 rfl (lv_at hl 0 rfl) ?_
  refine gf_X0_12 hx hb hts hown hE hP 0 rfl rfl dX0_takes_1 ?_
  refine lv_aload_n hx hb dX0_takes_4 rfl (lv_at hl 1 rfl) ?_
  obtain ⟨r_1, hr_1, hyp⟩ := opt_e hyp
  refine wV (As := [.ref b]) (rest := []) ⟨hx, hb, hml, hown, hts⟩ hE (mX1_copyFrom l g be bc b ca bk bs bf kk sg f r_1 hr_1) cf_X1_copyFrom im_X1_copyFrom se_X1_copyFrom ml_X0_28 ⟨Nat.le_trans (Nat.le_of_ble_eq_true rfl) hRf, Nat.le_trans (Nat.le_of_ble_eq_true rfl) hRl⟩ hP hD hS hA [1, 2, 3, 4] [0] rfl (wr := [(ad, .inr (0, [.ref be, .ref rp, .ref rl]))]) rfl ⟨by decide, by decide⟩ (by decide) (ci := 1) (q0 := 0) rfl rfl rfl rfl hl.1 rfl (Nat.le_of_ble_eq_true rfl) dX0_takes_5 ⟨Nat.zero_le _, Nat.zero_le _⟩ (fun H locs hP hD hS => ?_)
  have hP : va_P g.1 vwCl [(ad, .inr (0, [.ref be, .ref rp, .ref rl])), (be, .inr (1, [.ref bc, .int r_1.2.1, .int r_1.2.2])), (bc, .inl (g.2.1, 49, .inl r_1.1)), (b, .inr (1, [.ref ca, .int kk, .int sg])), (ca, .inl (g.2.1, 49, .inl f))] H := hP
  have hD : va_D A [(ad, .inr (0, [.ref be, .ref rp, .ref rl])), (be, .inr (1, [.ref bc, .int r_1.2.1, .int r_1.2.2])), (bc, .inl (g.2.1, 49, .inl r_1.1)), (b, .inr (1, [.ref ca, .int kk, .int sg])), (ca, .inl (g.2.1, 49, .inl f))] := hD
  refine lv_aload_n hx hb dX0_takes_8 rfl (lv_at hl 0 rfl) ?_
  refine gf_X0_12 hx hb hts hown hE hP 0 rfl rfl dX0_takes_9 ?_
  refine lv_iload_n hx hb dX0_takes_12 rfl (lv_at hl 2 rfl) ?_
  refine lv_iload_n hx hb dX0_takes_13 rfl (lv_at hl 3 rfl) ?_
  obtain ⟨r_2, hr_2, hyp⟩ := opt_e hyp
  refine wV (As := [.int a1, .int a2]) (rest := []) ⟨hx, hb, hml, hown, hts⟩ hE (mX1_carryOut l g be bc r_1.2.1 r_1.2.2 r_1.1 a1 a2 r_2 hr_2) cf_X1_carryOut im_X1_carryOut se_X1_carryOut ml_X0_32 ⟨Nat.le_trans (Nat.le_of_ble_eq_true rfl) hRf, Nat.le_trans (Nat.le_of_ble_eq_true rfl) hRl⟩ hP hD hS hA [1, 2] [0, 3, 4] rfl (wr := [(ad, .inr (0, [.ref be, .ref rp, .ref rl])), (b, .inr (1, [.ref ca, .int kk, .int sg])), (ca, .inl (g.2.1, 49, .inl f))]) rfl ⟨by decide, by decide⟩ (by decide) (ci := 1) (q0 := 0) rfl rfl rfl rfl hl.1 rfl (Nat.le_of_ble_eq_true rfl) dX0_takes_14 ⟨Nat.zero_le _, Nat.zero_le _⟩ (fun H locs hP hD hS => ?_)
  have hP : va_P g.1 vwCl [(ad, .inr (0, [.ref be, .ref rp, .ref rl])), (b, .inr (1, [.ref ca, .int kk, .int sg])), (ca, .inl (g.2.1, 49, .inl f)), (be, .inr (1, [.ref bc, .int r_2.2.2, .int r_1.2.2])), (bc, .inl (g.2.1, 49, .inl r_2.2.1))] H := hP
  have hD : va_D A [(ad, .inr (0, [.ref be, .ref rp, .ref rl])), (b, .inr (1, [.ref ca, .int kk, .int sg])), (ca, .inl (g.2.1, 49, .inl f)), (be, .inr (1, [.ref bc, .int r_2.2.2, .int r_1.2.2])), (bc, .inl (g.2.1, 49, .inl r_2.2.1))] := hD
  have hP : va_P g.1 vwCl [(ad, .inr (0, [.ref be, .ref rp, .ref rl])), (be, .inr (1, [.ref bc, .int r_2.2.2, .int r_1.2.2])), (bc, .inl (g.2.1, 49, .inl r_2.2.1)), (b, .inr (1, [.ref ca, .int kk, .int sg])), (ca, .inl (g.2.1, 49, .inl f))] H := hP.sub [0, 3, 4, 1, 2] rfl
  have hD : va_D A [(ad, .inr (0, [.ref be, .ref rp, .ref rl])), (be, .inr (1, [.ref bc, .int r_2.2.2, .int r_1.2.2])), (bc, .inl (g.2.1, 49, .inl r_2.2.1)), (b, .inr (1, [.ref ca, .int kk, .int sg])), (ca, .inl (g.2.1, 49, .inl f))] := hD.sub [0, 3, 4, 1, 2] (by decide) rfl
  have hyp := some_e hyp
  subst hyp
  subst hQ
  exact rwI hx hb hr hlocks  hP hD hS dX0_takes_17

def fX0_isWinning (rf : Nat → Int32) (kk : Int32) (sg : Int32) (f : Nat → Int32) (a1 : Int32) (a2 : Int32) : Option (Int32 × (Nat → Int32) × Int32 × Int32) :=
  (fX1_copyFrom rf kk sg f).bind (fun (r_1 : (Nat → Int32) × Int32 × Int32) => (fX1_carryOut r_1.2.1 r_1.2.2 r_1.1 a1 a2).bind (fun (r_2 : Int32 × (Nat → Int32) × Int32) => jn (fun (t_3 : Int32) => (fX1_isWonBy r_2.2.2 r_2.2.1 a2 t_3).bind (fun (r_5 : Int32) => grd (is01 r_5) (some (r_5, r_2.2.1, r_2.2.2, r_1.2.2)))) (fun J_4 => if kk < 0 then (J_4 0) else (J_4 1))))
set_option maxRecDepth 100000 in
set_option maxHeartbeats 4000000 in
theorem mX0_isWinning (l : Launch) (g : GE) (ad rp rc b ca be rl : Nat) (rk : Int32) (rs : Int32) (rf : Nat → Int32) (kk : Int32) (sg : Int32) (f : Nat → Int32) (a1 : Int32) (a2 : Int32) (r : Int32 × (Nat → Int32) × Int32 × Int32) (hyp : fX0_isWinning rf kk sg f a1 a2 = some r) : WM l yX0_isWinning cX0_isWinning 4 (some .boolean) 4 97 g [(ad, .inr (0, [.ref be, .ref rp, .ref rl])), (rp, .inr (1, [.ref rc, .int rk, .int rs])), (rc, .inl (g.2.1, 49, .inl rf)), (b, .inr (1, [.ref ca, .int kk, .int sg])), (ca, .inl (g.2.1, 49, .inl f))] [.ref ad, .ref b, .int a1, .int a2] (some (.int r.1)) [(ad, .inr (0, [.ref be, .ref rp, .ref rl])), (rp, .inr (1, [.ref rc, .int r.2.2.1, .int r.2.2.2])), (rc, .inl (g.2.1, 49, .inl r.2.1)), (b, .inr (1, [.ref ca, .int kk, .int sg])), (ca, .inl (g.2.1, 49, .inl f))] := by
  refine metW_intro (by decide) rfl ?_
  intro p e R s m args below meth c Q A hRf hRl hQ hx hb hml hr hlocks hown hts hin hE hA H locs hP hD hS ls hl
  have hown : s.vm.findClass "HallGuards$Advice" = some m.cls := hown
  have hl : lv_has ls 4 [(0, .ref ad), (1, .ref b), (2, .int a1), (3, .int a2)] := hl
  unfold fX0_isWinning at hyp
  refine lv_aload_n hx hb dX0_isWinning_0 rfl (lv_at hl 0 rfl) ?_
  refine gf_X0_18 hx hb hts hown hE hP 0 rfl rfl dX0_isWinning_1 ?_
  refine lv_aload_n hx hb dX0_isWinning_4 rfl (lv_at hl 1 rfl) ?_
  obtain ⟨r_1, hr_1, hyp⟩ := opt_e hyp
  refine wV (As := [.ref b]) (rest := []) ⟨hx, hb, hml, hown, hts⟩ hE (mX1_copyFrom l g rp rc b ca rk rs rf kk sg f r_1 hr_1) cf_X1_copyFrom im_X1_copyFrom se_X1_copyFrom ml_X0_28 ⟨Nat.le_trans (Nat.le_of_ble_eq_true rfl) hRf, Nat.le_trans (Nat.le_of_ble_eq_true rfl) hRl⟩ hP hD hS hA [1, 2, 3, 4] [0] rfl (wr := [(ad, .inr (0, [.ref be, .ref rp, .ref rl]))]) rfl ⟨by decide, by decide⟩ (by decide) (ci := 1) (q0 := 0) rfl rfl rfl rfl hl.1 rfl (Nat.le_of_ble_eq_true rfl) dX0_isWinning_5 ⟨Nat.zero_le _, Nat.zero_le _⟩ (fun H locs hP hD hS => ?_)
  have hP : va_P g.1 vwCl [(ad, .inr (0, [.ref be, .ref rp, .ref rl])), (rp, .inr (1, [.ref rc, .int r_1.2.1, .int r_1.2.2])), (rc, .inl (g.2.1, 49, .inl r_1.1)), (b, .inr (1, [.ref ca, .int kk, .int sg])), (ca, .inl (g.2.1, 49, .inl f))] H := hP
  have hD : va_D A [(ad, .inr (0, [.ref be, .ref rp, .ref rl])), (rp, .inr (1, [.ref rc, .int r_1.2.1, .int r_1.2.2])), (rc, .inl (g.2.1, 49, .inl r_1.1)), (b, .inr (1, [.ref ca, .int kk, .int sg])), (ca, .inl (g.2.1, 49, .inl f))] := hD
  refine lv_aload_n hx hb dX0_isWinning_8 rfl (lv_at hl 0 rfl) ?_
  refine gf_X0_18 hx hb hts hown hE hP 0 rfl rfl dX0_isWinning_9 ?_
  refine lv_iload_n hx hb dX0_isWinning_12 rfl (lv_at hl 2 rfl) ?_
  refine lv_iload_n hx hb dX0_isWinning_13 rfl (lv_at hl 3 rfl) ?_
  obtain ⟨r_2, hr_2, hyp⟩ := opt_e hyp
  refine wV (As := [.int a1, .int a2]) (rest := []) ⟨hx, hb, hml, hown, hts⟩ hE (mX1_carryOut l g rp rc r_1.2.1 r_1.2.2 r_1.1 a1 a2 r_2 hr_2) cf_X1_carryOut im_X1_carryOut se_X1_carryOut ml_X0_32 ⟨Nat.le_trans (Nat.le_of_ble_eq_true rfl) hRf, Nat.le_trans (Nat.le_of_ble_eq_true rfl) hRl⟩ hP hD hS hA [1, 2] [0, 3, 4] rfl (wr := [(ad, .inr (0, [.ref be, .ref rp, .ref rl])), (b, .inr (1, [.ref ca, .int kk, .int sg])), (ca, .inl (g.2.1, 49, .inl f))]) rfl ⟨by decide, by decide⟩ (by decide) (ci := 1) (q0 := 0) rfl rfl rfl rfl hl.1 rfl (Nat.le_of_ble_eq_true rfl) dX0_isWinning_14 ⟨Nat.zero_le _, Nat.zero_le _⟩ (fun H locs hP hD hS => ?_)
  have hP : va_P g.1 vwCl [(ad, .inr (0, [.ref be, .ref rp, .ref rl])), (b, .inr (1, [.ref ca, .int kk, .int sg])), (ca, .inl (g.2.1, 49, .inl f)), (rp, .inr (1, [.ref rc, .int r_2.2.2, .int r_1.2.2])), (rc, .inl (g.2.1, 49, .inl r_2.2.1))] H := hP
  have hD : va_D A [(ad, .inr (0, [.ref be, .ref rp, .ref rl])), (b, .inr (1, [.ref ca, .int kk, .int sg])), (ca, .inl (g.2.1, 49, .inl f)), (rp, .inr (1, [.ref rc, .int r_2.2.2, .int r_1.2.2])), (rc, .inl (g.2.1, 49, .inl r_2.2.1))] := hD
  refine lv_pop hx hb dX0_isWinning_17 rfl ?_
  refine lv_aload_n hx hb dX0_isWinning_18 rfl (lv_at hl 0 rfl) ?_
  refine gf_X0_18 hx hb hts hown hE hP 0 rfl rfl dX0_isWinning_19 ?_
  refine lv_iload_n hx hb dX0_isWinning_22 rfl (lv_at hl 3 rfl) ?_
  refine lv_aload_n hx hb dX0_isWinning_23 rfl (lv_at hl 1 rfl) ?_
  refine gf_X0_36 hx hb hts hown hE hP 1 rfl rfl dX0_isWinning_24 ?_
  have hP : va_P g.1 vwCl [(ad, .inr (0, [.ref be, .ref rp, .ref rl])), (rp, .inr (1, [.ref rc, .int r_2.2.2, .int r_1.2.2])), (rc, .inl (g.2.1, 49, .inl r_2.2.1)), (b, .inr (1, [.ref ca, .int kk, .int sg])), (ca, .inl (g.2.1, 49, .inl f))] H := hP.sub [0, 3, 4, 1, 2] rfl
  have hD : va_D A [(ad, .inr (0, [.ref be, .ref rp, .ref rl])), (rp, .inr (1, [.ref rc, .int r_2.2.2, .int r_1.2.2])), (rc, .inl (g.2.1, 49, .inl r_2.2.1)), (b, .inr (1, [.ref ca, .int kk, .int sg])), (ca, .inl (g.2.1, 49, .inl f))] := hD.sub [0, 3, 4, 1, 2] (by decide) rfl
  obtain ⟨J_4, eJ_4, hyp⟩ := jn_e hyp
  have kJ_4 : ∀ (t_3 : Int32) (H : Heap) (locs : List Loc) (ls : Array Slot), J_4 t_3 = some r → lv_has ls 4 [] → va_P g.1 vwCl [(ad, .inr (0, [.ref be, .ref rp, .ref rl])), (rp, .inr (1, [.ref rc, .int r_2.2.2, .int r_1.2.2])), (rc, .inl (g.2.1, 49, .inl r_2.2.1)), (b, .inr (1, [.ref ca, .int kk, .int sg])), (ca, .inl (g.2.1, 49, .inl f))] H → va_D A [(ad, .inr (0, [.ref be, .ref rp, .ref rl])), (rp, .inr (1, [.ref rc, .int r_2.2.2, .int r_1.2.2])), (rc, .inl (g.2.1, 49, .inl r_2.2.1)), (b, .inr (1, [.ref ca, .int kk, .int sg])), (ca, .inl (g.2.1, 49, .inl f))] → va_S A s.heap H locs → W p l e R s m args below meth c H locs 0 0 Q (F0 m 35 ls [.int t_3, .int a2, .ref rp]) := by
    intro t_3 H locs  ls hyp hl hP hD hS
    replace hyp := (congrFun (eJ_4) t_3).symm.trans hyp
    obtain ⟨r_5, hr_5, hyp⟩ := opt_e hyp
    refine pV (As := [.int a2, .int t_3]) (rest := []) ⟨hx, hb, hml, hown, hts⟩ hE (mX1_isWonBy l g rp rc r_2.2.2 r_1.2.2 r_2.2.1 a2 t_3 r_5 hr_5) cf_X1_isWonBy im_X1_isWonBy se_X1_isWonBy ml_X0_40 ⟨Nat.le_trans (Nat.le_of_ble_eq_true rfl) hRf, Nat.le_trans (Nat.le_of_ble_eq_true rfl) hRl⟩ (hP.sub (ws' := [(rp, .inr (1, [.ref rc, .int r_2.2.2, .int r_1.2.2])), (rc, .inl (g.2.1, 49, .inl r_2.2.1))]) [1, 2] rfl) (ci := 1) (q0 := 0) rfl rfl rfl rfl hl.1 rfl (Nat.le_of_ble_eq_true rfl) dX0_isWinning_35 ⟨Nat.zero_le _, Nat.zero_le _⟩ ?_
    obtain ⟨h01, hyp⟩ := grd_e hyp
    have hyp := some_e hyp
    subst hyp
    subst hQ
    exact rwZ hx hb hr hlocks (is01_e h01)  hP hD hS dX0_isWinning_38
  refine lv_if_lt (tgt := 34) hx hb dX0_isWinning_27 (by decide) (fun h_6 => ?_) (fun h_6 => ?_)
  · replace hyp := ite_t h_6 hyp
    refine lv_iconst (v := 0) hx hb dX0_isWinning_34 (by decide) ?_
    exact kJ_4 0 H locs ls hyp (lv_sub hl [] rfl) hP hD hS
  · replace hyp := ite_f h_6 hyp
    refine lv_iconst (v := 1) hx hb dX0_isWinning_30 (by decide) ?_
    refine lv_goto (tgt := 35) hx hb dX0_isWinning_31 (by decide) ?_
    exact kJ_4 1 H locs ls hyp (lv_sub hl [] rfl) hP hD hS

def fX0_countWinning_L14_B (kk : Int32) (sg : Int32) (f : Nat → Int32) (self_9 : Int32 → Int32 → (Nat → Int32) → Int32 → Int32 → (Nat → Int32) → Int32 → Option (Int32 × (Nat → Int32) × Int32 × Int32 × (Nat → Int32) × Int32)) (v3_2 : Int32) (v4_3 : Int32) (wrf_4 : Nat → Int32) (wrk_5 : Int32) (wrs_6 : Int32) (wrmf_7 : Nat → Int32) (wrn_8 : Int32) : Option (Int32 × (Nat → Int32) × Int32 × Int32 × (Nat → Int32) × Int32) :=
  if wrn_8 ≤ v4_3 then (some (v3_2, wrf_4, wrk_5, wrs_6, wrmf_7, wrn_8)) else ((fX3_codeAt wrn_8 wrmf_7 v4_3).bind (fun (r_11 : Int32) => (fX0_isWinning wrf_4 kk sg f (r_11 / 49) (r_11 - r_11 / 49 * 49)).bind (fun (r_12 : Int32 × (Nat → Int32) × Int32 × Int32) => if r_12.1 = 0 then (self_9 v3_2 (v4_3 + 1) r_12.2.1 r_12.2.2.1 r_12.2.2.2 wrmf_7 wrn_8) else (self_9 (v3_2 + 1) (v4_3 + 1) r_12.2.1 r_12.2.2.1 r_12.2.2.2 wrmf_7 wrn_8))))
def fX0_countWinning_L14 (kk : Int32) (sg : Int32) (f : Nat → Int32) (n : Nat) (v3_2 : Int32) (v4_3 : Int32) (wrf_4 : Nat → Int32) (wrk_5 : Int32) (wrs_6 : Int32) (wrmf_7 : Nat → Int32) (wrn_8 : Int32) : Option (Int32 × (Nat → Int32) × Int32 × Int32 × (Nat → Int32) × Int32) := lp (fun zf z => fX0_countWinning_L14_B kk sg f (fun v3_2 v4_3 wrf_4 wrk_5 wrs_6 wrmf_7 wrn_8 => zf (v3_2, v4_3, wrf_4, wrk_5, wrs_6, wrmf_7, wrn_8)) z.1 z.2.1 z.2.2.1 z.2.2.2.1 z.2.2.2.2.1 z.2.2.2.2.2.1 z.2.2.2.2.2.2) n (v3_2, v4_3, wrf_4, wrk_5, wrs_6, wrmf_7, wrn_8)
def fX0_countWinning (rk : Int32) (rs : Int32) (rf : Nat → Int32) (rmf : Nat → Int32) (kk : Int32) (sg : Int32) (f : Nat → Int32) (a1 : Int32) : Option (Int32 × (Nat → Int32) × Int32 × Int32 × (Nat → Int32) × Int32) :=
  (fX1_listMoves f rmf a1).bind (fun (r_1 : (Nat → Int32) × Int32) => fX0_countWinning_L14 kk sg f 600 0 0 rf rk rs r_1.1 r_1.2)
set_option maxRecDepth 100000 in
set_option maxHeartbeats 4000000 in
theorem mX0_countWinning (l : Launch) (g : GE) (ad rp rc rl rm b ca be : Nat) (rk : Int32) (rs : Int32) (rf : Nat → Int32) (rn : Int32) (rmf : Nat → Int32) (kk : Int32) (sg : Int32) (f : Nat → Int32) (a1 : Int32) (r : Int32 × (Nat → Int32) × Int32 × Int32 × (Nat → Int32) × Int32) (hyp : fX0_countWinning rk rs rf rmf kk sg f a1 = some r) : WM l yX0_countWinning cX0_countWinning 6 (some .int) 5 120 g [(ad, .inr (0, [.ref be, .ref rp, .ref rl])), (rp, .inr (1, [.ref rc, .int rk, .int rs])), (rc, .inl (g.2.1, 49, .inl rf)), (rl, .inr (3, [.ref rm, .int rn])), (rm, .inl (g.2.1, 588, .inl rmf)), (b, .inr (1, [.ref ca, .int kk, .int sg])), (ca, .inl (g.2.1, 49, .inl f))] [.ref ad, .ref b, .int a1] (some (.int r.1)) [(ad, .inr (0, [.ref be, .ref rp, .ref rl])), (rp, .inr (1, [.ref rc, .int r.2.2.1, .int r.2.2.2.1])), (rc, .inl (g.2.1, 49, .inl r.2.1)), (rl, .inr (3, [.ref rm, .int r.2.2.2.2.2])), (rm, .inl (g.2.1, 588, .inl r.2.2.2.2.1)), (b, .inr (1, [.ref ca, .int kk, .int sg])), (ca, .inl (g.2.1, 49, .inl f))] := by
  refine metW_intro (by decide) rfl ?_
  intro p e R s m args below meth c Q A hRf hRl hQ hx hb hml hr hlocks hown hts hin hE hA H locs hP hD hS ls hl
  have hown : s.vm.findClass "HallGuards$Advice" = some m.cls := hown
  have hl : lv_has ls 6 [(0, .ref ad), (1, .ref b), (2, .int a1)] := hl
  unfold fX0_countWinning at hyp
  refine lv_aload_n hx hb dX0_countWinning_0 rfl (lv_at hl 1 rfl) ?_
  refine lv_iload_n hx hb dX0_countWinning_1 rfl (lv_at hl 2 rfl) ?_
  refine lv_aload_n hx hb dX0_countWinning_2 rfl (lv_at hl 0 rfl) ?_
  refine gf_X0_24 hx hb hts hown hE hP 0 rfl rfl dX0_countWinning_3 ?_
  obtain ⟨r_1, hr_1, hyp⟩ := opt_e hyp
  refine wV (As := [.int a1, .ref rl]) (rest := []) ⟨hx, hb, hml, hown, hts⟩ hE (mX1_listMoves l g b ca rl rm kk sg f rn rmf a1 r_1 hr_1) cf_X1_listMoves im_X1_listMoves se_X1_listMoves ml_X0_44 ⟨Nat.le_trans (Nat.le_of_ble_eq_true rfl) hRf, Nat.le_trans (Nat.le_of_ble_eq_true rfl) hRl⟩ hP hD hS hA [5, 6, 3, 4] [0, 1, 2] rfl (wr := [(ad, .inr (0, [.ref be, .ref rp, .ref rl])), (rp, .inr (1, [.ref rc, .int rk, .int rs])), (rc, .inl (g.2.1, 49, .inl rf))]) rfl ⟨by decide, by decide⟩ (by decide) (ci := 1) (q0 := 0) rfl rfl rfl rfl hl.1 rfl (Nat.le_of_ble_eq_true rfl) dX0_countWinning_6 ⟨Nat.zero_le _, Nat.zero_le _⟩ (fun H locs hP hD hS => ?_)
  have hP : va_P g.1 vwCl [(ad, .inr (0, [.ref be, .ref rp, .ref rl])), (rp, .inr (1, [.ref rc, .int rk, .int rs])), (rc, .inl (g.2.1, 49, .inl rf)), (b, .inr (1, [.ref ca, .int kk, .int sg])), (ca, .inl (g.2.1, 49, .inl f)), (rl, .inr (3, [.ref rm, .int r_1.2])), (rm, .inl (g.2.1, 588, .inl r_1.1))] H := hP
  have hD : va_D A [(ad, .inr (0, [.ref be, .ref rp, .ref rl])), (rp, .inr (1, [.ref rc, .int rk, .int rs])), (rc, .inl (g.2.1, 49, .inl rf)), (b, .inr (1, [.ref ca, .int kk, .int sg])), (ca, .inl (g.2.1, 49, .inl f)), (rl, .inr (3, [.ref rm, .int r_1.2])), (rm, .inl (g.2.1, 588, .inl r_1.1))] := hD
  refine lv_iconst (v := 0) hx hb dX0_countWinning_9 (by decide) ?_
  refine lv_istore_n (lv' := [(3, .int 0), (0, .ref ad), (1, .ref b), (2, .int a1)]) hx hb dX0_countWinning_10 rfl hl (by decide) rfl (fun ls hl => ?_)
  refine lv_iconst (v := 0) hx hb dX0_countWinning_11 (by decide) ?_
  refine lv_istore (lv' := [(4, .int 0), (3, .int 0), (0, .ref ad), (1, .ref b), (2, .int a1)]) hx hb dX0_countWinning_12 hl (by decide) rfl (fun ls hl => ?_)
  have hP : va_P g.1 vwCl [(ad, .inr (0, [.ref be, .ref rp, .ref rl])), (rp, .inr (1, [.ref rc, .int rk, .int rs])), (rc, .inl (g.2.1, 49, .inl rf)), (rl, .inr (3, [.ref rm, .int r_1.2])), (rm, .inl (g.2.1, 588, .inl r_1.1)), (b, .inr (1, [.ref ca, .int kk, .int sg])), (ca, .inl (g.2.1, 49, .inl f))] H := hP.sub [0, 1, 2, 5, 6, 3, 4] rfl
  have hD : va_D A [(ad, .inr (0, [.ref be, .ref rp, .ref rl])), (rp, .inr (1, [.ref rc, .int rk, .int rs])), (rc, .inl (g.2.1, 49, .inl rf)), (rl, .inr (3, [.ref rm, .int r_1.2])), (rm, .inl (g.2.1, 588, .inl r_1.1)), (b, .inr (1, [.ref ca, .int kk, .int sg])), (ca, .inl (g.2.1, 49, .inl f))] := hD.sub [0, 1, 2, 5, 6, 3, 4] (by decide) rfl
  refine lp_i (r := r) (fun z : Int32 × Int32 × (Nat → Int32) × Int32 × Int32 × (Nat → Int32) × Int32 => ∀ (H : Heap) (locs : List Loc) (ls : Array Slot), lv_has ls 6 [(0, .ref ad), (1, .ref b), (3, .int z.1), (4, .int z.2.1)] → va_P g.1 vwCl [(ad, .inr (0, [.ref be, .ref rp, .ref rl])), (rp, .inr (1, [.ref rc, .int z.2.2.2.1, .int z.2.2.2.2.1])), (rc, .inl (g.2.1, 49, .inl z.2.2.1)), (rl, .inr (3, [.ref rm, .int z.2.2.2.2.2.2])), (rm, .inl (g.2.1, 588, .inl z.2.2.2.2.2.1)), (b, .inr (1, [.ref ca, .int kk, .int sg])), (ca, .inl (g.2.1, 49, .inl f))] H → va_D A [(ad, .inr (0, [.ref be, .ref rp, .ref rl])), (rp, .inr (1, [.ref rc, .int z.2.2.2.1, .int z.2.2.2.2.1])), (rc, .inl (g.2.1, 49, .inl z.2.2.1)), (rl, .inr (3, [.ref rm, .int z.2.2.2.2.2.2])), (rm, .inl (g.2.1, 588, .inl z.2.2.2.2.2.1)), (b, .inr (1, [.ref ca, .int kk, .int sg])), (ca, .inl (g.2.1, 49, .inl f))] → va_S A s.heap H locs → W p l e R s m args below meth c H locs 0 0 Q (F0 m 14 ls [])) ?_ 600 (0, 0, rf, rk, rs, r_1.1, r_1.2) hyp _ _ ls (lv_sub hl [2, 3, 1, 0] rfl) hP hD hS
  intro self_9T ihself_9T z hyp H locs ls hl hP hD hS
  obtain ⟨v3_2, v4_3, wrf_4, wrk_5, wrs_6, wrmf_7, wrn_8⟩ := z
  obtain ⟨self_9, eself_9⟩ : ∃ f9 : Int32 → Int32 → (Nat → Int32) → Int32 → Int32 → (Nat → Int32) → Int32 → Option (Int32 × (Nat → Int32) × Int32 × Int32 × (Nat → Int32) × Int32), f9 = fun v3_2 v4_3 wrf_4 wrk_5 wrs_6 wrmf_7 wrn_8 => self_9T (v3_2, v4_3, wrf_4, wrk_5, wrs_6, wrmf_7, wrn_8) := ⟨_, rfl⟩
  have ihself_9 := fun (v3_2 : Int32) (v4_3 : Int32) (wrf_4 : Nat → Int32) (wrk_5 : Int32) (wrs_6 : Int32) (wrmf_7 : Nat → Int32) (wrn_8 : Int32) (h9 : self_9 v3_2 v4_3 wrf_4 wrk_5 wrs_6 wrmf_7 wrn_8 = some r) => ihself_9T (v3_2, v4_3, wrf_4, wrk_5, wrs_6, wrmf_7, wrn_8) (by rw [eself_9] at h9; exact h9)
  replace hyp : fX0_countWinning_L14_B kk sg f self_9 v3_2 v4_3 wrf_4 wrk_5 wrs_6 wrmf_7 wrn_8 = some r := by rw [eself_9]; exact hyp
  have hl : lv_has ls 6 [(0, .ref ad), (1, .ref b), (3, .int v3_2), (4, .int v4_3)] := hl
  have hP : va_P g.1 vwCl [(ad, .inr (0, [.ref be, .ref rp, .ref rl])), (rp, .inr (1, [.ref rc, .int wrk_5, .int wrs_6])), (rc, .inl (g.2.1, 49, .inl wrf_4)), (rl, .inr (3, [.ref rm, .int wrn_8])), (rm, .inl (g.2.1, 588, .inl wrmf_7)), (b, .inr (1, [.ref ca, .int kk, .int sg])), (ca, .inl (g.2.1, 49, .inl f))] H := hP
  have hD : va_D A [(ad, .inr (0, [.ref be, .ref rp, .ref rl])), (rp, .inr (1, [.ref rc, .int wrk_5, .int wrs_6])), (rc, .inl (g.2.1, 49, .inl wrf_4)), (rl, .inr (3, [.ref rm, .int wrn_8])), (rm, .inl (g.2.1, 588, .inl wrmf_7)), (b, .inr (1, [.ref ca, .int kk, .int sg])), (ca, .inl (g.2.1, 49, .inl f))] := hD
  show W p l e R s m args below meth c H locs 0 0 Q (F0 m 14 ls [])
  unfold fX0_countWinning_L14_B at hyp
  refine lv_iload hx hb dX0_countWinning_14 (lv_at hl 3 rfl) ?_
  refine lv_aload_n hx hb dX0_countWinning_16 rfl (lv_at hl 0 rfl) ?_
  refine gf_X0_24 hx hb hts hown hE hP 0 rfl rfl dX0_countWinning_17 ?_
  refine gf_X0_48 hx hb hts hown hE hP 3 rfl rfl dX0_countWinning_20 ?_
  refine lv_icmp_ge (tgt := 64) hx hb dX0_countWinning_23 (by decide) (fun h_10 => ?_) (fun h_10 => ?_)
  · replace hyp := ite_t h_10 hyp
    refine lv_iload_n hx hb dX0_countWinning_64 rfl (lv_at hl 2 rfl) ?_
    have hyp := some_e hyp
    subst hyp
    subst hQ
    exact rwI hx hb hr hlocks  hP hD hS dX0_countWinning_65
  · replace hyp := ite_f h_10 hyp
    refine lv_aload_n hx hb dX0_countWinning_26 rfl (lv_at hl 0 rfl) ?_
    refine gf_X0_24 hx hb hts hown hE hP 0 rfl rfl dX0_countWinning_27 ?_
    refine lv_iload hx hb dX0_countWinning_30 (lv_at hl 3 rfl) ?_
    obtain ⟨r_11, hr_11, hyp⟩ := opt_e hyp
    refine pV (As := [.int v4_3]) (rest := []) ⟨hx, hb, hml, hown, hts⟩ hE (mX3_codeAt l g rl rm wrn_8 wrmf_7 v4_3 r_11 hr_11) cf_X3_codeAt im_X3_codeAt se_X3_codeAt ml_X0_51 ⟨Nat.le_trans (Nat.le_of_ble_eq_true rfl) hRf, Nat.le_trans (Nat.le_of_ble_eq_true rfl) hRl⟩ (hP.sub (ws' := [(rl, .inr (3, [.ref rm, .int wrn_8])), (rm, .inl (g.2.1, 588, .inl wrmf_7))]) [3, 4] rfl) (ci := 3) (q0 := 0) rfl rfl rfl rfl hl.1 rfl (Nat.le_of_ble_eq_true rfl) dX0_countWinning_32 ⟨Nat.zero_le _, Nat.zero_le _⟩ ?_
    refine lv_istore (lv' := [(5, .int r_11), (0, .ref ad), (1, .ref b), (3, .int v3_2), (4, .int v4_3)]) hx hb dX0_countWinning_35 hl (by decide) rfl (fun ls hl => ?_)
    refine lv_aload_n hx hb dX0_countWinning_37 rfl (lv_at hl 1 rfl) ?_
    refine lv_aload_n hx hb dX0_countWinning_38 rfl (lv_at hl 2 rfl) ?_
    refine lv_iload hx hb dX0_countWinning_39 (lv_at hl 0 rfl) ?_
    refine lv_bipush (v := 49) hx hb dX0_countWinning_41 (by decide) ?_
    refine lv_idiv hx hb dX0_countWinning_43 (by decide) ?_
    refine lv_iload hx hb dX0_countWinning_44 (lv_at hl 0 rfl) ?_
    refine lv_bipush (v := 49) hx hb dX0_countWinning_46 (by decide) ?_
    refine lv_irem hx hb dX0_countWinning_48 (by decide) ?_
    obtain ⟨r_12, hr_12, hyp⟩ := opt_e hyp
    refine wV (As := [.ref b, .int (r_11 / 49), .int (r_11 - r_11 / 49 * 49)]) (rest := []) ⟨hx, hb, hml, hown, hts⟩ hE (mX0_isWinning l g ad rp rc b ca be rl wrk_5 wrs_6 wrf_4 kk sg f (r_11 / 49) (r_11 - r_11 / 49 * 49) r_12 hr_12) cf_X0_isWinning im_X0_isWinning se_X0_isWinning ml_X0_55 ⟨Nat.le_trans (Nat.le_of_ble_eq_true rfl) hRf, Nat.le_trans (Nat.le_of_ble_eq_true rfl) hRl⟩ hP hD hS hA [0, 1, 2, 5, 6] [3, 4] rfl (wr := [(rl, .inr (3, [.ref rm, .int wrn_8])), (rm, .inl (g.2.1, 588, .inl wrmf_7))]) rfl ⟨by decide, by decide⟩ (by decide) (ci := 0) (q0 := 0) rfl rfl rfl rfl hl.1 rfl (Nat.le_of_ble_eq_true rfl) dX0_countWinning_49 ⟨Nat.zero_le _, Nat.zero_le _⟩ (fun H locs hP hD hS => ?_)
    have hP : va_P g.1 vwCl [(rl, .inr (3, [.ref rm, .int wrn_8])), (rm, .inl (g.2.1, 588, .inl wrmf_7)), (ad, .inr (0, [.ref be, .ref rp, .ref rl])), (rp, .inr (1, [.ref rc, .int r_12.2.2.1, .int r_12.2.2.2])), (rc, .inl (g.2.1, 49, .inl r_12.2.1)), (b, .inr (1, [.ref ca, .int kk, .int sg])), (ca, .inl (g.2.1, 49, .inl f))] H := hP
    have hD : va_D A [(rl, .inr (3, [.ref rm, .int wrn_8])), (rm, .inl (g.2.1, 588, .inl wrmf_7)), (ad, .inr (0, [.ref be, .ref rp, .ref rl])), (rp, .inr (1, [.ref rc, .int r_12.2.2.1, .int r_12.2.2.2])), (rc, .inl (g.2.1, 49, .inl r_12.2.1)), (b, .inr (1, [.ref ca, .int kk, .int sg])), (ca, .inl (g.2.1, 49, .inl f))] := hD
    refine lv_if_eq (tgt := 58) hx hb dX0_countWinning_52 (by decide) (fun h_13 => ?_) (fun h_13 => ?_)
    · replace hyp := ite_t h_13 hyp
      refine lv_iinc (v := v4_3 + 1) (lv' := [(4, .int (v4_3 + 1)), (5, .int r_11), (0, .ref ad), (1, .ref b), (3, .int v3_2)]) hx hb dX0_countWinning_58 hl (k := 4) rfl rfl (by decide) rfl (fun ls hl => ?_)
      refine lv_goto (tgt := 14) hx hb dX0_countWinning_61 (by decide) ?_
      have hP : va_P g.1 vwCl [(ad, .inr (0, [.ref be, .ref rp, .ref rl])), (rp, .inr (1, [.ref rc, .int r_12.2.2.1, .int r_12.2.2.2])), (rc, .inl (g.2.1, 49, .inl r_12.2.1)), (rl, .inr (3, [.ref rm, .int wrn_8])), (rm, .inl (g.2.1, 588, .inl wrmf_7)), (b, .inr (1, [.ref ca, .int kk, .int sg])), (ca, .inl (g.2.1, 49, .inl f))] H := hP.sub [2, 3, 4, 0, 1, 5, 6] rfl
      have hD : va_D A [(ad, .inr (0, [.ref be, .ref rp, .ref rl])), (rp, .inr (1, [.ref rc, .int r_12.2.2.1, .int r_12.2.2.2])), (rc, .inl (g.2.1, 49, .inl r_12.2.1)), (rl, .inr (3, [.ref rm, .int wrn_8])), (rm, .inl (g.2.1, 588, .inl wrmf_7)), (b, .inr (1, [.ref ca, .int kk, .int sg])), (ca, .inl (g.2.1, 49, .inl f))] := hD.sub [2, 3, 4, 0, 1, 5, 6] (by decide) rfl
      exact ihself_9 v3_2 (v4_3 + 1) r_12.2.1 r_12.2.2.1 r_12.2.2.2 wrmf_7 wrn_8 hyp H locs ls (lv_sub hl [2, 3, 4, 0] rfl) hP hD hS
    · replace hyp := ite_f h_13 hyp
      refine lv_iinc (v := v3_2 + 1) (lv' := [(3, .int (v3_2 + 1)), (5, .int r_11), (0, .ref ad), (1, .ref b), (4, .int v4_3)]) hx hb dX0_countWinning_55 hl (k := 3) rfl rfl (by decide) rfl (fun ls hl => ?_)
      refine lv_iinc (v := v4_3 + 1) (lv' := [(4, .int (v4_3 + 1)), (3, .int (v3_2 + 1)), (5, .int r_11), (0, .ref ad), (1, .ref b)]) hx hb dX0_countWinning_58 hl (k := 4) rfl rfl (by decide) rfl (fun ls hl => ?_)
      refine lv_goto (tgt := 14) hx hb dX0_countWinning_61 (by decide) ?_
      have hP : va_P g.1 vwCl [(ad, .inr (0, [.ref be, .ref rp, .ref rl])), (rp, .inr (1, [.ref rc, .int r_12.2.2.1, .int r_12.2.2.2])), (rc, .inl (g.2.1, 49, .inl r_12.2.1)), (rl, .inr (3, [.ref rm, .int wrn_8])), (rm, .inl (g.2.1, 588, .inl wrmf_7)), (b, .inr (1, [.ref ca, .int kk, .int sg])), (ca, .inl (g.2.1, 49, .inl f))] H := hP.sub [2, 3, 4, 0, 1, 5, 6] rfl
      have hD : va_D A [(ad, .inr (0, [.ref be, .ref rp, .ref rl])), (rp, .inr (1, [.ref rc, .int r_12.2.2.1, .int r_12.2.2.2])), (rc, .inl (g.2.1, 49, .inl r_12.2.1)), (rl, .inr (3, [.ref rm, .int wrn_8])), (rm, .inl (g.2.1, 588, .inl wrmf_7)), (b, .inr (1, [.ref ca, .int kk, .int sg])), (ca, .inl (g.2.1, 49, .inl f))] := hD.sub [2, 3, 4, 0, 1, 5, 6] (by decide) rfl
      exact ihself_9 (v3_2 + 1) (v4_3 + 1) r_12.2.1 r_12.2.2.1 r_12.2.2.2 wrmf_7 wrn_8 hyp H locs ls (lv_sub hl [3, 4, 1, 0] rfl) hP hD hS

def fX0_worth (bf : Nat → Int32) (rk : Int32) (rs : Int32) (rf : Nat → Int32) (rn : Int32) (rmf : Nat → Int32) (kk : Int32) (sg : Int32) (f : Nat → Int32) (a1 : Int32) (a2 : Int32) : Option (Int32 × (Nat → Int32) × Int32 × Int32 × (Nat → Int32) × Int32 × Int32 × (Nat → Int32) × Int32) :=
  (fX1_at f a1).bind (fun (r_1 : Int32) => (fX8_sideOf r_1).bind (fun (r_2 : Int32) => (fX0_takes bf kk sg f a1 a2).bind (fun (r_3 : Int32 × (Nat → Int32) × Int32 × Int32) => jn (fun (t_4 : Int32) => (fX1_isWonBy r_3.2.2.1 r_3.2.1 a2 t_4).bind (fun (r_6 : Int32) => if r_6 = 0 then ((fX0_countWinning rk rs rf rmf r_3.2.2.1 r_3.2.2.2 r_3.2.1 (1 - r_2)).bind (fun (r_8 : Int32 × (Nat → Int32) × Int32 × Int32 × (Nat → Int32) × Int32) => some ((20 * r_3.1) - (100 * r_8.1), r_3.2.1, r_3.2.2.1, r_3.2.2.2, r_8.2.1, r_8.2.2.1, r_8.2.2.2.1, r_8.2.2.2.2.1, r_8.2.2.2.2.2))) else (some (1000, r_3.2.1, r_3.2.2.1, r_3.2.2.2, rf, rk, rs, rmf, rn)))) (fun J_5 => if kk < 0 then (J_5 0) else (J_5 1)))))
set_option maxRecDepth 100000 in
set_option maxHeartbeats 4000000 in
theorem mX0_worth (l : Launch) (g : GE) (ad be bc rp rc rl rm b ca : Nat) (bk : Int32) (bs : Int32) (bf : Nat → Int32) (rk : Int32) (rs : Int32) (rf : Nat → Int32) (rn : Int32) (rmf : Nat → Int32) (kk : Int32) (sg : Int32) (f : Nat → Int32) (a1 : Int32) (a2 : Int32) (r : Int32 × (Nat → Int32) × Int32 × Int32 × (Nat → Int32) × Int32 × Int32 × (Nat → Int32) × Int32) (hyp : fX0_worth bf rk rs rf rn rmf kk sg f a1 a2 = some r) : WM l yX0_worth cX0_worth 6 (some .int) 6 145 g [(ad, .inr (0, [.ref be, .ref rp, .ref rl])), (be, .inr (1, [.ref bc, .int bk, .int bs])), (bc, .inl (g.2.1, 49, .inl bf)), (rp, .inr (1, [.ref rc, .int rk, .int rs])), (rc, .inl (g.2.1, 49, .inl rf)), (rl, .inr (3, [.ref rm, .int rn])), (rm, .inl (g.2.1, 588, .inl rmf)), (b, .inr (1, [.ref ca, .int kk, .int sg])), (ca, .inl (g.2.1, 49, .inl f))] [.ref ad, .ref b, .int a1, .int a2] (some (.int r.1)) [(ad, .inr (0, [.ref be, .ref rp, .ref rl])), (be, .inr (1, [.ref bc, .int r.2.2.1, .int r.2.2.2.1])), (bc, .inl (g.2.1, 49, .inl r.2.1)), (rp, .inr (1, [.ref rc, .int r.2.2.2.2.2.1, .int r.2.2.2.2.2.2.1])), (rc, .inl (g.2.1, 49, .inl r.2.2.2.2.1)), (rl, .inr (3, [.ref rm, .int r.2.2.2.2.2.2.2.2])), (rm, .inl (g.2.1, 588, .inl r.2.2.2.2.2.2.2.1)), (b, .inr (1, [.ref ca, .int kk, .int sg])), (ca, .inl (g.2.1, 49, .inl f))] := by
  refine metW_intro (by decide) rfl ?_
  intro p e R s m args below meth c Q A hRf hRl hQ hx hb hml hr hlocks hown hts hin hE hA H locs hP hD hS ls hl
  have hown : s.vm.findClass "HallGuards$Advice" = some m.cls := hown
  have hl : lv_has ls 6 [(0, .ref ad), (1, .ref b), (2, .int a1), (3, .int a2)] := hl
  unfold fX0_worth at hyp
  refine lv_aload_n hx hb dX0_worth_0 rfl (lv_at hl 1 rfl) ?_
  refine lv_iload_n hx hb dX0_worth_1 rfl (lv_at hl 2 rfl) ?_
  obtain ⟨r_1, hr_1, hyp⟩ := opt_e hyp
  refine pV (As := [.int a1]) (rest := []) ⟨hx, hb, hml, hown, hts⟩ hE (mX1_at l g b ca kk sg f a1 r_1 hr_1) cf_X1_at im_X1_at se_X1_at ml_X0_59 ⟨Nat.le_trans (Nat.le_of_ble_eq_true rfl) hRf, Nat.le_trans (Nat.le_of_ble_eq_true rfl) hRl⟩ (hP.sub (ws' := [(b, .inr (1, [.ref ca, .int kk, .int sg])), (ca, .inl (g.2.1, 49, .inl f))]) [7, 8] rfl) (ci := 1) (q0 := 0) rfl rfl rfl rfl hl.1 rfl (Nat.le_of_ble_eq_true rfl) dX0_worth_2 ⟨Nat.zero_le _, Nat.zero_le _⟩ ?_
  obtain ⟨r_2, hr_2, hyp⟩ := opt_e hyp
  refine pSN (As := [.int r_1]) (rest := []) ⟨hx, hb, hml, hown, hts⟩ hE (mX8_sideOf l g r_1 r_2 hr_2) cf_X8_sideOf st_X8_sideOf ml_X0_62 ⟨Nat.le_trans (Nat.le_of_ble_eq_true rfl) hRf, Nat.le_trans (Nat.le_of_ble_eq_true rfl) hRl⟩ (va_P_nil) rfl hl.1 rfl (Nat.le_of_ble_eq_true rfl) dX0_worth_5 ⟨Nat.zero_le _, Nat.zero_le _⟩ ?_
  refine lv_istore (lv' := [(4, .int r_2), (0, .ref ad), (1, .ref b), (2, .int a1), (3, .int a2)]) hx hb dX0_worth_8 hl (by decide) rfl (fun ls hl => ?_)
  refine lv_aload_n hx hb dX0_worth_10 rfl (lv_at hl 1 rfl) ?_
  refine lv_aload_n hx hb dX0_worth_11 rfl (lv_at hl 2 rfl) ?_
  refine lv_iload_n hx hb dX0_worth_12 rfl (lv_at hl 3 rfl) ?_
  refine lv_iload_n hx hb dX0_worth_13 rfl (lv_at hl 4 rfl) ?_
  obtain ⟨r_3, hr_3, hyp⟩ := opt_e hyp
  refine wV (As := [.ref b, .int a1, .int a2]) (rest := []) ⟨hx, hb, hml, hown, hts⟩ hE (mX0_takes l g ad be bc b ca rp rl bk bs bf kk sg f a1 a2 r_3 hr_3) cf_X0_takes im_X0_takes se_X0_takes ml_X0_65 ⟨Nat.le_trans (Nat.le_of_ble_eq_true rfl) hRf, Nat.le_trans (Nat.le_of_ble_eq_true rfl) hRl⟩ hP hD hS hA [0, 1, 2, 7, 8] [3, 4, 5, 6] rfl (wr := [(rp, .inr (1, [.ref rc, .int rk, .int rs])), (rc, .inl (g.2.1, 49, .inl rf)), (rl, .inr (3, [.ref rm, .int rn])), (rm, .inl (g.2.1, 588, .inl rmf))]) rfl ⟨by decide, by decide⟩ (by decide) (ci := 0) (q0 := 0) rfl rfl rfl rfl hl.1 rfl (Nat.le_of_ble_eq_true rfl) dX0_worth_14 ⟨Nat.zero_le _, Nat.zero_le _⟩ (fun H locs hP hD hS => ?_)
  have hP : va_P g.1 vwCl [(rp, .inr (1, [.ref rc, .int rk, .int rs])), (rc, .inl (g.2.1, 49, .inl rf)), (rl, .inr (3, [.ref rm, .int rn])), (rm, .inl (g.2.1, 588, .inl rmf)), (ad, .inr (0, [.ref be, .ref rp, .ref rl])), (be, .inr (1, [.ref bc, .int r_3.2.2.1, .int r_3.2.2.2])), (bc, .inl (g.2.1, 49, .inl r_3.2.1)), (b, .inr (1, [.ref ca, .int kk, .int sg])), (ca, .inl (g.2.1, 49, .inl f))] H := hP
  have hD : va_D A [(rp, .inr (1, [.ref rc, .int rk, .int rs])), (rc, .inl (g.2.1, 49, .inl rf)), (rl, .inr (3, [.ref rm, .int rn])), (rm, .inl (g.2.1, 588, .inl rmf)), (ad, .inr (0, [.ref be, .ref rp, .ref rl])), (be, .inr (1, [.ref bc, .int r_3.2.2.1, .int r_3.2.2.2])), (bc, .inl (g.2.1, 49, .inl r_3.2.1)), (b, .inr (1, [.ref ca, .int kk, .int sg])), (ca, .inl (g.2.1, 49, .inl f))] := hD
  refine lv_istore (lv' := [(5, .int r_3.1), (4, .int r_2), (0, .ref ad), (1, .ref b), (2, .int a1), (3, .int a2)]) hx hb dX0_worth_17 hl (by decide) rfl (fun ls hl => ?_)
  refine lv_aload_n hx hb dX0_worth_19 rfl (lv_at hl 2 rfl) ?_
  refine gf_X0_12 hx hb hts hown hE hP 4 rfl rfl dX0_worth_20 ?_
  refine lv_iload_n hx hb dX0_worth_23 rfl (lv_at hl 5 rfl) ?_
  refine lv_aload_n hx hb dX0_worth_24 rfl (lv_at hl 3 rfl) ?_
  refine gf_X0_36 hx hb hts hown hE hP 7 rfl rfl dX0_worth_25 ?_
  have hP : va_P g.1 vwCl [(ad, .inr (0, [.ref be, .ref rp, .ref rl])), (be, .inr (1, [.ref bc, .int r_3.2.2.1, .int r_3.2.2.2])), (bc, .inl (g.2.1, 49, .inl r_3.2.1)), (rp, .inr (1, [.ref rc, .int rk, .int rs])), (rc, .inl (g.2.1, 49, .inl rf)), (rl, .inr (3, [.ref rm, .int rn])), (rm, .inl (g.2.1, 588, .inl rmf)), (b, .inr (1, [.ref ca, .int kk, .int sg])), (ca, .inl (g.2.1, 49, .inl f))] H := hP.sub [4, 5, 6, 0, 1, 2, 3, 7, 8] rfl
  have hD : va_D A [(ad, .inr (0, [.ref be, .ref rp, .ref rl])), (be, .inr (1, [.ref bc, .int r_3.2.2.1, .int r_3.2.2.2])), (bc, .inl (g.2.1, 49, .inl r_3.2.1)), (rp, .inr (1, [.ref rc, .int rk, .int rs])), (rc, .inl (g.2.1, 49, .inl rf)), (rl, .inr (3, [.ref rm, .int rn])), (rm, .inl (g.2.1, 588, .inl rmf)), (b, .inr (1, [.ref ca, .int kk, .int sg])), (ca, .inl (g.2.1, 49, .inl f))] := hD.sub [4, 5, 6, 0, 1, 2, 3, 7, 8] (by decide) rfl
  obtain ⟨J_5, eJ_5, hyp⟩ := jn_e hyp
  have kJ_5 : ∀ (t_4 : Int32) (H : Heap) (locs : List Loc) (ls : Array Slot), J_5 t_4 = some r → lv_has ls 6 [(0, .ref ad), (4, .int r_2), (5, .int r_3.1)] → va_P g.1 vwCl [(ad, .inr (0, [.ref be, .ref rp, .ref rl])), (be, .inr (1, [.ref bc, .int r_3.2.2.1, .int r_3.2.2.2])), (bc, .inl (g.2.1, 49, .inl r_3.2.1)), (rp, .inr (1, [.ref rc, .int rk, .int rs])), (rc, .inl (g.2.1, 49, .inl rf)), (rl, .inr (3, [.ref rm, .int rn])), (rm, .inl (g.2.1, 588, .inl rmf)), (b, .inr (1, [.ref ca, .int kk, .int sg])), (ca, .inl (g.2.1, 49, .inl f))] H → va_D A [(ad, .inr (0, [.ref be, .ref rp, .ref rl])), (be, .inr (1, [.ref bc, .int r_3.2.2.1, .int r_3.2.2.2])), (bc, .inl (g.2.1, 49, .inl r_3.2.1)), (rp, .inr (1, [.ref rc, .int rk, .int rs])), (rc, .inl (g.2.1, 49, .inl rf)), (rl, .inr (3, [.ref rm, .int rn])), (rm, .inl (g.2.1, 588, .inl rmf)), (b, .inr (1, [.ref ca, .int kk, .int sg])), (ca, .inl (g.2.1, 49, .inl f))] → va_S A s.heap H locs → W p l e R s m args below meth c H locs 0 0 Q (F0 m 36 ls [.int t_4, .int a2, .ref be]) := by
    intro t_4 H locs  ls hyp hl hP hD hS
    replace hyp := (congrFun (eJ_5) t_4).symm.trans hyp
    obtain ⟨r_6, hr_6, hyp⟩ := opt_e hyp
    refine pV (As := [.int a2, .int t_4]) (rest := []) ⟨hx, hb, hml, hown, hts⟩ hE (mX1_isWonBy l g be bc r_3.2.2.1 r_3.2.2.2 r_3.2.1 a2 t_4 r_6 hr_6) cf_X1_isWonBy im_X1_isWonBy se_X1_isWonBy ml_X0_40 ⟨Nat.le_trans (Nat.le_of_ble_eq_true rfl) hRf, Nat.le_trans (Nat.le_of_ble_eq_true rfl) hRl⟩ (hP.sub (ws' := [(be, .inr (1, [.ref bc, .int r_3.2.2.1, .int r_3.2.2.2])), (bc, .inl (g.2.1, 49, .inl r_3.2.1))]) [1, 2] rfl) (ci := 1) (q0 := 0) rfl rfl rfl rfl hl.1 rfl (Nat.le_of_ble_eq_true rfl) dX0_worth_36 ⟨Nat.zero_le _, Nat.zero_le _⟩ ?_
    refine lv_if_eq (tgt := 46) hx hb dX0_worth_39 (by decide) (fun h_7 => ?_) (fun h_7 => ?_)
    · replace hyp := ite_t h_7 hyp
      refine lv_bipush (v := 20) hx hb dX0_worth_46 (by decide) ?_
      refine lv_iload hx hb dX0_worth_48 (lv_at hl 2 rfl) ?_
      refine lv_imul hx hb dX0_worth_50 ?_
      refine lv_bipush (v := 100) hx hb dX0_worth_51 (by decide) ?_
      refine lv_aload_n hx hb dX0_worth_53 rfl (lv_at hl 0 rfl) ?_
      refine lv_aload_n hx hb dX0_worth_54 rfl (lv_at hl 0 rfl) ?_
      refine gf_X0_12 hx hb hts hown hE hP 0 rfl rfl dX0_worth_55 ?_
      refine lv_iconst (v := 1) hx hb dX0_worth_58 (by decide) ?_
      refine lv_iload hx hb dX0_worth_59 (lv_at hl 1 rfl) ?_
      refine lv_isub hx hb dX0_worth_61 ?_
      obtain ⟨r_8, hr_8, hyp⟩ := opt_e hyp
      refine wV (As := [.ref be, .int (1 - r_2)]) (rest := [.int 100, .int (20 * r_3.1)]) ⟨hx, hb, hml, hown, hts⟩ hE (mX0_countWinning l g ad rp rc rl rm be bc be rk rs rf rn rmf r_3.2.2.1 r_3.2.2.2 r_3.2.1 (1 - r_2) r_8 hr_8) cf_X0_countWinning im_X0_countWinning se_X0_countWinning ml_X0_69 ⟨Nat.le_trans (Nat.le_of_ble_eq_true rfl) hRf, Nat.le_trans (Nat.le_of_ble_eq_true rfl) hRl⟩ hP hD hS hA [0, 3, 4, 5, 6, 1, 2] [7, 8] rfl (wr := [(b, .inr (1, [.ref ca, .int kk, .int sg])), (ca, .inl (g.2.1, 49, .inl f))]) rfl ⟨by decide, by decide⟩ (by decide) (ci := 0) (q0 := 0) rfl rfl rfl rfl hl.1 rfl (Nat.le_of_ble_eq_true rfl) dX0_worth_62 ⟨Nat.zero_le _, Nat.zero_le _⟩ (fun H locs hP hD hS => ?_)
      have hP : va_P g.1 vwCl [(b, .inr (1, [.ref ca, .int kk, .int sg])), (ca, .inl (g.2.1, 49, .inl f)), (ad, .inr (0, [.ref be, .ref rp, .ref rl])), (rp, .inr (1, [.ref rc, .int r_8.2.2.1, .int r_8.2.2.2.1])), (rc, .inl (g.2.1, 49, .inl r_8.2.1)), (rl, .inr (3, [.ref rm, .int r_8.2.2.2.2.2])), (rm, .inl (g.2.1, 588, .inl r_8.2.2.2.2.1)), (be, .inr (1, [.ref bc, .int r_3.2.2.1, .int r_3.2.2.2])), (bc, .inl (g.2.1, 49, .inl r_3.2.1))] H := hP
      have hD : va_D A [(b, .inr (1, [.ref ca, .int kk, .int sg])), (ca, .inl (g.2.1, 49, .inl f)), (ad, .inr (0, [.ref be, .ref rp, .ref rl])), (rp, .inr (1, [.ref rc, .int r_8.2.2.1, .int r_8.2.2.2.1])), (rc, .inl (g.2.1, 49, .inl r_8.2.1)), (rl, .inr (3, [.ref rm, .int r_8.2.2.2.2.2])), (rm, .inl (g.2.1, 588, .inl r_8.2.2.2.2.1)), (be, .inr (1, [.ref bc, .int r_3.2.2.1, .int r_3.2.2.2])), (bc, .inl (g.2.1, 49, .inl r_3.2.1))] := hD
      refine lv_imul hx hb dX0_worth_65 ?_
      refine lv_isub hx hb dX0_worth_66 ?_
      have hP : va_P g.1 vwCl [(ad, .inr (0, [.ref be, .ref rp, .ref rl])), (be, .inr (1, [.ref bc, .int r_3.2.2.1, .int r_3.2.2.2])), (bc, .inl (g.2.1, 49, .inl r_3.2.1)), (rp, .inr (1, [.ref rc, .int r_8.2.2.1, .int r_8.2.2.2.1])), (rc, .inl (g.2.1, 49, .inl r_8.2.1)), (rl, .inr (3, [.ref rm, .int r_8.2.2.2.2.2])), (rm, .inl (g.2.1, 588, .inl r_8.2.2.2.2.1)), (b, .inr (1, [.ref ca, .int kk, .int sg])), (ca, .inl (g.2.1, 49, .inl f))] H := hP.sub [2, 7, 8, 3, 4, 5, 6, 0, 1] rfl
      have hD : va_D A [(ad, .inr (0, [.ref be, .ref rp, .ref rl])), (be, .inr (1, [.ref bc, .int r_3.2.2.1, .int r_3.2.2.2])), (bc, .inl (g.2.1, 49, .inl r_3.2.1)), (rp, .inr (1, [.ref rc, .int r_8.2.2.1, .int r_8.2.2.2.1])), (rc, .inl (g.2.1, 49, .inl r_8.2.1)), (rl, .inr (3, [.ref rm, .int r_8.2.2.2.2.2])), (rm, .inl (g.2.1, 588, .inl r_8.2.2.2.2.1)), (b, .inr (1, [.ref ca, .int kk, .int sg])), (ca, .inl (g.2.1, 49, .inl f))] := hD.sub [2, 7, 8, 3, 4, 5, 6, 0, 1] (by decide) rfl
      have hyp := some_e hyp
      subst hyp
      subst hQ
      exact rwI hx hb hr hlocks  hP hD hS dX0_worth_67
    · replace hyp := ite_f h_7 hyp
      refine lv_sipush (v := 1000) hx hb dX0_worth_42 (by decide) ?_
      have hyp := some_e hyp
      subst hyp
      subst hQ
      exact rwI hx hb hr hlocks  hP hD hS dX0_worth_45
  refine lv_if_lt (tgt := 35) hx hb dX0_worth_28 (by decide) (fun h_9 => ?_) (fun h_9 => ?_)
  · replace hyp := ite_t h_9 hyp
    refine lv_iconst (v := 0) hx hb dX0_worth_35 (by decide) ?_
    exact kJ_5 0 H locs ls hyp (lv_sub hl [2, 1, 0] rfl) hP hD hS
  · replace hyp := ite_f h_9 hyp
    refine lv_iconst (v := 1) hx hb dX0_worth_31 (by decide) ?_
    refine lv_goto (tgt := 36) hx hb dX0_worth_32 (by decide) ?_
    exact kJ_5 1 H locs ls hyp (lv_sub hl [2, 1, 0] rfl) hP hD hS

def fX2_lesser (a1 : Int32) (a2 : Int32) : Option Int32 :=
  if 0 ≤ a2 then (if 0 ≤ a1 then (some (if a2 < a1 then a2 else a1)) else (some a2)) else (some a1)
set_option maxRecDepth 100000 in
set_option maxHeartbeats 4000000 in
theorem mX2_lesser (l : Launch) (g : GE) (a1 : Int32) (a2 : Int32) (r : Int32) (hyp : fX2_lesser a1 a2 = some r) : PI l yX2_lesser cX2_lesser 2 (some .int) 1 40 g [] [.int a1, .int a2] r := by
  refine metP_intro (by decide) rfl ?_
  intro p e R s m args below meth c Q hRf hRl hQ hx hb hml hr hlocks hown hts hin hE hP ls hl
  have hown : s.vm.findClass "HallGuards$KingWay" = some m.cls := hown
  have hl : lv_has ls 2 [(0, .int a1), (1, .int a2)] := hl
  unfold fX2_lesser at hyp
  refine lv_iload_n hx hb dX2_lesser_0 rfl (lv_at hl 1 rfl) ?_
  refine lv_if_ge (tgt := 6) hx hb dX2_lesser_1 (by decide) (fun h_1 => ?_) (fun h_1 => ?_)
  · replace hyp := ite_t h_1 hyp
    refine lv_iload_n hx hb dX2_lesser_6 rfl (lv_at hl 0 rfl) ?_
    refine lv_if_ge (tgt := 14) hx hb dX2_lesser_7 (by decide) (fun h_2 => ?_) (fun h_2 => ?_)
    · replace hyp := ite_t h_2 hyp
      refine lv_iload_n hx hb dX2_lesser_14 rfl (lv_at hl 0 rfl) ?_
      refine lv_iload_n hx hb dX2_lesser_15 rfl (lv_at hl 1 rfl) ?_
      refine va_mmin hx hb (hml.trans hl.1.symm) hown (hts _ ml_X2_47) (hts _ st_mmin) (hts _ ini_Math) (hts _ co_mmin) (Nat.le_trans (Nat.le_of_ble_eq_true rfl) hRf) (Nat.le_trans (Nat.le_of_ble_eq_true rfl) hRl) (Nat.zero_le _) (Nat.zero_le _) dX2_lesser_16 ?_
      subst hQ
      exact rI hx hb hr hlocks (some_e hyp) dX2_lesser_19
    · replace hyp := ite_f h_2 hyp
      refine lv_iload_n hx hb dX2_lesser_10 rfl (lv_at hl 1 rfl) ?_
      refine lv_goto (tgt := 19) hx hb dX2_lesser_11 (by decide) ?_
      subst hQ
      exact rI hx hb hr hlocks (some_e hyp) dX2_lesser_19
  · replace hyp := ite_f h_1 hyp
    refine lv_iload_n hx hb dX2_lesser_4 rfl (lv_at hl 0 rfl) ?_
    subst hQ
    exact rI hx hb hr hlocks (some_e hyp) dX2_lesser_5

def fX2_roundOf (krf : Nat → Int32) (a1 : Int32) : Option Int32 :=
  if a1 < 0 then (some (-1)) else (if a1 < 49 then (grd (inB a1 49) (some (krf a1.toNatClampNeg))) else (some (-1)))
set_option maxRecDepth 100000 in
set_option maxHeartbeats 4000000 in
theorem mX2_roundOf (l : Launch) (g : GE) (kw kr kq : Nat) (kc : Int32) (krf : Nat → Int32) (a1 : Int32) (r : Int32) (hyp : fX2_roundOf krf a1 = some r) : PI l yX2_roundOf cX2_roundOf 2 (some .int) 0 0 g [(kw, .inr (2, [.ref kr, .ref kq, .int kc])), (kr, .inl (g.2.1, 49, .inl krf))] [.ref kw, .int a1] r := by
  refine metP_intro (by decide) rfl ?_
  intro p e R s m args below meth c Q hRf hRl hQ hx hb hml hr hlocks hown hts hin hE hP ls hl
  have hown : s.vm.findClass "HallGuards$KingWay" = some m.cls := hown
  have hl : lv_has ls 2 [(0, .ref kw), (1, .int a1)] := hl
  unfold fX2_roundOf at hyp
  refine lv_iload_n hx hb dX2_roundOf_0 rfl (lv_at hl 1 rfl) ?_
  refine lv_if_lt (tgt := 10) hx hb dX2_roundOf_1 (by decide) (fun h_1 => ?_) (fun h_1 => ?_)
  · replace hyp := ite_t h_1 hyp
    refine lv_iconst (v := (-1)) hx hb dX2_roundOf_10 (by decide) ?_
    refine lv_goto (tgt := 20) hx hb dX2_roundOf_11 (by decide) ?_
    subst hQ
    exact rI hx hb hr hlocks (some_e hyp) dX2_roundOf_20
  · replace hyp := ite_f h_1 hyp
    refine lv_iload_n hx hb dX2_roundOf_4 rfl (lv_at hl 1 rfl) ?_
    refine lv_bipush (v := 49) hx hb dX2_roundOf_5 (by decide) ?_
    refine lv_icmp_lt (tgt := 14) hx hb dX2_roundOf_7 (by decide) (fun h_2 => ?_) (fun h_2 => ?_)
    · replace hyp := ite_t h_2 hyp
      refine lv_aload_n hx hb dX2_roundOf_14 rfl (lv_at hl 0 rfl) ?_
      refine gf_X2_9 hx hb hts hown hE hP 0 rfl rfl dX2_roundOf_15 ?_
      refine lv_iload_n hx hb dX2_roundOf_18 rfl (lv_at hl 1 rfl) ?_
      obtain ⟨hi, hyp⟩ := grd_e hyp
      refine va_iald hx hb hE.1 hP 1 0 rfl rfl (inB_vp hi) dX2_roundOf_19 ?_
      subst hQ
      exact rI hx hb hr hlocks (some_e hyp) dX2_roundOf_20
    · replace hyp := ite_f h_2 hyp
      refine lv_iconst (v := (-1)) hx hb dX2_roundOf_10 (by decide) ?_
      refine lv_goto (tgt := 20) hx hb dX2_roundOf_11 (by decide) ?_
      subst hQ
      exact rI hx hb hr hlocks (some_e hyp) dX2_roundOf_20

def fX2_note (kc : Int32) (krf : Nat → Int32) (kqf : Nat → Int32) (a1 : Int32) (a2 : Int32) : Option ((Nat → Int32) × (Nat → Int32) × Int32) :=
  if a1 < 0 then (some (krf, kqf, kc)) else (if 49 ≤ a1 then (some (krf, kqf, kc)) else (if 49 ≤ kc then (some (krf, kqf, kc)) else (grd (inB a1 49) (grd (inB kc 49) (some (upd krf a1.toNatClampNeg a2, upd kqf kc.toNatClampNeg a1, kc + 1))))))
set_option maxRecDepth 100000 in
set_option maxHeartbeats 4000000 in
theorem mX2_note (l : Launch) (g : GE) (kw kr kq : Nat) (kc : Int32) (krf : Nat → Int32) (kqf : Nat → Int32) (a1 : Int32) (a2 : Int32) (r : (Nat → Int32) × (Nat → Int32) × Int32) (hyp : fX2_note kc krf kqf a1 a2 = some r) : WM l yX2_note cX2_note 3 none 0 0 g [(kw, .inr (2, [.ref kr, .ref kq, .int kc])), (kr, .inl (g.2.1, 49, .inl krf)), (kq, .inl (g.2.1, 49, .inl kqf))] [.ref kw, .int a1, .int a2] none [(kw, .inr (2, [.ref kr, .ref kq, .int r.2.2])), (kr, .inl (g.2.1, 49, .inl r.1)), (kq, .inl (g.2.1, 49, .inl r.2.1))] := by
  refine metW_intro (by decide) rfl ?_
  intro p e R s m args below meth c Q A hRf hRl hQ hx hb hml hr hlocks hown hts hin hE hA H locs hP hD hS ls hl
  have hown : s.vm.findClass "HallGuards$KingWay" = some m.cls := hown
  have hl : lv_has ls 3 [(0, .ref kw), (1, .int a1), (2, .int a2)] := hl
  unfold fX2_note at hyp
  refine lv_iload_n hx hb dX2_note_0 rfl (lv_at hl 1 rfl) ?_
  refine lv_if_lt (tgt := 46) hx hb dX2_note_1 (by decide) (fun h_1 => ?_) (fun h_1 => ?_)
  · replace hyp := ite_t h_1 hyp
    have hyp := some_e hyp
    subst hyp
    subst hQ
    exact rwV hx hb hr hlocks  hP hD hS dX2_note_46
  · replace hyp := ite_f h_1 hyp
    refine lv_iload_n hx hb dX2_note_4 rfl (lv_at hl 1 rfl) ?_
    refine lv_bipush (v := 49) hx hb dX2_note_5 (by decide) ?_
    refine lv_icmp_ge (tgt := 46) hx hb dX2_note_7 (by decide) (fun h_2 => ?_) (fun h_2 => ?_)
    · replace hyp := ite_t h_2 hyp
      have hyp := some_e hyp
      subst hyp
      subst hQ
      exact rwV hx hb hr hlocks  hP hD hS dX2_note_46
    · replace hyp := ite_f h_2 hyp
      refine lv_aload_n hx hb dX2_note_10 rfl (lv_at hl 0 rfl) ?_
      refine gf_X2_39 hx hb hts hown hE hP 0 rfl rfl dX2_note_11 ?_
      refine lv_bipush (v := 49) hx hb dX2_note_14 (by decide) ?_
      refine lv_icmp_ge (tgt := 46) hx hb dX2_note_16 (by decide) (fun h_3 => ?_) (fun h_3 => ?_)
      · replace hyp := ite_t h_3 hyp
        have hyp := some_e hyp
        subst hyp
        subst hQ
        exact rwV hx hb hr hlocks  hP hD hS dX2_note_46
      · replace hyp := ite_f h_3 hyp
        refine lv_aload_n hx hb dX2_note_19 rfl (lv_at hl 0 rfl) ?_
        refine gf_X2_9 hx hb hts hown hE hP 0 rfl rfl dX2_note_20 ?_
        refine lv_iload_n hx hb dX2_note_23 rfl (lv_at hl 1 rfl) ?_
        refine lv_iload_n hx hb dX2_note_24 rfl (lv_at hl 2 rfl) ?_
        obtain ⟨hi, hyp⟩ := grd_e hyp
        refine va_iast hx hb hE.1 hP hD hS 1 0 rfl rfl (inB_vp hi) dX2_note_25 (fun H locs hP hD hS => ?_)
        have hP : va_P g.1 vwCl [(kw, .inr (2, [.ref kr, .ref kq, .int kc])), (kr, .inl (g.2.1, 49, .inl (upd krf a1.toNatClampNeg a2))), (kq, .inl (g.2.1, 49, .inl kqf))] H := hP
        have hD : va_D A [(kw, .inr (2, [.ref kr, .ref kq, .int kc])), (kr, .inl (g.2.1, 49, .inl (upd krf a1.toNatClampNeg a2))), (kq, .inl (g.2.1, 49, .inl kqf))] := hD
        refine lv_aload_n hx hb dX2_note_26 rfl (lv_at hl 0 rfl) ?_
        refine gf_X2_15 hx hb hts hown hE hP 0 rfl rfl dX2_note_27 ?_
        refine lv_aload_n hx hb dX2_note_30 rfl (lv_at hl 0 rfl) ?_
        refine gf_X2_39 hx hb hts hown hE hP 0 rfl rfl dX2_note_31 ?_
        refine lv_iload_n hx hb dX2_note_34 rfl (lv_at hl 1 rfl) ?_
        obtain ⟨hi, hyp⟩ := grd_e hyp
        refine va_iast hx hb hE.1 hP hD hS 2 0 rfl rfl (inB_vp hi) dX2_note_35 (fun H locs hP hD hS => ?_)
        have hP : va_P g.1 vwCl [(kw, .inr (2, [.ref kr, .ref kq, .int kc])), (kr, .inl (g.2.1, 49, .inl (upd krf a1.toNatClampNeg a2))), (kq, .inl (g.2.1, 49, .inl (upd kqf kc.toNatClampNeg a1)))] H := hP
        have hD : va_D A [(kw, .inr (2, [.ref kr, .ref kq, .int kc])), (kr, .inl (g.2.1, 49, .inl (upd krf a1.toNatClampNeg a2))), (kq, .inl (g.2.1, 49, .inl (upd kqf kc.toNatClampNeg a1)))] := hD
        refine lv_aload_n hx hb dX2_note_36 rfl (lv_at hl 0 rfl) ?_
        refine lv_dup hx hb dX2_note_37 rfl ?_
        refine gf_X2_39 hx hb hts hown hE hP 0 rfl rfl dX2_note_38 ?_
        refine lv_iconst (v := 1) hx hb dX2_note_41 (by decide) ?_
        refine lv_iadd hx hb dX2_note_42 ?_
        refine pf_X2_39 hx hb hts hown hE hP hD hS 0 rfl rfl dX2_note_43 (fun H locs hP hD hS => ?_)
        have hP : va_P g.1 vwCl [(kw, .inr (2, [.ref kr, .ref kq, .int (kc + 1)])), (kr, .inl (g.2.1, 49, .inl (upd krf a1.toNatClampNeg a2))), (kq, .inl (g.2.1, 49, .inl (upd kqf kc.toNatClampNeg a1)))] H := hP
        have hD : va_D A [(kw, .inr (2, [.ref kr, .ref kq, .int (kc + 1)])), (kr, .inl (g.2.1, 49, .inl (upd krf a1.toNatClampNeg a2))), (kq, .inl (g.2.1, 49, .inl (upd kqf kc.toNatClampNeg a1)))] := hD
        have hyp := some_e hyp
        subst hyp
        subst hQ
        exact rwV hx hb hr hlocks  hP hD hS dX2_note_46

def fX2_isFree (kk : Int32) (f : Nat → Int32) (a1 : Int32) : Option Int32 :=
  if a1 < 0 then (some 0) else (if a1 = kk then (some 1) else ((fX1_at f a1).bind (fun (r_3 : Int32) => if r_3 = 0 then (some 1) else (some 0))))
set_option maxRecDepth 100000 in
set_option maxHeartbeats 4000000 in
theorem mX2_isFree (l : Launch) (g : GE) (b ca : Nat) (kk : Int32) (sg : Int32) (f : Nat → Int32) (a1 : Int32) (r : Int32) (hyp : fX2_isFree kk f a1 = some r) : PI l yX2_isFree cX2_isFree 2 (some .boolean) 1 21 g [(b, .inr (1, [.ref ca, .int kk, .int sg])), (ca, .inl (g.2.1, 49, .inl f))] [.ref b, .int a1] r := by
  refine metP_intro (by decide) rfl ?_
  intro p e R s m args below meth c Q hRf hRl hQ hx hb hml hr hlocks hown hts hin hE hP ls hl
  have hown : s.vm.findClass "HallGuards$KingWay" = some m.cls := hown
  have hl : lv_has ls 2 [(0, .ref b), (1, .int a1)] := hl
  unfold fX2_isFree at hyp
  refine lv_iload_n hx hb dX2_isFree_0 rfl (lv_at hl 1 rfl) ?_
  refine lv_if_lt (tgt := 24) hx hb dX2_isFree_1 (by decide) (fun h_1 => ?_) (fun h_1 => ?_)
  · replace hyp := ite_t h_1 hyp
    refine lv_iconst (v := 0) hx hb dX2_isFree_24 (by decide) ?_
    subst hQ
    exact rZ hx hb hr hlocks (Or.inl rfl) (some_e hyp) dX2_isFree_25
  · replace hyp := ite_f h_1 hyp
    refine lv_iload_n hx hb dX2_isFree_4 rfl (lv_at hl 1 rfl) ?_
    refine lv_aload_n hx hb dX2_isFree_5 rfl (lv_at hl 0 rfl) ?_
    refine gf_X2_18 hx hb hts hown hE hP 0 rfl rfl dX2_isFree_6 ?_
    refine lv_icmp_eq (tgt := 20) hx hb dX2_isFree_9 (by decide) (fun h_2 => ?_) (fun h_2 => ?_)
    · replace hyp := ite_t h_2 hyp
      refine lv_iconst (v := 1) hx hb dX2_isFree_20 (by decide) ?_
      refine lv_goto (tgt := 25) hx hb dX2_isFree_21 (by decide) ?_
      subst hQ
      exact rZ hx hb hr hlocks (Or.inr rfl) (some_e hyp) dX2_isFree_25
    · replace hyp := ite_f h_2 hyp
      refine lv_aload_n hx hb dX2_isFree_12 rfl (lv_at hl 0 rfl) ?_
      refine lv_iload_n hx hb dX2_isFree_13 rfl (lv_at hl 1 rfl) ?_
      obtain ⟨r_3, hr_3, hyp⟩ := opt_e hyp
      refine pV (As := [.int a1]) (rest := []) ⟨hx, hb, hml, hown, hts⟩ hE (mX1_at l g b ca kk sg f a1 r_3 hr_3) cf_X1_at im_X1_at se_X1_at ml_X2_71 ⟨Nat.le_trans (Nat.le_of_ble_eq_true rfl) hRf, Nat.le_trans (Nat.le_of_ble_eq_true rfl) hRl⟩ (hP.sub (ws' := [(b, .inr (1, [.ref ca, .int kk, .int sg])), (ca, .inl (g.2.1, 49, .inl f))]) [0, 1] rfl) (ci := 1) (q0 := 0) rfl rfl rfl rfl hl.1 rfl (Nat.le_of_ble_eq_true rfl) dX2_isFree_14 ⟨Nat.zero_le _, Nat.zero_le _⟩ ?_
      refine lv_if_ne (tgt := 24) hx hb dX2_isFree_17 (by decide) (fun h_4 => ?_) (fun h_4 => ?_)
      · replace hyp := ite_f h_4 hyp
        refine lv_iconst (v := 0) hx hb dX2_isFree_24 (by decide) ?_
        subst hQ
        exact rZ hx hb hr hlocks (Or.inl rfl) (some_e hyp) dX2_isFree_25
      · replace hyp := ite_t h_4 hyp
        refine lv_iconst (v := 1) hx hb dX2_isFree_20 (by decide) ?_
        refine lv_goto (tgt := 25) hx hb dX2_isFree_21 (by decide) ?_
        subst hQ
        exact rZ hx hb hr hlocks (Or.inr rfl) (some_e hyp) dX2_isFree_25

def fX2_spreadFrom_L19_B (kk : Int32) (f : Nat → Int32) (a2 : Int32) (r_1 : Int32) (self_8 : Int32 → Int32 → (Nat → Int32) → (Nat → Int32) → Int32 → Option ((Nat → Int32) × (Nat → Int32) × Int32)) (v5_3 : Int32) (v6_4 : Int32) (wkrf_5 : Nat → Int32) (wkqf_6 : Nat → Int32) (wkc_7 : Int32) : Option ((Nat → Int32) × (Nat → Int32) × Int32) :=
  if 7 ≤ v6_4 then (some (wkrf_5, wkqf_6, wkc_7)) else ((fX2_isFree kk f v5_3).bind (fun (r_10 : Int32) => if r_10 = 0 then (some (wkrf_5, wkqf_6, wkc_7)) else ((fX2_roundOf wkrf_5 v5_3).bind (fun (r_12 : Int32) => jn (fun (wkrf_13 : Nat → Int32) (wkqf_14 : Nat → Int32) (wkc_15 : Int32) => (fX8_beside v5_3 a2).bind (fun (r_17 : Int32) => self_8 r_17 (v6_4 + 1) wkrf_13 wkqf_14 wkc_15)) (fun J_16 => if 0 ≤ r_12 then (J_16 wkrf_5 wkqf_6 wkc_7) else ((fX2_note wkc_7 wkrf_5 wkqf_6 v5_3 (r_1 + 1)).bind (fun (r_19 : (Nat → Int32) × (Nat → Int32) × Int32) => J_16 r_19.1 r_19.2.1 r_19.2.2)))))))
def fX2_spreadFrom_L19 (kk : Int32) (f : Nat → Int32) (a2 : Int32) (r_1 : Int32) (n : Nat) (v5_3 : Int32) (v6_4 : Int32) (wkrf_5 : Nat → Int32) (wkqf_6 : Nat → Int32) (wkc_7 : Int32) : Option ((Nat → Int32) × (Nat → Int32) × Int32) := lp (fun zf z => fX2_spreadFrom_L19_B kk f a2 r_1 (fun v5_3 v6_4 wkrf_5 wkqf_6 wkc_7 => zf (v5_3, v6_4, wkrf_5, wkqf_6, wkc_7)) z.1 z.2.1 z.2.2.1 z.2.2.2.1 z.2.2.2.2) n (v5_3, v6_4, wkrf_5, wkqf_6, wkc_7)
def fX2_spreadFrom (kc : Int32) (krf : Nat → Int32) (kqf : Nat → Int32) (kk : Int32) (f : Nat → Int32) (a1 : Int32) (a2 : Int32) : Option ((Nat → Int32) × (Nat → Int32) × Int32) :=
  (fX2_roundOf krf a1).bind (fun (r_1 : Int32) => (fX8_beside a1 a2).bind (fun (r_2 : Int32) => fX2_spreadFrom_L19 kk f a2 r_1 64 r_2 1 krf kqf kc))
set_option maxRecDepth 100000 in
set_option maxHeartbeats 4000000 in
theorem mX2_spreadFrom (l : Launch) (g : GE) (kw kr kq b ca : Nat) (kc : Int32) (krf : Nat → Int32) (kqf : Nat → Int32) (kk : Int32) (sg : Int32) (f : Nat → Int32) (a1 : Int32) (a2 : Int32) (r : (Nat → Int32) × (Nat → Int32) × Int32) (hyp : fX2_spreadFrom kc krf kqf kk f a1 a2 = some r) : WM l yX2_spreadFrom cX2_spreadFrom 7 none 2 42 g [(kw, .inr (2, [.ref kr, .ref kq, .int kc])), (kr, .inl (g.2.1, 49, .inl krf)), (kq, .inl (g.2.1, 49, .inl kqf)), (b, .inr (1, [.ref ca, .int kk, .int sg])), (ca, .inl (g.2.1, 49, .inl f))] [.ref kw, .ref b, .int a1, .int a2] none [(kw, .inr (2, [.ref kr, .ref kq, .int r.2.2])), (kr, .inl (g.2.1, 49, .inl r.1)), (kq, .inl (g.2.1, 49, .inl r.2.1)), (b, .inr (1, [.ref ca, .int kk, .int sg])), (ca, .inl (g.2.1, 49, .inl f))] := by
  refine metW_intro (by decide) rfl ?_
  intro p e R s m args below meth c Q A hRf hRl hQ hx hb hml hr hlocks hown hts hin hE hA H locs hP hD hS ls hl
  have hown : s.vm.findClass "HallGuards$KingWay" = some m.cls := hown
  have hl : lv_has ls 7 [(0, .ref kw), (1, .ref b), (2, .int a1), (3, .int a2)] := hl
  unfold fX2_spreadFrom at hyp
  refine lv_aload_n hx hb dX2_spreadFrom_0 rfl (lv_at hl 0 rfl) ?_
  refine lv_iload_n hx hb dX2_spreadFrom_1 rfl (lv_at hl 2 rfl) ?_
  obtain ⟨r_1, hr_1, hyp⟩ := opt_e hyp
  refine pV (As := [.int a1]) (rest := []) ⟨hx, hb, hml, hown, hts⟩ hE (mX2_roundOf l g kw kr kq kc krf a1 r_1 hr_1) cf_X2_roundOf im_X2_roundOf se_X2_roundOf ml_X2_31 ⟨Nat.le_trans (Nat.le_of_ble_eq_true rfl) hRf, Nat.le_trans (Nat.le_of_ble_eq_true rfl) hRl⟩ (hP.sub (ws' := [(kw, .inr (2, [.ref kr, .ref kq, .int kc])), (kr, .inl (g.2.1, 49, .inl krf))]) [0, 1] rfl) (ci := 2) (q0 := 0) rfl rfl rfl rfl hl.1 rfl (Nat.le_of_ble_eq_true rfl) dX2_spreadFrom_2 ⟨Nat.zero_le _, Nat.zero_le _⟩ ?_
  refine lv_iconst (v := 1) hx hb dX2_spreadFrom_5 (by decide) ?_
  refine lv_iadd hx hb dX2_spreadFrom_6 ?_
  refine lv_istore (lv' := [(4, .int (r_1 + 1)), (0, .ref kw), (1, .ref b), (2, .int a1), (3, .int a2)]) hx hb dX2_spreadFrom_7 hl (by decide) rfl (fun ls hl => ?_)
  refine lv_iload_n hx hb dX2_spreadFrom_9 rfl (lv_at hl 3 rfl) ?_
  refine lv_iload_n hx hb dX2_spreadFrom_10 rfl (lv_at hl 4 rfl) ?_
  obtain ⟨r_2, hr_2, hyp⟩ := opt_e hyp
  refine pSN (As := [.int a1, .int a2]) (rest := []) ⟨hx, hb, hml, hown, hts⟩ hE (mX8_beside l g a1 a2 r_2 hr_2) cf_X8_beside st_X8_beside ml_X2_64 ⟨Nat.le_trans (Nat.le_of_ble_eq_true rfl) hRf, Nat.le_trans (Nat.le_of_ble_eq_true rfl) hRl⟩ (va_P_nil) rfl hl.1 rfl (Nat.le_of_ble_eq_true rfl) dX2_spreadFrom_11 ⟨Nat.zero_le _, Nat.zero_le _⟩ ?_
  refine lv_istore (lv' := [(5, .int r_2), (4, .int (r_1 + 1)), (0, .ref kw), (1, .ref b), (2, .int a1), (3, .int a2)]) hx hb dX2_spreadFrom_14 hl (by decide) rfl (fun ls hl => ?_)
  refine lv_iconst (v := 1) hx hb dX2_spreadFrom_16 (by decide) ?_
  refine lv_istore (lv' := [(6, .int 1), (5, .int r_2), (4, .int (r_1 + 1)), (0, .ref kw), (1, .ref b), (2, .int a1), (3, .int a2)]) hx hb dX2_spreadFrom_17 hl (by decide) rfl (fun ls hl => ?_)
  refine lp_i (r := r) (fun z : Int32 × Int32 × (Nat → Int32) × (Nat → Int32) × Int32 => ∀ (H : Heap) (locs : List Loc) (ls : Array Slot), lv_has ls 7 [(0, .ref kw), (1, .ref b), (3, .int a2), (4, .int (r_1 + 1)), (5, .int z.1), (6, .int z.2.1)] → va_P g.1 vwCl [(kw, .inr (2, [.ref kr, .ref kq, .int z.2.2.2.2])), (kr, .inl (g.2.1, 49, .inl z.2.2.1)), (kq, .inl (g.2.1, 49, .inl z.2.2.2.1)), (b, .inr (1, [.ref ca, .int kk, .int sg])), (ca, .inl (g.2.1, 49, .inl f))] H → va_D A [(kw, .inr (2, [.ref kr, .ref kq, .int z.2.2.2.2])), (kr, .inl (g.2.1, 49, .inl z.2.2.1)), (kq, .inl (g.2.1, 49, .inl z.2.2.2.1)), (b, .inr (1, [.ref ca, .int kk, .int sg])), (ca, .inl (g.2.1, 49, .inl f))] → va_S A s.heap H locs → W p l e R s m args below meth c H locs 0 0 Q (F0 m 19 ls [])) ?_ 64 (r_2, 1, krf, kqf, kc) hyp _ _ ls (lv_sub hl [3, 4, 6, 2, 1, 0] rfl) hP hD hS
  intro self_8T ihself_8T z hyp H locs ls hl hP hD hS
  obtain ⟨v5_3, v6_4, wkrf_5, wkqf_6, wkc_7⟩ := z
  obtain ⟨self_8, eself_8⟩ : ∃ f9 : Int32 → Int32 → (Nat → Int32) → (Nat → Int32) → Int32 → Option ((Nat → Int32) × (Nat → Int32) × Int32), f9 = fun v5_3 v6_4 wkrf_5 wkqf_6 wkc_7 => self_8T (v5_3, v6_4, wkrf_5, wkqf_6, wkc_7) := ⟨_, rfl⟩
  have ihself_8 := fun (v5_3 : Int32) (v6_4 : Int32) (wkrf_5 : Nat → Int32) (wkqf_6 : Nat → Int32) (wkc_7 : Int32) (h9 : self_8 v5_3 v6_4 wkrf_5 wkqf_6 wkc_7 = some r) => ihself_8T (v5_3, v6_4, wkrf_5, wkqf_6, wkc_7) (by rw [eself_8] at h9; exact h9)
  replace hyp : fX2_spreadFrom_L19_B kk f a2 r_1 self_8 v5_3 v6_4 wkrf_5 wkqf_6 wkc_7 = some r := by rw [eself_8]; exact hyp
  have hl : lv_has ls 7 [(0, .ref kw), (1, .ref b), (3, .int a2), (4, .int (r_1 + 1)), (5, .int v5_3), (6, .int v6_4)] := hl
  have hP : va_P g.1 vwCl [(kw, .inr (2, [.ref kr, .ref kq, .int wkc_7])), (kr, .inl (g.2.1, 49, .inl wkrf_5)), (kq, .inl (g.2.1, 49, .inl wkqf_6)), (b, .inr (1, [.ref ca, .int kk, .int sg])), (ca, .inl (g.2.1, 49, .inl f))] H := hP
  have hD : va_D A [(kw, .inr (2, [.ref kr, .ref kq, .int wkc_7])), (kr, .inl (g.2.1, 49, .inl wkrf_5)), (kq, .inl (g.2.1, 49, .inl wkqf_6)), (b, .inr (1, [.ref ca, .int kk, .int sg])), (ca, .inl (g.2.1, 49, .inl f))] := hD
  show W p l e R s m args below meth c H locs 0 0 Q (F0 m 19 ls [])
  unfold fX2_spreadFrom_L19_B at hyp
  refine lv_iload hx hb dX2_spreadFrom_19 (lv_at hl 5 rfl) ?_
  refine lv_bipush (v := 7) hx hb dX2_spreadFrom_21 (by decide) ?_
  refine lv_icmp_ge (tgt := 66) hx hb dX2_spreadFrom_23 (by decide) (fun h_9 => ?_) (fun h_9 => ?_)
  · replace hyp := ite_t h_9 hyp
    have hyp := some_e hyp
    subst hyp
    subst hQ
    exact rwV hx hb hr hlocks  hP hD hS dX2_spreadFrom_66
  · replace hyp := ite_f h_9 hyp
    refine lv_aload_n hx hb dX2_spreadFrom_26 rfl (lv_at hl 1 rfl) ?_
    refine lv_iload hx hb dX2_spreadFrom_27 (lv_at hl 4 rfl) ?_
    obtain ⟨r_10, hr_10, hyp⟩ := opt_e hyp
    refine pS (As := [.ref b, .int v5_3]) (rest := []) ⟨hx, hb, hml, hown, hts⟩ hE (mX2_isFree l g b ca kk sg f v5_3 r_10 hr_10) cf_X2_isFree st_X2_isFree ml_X2_67 ⟨Nat.le_trans (Nat.le_of_ble_eq_true rfl) hRf, Nat.le_trans (Nat.le_of_ble_eq_true rfl) hRl⟩ (hP.sub (ws' := [(b, .inr (1, [.ref ca, .int kk, .int sg])), (ca, .inl (g.2.1, 49, .inl f))]) [3, 4] rfl) rfl hl.1 rfl (Nat.le_of_ble_eq_true rfl) dX2_spreadFrom_29 ⟨Nat.zero_le _, Nat.zero_le _⟩ ?_
    refine lv_if_eq (tgt := 66) hx hb dX2_spreadFrom_32 (by decide) (fun h_11 => ?_) (fun h_11 => ?_)
    · replace hyp := ite_t h_11 hyp
      have hyp := some_e hyp
      subst hyp
      subst hQ
      exact rwV hx hb hr hlocks  hP hD hS dX2_spreadFrom_66
    · replace hyp := ite_f h_11 hyp
      refine lv_aload_n hx hb dX2_spreadFrom_35 rfl (lv_at hl 0 rfl) ?_
      refine lv_iload hx hb dX2_spreadFrom_36 (lv_at hl 4 rfl) ?_
      obtain ⟨r_12, hr_12, hyp⟩ := opt_e hyp
      refine pV (As := [.int v5_3]) (rest := []) ⟨hx, hb, hml, hown, hts⟩ hE (mX2_roundOf l g kw kr kq wkc_7 wkrf_5 v5_3 r_12 hr_12) cf_X2_roundOf im_X2_roundOf se_X2_roundOf ml_X2_31 ⟨Nat.le_trans (Nat.le_of_ble_eq_true rfl) hRf, Nat.le_trans (Nat.le_of_ble_eq_true rfl) hRl⟩ (hP.sub (ws' := [(kw, .inr (2, [.ref kr, .ref kq, .int wkc_7])), (kr, .inl (g.2.1, 49, .inl wkrf_5))]) [0, 1] rfl) (ci := 2) (q0 := 0) rfl rfl rfl rfl hl.1 rfl (Nat.le_of_ble_eq_true rfl) dX2_spreadFrom_38 ⟨Nat.zero_le _, Nat.zero_le _⟩ ?_
      obtain ⟨J_16, eJ_16, hyp⟩ := jn_e hyp
      have kJ_16 : ∀ (wkrf_13 : Nat → Int32) (wkqf_14 : Nat → Int32) (wkc_15 : Int32) (H : Heap) (locs : List Loc) (ls : Array Slot), J_16 wkrf_13 wkqf_14 wkc_15 = some r → lv_has ls 7 [(0, .ref kw), (1, .ref b), (3, .int a2), (4, .int (r_1 + 1)), (5, .int v5_3), (6, .int v6_4)] → va_P g.1 vwCl [(kw, .inr (2, [.ref kr, .ref kq, .int wkc_15])), (kr, .inl (g.2.1, 49, .inl wkrf_13)), (kq, .inl (g.2.1, 49, .inl wkqf_14)), (b, .inr (1, [.ref ca, .int kk, .int sg])), (ca, .inl (g.2.1, 49, .inl f))] H → va_D A [(kw, .inr (2, [.ref kr, .ref kq, .int wkc_15])), (kr, .inl (g.2.1, 49, .inl wkrf_13)), (kq, .inl (g.2.1, 49, .inl wkqf_14)), (b, .inr (1, [.ref ca, .int kk, .int sg])), (ca, .inl (g.2.1, 49, .inl f))] → va_S A s.heap H locs → W p l e R s m args below meth c H locs 0 0 Q (F0 m 52 ls []) := by
        intro wkrf_13 wkqf_14 wkc_15 H locs  ls hyp hl hP hD hS
        replace hyp := (congrFun (congrFun (congrFun (eJ_16) wkrf_13) wkqf_14) wkc_15).symm.trans hyp
        refine lv_iload hx hb dX2_spreadFrom_52 (lv_at hl 4 rfl) ?_
        refine lv_iload_n hx hb dX2_spreadFrom_54 rfl (lv_at hl 2 rfl) ?_
        obtain ⟨r_17, hr_17, hyp⟩ := opt_e hyp
        refine pSN (As := [.int v5_3, .int a2]) (rest := []) ⟨hx, hb, hml, hown, hts⟩ hE (mX8_beside l g v5_3 a2 r_17 hr_17) cf_X8_beside st_X8_beside ml_X2_64 ⟨Nat.le_trans (Nat.le_of_ble_eq_true rfl) hRf, Nat.le_trans (Nat.le_of_ble_eq_true rfl) hRl⟩ (va_P_nil) rfl hl.1 rfl (Nat.le_of_ble_eq_true rfl) dX2_spreadFrom_55 ⟨Nat.zero_le _, Nat.zero_le _⟩ ?_
        refine lv_istore (lv' := [(5, .int r_17), (0, .ref kw), (1, .ref b), (3, .int a2), (4, .int (r_1 + 1)), (6, .int v6_4)]) hx hb dX2_spreadFrom_58 hl (by decide) rfl (fun ls hl => ?_)
        refine lv_iinc (v := v6_4 + 1) (lv' := [(6, .int (v6_4 + 1)), (5, .int r_17), (0, .ref kw), (1, .ref b), (3, .int a2), (4, .int (r_1 + 1))]) hx hb dX2_spreadFrom_60 hl (k := 5) rfl rfl (by decide) rfl (fun ls hl => ?_)
        refine lv_goto (tgt := 19) hx hb dX2_spreadFrom_63 (by decide) ?_
        exact ihself_8 r_17 (v6_4 + 1) wkrf_13 wkqf_14 wkc_15 hyp H locs ls (lv_sub hl [2, 3, 4, 5, 1, 0] rfl) hP hD hS
      refine lv_if_ge (tgt := 52) hx hb dX2_spreadFrom_41 (by decide) (fun h_18 => ?_) (fun h_18 => ?_)
      · replace hyp := ite_t h_18 hyp
        exact kJ_16 wkrf_5 wkqf_6 wkc_7 H locs ls hyp hl hP hD hS
      · replace hyp := ite_f h_18 hyp
        refine lv_aload_n hx hb dX2_spreadFrom_44 rfl (lv_at hl 0 rfl) ?_
        refine lv_iload hx hb dX2_spreadFrom_45 (lv_at hl 4 rfl) ?_
        refine lv_iload hx hb dX2_spreadFrom_47 (lv_at hl 3 rfl) ?_
        obtain ⟨r_19, hr_19, hyp⟩ := opt_e hyp
        refine wV (As := [.int v5_3, .int (r_1 + 1)]) (rest := []) ⟨hx, hb, hml, hown, hts⟩ hE (mX2_note l g kw kr kq wkc_7 wkrf_5 wkqf_6 v5_3 (r_1 + 1) r_19 hr_19) cf_X2_note im_X2_note se_X2_note ml_X2_56 ⟨Nat.le_trans (Nat.le_of_ble_eq_true rfl) hRf, Nat.le_trans (Nat.le_of_ble_eq_true rfl) hRl⟩ hP hD hS hA [0, 1, 2] [3, 4] rfl (wr := [(b, .inr (1, [.ref ca, .int kk, .int sg])), (ca, .inl (g.2.1, 49, .inl f))]) rfl ⟨by decide, by decide⟩ (by decide) (ci := 2) (q0 := 0) rfl rfl rfl rfl hl.1 rfl (Nat.le_of_ble_eq_true rfl) dX2_spreadFrom_49 ⟨Nat.zero_le _, Nat.zero_le _⟩ (fun H locs hP hD hS => ?_)
        have hP : va_P g.1 vwCl [(b, .inr (1, [.ref ca, .int kk, .int sg])), (ca, .inl (g.2.1, 49, .inl f)), (kw, .inr (2, [.ref kr, .ref kq, .int r_19.2.2])), (kr, .inl (g.2.1, 49, .inl r_19.1)), (kq, .inl (g.2.1, 49, .inl r_19.2.1))] H := hP
        have hD : va_D A [(b, .inr (1, [.ref ca, .int kk, .int sg])), (ca, .inl (g.2.1, 49, .inl f)), (kw, .inr (2, [.ref kr, .ref kq, .int r_19.2.2])), (kr, .inl (g.2.1, 49, .inl r_19.1)), (kq, .inl (g.2.1, 49, .inl r_19.2.1))] := hD
        have hP : va_P g.1 vwCl [(kw, .inr (2, [.ref kr, .ref kq, .int r_19.2.2])), (kr, .inl (g.2.1, 49, .inl r_19.1)), (kq, .inl (g.2.1, 49, .inl r_19.2.1)), (b, .inr (1, [.ref ca, .int kk, .int sg])), (ca, .inl (g.2.1, 49, .inl f))] H := hP.sub [2, 3, 4, 0, 1] rfl
        have hD : va_D A [(kw, .inr (2, [.ref kr, .ref kq, .int r_19.2.2])), (kr, .inl (g.2.1, 49, .inl r_19.1)), (kq, .inl (g.2.1, 49, .inl r_19.2.1)), (b, .inr (1, [.ref ca, .int kk, .int sg])), (ca, .inl (g.2.1, 49, .inl f))] := hD.sub [2, 3, 4, 0, 1] (by decide) rfl
        exact kJ_16 r_19.1 r_19.2.1 r_19.2.2 H locs ls hyp hl hP hD hS

def fX2_spread_L43_B (kk : Int32) (f : Nat → Int32) (self_8 : Int32 → (Nat → Int32) → (Nat → Int32) → Int32 → Option ((Nat → Int32) × (Nat → Int32) × Int32)) (v3_4 : Int32) (self_15 : Int32 → (Nat → Int32) → (Nat → Int32) → Int32 → Option ((Nat → Int32) × (Nat → Int32) × Int32)) (v4_11 : Int32) (wkrf_12 : Nat → Int32) (wkqf_13 : Nat → Int32) (wkc_14 : Int32) : Option ((Nat → Int32) × (Nat → Int32) × Int32) :=
  if 4 ≤ v4_11 then (self_8 (v3_4 + 1) wkrf_12 wkqf_13 wkc_14) else (grd (inB v3_4 49) ((fX2_spreadFrom wkc_14 wkrf_12 wkqf_13 kk f (wkqf_13 v3_4.toNatClampNeg) v4_11).bind (fun (r_17 : (Nat → Int32) × (Nat → Int32) × Int32) => self_15 (v4_11 + 1) r_17.1 r_17.2.1 r_17.2.2)))
def fX2_spread_L43 (kk : Int32) (f : Nat → Int32) (self_8 : Int32 → (Nat → Int32) → (Nat → Int32) → Int32 → Option ((Nat → Int32) × (Nat → Int32) × Int32)) (v3_4 : Int32) (n : Nat) (v4_11 : Int32) (wkrf_12 : Nat → Int32) (wkqf_13 : Nat → Int32) (wkc_14 : Int32) : Option ((Nat → Int32) × (Nat → Int32) × Int32) := lp (fun zf z => fX2_spread_L43_B kk f self_8 v3_4 (fun v4_11 wkrf_12 wkqf_13 wkc_14 => zf (v4_11, wkrf_12, wkqf_13, wkc_14)) z.1 z.2.1 z.2.2.1 z.2.2.2) n (v4_11, wkrf_12, wkqf_13, wkc_14)
def fX2_spread_L26_B (kk : Int32) (f : Nat → Int32) (self_8 : Int32 → (Nat → Int32) → (Nat → Int32) → Int32 → Option ((Nat → Int32) × (Nat → Int32) × Int32)) (v3_4 : Int32) (wkrf_5 : Nat → Int32) (wkqf_6 : Nat → Int32) (wkc_7 : Int32) : Option ((Nat → Int32) × (Nat → Int32) × Int32) :=
  if 49 ≤ v3_4 then (some (wkrf_5, wkqf_6, wkc_7)) else (if wkc_7 ≤ v3_4 then (some (wkrf_5, wkqf_6, wkc_7)) else (fX2_spread_L43 kk f self_8 v3_4 64 0 wkrf_5 wkqf_6 wkc_7))
def fX2_spread_L26 (kk : Int32) (f : Nat → Int32) (n : Nat) (v3_4 : Int32) (wkrf_5 : Nat → Int32) (wkqf_6 : Nat → Int32) (wkc_7 : Int32) : Option ((Nat → Int32) × (Nat → Int32) × Int32) := lp (fun zf z => fX2_spread_L26_B kk f (fun v3_4 wkrf_5 wkqf_6 wkc_7 => zf (v3_4, wkrf_5, wkqf_6, wkc_7)) z.1 z.2.1 z.2.2.1 z.2.2.2) n (v3_4, wkrf_5, wkqf_6, wkc_7)
def fX2_spread (krf : Nat → Int32) (kqf : Nat → Int32) (kk : Int32) (f : Nat → Int32) (a1 : Int32) : Option ((Nat → Int32) × (Nat → Int32) × Int32) :=
  (fJ7_fill_53178 krf (-1)).bind (fun (r_1 : (Nat → Int32)) => if 0 ≤ a1 then ((fX2_note 0 r_1 kqf a1 0).bind (fun (r_3 : (Nat → Int32) × (Nat → Int32) × Int32) => fX2_spread_L26 kk f 64 0 r_3.1 r_3.2.1 r_3.2.2)) else (some (r_1, kqf, 0)))
set_option maxRecDepth 100000 in
set_option maxHeartbeats 4000000 in
theorem mX2_spread (l : Launch) (g : GE) (kw kr kq b ca : Nat) (kc : Int32) (krf : Nat → Int32) (kqf : Nat → Int32) (kk : Int32) (sg : Int32) (f : Nat → Int32) (a1 : Int32) (r : (Nat → Int32) × (Nat → Int32) × Int32) (hyp : fX2_spread krf kqf kk f a1 = some r) : WM l yX2_spread cX2_spread 5 none 3 68 g [(kw, .inr (2, [.ref kr, .ref kq, .int kc])), (kr, .inl (g.2.1, 49, .inl krf)), (kq, .inl (g.2.1, 49, .inl kqf)), (b, .inr (1, [.ref ca, .int kk, .int sg])), (ca, .inl (g.2.1, 49, .inl f))] [.ref kw, .ref b, .int a1] none [(kw, .inr (2, [.ref kr, .ref kq, .int r.2.2])), (kr, .inl (g.2.1, 49, .inl r.1)), (kq, .inl (g.2.1, 49, .inl r.2.1)), (b, .inr (1, [.ref ca, .int kk, .int sg])), (ca, .inl (g.2.1, 49, .inl f))] := by
  refine metW_intro (by decide) rfl ?_
  intro p e R s m args below meth c Q A hRf hRl hQ hx hb hml hr hlocks hown hts hin hE hA H locs hP hD hS ls hl
  have hown : s.vm.findClass "HallGuards$KingWay" = some m.cls := hown
  have hl : lv_has ls 5 [(0, .ref kw), (1, .ref b), (2, .int a1)] := hl
  unfold fX2_spread at hyp
  refine lv_aload_n hx hb dX2_spread_0 rfl (lv_at hl 0 rfl) ?_
  refine gf_X2_9 hx hb hts hown hE hP 0 rfl rfl dX2_spread_1 ?_
  refine lv_iconst (v := (-1)) hx hb dX2_spread_4 (by decide) ?_
  obtain ⟨r_1, hr_1, hyp⟩ := opt_e hyp
  refine wS (As := [.ref kr, .int (-1)]) (rest := []) ⟨hx, hb, hml, hown, hts⟩ hE (mJ7_fill_53178 l g kr krf (-1) r_1 hr_1) cf_J7_fill_53178 st_J7_fill_53178 ml_X2_50 ⟨Nat.le_trans (Nat.le_of_ble_eq_true rfl) hRf, Nat.le_trans (Nat.le_of_ble_eq_true rfl) hRl⟩ hP hD hS hA [1] [0, 2, 3, 4] rfl (wr := [(kw, .inr (2, [.ref kr, .ref kq, .int kc])), (kq, .inl (g.2.1, 49, .inl kqf)), (b, .inr (1, [.ref ca, .int kk, .int sg])), (ca, .inl (g.2.1, 49, .inl f))]) rfl ⟨by decide, by decide⟩ (by decide) rfl hl.1 rfl (Nat.le_of_ble_eq_true rfl) dX2_spread_5 ⟨Nat.zero_le _, Nat.zero_le _⟩ (fun H locs hP hD hS => ?_)
  have hP : va_P g.1 vwCl [(kw, .inr (2, [.ref kr, .ref kq, .int kc])), (kq, .inl (g.2.1, 49, .inl kqf)), (b, .inr (1, [.ref ca, .int kk, .int sg])), (ca, .inl (g.2.1, 49, .inl f)), (kr, .inl (g.2.1, 49, .inl r_1))] H := hP
  have hD : va_D A [(kw, .inr (2, [.ref kr, .ref kq, .int kc])), (kq, .inl (g.2.1, 49, .inl kqf)), (b, .inr (1, [.ref ca, .int kk, .int sg])), (ca, .inl (g.2.1, 49, .inl f)), (kr, .inl (g.2.1, 49, .inl r_1))] := hD
  refine lv_aload_n hx hb dX2_spread_8 rfl (lv_at hl 0 rfl) ?_
  refine lv_iconst (v := 0) hx hb dX2_spread_9 (by decide) ?_
  refine pf_X2_39 hx hb hts hown hE hP hD hS 0 rfl rfl dX2_spread_10 (fun H locs hP hD hS => ?_)
  have hP : va_P g.1 vwCl [(kw, .inr (2, [.ref kr, .ref kq, .int 0])), (kq, .inl (g.2.1, 49, .inl kqf)), (b, .inr (1, [.ref ca, .int kk, .int sg])), (ca, .inl (g.2.1, 49, .inl f)), (kr, .inl (g.2.1, 49, .inl r_1))] H := hP
  have hD : va_D A [(kw, .inr (2, [.ref kr, .ref kq, .int 0])), (kq, .inl (g.2.1, 49, .inl kqf)), (b, .inr (1, [.ref ca, .int kk, .int sg])), (ca, .inl (g.2.1, 49, .inl f)), (kr, .inl (g.2.1, 49, .inl r_1))] := hD
  refine lv_iload_n hx hb dX2_spread_13 rfl (lv_at hl 2 rfl) ?_
  refine lv_if_ge (tgt := 18) hx hb dX2_spread_14 (by decide) (fun h_2 => ?_) (fun h_2 => ?_)
  · replace hyp := ite_t h_2 hyp
    refine lv_aload_n hx hb dX2_spread_18 rfl (lv_at hl 0 rfl) ?_
    refine lv_iload_n hx hb dX2_spread_19 rfl (lv_at hl 2 rfl) ?_
    refine lv_iconst (v := 0) hx hb dX2_spread_20 (by decide) ?_
    obtain ⟨r_3, hr_3, hyp⟩ := opt_e hyp
    refine wV (As := [.int a1, .int 0]) (rest := []) ⟨hx, hb, hml, hown, hts⟩ hE (mX2_note l g kw kr kq 0 r_1 kqf a1 0 r_3 hr_3) cf_X2_note im_X2_note se_X2_note ml_X2_56 ⟨Nat.le_trans (Nat.le_of_ble_eq_true rfl) hRf, Nat.le_trans (Nat.le_of_ble_eq_true rfl) hRl⟩ hP hD hS hA [0, 4, 1] [2, 3] rfl (wr := [(b, .inr (1, [.ref ca, .int kk, .int sg])), (ca, .inl (g.2.1, 49, .inl f))]) rfl ⟨by decide, by decide⟩ (by decide) (ci := 2) (q0 := 0) rfl rfl rfl rfl hl.1 rfl (Nat.le_of_ble_eq_true rfl) dX2_spread_21 ⟨Nat.zero_le _, Nat.zero_le _⟩ (fun H locs hP hD hS => ?_)
    have hP : va_P g.1 vwCl [(b, .inr (1, [.ref ca, .int kk, .int sg])), (ca, .inl (g.2.1, 49, .inl f)), (kw, .inr (2, [.ref kr, .ref kq, .int r_3.2.2])), (kr, .inl (g.2.1, 49, .inl r_3.1)), (kq, .inl (g.2.1, 49, .inl r_3.2.1))] H := hP
    have hD : va_D A [(b, .inr (1, [.ref ca, .int kk, .int sg])), (ca, .inl (g.2.1, 49, .inl f)), (kw, .inr (2, [.ref kr, .ref kq, .int r_3.2.2])), (kr, .inl (g.2.1, 49, .inl r_3.1)), (kq, .inl (g.2.1, 49, .inl r_3.2.1))] := hD
    refine lv_iconst (v := 0) hx hb dX2_spread_24 (by decide) ?_
    refine lv_istore_n (lv' := [(3, .int 0), (0, .ref kw), (1, .ref b), (2, .int a1)]) hx hb dX2_spread_25 rfl hl (by decide) rfl (fun ls hl => ?_)
    have hP : va_P g.1 vwCl [(kw, .inr (2, [.ref kr, .ref kq, .int r_3.2.2])), (kr, .inl (g.2.1, 49, .inl r_3.1)), (kq, .inl (g.2.1, 49, .inl r_3.2.1)), (b, .inr (1, [.ref ca, .int kk, .int sg])), (ca, .inl (g.2.1, 49, .inl f))] H := hP.sub [2, 3, 4, 0, 1] rfl
    have hD : va_D A [(kw, .inr (2, [.ref kr, .ref kq, .int r_3.2.2])), (kr, .inl (g.2.1, 49, .inl r_3.1)), (kq, .inl (g.2.1, 49, .inl r_3.2.1)), (b, .inr (1, [.ref ca, .int kk, .int sg])), (ca, .inl (g.2.1, 49, .inl f))] := hD.sub [2, 3, 4, 0, 1] (by decide) rfl
    refine lp_i (r := r) (fun z : Int32 × (Nat → Int32) × (Nat → Int32) × Int32 => ∀ (H : Heap) (locs : List Loc) (ls : Array Slot), lv_has ls 5 [(0, .ref kw), (1, .ref b), (3, .int z.1)] → va_P g.1 vwCl [(kw, .inr (2, [.ref kr, .ref kq, .int z.2.2.2])), (kr, .inl (g.2.1, 49, .inl z.2.1)), (kq, .inl (g.2.1, 49, .inl z.2.2.1)), (b, .inr (1, [.ref ca, .int kk, .int sg])), (ca, .inl (g.2.1, 49, .inl f))] H → va_D A [(kw, .inr (2, [.ref kr, .ref kq, .int z.2.2.2])), (kr, .inl (g.2.1, 49, .inl z.2.1)), (kq, .inl (g.2.1, 49, .inl z.2.2.1)), (b, .inr (1, [.ref ca, .int kk, .int sg])), (ca, .inl (g.2.1, 49, .inl f))] → va_S A s.heap H locs → W p l e R s m args below meth c H locs 0 0 Q (F0 m 26 ls [])) ?_ 64 (0, r_3.1, r_3.2.1, r_3.2.2) hyp _ _ ls (lv_sub hl [1, 2, 0] rfl) hP hD hS
    intro self_8T ihself_8T z hyp H locs ls hl hP hD hS
    obtain ⟨v3_4, wkrf_5, wkqf_6, wkc_7⟩ := z
    obtain ⟨self_8, eself_8⟩ : ∃ f9 : Int32 → (Nat → Int32) → (Nat → Int32) → Int32 → Option ((Nat → Int32) × (Nat → Int32) × Int32), f9 = fun v3_4 wkrf_5 wkqf_6 wkc_7 => self_8T (v3_4, wkrf_5, wkqf_6, wkc_7) := ⟨_, rfl⟩
    have ihself_8 := fun (v3_4 : Int32) (wkrf_5 : Nat → Int32) (wkqf_6 : Nat → Int32) (wkc_7 : Int32) (h9 : self_8 v3_4 wkrf_5 wkqf_6 wkc_7 = some r) => ihself_8T (v3_4, wkrf_5, wkqf_6, wkc_7) (by rw [eself_8] at h9; exact h9)
    replace hyp : fX2_spread_L26_B kk f self_8 v3_4 wkrf_5 wkqf_6 wkc_7 = some r := by rw [eself_8]; exact hyp
    have hl : lv_has ls 5 [(0, .ref kw), (1, .ref b), (3, .int v3_4)] := hl
    have hP : va_P g.1 vwCl [(kw, .inr (2, [.ref kr, .ref kq, .int wkc_7])), (kr, .inl (g.2.1, 49, .inl wkrf_5)), (kq, .inl (g.2.1, 49, .inl wkqf_6)), (b, .inr (1, [.ref ca, .int kk, .int sg])), (ca, .inl (g.2.1, 49, .inl f))] H := hP
    have hD : va_D A [(kw, .inr (2, [.ref kr, .ref kq, .int wkc_7])), (kr, .inl (g.2.1, 49, .inl wkrf_5)), (kq, .inl (g.2.1, 49, .inl wkqf_6)), (b, .inr (1, [.ref ca, .int kk, .int sg])), (ca, .inl (g.2.1, 49, .inl f))] := hD
    show W p l e R s m args below meth c H locs 0 0 Q (F0 m 26 ls [])
    unfold fX2_spread_L26_B at hyp
    refine lv_iload_n hx hb dX2_spread_26 rfl (lv_at hl 2 rfl) ?_
    refine lv_bipush (v := 49) hx hb dX2_spread_27 (by decide) ?_
    refine lv_icmp_ge (tgt := 74) hx hb dX2_spread_29 (by decide) (fun h_9 => ?_) (fun h_9 => ?_)
    · replace hyp := ite_t h_9 hyp
      have hyp := some_e hyp
      subst hyp
      subst hQ
      exact rwV hx hb hr hlocks  hP hD hS dX2_spread_74
    · replace hyp := ite_f h_9 hyp
      refine lv_iload_n hx hb dX2_spread_32 rfl (lv_at hl 2 rfl) ?_
      refine lv_aload_n hx hb dX2_spread_33 rfl (lv_at hl 0 rfl) ?_
      refine gf_X2_39 hx hb hts hown hE hP 0 rfl rfl dX2_spread_34 ?_
      refine lv_icmp_ge (tgt := 74) hx hb dX2_spread_37 (by decide) (fun h_10 => ?_) (fun h_10 => ?_)
      · replace hyp := ite_t h_10 hyp
        have hyp := some_e hyp
        subst hyp
        subst hQ
        exact rwV hx hb hr hlocks  hP hD hS dX2_spread_74
      · replace hyp := ite_f h_10 hyp
        refine lv_iconst (v := 0) hx hb dX2_spread_40 (by decide) ?_
        refine lv_istore (lv' := [(4, .int 0), (0, .ref kw), (1, .ref b), (3, .int v3_4)]) hx hb dX2_spread_41 hl (by decide) rfl (fun ls hl => ?_)
        refine lp_i (r := r) (fun z : Int32 × (Nat → Int32) × (Nat → Int32) × Int32 => ∀ (H : Heap) (locs : List Loc) (ls : Array Slot), lv_has ls 5 [(0, .ref kw), (1, .ref b), (3, .int v3_4), (4, .int z.1)] → va_P g.1 vwCl [(kw, .inr (2, [.ref kr, .ref kq, .int z.2.2.2])), (kr, .inl (g.2.1, 49, .inl z.2.1)), (kq, .inl (g.2.1, 49, .inl z.2.2.1)), (b, .inr (1, [.ref ca, .int kk, .int sg])), (ca, .inl (g.2.1, 49, .inl f))] H → va_D A [(kw, .inr (2, [.ref kr, .ref kq, .int z.2.2.2])), (kr, .inl (g.2.1, 49, .inl z.2.1)), (kq, .inl (g.2.1, 49, .inl z.2.2.1)), (b, .inr (1, [.ref ca, .int kk, .int sg])), (ca, .inl (g.2.1, 49, .inl f))] → va_S A s.heap H locs → W p l e R s m args below meth c H locs 0 0 Q (F0 m 43 ls [])) ?_ 64 (0, wkrf_5, wkqf_6, wkc_7) hyp _ _ ls (lv_sub hl [1, 2, 3, 0] rfl) hP hD hS
        intro self_15T ihself_15T z hyp H locs ls hl hP hD hS
        obtain ⟨v4_11, wkrf_12, wkqf_13, wkc_14⟩ := z
        obtain ⟨self_15, eself_15⟩ : ∃ f9 : Int32 → (Nat → Int32) → (Nat → Int32) → Int32 → Option ((Nat → Int32) × (Nat → Int32) × Int32), f9 = fun v4_11 wkrf_12 wkqf_13 wkc_14 => self_15T (v4_11, wkrf_12, wkqf_13, wkc_14) := ⟨_, rfl⟩
        have ihself_15 := fun (v4_11 : Int32) (wkrf_12 : Nat → Int32) (wkqf_13 : Nat → Int32) (wkc_14 : Int32) (h9 : self_15 v4_11 wkrf_12 wkqf_13 wkc_14 = some r) => ihself_15T (v4_11, wkrf_12, wkqf_13, wkc_14) (by rw [eself_15] at h9; exact h9)
        replace hyp : fX2_spread_L43_B kk f self_8 v3_4 self_15 v4_11 wkrf_12 wkqf_13 wkc_14 = some r := by rw [eself_15]; exact hyp
        have hl : lv_has ls 5 [(0, .ref kw), (1, .ref b), (3, .int v3_4), (4, .int v4_11)] := hl
        have hP : va_P g.1 vwCl [(kw, .inr (2, [.ref kr, .ref kq, .int wkc_14])), (kr, .inl (g.2.1, 49, .inl wkrf_12)), (kq, .inl (g.2.1, 49, .inl wkqf_13)), (b, .inr (1, [.ref ca, .int kk, .int sg])), (ca, .inl (g.2.1, 49, .inl f))] H := hP
        have hD : va_D A [(kw, .inr (2, [.ref kr, .ref kq, .int wkc_14])), (kr, .inl (g.2.1, 49, .inl wkrf_12)), (kq, .inl (g.2.1, 49, .inl wkqf_13)), (b, .inr (1, [.ref ca, .int kk, .int sg])), (ca, .inl (g.2.1, 49, .inl f))] := hD
        show W p l e R s m args below meth c H locs 0 0 Q (F0 m 43 ls [])
        unfold fX2_spread_L43_B at hyp
        refine lv_iload hx hb dX2_spread_43 (lv_at hl 3 rfl) ?_
        refine lv_iconst (v := 4) hx hb dX2_spread_45 (by decide) ?_
        refine lv_icmp_ge (tgt := 68) hx hb dX2_spread_46 (by decide) (fun h_16 => ?_) (fun h_16 => ?_)
        · replace hyp := ite_t h_16 hyp
          refine lv_iinc (v := v3_4 + 1) (lv' := [(3, .int (v3_4 + 1)), (0, .ref kw), (1, .ref b), (4, .int v4_11)]) hx hb dX2_spread_68 hl (k := 2) rfl rfl (by decide) rfl (fun ls hl => ?_)
          refine lv_goto (tgt := 26) hx hb dX2_spread_71 (by decide) ?_
          exact ihself_8 (v3_4 + 1) wkrf_12 wkqf_13 wkc_14 hyp H locs ls (lv_sub hl [1, 2, 0] rfl) hP hD hS
        · replace hyp := ite_f h_16 hyp
          refine lv_aload_n hx hb dX2_spread_49 rfl (lv_at hl 0 rfl) ?_
          refine lv_aload_n hx hb dX2_spread_50 rfl (lv_at hl 1 rfl) ?_
          refine lv_aload_n hx hb dX2_spread_51 rfl (lv_at hl 0 rfl) ?_
          refine gf_X2_15 hx hb hts hown hE hP 0 rfl rfl dX2_spread_52 ?_
          refine lv_iload_n hx hb dX2_spread_55 rfl (lv_at hl 2 rfl) ?_
          obtain ⟨hi, hyp⟩ := grd_e hyp
          refine va_iald hx hb hE.1 hP 2 0 rfl rfl (inB_vp hi) dX2_spread_56 ?_
          refine lv_iload hx hb dX2_spread_57 (lv_at hl 3 rfl) ?_
          obtain ⟨r_17, hr_17, hyp⟩ := opt_e hyp
          refine wV (As := [.ref b, .int (wkqf_13 v3_4.toNatClampNeg), .int v4_11]) (rest := []) ⟨hx, hb, hml, hown, hts⟩ hE (mX2_spreadFrom l g kw kr kq b ca wkc_14 wkrf_12 wkqf_13 kk sg f (wkqf_13 v3_4.toNatClampNeg) v4_11 r_17 hr_17) cf_X2_spreadFrom im_X2_spreadFrom se_X2_spreadFrom ml_X2_60 ⟨Nat.le_trans (Nat.le_of_ble_eq_true rfl) hRf, Nat.le_trans (Nat.le_of_ble_eq_true rfl) hRl⟩ hP hD hS hA [0, 1, 2, 3, 4] [] rfl (wr := []) rfl ⟨by decide, by decide⟩ (by decide) (ci := 2) (q0 := 0) rfl rfl rfl rfl hl.1 rfl (Nat.le_of_ble_eq_true rfl) dX2_spread_59 ⟨Nat.zero_le _, Nat.zero_le _⟩ (fun H locs hP hD hS => ?_)
          have hP : va_P g.1 vwCl [(kw, .inr (2, [.ref kr, .ref kq, .int r_17.2.2])), (kr, .inl (g.2.1, 49, .inl r_17.1)), (kq, .inl (g.2.1, 49, .inl r_17.2.1)), (b, .inr (1, [.ref ca, .int kk, .int sg])), (ca, .inl (g.2.1, 49, .inl f))] H := hP
          have hD : va_D A [(kw, .inr (2, [.ref kr, .ref kq, .int r_17.2.2])), (kr, .inl (g.2.1, 49, .inl r_17.1)), (kq, .inl (g.2.1, 49, .inl r_17.2.1)), (b, .inr (1, [.ref ca, .int kk, .int sg])), (ca, .inl (g.2.1, 49, .inl f))] := hD
          refine lv_iinc (v := v4_11 + 1) (lv' := [(4, .int (v4_11 + 1)), (0, .ref kw), (1, .ref b), (3, .int v3_4)]) hx hb dX2_spread_62 hl (k := 3) rfl rfl (by decide) rfl (fun ls hl => ?_)
          refine lv_goto (tgt := 43) hx hb dX2_spread_65 (by decide) ?_
          exact ihself_15 (v4_11 + 1) r_17.1 r_17.2.1 r_17.2.2 hyp H locs ls (lv_sub hl [1, 2, 3, 0] rfl) hP hD hS
  · replace hyp := ite_f h_2 hyp
    have hP : va_P g.1 vwCl [(kw, .inr (2, [.ref kr, .ref kq, .int 0])), (kr, .inl (g.2.1, 49, .inl r_1)), (kq, .inl (g.2.1, 49, .inl kqf)), (b, .inr (1, [.ref ca, .int kk, .int sg])), (ca, .inl (g.2.1, 49, .inl f))] H := hP.sub [0, 4, 1, 2, 3] rfl
    have hD : va_D A [(kw, .inr (2, [.ref kr, .ref kq, .int 0])), (kr, .inl (g.2.1, 49, .inl r_1)), (kq, .inl (g.2.1, 49, .inl kqf)), (b, .inr (1, [.ref ca, .int kk, .int sg])), (ca, .inl (g.2.1, 49, .inl f))] := hD.sub [0, 4, 1, 2, 3] (by decide) rfl
    have hyp := some_e hyp
    subst hyp
    subst hQ
    exact rwV hx hb hr hlocks  hP hD hS dX2_spread_17

def fX2_byRounds_L22_B (r_1 : (Nat → Int32) × (Nat → Int32) × Int32) (self_4 : Int32 → Int32 → Option (Int32 × (Nat → Int32) × (Nat → Int32) × Int32)) (v2_2 : Int32) (v5_3 : Int32) : Option (Int32 × (Nat → Int32) × (Nat → Int32) × Int32) :=
  if 4 ≤ v5_3 then (some (v2_2, r_1.1, r_1.2.1, r_1.2.2)) else (grd (inB v5_3 4) (bnd (fCO v5_3.toNatClampNeg) (fun (v6_6 : Int32) => (fX2_roundOf r_1.1 v6_6).bind (fun (r_7 : Int32) => (fX2_lesser v2_2 r_7).bind (fun (r_8 : Int32) => self_4 r_8 (v5_3 + 1))))))
def fX2_byRounds_L22 (r_1 : (Nat → Int32) × (Nat → Int32) × Int32) (n : Nat) (v2_2 : Int32) (v5_3 : Int32) : Option (Int32 × (Nat → Int32) × (Nat → Int32) × Int32) := lp (fun zf z => fX2_byRounds_L22_B r_1 (fun v2_2 v5_3 => zf (v2_2, v5_3)) z.1 z.2) n (v2_2, v5_3)
def fX2_byRounds (krf : Nat → Int32) (kqf : Nat → Int32) (kk : Int32) (f : Nat → Int32) : Option (Int32 × (Nat → Int32) × (Nat → Int32) × Int32) :=
  (fX2_spread krf kqf kk f kk).bind (fun (r_1 : (Nat → Int32) × (Nat → Int32) × Int32) => fX2_byRounds_L22 r_1 64 (-1) 0)
set_option maxRecDepth 100000 in
set_option maxHeartbeats 4000000 in
theorem mX2_byRounds (l : Launch) (g : GE) (kw kr kq b ca zc zp : Nat) (kc : Int32) (krf : Nat → Int32) (kqf : Nat → Int32) (kk : Int32) (sg : Int32) (f : Nat → Int32) (r : Int32 × (Nat → Int32) × (Nat → Int32) × Int32) (hyp : fX2_byRounds krf kqf kk f = some r) : WMO l yX2_byRounds cX2_byRounds 7 (some .int) 4 92 g [(kw, .inr (2, [.ref kr, .ref kq, .int kc])), (kr, .inl (g.2.1, 49, .inl krf)), (kq, .inl (g.2.1, 49, .inl kqf)), (b, .inr (1, [.ref ca, .int kk, .int sg])), (ca, .inl (g.2.1, 49, .inl f))] (OS zc zp) [.ref kw, .ref b] (some (.int r.1)) [(kw, .inr (2, [.ref kr, .ref kq, .int r.2.2.2])), (kr, .inl (g.2.1, 49, .inl r.2.1)), (kq, .inl (g.2.1, 49, .inl r.2.2.1)), (b, .inr (1, [.ref ca, .int kk, .int sg])), (ca, .inl (g.2.1, 49, .inl f))] := by
  refine metWO_intro (by decide) rfl ?_
  intro p e R s m args below meth c Q A hRf hRl hQ hx hb hml hr hlocks hown hts hin hE hA hO H locs hP hD hS ls hl
  have hown : s.vm.findClass "HallGuards$KingWay" = some m.cls := hown
  have hl : lv_has ls 7 [(0, .ref kw), (1, .ref b)] := hl
  unfold fX2_byRounds at hyp
  refine lv_aload_n hx hb dX2_byRounds_0 rfl (lv_at hl 0 rfl) ?_
  refine lv_aload_n hx hb dX2_byRounds_1 rfl (lv_at hl 1 rfl) ?_
  refine lv_aload_n hx hb dX2_byRounds_2 rfl (lv_at hl 1 rfl) ?_
  refine gf_X2_18 hx hb hts hown hE hP 3 rfl rfl dX2_byRounds_3 ?_
  obtain ⟨r_1, hr_1, hyp⟩ := opt_e hyp
  refine wV (As := [.ref b, .int kk]) (rest := []) ⟨hx, hb, hml, hown, hts⟩ hE (mX2_spread l g kw kr kq b ca kc krf kqf kk sg f kk r_1 hr_1) cf_X2_spread im_X2_spread se_X2_spread ml_X2_24 ⟨Nat.le_trans (Nat.le_of_ble_eq_true rfl) hRf, Nat.le_trans (Nat.le_of_ble_eq_true rfl) hRl⟩ hP hD hS hA [0, 1, 2, 3, 4] [] rfl (wr := []) rfl ⟨by decide, by decide⟩ (by decide) (ci := 2) (q0 := 0) rfl rfl rfl rfl hl.1 rfl (Nat.le_of_ble_eq_true rfl) dX2_byRounds_6 ⟨Nat.zero_le _, Nat.zero_le _⟩ (fun H locs hP hD hS => ?_)
  have hP : va_P g.1 vwCl [(kw, .inr (2, [.ref kr, .ref kq, .int r_1.2.2])), (kr, .inl (g.2.1, 49, .inl r_1.1)), (kq, .inl (g.2.1, 49, .inl r_1.2.1)), (b, .inr (1, [.ref ca, .int kk, .int sg])), (ca, .inl (g.2.1, 49, .inl f))] H := hP
  have hD : va_D A [(kw, .inr (2, [.ref kr, .ref kq, .int r_1.2.2])), (kr, .inl (g.2.1, 49, .inl r_1.1)), (kq, .inl (g.2.1, 49, .inl r_1.2.1)), (b, .inr (1, [.ref ca, .int kk, .int sg])), (ca, .inl (g.2.1, 49, .inl f))] := hD
  refine lv_iconst (v := (-1)) hx hb dX2_byRounds_9 (by decide) ?_
  refine lv_istore_n (lv' := [(2, .int (-1)), (0, .ref kw), (1, .ref b)]) hx hb dX2_byRounds_10 rfl hl (by decide) rfl (fun ls hl => ?_)
  refine va_getsN hx hb hO.1.1 hS hown (va_Nw.use rfl (hE.2 _ fl_X2_28)) (fun _ h => h) dX2_byRounds_11 ?_
  refine lv_astore_n (lv' := [(3, .ref zc), (2, .int (-1)), (0, .ref kw), (1, .ref b)]) hx hb dX2_byRounds_14 rfl hl (by decide) rfl (fun ls hl => ?_)
  refine lv_aload_n hx hb dX2_byRounds_15 rfl (lv_at hl 0 rfl) ?_
  refine xt_slen hx hb hO.1.2.1 hO.1.2.2.1 hO.1.2.2.2 hS dX2_byRounds_16 ?_
  refine lv_istore (lv' := [(4, .int 4), (3, .ref zc), (2, .int (-1)), (0, .ref kw), (1, .ref b)]) hx hb dX2_byRounds_17 hl (by decide) rfl (fun ls hl => ?_)
  refine lv_iconst (v := 0) hx hb dX2_byRounds_19 (by decide) ?_
  refine lv_istore (lv' := [(5, .int 0), (4, .int 4), (3, .ref zc), (2, .int (-1)), (0, .ref kw), (1, .ref b)]) hx hb dX2_byRounds_20 hl (by decide) rfl (fun ls hl => ?_)
  refine lp_i (r := r) (fun z : Int32 × Int32 => ∀ (H : Heap) (locs : List Loc) (ls : Array Slot), lv_has ls 7 [(0, .ref kw), (2, .int z.1), (3, .ref zc), (4, .int 4), (5, .int z.2)] → va_P g.1 vwCl [(kw, .inr (2, [.ref kr, .ref kq, .int r_1.2.2])), (kr, .inl (g.2.1, 49, .inl r_1.1)), (kq, .inl (g.2.1, 49, .inl r_1.2.1)), (b, .inr (1, [.ref ca, .int kk, .int sg])), (ca, .inl (g.2.1, 49, .inl f))] H → va_D A [(kw, .inr (2, [.ref kr, .ref kq, .int r_1.2.2])), (kr, .inl (g.2.1, 49, .inl r_1.1)), (kq, .inl (g.2.1, 49, .inl r_1.2.1)), (b, .inr (1, [.ref ca, .int kk, .int sg])), (ca, .inl (g.2.1, 49, .inl f))] → va_S A s.heap H locs → W p l e R s m args below meth c H locs 0 0 Q (F0 m 22 ls [])) ?_ 64 ((-1), 0) hyp _ _ ls (lv_sub hl [4, 3, 2, 1, 0] rfl) hP hD hS
  intro self_4T ihself_4T z hyp H locs ls hl hP hD hS
  obtain ⟨v2_2, v5_3⟩ := z
  obtain ⟨self_4, eself_4⟩ : ∃ f9 : Int32 → Int32 → Option (Int32 × (Nat → Int32) × (Nat → Int32) × Int32), f9 = fun v2_2 v5_3 => self_4T (v2_2, v5_3) := ⟨_, rfl⟩
  have ihself_4 := fun (v2_2 : Int32) (v5_3 : Int32) (h9 : self_4 v2_2 v5_3 = some r) => ihself_4T (v2_2, v5_3) (by rw [eself_4] at h9; exact h9)
  replace hyp : fX2_byRounds_L22_B r_1 self_4 v2_2 v5_3 = some r := by rw [eself_4]; exact hyp
  have hl : lv_has ls 7 [(0, .ref kw), (2, .int v2_2), (3, .ref zc), (4, .int 4), (5, .int v5_3)] := hl
  have hP : va_P g.1 vwCl [(kw, .inr (2, [.ref kr, .ref kq, .int r_1.2.2])), (kr, .inl (g.2.1, 49, .inl r_1.1)), (kq, .inl (g.2.1, 49, .inl r_1.2.1)), (b, .inr (1, [.ref ca, .int kk, .int sg])), (ca, .inl (g.2.1, 49, .inl f))] H := hP
  have hD : va_D A [(kw, .inr (2, [.ref kr, .ref kq, .int r_1.2.2])), (kr, .inl (g.2.1, 49, .inl r_1.1)), (kq, .inl (g.2.1, 49, .inl r_1.2.1)), (b, .inr (1, [.ref ca, .int kk, .int sg])), (ca, .inl (g.2.1, 49, .inl f))] := hD
  show W p l e R s m args below meth c H locs 0 0 Q (F0 m 22 ls [])
  unfold fX2_byRounds_L22_B at hyp
  refine lv_iload hx hb dX2_byRounds_22 (lv_at hl 4 rfl) ?_
  refine lv_iload hx hb dX2_byRounds_24 (lv_at hl 3 rfl) ?_
  refine lv_icmp_ge (tgt := 52) hx hb dX2_byRounds_26 (by decide) (fun h_5 => ?_) (fun h_5 => ?_)
  · replace hyp := ite_t h_5 hyp
    refine lv_iload_n hx hb dX2_byRounds_52 rfl (lv_at hl 1 rfl) ?_
    have hyp := some_e hyp
    subst hyp
    subst hQ
    exact rwI hx hb hr hlocks  hP hD hS dX2_byRounds_53
  · replace hyp := ite_f h_5 hyp
    refine lv_aload_n hx hb dX2_byRounds_29 rfl (lv_at hl 2 rfl) ?_
    refine lv_iload hx hb dX2_byRounds_30 (lv_at hl 4 rfl) ?_
    obtain ⟨hi, hyp⟩ := grd_e hyp
    refine xt_sld hx hb hO.1.2.1 hO.1.2.2.1 hO.1.2.2.2 hS (inB_vp hi) dX2_byRounds_32 ?_
    obtain ⟨v6_6, ev6_6, hyp⟩ := bnd_e hyp
    refine lv_eqi ev6_6 ?_
    refine lv_istore (lv' := [(6, .int v6_6), (0, .ref kw), (2, .int v2_2), (3, .ref zc), (4, .int 4), (5, .int v5_3)]) hx hb dX2_byRounds_33 hl (by decide) rfl (fun ls hl => ?_)
    refine lv_iload_n hx hb dX2_byRounds_35 rfl (lv_at hl 2 rfl) ?_
    refine lv_aload_n hx hb dX2_byRounds_36 rfl (lv_at hl 1 rfl) ?_
    refine lv_iload hx hb dX2_byRounds_37 (lv_at hl 0 rfl) ?_
    obtain ⟨r_7, hr_7, hyp⟩ := opt_e hyp
    refine pV (As := [.int v6_6]) (rest := [.int v2_2]) ⟨hx, hb, hml, hown, hts⟩ hE (mX2_roundOf l g kw kr kq r_1.2.2 r_1.1 v6_6 r_7 hr_7) cf_X2_roundOf im_X2_roundOf se_X2_roundOf ml_X2_31 ⟨Nat.le_trans (Nat.le_of_ble_eq_true rfl) hRf, Nat.le_trans (Nat.le_of_ble_eq_true rfl) hRl⟩ (hP.sub (ws' := [(kw, .inr (2, [.ref kr, .ref kq, .int r_1.2.2])), (kr, .inl (g.2.1, 49, .inl r_1.1))]) [0, 1] rfl) (ci := 2) (q0 := 0) rfl rfl rfl rfl hl.1 rfl (Nat.le_of_ble_eq_true rfl) dX2_byRounds_39 ⟨Nat.zero_le _, Nat.zero_le _⟩ ?_
    obtain ⟨r_8, hr_8, hyp⟩ := opt_e hyp
    refine pS (As := [.int v2_2, .int r_7]) (rest := []) ⟨hx, hb, hml, hown, hts⟩ hE (mX2_lesser l g v2_2 r_7 r_8 hr_8) cf_X2_lesser st_X2_lesser ml_X2_35 ⟨Nat.le_trans (Nat.le_of_ble_eq_true rfl) hRf, Nat.le_trans (Nat.le_of_ble_eq_true rfl) hRl⟩ (va_P_nil) rfl hl.1 rfl (Nat.le_of_ble_eq_true rfl) dX2_byRounds_42 ⟨Nat.zero_le _, Nat.zero_le _⟩ ?_
    refine lv_istore_n (lv' := [(2, .int r_8), (6, .int v6_6), (0, .ref kw), (3, .ref zc), (4, .int 4), (5, .int v5_3)]) hx hb dX2_byRounds_45 rfl hl (by decide) rfl (fun ls hl => ?_)
    refine lv_iinc (v := v5_3 + 1) (lv' := [(5, .int (v5_3 + 1)), (2, .int r_8), (6, .int v6_6), (0, .ref kw), (3, .ref zc), (4, .int 4)]) hx hb dX2_byRounds_46 hl (k := 5) rfl rfl (by decide) rfl (fun ls hl => ?_)
    refine lv_goto (tgt := 22) hx hb dX2_byRounds_49 (by decide) ?_
    exact ihself_4 r_8 (v5_3 + 1) hyp H locs ls (lv_sub hl [3, 1, 4, 5, 0] rfl) hP hD hS

def fX2_byCorners_L22_B (kk : Int32) (f : Nat → Int32) (self_7 : Int32 → Int32 → (Nat → Int32) → (Nat → Int32) → Int32 → Option (Int32 × (Nat → Int32) × (Nat → Int32) × Int32)) (v2_2 : Int32) (v5_3 : Int32) (wkrf_4 : Nat → Int32) (wkqf_5 : Nat → Int32) (wkc_6 : Int32) : Option (Int32 × (Nat → Int32) × (Nat → Int32) × Int32) :=
  if 4 ≤ v5_3 then (some (v2_2, wkrf_4, wkqf_5, wkc_6)) else (grd (inB v5_3 4) (bnd (fCO v5_3.toNatClampNeg) (fun (v6_9 : Int32) => (fX2_spread wkrf_4 wkqf_5 kk f v6_9).bind (fun (r_10 : (Nat → Int32) × (Nat → Int32) × Int32) => (fX2_roundOf r_10.1 kk).bind (fun (r_11 : Int32) => (fX2_lesser v2_2 r_11).bind (fun (r_12 : Int32) => self_7 r_12 (v5_3 + 1) r_10.1 r_10.2.1 r_10.2.2))))))
def fX2_byCorners_L22 (kk : Int32) (f : Nat → Int32) (n : Nat) (v2_2 : Int32) (v5_3 : Int32) (wkrf_4 : Nat → Int32) (wkqf_5 : Nat → Int32) (wkc_6 : Int32) : Option (Int32 × (Nat → Int32) × (Nat → Int32) × Int32) := lp (fun zf z => fX2_byCorners_L22_B kk f (fun v2_2 v5_3 wkrf_4 wkqf_5 wkc_6 => zf (v2_2, v5_3, wkrf_4, wkqf_5, wkc_6)) z.1 z.2.1 z.2.2.1 z.2.2.2.1 z.2.2.2.2) n (v2_2, v5_3, wkrf_4, wkqf_5, wkc_6)
def fX2_byCorners (kc : Int32) (krf : Nat → Int32) (kqf : Nat → Int32) (kk : Int32) (f : Nat → Int32) : Option (Int32 × (Nat → Int32) × (Nat → Int32) × Int32) :=
  if 0 ≤ kk then (fX2_byCorners_L22 kk f 64 (-1) 0 krf kqf kc) else (some ((-1), krf, kqf, kc))
set_option maxRecDepth 100000 in
set_option maxHeartbeats 4000000 in
theorem mX2_byCorners (l : Launch) (g : GE) (kw kr kq b ca zc zp : Nat) (kc : Int32) (krf : Nat → Int32) (kqf : Nat → Int32) (kk : Int32) (sg : Int32) (f : Nat → Int32) (r : Int32 × (Nat → Int32) × (Nat → Int32) × Int32) (hyp : fX2_byCorners kc krf kqf kk f = some r) : WMO l yX2_byCorners cX2_byCorners 7 (some .int) 4 92 g [(kw, .inr (2, [.ref kr, .ref kq, .int kc])), (kr, .inl (g.2.1, 49, .inl krf)), (kq, .inl (g.2.1, 49, .inl kqf)), (b, .inr (1, [.ref ca, .int kk, .int sg])), (ca, .inl (g.2.1, 49, .inl f))] (OS zc zp) [.ref kw, .ref b] (some (.int r.1)) [(kw, .inr (2, [.ref kr, .ref kq, .int r.2.2.2])), (kr, .inl (g.2.1, 49, .inl r.2.1)), (kq, .inl (g.2.1, 49, .inl r.2.2.1)), (b, .inr (1, [.ref ca, .int kk, .int sg])), (ca, .inl (g.2.1, 49, .inl f))] := by
  refine metWO_intro (by decide) rfl ?_
  intro p e R s m args below meth c Q A hRf hRl hQ hx hb hml hr hlocks hown hts hin hE hA hO H locs hP hD hS ls hl
  have hown : s.vm.findClass "HallGuards$KingWay" = some m.cls := hown
  have hl : lv_has ls 7 [(0, .ref kw), (1, .ref b)] := hl
  unfold fX2_byCorners at hyp
  refine lv_aload_n hx hb dX2_byCorners_0 rfl (lv_at hl 1 rfl) ?_
  refine gf_X2_18 hx hb hts hown hE hP 3 rfl rfl dX2_byCorners_1 ?_
  refine lv_if_ge (tgt := 9) hx hb dX2_byCorners_4 (by decide) (fun h_1 => ?_) (fun h_1 => ?_)
  · replace hyp := ite_t h_1 hyp
    refine lv_iconst (v := (-1)) hx hb dX2_byCorners_9 (by decide) ?_
    refine lv_istore_n (lv' := [(2, .int (-1)), (0, .ref kw), (1, .ref b)]) hx hb dX2_byCorners_10 rfl hl (by decide) rfl (fun ls hl => ?_)
    refine va_getsN hx hb hO.1.1 hS hown (va_Nw.use rfl (hE.2 _ fl_X2_28)) (fun _ h => h) dX2_byCorners_11 ?_
    refine lv_astore_n (lv' := [(3, .ref zc), (2, .int (-1)), (0, .ref kw), (1, .ref b)]) hx hb dX2_byCorners_14 rfl hl (by decide) rfl (fun ls hl => ?_)
    refine lv_aload_n hx hb dX2_byCorners_15 rfl (lv_at hl 0 rfl) ?_
    refine xt_slen hx hb hO.1.2.1 hO.1.2.2.1 hO.1.2.2.2 hS dX2_byCorners_16 ?_
    refine lv_istore (lv' := [(4, .int 4), (3, .ref zc), (2, .int (-1)), (0, .ref kw), (1, .ref b)]) hx hb dX2_byCorners_17 hl (by decide) rfl (fun ls hl => ?_)
    refine lv_iconst (v := 0) hx hb dX2_byCorners_19 (by decide) ?_
    refine lv_istore (lv' := [(5, .int 0), (4, .int 4), (3, .ref zc), (2, .int (-1)), (0, .ref kw), (1, .ref b)]) hx hb dX2_byCorners_20 hl (by decide) rfl (fun ls hl => ?_)
    refine lp_i (r := r) (fun z : Int32 × Int32 × (Nat → Int32) × (Nat → Int32) × Int32 => ∀ (H : Heap) (locs : List Loc) (ls : Array Slot), lv_has ls 7 [(0, .ref kw), (1, .ref b), (2, .int z.1), (3, .ref zc), (4, .int 4), (5, .int z.2.1)] → va_P g.1 vwCl [(kw, .inr (2, [.ref kr, .ref kq, .int z.2.2.2.2])), (kr, .inl (g.2.1, 49, .inl z.2.2.1)), (kq, .inl (g.2.1, 49, .inl z.2.2.2.1)), (b, .inr (1, [.ref ca, .int kk, .int sg])), (ca, .inl (g.2.1, 49, .inl f))] H → va_D A [(kw, .inr (2, [.ref kr, .ref kq, .int z.2.2.2.2])), (kr, .inl (g.2.1, 49, .inl z.2.2.1)), (kq, .inl (g.2.1, 49, .inl z.2.2.2.1)), (b, .inr (1, [.ref ca, .int kk, .int sg])), (ca, .inl (g.2.1, 49, .inl f))] → va_S A s.heap H locs → W p l e R s m args below meth c H locs 0 0 Q (F0 m 22 ls [])) ?_ 64 ((-1), 0, krf, kqf, kc) hyp _ _ ls (lv_sub hl [4, 5, 3, 2, 1, 0] rfl) hP hD hS
    intro self_7T ihself_7T z hyp H locs ls hl hP hD hS
    obtain ⟨v2_2, v5_3, wkrf_4, wkqf_5, wkc_6⟩ := z
    obtain ⟨self_7, eself_7⟩ : ∃ f9 : Int32 → Int32 → (Nat → Int32) → (Nat → Int32) → Int32 → Option (Int32 × (Nat → Int32) × (Nat → Int32) × Int32), f9 = fun v2_2 v5_3 wkrf_4 wkqf_5 wkc_6 => self_7T (v2_2, v5_3, wkrf_4, wkqf_5, wkc_6) := ⟨_, rfl⟩
    have ihself_7 := fun (v2_2 : Int32) (v5_3 : Int32) (wkrf_4 : Nat → Int32) (wkqf_5 : Nat → Int32) (wkc_6 : Int32) (h9 : self_7 v2_2 v5_3 wkrf_4 wkqf_5 wkc_6 = some r) => ihself_7T (v2_2, v5_3, wkrf_4, wkqf_5, wkc_6) (by rw [eself_7] at h9; exact h9)
    replace hyp : fX2_byCorners_L22_B kk f self_7 v2_2 v5_3 wkrf_4 wkqf_5 wkc_6 = some r := by rw [eself_7]; exact hyp
    have hl : lv_has ls 7 [(0, .ref kw), (1, .ref b), (2, .int v2_2), (3, .ref zc), (4, .int 4), (5, .int v5_3)] := hl
    have hP : va_P g.1 vwCl [(kw, .inr (2, [.ref kr, .ref kq, .int wkc_6])), (kr, .inl (g.2.1, 49, .inl wkrf_4)), (kq, .inl (g.2.1, 49, .inl wkqf_5)), (b, .inr (1, [.ref ca, .int kk, .int sg])), (ca, .inl (g.2.1, 49, .inl f))] H := hP
    have hD : va_D A [(kw, .inr (2, [.ref kr, .ref kq, .int wkc_6])), (kr, .inl (g.2.1, 49, .inl wkrf_4)), (kq, .inl (g.2.1, 49, .inl wkqf_5)), (b, .inr (1, [.ref ca, .int kk, .int sg])), (ca, .inl (g.2.1, 49, .inl f))] := hD
    show W p l e R s m args below meth c H locs 0 0 Q (F0 m 22 ls [])
    unfold fX2_byCorners_L22_B at hyp
    refine lv_iload hx hb dX2_byCorners_22 (lv_at hl 5 rfl) ?_
    refine lv_iload hx hb dX2_byCorners_24 (lv_at hl 4 rfl) ?_
    refine lv_icmp_ge (tgt := 61) hx hb dX2_byCorners_26 (by decide) (fun h_8 => ?_) (fun h_8 => ?_)
    · replace hyp := ite_t h_8 hyp
      refine lv_iload_n hx hb dX2_byCorners_61 rfl (lv_at hl 2 rfl) ?_
      have hyp := some_e hyp
      subst hyp
      subst hQ
      exact rwI hx hb hr hlocks  hP hD hS dX2_byCorners_62
    · replace hyp := ite_f h_8 hyp
      refine lv_aload_n hx hb dX2_byCorners_29 rfl (lv_at hl 3 rfl) ?_
      refine lv_iload hx hb dX2_byCorners_30 (lv_at hl 5 rfl) ?_
      obtain ⟨hi, hyp⟩ := grd_e hyp
      refine xt_sld hx hb hO.1.2.1 hO.1.2.2.1 hO.1.2.2.2 hS (inB_vp hi) dX2_byCorners_32 ?_
      obtain ⟨v6_9, ev6_9, hyp⟩ := bnd_e hyp
      refine lv_eqi ev6_9 ?_
      refine lv_istore (lv' := [(6, .int v6_9), (0, .ref kw), (1, .ref b), (2, .int v2_2), (3, .ref zc), (4, .int 4), (5, .int v5_3)]) hx hb dX2_byCorners_33 hl (by decide) rfl (fun ls hl => ?_)
      refine lv_aload_n hx hb dX2_byCorners_35 rfl (lv_at hl 1 rfl) ?_
      refine lv_aload_n hx hb dX2_byCorners_36 rfl (lv_at hl 2 rfl) ?_
      refine lv_iload hx hb dX2_byCorners_37 (lv_at hl 0 rfl) ?_
      obtain ⟨r_10, hr_10, hyp⟩ := opt_e hyp
      refine wV (As := [.ref b, .int v6_9]) (rest := []) ⟨hx, hb, hml, hown, hts⟩ hE (mX2_spread l g kw kr kq b ca wkc_6 wkrf_4 wkqf_5 kk sg f v6_9 r_10 hr_10) cf_X2_spread im_X2_spread se_X2_spread ml_X2_24 ⟨Nat.le_trans (Nat.le_of_ble_eq_true rfl) hRf, Nat.le_trans (Nat.le_of_ble_eq_true rfl) hRl⟩ hP hD hS hA [0, 1, 2, 3, 4] [] rfl (wr := []) rfl ⟨by decide, by decide⟩ (by decide) (ci := 2) (q0 := 0) rfl rfl rfl rfl hl.1 rfl (Nat.le_of_ble_eq_true rfl) dX2_byCorners_39 ⟨Nat.zero_le _, Nat.zero_le _⟩ (fun H locs hP hD hS => ?_)
      have hP : va_P g.1 vwCl [(kw, .inr (2, [.ref kr, .ref kq, .int r_10.2.2])), (kr, .inl (g.2.1, 49, .inl r_10.1)), (kq, .inl (g.2.1, 49, .inl r_10.2.1)), (b, .inr (1, [.ref ca, .int kk, .int sg])), (ca, .inl (g.2.1, 49, .inl f))] H := hP
      have hD : va_D A [(kw, .inr (2, [.ref kr, .ref kq, .int r_10.2.2])), (kr, .inl (g.2.1, 49, .inl r_10.1)), (kq, .inl (g.2.1, 49, .inl r_10.2.1)), (b, .inr (1, [.ref ca, .int kk, .int sg])), (ca, .inl (g.2.1, 49, .inl f))] := hD
      refine lv_iload_n hx hb dX2_byCorners_42 rfl (lv_at hl 3 rfl) ?_
      refine lv_aload_n hx hb dX2_byCorners_43 rfl (lv_at hl 1 rfl) ?_
      refine lv_aload_n hx hb dX2_byCorners_44 rfl (lv_at hl 2 rfl) ?_
      refine gf_X2_18 hx hb hts hown hE hP 3 rfl rfl dX2_byCorners_45 ?_
      obtain ⟨r_11, hr_11, hyp⟩ := opt_e hyp
      refine pV (As := [.int kk]) (rest := [.int v2_2]) ⟨hx, hb, hml, hown, hts⟩ hE (mX2_roundOf l g kw kr kq r_10.2.2 r_10.1 kk r_11 hr_11) cf_X2_roundOf im_X2_roundOf se_X2_roundOf ml_X2_31 ⟨Nat.le_trans (Nat.le_of_ble_eq_true rfl) hRf, Nat.le_trans (Nat.le_of_ble_eq_true rfl) hRl⟩ (hP.sub (ws' := [(kw, .inr (2, [.ref kr, .ref kq, .int r_10.2.2])), (kr, .inl (g.2.1, 49, .inl r_10.1))]) [0, 1] rfl) (ci := 2) (q0 := 0) rfl rfl rfl rfl hl.1 rfl (Nat.le_of_ble_eq_true rfl) dX2_byCorners_48 ⟨Nat.zero_le _, Nat.zero_le _⟩ ?_
      obtain ⟨r_12, hr_12, hyp⟩ := opt_e hyp
      refine pS (As := [.int v2_2, .int r_11]) (rest := []) ⟨hx, hb, hml, hown, hts⟩ hE (mX2_lesser l g v2_2 r_11 r_12 hr_12) cf_X2_lesser st_X2_lesser ml_X2_35 ⟨Nat.le_trans (Nat.le_of_ble_eq_true rfl) hRf, Nat.le_trans (Nat.le_of_ble_eq_true rfl) hRl⟩ (va_P_nil) rfl hl.1 rfl (Nat.le_of_ble_eq_true rfl) dX2_byCorners_51 ⟨Nat.zero_le _, Nat.zero_le _⟩ ?_
      refine lv_istore_n (lv' := [(2, .int r_12), (6, .int v6_9), (0, .ref kw), (1, .ref b), (3, .ref zc), (4, .int 4), (5, .int v5_3)]) hx hb dX2_byCorners_54 rfl hl (by decide) rfl (fun ls hl => ?_)
      refine lv_iinc (v := v5_3 + 1) (lv' := [(5, .int (v5_3 + 1)), (2, .int r_12), (6, .int v6_9), (0, .ref kw), (1, .ref b), (3, .ref zc), (4, .int 4)]) hx hb dX2_byCorners_55 hl (k := 6) rfl rfl (by decide) rfl (fun ls hl => ?_)
      refine lv_goto (tgt := 22) hx hb dX2_byCorners_58 (by decide) ?_
      exact ihself_7 r_12 (v5_3 + 1) r_10.1 r_10.2.1 r_10.2.2 hyp H locs ls (lv_sub hl [3, 4, 1, 5, 6, 0] rfl) hP hD hS
  · replace hyp := ite_f h_1 hyp
    refine lv_iconst (v := (-1)) hx hb dX2_byCorners_7 (by decide) ?_
    have hyp := some_e hyp
    subst hyp
    subst hQ
    exact rwI hx hb hr hlocks  hP hD hS dX2_byCorners_8

def fX2_countReached (krf : Nat → Int32) (kqf : Nat → Int32) (kk : Int32) (f : Nat → Int32) : Option (Int32 × (Nat → Int32) × (Nat → Int32) × Int32) :=
  (fX2_spread krf kqf kk f kk).bind (fun (r_1 : (Nat → Int32) × (Nat → Int32) × Int32) => some (if 0 < (r_1.2.2 - 1) then (r_1.2.2 - 1) else 0, r_1.1, r_1.2.1, r_1.2.2))
set_option maxRecDepth 100000 in
set_option maxHeartbeats 4000000 in
theorem mX2_countReached (l : Launch) (g : GE) (kw kr kq b ca : Nat) (kc : Int32) (krf : Nat → Int32) (kqf : Nat → Int32) (kk : Int32) (sg : Int32) (f : Nat → Int32) (r : Int32 × (Nat → Int32) × (Nat → Int32) × Int32) (hyp : fX2_countReached krf kqf kk f = some r) : WM l yX2_countReached cX2_countReached 2 (some .int) 4 92 g [(kw, .inr (2, [.ref kr, .ref kq, .int kc])), (kr, .inl (g.2.1, 49, .inl krf)), (kq, .inl (g.2.1, 49, .inl kqf)), (b, .inr (1, [.ref ca, .int kk, .int sg])), (ca, .inl (g.2.1, 49, .inl f))] [.ref kw, .ref b] (some (.int r.1)) [(kw, .inr (2, [.ref kr, .ref kq, .int r.2.2.2])), (kr, .inl (g.2.1, 49, .inl r.2.1)), (kq, .inl (g.2.1, 49, .inl r.2.2.1)), (b, .inr (1, [.ref ca, .int kk, .int sg])), (ca, .inl (g.2.1, 49, .inl f))] := by
  refine metW_intro (by decide) rfl ?_
  intro p e R s m args below meth c Q A hRf hRl hQ hx hb hml hr hlocks hown hts hin hE hA H locs hP hD hS ls hl
  have hown : s.vm.findClass "HallGuards$KingWay" = some m.cls := hown
  have hl : lv_has ls 2 [(0, .ref kw), (1, .ref b)] := hl
  unfold fX2_countReached at hyp
  refine lv_aload_n hx hb dX2_countReached_0 rfl (lv_at hl 0 rfl) ?_
  refine lv_aload_n hx hb dX2_countReached_1 rfl (lv_at hl 1 rfl) ?_
  refine lv_aload_n hx hb dX2_countReached_2 rfl (lv_at hl 1 rfl) ?_
  refine gf_X2_18 hx hb hts hown hE hP 3 rfl rfl dX2_countReached_3 ?_
  obtain ⟨r_1, hr_1, hyp⟩ := opt_e hyp
  refine wV (As := [.ref b, .int kk]) (rest := []) ⟨hx, hb, hml, hown, hts⟩ hE (mX2_spread l g kw kr kq b ca kc krf kqf kk sg f kk r_1 hr_1) cf_X2_spread im_X2_spread se_X2_spread ml_X2_24 ⟨Nat.le_trans (Nat.le_of_ble_eq_true rfl) hRf, Nat.le_trans (Nat.le_of_ble_eq_true rfl) hRl⟩ hP hD hS hA [0, 1, 2, 3, 4] [] rfl (wr := []) rfl ⟨by decide, by decide⟩ (by decide) (ci := 2) (q0 := 0) rfl rfl rfl rfl hl.1 rfl (Nat.le_of_ble_eq_true rfl) dX2_countReached_6 ⟨Nat.zero_le _, Nat.zero_le _⟩ (fun H locs hP hD hS => ?_)
  have hP : va_P g.1 vwCl [(kw, .inr (2, [.ref kr, .ref kq, .int r_1.2.2])), (kr, .inl (g.2.1, 49, .inl r_1.1)), (kq, .inl (g.2.1, 49, .inl r_1.2.1)), (b, .inr (1, [.ref ca, .int kk, .int sg])), (ca, .inl (g.2.1, 49, .inl f))] H := hP
  have hD : va_D A [(kw, .inr (2, [.ref kr, .ref kq, .int r_1.2.2])), (kr, .inl (g.2.1, 49, .inl r_1.1)), (kq, .inl (g.2.1, 49, .inl r_1.2.1)), (b, .inr (1, [.ref ca, .int kk, .int sg])), (ca, .inl (g.2.1, 49, .inl f))] := hD
  refine lv_iconst (v := 0) hx hb dX2_countReached_9 (by decide) ?_
  refine lv_aload_n hx hb dX2_countReached_10 rfl (lv_at hl 0 rfl) ?_
  refine gf_X2_39 hx hb hts hown hE hP 0 rfl rfl dX2_countReached_11 ?_
  refine lv_iconst (v := 1) hx hb dX2_countReached_14 (by decide) ?_
  refine lv_isub hx hb dX2_countReached_15 ?_
  refine va_mmax hx hb (hml.trans hl.1.symm) hown (hts _ ml_X2_42) (hts _ st_mmax) (hts _ ini_Math) (hts _ co_mmax) (Nat.le_trans (Nat.le_of_ble_eq_true rfl) hRf) (Nat.le_trans (Nat.le_of_ble_eq_true rfl) hRl) (Nat.zero_le _) (Nat.zero_le _) dX2_countReached_16 ?_
  have hyp := some_e hyp
  subst hyp
  subst hQ
  exact rwI hx hb hr hlocks  hP hD hS dX2_countReached_19

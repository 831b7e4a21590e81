def fX9_ends (row : Nat → Int32) (rowb : Nat → Int32) (a1 : Int32) (a2 : Int32) : Option (Int32 × (Nat → Int32)) :=
  grd (inB a1 61) ((fX9_side (row a1.toNatClampNeg)).bind (fun (r_1 : Int32) => (fX9_copy row rowb).bind (fun (r_2 : (Nat → Int32)) => (fX9_step r_2 a1 a2).bind (fun (r_3 : Int32 × (Nat → Int32)) => grd (inB a1 61) (jn (fun (t_4 : Int32) => jn (fun (t_6 : Int32) => if t_4 = 0 then (if t_6 = 0 then ((fX9_moveCount r_3.2 (1 - r_1)).bind (fun (r_10 : Int32) => if r_10 = 0 then (some (1, r_3.2)) else (some (0, r_3.2)))) else (some (1, r_3.2))) else (some (1, r_3.2))) (fun J_7 => jn (J_7 0) (fun J_12 => if r_1 = 0 then ((fX9_king row).bind (fun (r_14 : Int32) => if r_14 = (-1) then (J_12) else ((fX9_king r_3.2).bind (fun (r_16 : Int32) => if r_16 = (-1) then (J_7 1) else (J_12))))) else (J_12)))) (fun J_5 => jn (J_5 0) (fun J_18 => if (row a1.toNatClampNeg) = 3 then ((fX9_isCorner a2).bind (fun (r_20 : Int32) => if r_20 = 0 then (J_18) else (J_5 1))) else (J_18))))))))
set_option maxRecDepth 100000 in
set_option maxHeartbeats 4000000 in
theorem mX9_ends (l : Launch) (g : GE) (ra rb : Nat) (row : Nat → Int32) (rowb : Nat → Int32) (a1 : Int32) (a2 : Int32) (r : Int32 × (Nat → Int32)) (hyp : fX9_ends row rowb a1 a2 = some r) : WM l yX9_ends cX9_ends 8 (some .boolean) 5 125 g [(ra, .inl (g.2.1, 61, .inl row)), (rb, .inl (g.2.1, 61, .inl rowb))] [.ref ra, .ref rb, .int a1, .int a2] (some (.int r.1)) [(ra, .inl (g.2.1, 61, .inl row)), (rb, .inl (g.2.1, 61, .inl r.2))] := by
  refine metW_intro (by decide) rfl ?_
  intro p e R s m args below meth c Q A hRf hRl hQ hx hb hml hr hlocks hown hts hin hE hA H locs hP hD hS ls hl
  have hown : s.vm.findClass "HallGuardsModel" = some m.cls := hown
  have hl : lv_has ls 8 [(0, .ref ra), (1, .ref rb), (2, .int a1), (3, .int a2)] := hl
  unfold fX9_ends at hyp
  refine lv_aload_n hx hb dX9_ends_0 rfl (lv_at hl 0 rfl) ?_
  refine lv_iload_n hx hb dX9_ends_1 rfl (lv_at hl 2 rfl) ?_
  obtain ⟨hi, hyp⟩ := grd_e hyp
  refine va_iald hx hb hE.1 hP 0 0 rfl rfl (inB_vp hi) dX9_ends_2 ?_
  obtain ⟨r_1, hr_1, hyp⟩ := opt_e hyp
  refine pS (As := [.int (row a1.toNatClampNeg)]) (rest := []) ⟨hx, hb, hml, hown, hts⟩ hE (mX9_side l g (row a1.toNatClampNeg) r_1 hr_1) cf_X9_side st_X9_side ml_X9_72 ⟨Nat.le_trans (Nat.le_of_ble_eq_true rfl) hRf, Nat.le_trans (Nat.le_of_ble_eq_true rfl) hRl⟩ (va_P_nil) rfl hl.1 rfl (Nat.le_of_ble_eq_true rfl) dX9_ends_3 ⟨Nat.zero_le _, Nat.zero_le _⟩ ?_
  refine lv_istore (lv' := [(4, .int r_1), (0, .ref ra), (1, .ref rb), (2, .int a1), (3, .int a2)]) hx hb dX9_ends_6 hl (by decide) rfl (fun ls hl => ?_)
  refine lv_aload_n hx hb dX9_ends_8 rfl (lv_at hl 1 rfl) ?_
  refine lv_aload_n hx hb dX9_ends_9 rfl (lv_at hl 2 rfl) ?_
  obtain ⟨r_2, hr_2, hyp⟩ := opt_e hyp
  refine wS (As := [.ref ra, .ref rb]) (rest := []) ⟨hx, hb, hml, hown, hts⟩ hE (mX9_copy l g ra rb row rowb r_2 hr_2) cf_X9_copy st_X9_copy ml_X9_195 ⟨Nat.le_trans (Nat.le_of_ble_eq_true rfl) hRf, Nat.le_trans (Nat.le_of_ble_eq_true rfl) hRl⟩ hP hD hS hA [0, 1] [] rfl (wr := []) rfl ⟨by decide, by decide⟩ (by decide) rfl hl.1 rfl (Nat.le_of_ble_eq_true rfl) dX9_ends_10 ⟨Nat.zero_le _, Nat.zero_le _⟩ (fun H locs hP hD hS => ?_)
  have hP : va_P g.1 vwCl [(ra, .inl (g.2.1, 61, .inl row)), (rb, .inl (g.2.1, 61, .inl r_2))] H := hP
  have hD : va_D A [(ra, .inl (g.2.1, 61, .inl row)), (rb, .inl (g.2.1, 61, .inl r_2))] := hD
  refine lv_aload_n hx hb dX9_ends_13 rfl (lv_at hl 2 rfl) ?_
  refine lv_iload_n hx hb dX9_ends_14 rfl (lv_at hl 3 rfl) ?_
  refine lv_iload_n hx hb dX9_ends_15 rfl (lv_at hl 4 rfl) ?_
  obtain ⟨r_3, hr_3, hyp⟩ := opt_e hyp
  refine wS (As := [.ref rb, .int a1, .int a2]) (rest := []) ⟨hx, hb, hml, hown, hts⟩ hE (mX9_step l g rb r_2 a1 a2 r_3 hr_3) cf_X9_step st_X9_step ml_X9_136 ⟨Nat.le_trans (Nat.le_of_ble_eq_true rfl) hRf, Nat.le_trans (Nat.le_of_ble_eq_true rfl) hRl⟩ hP hD hS hA [1] [0] rfl (wr := [(ra, .inl (g.2.1, 61, .inl row))]) rfl ⟨by decide, by decide⟩ (by decide) rfl hl.1 rfl (Nat.le_of_ble_eq_true rfl) dX9_ends_16 ⟨Nat.zero_le _, Nat.zero_le _⟩ (fun H locs hP hD hS => ?_)
  have hP : va_P g.1 vwCl [(ra, .inl (g.2.1, 61, .inl row)), (rb, .inl (g.2.1, 61, .inl r_3.2))] H := hP
  have hD : va_D A [(ra, .inl (g.2.1, 61, .inl row)), (rb, .inl (g.2.1, 61, .inl r_3.2))] := hD
  refine lv_istore (lv' := [(5, .int r_3.1), (4, .int r_1), (0, .ref ra), (1, .ref rb), (2, .int a1), (3, .int a2)]) hx hb dX9_ends_19 hl (by decide) rfl (fun ls hl => ?_)
  refine lv_aload_n hx hb dX9_ends_21 rfl (lv_at hl 2 rfl) ?_
  refine lv_iload_n hx hb dX9_ends_22 rfl (lv_at hl 4 rfl) ?_
  obtain ⟨hi, hyp⟩ := grd_e hyp
  refine va_iald hx hb hE.1 hP 0 0 rfl rfl (inB_vp hi) dX9_ends_23 ?_
  refine lv_iconst (v := 3) hx hb dX9_ends_24 (by decide) ?_
  obtain ⟨J_5, eJ_5, hyp⟩ := jn_e hyp
  have kJ_5 : ∀ (t_4 : Int32) (H : Heap) (locs : List Loc) (ls : Array Slot), J_5 t_4 = some r → lv_has ls 8 [(0, .ref ra), (1, .ref rb), (4, .int r_1)] → va_P g.1 vwCl [(ra, .inl (g.2.1, 61, .inl row)), (rb, .inl (g.2.1, 61, .inl r_3.2))] H → va_D A [(ra, .inl (g.2.1, 61, .inl row)), (rb, .inl (g.2.1, 61, .inl r_3.2))] → va_S A s.heap H locs → W p l e R s m args below meth c H locs 0 0 Q (F0 m 40 ls [.int t_4]) := by
    intro t_4 H locs  ls hyp hl hP hD hS
    replace hyp := (congrFun (eJ_5) t_4).symm.trans hyp
    refine lv_istore (lv' := [(6, .int t_4), (0, .ref ra), (1, .ref rb), (4, .int r_1)]) hx hb dX9_ends_40 hl (by decide) rfl (fun ls hl => ?_)
    refine lv_iload hx hb dX9_ends_42 (lv_at hl 3 rfl) ?_
    obtain ⟨J_7, eJ_7, hyp⟩ := jn_e hyp
    have kJ_7 : ∀ (t_6 : Int32) (H : Heap) (locs : List Loc) (ls : Array Slot), J_7 t_6 = some r → lv_has ls 8 [(1, .ref rb), (4, .int r_1), (6, .int t_4)] → va_P g.1 vwCl [(ra, .inl (g.2.1, 61, .inl row)), (rb, .inl (g.2.1, 61, .inl r_3.2))] H → va_D A [(ra, .inl (g.2.1, 61, .inl row)), (rb, .inl (g.2.1, 61, .inl r_3.2))] → va_S A s.heap H locs → W p l e R s m args below meth c H locs 0 0 Q (F0 m 68 ls [.int t_6]) := by
      intro t_6 H locs  ls hyp hl hP hD hS
      replace hyp := (congrFun (eJ_7) t_6).symm.trans hyp
      refine lv_istore (lv' := [(7, .int t_6), (1, .ref rb), (4, .int r_1), (6, .int t_4)]) hx hb dX9_ends_68 hl (by decide) rfl (fun ls hl => ?_)
      refine lv_iload hx hb dX9_ends_70 (lv_at hl 3 rfl) ?_
      refine lv_if_ne (tgt := 91) hx hb dX9_ends_72 (by decide) (fun h_8 => ?_) (fun h_8 => ?_)
      · replace hyp := ite_f h_8 hyp
        refine lv_iconst (v := 1) hx hb dX9_ends_91 (by decide) ?_
        refine lv_goto (tgt := 96) hx hb dX9_ends_92 (by decide) ?_
        have hyp := some_e hyp
        subst hyp
        subst hQ
        exact rwZ hx hb hr hlocks (Or.inr rfl)  hP hD hS dX9_ends_96
      · replace hyp := ite_t h_8 hyp
        refine lv_iload hx hb dX9_ends_75 (lv_at hl 0 rfl) ?_
        refine lv_if_ne (tgt := 91) hx hb dX9_ends_77 (by decide) (fun h_9 => ?_) (fun h_9 => ?_)
        · replace hyp := ite_f h_9 hyp
          refine lv_iconst (v := 1) hx hb dX9_ends_91 (by decide) ?_
          refine lv_goto (tgt := 96) hx hb dX9_ends_92 (by decide) ?_
          have hyp := some_e hyp
          subst hyp
          subst hQ
          exact rwZ hx hb hr hlocks (Or.inr rfl)  hP hD hS dX9_ends_96
        · replace hyp := ite_t h_9 hyp
          refine lv_aload_n hx hb dX9_ends_80 rfl (lv_at hl 1 rfl) ?_
          refine lv_iconst (v := 1) hx hb dX9_ends_81 (by decide) ?_
          refine lv_iload hx hb dX9_ends_82 (lv_at hl 2 rfl) ?_
          refine lv_isub hx hb dX9_ends_84 ?_
          obtain ⟨r_10, hr_10, hyp⟩ := opt_e hyp
          refine pS (As := [.ref rb, .int (1 - r_1)]) (rest := []) ⟨hx, hb, hml, hown, hts⟩ hE (mX9_moveCount l g rb r_3.2 (1 - r_1) r_10 hr_10) cf_X9_moveCount st_X9_moveCount ml_X9_101 ⟨Nat.le_trans (Nat.le_of_ble_eq_true rfl) hRf, Nat.le_trans (Nat.le_of_ble_eq_true rfl) hRl⟩ (hP.sub (ws' := [(rb, .inl (g.2.1, 61, .inl r_3.2))]) [1] rfl) rfl hl.1 rfl (Nat.le_of_ble_eq_true rfl) dX9_ends_85 ⟨Nat.zero_le _, Nat.zero_le _⟩ ?_
          refine lv_if_ne (tgt := 95) hx hb dX9_ends_88 (by decide) (fun h_11 => ?_) (fun h_11 => ?_)
          · replace hyp := ite_f h_11 hyp
            refine lv_iconst (v := 0) hx hb dX9_ends_95 (by decide) ?_
            have hyp := some_e hyp
            subst hyp
            subst hQ
            exact rwZ hx hb hr hlocks (Or.inl rfl)  hP hD hS dX9_ends_96
          · replace hyp := ite_t h_11 hyp
            refine lv_iconst (v := 1) hx hb dX9_ends_91 (by decide) ?_
            refine lv_goto (tgt := 96) hx hb dX9_ends_92 (by decide) ?_
            have hyp := some_e hyp
            subst hyp
            subst hQ
            exact rwZ hx hb hr hlocks (Or.inr rfl)  hP hD hS dX9_ends_96
    obtain ⟨J_12, eJ_12, hyp⟩ := jn_e hyp
    have kJ_12 : ∀ (H : Heap) (locs : List Loc) (ls : Array Slot), J_12 = some r → lv_has ls 8 [(1, .ref rb), (4, .int r_1), (6, .int t_4)] → va_P g.1 vwCl [(ra, .inl (g.2.1, 61, .inl row)), (rb, .inl (g.2.1, 61, .inl r_3.2))] H → va_D A [(ra, .inl (g.2.1, 61, .inl row)), (rb, .inl (g.2.1, 61, .inl r_3.2))] → va_S A s.heap H locs → W p l e R s m args below meth c H locs 0 0 Q (F0 m 67 ls []) := by
      intro H locs  ls hyp hl hP hD hS
      replace hyp := (eJ_12).symm.trans hyp
      refine lv_iconst (v := 0) hx hb dX9_ends_67 (by decide) ?_
      exact kJ_7 0 H locs ls hyp hl hP hD hS
    refine lv_if_ne (tgt := 67) hx hb dX9_ends_44 (by decide) (fun h_13 => ?_) (fun h_13 => ?_)
    · replace hyp := ite_f h_13 hyp
      exact kJ_12 H locs ls hyp (lv_sub hl [2, 3, 0] rfl) hP hD hS
    · replace hyp := ite_t h_13 hyp
      refine lv_aload_n hx hb dX9_ends_47 rfl (lv_at hl 1 rfl) ?_
      obtain ⟨r_14, hr_14, hyp⟩ := opt_e hyp
      refine pS (As := [.ref ra]) (rest := []) ⟨hx, hb, hml, hown, hts⟩ hE (mX9_king l g ra row r_14 hr_14) cf_X9_king st_X9_king ml_X9_98 ⟨Nat.le_trans (Nat.le_of_ble_eq_true rfl) hRf, Nat.le_trans (Nat.le_of_ble_eq_true rfl) hRl⟩ (hP.sub (ws' := [(ra, .inl (g.2.1, 61, .inl row))]) [0] rfl) rfl hl.1 rfl (Nat.le_of_ble_eq_true rfl) dX9_ends_48 ⟨Nat.zero_le _, Nat.zero_le _⟩ ?_
      refine lv_iconst (v := (-1)) hx hb dX9_ends_51 (by decide) ?_
      refine lv_icmp_eq (tgt := 67) hx hb dX9_ends_52 (by decide) (fun h_15 => ?_) (fun h_15 => ?_)
      · replace hyp := ite_t h_15 hyp
        exact kJ_12 H locs ls hyp (lv_sub hl [2, 3, 0] rfl) hP hD hS
      · replace hyp := ite_f h_15 hyp
        refine lv_aload_n hx hb dX9_ends_55 rfl (lv_at hl 2 rfl) ?_
        obtain ⟨r_16, hr_16, hyp⟩ := opt_e hyp
        refine pS (As := [.ref rb]) (rest := []) ⟨hx, hb, hml, hown, hts⟩ hE (mX9_king l g rb r_3.2 r_16 hr_16) cf_X9_king st_X9_king ml_X9_98 ⟨Nat.le_trans (Nat.le_of_ble_eq_true rfl) hRf, Nat.le_trans (Nat.le_of_ble_eq_true rfl) hRl⟩ (hP.sub (ws' := [(rb, .inl (g.2.1, 61, .inl r_3.2))]) [1] rfl) rfl hl.1 rfl (Nat.le_of_ble_eq_true rfl) dX9_ends_56 ⟨Nat.zero_le _, Nat.zero_le _⟩ ?_
        refine lv_iconst (v := (-1)) hx hb dX9_ends_59 (by decide) ?_
        refine lv_icmp_ne (tgt := 67) hx hb dX9_ends_60 (by decide) (fun h_17 => ?_) (fun h_17 => ?_)
        · replace hyp := ite_f h_17 hyp
          exact kJ_12 H locs ls hyp (lv_sub hl [2, 3, 0] rfl) hP hD hS
        · replace hyp := ite_t h_17 hyp
          refine lv_iconst (v := 1) hx hb dX9_ends_63 (by decide) ?_
          refine lv_goto (tgt := 68) hx hb dX9_ends_64 (by decide) ?_
          exact kJ_7 1 H locs ls hyp (lv_sub hl [2, 3, 0] rfl) hP hD hS
  obtain ⟨J_18, eJ_18, hyp⟩ := jn_e hyp
  have kJ_18 : ∀ (H : Heap) (locs : List Loc) (ls : Array Slot), J_18 = some r → lv_has ls 8 [(0, .ref ra), (1, .ref rb), (4, .int r_1)] → va_P g.1 vwCl [(ra, .inl (g.2.1, 61, .inl row)), (rb, .inl (g.2.1, 61, .inl r_3.2))] H → va_D A [(ra, .inl (g.2.1, 61, .inl row)), (rb, .inl (g.2.1, 61, .inl r_3.2))] → va_S A s.heap H locs → W p l e R s m args below meth c H locs 0 0 Q (F0 m 39 ls []) := by
    intro H locs  ls hyp hl hP hD hS
    replace hyp := (eJ_18).symm.trans hyp
    refine lv_iconst (v := 0) hx hb dX9_ends_39 (by decide) ?_
    exact kJ_5 0 H locs ls hyp hl hP hD hS
  refine lv_icmp_ne (tgt := 39) hx hb dX9_ends_25 (by decide) (fun h_19 => ?_) (fun h_19 => ?_)
  · replace hyp := ite_f h_19 hyp
    exact kJ_18 H locs ls hyp (lv_sub hl [2, 3, 1] rfl) hP hD hS
  · replace hyp := ite_t h_19 hyp
    refine lv_iload_n hx hb dX9_ends_28 rfl (lv_at hl 5 rfl) ?_
    obtain ⟨r_20, hr_20, hyp⟩ := opt_e hyp
    refine pS (As := [.int a2]) (rest := []) ⟨hx, hb, hml, hown, hts⟩ hE (mX9_isCorner l g a2 r_20 hr_20) cf_X9_isCorner st_X9_isCorner ml_X9_68 ⟨Nat.le_trans (Nat.le_of_ble_eq_true rfl) hRf, Nat.le_trans (Nat.le_of_ble_eq_true rfl) hRl⟩ (va_P_nil) rfl hl.1 rfl (Nat.le_of_ble_eq_true rfl) dX9_ends_29 ⟨Nat.zero_le _, Nat.zero_le _⟩ ?_
    refine lv_if_eq (tgt := 39) hx hb dX9_ends_32 (by decide) (fun h_21 => ?_) (fun h_21 => ?_)
    · replace hyp := ite_t h_21 hyp
      exact kJ_18 H locs ls hyp (lv_sub hl [2, 3, 1] rfl) hP hD hS
    · replace hyp := ite_f h_21 hyp
      refine lv_iconst (v := 1) hx hb dX9_ends_35 (by decide) ?_
      refine lv_goto (tgt := 40) hx hb dX9_ends_36 (by decide) ?_
      exact kJ_5 1 H locs ls hyp (lv_sub hl [2, 3, 1] rfl) hP hD hS

def fX9_winning_L15_B (row : Nat → Int32) (a1 : Int32) (self_4 : Int32 → Int32 → (Nat → Int32) → Option (Int32 × (Nat → Int32))) (v4_2 : Int32) (self_9 : Int32 → Int32 → (Nat → Int32) → Option (Int32 × (Nat → Int32))) (v3_6 : Int32) (v5_7 : Int32) (wrowb_8 : Nat → Int32) : Option (Int32 × (Nat → Int32)) :=
  if 49 ≤ v5_7 then (self_4 v3_6 (v4_2 + 1) wrowb_8) else (grd (inB v4_2 61) ((fX9_side (row v4_2.toNatClampNeg)).bind (fun (r_11 : Int32) => if r_11 = a1 then ((fX9_against row v4_2 v5_7).bind (fun (r_13 : Int32) => jn (fun (t_14 : Int32) (wrowb_15 : Nat → Int32) => self_9 (v3_6 + t_14) (v5_7 + 1) wrowb_15) (fun J_16 => jn (fun (wrowb_17 : Nat → Int32) => J_16 0 wrowb_17) (fun J_18 => if r_13 = 0 then ((fX9_ends row wrowb_8 v4_2 v5_7).bind (fun (r_20 : Int32 × (Nat → Int32)) => if r_20.1 = 0 then (J_18 r_20.2) else (J_16 1 r_20.2))) else (J_18 wrowb_8))))) else (self_4 v3_6 (v4_2 + 1) wrowb_8))))
def fX9_winning_L15 (row : Nat → Int32) (a1 : Int32) (self_4 : Int32 → Int32 → (Nat → Int32) → Option (Int32 × (Nat → Int32))) (v4_2 : Int32) (n : Nat) (v3_6 : Int32) (v5_7 : Int32) (wrowb_8 : Nat → Int32) : Option (Int32 × (Nat → Int32)) := lp (fun zf z => fX9_winning_L15_B row a1 self_4 v4_2 (fun v3_6 v5_7 wrowb_8 => zf (v3_6, v5_7, wrowb_8)) z.1 z.2.1 z.2.2) n (v3_6, v5_7, wrowb_8)
def fX9_winning_L5_B (row : Nat → Int32) (a1 : Int32) (self_4 : Int32 → Int32 → (Nat → Int32) → Option (Int32 × (Nat → Int32))) (v3_1 : Int32) (v4_2 : Int32) (wrowb_3 : Nat → Int32) : Option (Int32 × (Nat → Int32)) :=
  if 49 ≤ v4_2 then (some (v3_1, wrowb_3)) else (fX9_winning_L15 row a1 self_4 v4_2 64 v3_1 0 wrowb_3)
def fX9_winning_L5 (row : Nat → Int32) (a1 : Int32) (n : Nat) (v3_1 : Int32) (v4_2 : Int32) (wrowb_3 : Nat → Int32) : Option (Int32 × (Nat → Int32)) := lp (fun zf z => fX9_winning_L5_B row a1 (fun v3_1 v4_2 wrowb_3 => zf (v3_1, v4_2, wrowb_3)) z.1 z.2.1 z.2.2) n (v3_1, v4_2, wrowb_3)
def fX9_winning (row : Nat → Int32) (rowb : Nat → Int32) (a1 : Int32) : Option (Int32 × (Nat → Int32)) :=
  fX9_winning_L5 row a1 64 0 0 rowb
set_option maxRecDepth 100000 in
set_option maxHeartbeats 4000000 in
theorem mX9_winning (l : Launch) (g : GE) (ra rb : Nat) (row : Nat → Int32) (rowb : Nat → Int32) (a1 : Int32) (r : Int32 × (Nat → Int32)) (hyp : fX9_winning row rowb a1 = some r) : WM l yX9_winning cX9_winning 6 (some .int) 6 152 g [(ra, .inl (g.2.1, 61, .inl row)), (rb, .inl (g.2.1, 61, .inl rowb))] [.ref ra, .ref rb, .int a1] (some (.int r.1)) [(ra, .inl (g.2.1, 61, .inl row)), (rb, .inl (g.2.1, 61, .inl r.2))] := by
  refine metW_intro (by decide) rfl ?_
  intro p e R s m args below meth c Q A hRf hRl hQ hx hb hml hr hlocks hown hts hin hE hA H locs hP hD hS ls hl
  have hown : s.vm.findClass "HallGuardsModel" = some m.cls := hown
  have hl : lv_has ls 6 [(0, .ref ra), (1, .ref rb), (2, .int a1)] := hl
  unfold fX9_winning at hyp
  refine lv_iconst (v := 0) hx hb dX9_winning_0 (by decide) ?_
  refine lv_istore_n (lv' := [(3, .int 0), (0, .ref ra), (1, .ref rb), (2, .int a1)]) hx hb dX9_winning_1 rfl hl (by decide) rfl (fun ls hl => ?_)
  refine lv_iconst (v := 0) hx hb dX9_winning_2 (by decide) ?_
  refine lv_istore (lv' := [(4, .int 0), (3, .int 0), (0, .ref ra), (1, .ref rb), (2, .int a1)]) hx hb dX9_winning_3 hl (by decide) rfl (fun ls hl => ?_)
  refine lp_i (r := r) (fun z : Int32 × Int32 × (Nat → Int32) => ∀ (H : Heap) (locs : List Loc) (ls : Array Slot), lv_has ls 6 [(0, .ref ra), (1, .ref rb), (2, .int a1), (3, .int z.1), (4, .int z.2.1)] → va_P g.1 vwCl [(ra, .inl (g.2.1, 61, .inl row)), (rb, .inl (g.2.1, 61, .inl z.2.2))] H → va_D A [(ra, .inl (g.2.1, 61, .inl row)), (rb, .inl (g.2.1, 61, .inl z.2.2))] → va_S A s.heap H locs → W p l e R s m args below meth c H locs 0 0 Q (F0 m 5 ls [])) ?_ 64 (0, 0, rowb) hyp _ _ ls (lv_sub hl [2, 3, 4, 1, 0] rfl) hP hD hS
  intro self_4T ihself_4T z hyp H locs ls hl hP hD hS
  obtain ⟨v3_1, v4_2, wrowb_3⟩ := z
  obtain ⟨self_4, eself_4⟩ : ∃ f9 : Int32 → Int32 → (Nat → Int32) → Option (Int32 × (Nat → Int32)), f9 = fun v3_1 v4_2 wrowb_3 => self_4T (v3_1, v4_2, wrowb_3) := ⟨_, rfl⟩
  have ihself_4 := fun (v3_1 : Int32) (v4_2 : Int32) (wrowb_3 : Nat → Int32) (h9 : self_4 v3_1 v4_2 wrowb_3 = some r) => ihself_4T (v3_1, v4_2, wrowb_3) (by rw [eself_4] at h9; exact h9)
  replace hyp : fX9_winning_L5_B row a1 self_4 v3_1 v4_2 wrowb_3 = some r := by rw [eself_4]; exact hyp
  have hl : lv_has ls 6 [(0, .ref ra), (1, .ref rb), (2, .int a1), (3, .int v3_1), (4, .int v4_2)] := hl
  have hP : va_P g.1 vwCl [(ra, .inl (g.2.1, 61, .inl row)), (rb, .inl (g.2.1, 61, .inl wrowb_3))] H := hP
  have hD : va_D A [(ra, .inl (g.2.1, 61, .inl row)), (rb, .inl (g.2.1, 61, .inl wrowb_3))] := hD
  show W p l e R s m args below meth c H locs 0 0 Q (F0 m 5 ls [])
  unfold fX9_winning_L5_B at hyp
  refine lv_iload hx hb dX9_winning_5 (lv_at hl 4 rfl) ?_
  refine lv_bipush (v := 49) hx hb dX9_winning_7 (by decide) ?_
  refine lv_icmp_ge (tgt := 76) hx hb dX9_winning_9 (by decide) (fun h_5 => ?_) (fun h_5 => ?_)
  · replace hyp := ite_t h_5 hyp
    refine lv_iload_n hx hb dX9_winning_76 rfl (lv_at hl 3 rfl) ?_
    have hyp := some_e hyp
    subst hyp
    subst hQ
    exact rwI hx hb hr hlocks  hP hD hS dX9_winning_77
  · replace hyp := ite_f h_5 hyp
    refine lv_iconst (v := 0) hx hb dX9_winning_12 (by decide) ?_
    refine lv_istore (lv' := [(5, .int 0), (0, .ref ra), (1, .ref rb), (2, .int a1), (3, .int v3_1), (4, .int v4_2)]) hx hb dX9_winning_13 hl (by decide) rfl (fun ls hl => ?_)
    refine lp_i (r := r) (fun z : Int32 × Int32 × (Nat → Int32) => ∀ (H : Heap) (locs : List Loc) (ls : Array Slot), lv_has ls 6 [(0, .ref ra), (1, .ref rb), (2, .int a1), (3, .int z.1), (4, .int v4_2), (5, .int z.2.1)] → va_P g.1 vwCl [(ra, .inl (g.2.1, 61, .inl row)), (rb, .inl (g.2.1, 61, .inl z.2.2))] H → va_D A [(ra, .inl (g.2.1, 61, .inl row)), (rb, .inl (g.2.1, 61, .inl z.2.2))] → va_S A s.heap H locs → W p l e R s m args below meth c H locs 0 0 Q (F0 m 15 ls [])) ?_ 64 (v3_1, 0, wrowb_3) hyp _ _ ls (lv_sub hl [1, 2, 3, 4, 5, 0] rfl) hP hD hS
    intro self_9T ihself_9T z hyp H locs ls hl hP hD hS
    obtain ⟨v3_6, v5_7, wrowb_8⟩ := z
    obtain ⟨self_9, eself_9⟩ : ∃ f9 : Int32 → Int32 → (Nat → Int32) → Option (Int32 × (Nat → Int32)), f9 = fun v3_6 v5_7 wrowb_8 => self_9T (v3_6, v5_7, wrowb_8) := ⟨_, rfl⟩
    have ihself_9 := fun (v3_6 : Int32) (v5_7 : Int32) (wrowb_8 : Nat → Int32) (h9 : self_9 v3_6 v5_7 wrowb_8 = some r) => ihself_9T (v3_6, v5_7, wrowb_8) (by rw [eself_9] at h9; exact h9)
    replace hyp : fX9_winning_L15_B row a1 self_4 v4_2 self_9 v3_6 v5_7 wrowb_8 = some r := by rw [eself_9]; exact hyp
    have hl : lv_has ls 6 [(0, .ref ra), (1, .ref rb), (2, .int a1), (3, .int v3_6), (4, .int v4_2), (5, .int v5_7)] := hl
    have hP : va_P g.1 vwCl [(ra, .inl (g.2.1, 61, .inl row)), (rb, .inl (g.2.1, 61, .inl wrowb_8))] H := hP
    have hD : va_D A [(ra, .inl (g.2.1, 61, .inl row)), (rb, .inl (g.2.1, 61, .inl wrowb_8))] := hD
    show W p l e R s m args below meth c H locs 0 0 Q (F0 m 15 ls [])
    unfold fX9_winning_L15_B at hyp
    refine lv_iload hx hb dX9_winning_15 (lv_at hl 5 rfl) ?_
    refine lv_bipush (v := 49) hx hb dX9_winning_17 (by decide) ?_
    refine lv_icmp_ge (tgt := 70) hx hb dX9_winning_19 (by decide) (fun h_10 => ?_) (fun h_10 => ?_)
    · replace hyp := ite_t h_10 hyp
      refine lv_iinc (v := v4_2 + 1) (lv' := [(4, .int (v4_2 + 1)), (0, .ref ra), (1, .ref rb), (2, .int a1), (3, .int v3_6), (5, .int v5_7)]) hx hb dX9_winning_70 hl (k := 4) rfl rfl (by decide) rfl (fun ls hl => ?_)
      refine lv_goto (tgt := 5) hx hb dX9_winning_73 (by decide) ?_
      exact ihself_4 v3_6 (v4_2 + 1) wrowb_8 hyp H locs ls (lv_sub hl [1, 2, 3, 4, 0] rfl) hP hD hS
    · replace hyp := ite_f h_10 hyp
      refine lv_aload_n hx hb dX9_winning_22 rfl (lv_at hl 0 rfl) ?_
      refine lv_iload hx hb dX9_winning_23 (lv_at hl 4 rfl) ?_
      obtain ⟨hi, hyp⟩ := grd_e hyp
      refine va_iald hx hb hE.1 hP 0 0 rfl rfl (inB_vp hi) dX9_winning_25 ?_
      obtain ⟨r_11, hr_11, hyp⟩ := opt_e hyp
      refine pS (As := [.int (row v4_2.toNatClampNeg)]) (rest := []) ⟨hx, hb, hml, hown, hts⟩ hE (mX9_side l g (row v4_2.toNatClampNeg) r_11 hr_11) cf_X9_side st_X9_side ml_X9_72 ⟨Nat.le_trans (Nat.le_of_ble_eq_true rfl) hRf, Nat.le_trans (Nat.le_of_ble_eq_true rfl) hRl⟩ (va_P_nil) rfl hl.1 rfl (Nat.le_of_ble_eq_true rfl) dX9_winning_26 ⟨Nat.zero_le _, Nat.zero_le _⟩ ?_
      refine lv_iload_n hx hb dX9_winning_29 rfl (lv_at hl 2 rfl) ?_
      refine lv_icmp_ne (tgt := 70) hx hb dX9_winning_30 (by decide) (fun h_12 => ?_) (fun h_12 => ?_)
      · replace hyp := ite_f h_12 hyp
        refine lv_iinc (v := v4_2 + 1) (lv' := [(4, .int (v4_2 + 1)), (0, .ref ra), (1, .ref rb), (2, .int a1), (3, .int v3_6), (5, .int v5_7)]) hx hb dX9_winning_70 hl (k := 4) rfl rfl (by decide) rfl (fun ls hl => ?_)
        refine lv_goto (tgt := 5) hx hb dX9_winning_73 (by decide) ?_
        exact ihself_4 v3_6 (v4_2 + 1) wrowb_8 hyp H locs ls (lv_sub hl [1, 2, 3, 4, 0] rfl) hP hD hS
      · replace hyp := ite_t h_12 hyp
        refine lv_iload_n hx hb dX9_winning_33 rfl (lv_at hl 3 rfl) ?_
        refine lv_aload_n hx hb dX9_winning_34 rfl (lv_at hl 0 rfl) ?_
        refine lv_iload hx hb dX9_winning_35 (lv_at hl 4 rfl) ?_
        refine lv_iload hx hb dX9_winning_37 (lv_at hl 5 rfl) ?_
        obtain ⟨r_13, hr_13, hyp⟩ := opt_e hyp
        refine pS (As := [.ref ra, .int v4_2, .int v5_7]) (rest := [.int v3_6]) ⟨hx, hb, hml, hown, hts⟩ hE (mX9_against l g ra row v4_2 v5_7 r_13 hr_13) cf_X9_against st_X9_against ml_X9_132 ⟨Nat.le_trans (Nat.le_of_ble_eq_true rfl) hRf, Nat.le_trans (Nat.le_of_ble_eq_true rfl) hRl⟩ (hP.sub (ws' := [(ra, .inl (g.2.1, 61, .inl row))]) [0] rfl) rfl hl.1 rfl (Nat.le_of_ble_eq_true rfl) dX9_winning_39 ⟨Nat.zero_le _, Nat.zero_le _⟩ ?_
        obtain ⟨J_16, eJ_16, hyp⟩ := jn_e hyp
        have kJ_16 : ∀ (t_14 : Int32) (wrowb_15 : Nat → Int32) (H : Heap) (locs : List Loc) (ls : Array Slot), J_16 t_14 wrowb_15 = some r → lv_has ls 6 [(0, .ref ra), (1, .ref rb), (2, .int a1), (4, .int v4_2), (5, .int v5_7)] → va_P g.1 vwCl [(ra, .inl (g.2.1, 61, .inl row)), (rb, .inl (g.2.1, 61, .inl wrowb_15))] H → va_D A [(ra, .inl (g.2.1, 61, .inl row)), (rb, .inl (g.2.1, 61, .inl wrowb_15))] → va_S A s.heap H locs → W p l e R s m args below meth c H locs 0 0 Q (F0 m 62 ls [.int t_14, .int v3_6]) := by
          intro t_14 wrowb_15 H locs  ls hyp hl hP hD hS
          replace hyp := (congrFun (congrFun (eJ_16) t_14) wrowb_15).symm.trans hyp
          refine lv_iadd hx hb dX9_winning_62 ?_
          refine lv_istore_n (lv' := [(3, .int (v3_6 + t_14)), (0, .ref ra), (1, .ref rb), (2, .int a1), (4, .int v4_2), (5, .int v5_7)]) hx hb dX9_winning_63 rfl hl (by decide) rfl (fun ls hl => ?_)
          refine lv_iinc (v := v5_7 + 1) (lv' := [(5, .int (v5_7 + 1)), (3, .int (v3_6 + t_14)), (0, .ref ra), (1, .ref rb), (2, .int a1), (4, .int v4_2)]) hx hb dX9_winning_64 hl (k := 5) rfl rfl (by decide) rfl (fun ls hl => ?_)
          refine lv_goto (tgt := 15) hx hb dX9_winning_67 (by decide) ?_
          exact ihself_9 (v3_6 + t_14) (v5_7 + 1) wrowb_15 hyp H locs ls (lv_sub hl [2, 3, 4, 1, 5, 0] rfl) hP hD hS
        obtain ⟨J_18, eJ_18, hyp⟩ := jn_e hyp
        have kJ_18 : ∀ (wrowb_17 : Nat → Int32) (H : Heap) (locs : List Loc) (ls : Array Slot), J_18 wrowb_17 = some r → lv_has ls 6 [(0, .ref ra), (1, .ref rb), (2, .int a1), (4, .int v4_2), (5, .int v5_7)] → va_P g.1 vwCl [(ra, .inl (g.2.1, 61, .inl row)), (rb, .inl (g.2.1, 61, .inl wrowb_17))] H → va_D A [(ra, .inl (g.2.1, 61, .inl row)), (rb, .inl (g.2.1, 61, .inl wrowb_17))] → va_S A s.heap H locs → W p l e R s m args below meth c H locs 0 0 Q (F0 m 61 ls [.int v3_6]) := by
          intro wrowb_17 H locs  ls hyp hl hP hD hS
          replace hyp := (congrFun (eJ_18) wrowb_17).symm.trans hyp
          refine lv_iconst (v := 0) hx hb dX9_winning_61 (by decide) ?_
          exact kJ_16 0 wrowb_17 H locs ls hyp hl hP hD hS
        refine lv_if_ne (tgt := 61) hx hb dX9_winning_42 (by decide) (fun h_19 => ?_) (fun h_19 => ?_)
        · replace hyp := ite_f h_19 hyp
          exact kJ_18 wrowb_8 H locs ls hyp (lv_sub hl [0, 1, 2, 4, 5] rfl) hP hD hS
        · replace hyp := ite_t h_19 hyp
          refine lv_aload_n hx hb dX9_winning_45 rfl (lv_at hl 0 rfl) ?_
          refine lv_aload_n hx hb dX9_winning_46 rfl (lv_at hl 1 rfl) ?_
          refine lv_iload hx hb dX9_winning_47 (lv_at hl 4 rfl) ?_
          refine lv_iload hx hb dX9_winning_49 (lv_at hl 5 rfl) ?_
          obtain ⟨r_20, hr_20, hyp⟩ := opt_e hyp
          refine wS (As := [.ref ra, .ref rb, .int v4_2, .int v5_7]) (rest := [.int v3_6]) ⟨hx, hb, hml, hown, hts⟩ hE (mX9_ends l g ra rb row wrowb_8 v4_2 v5_7 r_20 hr_20) cf_X9_ends st_X9_ends ml_X9_227 ⟨Nat.le_trans (Nat.le_of_ble_eq_true rfl) hRf, Nat.le_trans (Nat.le_of_ble_eq_true rfl) hRl⟩ hP hD hS hA [0, 1] [] rfl (wr := []) rfl ⟨by decide, by decide⟩ (by decide) rfl hl.1 rfl (Nat.le_of_ble_eq_true rfl) dX9_winning_51 ⟨Nat.zero_le _, Nat.zero_le _⟩ (fun H locs hP hD hS => ?_)
          have hP : va_P g.1 vwCl [(ra, .inl (g.2.1, 61, .inl row)), (rb, .inl (g.2.1, 61, .inl r_20.2))] H := hP
          have hD : va_D A [(ra, .inl (g.2.1, 61, .inl row)), (rb, .inl (g.2.1, 61, .inl r_20.2))] := hD
          refine lv_if_eq (tgt := 61) hx hb dX9_winning_54 (by decide) (fun h_21 => ?_) (fun h_21 => ?_)
          · replace hyp := ite_t h_21 hyp
            exact kJ_18 r_20.2 H locs ls hyp (lv_sub hl [0, 1, 2, 4, 5] rfl) hP hD hS
          · replace hyp := ite_f h_21 hyp
            refine lv_iconst (v := 1) hx hb dX9_winning_57 (by decide) ?_
            refine lv_goto (tgt := 62) hx hb dX9_winning_58 (by decide) ?_
            exact kJ_16 1 r_20.2 H locs ls hyp (lv_sub hl [0, 1, 2, 4, 5] rfl) hP hD hS

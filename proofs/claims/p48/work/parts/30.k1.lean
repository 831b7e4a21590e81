def fJ7_fill_53178_L5_B (a1 : Int32) (self_3 : Int32 → (Nat → Int32) → Option ((Nat → Int32))) (v2_1 : Int32) (wf_2 : Nat → Int32) : Option ((Nat → Int32)) :=
  if 49 ≤ v2_1 then (some (wf_2)) else (grd (inB v2_1 49) (self_3 (v2_1 + 1) (upd wf_2 v2_1.toNatClampNeg a1)))
def fJ7_fill_53178_L5 (a1 : Int32) (n : Nat) (v2_1 : Int32) (wf_2 : Nat → Int32) : Option ((Nat → Int32)) := lp (fun zf z => fJ7_fill_53178_L5_B a1 (fun v2_1 wf_2 => zf (v2_1, wf_2)) z.1 z.2) n (v2_1, wf_2)
def fJ7_fill_53178 (f : Nat → Int32) (a1 : Int32) : Option ((Nat → Int32)) :=
  fJ7_fill_53178_L5 a1 64 0 f
set_option maxRecDepth 100000 in
set_option maxHeartbeats 4000000 in
theorem mJ7_fill_53178 (l : Launch) (g : GE) (ca : Nat) (f : Nat → Int32) (a1 : Int32) (r : (Nat → Int32)) (hyp : fJ7_fill_53178 f a1 = some r) : WM l yJ7_fill_53178 cJ7_fill_53178 4 none 0 0 g [(ca, .inl (g.2.1, 49, .inl f))] [.ref ca, .int a1] none [(ca, .inl (g.2.1, 49, .inl r))] := by
  refine metW_intro (by decide) rfl ?_
  intro p e R s m args below meth c Q A hRf hRl hQ hx hb hml hr hlocks hown hts hin hE hA H locs hP hD hS ls hl
  have hown : s.vm.findClass "java/util/Arrays" = some m.cls := hown
  have hl : lv_has ls 4 [(0, .ref ca), (1, .int a1)] := hl
  unfold fJ7_fill_53178 at hyp
  refine lv_iconst (v := 0) hx hb dJ7_fill_53178_0 (by decide) ?_
  refine lv_istore_n (lv' := [(2, .int 0), (0, .ref ca), (1, .int a1)]) hx hb dJ7_fill_53178_1 rfl hl (by decide) rfl (fun ls hl => ?_)
  refine lv_aload_n hx hb dJ7_fill_53178_2 rfl (lv_at hl 1 rfl) ?_
  refine va_alen (v := 49) hx hb hE.1 hP 0 0 rfl rfl rfl dJ7_fill_53178_3 ?_
  refine lv_istore_n (lv' := [(3, .int 49), (2, .int 0), (0, .ref ca), (1, .int a1)]) hx hb dJ7_fill_53178_4 rfl hl (by decide) rfl (fun ls hl => ?_)
  refine lp_i (r := r) (fun z : Int32 × (Nat → Int32) => ∀ (H : Heap) (locs : List Loc) (ls : Array Slot), lv_has ls 4 [(0, .ref ca), (1, .int a1), (2, .int z.1), (3, .int 49)] → va_P g.1 vwCl [(ca, .inl (g.2.1, 49, .inl z.2))] H → va_D A [(ca, .inl (g.2.1, 49, .inl z.2))] → va_S A s.heap H locs → W p l e R s m args below meth c H locs 0 0 Q (F0 m 5 ls [])) ?_ 64 (0, f) hyp _ _ ls (lv_sub hl [2, 3, 1, 0] rfl) hP hD hS
  intro self_3T ihself_3T z hyp H locs ls hl hP hD hS
  obtain ⟨v2_1, wf_2⟩ := z
  obtain ⟨self_3, eself_3⟩ : ∃ f9 : Int32 → (Nat → Int32) → Option ((Nat → Int32)), f9 = fun v2_1 wf_2 => self_3T (v2_1, wf_2) := ⟨_, rfl⟩
  have ihself_3 := fun (v2_1 : Int32) (wf_2 : Nat → Int32) (h9 : self_3 v2_1 wf_2 = some r) => ihself_3T (v2_1, wf_2) (by rw [eself_3] at h9; exact h9)
  replace hyp : fJ7_fill_53178_L5_B a1 self_3 v2_1 wf_2 = some r := by rw [eself_3]; exact hyp
  have hl : lv_has ls 4 [(0, .ref ca), (1, .int a1), (2, .int v2_1), (3, .int 49)] := hl
  have hP : va_P g.1 vwCl [(ca, .inl (g.2.1, 49, .inl wf_2))] H := hP
  have hD : va_D A [(ca, .inl (g.2.1, 49, .inl wf_2))] := hD
  show W p l e R s m args below meth c H locs 0 0 Q (F0 m 5 ls [])
  unfold fJ7_fill_53178_L5_B at hyp
  refine lv_iload_n hx hb dJ7_fill_53178_5 rfl (lv_at hl 2 rfl) ?_
  refine lv_iload_n hx hb dJ7_fill_53178_6 rfl (lv_at hl 3 rfl) ?_
  refine lv_icmp_ge (tgt := 20) hx hb dJ7_fill_53178_7 (by decide) (fun h_4 => ?_) (fun h_4 => ?_)
  · replace hyp := ite_t h_4 hyp
    have hyp := some_e hyp
    subst hyp
    subst hQ
    exact rwV hx hb hr hlocks  hP hD hS dJ7_fill_53178_20
  · replace hyp := ite_f h_4 hyp
    refine lv_aload_n hx hb dJ7_fill_53178_10 rfl (lv_at hl 0 rfl) ?_
    refine lv_iload_n hx hb dJ7_fill_53178_11 rfl (lv_at hl 2 rfl) ?_
    refine lv_iload_n hx hb dJ7_fill_53178_12 rfl (lv_at hl 1 rfl) ?_
    obtain ⟨hi, hyp⟩ := grd_e hyp
    refine va_iast hx hb hE.1 hP hD hS 0 0 rfl rfl (inB_vp hi) dJ7_fill_53178_13 (fun H locs hP hD hS => ?_)
    have hP : va_P g.1 vwCl [(ca, .inl (g.2.1, 49, .inl (upd wf_2 v2_1.toNatClampNeg a1)))] H := hP
    have hD : va_D A [(ca, .inl (g.2.1, 49, .inl (upd wf_2 v2_1.toNatClampNeg a1)))] := hD
    refine lv_iinc (v := v2_1 + 1) (lv' := [(2, .int (v2_1 + 1)), (0, .ref ca), (1, .int a1), (3, .int 49)]) hx hb dJ7_fill_53178_14 hl (k := 2) rfl rfl (by decide) rfl (fun ls hl => ?_)
    refine lv_goto (tgt := 5) hx hb dJ7_fill_53178_17 (by decide) ?_
    exact ihself_3 (v2_1 + 1) (upd wf_2 v2_1.toNatClampNeg a1) hyp H locs ls (lv_sub hl [1, 2, 0, 3] rfl) hP hD hS

def fX1_hostileTo (f : Nat → Int32) (a1 : Int32) (a2 : Int32) : Option Int32 :=
  if a2 < 0 then (some 0) else (if a2 < 49 then (grd (inB a2 49) (bnd (f a2.toNatClampNeg) (fun (v3_3 : Int32) => if v3_3 = 0 then (if (lg_cmp ((((285873039999041 : Int64).toUInt64 >>> (a2.toInt64.toUInt64 &&& Int64.toUInt64 63)).toInt64) &&& 1) 0) = 0 then (some 0) else (some 1)) else (if (lg_cmp ((((285873023221825 : Int64).toUInt64 >>> (a2.toInt64.toUInt64 &&& Int64.toUInt64 63)).toInt64) &&& 1) 0) = 0 then (jn (fun (t_6 : Int32) => jn (fun (t_8 : Int32) => if t_6 = t_8 then (some 1) else (some 0)) (fun J_9 => if a1 = 1 then (J_9 1) else (J_9 0))) (fun J_7 => if v3_3 = 1 then (J_7 1) else (J_7 0))) else (some 1))))) else (some 0))
set_option maxRecDepth 100000 in
set_option maxHeartbeats 4000000 in
theorem mX1_hostileTo (l : Launch) (g : GE) (b ca : Nat) (kk : Int32) (sg : Int32) (f : Nat → Int32) (a1 : Int32) (a2 : Int32) (r : Int32) (hyp : fX1_hostileTo f a1 a2 = some r) : PI l yX1_hostileTo cX1_hostileTo 4 (some .boolean) 0 0 g [(b, .inr (1, [.ref ca, .int kk, .int sg])), (ca, .inl (g.2.1, 49, .inl f))] [.ref b, .int a1, .int a2] r := by
  refine metP_intro (by decide) rfl ?_
  intro p e R s m args below meth c Q hRf hRl hQ hx hb hml hr hlocks hown hts hin hE hP ls hl
  have hown : s.vm.findClass "HallGuards$Board" = some m.cls := hown
  have hl : lv_has ls 4 [(0, .ref b), (1, .int a1), (2, .int a2)] := hl
  unfold fX1_hostileTo at hyp
  refine lv_iload_n hx hb dX1_hostileTo_0 rfl (lv_at hl 2 rfl) ?_
  refine lv_if_lt (tgt := 10) hx hb dX1_hostileTo_1 (by decide) (fun h_1 => ?_) (fun h_1 => ?_)
  · replace hyp := ite_t h_1 hyp
    refine lv_iconst (v := 0) hx hb dX1_hostileTo_10 (by decide) ?_
    subst hQ
    exact rZ hx hb hr hlocks (Or.inl rfl) (some_e hyp) dX1_hostileTo_11
  · replace hyp := ite_f h_1 hyp
    refine lv_iload_n hx hb dX1_hostileTo_4 rfl (lv_at hl 2 rfl) ?_
    refine lv_bipush (v := 49) hx hb dX1_hostileTo_5 (by decide) ?_
    refine lv_icmp_lt (tgt := 12) hx hb dX1_hostileTo_7 (by decide) (fun h_2 => ?_) (fun h_2 => ?_)
    · replace hyp := ite_t h_2 hyp
      refine lv_aload_n hx hb dX1_hostileTo_12 rfl (lv_at hl 0 rfl) ?_
      refine gf_X1_9 hx hb hts hown hE hP 0 rfl rfl dX1_hostileTo_13 ?_
      refine lv_iload_n hx hb dX1_hostileTo_16 rfl (lv_at hl 2 rfl) ?_
      obtain ⟨hi, hyp⟩ := grd_e hyp
      refine va_iald hx hb hE.1 hP 1 0 rfl rfl (inB_vp hi) dX1_hostileTo_17 ?_
      obtain ⟨v3_3, ev3_3, hyp⟩ := bnd_e hyp
      refine lv_eqi ev3_3 ?_
      refine lv_istore_n (lv' := [(3, .int v3_3), (0, .ref b), (1, .int a1), (2, .int a2)]) hx hb dX1_hostileTo_18 rfl hl (by decide) rfl (fun ls hl => ?_)
      refine lv_iload_n hx hb dX1_hostileTo_19 rfl (lv_at hl 0 rfl) ?_
      refine lv_if_ne (tgt := 41) hx hb dX1_hostileTo_20 (by decide) (fun h_4 => ?_) (fun h_4 => ?_)
      · replace hyp := ite_f h_4 hyp
        refine lv_ldc2 (v := 285873023221825) hx hb hown (hts _ ct_X1_51) dX1_hostileTo_41 ?_
        refine lv_iload_n hx hb dX1_hostileTo_44 rfl (lv_at hl 3 rfl) ?_
        refine lv_lushr hx hb dX1_hostileTo_45 rfl ?_
        refine lv_lconst (v := 1) hx hb dX1_hostileTo_46 (by decide) ?_
        refine lv_land hx hb dX1_hostileTo_47 ?_
        refine lv_lconst (v := 0) hx hb dX1_hostileTo_48 (by decide) ?_
        refine W.lcmp hx hb dX1_hostileTo_49 ?_
        refine lv_if_ne (tgt := 76) hx hb dX1_hostileTo_50 (by decide) (fun h_5 => ?_) (fun h_5 => ?_)
        · replace hyp := ite_f h_5 hyp
          refine lv_iconst (v := 1) hx hb dX1_hostileTo_76 (by decide) ?_
          refine lv_goto (tgt := 81) hx hb dX1_hostileTo_77 (by decide) ?_
          subst hQ
          exact rZ hx hb hr hlocks (Or.inr rfl) (some_e hyp) dX1_hostileTo_81
        · replace hyp := ite_t h_5 hyp
          refine lv_iload_n hx hb dX1_hostileTo_53 rfl (lv_at hl 0 rfl) ?_
          refine lv_iconst (v := 1) hx hb dX1_hostileTo_54 (by decide) ?_
          obtain ⟨J_7, eJ_7, hyp⟩ := jn_e hyp
          have kJ_7 : ∀ (t_6 : Int32) (ls : Array Slot), J_7 t_6 = some r → lv_has ls 4 [(1, .int a1)] → W p l e R s m args below meth c s.heap [] 0 0 Q (F0 m 63 ls [.int t_6]) := by
            intro t_6  ls hyp hl
            replace hyp := (congrFun (eJ_7) t_6).symm.trans hyp
            refine lv_iload_n hx hb dX1_hostileTo_63 rfl (lv_at hl 0 rfl) ?_
            refine lv_iconst (v := 1) hx hb dX1_hostileTo_64 (by decide) ?_
            obtain ⟨J_9, eJ_9, hyp⟩ := jn_e hyp
            have kJ_9 : ∀ (t_8 : Int32) (ls : Array Slot), J_9 t_8 = some r → lv_has ls 4 [] → W p l e R s m args below meth c s.heap [] 0 0 Q (F0 m 73 ls [.int t_8, .int t_6]) := by
              intro t_8  ls hyp hl
              replace hyp := (congrFun (eJ_9) t_8).symm.trans hyp
              refine lv_icmp_ne (tgt := 80) hx hb dX1_hostileTo_73 (by decide) (fun h_10 => ?_) (fun h_10 => ?_)
              · replace hyp := ite_f h_10 hyp
                refine lv_iconst (v := 0) hx hb dX1_hostileTo_80 (by decide) ?_
                subst hQ
                exact rZ hx hb hr hlocks (Or.inl rfl) (some_e hyp) dX1_hostileTo_81
              · replace hyp := ite_t h_10 hyp
                refine lv_iconst (v := 1) hx hb dX1_hostileTo_76 (by decide) ?_
                refine lv_goto (tgt := 81) hx hb dX1_hostileTo_77 (by decide) ?_
                subst hQ
                exact rZ hx hb hr hlocks (Or.inr rfl) (some_e hyp) dX1_hostileTo_81
            refine lv_icmp_ne (tgt := 72) hx hb dX1_hostileTo_65 (by decide) (fun h_11 => ?_) (fun h_11 => ?_)
            · replace hyp := ite_f h_11 hyp
              refine lv_iconst (v := 0) hx hb dX1_hostileTo_72 (by decide) ?_
              exact kJ_9 0 ls hyp (lv_sub hl [] rfl)
            · replace hyp := ite_t h_11 hyp
              refine lv_iconst (v := 1) hx hb dX1_hostileTo_68 (by decide) ?_
              refine lv_goto (tgt := 73) hx hb dX1_hostileTo_69 (by decide) ?_
              exact kJ_9 1 ls hyp (lv_sub hl [] rfl)
          refine lv_icmp_ne (tgt := 62) hx hb dX1_hostileTo_55 (by decide) (fun h_12 => ?_) (fun h_12 => ?_)
          · replace hyp := ite_f h_12 hyp
            refine lv_iconst (v := 0) hx hb dX1_hostileTo_62 (by decide) ?_
            exact kJ_7 0 ls hyp (lv_sub hl [2] rfl)
          · replace hyp := ite_t h_12 hyp
            refine lv_iconst (v := 1) hx hb dX1_hostileTo_58 (by decide) ?_
            refine lv_goto (tgt := 63) hx hb dX1_hostileTo_59 (by decide) ?_
            exact kJ_7 1 ls hyp (lv_sub hl [2] rfl)
      · replace hyp := ite_t h_4 hyp
        refine lv_ldc2 (v := 285873039999041) hx hb hown (hts _ ct_X1_49) dX1_hostileTo_23 ?_
        refine lv_iload_n hx hb dX1_hostileTo_26 rfl (lv_at hl 3 rfl) ?_
        refine lv_lushr hx hb dX1_hostileTo_27 rfl ?_
        refine lv_lconst (v := 1) hx hb dX1_hostileTo_28 (by decide) ?_
        refine lv_land hx hb dX1_hostileTo_29 ?_
        refine lv_lconst (v := 0) hx hb dX1_hostileTo_30 (by decide) ?_
        refine W.lcmp hx hb dX1_hostileTo_31 ?_
        refine lv_if_eq (tgt := 39) hx hb dX1_hostileTo_32 (by decide) (fun h_13 => ?_) (fun h_13 => ?_)
        · replace hyp := ite_t h_13 hyp
          refine lv_iconst (v := 0) hx hb dX1_hostileTo_39 (by decide) ?_
          subst hQ
          exact rZ hx hb hr hlocks (Or.inl rfl) (some_e hyp) dX1_hostileTo_40
        · replace hyp := ite_f h_13 hyp
          refine lv_iconst (v := 1) hx hb dX1_hostileTo_35 (by decide) ?_
          refine lv_goto (tgt := 40) hx hb dX1_hostileTo_36 (by decide) ?_
          subst hQ
          exact rZ hx hb hr hlocks (Or.inr rfl) (some_e hyp) dX1_hostileTo_40
    · replace hyp := ite_f h_2 hyp
      refine lv_iconst (v := 0) hx hb dX1_hostileTo_10 (by decide) ?_
      subst hQ
      exact rZ hx hb hr hlocks (Or.inl rfl) (some_e hyp) dX1_hostileTo_11

def fX1_countHostileBesideKing_L4_B (kk : Int32) (f : Nat → Int32) (self_3 : Int32 → Int32 → Option Int32) (v1_1 : Int32) (v2_2 : Int32) : Option Int32 :=
  if 4 ≤ v2_2 then (some v1_1) else ((fX8_beside kk v2_2).bind (fun (r_5 : Int32) => (fX1_hostileTo f 1 r_5).bind (fun (r_6 : Int32) => if r_6 = 0 then (self_3 v1_1 (v2_2 + 1)) else (self_3 (v1_1 + 1) (v2_2 + 1)))))
def fX1_countHostileBesideKing_L4 (kk : Int32) (f : Nat → Int32) (n : Nat) (v1_1 : Int32) (v2_2 : Int32) : Option Int32 := lp (fun zf z => fX1_countHostileBesideKing_L4_B kk f (fun v1_1 v2_2 => zf (v1_1, v2_2)) z.1 z.2) n (v1_1, v2_2)
def fX1_countHostileBesideKing (kk : Int32) (f : Nat → Int32) : Option Int32 :=
  fX1_countHostileBesideKing_L4 kk f 64 0 0
set_option maxRecDepth 100000 in
set_option maxHeartbeats 4000000 in
theorem mX1_countHostileBesideKing (l : Launch) (g : GE) (b ca : Nat) (kk : Int32) (sg : Int32) (f : Nat → Int32) (r : Int32) (hyp : fX1_countHostileBesideKing kk f = some r) : PI l yX1_countHostileBesideKing cX1_countHostileBesideKing 3 (some .int) 1 23 g [(b, .inr (1, [.ref ca, .int kk, .int sg])), (ca, .inl (g.2.1, 49, .inl f))] [.ref b] r := by
  refine metP_intro (by decide) rfl ?_
  intro p e R s m args below meth c Q hRf hRl hQ hx hb hml hr hlocks hown hts hin hE hP ls hl
  have hown : s.vm.findClass "HallGuards$Board" = some m.cls := hown
  have hl : lv_has ls 3 [(0, .ref b)] := hl
  unfold fX1_countHostileBesideKing at hyp
  refine lv_iconst (v := 0) hx hb dX1_countHostileBesideKing_0 (by decide) ?_
  refine lv_istore_n (lv' := [(1, .int 0), (0, .ref b)]) hx hb dX1_countHostileBesideKing_1 rfl hl (by decide) rfl (fun ls hl => ?_)
  refine lv_iconst (v := 0) hx hb dX1_countHostileBesideKing_2 (by decide) ?_
  refine lv_istore_n (lv' := [(2, .int 0), (1, .int 0), (0, .ref b)]) hx hb dX1_countHostileBesideKing_3 rfl hl (by decide) rfl (fun ls hl => ?_)
  refine lp_i (r := r) (fun z : Int32 × Int32 => ∀ (ls : Array Slot), lv_has ls 3 [(0, .ref b), (1, .int z.1), (2, .int z.2)] → W p l e R s m args below meth c s.heap [] 0 0 Q (F0 m 4 ls [])) ?_ 64 (0, 0) hyp ls (lv_sub hl [2, 1, 0] rfl)
  intro self_3T ihself_3T z hyp ls hl
  obtain ⟨v1_1, v2_2⟩ := z
  obtain ⟨self_3, eself_3⟩ : ∃ f9 : Int32 → Int32 → Option Int32, f9 = fun v1_1 v2_2 => self_3T (v1_1, v2_2) := ⟨_, rfl⟩
  have ihself_3 := fun (v1_1 : Int32) (v2_2 : Int32) (h9 : self_3 v1_1 v2_2 = some r) => ihself_3T (v1_1, v2_2) (by rw [eself_3] at h9; exact h9)
  replace hyp : fX1_countHostileBesideKing_L4_B kk f self_3 v1_1 v2_2 = some r := by rw [eself_3]; exact hyp
  have hl : lv_has ls 3 [(0, .ref b), (1, .int v1_1), (2, .int v2_2)] := hl
  show W p l e R s m args below meth c s.heap [] 0 0 Q (F0 m 4 ls [])
  unfold fX1_countHostileBesideKing_L4_B at hyp
  refine lv_iload_n hx hb dX1_countHostileBesideKing_4 rfl (lv_at hl 2 rfl) ?_
  refine lv_iconst (v := 4) hx hb dX1_countHostileBesideKing_5 (by decide) ?_
  refine lv_icmp_ge (tgt := 34) hx hb dX1_countHostileBesideKing_6 (by decide) (fun h_4 => ?_) (fun h_4 => ?_)
  · replace hyp := ite_t h_4 hyp
    refine lv_iload_n hx hb dX1_countHostileBesideKing_34 rfl (lv_at hl 1 rfl) ?_
    subst hQ
    exact rI hx hb hr hlocks (some_e hyp) dX1_countHostileBesideKing_35
  · replace hyp := ite_f h_4 hyp
    refine lv_aload_n hx hb dX1_countHostileBesideKing_9 rfl (lv_at hl 0 rfl) ?_
    refine lv_iconst (v := 1) hx hb dX1_countHostileBesideKing_10 (by decide) ?_
    refine lv_aload_n hx hb dX1_countHostileBesideKing_11 rfl (lv_at hl 0 rfl) ?_
    refine gf_X1_15 hx hb hts hown hE hP 0 rfl rfl dX1_countHostileBesideKing_12 ?_
    refine lv_iload_n hx hb dX1_countHostileBesideKing_15 rfl (lv_at hl 2 rfl) ?_
    obtain ⟨r_5, hr_5, hyp⟩ := opt_e hyp
    refine pSN (As := [.int kk, .int v2_2]) (rest := [.int 1, .ref b]) ⟨hx, hb, hml, hown, hts⟩ hE (mX8_beside l g kk v2_2 r_5 hr_5) cf_X8_beside st_X8_beside ml_X1_53 ⟨Nat.le_trans (Nat.le_of_ble_eq_true rfl) hRf, Nat.le_trans (Nat.le_of_ble_eq_true rfl) hRl⟩ (va_P_nil) rfl hl.1 rfl (Nat.le_of_ble_eq_true rfl) dX1_countHostileBesideKing_16 ⟨Nat.zero_le _, Nat.zero_le _⟩ ?_
    obtain ⟨r_6, hr_6, hyp⟩ := opt_e hyp
    refine pV (As := [.int 1, .int r_5]) (rest := []) ⟨hx, hb, hml, hown, hts⟩ hE (mX1_hostileTo l g b ca kk sg f 1 r_5 r_6 hr_6) cf_X1_hostileTo im_X1_hostileTo se_X1_hostileTo ml_X1_57 ⟨Nat.le_trans (Nat.le_of_ble_eq_true rfl) hRf, Nat.le_trans (Nat.le_of_ble_eq_true rfl) hRl⟩ (hP.sub (ws' := [(b, .inr (1, [.ref ca, .int kk, .int sg])), (ca, .inl (g.2.1, 49, .inl f))]) [0, 1] rfl) (ci := 1) (q0 := 0) rfl rfl rfl rfl hl.1 rfl (Nat.le_of_ble_eq_true rfl) dX1_countHostileBesideKing_19 ⟨Nat.zero_le _, Nat.zero_le _⟩ ?_
    refine lv_if_eq (tgt := 28) hx hb dX1_countHostileBesideKing_22 (by decide) (fun h_7 => ?_) (fun h_7 => ?_)
    · replace hyp := ite_t h_7 hyp
      refine lv_iinc (v := v2_2 + 1) (lv' := [(2, .int (v2_2 + 1)), (0, .ref b), (1, .int v1_1)]) hx hb dX1_countHostileBesideKing_28 hl (k := 2) rfl rfl (by decide) rfl (fun ls hl => ?_)
      refine lv_goto (tgt := 4) hx hb dX1_countHostileBesideKing_31 (by decide) ?_
      exact ihself_3 v1_1 (v2_2 + 1) hyp ls (lv_sub hl [1, 2, 0] rfl)
    · replace hyp := ite_f h_7 hyp
      refine lv_iinc (v := v1_1 + 1) (lv' := [(1, .int (v1_1 + 1)), (0, .ref b), (2, .int v2_2)]) hx hb dX1_countHostileBesideKing_25 hl (k := 1) rfl rfl (by decide) rfl (fun ls hl => ?_)
      refine lv_iinc (v := v2_2 + 1) (lv' := [(2, .int (v2_2 + 1)), (1, .int (v1_1 + 1)), (0, .ref b)]) hx hb dX1_countHostileBesideKing_28 hl (k := 2) rfl rfl (by decide) rfl (fun ls hl => ?_)
      refine lv_goto (tgt := 4) hx hb dX1_countHostileBesideKing_31 (by decide) ?_
      exact ihself_3 (v1_1 + 1) (v2_2 + 1) hyp ls (lv_sub hl [2, 1, 0] rfl)

def fX1_isFreeTo_L6_B (f : Nat → Int32) (a2 : Int32) (a3 : Int32) (self_3 : Int32 → Int32 → Option Int32) (v4_1 : Int32) (v5_2 : Int32) : Option Int32 :=
  if 7 ≤ v5_2 then (some 0) else ((fX8_beside v4_1 a3).bind (fun (r_5 : Int32) => if r_5 < 0 then (some 0) else ((fX1_at f r_5).bind (fun (r_7 : Int32) => if r_7 = 0 then (if r_5 = a2 then (some 1) else (self_3 r_5 (v5_2 + 1))) else (some 0)))))
def fX1_isFreeTo_L6 (f : Nat → Int32) (a2 : Int32) (a3 : Int32) (n : Nat) (v4_1 : Int32) (v5_2 : Int32) : Option Int32 := lp (fun zf z => fX1_isFreeTo_L6_B f a2 a3 (fun v4_1 v5_2 => zf (v4_1, v5_2)) z.1 z.2) n (v4_1, v5_2)
def fX1_isFreeTo (f : Nat → Int32) (a1 : Int32) (a2 : Int32) (a3 : Int32) : Option Int32 :=
  fX1_isFreeTo_L6 f a2 a3 64 a1 1
set_option maxRecDepth 100000 in
set_option maxHeartbeats 4000000 in
theorem mX1_isFreeTo (l : Launch) (g : GE) (b ca : Nat) (kk : Int32) (sg : Int32) (f : Nat → Int32) (a1 : Int32) (a2 : Int32) (a3 : Int32) (r : Int32) (hyp : fX1_isFreeTo f a1 a2 a3 = some r) : PI l yX1_isFreeTo cX1_isFreeTo 6 (some .boolean) 1 21 g [(b, .inr (1, [.ref ca, .int kk, .int sg])), (ca, .inl (g.2.1, 49, .inl f))] [.ref b, .int a1, .int a2, .int a3] r := by
  refine metP_intro (by decide) rfl ?_
  intro p e R s m args below meth c Q hRf hRl hQ hx hb hml hr hlocks hown hts hin hE hP ls hl
  have hown : s.vm.findClass "HallGuards$Board" = some m.cls := hown
  have hl : lv_has ls 6 [(0, .ref b), (1, .int a1), (2, .int a2), (3, .int a3)] := hl
  unfold fX1_isFreeTo at hyp
  refine lv_iload_n hx hb dX1_isFreeTo_0 rfl (lv_at hl 1 rfl) ?_
  refine lv_istore (lv' := [(4, .int a1), (0, .ref b), (1, .int a1), (2, .int a2), (3, .int a3)]) hx hb dX1_isFreeTo_1 hl (by decide) rfl (fun ls hl => ?_)
  refine lv_iconst (v := 1) hx hb dX1_isFreeTo_3 (by decide) ?_
  refine lv_istore (lv' := [(5, .int 1), (4, .int a1), (0, .ref b), (1, .int a1), (2, .int a2), (3, .int a3)]) hx hb dX1_isFreeTo_4 hl (by decide) rfl (fun ls hl => ?_)
  refine lp_i (r := r) (fun z : Int32 × Int32 => ∀ (ls : Array Slot), lv_has ls 6 [(0, .ref b), (2, .int a2), (3, .int a3), (4, .int z.1), (5, .int z.2)] → W p l e R s m args below meth c s.heap [] 0 0 Q (F0 m 6 ls [])) ?_ 64 (a1, 1) hyp ls (lv_sub hl [2, 4, 5, 1, 0] rfl)
  intro self_3T ihself_3T z hyp ls hl
  obtain ⟨v4_1, v5_2⟩ := z
  obtain ⟨self_3, eself_3⟩ : ∃ f9 : Int32 → Int32 → Option Int32, f9 = fun v4_1 v5_2 => self_3T (v4_1, v5_2) := ⟨_, rfl⟩
  have ihself_3 := fun (v4_1 : Int32) (v5_2 : Int32) (h9 : self_3 v4_1 v5_2 = some r) => ihself_3T (v4_1, v5_2) (by rw [eself_3] at h9; exact h9)
  replace hyp : fX1_isFreeTo_L6_B f a2 a3 self_3 v4_1 v5_2 = some r := by rw [eself_3]; exact hyp
  have hl : lv_has ls 6 [(0, .ref b), (2, .int a2), (3, .int a3), (4, .int v4_1), (5, .int v5_2)] := hl
  show W p l e R s m args below meth c s.heap [] 0 0 Q (F0 m 6 ls [])
  unfold fX1_isFreeTo_L6_B at hyp
  refine lv_iload hx hb dX1_isFreeTo_6 (lv_at hl 4 rfl) ?_
  refine lv_bipush (v := 7) hx hb dX1_isFreeTo_8 (by decide) ?_
  refine lv_icmp_ge (tgt := 51) hx hb dX1_isFreeTo_10 (by decide) (fun h_4 => ?_) (fun h_4 => ?_)
  · replace hyp := ite_t h_4 hyp
    refine lv_iconst (v := 0) hx hb dX1_isFreeTo_51 (by decide) ?_
    subst hQ
    exact rZ hx hb hr hlocks (Or.inl rfl) (some_e hyp) dX1_isFreeTo_52
  · replace hyp := ite_f h_4 hyp
    refine lv_iload hx hb dX1_isFreeTo_13 (lv_at hl 3 rfl) ?_
    refine lv_iload_n hx hb dX1_isFreeTo_15 rfl (lv_at hl 2 rfl) ?_
    obtain ⟨r_5, hr_5, hyp⟩ := opt_e hyp
    refine pSN (As := [.int v4_1, .int a3]) (rest := []) ⟨hx, hb, hml, hown, hts⟩ hE (mX8_beside l g v4_1 a3 r_5 hr_5) cf_X8_beside st_X8_beside ml_X1_53 ⟨Nat.le_trans (Nat.le_of_ble_eq_true rfl) hRf, Nat.le_trans (Nat.le_of_ble_eq_true rfl) hRl⟩ (va_P_nil) rfl hl.1 rfl (Nat.le_of_ble_eq_true rfl) dX1_isFreeTo_16 ⟨Nat.zero_le _, Nat.zero_le _⟩ ?_
    refine lv_istore (lv' := [(4, .int r_5), (0, .ref b), (2, .int a2), (3, .int a3), (5, .int v5_2)]) hx hb dX1_isFreeTo_19 hl (by decide) rfl (fun ls hl => ?_)
    refine lv_iload hx hb dX1_isFreeTo_21 (lv_at hl 0 rfl) ?_
    refine lv_if_lt (tgt := 35) hx hb dX1_isFreeTo_23 (by decide) (fun h_6 => ?_) (fun h_6 => ?_)
    · replace hyp := ite_t h_6 hyp
      refine lv_iconst (v := 0) hx hb dX1_isFreeTo_35 (by decide) ?_
      subst hQ
      exact rZ hx hb hr hlocks (Or.inl rfl) (some_e hyp) dX1_isFreeTo_36
    · replace hyp := ite_f h_6 hyp
      refine lv_aload_n hx hb dX1_isFreeTo_26 rfl (lv_at hl 1 rfl) ?_
      refine lv_iload hx hb dX1_isFreeTo_27 (lv_at hl 0 rfl) ?_
      obtain ⟨r_7, hr_7, hyp⟩ := opt_e hyp
      refine pV (As := [.int r_5]) (rest := []) ⟨hx, hb, hml, hown, hts⟩ hE (mX1_at l g b ca kk sg f r_5 r_7 hr_7) cf_X1_at im_X1_at se_X1_at ml_X1_60 ⟨Nat.le_trans (Nat.le_of_ble_eq_true rfl) hRf, Nat.le_trans (Nat.le_of_ble_eq_true rfl) hRl⟩ (hP.sub (ws' := [(b, .inr (1, [.ref ca, .int kk, .int sg])), (ca, .inl (g.2.1, 49, .inl f))]) [0, 1] rfl) (ci := 1) (q0 := 0) rfl rfl rfl rfl hl.1 rfl (Nat.le_of_ble_eq_true rfl) dX1_isFreeTo_29 ⟨Nat.zero_le _, Nat.zero_le _⟩ ?_
      refine lv_if_eq (tgt := 37) hx hb dX1_isFreeTo_32 (by decide) (fun h_8 => ?_) (fun h_8 => ?_)
      · replace hyp := ite_t h_8 hyp
        refine lv_iload hx hb dX1_isFreeTo_37 (lv_at hl 0 rfl) ?_
        refine lv_iload_n hx hb dX1_isFreeTo_39 rfl (lv_at hl 2 rfl) ?_
        refine lv_icmp_ne (tgt := 45) hx hb dX1_isFreeTo_40 (by decide) (fun h_9 => ?_) (fun h_9 => ?_)
        · replace hyp := ite_f h_9 hyp
          refine lv_iinc (v := v5_2 + 1) (lv' := [(5, .int (v5_2 + 1)), (4, .int r_5), (0, .ref b), (2, .int a2), (3, .int a3)]) hx hb dX1_isFreeTo_45 hl (k := 4) rfl rfl (by decide) rfl (fun ls hl => ?_)
          refine lv_goto (tgt := 6) hx hb dX1_isFreeTo_48 (by decide) ?_
          exact ihself_3 r_5 (v5_2 + 1) hyp ls (lv_sub hl [2, 3, 4, 1, 0] rfl)
        · replace hyp := ite_t h_9 hyp
          refine lv_iconst (v := 1) hx hb dX1_isFreeTo_43 (by decide) ?_
          subst hQ
          exact rZ hx hb hr hlocks (Or.inr rfl) (some_e hyp) dX1_isFreeTo_44
      · replace hyp := ite_f h_8 hyp
        refine lv_iconst (v := 0) hx hb dX1_isFreeTo_35 (by decide) ?_
        subst hQ
        exact rZ hx hb hr hlocks (Or.inl rfl) (some_e hyp) dX1_isFreeTo_36

def fX1_obstacle (f : Nat → Int32) (a1 : Int32) (a2 : Int32) : Option Int32 :=
  (fX1_at f a1).bind (fun (r_1 : Int32) => if r_1 = 0 then (some 1) else ((fX8_directionOf a1 a2).bind (fun (r_3 : Int32) => if 0 ≤ r_3 then ((fX1_isFreeTo f a1 a2 r_3).bind (fun (r_5 : Int32) => if r_5 = 0 then (some 3) else ((fX8_mayStop r_1 a2).bind (fun (r_7 : Int32) => if r_7 = 0 then (some 4) else (some 0))))) else (some 2))))
set_option maxRecDepth 100000 in
set_option maxHeartbeats 4000000 in
theorem mX1_obstacle (l : Launch) (g : GE) (b ca : Nat) (kk : Int32) (sg : Int32) (f : Nat → Int32) (a1 : Int32) (a2 : Int32) (r : Int32) (hyp : fX1_obstacle f a1 a2 = some r) : PI l yX1_obstacle cX1_obstacle 5 (some .int) 2 46 g [(b, .inr (1, [.ref ca, .int kk, .int sg])), (ca, .inl (g.2.1, 49, .inl f))] [.ref b, .int a1, .int a2] r := by
  refine metP_intro (by decide) rfl ?_
  intro p e R s m args below meth c Q hRf hRl hQ hx hb hml hr hlocks hown hts hin hE hP ls hl
  have hown : s.vm.findClass "HallGuards$Board" = some m.cls := hown
  have hl : lv_has ls 5 [(0, .ref b), (1, .int a1), (2, .int a2)] := hl
  unfold fX1_obstacle at hyp
  refine lv_aload_n hx hb dX1_obstacle_0 rfl (lv_at hl 0 rfl) ?_
  refine lv_iload_n hx hb dX1_obstacle_1 rfl (lv_at hl 1 rfl) ?_
  obtain ⟨r_1, hr_1, hyp⟩ := opt_e hyp
  refine pV (As := [.int a1]) (rest := []) ⟨hx, hb, hml, hown, hts⟩ hE (mX1_at l g b ca kk sg f a1 r_1 hr_1) cf_X1_at im_X1_at se_X1_at ml_X1_60 ⟨Nat.le_trans (Nat.le_of_ble_eq_true rfl) hRf, Nat.le_trans (Nat.le_of_ble_eq_true rfl) hRl⟩ (hP.sub (ws' := [(b, .inr (1, [.ref ca, .int kk, .int sg])), (ca, .inl (g.2.1, 49, .inl f))]) [0, 1] rfl) (ci := 1) (q0 := 0) rfl rfl rfl rfl hl.1 rfl (Nat.le_of_ble_eq_true rfl) dX1_obstacle_2 ⟨Nat.zero_le _, Nat.zero_le _⟩ ?_
  refine lv_istore_n (lv' := [(3, .int r_1), (0, .ref b), (1, .int a1), (2, .int a2)]) hx hb dX1_obstacle_5 rfl hl (by decide) rfl (fun ls hl => ?_)
  refine lv_iload_n hx hb dX1_obstacle_6 rfl (lv_at hl 0 rfl) ?_
  refine lv_if_ne (tgt := 12) hx hb dX1_obstacle_7 (by decide) (fun h_2 => ?_) (fun h_2 => ?_)
  · replace hyp := ite_f h_2 hyp
    refine lv_iload_n hx hb dX1_obstacle_12 rfl (lv_at hl 2 rfl) ?_
    refine lv_iload_n hx hb dX1_obstacle_13 rfl (lv_at hl 3 rfl) ?_
    obtain ⟨r_3, hr_3, hyp⟩ := opt_e hyp
    refine pSN (As := [.int a1, .int a2]) (rest := []) ⟨hx, hb, hml, hown, hts⟩ hE (mX8_directionOf l g a1 a2 r_3 hr_3) cf_X8_directionOf st_X8_directionOf ml_X1_63 ⟨Nat.le_trans (Nat.le_of_ble_eq_true rfl) hRf, Nat.le_trans (Nat.le_of_ble_eq_true rfl) hRl⟩ (va_P_nil) rfl hl.1 rfl (Nat.le_of_ble_eq_true rfl) dX1_obstacle_14 ⟨Nat.zero_le _, Nat.zero_le _⟩ ?_
    refine lv_istore (lv' := [(4, .int r_3), (3, .int r_1), (0, .ref b), (1, .int a1), (2, .int a2)]) hx hb dX1_obstacle_17 hl (by decide) rfl (fun ls hl => ?_)
    refine lv_iload hx hb dX1_obstacle_19 (lv_at hl 0 rfl) ?_
    refine lv_if_ge (tgt := 26) hx hb dX1_obstacle_21 (by decide) (fun h_4 => ?_) (fun h_4 => ?_)
    · replace hyp := ite_t h_4 hyp
      refine lv_aload_n hx hb dX1_obstacle_26 rfl (lv_at hl 2 rfl) ?_
      refine lv_iload_n hx hb dX1_obstacle_27 rfl (lv_at hl 3 rfl) ?_
      refine lv_iload_n hx hb dX1_obstacle_28 rfl (lv_at hl 4 rfl) ?_
      refine lv_iload hx hb dX1_obstacle_29 (lv_at hl 0 rfl) ?_
      obtain ⟨r_5, hr_5, hyp⟩ := opt_e hyp
      refine pV (As := [.int a1, .int a2, .int r_3]) (rest := []) ⟨hx, hb, hml, hown, hts⟩ hE (mX1_isFreeTo l g b ca kk sg f a1 a2 r_3 r_5 hr_5) cf_X1_isFreeTo im_X1_isFreeTo se_X1_isFreeTo ml_X1_66 ⟨Nat.le_trans (Nat.le_of_ble_eq_true rfl) hRf, Nat.le_trans (Nat.le_of_ble_eq_true rfl) hRl⟩ (hP.sub (ws' := [(b, .inr (1, [.ref ca, .int kk, .int sg])), (ca, .inl (g.2.1, 49, .inl f))]) [0, 1] rfl) (ci := 1) (q0 := 0) rfl rfl rfl rfl hl.1 rfl (Nat.le_of_ble_eq_true rfl) dX1_obstacle_31 ⟨Nat.zero_le _, Nat.zero_le _⟩ ?_
      refine lv_if_ne (tgt := 39) hx hb dX1_obstacle_34 (by decide) (fun h_6 => ?_) (fun h_6 => ?_)
      · replace hyp := ite_f h_6 hyp
        refine lv_iload_n hx hb dX1_obstacle_39 rfl (lv_at hl 1 rfl) ?_
        refine lv_iload_n hx hb dX1_obstacle_40 rfl (lv_at hl 4 rfl) ?_
        obtain ⟨r_7, hr_7, hyp⟩ := opt_e hyp
        refine pSN (As := [.int r_1, .int a2]) (rest := []) ⟨hx, hb, hml, hown, hts⟩ hE (mX8_mayStop l g r_1 a2 r_7 hr_7) cf_X8_mayStop st_X8_mayStop ml_X1_38 ⟨Nat.le_trans (Nat.le_of_ble_eq_true rfl) hRf, Nat.le_trans (Nat.le_of_ble_eq_true rfl) hRl⟩ (va_P_nil) rfl hl.1 rfl (Nat.le_of_ble_eq_true rfl) dX1_obstacle_41 ⟨Nat.zero_le _, Nat.zero_le _⟩ ?_
        refine lv_if_eq (tgt := 51) hx hb dX1_obstacle_44 (by decide) (fun h_8 => ?_) (fun h_8 => ?_)
        · replace hyp := ite_t h_8 hyp
          refine lv_iconst (v := 4) hx hb dX1_obstacle_51 (by decide) ?_
          subst hQ
          exact rI hx hb hr hlocks (some_e hyp) dX1_obstacle_52
        · replace hyp := ite_f h_8 hyp
          refine lv_iconst (v := 0) hx hb dX1_obstacle_47 (by decide) ?_
          refine lv_goto (tgt := 52) hx hb dX1_obstacle_48 (by decide) ?_
          subst hQ
          exact rI hx hb hr hlocks (some_e hyp) dX1_obstacle_52
      · replace hyp := ite_t h_6 hyp
        refine lv_iconst (v := 3) hx hb dX1_obstacle_37 (by decide) ?_
        subst hQ
        exact rI hx hb hr hlocks (some_e hyp) dX1_obstacle_38
    · replace hyp := ite_f h_4 hyp
      refine lv_iconst (v := 2) hx hb dX1_obstacle_24 (by decide) ?_
      subst hQ
      exact rI hx hb hr hlocks (some_e hyp) dX1_obstacle_25
  · replace hyp := ite_t h_2 hyp
    refine lv_iconst (v := 1) hx hb dX1_obstacle_10 (by decide) ?_
    subst hQ
    exact rI hx hb hr hlocks (some_e hyp) dX1_obstacle_11

def fX1_allowsPiece (kk : Int32) (a1 : Int32) (a2 : Int32) : Option Int32 :=
  if a2 = 3 then (if kk < 0 then (some 1) else (if kk = a1 then (some 1) else (some 0))) else (if a2 = 0 then (some 1) else ((fX8_mayStop a2 a1).bind (fun (r_3 : Int32) => if r_3 = 0 then (some 0) else (some 1))))
set_option maxRecDepth 100000 in
set_option maxHeartbeats 4000000 in
theorem mX1_allowsPiece (l : Launch) (g : GE) (b ca : Nat) (kk : Int32) (sg : Int32) (f : Nat → Int32) (a1 : Int32) (a2 : Int32) (r : Int32) (hyp : fX1_allowsPiece kk a1 a2 = some r) : PI l yX1_allowsPiece cX1_allowsPiece 3 (some .boolean) 1 21 g [(b, .inr (1, [.ref ca, .int kk, .int sg])), (ca, .inl (g.2.1, 49, .inl f))] [.ref b, .int a1, .int a2] r := by
  refine metP_intro (by decide) rfl ?_
  intro p e R s m args below meth c Q hRf hRl hQ hx hb hml hr hlocks hown hts hin hE hP ls hl
  have hown : s.vm.findClass "HallGuards$Board" = some m.cls := hown
  have hl : lv_has ls 3 [(0, .ref b), (1, .int a1), (2, .int a2)] := hl
  unfold fX1_allowsPiece at hyp
  refine lv_iload_n hx hb dX1_allowsPiece_0 rfl (lv_at hl 2 rfl) ?_
  refine lv_iconst (v := 3) hx hb dX1_allowsPiece_1 (by decide) ?_
  refine lv_icmp_ne (tgt := 26) hx hb dX1_allowsPiece_2 (by decide) (fun h_1 => ?_) (fun h_1 => ?_)
  · replace hyp := ite_f h_1 hyp
    refine lv_iload_n hx hb dX1_allowsPiece_26 rfl (lv_at hl 2 rfl) ?_
    refine lv_if_eq (tgt := 38) hx hb dX1_allowsPiece_27 (by decide) (fun h_2 => ?_) (fun h_2 => ?_)
    · replace hyp := ite_t h_2 hyp
      refine lv_iconst (v := 1) hx hb dX1_allowsPiece_38 (by decide) ?_
      refine lv_goto (tgt := 43) hx hb dX1_allowsPiece_39 (by decide) ?_
      subst hQ
      exact rZ hx hb hr hlocks (Or.inr rfl) (some_e hyp) dX1_allowsPiece_43
    · replace hyp := ite_f h_2 hyp
      refine lv_iload_n hx hb dX1_allowsPiece_30 rfl (lv_at hl 2 rfl) ?_
      refine lv_iload_n hx hb dX1_allowsPiece_31 rfl (lv_at hl 1 rfl) ?_
      obtain ⟨r_3, hr_3, hyp⟩ := opt_e hyp
      refine pSN (As := [.int a2, .int a1]) (rest := []) ⟨hx, hb, hml, hown, hts⟩ hE (mX8_mayStop l g a2 a1 r_3 hr_3) cf_X8_mayStop st_X8_mayStop ml_X1_38 ⟨Nat.le_trans (Nat.le_of_ble_eq_true rfl) hRf, Nat.le_trans (Nat.le_of_ble_eq_true rfl) hRl⟩ (va_P_nil) rfl hl.1 rfl (Nat.le_of_ble_eq_true rfl) dX1_allowsPiece_32 ⟨Nat.zero_le _, Nat.zero_le _⟩ ?_
      refine lv_if_eq (tgt := 42) hx hb dX1_allowsPiece_35 (by decide) (fun h_4 => ?_) (fun h_4 => ?_)
      · replace hyp := ite_t h_4 hyp
        refine lv_iconst (v := 0) hx hb dX1_allowsPiece_42 (by decide) ?_
        subst hQ
        exact rZ hx hb hr hlocks (Or.inl rfl) (some_e hyp) dX1_allowsPiece_43
      · replace hyp := ite_f h_4 hyp
        refine lv_iconst (v := 1) hx hb dX1_allowsPiece_38 (by decide) ?_
        refine lv_goto (tgt := 43) hx hb dX1_allowsPiece_39 (by decide) ?_
        subst hQ
        exact rZ hx hb hr hlocks (Or.inr rfl) (some_e hyp) dX1_allowsPiece_43
  · replace hyp := ite_t h_1 hyp
    refine lv_aload_n hx hb dX1_allowsPiece_5 rfl (lv_at hl 0 rfl) ?_
    refine gf_X1_15 hx hb hts hown hE hP 0 rfl rfl dX1_allowsPiece_6 ?_
    refine lv_if_lt (tgt := 20) hx hb dX1_allowsPiece_9 (by decide) (fun h_5 => ?_) (fun h_5 => ?_)
    · replace hyp := ite_t h_5 hyp
      refine lv_iconst (v := 1) hx hb dX1_allowsPiece_20 (by decide) ?_
      refine lv_goto (tgt := 25) hx hb dX1_allowsPiece_21 (by decide) ?_
      subst hQ
      exact rZ hx hb hr hlocks (Or.inr rfl) (some_e hyp) dX1_allowsPiece_25
    · replace hyp := ite_f h_5 hyp
      refine lv_aload_n hx hb dX1_allowsPiece_12 rfl (lv_at hl 0 rfl) ?_
      refine gf_X1_15 hx hb hts hown hE hP 0 rfl rfl dX1_allowsPiece_13 ?_
      refine lv_iload_n hx hb dX1_allowsPiece_16 rfl (lv_at hl 1 rfl) ?_
      refine lv_icmp_ne (tgt := 24) hx hb dX1_allowsPiece_17 (by decide) (fun h_6 => ?_) (fun h_6 => ?_)
      · replace hyp := ite_f h_6 hyp
        refine lv_iconst (v := 0) hx hb dX1_allowsPiece_24 (by decide) ?_
        subst hQ
        exact rZ hx hb hr hlocks (Or.inl rfl) (some_e hyp) dX1_allowsPiece_25
      · replace hyp := ite_t h_6 hyp
        refine lv_iconst (v := 1) hx hb dX1_allowsPiece_20 (by decide) ?_
        refine lv_goto (tgt := 25) hx hb dX1_allowsPiece_21 (by decide) ?_
        subst hQ
        exact rZ hx hb hr hlocks (Or.inr rfl) (some_e hyp) dX1_allowsPiece_25

def fX1_countPieces_L4_B (f : Nat → Int32) (a1 : Int32) (self_3 : Int32 → Int32 → Option Int32) (v2_1 : Int32) (v3_2 : Int32) : Option Int32 :=
  if 49 ≤ v3_2 then (some v2_1) else (grd (inB v3_2 49) ((fX8_sideOf (f v3_2.toNatClampNeg)).bind (fun (r_5 : Int32) => if r_5 = a1 then (self_3 (v2_1 + 1) (v3_2 + 1)) else (self_3 v2_1 (v3_2 + 1)))))
def fX1_countPieces_L4 (f : Nat → Int32) (a1 : Int32) (n : Nat) (v2_1 : Int32) (v3_2 : Int32) : Option Int32 := lp (fun zf z => fX1_countPieces_L4_B f a1 (fun v2_1 v3_2 => zf (v2_1, v3_2)) z.1 z.2) n (v2_1, v3_2)
def fX1_countPieces (f : Nat → Int32) (a1 : Int32) : Option Int32 :=
  fX1_countPieces_L4 f a1 64 0 0
set_option maxRecDepth 100000 in
set_option maxHeartbeats 4000000 in
theorem mX1_countPieces (l : Launch) (g : GE) (b ca : Nat) (kk : Int32) (sg : Int32) (f : Nat → Int32) (a1 : Int32) (r : Int32) (hyp : fX1_countPieces f a1 = some r) : PI l yX1_countPieces cX1_countPieces 4 (some .int) 1 20 g [(b, .inr (1, [.ref ca, .int kk, .int sg])), (ca, .inl (g.2.1, 49, .inl f))] [.ref b, .int a1] r := by
  refine metP_intro (by decide) rfl ?_
  intro p e R s m args below meth c Q hRf hRl hQ hx hb hml hr hlocks hown hts hin hE hP ls hl
  have hown : s.vm.findClass "HallGuards$Board" = some m.cls := hown
  have hl : lv_has ls 4 [(0, .ref b), (1, .int a1)] := hl
  unfold fX1_countPieces at hyp
  refine lv_iconst (v := 0) hx hb dX1_countPieces_0 (by decide) ?_
  refine lv_istore_n (lv' := [(2, .int 0), (0, .ref b), (1, .int a1)]) hx hb dX1_countPieces_1 rfl hl (by decide) rfl (fun ls hl => ?_)
  refine lv_iconst (v := 0) hx hb dX1_countPieces_2 (by decide) ?_
  refine lv_istore_n (lv' := [(3, .int 0), (2, .int 0), (0, .ref b), (1, .int a1)]) hx hb dX1_countPieces_3 rfl hl (by decide) rfl (fun ls hl => ?_)
  refine lp_i (r := r) (fun z : Int32 × Int32 => ∀ (ls : Array Slot), lv_has ls 4 [(0, .ref b), (1, .int a1), (2, .int z.1), (3, .int z.2)] → W p l e R s m args below meth c s.heap [] 0 0 Q (F0 m 4 ls [])) ?_ 64 (0, 0) hyp ls (lv_sub hl [2, 3, 1, 0] rfl)
  intro self_3T ihself_3T z hyp ls hl
  obtain ⟨v2_1, v3_2⟩ := z
  obtain ⟨self_3, eself_3⟩ : ∃ f9 : Int32 → Int32 → Option Int32, f9 = fun v2_1 v3_2 => self_3T (v2_1, v3_2) := ⟨_, rfl⟩
  have ihself_3 := fun (v2_1 : Int32) (v3_2 : Int32) (h9 : self_3 v2_1 v3_2 = some r) => ihself_3T (v2_1, v3_2) (by rw [eself_3] at h9; exact h9)
  replace hyp : fX1_countPieces_L4_B f a1 self_3 v2_1 v3_2 = some r := by rw [eself_3]; exact hyp
  have hl : lv_has ls 4 [(0, .ref b), (1, .int a1), (2, .int v2_1), (3, .int v3_2)] := hl
  show W p l e R s m args below meth c s.heap [] 0 0 Q (F0 m 4 ls [])
  unfold fX1_countPieces_L4_B at hyp
  refine lv_iload_n hx hb dX1_countPieces_4 rfl (lv_at hl 3 rfl) ?_
  refine lv_bipush (v := 49) hx hb dX1_countPieces_5 (by decide) ?_
  refine lv_icmp_ge (tgt := 32) hx hb dX1_countPieces_7 (by decide) (fun h_4 => ?_) (fun h_4 => ?_)
  · replace hyp := ite_t h_4 hyp
    refine lv_iload_n hx hb dX1_countPieces_32 rfl (lv_at hl 2 rfl) ?_
    subst hQ
    exact rI hx hb hr hlocks (some_e hyp) dX1_countPieces_33
  · replace hyp := ite_f h_4 hyp
    refine lv_aload_n hx hb dX1_countPieces_10 rfl (lv_at hl 0 rfl) ?_
    refine gf_X1_9 hx hb hts hown hE hP 0 rfl rfl dX1_countPieces_11 ?_
    refine lv_iload_n hx hb dX1_countPieces_14 rfl (lv_at hl 3 rfl) ?_
    obtain ⟨hi, hyp⟩ := grd_e hyp
    refine va_iald hx hb hE.1 hP 1 0 rfl rfl (inB_vp hi) dX1_countPieces_15 ?_
    obtain ⟨r_5, hr_5, hyp⟩ := opt_e hyp
    refine pSN (As := [.int (f v3_2.toNatClampNeg)]) (rest := []) ⟨hx, hb, hml, hown, hts⟩ hE (mX8_sideOf l g (f v3_2.toNatClampNeg) r_5 hr_5) cf_X8_sideOf st_X8_sideOf ml_X1_42 ⟨Nat.le_trans (Nat.le_of_ble_eq_true rfl) hRf, Nat.le_trans (Nat.le_of_ble_eq_true rfl) hRl⟩ (va_P_nil) rfl hl.1 rfl (Nat.le_of_ble_eq_true rfl) dX1_countPieces_16 ⟨Nat.zero_le _, Nat.zero_le _⟩ ?_
    refine lv_iload_n hx hb dX1_countPieces_19 rfl (lv_at hl 1 rfl) ?_
    refine lv_icmp_ne (tgt := 26) hx hb dX1_countPieces_20 (by decide) (fun h_6 => ?_) (fun h_6 => ?_)
    · replace hyp := ite_f h_6 hyp
      refine lv_iinc (v := v3_2 + 1) (lv' := [(3, .int (v3_2 + 1)), (0, .ref b), (1, .int a1), (2, .int v2_1)]) hx hb dX1_countPieces_26 hl (k := 3) rfl rfl (by decide) rfl (fun ls hl => ?_)
      refine lv_goto (tgt := 4) hx hb dX1_countPieces_29 (by decide) ?_
      exact ihself_3 v2_1 (v3_2 + 1) hyp ls (lv_sub hl [1, 2, 3, 0] rfl)
    · replace hyp := ite_t h_6 hyp
      refine lv_iinc (v := v2_1 + 1) (lv' := [(2, .int (v2_1 + 1)), (0, .ref b), (1, .int a1), (3, .int v3_2)]) hx hb dX1_countPieces_23 hl (k := 2) rfl rfl (by decide) rfl (fun ls hl => ?_)
      refine lv_iinc (v := v3_2 + 1) (lv' := [(3, .int (v3_2 + 1)), (2, .int (v2_1 + 1)), (0, .ref b), (1, .int a1)]) hx hb dX1_countPieces_26 hl (k := 3) rfl rfl (by decide) rfl (fun ls hl => ?_)
      refine lv_goto (tgt := 4) hx hb dX1_countPieces_29 (by decide) ?_
      exact ihself_3 (v2_1 + 1) (v3_2 + 1) hyp ls (lv_sub hl [2, 3, 1, 0] rfl)

def fX1_countAll (f : Nat → Int32) : Option Int32 :=
  (fX1_countPieces f 0).bind (fun (r_1 : Int32) => (fX1_countPieces f 1).bind (fun (r_2 : Int32) => some (r_1 + r_2)))
set_option maxRecDepth 100000 in
set_option maxHeartbeats 4000000 in
theorem mX1_countAll (l : Launch) (g : GE) (b ca : Nat) (kk : Int32) (sg : Int32) (f : Nat → Int32) (r : Int32) (hyp : fX1_countAll f = some r) : PI l yX1_countAll cX1_countAll 1 (some .int) 2 43 g [(b, .inr (1, [.ref ca, .int kk, .int sg])), (ca, .inl (g.2.1, 49, .inl f))] [.ref b] r := by
  refine metP_intro (by decide) rfl ?_
  intro p e R s m args below meth c Q hRf hRl hQ hx hb hml hr hlocks hown hts hin hE hP ls hl
  have hown : s.vm.findClass "HallGuards$Board" = some m.cls := hown
  have hl : lv_has ls 1 [(0, .ref b)] := hl
  unfold fX1_countAll at hyp
  refine lv_aload_n hx hb dX1_countAll_0 rfl (lv_at hl 0 rfl) ?_
  refine lv_iconst (v := 0) hx hb dX1_countAll_1 (by decide) ?_
  obtain ⟨r_1, hr_1, hyp⟩ := opt_e hyp
  refine pV (As := [.int 0]) (rest := []) ⟨hx, hb, hml, hown, hts⟩ hE (mX1_countPieces l g b ca kk sg f 0 r_1 hr_1) cf_X1_countPieces im_X1_countPieces se_X1_countPieces ml_X1_46 ⟨Nat.le_trans (Nat.le_of_ble_eq_true rfl) hRf, Nat.le_trans (Nat.le_of_ble_eq_true rfl) hRl⟩ (hP.sub (ws' := [(b, .inr (1, [.ref ca, .int kk, .int sg])), (ca, .inl (g.2.1, 49, .inl f))]) [0, 1] rfl) (ci := 1) (q0 := 0) rfl rfl rfl rfl hl.1 rfl (Nat.le_of_ble_eq_true rfl) dX1_countAll_2 ⟨Nat.zero_le _, Nat.zero_le _⟩ ?_
  refine lv_aload_n hx hb dX1_countAll_5 rfl (lv_at hl 0 rfl) ?_
  refine lv_iconst (v := 1) hx hb dX1_countAll_6 (by decide) ?_
  obtain ⟨r_2, hr_2, hyp⟩ := opt_e hyp
  refine pV (As := [.int 1]) (rest := [.int r_1]) ⟨hx, hb, hml, hown, hts⟩ hE (mX1_countPieces l g b ca kk sg f 1 r_2 hr_2) cf_X1_countPieces im_X1_countPieces se_X1_countPieces ml_X1_46 ⟨Nat.le_trans (Nat.le_of_ble_eq_true rfl) hRf, Nat.le_trans (Nat.le_of_ble_eq_true rfl) hRl⟩ (hP.sub (ws' := [(b, .inr (1, [.ref ca, .int kk, .int sg])), (ca, .inl (g.2.1, 49, .inl f))]) [0, 1] rfl) (ci := 1) (q0 := 0) rfl rfl rfl rfl hl.1 rfl (Nat.le_of_ble_eq_true rfl) dX1_countAll_7 ⟨Nat.zero_le _, Nat.zero_le _⟩ ?_
  refine lv_iadd hx hb dX1_countAll_10 ?_
  subst hQ
  exact rI hx hb hr hlocks (some_e hyp) dX1_countAll_11

def fX1_countMoves_L4_B (f : Nat → Int32) (a1 : Int32) (self_3 : Int32 → Int32 → Option Int32) (v2_1 : Int32) (v3_2 : Int32) : Option Int32 :=
  if 49 ≤ v3_2 then (some v2_1) else (grd (inB v3_2 49) ((fX8_sideOf (f v3_2.toNatClampNeg)).bind (fun (r_5 : Int32) => if r_5 = a1 then ((fX1_countFrom f v3_2).bind (fun (r_7 : Int32) => self_3 (v2_1 + r_7) (v3_2 + 1))) else (self_3 v2_1 (v3_2 + 1)))))
def fX1_countMoves_L4 (f : Nat → Int32) (a1 : Int32) (n : Nat) (v2_1 : Int32) (v3_2 : Int32) : Option Int32 := lp (fun zf z => fX1_countMoves_L4_B f a1 (fun v2_1 v3_2 => zf (v2_1, v3_2)) z.1 z.2) n (v2_1, v3_2)
def fX1_countMoves (f : Nat → Int32) (a1 : Int32) : Option Int32 :=
  fX1_countMoves_L4 f a1 64 0 0
set_option maxRecDepth 100000 in
set_option maxHeartbeats 4000000 in
theorem mX1_countMoves (l : Launch) (g : GE) (b ca : Nat) (kk : Int32) (sg : Int32) (f : Nat → Int32) (a1 : Int32) (r : Int32) (hyp : fX1_countMoves f a1 = some r) : PI l yX1_countMoves cX1_countMoves 4 (some .int) 2 47 g [(b, .inr (1, [.ref ca, .int kk, .int sg])), (ca, .inl (g.2.1, 49, .inl f))] [.ref b, .int a1] r := by
  refine metP_intro (by decide) rfl ?_
  intro p e R s m args below meth c Q hRf hRl hQ hx hb hml hr hlocks hown hts hin hE hP ls hl
  have hown : s.vm.findClass "HallGuards$Board" = some m.cls := hown
  have hl : lv_has ls 4 [(0, .ref b), (1, .int a1)] := hl
  unfold fX1_countMoves at hyp
  refine lv_iconst (v := 0) hx hb dX1_countMoves_0 (by decide) ?_
  refine lv_istore_n (lv' := [(2, .int 0), (0, .ref b), (1, .int a1)]) hx hb dX1_countMoves_1 rfl hl (by decide) rfl (fun ls hl => ?_)
  refine lv_iconst (v := 0) hx hb dX1_countMoves_2 (by decide) ?_
  refine lv_istore_n (lv' := [(3, .int 0), (2, .int 0), (0, .ref b), (1, .int a1)]) hx hb dX1_countMoves_3 rfl hl (by decide) rfl (fun ls hl => ?_)
  refine lp_i (r := r) (fun z : Int32 × Int32 => ∀ (ls : Array Slot), lv_has ls 4 [(0, .ref b), (1, .int a1), (2, .int z.1), (3, .int z.2)] → W p l e R s m args below meth c s.heap [] 0 0 Q (F0 m 4 ls [])) ?_ 64 (0, 0) hyp ls (lv_sub hl [2, 3, 1, 0] rfl)
  intro self_3T ihself_3T z hyp ls hl
  obtain ⟨v2_1, v3_2⟩ := z
  obtain ⟨self_3, eself_3⟩ : ∃ f9 : Int32 → Int32 → Option Int32, f9 = fun v2_1 v3_2 => self_3T (v2_1, v3_2) := ⟨_, rfl⟩
  have ihself_3 := fun (v2_1 : Int32) (v3_2 : Int32) (h9 : self_3 v2_1 v3_2 = some r) => ihself_3T (v2_1, v3_2) (by rw [eself_3] at h9; exact h9)
  replace hyp : fX1_countMoves_L4_B f a1 self_3 v2_1 v3_2 = some r := by rw [eself_3]; exact hyp
  have hl : lv_has ls 4 [(0, .ref b), (1, .int a1), (2, .int v2_1), (3, .int v3_2)] := hl
  show W p l e R s m args below meth c s.heap [] 0 0 Q (F0 m 4 ls [])
  unfold fX1_countMoves_L4_B at hyp
  refine lv_iload_n hx hb dX1_countMoves_4 rfl (lv_at hl 3 rfl) ?_
  refine lv_bipush (v := 49) hx hb dX1_countMoves_5 (by decide) ?_
  refine lv_icmp_ge (tgt := 37) hx hb dX1_countMoves_7 (by decide) (fun h_4 => ?_) (fun h_4 => ?_)
  · replace hyp := ite_t h_4 hyp
    refine lv_iload_n hx hb dX1_countMoves_37 rfl (lv_at hl 2 rfl) ?_
    subst hQ
    exact rI hx hb hr hlocks (some_e hyp) dX1_countMoves_38
  · replace hyp := ite_f h_4 hyp
    refine lv_aload_n hx hb dX1_countMoves_10 rfl (lv_at hl 0 rfl) ?_
    refine gf_X1_9 hx hb hts hown hE hP 0 rfl rfl dX1_countMoves_11 ?_
    refine lv_iload_n hx hb dX1_countMoves_14 rfl (lv_at hl 3 rfl) ?_
    obtain ⟨hi, hyp⟩ := grd_e hyp
    refine va_iald hx hb hE.1 hP 1 0 rfl rfl (inB_vp hi) dX1_countMoves_15 ?_
    obtain ⟨r_5, hr_5, hyp⟩ := opt_e hyp
    refine pSN (As := [.int (f v3_2.toNatClampNeg)]) (rest := []) ⟨hx, hb, hml, hown, hts⟩ hE (mX8_sideOf l g (f v3_2.toNatClampNeg) r_5 hr_5) cf_X8_sideOf st_X8_sideOf ml_X1_42 ⟨Nat.le_trans (Nat.le_of_ble_eq_true rfl) hRf, Nat.le_trans (Nat.le_of_ble_eq_true rfl) hRl⟩ (va_P_nil) rfl hl.1 rfl (Nat.le_of_ble_eq_true rfl) dX1_countMoves_16 ⟨Nat.zero_le _, Nat.zero_le _⟩ ?_
    refine lv_iload_n hx hb dX1_countMoves_19 rfl (lv_at hl 1 rfl) ?_
    refine lv_icmp_ne (tgt := 31) hx hb dX1_countMoves_20 (by decide) (fun h_6 => ?_) (fun h_6 => ?_)
    · replace hyp := ite_f h_6 hyp
      refine lv_iinc (v := v3_2 + 1) (lv' := [(3, .int (v3_2 + 1)), (0, .ref b), (1, .int a1), (2, .int v2_1)]) hx hb dX1_countMoves_31 hl (k := 3) rfl rfl (by decide) rfl (fun ls hl => ?_)
      refine lv_goto (tgt := 4) hx hb dX1_countMoves_34 (by decide) ?_
      exact ihself_3 v2_1 (v3_2 + 1) hyp ls (lv_sub hl [1, 2, 3, 0] rfl)
    · replace hyp := ite_t h_6 hyp
      refine lv_iload_n hx hb dX1_countMoves_23 rfl (lv_at hl 2 rfl) ?_
      refine lv_aload_n hx hb dX1_countMoves_24 rfl (lv_at hl 0 rfl) ?_
      refine lv_iload_n hx hb dX1_countMoves_25 rfl (lv_at hl 3 rfl) ?_
      obtain ⟨r_7, hr_7, hyp⟩ := opt_e hyp
      refine pV (As := [.int v3_2]) (rest := [.int v2_1]) ⟨hx, hb, hml, hown, hts⟩ hE (mX1_countFrom l g b ca kk sg f v3_2 r_7 hr_7) cf_X1_countFrom im_X1_countFrom se_X1_countFrom ml_X1_70 ⟨Nat.le_trans (Nat.le_of_ble_eq_true rfl) hRf, Nat.le_trans (Nat.le_of_ble_eq_true rfl) hRl⟩ (hP.sub (ws' := [(b, .inr (1, [.ref ca, .int kk, .int sg])), (ca, .inl (g.2.1, 49, .inl f))]) [0, 1] rfl) (ci := 1) (q0 := 0) rfl rfl rfl rfl hl.1 rfl (Nat.le_of_ble_eq_true rfl) dX1_countMoves_26 ⟨Nat.zero_le _, Nat.zero_le _⟩ ?_
      refine lv_iadd hx hb dX1_countMoves_29 ?_
      refine lv_istore_n (lv' := [(2, .int (v2_1 + r_7)), (0, .ref b), (1, .int a1), (3, .int v3_2)]) hx hb dX1_countMoves_30 rfl hl (by decide) rfl (fun ls hl => ?_)
      refine lv_iinc (v := v3_2 + 1) (lv' := [(3, .int (v3_2 + 1)), (2, .int (v2_1 + r_7)), (0, .ref b), (1, .int a1)]) hx hb dX1_countMoves_31 hl (k := 3) rfl rfl (by decide) rfl (fun ls hl => ?_)
      refine lv_goto (tgt := 4) hx hb dX1_countMoves_34 (by decide) ?_
      exact ihself_3 (v2_1 + r_7) (v3_2 + 1) hyp ls (lv_sub hl [2, 3, 1, 0] rfl)

def fX1_countComing_L22_B (f : Nat → Int32) (a1 : Int32) (a2 : Int32) (self_3 : Int32 → Int32 → Option Int32) (v3_1 : Int32) (v4_2 : Int32) (self_8 : Int32 → Int32 → Option Int32) (v5_6 : Int32) (v6_7 : Int32) : Option Int32 :=
  jn ((fX1_at f v5_6).bind (fun (r_10 : Int32) => (fX8_sideOf r_10).bind (fun (r_11 : Int32) => if r_11 = a1 then ((fX8_mayStop r_10 a2).bind (fun (r_13 : Int32) => if r_13 = 0 then (self_3 v3_1 (v4_2 + 1)) else (self_3 (v3_1 + 1) (v4_2 + 1)))) else (self_3 v3_1 (v4_2 + 1))))) (fun J_9 => if 7 ≤ v6_7 then (J_9) else (if v5_6 < 0 then (J_9) else ((fX1_at f v5_6).bind (fun (r_17 : Int32) => if r_17 = 0 then ((fX8_beside v5_6 v4_2).bind (fun (r_19 : Int32) => self_8 r_19 (v6_7 + 1))) else (J_9)))))
def fX1_countComing_L22 (f : Nat → Int32) (a1 : Int32) (a2 : Int32) (self_3 : Int32 → Int32 → Option Int32) (v3_1 : Int32) (v4_2 : Int32) (n : Nat) (v5_6 : Int32) (v6_7 : Int32) : Option Int32 := lp (fun zf z => fX1_countComing_L22_B f a1 a2 self_3 v3_1 v4_2 (fun v5_6 v6_7 => zf (v5_6, v6_7)) z.1 z.2) n (v5_6, v6_7)
def fX1_countComing_L5_B (f : Nat → Int32) (a1 : Int32) (a2 : Int32) (self_3 : Int32 → Int32 → Option Int32) (v3_1 : Int32) (v4_2 : Int32) : Option Int32 :=
  if 4 ≤ v4_2 then (some v3_1) else ((fX8_beside a2 v4_2).bind (fun (r_5 : Int32) => fX1_countComing_L22 f a1 a2 self_3 v3_1 v4_2 64 r_5 1))
def fX1_countComing_L5 (f : Nat → Int32) (a1 : Int32) (a2 : Int32) (n : Nat) (v3_1 : Int32) (v4_2 : Int32) : Option Int32 := lp (fun zf z => fX1_countComing_L5_B f a1 a2 (fun v3_1 v4_2 => zf (v3_1, v4_2)) z.1 z.2) n (v3_1, v4_2)
def fX1_countComing (f : Nat → Int32) (a1 : Int32) (a2 : Int32) : Option Int32 :=
  fX1_countComing_L5 f a1 a2 64 0 0
set_option maxRecDepth 100000 in
set_option maxHeartbeats 4000000 in
theorem mX1_countComing (l : Launch) (g : GE) (b ca : Nat) (kk : Int32) (sg : Int32) (f : Nat → Int32) (a1 : Int32) (a2 : Int32) (r : Int32) (hyp : fX1_countComing f a1 a2 = some r) : PI l yX1_countComing cX1_countComing 7 (some .int) 1 21 g [(b, .inr (1, [.ref ca, .int kk, .int sg])), (ca, .inl (g.2.1, 49, .inl f))] [.ref b, .int a1, .int a2] r := by
  refine metP_intro (by decide) rfl ?_
  intro p e R s m args below meth c Q hRf hRl hQ hx hb hml hr hlocks hown hts hin hE hP ls hl
  have hown : s.vm.findClass "HallGuards$Board" = some m.cls := hown
  have hl : lv_has ls 7 [(0, .ref b), (1, .int a1), (2, .int a2)] := hl
  unfold fX1_countComing at hyp
  refine lv_iconst (v := 0) hx hb dX1_countComing_0 (by decide) ?_
  refine lv_istore_n (lv' := [(3, .int 0), (0, .ref b), (1, .int a1), (2, .int a2)]) hx hb dX1_countComing_1 rfl hl (by decide) rfl (fun ls hl => ?_)
  refine lv_iconst (v := 0) hx hb dX1_countComing_2 (by decide) ?_
  refine lv_istore (lv' := [(4, .int 0), (3, .int 0), (0, .ref b), (1, .int a1), (2, .int a2)]) hx hb dX1_countComing_3 hl (by decide) rfl (fun ls hl => ?_)
  refine lp_i (r := r) (fun z : Int32 × Int32 => ∀ (ls : Array Slot), lv_has ls 7 [(0, .ref b), (1, .int a1), (2, .int a2), (3, .int z.1), (4, .int z.2)] → W p l e R s m args below meth c s.heap [] 0 0 Q (F0 m 5 ls [])) ?_ 64 (0, 0) hyp ls (lv_sub hl [2, 3, 4, 1, 0] rfl)
  intro self_3T ihself_3T z hyp ls hl
  obtain ⟨v3_1, v4_2⟩ := z
  obtain ⟨self_3, eself_3⟩ : ∃ f9 : Int32 → Int32 → Option Int32, f9 = fun v3_1 v4_2 => self_3T (v3_1, v4_2) := ⟨_, rfl⟩
  have ihself_3 := fun (v3_1 : Int32) (v4_2 : Int32) (h9 : self_3 v3_1 v4_2 = some r) => ihself_3T (v3_1, v4_2) (by rw [eself_3] at h9; exact h9)
  replace hyp : fX1_countComing_L5_B f a1 a2 self_3 v3_1 v4_2 = some r := by rw [eself_3]; exact hyp
  have hl : lv_has ls 7 [(0, .ref b), (1, .int a1), (2, .int a2), (3, .int v3_1), (4, .int v4_2)] := hl
  show W p l e R s m args below meth c s.heap [] 0 0 Q (F0 m 5 ls [])
  unfold fX1_countComing_L5_B at hyp
  refine lv_iload hx hb dX1_countComing_5 (lv_at hl 4 rfl) ?_
  refine lv_iconst (v := 4) hx hb dX1_countComing_7 (by decide) ?_
  refine lv_icmp_ge (tgt := 93) hx hb dX1_countComing_8 (by decide) (fun h_4 => ?_) (fun h_4 => ?_)
  · replace hyp := ite_t h_4 hyp
    refine lv_iload_n hx hb dX1_countComing_93 rfl (lv_at hl 3 rfl) ?_
    subst hQ
    exact rI hx hb hr hlocks (some_e hyp) dX1_countComing_94
  · replace hyp := ite_f h_4 hyp
    refine lv_iload_n hx hb dX1_countComing_11 rfl (lv_at hl 2 rfl) ?_
    refine lv_iload hx hb dX1_countComing_12 (lv_at hl 4 rfl) ?_
    obtain ⟨r_5, hr_5, hyp⟩ := opt_e hyp
    refine pSN (As := [.int a2, .int v4_2]) (rest := []) ⟨hx, hb, hml, hown, hts⟩ hE (mX8_beside l g a2 v4_2 r_5 hr_5) cf_X8_beside st_X8_beside ml_X1_53 ⟨Nat.le_trans (Nat.le_of_ble_eq_true rfl) hRf, Nat.le_trans (Nat.le_of_ble_eq_true rfl) hRl⟩ (va_P_nil) rfl hl.1 rfl (Nat.le_of_ble_eq_true rfl) dX1_countComing_14 ⟨Nat.zero_le _, Nat.zero_le _⟩ ?_
    refine lv_istore (lv' := [(5, .int r_5), (0, .ref b), (1, .int a1), (2, .int a2), (3, .int v3_1), (4, .int v4_2)]) hx hb dX1_countComing_17 hl (by decide) rfl (fun ls hl => ?_)
    refine lv_iconst (v := 1) hx hb dX1_countComing_19 (by decide) ?_
    refine lv_istore (lv' := [(6, .int 1), (5, .int r_5), (0, .ref b), (1, .int a1), (2, .int a2), (3, .int v3_1), (4, .int v4_2)]) hx hb dX1_countComing_20 hl (by decide) rfl (fun ls hl => ?_)
    refine lp_i (r := r) (fun z : Int32 × Int32 => ∀ (ls : Array Slot), lv_has ls 7 [(0, .ref b), (1, .int a1), (2, .int a2), (3, .int v3_1), (4, .int v4_2), (5, .int z.1), (6, .int z.2)] → W p l e R s m args below meth c s.heap [] 0 0 Q (F0 m 22 ls [])) ?_ 64 (r_5, 1) hyp ls (lv_sub hl [2, 3, 4, 5, 6, 1, 0] rfl)
    intro self_8T ihself_8T z hyp ls hl
    obtain ⟨v5_6, v6_7⟩ := z
    obtain ⟨self_8, eself_8⟩ : ∃ f9 : Int32 → Int32 → Option Int32, f9 = fun v5_6 v6_7 => self_8T (v5_6, v6_7) := ⟨_, rfl⟩
    have ihself_8 := fun (v5_6 : Int32) (v6_7 : Int32) (h9 : self_8 v5_6 v6_7 = some r) => ihself_8T (v5_6, v6_7) (by rw [eself_8] at h9; exact h9)
    replace hyp : fX1_countComing_L22_B f a1 a2 self_3 v3_1 v4_2 self_8 v5_6 v6_7 = some r := by rw [eself_8]; exact hyp
    have hl : lv_has ls 7 [(0, .ref b), (1, .int a1), (2, .int a2), (3, .int v3_1), (4, .int v4_2), (5, .int v5_6), (6, .int v6_7)] := hl
    show W p l e R s m args below meth c s.heap [] 0 0 Q (F0 m 22 ls [])
    unfold fX1_countComing_L22_B at hyp
    refine lv_iload hx hb dX1_countComing_22 (lv_at hl 6 rfl) ?_
    refine lv_bipush (v := 7) hx hb dX1_countComing_24 (by decide) ?_
    obtain ⟨J_9, eJ_9, hyp⟩ := jn_e hyp
    have kJ_9 : ∀ (ls : Array Slot), J_9 = some r → lv_has ls 7 [(0, .ref b), (1, .int a1), (2, .int a2), (3, .int v3_1), (4, .int v4_2), (5, .int v5_6)] → W p l e R s m args below meth c s.heap [] 0 0 Q (F0 m 58 ls []) := by
      intro  ls hyp hl
      replace hyp := (eJ_9).symm.trans hyp
      refine lv_aload_n hx hb dX1_countComing_58 rfl (lv_at hl 0 rfl) ?_
      refine lv_iload hx hb dX1_countComing_59 (lv_at hl 5 rfl) ?_
      obtain ⟨r_10, hr_10, hyp⟩ := opt_e hyp
      refine pV (As := [.int v5_6]) (rest := []) ⟨hx, hb, hml, hown, hts⟩ hE (mX1_at l g b ca kk sg f v5_6 r_10 hr_10) cf_X1_at im_X1_at se_X1_at ml_X1_60 ⟨Nat.le_trans (Nat.le_of_ble_eq_true rfl) hRf, Nat.le_trans (Nat.le_of_ble_eq_true rfl) hRl⟩ (hP.sub (ws' := [(b, .inr (1, [.ref ca, .int kk, .int sg])), (ca, .inl (g.2.1, 49, .inl f))]) [0, 1] rfl) (ci := 1) (q0 := 0) rfl rfl rfl rfl hl.1 rfl (Nat.le_of_ble_eq_true rfl) dX1_countComing_61 ⟨Nat.zero_le _, Nat.zero_le _⟩ ?_
      refine lv_istore (lv' := [(6, .int r_10), (0, .ref b), (1, .int a1), (2, .int a2), (3, .int v3_1), (4, .int v4_2), (5, .int v5_6)]) hx hb dX1_countComing_64 hl (by decide) rfl (fun ls hl => ?_)
      refine lv_iload hx hb dX1_countComing_66 (lv_at hl 0 rfl) ?_
      obtain ⟨r_11, hr_11, hyp⟩ := opt_e hyp
      refine pSN (As := [.int r_10]) (rest := []) ⟨hx, hb, hml, hown, hts⟩ hE (mX8_sideOf l g r_10 r_11 hr_11) cf_X8_sideOf st_X8_sideOf ml_X1_42 ⟨Nat.le_trans (Nat.le_of_ble_eq_true rfl) hRf, Nat.le_trans (Nat.le_of_ble_eq_true rfl) hRl⟩ (va_P_nil) rfl hl.1 rfl (Nat.le_of_ble_eq_true rfl) dX1_countComing_68 ⟨Nat.zero_le _, Nat.zero_le _⟩ ?_
      refine lv_iload_n hx hb dX1_countComing_71 rfl (lv_at hl 2 rfl) ?_
      refine lv_icmp_ne (tgt := 87) hx hb dX1_countComing_72 (by decide) (fun h_12 => ?_) (fun h_12 => ?_)
      · replace hyp := ite_f h_12 hyp
        refine lv_iinc (v := v4_2 + 1) (lv' := [(4, .int (v4_2 + 1)), (6, .int r_10), (0, .ref b), (1, .int a1), (2, .int a2), (3, .int v3_1), (5, .int v5_6)]) hx hb dX1_countComing_87 hl (k := 5) rfl rfl (by decide) rfl (fun ls hl => ?_)
        refine lv_goto (tgt := 5) hx hb dX1_countComing_90 (by decide) ?_
        exact ihself_3 v3_1 (v4_2 + 1) hyp ls (lv_sub hl [2, 3, 4, 5, 0] rfl)
      · replace hyp := ite_t h_12 hyp
        refine lv_iload hx hb dX1_countComing_75 (lv_at hl 0 rfl) ?_
        refine lv_iload_n hx hb dX1_countComing_77 rfl (lv_at hl 3 rfl) ?_
        obtain ⟨r_13, hr_13, hyp⟩ := opt_e hyp
        refine pSN (As := [.int r_10, .int a2]) (rest := []) ⟨hx, hb, hml, hown, hts⟩ hE (mX8_mayStop l g r_10 a2 r_13 hr_13) cf_X8_mayStop st_X8_mayStop ml_X1_38 ⟨Nat.le_trans (Nat.le_of_ble_eq_true rfl) hRf, Nat.le_trans (Nat.le_of_ble_eq_true rfl) hRl⟩ (va_P_nil) rfl hl.1 rfl (Nat.le_of_ble_eq_true rfl) dX1_countComing_78 ⟨Nat.zero_le _, Nat.zero_le _⟩ ?_
        refine lv_if_eq (tgt := 87) hx hb dX1_countComing_81 (by decide) (fun h_14 => ?_) (fun h_14 => ?_)
        · replace hyp := ite_t h_14 hyp
          refine lv_iinc (v := v4_2 + 1) (lv' := [(4, .int (v4_2 + 1)), (6, .int r_10), (0, .ref b), (1, .int a1), (2, .int a2), (3, .int v3_1), (5, .int v5_6)]) hx hb dX1_countComing_87 hl (k := 5) rfl rfl (by decide) rfl (fun ls hl => ?_)
          refine lv_goto (tgt := 5) hx hb dX1_countComing_90 (by decide) ?_
          exact ihself_3 v3_1 (v4_2 + 1) hyp ls (lv_sub hl [2, 3, 4, 5, 0] rfl)
        · replace hyp := ite_f h_14 hyp
          refine lv_iinc (v := v3_1 + 1) (lv' := [(3, .int (v3_1 + 1)), (6, .int r_10), (0, .ref b), (1, .int a1), (2, .int a2), (4, .int v4_2), (5, .int v5_6)]) hx hb dX1_countComing_84 hl (k := 4) rfl rfl (by decide) rfl (fun ls hl => ?_)
          refine lv_iinc (v := v4_2 + 1) (lv' := [(4, .int (v4_2 + 1)), (3, .int (v3_1 + 1)), (6, .int r_10), (0, .ref b), (1, .int a1), (2, .int a2), (5, .int v5_6)]) hx hb dX1_countComing_87 hl (k := 5) rfl rfl (by decide) rfl (fun ls hl => ?_)
          refine lv_goto (tgt := 5) hx hb dX1_countComing_90 (by decide) ?_
          exact ihself_3 (v3_1 + 1) (v4_2 + 1) hyp ls (lv_sub hl [3, 4, 5, 1, 0] rfl)
    refine lv_icmp_ge (tgt := 58) hx hb dX1_countComing_26 (by decide) (fun h_15 => ?_) (fun h_15 => ?_)
    · replace hyp := ite_t h_15 hyp
      exact kJ_9 ls hyp (lv_sub hl [0, 1, 2, 3, 4, 5] rfl)
    · replace hyp := ite_f h_15 hyp
      refine lv_iload hx hb dX1_countComing_29 (lv_at hl 5 rfl) ?_
      refine lv_if_lt (tgt := 58) hx hb dX1_countComing_31 (by decide) (fun h_16 => ?_) (fun h_16 => ?_)
      · replace hyp := ite_t h_16 hyp
        exact kJ_9 ls hyp (lv_sub hl [0, 1, 2, 3, 4, 5] rfl)
      · replace hyp := ite_f h_16 hyp
        refine lv_aload_n hx hb dX1_countComing_34 rfl (lv_at hl 0 rfl) ?_
        refine lv_iload hx hb dX1_countComing_35 (lv_at hl 5 rfl) ?_
        obtain ⟨r_17, hr_17, hyp⟩ := opt_e hyp
        refine pV (As := [.int v5_6]) (rest := []) ⟨hx, hb, hml, hown, hts⟩ hE (mX1_at l g b ca kk sg f v5_6 r_17 hr_17) cf_X1_at im_X1_at se_X1_at ml_X1_60 ⟨Nat.le_trans (Nat.le_of_ble_eq_true rfl) hRf, Nat.le_trans (Nat.le_of_ble_eq_true rfl) hRl⟩ (hP.sub (ws' := [(b, .inr (1, [.ref ca, .int kk, .int sg])), (ca, .inl (g.2.1, 49, .inl f))]) [0, 1] rfl) (ci := 1) (q0 := 0) rfl rfl rfl rfl hl.1 rfl (Nat.le_of_ble_eq_true rfl) dX1_countComing_37 ⟨Nat.zero_le _, Nat.zero_le _⟩ ?_
        refine lv_if_ne (tgt := 58) hx hb dX1_countComing_40 (by decide) (fun h_18 => ?_) (fun h_18 => ?_)
        · replace hyp := ite_f h_18 hyp
          exact kJ_9 ls hyp (lv_sub hl [0, 1, 2, 3, 4, 5] rfl)
        · replace hyp := ite_t h_18 hyp
          refine lv_iload hx hb dX1_countComing_43 (lv_at hl 5 rfl) ?_
          refine lv_iload hx hb dX1_countComing_45 (lv_at hl 4 rfl) ?_
          obtain ⟨r_19, hr_19, hyp⟩ := opt_e hyp
          refine pSN (As := [.int v5_6, .int v4_2]) (rest := []) ⟨hx, hb, hml, hown, hts⟩ hE (mX8_beside l g v5_6 v4_2 r_19 hr_19) cf_X8_beside st_X8_beside ml_X1_53 ⟨Nat.le_trans (Nat.le_of_ble_eq_true rfl) hRf, Nat.le_trans (Nat.le_of_ble_eq_true rfl) hRl⟩ (va_P_nil) rfl hl.1 rfl (Nat.le_of_ble_eq_true rfl) dX1_countComing_47 ⟨Nat.zero_le _, Nat.zero_le _⟩ ?_
          refine lv_istore (lv' := [(5, .int r_19), (0, .ref b), (1, .int a1), (2, .int a2), (3, .int v3_1), (4, .int v4_2), (6, .int v6_7)]) hx hb dX1_countComing_50 hl (by decide) rfl (fun ls hl => ?_)
          refine lv_iinc (v := v6_7 + 1) (lv' := [(6, .int (v6_7 + 1)), (5, .int r_19), (0, .ref b), (1, .int a1), (2, .int a2), (3, .int v3_1), (4, .int v4_2)]) hx hb dX1_countComing_52 hl (k := 6) rfl rfl (by decide) rfl (fun ls hl => ?_)
          refine lv_goto (tgt := 22) hx hb dX1_countComing_55 (by decide) ?_
          exact ihself_8 r_19 (v6_7 + 1) hyp ls (lv_sub hl [2, 3, 4, 5, 6, 1, 0] rfl)

def fX1_countArrivals_L4_B (f : Nat → Int32) (a1 : Int32) (self_3 : Int32 → Int32 → Option Int32) (v2_1 : Int32) (v3_2 : Int32) : Option Int32 :=
  if 49 ≤ v3_2 then (some v2_1) else (grd (inB v3_2 49) (if (f v3_2.toNatClampNeg) = 0 then ((fX1_countComing f a1 v3_2).bind (fun (r_6 : Int32) => self_3 (v2_1 + r_6) (v3_2 + 1))) else (self_3 v2_1 (v3_2 + 1))))
def fX1_countArrivals_L4 (f : Nat → Int32) (a1 : Int32) (n : Nat) (v2_1 : Int32) (v3_2 : Int32) : Option Int32 := lp (fun zf z => fX1_countArrivals_L4_B f a1 (fun v2_1 v3_2 => zf (v2_1, v3_2)) z.1 z.2) n (v2_1, v3_2)
def fX1_countArrivals (f : Nat → Int32) (a1 : Int32) : Option Int32 :=
  fX1_countArrivals_L4 f a1 64 0 0
set_option maxRecDepth 100000 in
set_option maxHeartbeats 4000000 in
theorem mX1_countArrivals (l : Launch) (g : GE) (b ca : Nat) (kk : Int32) (sg : Int32) (f : Nat → Int32) (a1 : Int32) (r : Int32) (hyp : fX1_countArrivals f a1 = some r) : PI l yX1_countArrivals cX1_countArrivals 4 (some .int) 2 47 g [(b, .inr (1, [.ref ca, .int kk, .int sg])), (ca, .inl (g.2.1, 49, .inl f))] [.ref b, .int a1] r := by
  refine metP_intro (by decide) rfl ?_
  intro p e R s m args below meth c Q hRf hRl hQ hx hb hml hr hlocks hown hts hin hE hP ls hl
  have hown : s.vm.findClass "HallGuards$Board" = some m.cls := hown
  have hl : lv_has ls 4 [(0, .ref b), (1, .int a1)] := hl
  unfold fX1_countArrivals at hyp
  refine lv_iconst (v := 0) hx hb dX1_countArrivals_0 (by decide) ?_
  refine lv_istore_n (lv' := [(2, .int 0), (0, .ref b), (1, .int a1)]) hx hb dX1_countArrivals_1 rfl hl (by decide) rfl (fun ls hl => ?_)
  refine lv_iconst (v := 0) hx hb dX1_countArrivals_2 (by decide) ?_
  refine lv_istore_n (lv' := [(3, .int 0), (2, .int 0), (0, .ref b), (1, .int a1)]) hx hb dX1_countArrivals_3 rfl hl (by decide) rfl (fun ls hl => ?_)
  refine lp_i (r := r) (fun z : Int32 × Int32 => ∀ (ls : Array Slot), lv_has ls 4 [(0, .ref b), (1, .int a1), (2, .int z.1), (3, .int z.2)] → W p l e R s m args below meth c s.heap [] 0 0 Q (F0 m 4 ls [])) ?_ 64 (0, 0) hyp ls (lv_sub hl [2, 3, 1, 0] rfl)
  intro self_3T ihself_3T z hyp ls hl
  obtain ⟨v2_1, v3_2⟩ := z
  obtain ⟨self_3, eself_3⟩ : ∃ f9 : Int32 → Int32 → Option Int32, f9 = fun v2_1 v3_2 => self_3T (v2_1, v3_2) := ⟨_, rfl⟩
  have ihself_3 := fun (v2_1 : Int32) (v3_2 : Int32) (h9 : self_3 v2_1 v3_2 = some r) => ihself_3T (v2_1, v3_2) (by rw [eself_3] at h9; exact h9)
  replace hyp : fX1_countArrivals_L4_B f a1 self_3 v2_1 v3_2 = some r := by rw [eself_3]; exact hyp
  have hl : lv_has ls 4 [(0, .ref b), (1, .int a1), (2, .int v2_1), (3, .int v3_2)] := hl
  show W p l e R s m args below meth c s.heap [] 0 0 Q (F0 m 4 ls [])
  unfold fX1_countArrivals_L4_B at hyp
  refine lv_iload_n hx hb dX1_countArrivals_4 rfl (lv_at hl 3 rfl) ?_
  refine lv_bipush (v := 49) hx hb dX1_countArrivals_5 (by decide) ?_
  refine lv_icmp_ge (tgt := 34) hx hb dX1_countArrivals_7 (by decide) (fun h_4 => ?_) (fun h_4 => ?_)
  · replace hyp := ite_t h_4 hyp
    refine lv_iload_n hx hb dX1_countArrivals_34 rfl (lv_at hl 2 rfl) ?_
    subst hQ
    exact rI hx hb hr hlocks (some_e hyp) dX1_countArrivals_35
  · replace hyp := ite_f h_4 hyp
    refine lv_aload_n hx hb dX1_countArrivals_10 rfl (lv_at hl 0 rfl) ?_
    refine gf_X1_9 hx hb hts hown hE hP 0 rfl rfl dX1_countArrivals_11 ?_
    refine lv_iload_n hx hb dX1_countArrivals_14 rfl (lv_at hl 3 rfl) ?_
    obtain ⟨hi, hyp⟩ := grd_e hyp
    refine va_iald hx hb hE.1 hP 1 0 rfl rfl (inB_vp hi) dX1_countArrivals_15 ?_
    refine lv_if_ne (tgt := 28) hx hb dX1_countArrivals_16 (by decide) (fun h_5 => ?_) (fun h_5 => ?_)
    · replace hyp := ite_f h_5 hyp
      refine lv_iinc (v := v3_2 + 1) (lv' := [(3, .int (v3_2 + 1)), (0, .ref b), (1, .int a1), (2, .int v2_1)]) hx hb dX1_countArrivals_28 hl (k := 3) rfl rfl (by decide) rfl (fun ls hl => ?_)
      refine lv_goto (tgt := 4) hx hb dX1_countArrivals_31 (by decide) ?_
      exact ihself_3 v2_1 (v3_2 + 1) hyp ls (lv_sub hl [1, 2, 3, 0] rfl)
    · replace hyp := ite_t h_5 hyp
      refine lv_iload_n hx hb dX1_countArrivals_19 rfl (lv_at hl 2 rfl) ?_
      refine lv_aload_n hx hb dX1_countArrivals_20 rfl (lv_at hl 0 rfl) ?_
      refine lv_iload_n hx hb dX1_countArrivals_21 rfl (lv_at hl 1 rfl) ?_
      refine lv_iload_n hx hb dX1_countArrivals_22 rfl (lv_at hl 3 rfl) ?_
      obtain ⟨r_6, hr_6, hyp⟩ := opt_e hyp
      refine pV (As := [.int a1, .int v3_2]) (rest := [.int v2_1]) ⟨hx, hb, hml, hown, hts⟩ hE (mX1_countComing l g b ca kk sg f a1 v3_2 r_6 hr_6) cf_X1_countComing im_X1_countComing se_X1_countComing ml_X1_73 ⟨Nat.le_trans (Nat.le_of_ble_eq_true rfl) hRf, Nat.le_trans (Nat.le_of_ble_eq_true rfl) hRl⟩ (hP.sub (ws' := [(b, .inr (1, [.ref ca, .int kk, .int sg])), (ca, .inl (g.2.1, 49, .inl f))]) [0, 1] rfl) (ci := 1) (q0 := 0) rfl rfl rfl rfl hl.1 rfl (Nat.le_of_ble_eq_true rfl) dX1_countArrivals_23 ⟨Nat.zero_le _, Nat.zero_le _⟩ ?_
      refine lv_iadd hx hb dX1_countArrivals_26 ?_
      refine lv_istore_n (lv' := [(2, .int (v2_1 + r_6)), (0, .ref b), (1, .int a1), (3, .int v3_2)]) hx hb dX1_countArrivals_27 rfl hl (by decide) rfl (fun ls hl => ?_)
      refine lv_iinc (v := v3_2 + 1) (lv' := [(3, .int (v3_2 + 1)), (2, .int (v2_1 + r_6)), (0, .ref b), (1, .int a1)]) hx hb dX1_countArrivals_28 hl (k := 3) rfl rfl (by decide) rfl (fun ls hl => ?_)
      refine lv_goto (tgt := 4) hx hb dX1_countArrivals_31 (by decide) ?_
      exact ihself_3 (v2_1 + r_6) (v3_2 + 1) hyp ls (lv_sub hl [2, 3, 1, 0] rfl)

def fX1_hasMove_L2_B (f : Nat → Int32) (a1 : Int32) (self_2 : Int32 → Option Int32) (v2_1 : Int32) : Option Int32 :=
  if 49 ≤ v2_1 then (some 0) else (grd (inB v2_1 49) ((fX8_sideOf (f v2_1.toNatClampNeg)).bind (fun (r_4 : Int32) => if r_4 = a1 then ((fX1_countFrom f v2_1).bind (fun (r_6 : Int32) => if r_6 ≤ 0 then (self_2 (v2_1 + 1)) else (some 1))) else (self_2 (v2_1 + 1)))))
def fX1_hasMove_L2 (f : Nat → Int32) (a1 : Int32) (n : Nat) (v2_1 : Int32) : Option Int32 := lp (fun zf z => fX1_hasMove_L2_B f a1 zf z) n v2_1
def fX1_hasMove (f : Nat → Int32) (a1 : Int32) : Option Int32 :=
  fX1_hasMove_L2 f a1 64 0
set_option maxRecDepth 100000 in
set_option maxHeartbeats 4000000 in
theorem mX1_hasMove (l : Launch) (g : GE) (b ca : Nat) (kk : Int32) (sg : Int32) (f : Nat → Int32) (a1 : Int32) (r : Int32) (hyp : fX1_hasMove f a1 = some r) : PI l yX1_hasMove cX1_hasMove 3 (some .boolean) 2 47 g [(b, .inr (1, [.ref ca, .int kk, .int sg])), (ca, .inl (g.2.1, 49, .inl f))] [.ref b, .int a1] r := by
  refine metP_intro (by decide) rfl ?_
  intro p e R s m args below meth c Q hRf hRl hQ hx hb hml hr hlocks hown hts hin hE hP ls hl
  have hown : s.vm.findClass "HallGuards$Board" = some m.cls := hown
  have hl : lv_has ls 3 [(0, .ref b), (1, .int a1)] := hl
  unfold fX1_hasMove at hyp
  refine lv_iconst (v := 0) hx hb dX1_hasMove_0 (by decide) ?_
  refine lv_istore_n (lv' := [(2, .int 0), (0, .ref b), (1, .int a1)]) hx hb dX1_hasMove_1 rfl hl (by decide) rfl (fun ls hl => ?_)
  refine lp_i (r := r) (fun z : Int32 => ∀ (ls : Array Slot), lv_has ls 3 [(0, .ref b), (1, .int a1), (2, .int z)] → W p l e R s m args below meth c s.heap [] 0 0 Q (F0 m 2 ls [])) ?_ 64 0 hyp ls (lv_sub hl [1, 2, 0] rfl)
  intro self_2 ihself_2 z hyp ls hl
  generalize z = v2_1 at hyp hl ⊢
  replace hyp : fX1_hasMove_L2_B f a1 self_2 v2_1 = some r := hyp
  have hl : lv_has ls 3 [(0, .ref b), (1, .int a1), (2, .int v2_1)] := hl
  show W p l e R s m args below meth c s.heap [] 0 0 Q (F0 m 2 ls [])
  unfold fX1_hasMove_L2_B at hyp
  refine lv_iload_n hx hb dX1_hasMove_2 rfl (lv_at hl 2 rfl) ?_
  refine lv_bipush (v := 49) hx hb dX1_hasMove_3 (by decide) ?_
  refine lv_icmp_ge (tgt := 37) hx hb dX1_hasMove_5 (by decide) (fun h_3 => ?_) (fun h_3 => ?_)
  · replace hyp := ite_t h_3 hyp
    refine lv_iconst (v := 0) hx hb dX1_hasMove_37 (by decide) ?_
    subst hQ
    exact rZ hx hb hr hlocks (Or.inl rfl) (some_e hyp) dX1_hasMove_38
  · replace hyp := ite_f h_3 hyp
    refine lv_aload_n hx hb dX1_hasMove_8 rfl (lv_at hl 0 rfl) ?_
    refine gf_X1_9 hx hb hts hown hE hP 0 rfl rfl dX1_hasMove_9 ?_
    refine lv_iload_n hx hb dX1_hasMove_12 rfl (lv_at hl 2 rfl) ?_
    obtain ⟨hi, hyp⟩ := grd_e hyp
    refine va_iald hx hb hE.1 hP 1 0 rfl rfl (inB_vp hi) dX1_hasMove_13 ?_
    obtain ⟨r_4, hr_4, hyp⟩ := opt_e hyp
    refine pSN (As := [.int (f v2_1.toNatClampNeg)]) (rest := []) ⟨hx, hb, hml, hown, hts⟩ hE (mX8_sideOf l g (f v2_1.toNatClampNeg) r_4 hr_4) cf_X8_sideOf st_X8_sideOf ml_X1_42 ⟨Nat.le_trans (Nat.le_of_ble_eq_true rfl) hRf, Nat.le_trans (Nat.le_of_ble_eq_true rfl) hRl⟩ (va_P_nil) rfl hl.1 rfl (Nat.le_of_ble_eq_true rfl) dX1_hasMove_14 ⟨Nat.zero_le _, Nat.zero_le _⟩ ?_
    refine lv_iload_n hx hb dX1_hasMove_17 rfl (lv_at hl 1 rfl) ?_
    refine lv_icmp_ne (tgt := 31) hx hb dX1_hasMove_18 (by decide) (fun h_5 => ?_) (fun h_5 => ?_)
    · replace hyp := ite_f h_5 hyp
      refine lv_iinc (v := v2_1 + 1) (lv' := [(2, .int (v2_1 + 1)), (0, .ref b), (1, .int a1)]) hx hb dX1_hasMove_31 hl (k := 2) rfl rfl (by decide) rfl (fun ls hl => ?_)
      refine lv_goto (tgt := 2) hx hb dX1_hasMove_34 (by decide) ?_
      exact ihself_2 (v2_1 + 1) hyp ls (lv_sub hl [1, 2, 0] rfl)
    · replace hyp := ite_t h_5 hyp
      refine lv_aload_n hx hb dX1_hasMove_21 rfl (lv_at hl 0 rfl) ?_
      refine lv_iload_n hx hb dX1_hasMove_22 rfl (lv_at hl 2 rfl) ?_
      obtain ⟨r_6, hr_6, hyp⟩ := opt_e hyp
      refine pV (As := [.int v2_1]) (rest := []) ⟨hx, hb, hml, hown, hts⟩ hE (mX1_countFrom l g b ca kk sg f v2_1 r_6 hr_6) cf_X1_countFrom im_X1_countFrom se_X1_countFrom ml_X1_70 ⟨Nat.le_trans (Nat.le_of_ble_eq_true rfl) hRf, Nat.le_trans (Nat.le_of_ble_eq_true rfl) hRl⟩ (hP.sub (ws' := [(b, .inr (1, [.ref ca, .int kk, .int sg])), (ca, .inl (g.2.1, 49, .inl f))]) [0, 1] rfl) (ci := 1) (q0 := 0) rfl rfl rfl rfl hl.1 rfl (Nat.le_of_ble_eq_true rfl) dX1_hasMove_23 ⟨Nat.zero_le _, Nat.zero_le _⟩ ?_
      refine lv_if_le (tgt := 31) hx hb dX1_hasMove_26 (by decide) (fun h_7 => ?_) (fun h_7 => ?_)
      · replace hyp := ite_t h_7 hyp
        refine lv_iinc (v := v2_1 + 1) (lv' := [(2, .int (v2_1 + 1)), (0, .ref b), (1, .int a1)]) hx hb dX1_hasMove_31 hl (k := 2) rfl rfl (by decide) rfl (fun ls hl => ?_)
        refine lv_goto (tgt := 2) hx hb dX1_hasMove_34 (by decide) ?_
        exact ihself_2 (v2_1 + 1) hyp ls (lv_sub hl [1, 2, 0] rfl)
      · replace hyp := ite_f h_7 hyp
        refine lv_iconst (v := 1) hx hb dX1_hasMove_29 (by decide) ?_
        subst hQ
        exact rZ hx hb hr hlocks (Or.inr rfl) (some_e hyp) dX1_hasMove_30

def fX1_needsFour (kk : Int32) (sg : Int32) : Option Int32 :=
  jn (fun (t_1 : Int32) => if sg = 0 then (if kk = 24 then (some 1) else (if t_1 = 0 then (some 0) else (some 1))) else (some 1)) (fun J_2 => jn (J_2 1) (fun J_6 => if kk = 17 then (J_6) else (if kk = 23 then (J_6) else (if kk = 25 then (J_6) else (if kk = 31 then (J_6) else (J_2 0))))))
set_option maxRecDepth 100000 in
set_option maxHeartbeats 4000000 in
theorem mX1_needsFour (l : Launch) (g : GE) (b ca : Nat) (kk : Int32) (sg : Int32) (f : Nat → Int32) (r : Int32) (hyp : fX1_needsFour kk sg = some r) : PI l yX1_needsFour cX1_needsFour 2 (some .boolean) 0 0 g [(b, .inr (1, [.ref ca, .int kk, .int sg])), (ca, .inl (g.2.1, 49, .inl f))] [.ref b] r := by
  refine metP_intro (by decide) rfl ?_
  intro p e R s m args below meth c Q hRf hRl hQ hx hb hml hr hlocks hown hts hin hE hP ls hl
  have hown : s.vm.findClass "HallGuards$Board" = some m.cls := hown
  have hl : lv_has ls 2 [(0, .ref b)] := hl
  unfold fX1_needsFour at hyp
  refine lv_aload_n hx hb dX1_needsFour_0 rfl (lv_at hl 0 rfl) ?_
  refine gf_X1_15 hx hb hts hown hE hP 0 rfl rfl dX1_needsFour_1 ?_
  refine lv_bipush (v := 17) hx hb dX1_needsFour_4 (by decide) ?_
  obtain ⟨J_2, eJ_2, hyp⟩ := jn_e hyp
  have kJ_2 : ∀ (t_1 : Int32) (ls : Array Slot), J_2 t_1 = some r → lv_has ls 2 [(0, .ref b)] → W p l e R s m args below meth c s.heap [] 0 0 Q (F0 m 41 ls [.int t_1]) := by
    intro t_1  ls hyp hl
    replace hyp := (congrFun (eJ_2) t_1).symm.trans hyp
    refine lv_istore_n (lv' := [(1, .int t_1), (0, .ref b)]) hx hb dX1_needsFour_41 rfl hl (by decide) rfl (fun ls hl => ?_)
    refine lv_aload_n hx hb dX1_needsFour_42 rfl (lv_at hl 1 rfl) ?_
    refine gf_X1_25 hx hb hts hown hE hP 0 rfl rfl dX1_needsFour_43 ?_
    refine lv_if_ne (tgt := 62) hx hb dX1_needsFour_46 (by decide) (fun h_3 => ?_) (fun h_3 => ?_)
    · replace hyp := ite_f h_3 hyp
      refine lv_iconst (v := 1) hx hb dX1_needsFour_62 (by decide) ?_
      refine lv_goto (tgt := 67) hx hb dX1_needsFour_63 (by decide) ?_
      subst hQ
      exact rZ hx hb hr hlocks (Or.inr rfl) (some_e hyp) dX1_needsFour_67
    · replace hyp := ite_t h_3 hyp
      refine lv_aload_n hx hb dX1_needsFour_49 rfl (lv_at hl 1 rfl) ?_
      refine gf_X1_15 hx hb hts hown hE hP 0 rfl rfl dX1_needsFour_50 ?_
      refine lv_bipush (v := 24) hx hb dX1_needsFour_53 (by decide) ?_
      refine lv_icmp_eq (tgt := 62) hx hb dX1_needsFour_55 (by decide) (fun h_4 => ?_) (fun h_4 => ?_)
      · replace hyp := ite_t h_4 hyp
        refine lv_iconst (v := 1) hx hb dX1_needsFour_62 (by decide) ?_
        refine lv_goto (tgt := 67) hx hb dX1_needsFour_63 (by decide) ?_
        subst hQ
        exact rZ hx hb hr hlocks (Or.inr rfl) (some_e hyp) dX1_needsFour_67
      · replace hyp := ite_f h_4 hyp
        refine lv_iload_n hx hb dX1_needsFour_58 rfl (lv_at hl 0 rfl) ?_
        refine lv_if_eq (tgt := 66) hx hb dX1_needsFour_59 (by decide) (fun h_5 => ?_) (fun h_5 => ?_)
        · replace hyp := ite_t h_5 hyp
          refine lv_iconst (v := 0) hx hb dX1_needsFour_66 (by decide) ?_
          subst hQ
          exact rZ hx hb hr hlocks (Or.inl rfl) (some_e hyp) dX1_needsFour_67
        · replace hyp := ite_f h_5 hyp
          refine lv_iconst (v := 1) hx hb dX1_needsFour_62 (by decide) ?_
          refine lv_goto (tgt := 67) hx hb dX1_needsFour_63 (by decide) ?_
          subst hQ
          exact rZ hx hb hr hlocks (Or.inr rfl) (some_e hyp) dX1_needsFour_67
  obtain ⟨J_6, eJ_6, hyp⟩ := jn_e hyp
  have kJ_6 : ∀ (ls : Array Slot), J_6 = some r → lv_has ls 2 [(0, .ref b)] → W p l e R s m args below meth c s.heap [] 0 0 Q (F0 m 36 ls []) := by
    intro  ls hyp hl
    replace hyp := (eJ_6).symm.trans hyp
    refine lv_iconst (v := 1) hx hb dX1_needsFour_36 (by decide) ?_
    refine lv_goto (tgt := 41) hx hb dX1_needsFour_37 (by decide) ?_
    exact kJ_2 1 ls hyp hl
  refine lv_icmp_eq (tgt := 36) hx hb dX1_needsFour_6 (by decide) (fun h_7 => ?_) (fun h_7 => ?_)
  · replace hyp := ite_t h_7 hyp
    exact kJ_6 ls hyp hl
  · replace hyp := ite_f h_7 hyp
    refine lv_aload_n hx hb dX1_needsFour_9 rfl (lv_at hl 0 rfl) ?_
    refine gf_X1_15 hx hb hts hown hE hP 0 rfl rfl dX1_needsFour_10 ?_
    refine lv_bipush (v := 23) hx hb dX1_needsFour_13 (by decide) ?_
    refine lv_icmp_eq (tgt := 36) hx hb dX1_needsFour_15 (by decide) (fun h_8 => ?_) (fun h_8 => ?_)
    · replace hyp := ite_t h_8 hyp
      exact kJ_6 ls hyp hl
    · replace hyp := ite_f h_8 hyp
      refine lv_aload_n hx hb dX1_needsFour_18 rfl (lv_at hl 0 rfl) ?_
      refine gf_X1_15 hx hb hts hown hE hP 0 rfl rfl dX1_needsFour_19 ?_
      refine lv_bipush (v := 25) hx hb dX1_needsFour_22 (by decide) ?_
      refine lv_icmp_eq (tgt := 36) hx hb dX1_needsFour_24 (by decide) (fun h_9 => ?_) (fun h_9 => ?_)
      · replace hyp := ite_t h_9 hyp
        exact kJ_6 ls hyp hl
      · replace hyp := ite_f h_9 hyp
        refine lv_aload_n hx hb dX1_needsFour_27 rfl (lv_at hl 0 rfl) ?_
        refine gf_X1_15 hx hb hts hown hE hP 0 rfl rfl dX1_needsFour_28 ?_
        refine lv_bipush (v := 31) hx hb dX1_needsFour_31 (by decide) ?_
        refine lv_icmp_ne (tgt := 40) hx hb dX1_needsFour_33 (by decide) (fun h_10 => ?_) (fun h_10 => ?_)
        · replace hyp := ite_f h_10 hyp
          refine lv_iconst (v := 0) hx hb dX1_needsFour_40 (by decide) ?_
          exact kJ_2 0 ls hyp hl
        · replace hyp := ite_t h_10 hyp
          exact kJ_6 ls hyp hl

def fX1_isCaught (kk : Int32) (sg : Int32) (f : Nat → Int32) (a1 : Int32) (a2 : Int32) (a3 : Int32) : Option Int32 :=
  (fX8_beside a1 a2).bind (fun (r_1 : Int32) => (fX1_at f r_1).bind (fun (r_2 : Int32) => (fX8_sideOf r_2).bind (fun (r_3 : Int32) => if r_3 = a3 then (jn ((fX8_beside r_1 a2).bind (fun (r_6 : Int32) => (fX1_hostileTo f a3 r_6).bind (fun (r_7 : Int32) => grd (is01 r_7) (some r_7)))) (fun J_5 => if r_2 = 3 then ((fX1_needsFour kk sg).bind (fun (r_9 : Int32) => if r_9 = 0 then (J_5) else ((fX1_countHostileBesideKing kk f).bind (fun (r_11 : Int32) => if r_11 = 4 then (some 1) else (some 0))))) else (J_5))) else (some 0))))
set_option maxRecDepth 100000 in
set_option maxHeartbeats 4000000 in
theorem mX1_isCaught (l : Launch) (g : GE) (b ca : Nat) (kk : Int32) (sg : Int32) (f : Nat → Int32) (a1 : Int32) (a2 : Int32) (a3 : Int32) (r : Int32) (hyp : fX1_isCaught kk sg f a1 a2 a3 = some r) : PI l yX1_isCaught cX1_isCaught 6 (some .boolean) 2 45 g [(b, .inr (1, [.ref ca, .int kk, .int sg])), (ca, .inl (g.2.1, 49, .inl f))] [.ref b, .int a1, .int a2, .int a3] r := by
  refine metP_intro (by decide) rfl ?_
  intro p e R s m args below meth c Q hRf hRl hQ hx hb hml hr hlocks hown hts hin hE hP ls hl
  have hown : s.vm.findClass "HallGuards$Board" = some m.cls := hown
  have hl : lv_has ls 6 [(0, .ref b), (1, .int a1), (2, .int a2), (3, .int a3)] := hl
  unfold fX1_isCaught at hyp
  refine lv_iload_n hx hb dX1_isCaught_0 rfl (lv_at hl 1 rfl) ?_
  refine lv_iload_n hx hb dX1_isCaught_1 rfl (lv_at hl 2 rfl) ?_
  obtain ⟨r_1, hr_1, hyp⟩ := opt_e hyp
  refine pSN (As := [.int a1, .int a2]) (rest := []) ⟨hx, hb, hml, hown, hts⟩ hE (mX8_beside l g a1 a2 r_1 hr_1) cf_X8_beside st_X8_beside ml_X1_53 ⟨Nat.le_trans (Nat.le_of_ble_eq_true rfl) hRf, Nat.le_trans (Nat.le_of_ble_eq_true rfl) hRl⟩ (va_P_nil) rfl hl.1 rfl (Nat.le_of_ble_eq_true rfl) dX1_isCaught_2 ⟨Nat.zero_le _, Nat.zero_le _⟩ ?_
  refine lv_istore (lv' := [(4, .int r_1), (0, .ref b), (1, .int a1), (2, .int a2), (3, .int a3)]) hx hb dX1_isCaught_5 hl (by decide) rfl (fun ls hl => ?_)
  refine lv_aload_n hx hb dX1_isCaught_7 rfl (lv_at hl 1 rfl) ?_
  refine lv_iload hx hb dX1_isCaught_8 (lv_at hl 0 rfl) ?_
  obtain ⟨r_2, hr_2, hyp⟩ := opt_e hyp
  refine pV (As := [.int r_1]) (rest := []) ⟨hx, hb, hml, hown, hts⟩ hE (mX1_at l g b ca kk sg f r_1 r_2 hr_2) cf_X1_at im_X1_at se_X1_at ml_X1_60 ⟨Nat.le_trans (Nat.le_of_ble_eq_true rfl) hRf, Nat.le_trans (Nat.le_of_ble_eq_true rfl) hRl⟩ (hP.sub (ws' := [(b, .inr (1, [.ref ca, .int kk, .int sg])), (ca, .inl (g.2.1, 49, .inl f))]) [0, 1] rfl) (ci := 1) (q0 := 0) rfl rfl rfl rfl hl.1 rfl (Nat.le_of_ble_eq_true rfl) dX1_isCaught_10 ⟨Nat.zero_le _, Nat.zero_le _⟩ ?_
  refine lv_istore (lv' := [(5, .int r_2), (4, .int r_1), (0, .ref b), (1, .int a1), (2, .int a2), (3, .int a3)]) hx hb dX1_isCaught_13 hl (by decide) rfl (fun ls hl => ?_)
  refine lv_iload hx hb dX1_isCaught_15 (lv_at hl 0 rfl) ?_
  obtain ⟨r_3, hr_3, hyp⟩ := opt_e hyp
  refine pSN (As := [.int r_2]) (rest := []) ⟨hx, hb, hml, hown, hts⟩ hE (mX8_sideOf l g r_2 r_3 hr_3) cf_X8_sideOf st_X8_sideOf ml_X1_42 ⟨Nat.le_trans (Nat.le_of_ble_eq_true rfl) hRf, Nat.le_trans (Nat.le_of_ble_eq_true rfl) hRl⟩ (va_P_nil) rfl hl.1 rfl (Nat.le_of_ble_eq_true rfl) dX1_isCaught_17 ⟨Nat.zero_le _, Nat.zero_le _⟩ ?_
  refine lv_iload_n hx hb dX1_isCaught_20 rfl (lv_at hl 5 rfl) ?_
  refine lv_icmp_eq (tgt := 26) hx hb dX1_isCaught_21 (by decide) (fun h_4 => ?_) (fun h_4 => ?_)
  · replace hyp := ite_t h_4 hyp
    refine lv_iload hx hb dX1_isCaught_26 (lv_at hl 0 rfl) ?_
    refine lv_iconst (v := 3) hx hb dX1_isCaught_28 (by decide) ?_
    obtain ⟨J_5, eJ_5, hyp⟩ := jn_e hyp
    have kJ_5 : ∀ (ls : Array Slot), J_5 = some r → lv_has ls 6 [(0, .ref b), (2, .int a2), (3, .int a3), (4, .int r_1)] → W p l e R s m args below meth c s.heap [] 0 0 Q (F0 m 53 ls []) := by
      intro  ls hyp hl
      replace hyp := (eJ_5).symm.trans hyp
      refine lv_aload_n hx hb dX1_isCaught_53 rfl (lv_at hl 0 rfl) ?_
      refine lv_iload_n hx hb dX1_isCaught_54 rfl (lv_at hl 2 rfl) ?_
      refine lv_iload hx hb dX1_isCaught_55 (lv_at hl 3 rfl) ?_
      refine lv_iload_n hx hb dX1_isCaught_57 rfl (lv_at hl 1 rfl) ?_
      obtain ⟨r_6, hr_6, hyp⟩ := opt_e hyp
      refine pSN (As := [.int r_1, .int a2]) (rest := [.int a3, .ref b]) ⟨hx, hb, hml, hown, hts⟩ hE (mX8_beside l g r_1 a2 r_6 hr_6) cf_X8_beside st_X8_beside ml_X1_53 ⟨Nat.le_trans (Nat.le_of_ble_eq_true rfl) hRf, Nat.le_trans (Nat.le_of_ble_eq_true rfl) hRl⟩ (va_P_nil) rfl hl.1 rfl (Nat.le_of_ble_eq_true rfl) dX1_isCaught_58 ⟨Nat.zero_le _, Nat.zero_le _⟩ ?_
      obtain ⟨r_7, hr_7, hyp⟩ := opt_e hyp
      refine pV (As := [.int a3, .int r_6]) (rest := []) ⟨hx, hb, hml, hown, hts⟩ hE (mX1_hostileTo l g b ca kk sg f a3 r_6 r_7 hr_7) cf_X1_hostileTo im_X1_hostileTo se_X1_hostileTo ml_X1_57 ⟨Nat.le_trans (Nat.le_of_ble_eq_true rfl) hRf, Nat.le_trans (Nat.le_of_ble_eq_true rfl) hRl⟩ (hP.sub (ws' := [(b, .inr (1, [.ref ca, .int kk, .int sg])), (ca, .inl (g.2.1, 49, .inl f))]) [0, 1] rfl) (ci := 1) (q0 := 0) rfl rfl rfl rfl hl.1 rfl (Nat.le_of_ble_eq_true rfl) dX1_isCaught_61 ⟨Nat.zero_le _, Nat.zero_le _⟩ ?_
      obtain ⟨h01, hyp⟩ := grd_e hyp
      subst hQ
      exact rZ hx hb hr hlocks (is01_e h01) (some_e hyp) dX1_isCaught_64
    refine lv_icmp_ne (tgt := 53) hx hb dX1_isCaught_29 (by decide) (fun h_8 => ?_) (fun h_8 => ?_)
    · replace hyp := ite_f h_8 hyp
      exact kJ_5 ls hyp (lv_sub hl [2, 4, 5, 1] rfl)
    · replace hyp := ite_t h_8 hyp
      refine lv_aload_n hx hb dX1_isCaught_32 rfl (lv_at hl 2 rfl) ?_
      obtain ⟨r_9, hr_9, hyp⟩ := opt_e hyp
      refine pV (As := []) (rest := []) ⟨hx, hb, hml, hown, hts⟩ hE (mX1_needsFour l g b ca kk sg f r_9 hr_9) cf_X1_needsFour im_X1_needsFour se_X1_needsFour ml_X1_101 ⟨Nat.le_trans (Nat.le_of_ble_eq_true rfl) hRf, Nat.le_trans (Nat.le_of_ble_eq_true rfl) hRl⟩ (hP.sub (ws' := [(b, .inr (1, [.ref ca, .int kk, .int sg])), (ca, .inl (g.2.1, 49, .inl f))]) [0, 1] rfl) (ci := 1) (q0 := 0) rfl rfl rfl rfl hl.1 rfl (Nat.le_of_ble_eq_true rfl) dX1_isCaught_33 ⟨Nat.zero_le _, Nat.zero_le _⟩ ?_
      refine lv_if_eq (tgt := 53) hx hb dX1_isCaught_36 (by decide) (fun h_10 => ?_) (fun h_10 => ?_)
      · replace hyp := ite_t h_10 hyp
        exact kJ_5 ls hyp (lv_sub hl [2, 4, 5, 1] rfl)
      · replace hyp := ite_f h_10 hyp
        refine lv_aload_n hx hb dX1_isCaught_39 rfl (lv_at hl 2 rfl) ?_
        obtain ⟨r_11, hr_11, hyp⟩ := opt_e hyp
        refine pV (As := []) (rest := []) ⟨hx, hb, hml, hown, hts⟩ hE (mX1_countHostileBesideKing l g b ca kk sg f r_11 hr_11) cf_X1_countHostileBesideKing im_X1_countHostileBesideKing se_X1_countHostileBesideKing ml_X1_105 ⟨Nat.le_trans (Nat.le_of_ble_eq_true rfl) hRf, Nat.le_trans (Nat.le_of_ble_eq_true rfl) hRl⟩ (hP.sub (ws' := [(b, .inr (1, [.ref ca, .int kk, .int sg])), (ca, .inl (g.2.1, 49, .inl f))]) [0, 1] rfl) (ci := 1) (q0 := 0) rfl rfl rfl rfl hl.1 rfl (Nat.le_of_ble_eq_true rfl) dX1_isCaught_40 ⟨Nat.zero_le _, Nat.zero_le _⟩ ?_
        refine lv_iconst (v := 4) hx hb dX1_isCaught_43 (by decide) ?_
        refine lv_icmp_ne (tgt := 51) hx hb dX1_isCaught_44 (by decide) (fun h_12 => ?_) (fun h_12 => ?_)
        · replace hyp := ite_f h_12 hyp
          refine lv_iconst (v := 0) hx hb dX1_isCaught_51 (by decide) ?_
          subst hQ
          exact rZ hx hb hr hlocks (Or.inl rfl) (some_e hyp) dX1_isCaught_52
        · replace hyp := ite_t h_12 hyp
          refine lv_iconst (v := 1) hx hb dX1_isCaught_47 (by decide) ?_
          refine lv_goto (tgt := 52) hx hb dX1_isCaught_48 (by decide) ?_
          subst hQ
          exact rZ hx hb hr hlocks (Or.inr rfl) (some_e hyp) dX1_isCaught_52
  · replace hyp := ite_f h_4 hyp
    refine lv_iconst (v := 0) hx hb dX1_isCaught_24 (by decide) ?_
    subst hQ
    exact rZ hx hb hr hlocks (Or.inl rfl) (some_e hyp) dX1_isCaught_25

def fX1_isWonBy (kk : Int32) (f : Nat → Int32) (a1 : Int32) (a2 : Int32) : Option Int32 :=
  (fX1_at f a1).bind (fun (r_1 : Int32) => jn (jn ((fX8_sideOf r_1).bind (fun (r_4 : Int32) => (fX1_hasMove f (1 - r_4)).bind (fun (r_5 : Int32) => if r_5 = 0 then (some 1) else (some 0)))) (fun J_3 => if r_1 = 3 then ((fX8_isCorner a1).bind (fun (r_8 : Int32) => if r_8 = 0 then (J_3) else (some 1))) else (J_3))) (fun J_2 => if a2 = 0 then (J_2) else (if 0 ≤ kk then (J_2) else (some 1))))
set_option maxRecDepth 100000 in
set_option maxHeartbeats 4000000 in
theorem mX1_isWonBy (l : Launch) (g : GE) (b ca : Nat) (kk : Int32) (sg : Int32) (f : Nat → Int32) (a1 : Int32) (a2 : Int32) (r : Int32) (hyp : fX1_isWonBy kk f a1 a2 = some r) : PI l yX1_isWonBy cX1_isWonBy 4 (some .boolean) 3 69 g [(b, .inr (1, [.ref ca, .int kk, .int sg])), (ca, .inl (g.2.1, 49, .inl f))] [.ref b, .int a1, .int a2] r := by
  refine metP_intro (by decide) rfl ?_
  intro p e R s m args below meth c Q hRf hRl hQ hx hb hml hr hlocks hown hts hin hE hP ls hl
  have hown : s.vm.findClass "HallGuards$Board" = some m.cls := hown
  have hl : lv_has ls 4 [(0, .ref b), (1, .int a1), (2, .int a2)] := hl
  unfold fX1_isWonBy at hyp
  refine lv_aload_n hx hb dX1_isWonBy_0 rfl (lv_at hl 0 rfl) ?_
  refine lv_iload_n hx hb dX1_isWonBy_1 rfl (lv_at hl 1 rfl) ?_
  obtain ⟨r_1, hr_1, hyp⟩ := opt_e hyp
  refine pV (As := [.int a1]) (rest := []) ⟨hx, hb, hml, hown, hts⟩ hE (mX1_at l g b ca kk sg f a1 r_1 hr_1) cf_X1_at im_X1_at se_X1_at ml_X1_60 ⟨Nat.le_trans (Nat.le_of_ble_eq_true rfl) hRf, Nat.le_trans (Nat.le_of_ble_eq_true rfl) hRl⟩ (hP.sub (ws' := [(b, .inr (1, [.ref ca, .int kk, .int sg])), (ca, .inl (g.2.1, 49, .inl f))]) [0, 1] rfl) (ci := 1) (q0 := 0) rfl rfl rfl rfl hl.1 rfl (Nat.le_of_ble_eq_true rfl) dX1_isWonBy_2 ⟨Nat.zero_le _, Nat.zero_le _⟩ ?_
  refine lv_istore_n (lv' := [(3, .int r_1), (0, .ref b), (1, .int a1), (2, .int a2)]) hx hb dX1_isWonBy_5 rfl hl (by decide) rfl (fun ls hl => ?_)
  refine lv_iload_n hx hb dX1_isWonBy_6 rfl (lv_at hl 3 rfl) ?_
  obtain ⟨J_2, eJ_2, hyp⟩ := jn_e hyp
  have kJ_2 : ∀ (ls : Array Slot), J_2 = some r → lv_has ls 4 [(0, .ref b), (1, .int a1), (3, .int r_1)] → W p l e R s m args below meth c s.heap [] 0 0 Q (F0 m 19 ls []) := by
    intro  ls hyp hl
    replace hyp := (eJ_2).symm.trans hyp
    refine lv_iload_n hx hb dX1_isWonBy_19 rfl (lv_at hl 2 rfl) ?_
    refine lv_iconst (v := 3) hx hb dX1_isWonBy_20 (by decide) ?_
    obtain ⟨J_3, eJ_3, hyp⟩ := jn_e hyp
    have kJ_3 : ∀ (ls : Array Slot), J_3 = some r → lv_has ls 4 [(0, .ref b), (3, .int r_1)] → W p l e R s m args below meth c s.heap [] 0 0 Q (F0 m 33 ls []) := by
      intro  ls hyp hl
      replace hyp := (eJ_3).symm.trans hyp
      refine lv_aload_n hx hb dX1_isWonBy_33 rfl (lv_at hl 0 rfl) ?_
      refine lv_iconst (v := 1) hx hb dX1_isWonBy_34 (by decide) ?_
      refine lv_iload_n hx hb dX1_isWonBy_35 rfl (lv_at hl 1 rfl) ?_
      obtain ⟨r_4, hr_4, hyp⟩ := opt_e hyp
      refine pSN (As := [.int r_1]) (rest := [.int 1, .ref b]) ⟨hx, hb, hml, hown, hts⟩ hE (mX8_sideOf l g r_1 r_4 hr_4) cf_X8_sideOf st_X8_sideOf ml_X1_42 ⟨Nat.le_trans (Nat.le_of_ble_eq_true rfl) hRf, Nat.le_trans (Nat.le_of_ble_eq_true rfl) hRl⟩ (va_P_nil) rfl hl.1 rfl (Nat.le_of_ble_eq_true rfl) dX1_isWonBy_36 ⟨Nat.zero_le _, Nat.zero_le _⟩ ?_
      refine lv_isub hx hb dX1_isWonBy_39 ?_
      obtain ⟨r_5, hr_5, hyp⟩ := opt_e hyp
      refine pV (As := [.int (1 - r_4)]) (rest := []) ⟨hx, hb, hml, hown, hts⟩ hE (mX1_hasMove l g b ca kk sg f (1 - r_4) r_5 hr_5) cf_X1_hasMove im_X1_hasMove se_X1_hasMove ml_X1_113 ⟨Nat.le_trans (Nat.le_of_ble_eq_true rfl) hRf, Nat.le_trans (Nat.le_of_ble_eq_true rfl) hRl⟩ (hP.sub (ws' := [(b, .inr (1, [.ref ca, .int kk, .int sg])), (ca, .inl (g.2.1, 49, .inl f))]) [0, 1] rfl) (ci := 1) (q0 := 0) rfl rfl rfl rfl hl.1 rfl (Nat.le_of_ble_eq_true rfl) dX1_isWonBy_40 ⟨Nat.zero_le _, Nat.zero_le _⟩ ?_
      refine lv_if_ne (tgt := 50) hx hb dX1_isWonBy_43 (by decide) (fun h_6 => ?_) (fun h_6 => ?_)
      · replace hyp := ite_f h_6 hyp
        refine lv_iconst (v := 0) hx hb dX1_isWonBy_50 (by decide) ?_
        subst hQ
        exact rZ hx hb hr hlocks (Or.inl rfl) (some_e hyp) dX1_isWonBy_51
      · replace hyp := ite_t h_6 hyp
        refine lv_iconst (v := 1) hx hb dX1_isWonBy_46 (by decide) ?_
        refine lv_goto (tgt := 51) hx hb dX1_isWonBy_47 (by decide) ?_
        subst hQ
        exact rZ hx hb hr hlocks (Or.inr rfl) (some_e hyp) dX1_isWonBy_51
    refine lv_icmp_ne (tgt := 33) hx hb dX1_isWonBy_21 (by decide) (fun h_7 => ?_) (fun h_7 => ?_)
    · replace hyp := ite_f h_7 hyp
      exact kJ_3 ls hyp (lv_sub hl [0, 2] rfl)
    · replace hyp := ite_t h_7 hyp
      refine lv_iload_n hx hb dX1_isWonBy_24 rfl (lv_at hl 1 rfl) ?_
      obtain ⟨r_8, hr_8, hyp⟩ := opt_e hyp
      refine pSN (As := [.int a1]) (rest := []) ⟨hx, hb, hml, hown, hts⟩ hE (mX8_isCorner l g a1 r_8 hr_8) cf_X8_isCorner st_X8_isCorner ml_X1_109 ⟨Nat.le_trans (Nat.le_of_ble_eq_true rfl) hRf, Nat.le_trans (Nat.le_of_ble_eq_true rfl) hRl⟩ (va_P_nil) rfl hl.1 rfl (Nat.le_of_ble_eq_true rfl) dX1_isWonBy_25 ⟨Nat.zero_le _, Nat.zero_le _⟩ ?_
      refine lv_if_eq (tgt := 33) hx hb dX1_isWonBy_28 (by decide) (fun h_9 => ?_) (fun h_9 => ?_)
      · replace hyp := ite_t h_9 hyp
        exact kJ_3 ls hyp (lv_sub hl [0, 2] rfl)
      · replace hyp := ite_f h_9 hyp
        refine lv_iconst (v := 1) hx hb dX1_isWonBy_31 (by decide) ?_
        subst hQ
        exact rZ hx hb hr hlocks (Or.inr rfl) (some_e hyp) dX1_isWonBy_32
  refine lv_if_eq (tgt := 19) hx hb dX1_isWonBy_7 (by decide) (fun h_10 => ?_) (fun h_10 => ?_)
  · replace hyp := ite_t h_10 hyp
    exact kJ_2 ls hyp (lv_sub hl [1, 2, 0] rfl)
  · replace hyp := ite_f h_10 hyp
    refine lv_aload_n hx hb dX1_isWonBy_10 rfl (lv_at hl 1 rfl) ?_
    refine gf_X1_15 hx hb hts hown hE hP 0 rfl rfl dX1_isWonBy_11 ?_
    refine lv_if_ge (tgt := 19) hx hb dX1_isWonBy_14 (by decide) (fun h_11 => ?_) (fun h_11 => ?_)
    · replace hyp := ite_t h_11 hyp
      exact kJ_2 ls hyp (lv_sub hl [1, 2, 0] rfl)
    · replace hyp := ite_f h_11 hyp
      refine lv_iconst (v := 1) hx hb dX1_isWonBy_17 (by decide) ?_
      subst hQ
      exact rZ hx hb hr hlocks (Or.inr rfl) (some_e hyp) dX1_isWonBy_18

def fX1_set (kk : Int32) (f : Nat → Int32) (a1 : Int32) (a2 : Int32) : Option ((Nat → Int32) × Int32) :=
  if a1 < 0 then (some (f, kk)) else (if a1 < 49 then (jn (fun (wf_3 : Nat → Int32) (wkk_4 : Int32) => jn (fun (wf_6 : Nat → Int32) (wkk_7 : Int32) => grd (inB a1 49) (some (upd wf_6 a1.toNatClampNeg a2, wkk_7))) (fun J_8 => if a2 = 3 then (J_8 wf_3 a1) else (J_8 wf_3 wkk_4))) (fun J_5 => if kk = a1 then (J_5 f (-1)) else (J_5 f kk))) else (some (f, kk)))
set_option maxRecDepth 100000 in
set_option maxHeartbeats 4000000 in
theorem mX1_set (l : Launch) (g : GE) (b ca : Nat) (kk : Int32) (sg : Int32) (f : Nat → Int32) (a1 : Int32) (a2 : Int32) (r : (Nat → Int32) × Int32) (hyp : fX1_set kk f a1 a2 = some r) : WM l yX1_set cX1_set 3 none 0 0 g [(b, .inr (1, [.ref ca, .int kk, .int sg])), (ca, .inl (g.2.1, 49, .inl f))] [.ref b, .int a1, .int a2] none [(b, .inr (1, [.ref ca, .int r.2, .int sg])), (ca, .inl (g.2.1, 49, .inl r.1))] := by
  refine metW_intro (by decide) rfl ?_
  intro p e R s m args below meth c Q A hRf hRl hQ hx hb hml hr hlocks hown hts hin hE hA H locs hP hD hS ls hl
  have hown : s.vm.findClass "HallGuards$Board" = some m.cls := hown
  have hl : lv_has ls 3 [(0, .ref b), (1, .int a1), (2, .int a2)] := hl
  unfold fX1_set at hyp
  refine lv_iload_n hx hb dX1_set_0 rfl (lv_at hl 1 rfl) ?_
  refine lv_if_lt (tgt := 10) hx hb dX1_set_1 (by decide) (fun h_1 => ?_) (fun h_1 => ?_)
  · replace hyp := ite_t h_1 hyp
    have hyp := some_e hyp
    subst hyp
    subst hQ
    exact rwV hx hb hr hlocks  hP hD hS dX1_set_10
  · replace hyp := ite_f h_1 hyp
    refine lv_iload_n hx hb dX1_set_4 rfl (lv_at hl 1 rfl) ?_
    refine lv_bipush (v := 49) hx hb dX1_set_5 (by decide) ?_
    refine lv_icmp_lt (tgt := 11) hx hb dX1_set_7 (by decide) (fun h_2 => ?_) (fun h_2 => ?_)
    · replace hyp := ite_t h_2 hyp
      refine lv_aload_n hx hb dX1_set_11 rfl (lv_at hl 0 rfl) ?_
      refine gf_X1_15 hx hb hts hown hE hP 0 rfl rfl dX1_set_12 ?_
      refine lv_iload_n hx hb dX1_set_15 rfl (lv_at hl 1 rfl) ?_
      obtain ⟨J_5, eJ_5, hyp⟩ := jn_e hyp
      have kJ_5 : ∀ (wf_3 : Nat → Int32) (wkk_4 : Int32) (H : Heap) (locs : List Loc) (ls : Array Slot), J_5 wf_3 wkk_4 = some r → lv_has ls 3 [(0, .ref b), (1, .int a1), (2, .int a2)] → va_P g.1 vwCl [(b, .inr (1, [.ref ca, .int wkk_4, .int sg])), (ca, .inl (g.2.1, 49, .inl wf_3))] H → va_D A [(b, .inr (1, [.ref ca, .int wkk_4, .int sg])), (ca, .inl (g.2.1, 49, .inl wf_3))] → va_S A s.heap H locs → W p l e R s m args below meth c H locs 0 0 Q (F0 m 24 ls []) := by
        intro wf_3 wkk_4 H locs  ls hyp hl hP hD hS
        replace hyp := (congrFun (congrFun (eJ_5) wf_3) wkk_4).symm.trans hyp
        refine lv_iload_n hx hb dX1_set_24 rfl (lv_at hl 2 rfl) ?_
        refine lv_iconst (v := 3) hx hb dX1_set_25 (by decide) ?_
        obtain ⟨J_8, eJ_8, hyp⟩ := jn_e hyp
        have kJ_8 : ∀ (wf_6 : Nat → Int32) (wkk_7 : Int32) (H : Heap) (locs : List Loc) (ls : Array Slot), J_8 wf_6 wkk_7 = some r → lv_has ls 3 [(0, .ref b), (1, .int a1), (2, .int a2)] → va_P g.1 vwCl [(b, .inr (1, [.ref ca, .int wkk_7, .int sg])), (ca, .inl (g.2.1, 49, .inl wf_6))] H → va_D A [(b, .inr (1, [.ref ca, .int wkk_7, .int sg])), (ca, .inl (g.2.1, 49, .inl wf_6))] → va_S A s.heap H locs → W p l e R s m args below meth c H locs 0 0 Q (F0 m 34 ls []) := by
          intro wf_6 wkk_7 H locs  ls hyp hl hP hD hS
          replace hyp := (congrFun (congrFun (eJ_8) wf_6) wkk_7).symm.trans hyp
          refine lv_aload_n hx hb dX1_set_34 rfl (lv_at hl 0 rfl) ?_
          refine gf_X1_9 hx hb hts hown hE hP 0 rfl rfl dX1_set_35 ?_
          refine lv_iload_n hx hb dX1_set_38 rfl (lv_at hl 1 rfl) ?_
          refine lv_iload_n hx hb dX1_set_39 rfl (lv_at hl 2 rfl) ?_
          obtain ⟨hi, hyp⟩ := grd_e hyp
          refine va_iast hx hb hE.1 hP hD hS 1 0 rfl rfl (inB_vp hi) dX1_set_40 (fun H locs hP hD hS => ?_)
          have hP : va_P g.1 vwCl [(b, .inr (1, [.ref ca, .int wkk_7, .int sg])), (ca, .inl (g.2.1, 49, .inl (upd wf_6 a1.toNatClampNeg a2)))] H := hP
          have hD : va_D A [(b, .inr (1, [.ref ca, .int wkk_7, .int sg])), (ca, .inl (g.2.1, 49, .inl (upd wf_6 a1.toNatClampNeg a2)))] := hD
          have hyp := some_e hyp
          subst hyp
          subst hQ
          exact rwV hx hb hr hlocks  hP hD hS dX1_set_41
        refine lv_icmp_ne (tgt := 34) hx hb dX1_set_26 (by decide) (fun h_9 => ?_) (fun h_9 => ?_)
        · replace hyp := ite_f h_9 hyp
          exact kJ_8 wf_3 wkk_4 H locs ls hyp hl hP hD hS
        · replace hyp := ite_t h_9 hyp
          refine lv_aload_n hx hb dX1_set_29 rfl (lv_at hl 0 rfl) ?_
          refine lv_iload_n hx hb dX1_set_30 rfl (lv_at hl 1 rfl) ?_
          refine pf_X1_15 hx hb hts hown hE hP hD hS 0 rfl rfl dX1_set_31 (fun H locs hP hD hS => ?_)
          have hP : va_P g.1 vwCl [(b, .inr (1, [.ref ca, .int a1, .int sg])), (ca, .inl (g.2.1, 49, .inl wf_3))] H := hP
          have hD : va_D A [(b, .inr (1, [.ref ca, .int a1, .int sg])), (ca, .inl (g.2.1, 49, .inl wf_3))] := hD
          exact kJ_8 wf_3 a1 H locs ls hyp hl hP hD hS
      refine lv_icmp_ne (tgt := 24) hx hb dX1_set_16 (by decide) (fun h_10 => ?_) (fun h_10 => ?_)
      · replace hyp := ite_f h_10 hyp
        exact kJ_5 f kk H locs ls hyp hl hP hD hS
      · replace hyp := ite_t h_10 hyp
        refine lv_aload_n hx hb dX1_set_19 rfl (lv_at hl 0 rfl) ?_
        refine lv_iconst (v := (-1)) hx hb dX1_set_20 (by decide) ?_
        refine pf_X1_15 hx hb hts hown hE hP hD hS 0 rfl rfl dX1_set_21 (fun H locs hP hD hS => ?_)
        have hP : va_P g.1 vwCl [(b, .inr (1, [.ref ca, .int (-1), .int sg])), (ca, .inl (g.2.1, 49, .inl f))] H := hP
        have hD : va_D A [(b, .inr (1, [.ref ca, .int (-1), .int sg])), (ca, .inl (g.2.1, 49, .inl f))] := hD
        exact kJ_5 f (-1) H locs ls hyp hl hP hD hS
    · replace hyp := ite_f h_2 hyp
      have hyp := some_e hyp
      subst hyp
      subst hQ
      exact rwV hx hb hr hlocks  hP hD hS dX1_set_10

def fX1_carryOut_L71_B (a2 : Int32) (v5_5 : Int32) (self_13 : Int32 → Int32 → (Nat → Int32) → Int32 → Option (Int32 × (Nat → Int32) × Int32)) (v6_9 : Int32) (v7_10 : Int32) (wf_11 : Nat → Int32) (wkk_12 : Int32) : Option (Int32 × (Nat → Int32) × Int32) :=
  if 4 ≤ v7_10 then (some (v6_9, wf_11, wkk_12)) else (if ((v5_5 >>> (v7_10 &&& 31)) &&& 1) = 0 then (self_13 v6_9 (v7_10 + 1) wf_11 wkk_12) else ((fX8_beside a2 v7_10).bind (fun (r_16 : Int32) => (fX1_set wkk_12 wf_11 r_16 0).bind (fun (r_17 : (Nat → Int32) × Int32) => self_13 (v6_9 + 1) (v7_10 + 1) r_17.1 r_17.2))))
def fX1_carryOut_L71 (a2 : Int32) (v5_5 : Int32) (n : Nat) (v6_9 : Int32) (v7_10 : Int32) (wf_11 : Nat → Int32) (wkk_12 : Int32) : Option (Int32 × (Nat → Int32) × Int32) := lp (fun zf z => fX1_carryOut_L71_B a2 v5_5 (fun v6_9 v7_10 wf_11 wkk_12 => zf (v6_9, v7_10, wf_11, wkk_12)) z.1 z.2.1 z.2.2.1 z.2.2.2) n (v6_9, v7_10, wf_11, wkk_12)
def fX1_carryOut_L30_B (sg : Int32) (a2 : Int32) (r_2 : Int32) (r_4 : (Nat → Int32) × Int32) (self_7 : Int32 → Int32 → Option (Int32 × (Nat → Int32) × Int32)) (v5_5 : Int32) (v6_6 : Int32) : Option (Int32 × (Nat → Int32) × Int32) :=
  if 4 ≤ v6_6 then (fX1_carryOut_L71 a2 v5_5 64 0 0 r_4.1 r_4.2) else ((fX1_isCaught r_4.2 sg r_4.1 a2 v6_6 (1 - r_2)).bind (fun (r_18 : Int32) => if r_18 = 0 then (self_7 v5_5 (v6_6 + 1)) else (self_7 (v5_5 ||| (1 <<< (v6_6 &&& 31))) (v6_6 + 1))))
def fX1_carryOut_L30 (sg : Int32) (a2 : Int32) (r_2 : Int32) (r_4 : (Nat → Int32) × Int32) (n : Nat) (v5_5 : Int32) (v6_6 : Int32) : Option (Int32 × (Nat → Int32) × Int32) := lp (fun zf z => fX1_carryOut_L30_B sg a2 r_2 r_4 (fun v5_5 v6_6 => zf (v5_5, v6_6)) z.1 z.2) n (v5_5, v6_6)
def fX1_carryOut (kk : Int32) (sg : Int32) (f : Nat → Int32) (a1 : Int32) (a2 : Int32) : Option (Int32 × (Nat → Int32) × Int32) :=
  (fX1_at f a1).bind (fun (r_1 : Int32) => (fX8_sideOf r_1).bind (fun (r_2 : Int32) => (fX1_set kk f a1 0).bind (fun (r_3 : (Nat → Int32) × Int32) => (fX1_set r_3.2 r_3.1 a2 r_1).bind (fun (r_4 : (Nat → Int32) × Int32) => fX1_carryOut_L30 sg a2 r_2 r_4 64 0 0))))
set_option maxRecDepth 100000 in
set_option maxHeartbeats 4000000 in
theorem mX1_carryOut (l : Launch) (g : GE) (b ca : Nat) (kk : Int32) (sg : Int32) (f : Nat → Int32) (a1 : Int32) (a2 : Int32) (r : Int32 × (Nat → Int32) × Int32) (hyp : fX1_carryOut kk sg f a1 a2 = some r) : WM l yX1_carryOut cX1_carryOut 8 (some .int) 3 70 g [(b, .inr (1, [.ref ca, .int kk, .int sg])), (ca, .inl (g.2.1, 49, .inl f))] [.ref b, .int a1, .int a2] (some (.int r.1)) [(b, .inr (1, [.ref ca, .int r.2.2, .int sg])), (ca, .inl (g.2.1, 49, .inl r.2.1))] := by
  refine metW_intro (by decide) rfl ?_
  intro p e R s m args below meth c Q A hRf hRl hQ hx hb hml hr hlocks hown hts hin hE hA H locs hP hD hS ls hl
  have hown : s.vm.findClass "HallGuards$Board" = some m.cls := hown
  have hl : lv_has ls 8 [(0, .ref b), (1, .int a1), (2, .int a2)] := hl
  unfold fX1_carryOut at hyp
  refine lv_aload_n hx hb dX1_carryOut_0 rfl (lv_at hl 0 rfl) ?_
  refine lv_iload_n hx hb dX1_carryOut_1 rfl (lv_at hl 1 rfl) ?_
  obtain ⟨r_1, hr_1, hyp⟩ := opt_e hyp
  refine pV (As := [.int a1]) (rest := []) ⟨hx, hb, hml, hown, hts⟩ hE (mX1_at l g b ca kk sg f a1 r_1 hr_1) cf_X1_at im_X1_at se_X1_at ml_X1_60 ⟨Nat.le_trans (Nat.le_of_ble_eq_true rfl) hRf, Nat.le_trans (Nat.le_of_ble_eq_true rfl) hRl⟩ (hP.sub (ws' := [(b, .inr (1, [.ref ca, .int kk, .int sg])), (ca, .inl (g.2.1, 49, .inl f))]) [0, 1] rfl) (ci := 1) (q0 := 0) rfl rfl rfl rfl hl.1 rfl (Nat.le_of_ble_eq_true rfl) dX1_carryOut_2 ⟨Nat.zero_le _, Nat.zero_le _⟩ ?_
  refine lv_istore_n (lv' := [(3, .int r_1), (0, .ref b), (1, .int a1), (2, .int a2)]) hx hb dX1_carryOut_5 rfl hl (by decide) rfl (fun ls hl => ?_)
  refine lv_iload_n hx hb dX1_carryOut_6 rfl (lv_at hl 0 rfl) ?_
  obtain ⟨r_2, hr_2, hyp⟩ := opt_e hyp
  refine pSN (As := [.int r_1]) (rest := []) ⟨hx, hb, hml, hown, hts⟩ hE (mX8_sideOf l g r_1 r_2 hr_2) cf_X8_sideOf st_X8_sideOf ml_X1_42 ⟨Nat.le_trans (Nat.le_of_ble_eq_true rfl) hRf, Nat.le_trans (Nat.le_of_ble_eq_true rfl) hRl⟩ (va_P_nil) rfl hl.1 rfl (Nat.le_of_ble_eq_true rfl) dX1_carryOut_7 ⟨Nat.zero_le _, Nat.zero_le _⟩ ?_
  refine lv_istore (lv' := [(4, .int r_2), (3, .int r_1), (0, .ref b), (1, .int a1), (2, .int a2)]) hx hb dX1_carryOut_10 hl (by decide) rfl (fun ls hl => ?_)
  refine lv_aload_n hx hb dX1_carryOut_12 rfl (lv_at hl 2 rfl) ?_
  refine lv_iload_n hx hb dX1_carryOut_13 rfl (lv_at hl 3 rfl) ?_
  refine lv_iconst (v := 0) hx hb dX1_carryOut_14 (by decide) ?_
  obtain ⟨r_3, hr_3, hyp⟩ := opt_e hyp
  refine wV (As := [.int a1, .int 0]) (rest := []) ⟨hx, hb, hml, hown, hts⟩ hE (mX1_set l g b ca kk sg f a1 0 r_3 hr_3) cf_X1_set im_X1_set se_X1_set ml_X1_95 ⟨Nat.le_trans (Nat.le_of_ble_eq_true rfl) hRf, Nat.le_trans (Nat.le_of_ble_eq_true rfl) hRl⟩ hP hD hS hA [0, 1] [] rfl (wr := []) rfl ⟨by decide, by decide⟩ (by decide) (ci := 1) (q0 := 0) rfl rfl rfl rfl hl.1 rfl (Nat.le_of_ble_eq_true rfl) dX1_carryOut_15 ⟨Nat.zero_le _, Nat.zero_le _⟩ (fun H locs hP hD hS => ?_)
  have hP : va_P g.1 vwCl [(b, .inr (1, [.ref ca, .int r_3.2, .int sg])), (ca, .inl (g.2.1, 49, .inl r_3.1))] H := hP
  have hD : va_D A [(b, .inr (1, [.ref ca, .int r_3.2, .int sg])), (ca, .inl (g.2.1, 49, .inl r_3.1))] := hD
  refine lv_aload_n hx hb dX1_carryOut_18 rfl (lv_at hl 2 rfl) ?_
  refine lv_iload_n hx hb dX1_carryOut_19 rfl (lv_at hl 4 rfl) ?_
  refine lv_iload_n hx hb dX1_carryOut_20 rfl (lv_at hl 1 rfl) ?_
  obtain ⟨r_4, hr_4, hyp⟩ := opt_e hyp
  refine wV (As := [.int a2, .int r_1]) (rest := []) ⟨hx, hb, hml, hown, hts⟩ hE (mX1_set l g b ca r_3.2 sg r_3.1 a2 r_1 r_4 hr_4) cf_X1_set im_X1_set se_X1_set ml_X1_95 ⟨Nat.le_trans (Nat.le_of_ble_eq_true rfl) hRf, Nat.le_trans (Nat.le_of_ble_eq_true rfl) hRl⟩ hP hD hS hA [0, 1] [] rfl (wr := []) rfl ⟨by decide, by decide⟩ (by decide) (ci := 1) (q0 := 0) rfl rfl rfl rfl hl.1 rfl (Nat.le_of_ble_eq_true rfl) dX1_carryOut_21 ⟨Nat.zero_le _, Nat.zero_le _⟩ (fun H locs hP hD hS => ?_)
  have hP : va_P g.1 vwCl [(b, .inr (1, [.ref ca, .int r_4.2, .int sg])), (ca, .inl (g.2.1, 49, .inl r_4.1))] H := hP
  have hD : va_D A [(b, .inr (1, [.ref ca, .int r_4.2, .int sg])), (ca, .inl (g.2.1, 49, .inl r_4.1))] := hD
  refine lv_iconst (v := 0) hx hb dX1_carryOut_24 (by decide) ?_
  refine lv_istore (lv' := [(5, .int 0), (4, .int r_2), (3, .int r_1), (0, .ref b), (1, .int a1), (2, .int a2)]) hx hb dX1_carryOut_25 hl (by decide) rfl (fun ls hl => ?_)
  refine lv_iconst (v := 0) hx hb dX1_carryOut_27 (by decide) ?_
  refine lv_istore (lv' := [(6, .int 0), (5, .int 0), (4, .int r_2), (3, .int r_1), (0, .ref b), (1, .int a1), (2, .int a2)]) hx hb dX1_carryOut_28 hl (by decide) rfl (fun ls hl => ?_)
  refine lp_i (r := r) (fun z : Int32 × Int32 => ∀ (H : Heap) (locs : List Loc) (ls : Array Slot), lv_has ls 8 [(0, .ref b), (2, .int a2), (4, .int r_2), (5, .int z.1), (6, .int z.2)] → va_P g.1 vwCl [(b, .inr (1, [.ref ca, .int r_4.2, .int sg])), (ca, .inl (g.2.1, 49, .inl r_4.1))] H → va_D A [(b, .inr (1, [.ref ca, .int r_4.2, .int sg])), (ca, .inl (g.2.1, 49, .inl r_4.1))] → va_S A s.heap H locs → W p l e R s m args below meth c H locs 0 0 Q (F0 m 30 ls [])) ?_ 64 (0, 0) hyp _ _ ls (lv_sub hl [4, 6, 2, 1, 0] rfl) hP hD hS
  intro self_7T ihself_7T z hyp H locs ls hl hP hD hS
  obtain ⟨v5_5, v6_6⟩ := z
  obtain ⟨self_7, eself_7⟩ : ∃ f9 : Int32 → Int32 → Option (Int32 × (Nat → Int32) × Int32), f9 = fun v5_5 v6_6 => self_7T (v5_5, v6_6) := ⟨_, rfl⟩
  have ihself_7 := fun (v5_5 : Int32) (v6_6 : Int32) (h9 : self_7 v5_5 v6_6 = some r) => ihself_7T (v5_5, v6_6) (by rw [eself_7] at h9; exact h9)
  replace hyp : fX1_carryOut_L30_B sg a2 r_2 r_4 self_7 v5_5 v6_6 = some r := by rw [eself_7]; exact hyp
  have hl : lv_has ls 8 [(0, .ref b), (2, .int a2), (4, .int r_2), (5, .int v5_5), (6, .int v6_6)] := hl
  have hP : va_P g.1 vwCl [(b, .inr (1, [.ref ca, .int r_4.2, .int sg])), (ca, .inl (g.2.1, 49, .inl r_4.1))] H := hP
  have hD : va_D A [(b, .inr (1, [.ref ca, .int r_4.2, .int sg])), (ca, .inl (g.2.1, 49, .inl r_4.1))] := hD
  show W p l e R s m args below meth c H locs 0 0 Q (F0 m 30 ls [])
  unfold fX1_carryOut_L30_B at hyp
  refine lv_iload hx hb dX1_carryOut_30 (lv_at hl 4 rfl) ?_
  refine lv_iconst (v := 4) hx hb dX1_carryOut_32 (by decide) ?_
  refine lv_icmp_ge (tgt := 65) hx hb dX1_carryOut_33 (by decide) (fun h_8 => ?_) (fun h_8 => ?_)
  · replace hyp := ite_t h_8 hyp
    refine lv_iconst (v := 0) hx hb dX1_carryOut_65 (by decide) ?_
    refine lv_istore (lv' := [(6, .int 0), (0, .ref b), (2, .int a2), (4, .int r_2), (5, .int v5_5)]) hx hb dX1_carryOut_66 hl (by decide) rfl (fun ls hl => ?_)
    refine lv_iconst (v := 0) hx hb dX1_carryOut_68 (by decide) ?_
    refine lv_istore (lv' := [(7, .int 0), (6, .int 0), (0, .ref b), (2, .int a2), (4, .int r_2), (5, .int v5_5)]) hx hb dX1_carryOut_69 hl (by decide) rfl (fun ls hl => ?_)
    refine lp_i (r := r) (fun z : Int32 × Int32 × (Nat → Int32) × Int32 => ∀ (H : Heap) (locs : List Loc) (ls : Array Slot), lv_has ls 8 [(0, .ref b), (2, .int a2), (5, .int v5_5), (6, .int z.1), (7, .int z.2.1)] → va_P g.1 vwCl [(b, .inr (1, [.ref ca, .int z.2.2.2, .int sg])), (ca, .inl (g.2.1, 49, .inl z.2.2.1))] H → va_D A [(b, .inr (1, [.ref ca, .int z.2.2.2, .int sg])), (ca, .inl (g.2.1, 49, .inl z.2.2.1))] → va_S A s.heap H locs → W p l e R s m args below meth c H locs 0 0 Q (F0 m 71 ls [])) ?_ 64 (0, 0, r_4.1, r_4.2) hyp _ _ ls (lv_sub hl [2, 3, 5, 1, 0] rfl) hP hD hS
    intro self_13T ihself_13T z hyp H locs ls hl hP hD hS
    obtain ⟨v6_9, v7_10, wf_11, wkk_12⟩ := z
    obtain ⟨self_13, eself_13⟩ : ∃ f9 : Int32 → Int32 → (Nat → Int32) → Int32 → Option (Int32 × (Nat → Int32) × Int32), f9 = fun v6_9 v7_10 wf_11 wkk_12 => self_13T (v6_9, v7_10, wf_11, wkk_12) := ⟨_, rfl⟩
    have ihself_13 := fun (v6_9 : Int32) (v7_10 : Int32) (wf_11 : Nat → Int32) (wkk_12 : Int32) (h9 : self_13 v6_9 v7_10 wf_11 wkk_12 = some r) => ihself_13T (v6_9, v7_10, wf_11, wkk_12) (by rw [eself_13] at h9; exact h9)
    replace hyp : fX1_carryOut_L71_B a2 v5_5 self_13 v6_9 v7_10 wf_11 wkk_12 = some r := by rw [eself_13]; exact hyp
    have hl : lv_has ls 8 [(0, .ref b), (2, .int a2), (5, .int v5_5), (6, .int v6_9), (7, .int v7_10)] := hl
    have hP : va_P g.1 vwCl [(b, .inr (1, [.ref ca, .int wkk_12, .int sg])), (ca, .inl (g.2.1, 49, .inl wf_11))] H := hP
    have hD : va_D A [(b, .inr (1, [.ref ca, .int wkk_12, .int sg])), (ca, .inl (g.2.1, 49, .inl wf_11))] := hD
    show W p l e R s m args below meth c H locs 0 0 Q (F0 m 71 ls [])
    unfold fX1_carryOut_L71_B at hyp
    refine lv_iload hx hb dX1_carryOut_71 (lv_at hl 4 rfl) ?_
    refine lv_iconst (v := 4) hx hb dX1_carryOut_73 (by decide) ?_
    refine lv_icmp_ge (tgt := 107) hx hb dX1_carryOut_74 (by decide) (fun h_14 => ?_) (fun h_14 => ?_)
    · replace hyp := ite_t h_14 hyp
      refine lv_iload hx hb dX1_carryOut_107 (lv_at hl 3 rfl) ?_
      have hyp := some_e hyp
      subst hyp
      subst hQ
      exact rwI hx hb hr hlocks  hP hD hS dX1_carryOut_109
    · replace hyp := ite_f h_14 hyp
      refine lv_iload hx hb dX1_carryOut_77 (lv_at hl 2 rfl) ?_
      refine lv_iload hx hb dX1_carryOut_79 (lv_at hl 4 rfl) ?_
      refine lv_ishr hx hb dX1_carryOut_81 ?_
      refine lv_iconst (v := 1) hx hb dX1_carryOut_82 (by decide) ?_
      refine lv_iand hx hb dX1_carryOut_83 ?_
      refine lv_if_eq (tgt := 101) hx hb dX1_carryOut_84 (by decide) (fun h_15 => ?_) (fun h_15 => ?_)
      · replace hyp := ite_t h_15 hyp
        refine lv_iinc (v := v7_10 + 1) (lv' := [(7, .int (v7_10 + 1)), (0, .ref b), (2, .int a2), (5, .int v5_5), (6, .int v6_9)]) hx hb dX1_carryOut_101 hl (k := 4) rfl rfl (by decide) rfl (fun ls hl => ?_)
        refine lv_goto (tgt := 71) hx hb dX1_carryOut_104 (by decide) ?_
        exact ihself_13 v6_9 (v7_10 + 1) wf_11 wkk_12 hyp H locs ls (lv_sub hl [1, 2, 3, 4, 0] rfl) hP hD hS
      · replace hyp := ite_f h_15 hyp
        refine lv_aload_n hx hb dX1_carryOut_87 rfl (lv_at hl 0 rfl) ?_
        refine lv_iload_n hx hb dX1_carryOut_88 rfl (lv_at hl 1 rfl) ?_
        refine lv_iload hx hb dX1_carryOut_89 (lv_at hl 4 rfl) ?_
        obtain ⟨r_16, hr_16, hyp⟩ := opt_e hyp
        refine pSN (As := [.int a2, .int v7_10]) (rest := [.ref b]) ⟨hx, hb, hml, hown, hts⟩ hE (mX8_beside l g a2 v7_10 r_16 hr_16) cf_X8_beside st_X8_beside ml_X1_53 ⟨Nat.le_trans (Nat.le_of_ble_eq_true rfl) hRf, Nat.le_trans (Nat.le_of_ble_eq_true rfl) hRl⟩ (va_P_nil) rfl hl.1 rfl (Nat.le_of_ble_eq_true rfl) dX1_carryOut_91 ⟨Nat.zero_le _, Nat.zero_le _⟩ ?_
        refine lv_iconst (v := 0) hx hb dX1_carryOut_94 (by decide) ?_
        obtain ⟨r_17, hr_17, hyp⟩ := opt_e hyp
        refine wV (As := [.int r_16, .int 0]) (rest := []) ⟨hx, hb, hml, hown, hts⟩ hE (mX1_set l g b ca wkk_12 sg wf_11 r_16 0 r_17 hr_17) cf_X1_set im_X1_set se_X1_set ml_X1_95 ⟨Nat.le_trans (Nat.le_of_ble_eq_true rfl) hRf, Nat.le_trans (Nat.le_of_ble_eq_true rfl) hRl⟩ hP hD hS hA [0, 1] [] rfl (wr := []) rfl ⟨by decide, by decide⟩ (by decide) (ci := 1) (q0 := 0) rfl rfl rfl rfl hl.1 rfl (Nat.le_of_ble_eq_true rfl) dX1_carryOut_95 ⟨Nat.zero_le _, Nat.zero_le _⟩ (fun H locs hP hD hS => ?_)
        have hP : va_P g.1 vwCl [(b, .inr (1, [.ref ca, .int r_17.2, .int sg])), (ca, .inl (g.2.1, 49, .inl r_17.1))] H := hP
        have hD : va_D A [(b, .inr (1, [.ref ca, .int r_17.2, .int sg])), (ca, .inl (g.2.1, 49, .inl r_17.1))] := hD
        refine lv_iinc (v := v6_9 + 1) (lv' := [(6, .int (v6_9 + 1)), (0, .ref b), (2, .int a2), (5, .int v5_5), (7, .int v7_10)]) hx hb dX1_carryOut_98 hl (k := 3) rfl rfl (by decide) rfl (fun ls hl => ?_)
        refine lv_iinc (v := v7_10 + 1) (lv' := [(7, .int (v7_10 + 1)), (6, .int (v6_9 + 1)), (0, .ref b), (2, .int a2), (5, .int v5_5)]) hx hb dX1_carryOut_101 hl (k := 4) rfl rfl (by decide) rfl (fun ls hl => ?_)
        refine lv_goto (tgt := 71) hx hb dX1_carryOut_104 (by decide) ?_
        exact ihself_13 (v6_9 + 1) (v7_10 + 1) r_17.1 r_17.2 hyp H locs ls (lv_sub hl [2, 3, 4, 1, 0] rfl) hP hD hS
  · replace hyp := ite_f h_8 hyp
    refine lv_aload_n hx hb dX1_carryOut_36 rfl (lv_at hl 0 rfl) ?_
    refine lv_iload_n hx hb dX1_carryOut_37 rfl (lv_at hl 1 rfl) ?_
    refine lv_iload hx hb dX1_carryOut_38 (lv_at hl 4 rfl) ?_
    refine lv_iconst (v := 1) hx hb dX1_carryOut_40 (by decide) ?_
    refine lv_iload hx hb dX1_carryOut_41 (lv_at hl 2 rfl) ?_
    refine lv_isub hx hb dX1_carryOut_43 ?_
    obtain ⟨r_18, hr_18, hyp⟩ := opt_e hyp
    refine pV (As := [.int a2, .int v6_6, .int (1 - r_2)]) (rest := []) ⟨hx, hb, hml, hown, hts⟩ hE (mX1_isCaught l g b ca r_4.2 sg r_4.1 a2 v6_6 (1 - r_2) r_18 hr_18) cf_X1_isCaught im_X1_isCaught se_X1_isCaught ml_X1_98 ⟨Nat.le_trans (Nat.le_of_ble_eq_true rfl) hRf, Nat.le_trans (Nat.le_of_ble_eq_true rfl) hRl⟩ (hP.sub (ws' := [(b, .inr (1, [.ref ca, .int r_4.2, .int sg])), (ca, .inl (g.2.1, 49, .inl r_4.1))]) [0, 1] rfl) (ci := 1) (q0 := 0) rfl rfl rfl rfl hl.1 rfl (Nat.le_of_ble_eq_true rfl) dX1_carryOut_44 ⟨Nat.zero_le _, Nat.zero_le _⟩ ?_
    refine lv_if_eq (tgt := 59) hx hb dX1_carryOut_47 (by decide) (fun h_19 => ?_) (fun h_19 => ?_)
    · replace hyp := ite_t h_19 hyp
      refine lv_iinc (v := v6_6 + 1) (lv' := [(6, .int (v6_6 + 1)), (0, .ref b), (2, .int a2), (4, .int r_2), (5, .int v5_5)]) hx hb dX1_carryOut_59 hl (k := 4) rfl rfl (by decide) rfl (fun ls hl => ?_)
      refine lv_goto (tgt := 30) hx hb dX1_carryOut_62 (by decide) ?_
      exact ihself_7 v5_5 (v6_6 + 1) hyp H locs ls (lv_sub hl [1, 2, 3, 4, 0] rfl) hP hD hS
    · replace hyp := ite_f h_19 hyp
      refine lv_iload hx hb dX1_carryOut_50 (lv_at hl 3 rfl) ?_
      refine lv_iconst (v := 1) hx hb dX1_carryOut_52 (by decide) ?_
      refine lv_iload hx hb dX1_carryOut_53 (lv_at hl 4 rfl) ?_
      refine lv_ishl hx hb dX1_carryOut_55 ?_
      refine lv_ior hx hb dX1_carryOut_56 ?_
      refine lv_istore (lv' := [(5, .int (v5_5 ||| (1 <<< (v6_6 &&& 31)))), (0, .ref b), (2, .int a2), (4, .int r_2), (6, .int v6_6)]) hx hb dX1_carryOut_57 hl (by decide) rfl (fun ls hl => ?_)
      refine lv_iinc (v := v6_6 + 1) (lv' := [(6, .int (v6_6 + 1)), (5, .int (v5_5 ||| (1 <<< (v6_6 &&& 31)))), (0, .ref b), (2, .int a2), (4, .int r_2)]) hx hb dX1_carryOut_59 hl (k := 4) rfl rfl (by decide) rfl (fun ls hl => ?_)
      refine lv_goto (tgt := 30) hx hb dX1_carryOut_62 (by decide) ?_
      exact ihself_7 (v5_5 ||| (1 <<< (v6_6 &&& 31))) (v6_6 + 1) hyp H locs ls (lv_sub hl [2, 3, 4, 1, 0] rfl) hP hD hS

def fX1_copyFrom (f : Nat → Int32) (kk2 : Int32) (sg2 : Int32) (f2 : Nat → Int32) : Option ((Nat → Int32) × Int32 × Int32) :=
  grd (is01 sg2) (some (va_cpy f2 f (0 : Int32).toNatClampNeg (0 : Int32).toNatClampNeg (49 : Int32).toNatClampNeg, kk2, sg2))
set_option maxRecDepth 100000 in
set_option maxHeartbeats 4000000 in
theorem mX1_copyFrom (l : Launch) (g : GE) (b ca b2 ca2 : Nat) (kk : Int32) (sg : Int32) (f : Nat → Int32) (kk2 : Int32) (sg2 : Int32) (f2 : Nat → Int32) (r : (Nat → Int32) × Int32 × Int32) (hyp : fX1_copyFrom f kk2 sg2 f2 = some r) : WM l yX1_copyFrom cX1_copyFrom 2 none 1 40 g [(b, .inr (1, [.ref ca, .int kk, .int sg])), (ca, .inl (g.2.1, 49, .inl f)), (b2, .inr (1, [.ref ca2, .int kk2, .int sg2])), (ca2, .inl (g.2.1, 49, .inl f2))] [.ref b, .ref b2] none [(b, .inr (1, [.ref ca, .int r.2.1, .int r.2.2])), (ca, .inl (g.2.1, 49, .inl r.1)), (b2, .inr (1, [.ref ca2, .int kk2, .int sg2])), (ca2, .inl (g.2.1, 49, .inl f2))] := by
  refine metW_intro (by decide) rfl ?_
  intro p e R s m args below meth c Q A hRf hRl hQ hx hb hml hr hlocks hown hts hin hE hA H locs hP hD hS ls hl
  have hown : s.vm.findClass "HallGuards$Board" = some m.cls := hown
  have hl : lv_has ls 2 [(0, .ref b), (1, .ref b2)] := hl
  unfold fX1_copyFrom at hyp
  refine lv_aload_n hx hb dX1_copyFrom_0 rfl (lv_at hl 1 rfl) ?_
  refine gf_X1_9 hx hb hts hown hE hP 2 rfl rfl dX1_copyFrom_1 ?_
  refine lv_iconst (v := 0) hx hb dX1_copyFrom_4 (by decide) ?_
  refine lv_aload_n hx hb dX1_copyFrom_5 rfl (lv_at hl 0 rfl) ?_
  refine gf_X1_9 hx hb hts hown hE hP 0 rfl rfl dX1_copyFrom_6 ?_
  refine lv_iconst (v := 0) hx hb dX1_copyFrom_9 (by decide) ?_
  refine lv_bipush (v := 49) hx hb dX1_copyFrom_10 (by decide) ?_
  refine va_copyi hx hb (hml.trans hl.1.symm) hown (hts _ ml_X1_19) (hts _ nat_ac) (hts _ st_ac) (hts _ ini_System) hE.1 hP hD hS 3 1 0 0 rfl rfl rfl rfl rfl (by decide) (by decide) (by decide) (by decide) (by decide) (fun _ _ => rfl) (Nat.le_trans (Nat.le_of_ble_eq_true rfl) hRf) (Nat.le_trans (by decide) hRl) dX1_copyFrom_12 (fun H locs hP hD hS => ?_)
  have hP : va_P g.1 vwCl [(b, .inr (1, [.ref ca, .int kk, .int sg])), (ca, .inl (g.2.1, 49, .inl (va_cpy f2 f (0 : Int32).toNatClampNeg (0 : Int32).toNatClampNeg (49 : Int32).toNatClampNeg))), (b2, .inr (1, [.ref ca2, .int kk2, .int sg2])), (ca2, .inl (g.2.1, 49, .inl f2))] H := hP
  have hD : va_D A [(b, .inr (1, [.ref ca, .int kk, .int sg])), (ca, .inl (g.2.1, 49, .inl (va_cpy f2 f (0 : Int32).toNatClampNeg (0 : Int32).toNatClampNeg (49 : Int32).toNatClampNeg))), (b2, .inr (1, [.ref ca2, .int kk2, .int sg2])), (ca2, .inl (g.2.1, 49, .inl f2))] := hD
  refine lv_aload_n hx hb dX1_copyFrom_15 rfl (lv_at hl 0 rfl) ?_
  refine lv_aload_n hx hb dX1_copyFrom_16 rfl (lv_at hl 1 rfl) ?_
  refine gf_X1_15 hx hb hts hown hE hP 2 rfl rfl dX1_copyFrom_17 ?_
  refine pf_X1_15 hx hb hts hown hE hP hD hS 0 rfl rfl dX1_copyFrom_20 (fun H locs hP hD hS => ?_)
  have hP : va_P g.1 vwCl [(b, .inr (1, [.ref ca, .int kk2, .int sg])), (ca, .inl (g.2.1, 49, .inl (va_cpy f2 f (0 : Int32).toNatClampNeg (0 : Int32).toNatClampNeg (49 : Int32).toNatClampNeg))), (b2, .inr (1, [.ref ca2, .int kk2, .int sg2])), (ca2, .inl (g.2.1, 49, .inl f2))] H := hP
  have hD : va_D A [(b, .inr (1, [.ref ca, .int kk2, .int sg])), (ca, .inl (g.2.1, 49, .inl (va_cpy f2 f (0 : Int32).toNatClampNeg (0 : Int32).toNatClampNeg (49 : Int32).toNatClampNeg))), (b2, .inr (1, [.ref ca2, .int kk2, .int sg2])), (ca2, .inl (g.2.1, 49, .inl f2))] := hD
  refine lv_aload_n hx hb dX1_copyFrom_23 rfl (lv_at hl 0 rfl) ?_
  refine lv_aload_n hx hb dX1_copyFrom_24 rfl (lv_at hl 1 rfl) ?_
  refine gf_X1_25 hx hb hts hown hE hP 2 rfl rfl dX1_copyFrom_25 ?_
  obtain ⟨h01, hyp⟩ := grd_e hyp
  refine pf_X1_25 hx hb hts hown hE hP hD hS 0 rfl rfl (is01_e h01) dX1_copyFrom_28 (fun H locs hP hD hS => ?_)
  have hP : va_P g.1 vwCl [(b, .inr (1, [.ref ca, .int kk2, .int sg2])), (ca, .inl (g.2.1, 49, .inl (va_cpy f2 f (0 : Int32).toNatClampNeg (0 : Int32).toNatClampNeg (49 : Int32).toNatClampNeg))), (b2, .inr (1, [.ref ca2, .int kk2, .int sg2])), (ca2, .inl (g.2.1, 49, .inl f2))] H := hP
  have hD : va_D A [(b, .inr (1, [.ref ca, .int kk2, .int sg2])), (ca, .inl (g.2.1, 49, .inl (va_cpy f2 f (0 : Int32).toNatClampNeg (0 : Int32).toNatClampNeg (49 : Int32).toNatClampNeg))), (b2, .inr (1, [.ref ca2, .int kk2, .int sg2])), (ca2, .inl (g.2.1, 49, .inl f2))] := hD
  have hyp := some_e hyp
  subst hyp
  subst hQ
  exact rwV hx hb hr hlocks  hP hD hS dX1_copyFrom_31

def fX1_removeAll (f : Nat → Int32) : Option ((Nat → Int32) × Int32) :=
  (fJ7_fill_53178 f 0).bind (fun (r_1 : (Nat → Int32)) => some (r_1, (-1)))
set_option maxRecDepth 100000 in
set_option maxHeartbeats 4000000 in
theorem mX1_removeAll (l : Launch) (g : GE) (b ca : Nat) (kk : Int32) (sg : Int32) (f : Nat → Int32) (r : (Nat → Int32) × Int32) (hyp : fX1_removeAll f = some r) : WM l yX1_removeAll cX1_removeAll 1 none 1 23 g [(b, .inr (1, [.ref ca, .int kk, .int sg])), (ca, .inl (g.2.1, 49, .inl f))] [.ref b] none [(b, .inr (1, [.ref ca, .int r.2, .int sg])), (ca, .inl (g.2.1, 49, .inl r.1))] := by
  refine metW_intro (by decide) rfl ?_
  intro p e R s m args below meth c Q A hRf hRl hQ hx hb hml hr hlocks hown hts hin hE hA H locs hP hD hS ls hl
  have hown : s.vm.findClass "HallGuards$Board" = some m.cls := hown
  have hl : lv_has ls 1 [(0, .ref b)] := hl
  unfold fX1_removeAll at hyp
  refine lv_aload_n hx hb dX1_removeAll_0 rfl (lv_at hl 0 rfl) ?_
  refine gf_X1_9 hx hb hts hown hE hP 0 rfl rfl dX1_removeAll_1 ?_
  refine lv_iconst (v := 0) hx hb dX1_removeAll_4 (by decide) ?_
  obtain ⟨r_1, hr_1, hyp⟩ := opt_e hyp
  refine wS (As := [.ref ca, .int 0]) (rest := []) ⟨hx, hb, hml, hown, hts⟩ hE (mJ7_fill_53178 l g ca f 0 r_1 hr_1) cf_J7_fill_53178 st_J7_fill_53178 ml_X1_29 ⟨Nat.le_trans (Nat.le_of_ble_eq_true rfl) hRf, Nat.le_trans (Nat.le_of_ble_eq_true rfl) hRl⟩ hP hD hS hA [1] [0] rfl (wr := [(b, .inr (1, [.ref ca, .int kk, .int sg]))]) rfl ⟨by decide, by decide⟩ (by decide) rfl hl.1 rfl (Nat.le_of_ble_eq_true rfl) dX1_removeAll_5 ⟨Nat.zero_le _, Nat.zero_le _⟩ (fun H locs hP hD hS => ?_)
  have hP : va_P g.1 vwCl [(b, .inr (1, [.ref ca, .int kk, .int sg])), (ca, .inl (g.2.1, 49, .inl r_1))] H := hP
  have hD : va_D A [(b, .inr (1, [.ref ca, .int kk, .int sg])), (ca, .inl (g.2.1, 49, .inl r_1))] := hD
  refine lv_aload_n hx hb dX1_removeAll_8 rfl (lv_at hl 0 rfl) ?_
  refine lv_iconst (v := (-1)) hx hb dX1_removeAll_9 (by decide) ?_
  refine pf_X1_15 hx hb hts hown hE hP hD hS 0 rfl rfl dX1_removeAll_10 (fun H locs hP hD hS => ?_)
  have hP : va_P g.1 vwCl [(b, .inr (1, [.ref ca, .int (-1), .int sg])), (ca, .inl (g.2.1, 49, .inl r_1))] H := hP
  have hD : va_D A [(b, .inr (1, [.ref ca, .int (-1), .int sg])), (ca, .inl (g.2.1, 49, .inl r_1))] := hD
  have hyp := some_e hyp
  subst hyp
  subst hQ
  exact rwV hx hb hr hlocks  hP hD hS dX1_removeAll_13

def fX1_placeAll (f : Nat → Int32) : Option ((Nat → Int32) × Int32) :=
  some (va_cpy fPI f (0 : Int32).toNatClampNeg (0 : Int32).toNatClampNeg (49 : Int32).toNatClampNeg, 24)
set_option maxRecDepth 100000 in
set_option maxHeartbeats 4000000 in
theorem mX1_placeAll (l : Launch) (g : GE) (b ca zc zp : Nat) (kk : Int32) (sg : Int32) (f : Nat → Int32) (r : (Nat → Int32) × Int32) (hyp : fX1_placeAll f = some r) : WMO l yX1_placeAll cX1_placeAll 1 none 1 40 g [(b, .inr (1, [.ref ca, .int kk, .int sg])), (ca, .inl (g.2.1, 49, .inl f))] (OS zc zp) [.ref b] none [(b, .inr (1, [.ref ca, .int r.2, .int sg])), (ca, .inl (g.2.1, 49, .inl r.1))] := by
  refine metWO_intro (by decide) rfl ?_
  intro p e R s m args below meth c Q A hRf hRl hQ hx hb hml hr hlocks hown hts hin hE hA hO H locs hP hD hS ls hl
  have hown : s.vm.findClass "HallGuards$Board" = some m.cls := hown
  have hl : lv_has ls 1 [(0, .ref b)] := hl
  unfold fX1_placeAll at hyp
  refine va_getsN hx hb hO.2.1 hS hown (va_Nw.use rfl (hE.2 _ fl_X1_35)) (fun _ h => h) dX1_placeAll_0 ?_
  refine lv_iconst (v := 0) hx hb dX1_placeAll_3 (by decide) ?_
  refine lv_aload_n hx hb dX1_placeAll_4 rfl (lv_at hl 0 rfl) ?_
  refine gf_X1_9 hx hb hts hown hE hP 0 rfl rfl dX1_placeAll_5 ?_
  refine lv_iconst (v := 0) hx hb dX1_placeAll_8 (by decide) ?_
  refine lv_bipush (v := 49) hx hb dX1_placeAll_9 (by decide) ?_
  refine xt_copy hx hb (hml.trans hl.1.symm) hown (hts _ ml_X1_19) (hts _ nat_ac) (hts _ st_ac) (hts _ ini_System) hE.1 hP hD hS hO.2.2.1 hO.2.2.2.1 hO.2.2.2.2 1 0 rfl rfl (Nat.le_trans (Nat.le_of_ble_eq_true rfl) hRf) (Nat.le_trans (by decide) hRl) dX1_placeAll_11 (fun H locs hP hD hS => ?_)
  have hP : va_P g.1 vwCl [(b, .inr (1, [.ref ca, .int kk, .int sg])), (ca, .inl (g.2.1, 49, .inl (va_cpy fPI f (0 : Int32).toNatClampNeg (0 : Int32).toNatClampNeg (49 : Int32).toNatClampNeg)))] H := hP
  have hD : va_D A [(b, .inr (1, [.ref ca, .int kk, .int sg])), (ca, .inl (g.2.1, 49, .inl (va_cpy fPI f (0 : Int32).toNatClampNeg (0 : Int32).toNatClampNeg (49 : Int32).toNatClampNeg)))] := hD
  refine lv_aload_n hx hb dX1_placeAll_14 rfl (lv_at hl 0 rfl) ?_
  refine lv_bipush (v := 24) hx hb dX1_placeAll_15 (by decide) ?_
  refine pf_X1_15 hx hb hts hown hE hP hD hS 0 rfl rfl dX1_placeAll_17 (fun H locs hP hD hS => ?_)
  have hP : va_P g.1 vwCl [(b, .inr (1, [.ref ca, .int 24, .int sg])), (ca, .inl (g.2.1, 49, .inl (va_cpy fPI f (0 : Int32).toNatClampNeg (0 : Int32).toNatClampNeg (49 : Int32).toNatClampNeg)))] H := hP
  have hD : va_D A [(b, .inr (1, [.ref ca, .int 24, .int sg])), (ca, .inl (g.2.1, 49, .inl (va_cpy fPI f (0 : Int32).toNatClampNeg (0 : Int32).toNatClampNeg (49 : Int32).toNatClampNeg)))] := hD
  have hyp := some_e hyp
  subst hyp
  subst hQ
  exact rwV hx hb hr hlocks  hP hD hS dX1_placeAll_20

def fX1_countOpenCorners_L12_B (kk : Int32) (f : Nat → Int32) (self_3 : Int32 → Int32 → Option Int32) (v1_1 : Int32) (v4_2 : Int32) : Option Int32 :=
  if 4 ≤ v4_2 then (some (v1_1)) else (grd (inB v4_2 4) (bnd (fCO v4_2.toNatClampNeg) (fun (v5_5 : Int32) => if kk < 0 then (self_3 v1_1 (v4_2 + 1)) else ((fX1_obstacle f kk v5_5).bind (fun (r_7 : Int32) => if r_7 = 0 then (self_3 (v1_1 + 1) (v4_2 + 1)) else (self_3 v1_1 (v4_2 + 1)))))))
def fX1_countOpenCorners_L12 (kk : Int32) (f : Nat → Int32) (n : Nat) (v1_1 : Int32) (v4_2 : Int32) : Option Int32 := lp (fun zf z => fX1_countOpenCorners_L12_B kk f (fun v1_1 v4_2 => zf (v1_1, v4_2)) z.1 z.2) n (v1_1, v4_2)
def fX1_countOpenCorners (kk : Int32) (f : Nat → Int32) : Option Int32 :=
  fX1_countOpenCorners_L12 kk f 64 0 0
set_option maxRecDepth 100000 in
set_option maxHeartbeats 4000000 in
theorem mX1_countOpenCorners (l : Launch) (g : GE) (b ca zc zp : Nat) (kk : Int32) (sg : Int32) (f : Nat → Int32) (r : Int32) (hyp : fX1_countOpenCorners kk f = some r) : WMO l yX1_countOpenCorners cX1_countOpenCorners 6 (some .int) 3 70 g [(b, .inr (1, [.ref ca, .int kk, .int sg])), (ca, .inl (g.2.1, 49, .inl f))] (OS zc zp) [.ref b] (some (.int r)) [(b, .inr (1, [.ref ca, .int kk, .int sg])), (ca, .inl (g.2.1, 49, .inl f))] := by
  refine metWO_intro (by decide) rfl ?_
  intro p e R s m args below meth c Q A hRf hRl hQ hx hb hml hr hlocks hown hts hin hE hA hO H locs hP hD hS ls hl
  have hown : s.vm.findClass "HallGuards$Board" = some m.cls := hown
  have hl : lv_has ls 6 [(0, .ref b)] := hl
  unfold fX1_countOpenCorners at hyp
  refine lv_iconst (v := 0) hx hb dX1_countOpenCorners_0 (by decide) ?_
  refine lv_istore_n (lv' := [(1, .int 0), (0, .ref b)]) hx hb dX1_countOpenCorners_1 rfl hl (by decide) rfl (fun ls hl => ?_)
  refine va_getsN hx hb hO.1.1 hS hown (va_Nw.use rfl (hE.2 _ fl_X1_116)) (fun _ h => h) dX1_countOpenCorners_2 ?_
  refine lv_astore_n (lv' := [(2, .ref zc), (1, .int 0), (0, .ref b)]) hx hb dX1_countOpenCorners_5 rfl hl (by decide) rfl (fun ls hl => ?_)
  refine lv_aload_n hx hb dX1_countOpenCorners_6 rfl (lv_at hl 0 rfl) ?_
  refine xt_slen hx hb hO.1.2.1 hO.1.2.2.1 hO.1.2.2.2 hS dX1_countOpenCorners_7 ?_
  refine lv_istore_n (lv' := [(3, .int 4), (2, .ref zc), (1, .int 0), (0, .ref b)]) hx hb dX1_countOpenCorners_8 rfl hl (by decide) rfl (fun ls hl => ?_)
  refine lv_iconst (v := 0) hx hb dX1_countOpenCorners_9 (by decide) ?_
  refine lv_istore (lv' := [(4, .int 0), (3, .int 4), (2, .ref zc), (1, .int 0), (0, .ref b)]) hx hb dX1_countOpenCorners_10 hl (by decide) rfl (fun ls hl => ?_)
  refine lp_i (r := r) (fun z : Int32 × Int32 => ∀ (H : Heap) (locs : List Loc) (ls : Array Slot), lv_has ls 6 [(0, .ref b), (1, .int z.1), (2, .ref zc), (3, .int 4), (4, .int z.2)] → va_P g.1 vwCl [(b, .inr (1, [.ref ca, .int kk, .int sg])), (ca, .inl (g.2.1, 49, .inl f))] H → va_D A [(b, .inr (1, [.ref ca, .int kk, .int sg])), (ca, .inl (g.2.1, 49, .inl f))] → va_S A s.heap H locs → W p l e R s m args below meth c H locs 0 0 Q (F0 m 12 ls [])) ?_ 64 (0, 0) hyp _ _ ls (lv_sub hl [4, 3, 2, 1, 0] rfl) hP hD hS
  intro self_3T ihself_3T z hyp H locs ls hl hP hD hS
  obtain ⟨v1_1, v4_2⟩ := z
  obtain ⟨self_3, eself_3⟩ : ∃ f9 : Int32 → Int32 → Option Int32, f9 = fun v1_1 v4_2 => self_3T (v1_1, v4_2) := ⟨_, rfl⟩
  have ihself_3 := fun (v1_1 : Int32) (v4_2 : Int32) (h9 : self_3 v1_1 v4_2 = some r) => ihself_3T (v1_1, v4_2) (by rw [eself_3] at h9; exact h9)
  replace hyp : fX1_countOpenCorners_L12_B kk f self_3 v1_1 v4_2 = some r := by rw [eself_3]; exact hyp
  have hl : lv_has ls 6 [(0, .ref b), (1, .int v1_1), (2, .ref zc), (3, .int 4), (4, .int v4_2)] := hl
  have hP : va_P g.1 vwCl [(b, .inr (1, [.ref ca, .int kk, .int sg])), (ca, .inl (g.2.1, 49, .inl f))] H := hP
  have hD : va_D A [(b, .inr (1, [.ref ca, .int kk, .int sg])), (ca, .inl (g.2.1, 49, .inl f))] := hD
  show W p l e R s m args below meth c H locs 0 0 Q (F0 m 12 ls [])
  unfold fX1_countOpenCorners_L12_B at hyp
  refine lv_iload hx hb dX1_countOpenCorners_12 (lv_at hl 4 rfl) ?_
  refine lv_iload_n hx hb dX1_countOpenCorners_14 rfl (lv_at hl 3 rfl) ?_
  refine lv_icmp_ge (tgt := 53) hx hb dX1_countOpenCorners_15 (by decide) (fun h_4 => ?_) (fun h_4 => ?_)
  · replace hyp := ite_t h_4 hyp
    refine lv_iload_n hx hb dX1_countOpenCorners_53 rfl (lv_at hl 1 rfl) ?_
    have hyp := some_e hyp
    subst hyp
    subst hQ
    exact rwI hx hb hr hlocks  hP hD hS dX1_countOpenCorners_54
  · replace hyp := ite_f h_4 hyp
    refine lv_aload_n hx hb dX1_countOpenCorners_18 rfl (lv_at hl 2 rfl) ?_
    refine lv_iload hx hb dX1_countOpenCorners_19 (lv_at hl 4 rfl) ?_
    obtain ⟨hi, hyp⟩ := grd_e hyp
    refine xt_sld hx hb hO.1.2.1 hO.1.2.2.1 hO.1.2.2.2 hS (inB_vp hi) dX1_countOpenCorners_21 ?_
    obtain ⟨v5_5, ev5_5, hyp⟩ := bnd_e hyp
    refine lv_eqi ev5_5 ?_
    refine lv_istore (lv' := [(5, .int v5_5), (0, .ref b), (1, .int v1_1), (2, .ref zc), (3, .int 4), (4, .int v4_2)]) hx hb dX1_countOpenCorners_22 hl (by decide) rfl (fun ls hl => ?_)
    refine lv_aload_n hx hb dX1_countOpenCorners_24 rfl (lv_at hl 1 rfl) ?_
    refine gf_X1_15 hx hb hts hown hE hP 0 rfl rfl dX1_countOpenCorners_25 ?_
    refine lv_if_lt (tgt := 47) hx hb dX1_countOpenCorners_28 (by decide) (fun h_6 => ?_) (fun h_6 => ?_)
    · replace hyp := ite_t h_6 hyp
      refine lv_iinc (v := v4_2 + 1) (lv' := [(4, .int (v4_2 + 1)), (5, .int v5_5), (0, .ref b), (1, .int v1_1), (2, .ref zc), (3, .int 4)]) hx hb dX1_countOpenCorners_47 hl (k := 5) rfl rfl (by decide) rfl (fun ls hl => ?_)
      refine lv_goto (tgt := 12) hx hb dX1_countOpenCorners_50 (by decide) ?_
      exact ihself_3 v1_1 (v4_2 + 1) hyp H locs ls (lv_sub hl [2, 3, 4, 5, 0] rfl) hP hD hS
    · replace hyp := ite_f h_6 hyp
      refine lv_aload_n hx hb dX1_countOpenCorners_31 rfl (lv_at hl 1 rfl) ?_
      refine lv_aload_n hx hb dX1_countOpenCorners_32 rfl (lv_at hl 1 rfl) ?_
      refine gf_X1_15 hx hb hts hown hE hP 0 rfl rfl dX1_countOpenCorners_33 ?_
      refine lv_iload hx hb dX1_countOpenCorners_36 (lv_at hl 0 rfl) ?_
      obtain ⟨r_7, hr_7, hyp⟩ := opt_e hyp
      refine pV (As := [.int kk, .int v5_5]) (rest := []) ⟨hx, hb, hml, hown, hts⟩ hE (mX1_obstacle l g b ca kk sg f kk v5_5 r_7 hr_7) cf_X1_obstacle im_X1_obstacle se_X1_obstacle ml_X1_119 ⟨Nat.le_trans (Nat.le_of_ble_eq_true rfl) hRf, Nat.le_trans (Nat.le_of_ble_eq_true rfl) hRl⟩ (hP.sub (ws' := [(b, .inr (1, [.ref ca, .int kk, .int sg])), (ca, .inl (g.2.1, 49, .inl f))]) [0, 1] rfl) (ci := 1) (q0 := 0) rfl rfl rfl rfl hl.1 rfl (Nat.le_of_ble_eq_true rfl) dX1_countOpenCorners_38 ⟨Nat.zero_le _, Nat.zero_le _⟩ ?_
      refine lv_if_ne (tgt := 47) hx hb dX1_countOpenCorners_41 (by decide) (fun h_8 => ?_) (fun h_8 => ?_)
      · replace hyp := ite_f h_8 hyp
        refine lv_iinc (v := v4_2 + 1) (lv' := [(4, .int (v4_2 + 1)), (5, .int v5_5), (0, .ref b), (1, .int v1_1), (2, .ref zc), (3, .int 4)]) hx hb dX1_countOpenCorners_47 hl (k := 5) rfl rfl (by decide) rfl (fun ls hl => ?_)
        refine lv_goto (tgt := 12) hx hb dX1_countOpenCorners_50 (by decide) ?_
        exact ihself_3 v1_1 (v4_2 + 1) hyp H locs ls (lv_sub hl [2, 3, 4, 5, 0] rfl) hP hD hS
      · replace hyp := ite_t h_8 hyp
        refine lv_iinc (v := v1_1 + 1) (lv' := [(1, .int (v1_1 + 1)), (5, .int v5_5), (0, .ref b), (2, .ref zc), (3, .int 4), (4, .int v4_2)]) hx hb dX1_countOpenCorners_44 hl (k := 2) rfl rfl (by decide) rfl (fun ls hl => ?_)
        refine lv_iinc (v := v4_2 + 1) (lv' := [(4, .int (v4_2 + 1)), (1, .int (v1_1 + 1)), (5, .int v5_5), (0, .ref b), (2, .ref zc), (3, .int 4)]) hx hb dX1_countOpenCorners_47 hl (k := 5) rfl rfl (by decide) rfl (fun ls hl => ?_)
        refine lv_goto (tgt := 12) hx hb dX1_countOpenCorners_50 (by decide) ?_
        exact ihself_3 (v1_1 + 1) (v4_2 + 1) hyp H locs ls (lv_sub hl [3, 1, 4, 5, 0] rfl) hP hD hS

def fX3_empty : Option Int32 :=
  some (0)
set_option maxRecDepth 100000 in
set_option maxHeartbeats 4000000 in
theorem mX3_empty (l : Launch) (g : GE) (ml mc : Nat) (cnt : Int32) (r : Int32) (hyp : fX3_empty = some r) : WM l yX3_empty cX3_empty 1 none 0 0 g [(ml, .inr (3, [.ref mc, .int cnt]))] [.ref ml] none [(ml, .inr (3, [.ref mc, .int r]))] := by
  refine metW_intro (by decide) rfl ?_
  intro p e R s m args below meth c Q A hRf hRl hQ hx hb hml hr hlocks hown hts hin hE hA H locs hP hD hS ls hl
  have hown : s.vm.findClass "HallGuards$MoveList" = some m.cls := hown
  have hl : lv_has ls 1 [(0, .ref ml)] := hl
  unfold fX3_empty at hyp
  refine lv_aload_n hx hb dX3_empty_0 rfl (lv_at hl 0 rfl) ?_
  refine lv_iconst (v := 0) hx hb dX3_empty_1 (by decide) ?_
  refine pf_X3_15 hx hb hts hown hE hP hD hS 0 rfl rfl dX3_empty_2 (fun H locs hP hD hS => ?_)
  have hP : va_P g.1 vwCl [(ml, .inr (3, [.ref mc, .int 0]))] H := hP
  have hD : va_D A [(ml, .inr (3, [.ref mc, .int 0]))] := hD
  have hyp := some_e hyp
  subst hyp
  subst hQ
  exact rwV hx hb hr hlocks  hP hD hS dX3_empty_5

def fX3_add (cnt : Int32) (mf : Nat → Int32) (a1 : Int32) (a2 : Int32) : Option ((Nat → Int32) × Int32) :=
  if 588 ≤ cnt then (some (mf, cnt)) else (grd (inB cnt 588) (some (upd mf cnt.toNatClampNeg ((49 * a1) + a2), cnt + 1)))
set_option maxRecDepth 100000 in
set_option maxHeartbeats 4000000 in
theorem mX3_add (l : Launch) (g : GE) (ml mc : Nat) (cnt : Int32) (mf : Nat → Int32) (a1 : Int32) (a2 : Int32) (r : (Nat → Int32) × Int32) (hyp : fX3_add cnt mf a1 a2 = some r) : WM l yX3_add cX3_add 3 none 0 0 g [(ml, .inr (3, [.ref mc, .int cnt])), (mc, .inl (g.2.1, 588, .inl mf))] [.ref ml, .int a1, .int a2] none [(ml, .inr (3, [.ref mc, .int r.2])), (mc, .inl (g.2.1, 588, .inl r.1))] := by
  refine metW_intro (by decide) rfl ?_
  intro p e R s m args below meth c Q A hRf hRl hQ hx hb hml hr hlocks hown hts hin hE hA H locs hP hD hS ls hl
  have hown : s.vm.findClass "HallGuards$MoveList" = some m.cls := hown
  have hl : lv_has ls 3 [(0, .ref ml), (1, .int a1), (2, .int a2)] := hl
  unfold fX3_add at hyp
  refine lv_aload_n hx hb dX3_add_0 rfl (lv_at hl 0 rfl) ?_
  refine gf_X3_15 hx hb hts hown hE hP 0 rfl rfl dX3_add_1 ?_
  refine lv_sipush (v := 588) hx hb dX3_add_4 (by decide) ?_
  refine lv_icmp_ge (tgt := 35) hx hb dX3_add_7 (by decide) (fun h_1 => ?_) (fun h_1 => ?_)
  · replace hyp := ite_t h_1 hyp
    have hyp := some_e hyp
    subst hyp
    subst hQ
    exact rwV hx hb hr hlocks  hP hD hS dX3_add_35
  · replace hyp := ite_f h_1 hyp
    refine lv_aload_n hx hb dX3_add_10 rfl (lv_at hl 0 rfl) ?_
    refine gf_X3_11 hx hb hts hown hE hP 0 rfl rfl dX3_add_11 ?_
    refine lv_aload_n hx hb dX3_add_14 rfl (lv_at hl 0 rfl) ?_
    refine gf_X3_15 hx hb hts hown hE hP 0 rfl rfl dX3_add_15 ?_
    refine lv_bipush (v := 49) hx hb dX3_add_18 (by decide) ?_
    refine lv_iload_n hx hb dX3_add_20 rfl (lv_at hl 1 rfl) ?_
    refine lv_imul hx hb dX3_add_21 ?_
    refine lv_iload_n hx hb dX3_add_22 rfl (lv_at hl 2 rfl) ?_
    refine lv_iadd hx hb dX3_add_23 ?_
    obtain ⟨hi, hyp⟩ := grd_e hyp
    refine va_iast hx hb hE.1 hP hD hS 1 0 rfl rfl (inB_vp hi) dX3_add_24 (fun H locs hP hD hS => ?_)
    have hP : va_P g.1 vwCl [(ml, .inr (3, [.ref mc, .int cnt])), (mc, .inl (g.2.1, 588, .inl (upd mf cnt.toNatClampNeg ((49 * a1) + a2))))] H := hP
    have hD : va_D A [(ml, .inr (3, [.ref mc, .int cnt])), (mc, .inl (g.2.1, 588, .inl (upd mf cnt.toNatClampNeg ((49 * a1) + a2))))] := hD
    refine lv_aload_n hx hb dX3_add_25 rfl (lv_at hl 0 rfl) ?_
    refine lv_dup hx hb dX3_add_26 rfl ?_
    refine gf_X3_15 hx hb hts hown hE hP 0 rfl rfl dX3_add_27 ?_
    refine lv_iconst (v := 1) hx hb dX3_add_30 (by decide) ?_
    refine lv_iadd hx hb dX3_add_31 ?_
    refine pf_X3_15 hx hb hts hown hE hP hD hS 0 rfl rfl dX3_add_32 (fun H locs hP hD hS => ?_)
    have hP : va_P g.1 vwCl [(ml, .inr (3, [.ref mc, .int (cnt + 1)])), (mc, .inl (g.2.1, 588, .inl (upd mf cnt.toNatClampNeg ((49 * a1) + a2))))] H := hP
    have hD : va_D A [(ml, .inr (3, [.ref mc, .int (cnt + 1)])), (mc, .inl (g.2.1, 588, .inl (upd mf cnt.toNatClampNeg ((49 * a1) + a2))))] := hD
    have hyp := some_e hyp
    subst hyp
    subst hQ
    exact rwV hx hb hr hlocks  hP hD hS dX3_add_35

def fX3_codeAt (cnt : Int32) (mf : Nat → Int32) (a1 : Int32) : Option Int32 :=
  if a1 < 0 then (some (-1)) else (if a1 < cnt then (grd (inB a1 588) (some (mf a1.toNatClampNeg))) else (some (-1)))
set_option maxRecDepth 100000 in
set_option maxHeartbeats 4000000 in
theorem mX3_codeAt (l : Launch) (g : GE) (ml mc : Nat) (cnt : Int32) (mf : Nat → Int32) (a1 : Int32) (r : Int32) (hyp : fX3_codeAt cnt mf a1 = some r) : PI l yX3_codeAt cX3_codeAt 2 (some .int) 0 0 g [(ml, .inr (3, [.ref mc, .int cnt])), (mc, .inl (g.2.1, 588, .inl mf))] [.ref ml, .int a1] r := by
  refine metP_intro (by decide) rfl ?_
  intro p e R s m args below meth c Q hRf hRl hQ hx hb hml hr hlocks hown hts hin hE hP ls hl
  have hown : s.vm.findClass "HallGuards$MoveList" = some m.cls := hown
  have hl : lv_has ls 2 [(0, .ref ml), (1, .int a1)] := hl
  unfold fX3_codeAt at hyp
  refine lv_iload_n hx hb dX3_codeAt_0 rfl (lv_at hl 1 rfl) ?_
  refine lv_if_lt (tgt := 12) hx hb dX3_codeAt_1 (by decide) (fun h_1 => ?_) (fun h_1 => ?_)
  · replace hyp := ite_t h_1 hyp
    refine lv_iconst (v := (-1)) hx hb dX3_codeAt_12 (by decide) ?_
    refine lv_goto (tgt := 22) hx hb dX3_codeAt_13 (by decide) ?_
    subst hQ
    exact rI hx hb hr hlocks (some_e hyp) dX3_codeAt_22
  · replace hyp := ite_f h_1 hyp
    refine lv_iload_n hx hb dX3_codeAt_4 rfl (lv_at hl 1 rfl) ?_
    refine lv_aload_n hx hb dX3_codeAt_5 rfl (lv_at hl 0 rfl) ?_
    refine gf_X3_15 hx hb hts hown hE hP 0 rfl rfl dX3_codeAt_6 ?_
    refine lv_icmp_lt (tgt := 16) hx hb dX3_codeAt_9 (by decide) (fun h_2 => ?_) (fun h_2 => ?_)
    · replace hyp := ite_t h_2 hyp
      refine lv_aload_n hx hb dX3_codeAt_16 rfl (lv_at hl 0 rfl) ?_
      refine gf_X3_11 hx hb hts hown hE hP 0 rfl rfl dX3_codeAt_17 ?_
      refine lv_iload_n hx hb dX3_codeAt_20 rfl (lv_at hl 1 rfl) ?_
      obtain ⟨hi, hyp⟩ := grd_e hyp
      refine va_iald hx hb hE.1 hP 1 0 rfl rfl (inB_vp hi) dX3_codeAt_21 ?_
      subst hQ
      exact rI hx hb hr hlocks (some_e hyp) dX3_codeAt_22
    · replace hyp := ite_f h_2 hyp
      refine lv_iconst (v := (-1)) hx hb dX3_codeAt_12 (by decide) ?_
      refine lv_goto (tgt := 22) hx hb dX3_codeAt_13 (by decide) ?_
      subst hQ
      exact rI hx hb hr hlocks (some_e hyp) dX3_codeAt_22

def fX1_listForward_L17_B (f : Nat → Int32) (a1 : Int32) (a2 : Int32) (r_1 : Int32) (self_7 : Int32 → Int32 → (Nat → Int32) → Int32 → Option ((Nat → Int32) × Int32)) (v5_3 : Int32) (v6_4 : Int32) (wmf_5 : Nat → Int32) (wcnt_6 : Int32) : Option ((Nat → Int32) × Int32) :=
  if 7 ≤ v6_4 then (some (wmf_5, wcnt_6)) else (if v5_3 < 0 then (some (wmf_5, wcnt_6)) else ((fX1_at f v5_3).bind (fun (r_10 : Int32) => if r_10 = 0 then ((fX8_mayStop r_1 v5_3).bind (fun (r_12 : Int32) => jn (fun (wmf_13 : Nat → Int32) (wcnt_14 : Int32) => (fX8_beside v5_3 a2).bind (fun (r_16 : Int32) => self_7 r_16 (v6_4 + 1) wmf_13 wcnt_14)) (fun J_15 => if r_12 = 0 then (J_15 wmf_5 wcnt_6) else ((fX3_add wcnt_6 wmf_5 a1 v5_3).bind (fun (r_18 : (Nat → Int32) × Int32) => J_15 r_18.1 r_18.2))))) else (some (wmf_5, wcnt_6)))))
def fX1_listForward_L17 (f : Nat → Int32) (a1 : Int32) (a2 : Int32) (r_1 : Int32) (n : Nat) (v5_3 : Int32) (v6_4 : Int32) (wmf_5 : Nat → Int32) (wcnt_6 : Int32) : Option ((Nat → Int32) × Int32) := lp (fun zf z => fX1_listForward_L17_B f a1 a2 r_1 (fun v5_3 v6_4 wmf_5 wcnt_6 => zf (v5_3, v6_4, wmf_5, wcnt_6)) z.1 z.2.1 z.2.2.1 z.2.2.2) n (v5_3, v6_4, wmf_5, wcnt_6)
def fX1_listForward (f : Nat → Int32) (cnt : Int32) (mf : Nat → Int32) (a1 : Int32) (a2 : Int32) : Option ((Nat → Int32) × Int32) :=
  (fX1_at f a1).bind (fun (r_1 : Int32) => (fX8_beside a1 a2).bind (fun (r_2 : Int32) => fX1_listForward_L17 f a1 a2 r_1 64 r_2 1 mf cnt))
set_option maxRecDepth 100000 in
set_option maxHeartbeats 4000000 in
theorem mX1_listForward (l : Launch) (g : GE) (b ca ml mc : Nat) (kk : Int32) (sg : Int32) (f : Nat → Int32) (cnt : Int32) (mf : Nat → Int32) (a1 : Int32) (a2 : Int32) (r : (Nat → Int32) × Int32) (hyp : fX1_listForward f cnt mf a1 a2 = some r) : WM l yX1_listForward cX1_listForward 7 none 1 22 g [(b, .inr (1, [.ref ca, .int kk, .int sg])), (ca, .inl (g.2.1, 49, .inl f)), (ml, .inr (3, [.ref mc, .int cnt])), (mc, .inl (g.2.1, 588, .inl mf))] [.ref b, .int a1, .int a2, .ref ml] none [(b, .inr (1, [.ref ca, .int kk, .int sg])), (ca, .inl (g.2.1, 49, .inl f)), (ml, .inr (3, [.ref mc, .int r.2])), (mc, .inl (g.2.1, 588, .inl r.1))] := by
  refine metW_intro (by decide) rfl ?_
  intro p e R s m args below meth c Q A hRf hRl hQ hx hb hml hr hlocks hown hts hin hE hA H locs hP hD hS ls hl
  have hown : s.vm.findClass "HallGuards$Board" = some m.cls := hown
  have hl : lv_has ls 7 [(0, .ref b), (1, .int a1), (2, .int a2), (3, .ref ml)] := hl
  unfold fX1_listForward at hyp
  refine lv_aload_n hx hb dX1_listForward_0 rfl (lv_at hl 0 rfl) ?_
  refine lv_iload_n hx hb dX1_listForward_1 rfl (lv_at hl 1 rfl) ?_
  obtain ⟨r_1, hr_1, hyp⟩ := opt_e hyp
  refine pV (As := [.int a1]) (rest := []) ⟨hx, hb, hml, hown, hts⟩ hE (mX1_at l g b ca kk sg f a1 r_1 hr_1) cf_X1_at im_X1_at se_X1_at ml_X1_60 ⟨Nat.le_trans (Nat.le_of_ble_eq_true rfl) hRf, Nat.le_trans (Nat.le_of_ble_eq_true rfl) hRl⟩ (hP.sub (ws' := [(b, .inr (1, [.ref ca, .int kk, .int sg])), (ca, .inl (g.2.1, 49, .inl f))]) [0, 1] rfl) (ci := 1) (q0 := 0) rfl rfl rfl rfl hl.1 rfl (Nat.le_of_ble_eq_true rfl) dX1_listForward_2 ⟨Nat.zero_le _, Nat.zero_le _⟩ ?_
  refine lv_istore (lv' := [(4, .int r_1), (0, .ref b), (1, .int a1), (2, .int a2), (3, .ref ml)]) hx hb dX1_listForward_5 hl (by decide) rfl (fun ls hl => ?_)
  refine lv_iload_n hx hb dX1_listForward_7 rfl (lv_at hl 2 rfl) ?_
  refine lv_iload_n hx hb dX1_listForward_8 rfl (lv_at hl 3 rfl) ?_
  obtain ⟨r_2, hr_2, hyp⟩ := opt_e hyp
  refine pSN (As := [.int a1, .int a2]) (rest := []) ⟨hx, hb, hml, hown, hts⟩ hE (mX8_beside l g a1 a2 r_2 hr_2) cf_X8_beside st_X8_beside ml_X1_53 ⟨Nat.le_trans (Nat.le_of_ble_eq_true rfl) hRf, Nat.le_trans (Nat.le_of_ble_eq_true rfl) hRl⟩ (va_P_nil) rfl hl.1 rfl (Nat.le_of_ble_eq_true rfl) dX1_listForward_9 ⟨Nat.zero_le _, Nat.zero_le _⟩ ?_
  refine lv_istore (lv' := [(5, .int r_2), (4, .int r_1), (0, .ref b), (1, .int a1), (2, .int a2), (3, .ref ml)]) hx hb dX1_listForward_12 hl (by decide) rfl (fun ls hl => ?_)
  refine lv_iconst (v := 1) hx hb dX1_listForward_14 (by decide) ?_
  refine lv_istore (lv' := [(6, .int 1), (5, .int r_2), (4, .int r_1), (0, .ref b), (1, .int a1), (2, .int a2), (3, .ref ml)]) hx hb dX1_listForward_15 hl (by decide) rfl (fun ls hl => ?_)
  refine lp_i (r := r) (fun z : Int32 × Int32 × (Nat → Int32) × Int32 => ∀ (H : Heap) (locs : List Loc) (ls : Array Slot), lv_has ls 7 [(0, .ref b), (1, .int a1), (2, .int a2), (3, .ref ml), (4, .int r_1), (5, .int z.1), (6, .int z.2.1)] → va_P g.1 vwCl [(b, .inr (1, [.ref ca, .int kk, .int sg])), (ca, .inl (g.2.1, 49, .inl f)), (ml, .inr (3, [.ref mc, .int z.2.2.2])), (mc, .inl (g.2.1, 588, .inl z.2.2.1))] H → va_D A [(b, .inr (1, [.ref ca, .int kk, .int sg])), (ca, .inl (g.2.1, 49, .inl f)), (ml, .inr (3, [.ref mc, .int z.2.2.2])), (mc, .inl (g.2.1, 588, .inl z.2.2.1))] → va_S A s.heap H locs → W p l e R s m args below meth c H locs 0 0 Q (F0 m 17 ls [])) ?_ 64 (r_2, 1, mf, cnt) hyp _ _ ls (lv_sub hl [3, 4, 5, 6, 2, 1, 0] rfl) hP hD hS
  intro self_7T ihself_7T z hyp H locs ls hl hP hD hS
  obtain ⟨v5_3, v6_4, wmf_5, wcnt_6⟩ := z
  obtain ⟨self_7, eself_7⟩ : ∃ f9 : Int32 → Int32 → (Nat → Int32) → Int32 → Option ((Nat → Int32) × Int32), f9 = fun v5_3 v6_4 wmf_5 wcnt_6 => self_7T (v5_3, v6_4, wmf_5, wcnt_6) := ⟨_, rfl⟩
  have ihself_7 := fun (v5_3 : Int32) (v6_4 : Int32) (wmf_5 : Nat → Int32) (wcnt_6 : Int32) (h9 : self_7 v5_3 v6_4 wmf_5 wcnt_6 = some r) => ihself_7T (v5_3, v6_4, wmf_5, wcnt_6) (by rw [eself_7] at h9; exact h9)
  replace hyp : fX1_listForward_L17_B f a1 a2 r_1 self_7 v5_3 v6_4 wmf_5 wcnt_6 = some r := by rw [eself_7]; exact hyp
  have hl : lv_has ls 7 [(0, .ref b), (1, .int a1), (2, .int a2), (3, .ref ml), (4, .int r_1), (5, .int v5_3), (6, .int v6_4)] := hl
  have hP : va_P g.1 vwCl [(b, .inr (1, [.ref ca, .int kk, .int sg])), (ca, .inl (g.2.1, 49, .inl f)), (ml, .inr (3, [.ref mc, .int wcnt_6])), (mc, .inl (g.2.1, 588, .inl wmf_5))] H := hP
  have hD : va_D A [(b, .inr (1, [.ref ca, .int kk, .int sg])), (ca, .inl (g.2.1, 49, .inl f)), (ml, .inr (3, [.ref mc, .int wcnt_6])), (mc, .inl (g.2.1, 588, .inl wmf_5))] := hD
  show W p l e R s m args below meth c H locs 0 0 Q (F0 m 17 ls [])
  unfold fX1_listForward_L17_B at hyp
  refine lv_iload hx hb dX1_listForward_17 (lv_at hl 6 rfl) ?_
  refine lv_bipush (v := 7) hx hb dX1_listForward_19 (by decide) ?_
  refine lv_icmp_ge (tgt := 69) hx hb dX1_listForward_21 (by decide) (fun h_8 => ?_) (fun h_8 => ?_)
  · replace hyp := ite_t h_8 hyp
    have hyp := some_e hyp
    subst hyp
    subst hQ
    exact rwV hx hb hr hlocks  hP hD hS dX1_listForward_69
  · replace hyp := ite_f h_8 hyp
    refine lv_iload hx hb dX1_listForward_24 (lv_at hl 5 rfl) ?_
    refine lv_if_lt (tgt := 69) hx hb dX1_listForward_26 (by decide) (fun h_9 => ?_) (fun h_9 => ?_)
    · replace hyp := ite_t h_9 hyp
      have hyp := some_e hyp
      subst hyp
      subst hQ
      exact rwV hx hb hr hlocks  hP hD hS dX1_listForward_69
    · replace hyp := ite_f h_9 hyp
      refine lv_aload_n hx hb dX1_listForward_29 rfl (lv_at hl 0 rfl) ?_
      refine lv_iload hx hb dX1_listForward_30 (lv_at hl 5 rfl) ?_
      obtain ⟨r_10, hr_10, hyp⟩ := opt_e hyp
      refine pV (As := [.int v5_3]) (rest := []) ⟨hx, hb, hml, hown, hts⟩ hE (mX1_at l g b ca kk sg f v5_3 r_10 hr_10) cf_X1_at im_X1_at se_X1_at ml_X1_60 ⟨Nat.le_trans (Nat.le_of_ble_eq_true rfl) hRf, Nat.le_trans (Nat.le_of_ble_eq_true rfl) hRl⟩ (hP.sub (ws' := [(b, .inr (1, [.ref ca, .int kk, .int sg])), (ca, .inl (g.2.1, 49, .inl f))]) [0, 1] rfl) (ci := 1) (q0 := 0) rfl rfl rfl rfl hl.1 rfl (Nat.le_of_ble_eq_true rfl) dX1_listForward_32 ⟨Nat.zero_le _, Nat.zero_le _⟩ ?_
      refine lv_if_ne (tgt := 69) hx hb dX1_listForward_35 (by decide) (fun h_11 => ?_) (fun h_11 => ?_)
      · replace hyp := ite_f h_11 hyp
        have hyp := some_e hyp
        subst hyp
        subst hQ
        exact rwV hx hb hr hlocks  hP hD hS dX1_listForward_69
      · replace hyp := ite_t h_11 hyp
        refine lv_iload hx hb dX1_listForward_38 (lv_at hl 4 rfl) ?_
        refine lv_iload hx hb dX1_listForward_40 (lv_at hl 5 rfl) ?_
        obtain ⟨r_12, hr_12, hyp⟩ := opt_e hyp
        refine pSN (As := [.int r_1, .int v5_3]) (rest := []) ⟨hx, hb, hml, hown, hts⟩ hE (mX8_mayStop l g r_1 v5_3 r_12 hr_12) cf_X8_mayStop st_X8_mayStop ml_X1_38 ⟨Nat.le_trans (Nat.le_of_ble_eq_true rfl) hRf, Nat.le_trans (Nat.le_of_ble_eq_true rfl) hRl⟩ (va_P_nil) rfl hl.1 rfl (Nat.le_of_ble_eq_true rfl) dX1_listForward_42 ⟨Nat.zero_le _, Nat.zero_le _⟩ ?_
        obtain ⟨J_15, eJ_15, hyp⟩ := jn_e hyp
        have kJ_15 : ∀ (wmf_13 : Nat → Int32) (wcnt_14 : Int32) (H : Heap) (locs : List Loc) (ls : Array Slot), J_15 wmf_13 wcnt_14 = some r → lv_has ls 7 [(0, .ref b), (1, .int a1), (2, .int a2), (3, .ref ml), (4, .int r_1), (5, .int v5_3), (6, .int v6_4)] → va_P g.1 vwCl [(b, .inr (1, [.ref ca, .int kk, .int sg])), (ca, .inl (g.2.1, 49, .inl f)), (ml, .inr (3, [.ref mc, .int wcnt_14])), (mc, .inl (g.2.1, 588, .inl wmf_13))] H → va_D A [(b, .inr (1, [.ref ca, .int kk, .int sg])), (ca, .inl (g.2.1, 49, .inl f)), (ml, .inr (3, [.ref mc, .int wcnt_14])), (mc, .inl (g.2.1, 588, .inl wmf_13))] → va_S A s.heap H locs → W p l e R s m args below meth c H locs 0 0 Q (F0 m 55 ls []) := by
          intro wmf_13 wcnt_14 H locs  ls hyp hl hP hD hS
          replace hyp := (congrFun (congrFun (eJ_15) wmf_13) wcnt_14).symm.trans hyp
          refine lv_iload hx hb dX1_listForward_55 (lv_at hl 5 rfl) ?_
          refine lv_iload_n hx hb dX1_listForward_57 rfl (lv_at hl 2 rfl) ?_
          obtain ⟨r_16, hr_16, hyp⟩ := opt_e hyp
          refine pSN (As := [.int v5_3, .int a2]) (rest := []) ⟨hx, hb, hml, hown, hts⟩ hE (mX8_beside l g v5_3 a2 r_16 hr_16) cf_X8_beside st_X8_beside ml_X1_53 ⟨Nat.le_trans (Nat.le_of_ble_eq_true rfl) hRf, Nat.le_trans (Nat.le_of_ble_eq_true rfl) hRl⟩ (va_P_nil) rfl hl.1 rfl (Nat.le_of_ble_eq_true rfl) dX1_listForward_58 ⟨Nat.zero_le _, Nat.zero_le _⟩ ?_
          refine lv_istore (lv' := [(5, .int r_16), (0, .ref b), (1, .int a1), (2, .int a2), (3, .ref ml), (4, .int r_1), (6, .int v6_4)]) hx hb dX1_listForward_61 hl (by decide) rfl (fun ls hl => ?_)
          refine lv_iinc (v := v6_4 + 1) (lv' := [(6, .int (v6_4 + 1)), (5, .int r_16), (0, .ref b), (1, .int a1), (2, .int a2), (3, .ref ml), (4, .int r_1)]) hx hb dX1_listForward_63 hl (k := 6) rfl rfl (by decide) rfl (fun ls hl => ?_)
          refine lv_goto (tgt := 17) hx hb dX1_listForward_66 (by decide) ?_
          exact ihself_7 r_16 (v6_4 + 1) wmf_13 wcnt_14 hyp H locs ls (lv_sub hl [2, 3, 4, 5, 6, 1, 0] rfl) hP hD hS
        refine lv_if_eq (tgt := 55) hx hb dX1_listForward_45 (by decide) (fun h_17 => ?_) (fun h_17 => ?_)
        · replace hyp := ite_t h_17 hyp
          exact kJ_15 wmf_5 wcnt_6 H locs ls hyp hl hP hD hS
        · replace hyp := ite_f h_17 hyp
          refine lv_aload_n hx hb dX1_listForward_48 rfl (lv_at hl 3 rfl) ?_
          refine lv_iload_n hx hb dX1_listForward_49 rfl (lv_at hl 1 rfl) ?_
          refine lv_iload hx hb dX1_listForward_50 (lv_at hl 5 rfl) ?_
          obtain ⟨r_18, hr_18, hyp⟩ := opt_e hyp
          refine wV (As := [.int a1, .int v5_3]) (rest := []) ⟨hx, hb, hml, hown, hts⟩ hE (mX3_add l g ml mc wcnt_6 wmf_5 a1 v5_3 r_18 hr_18) cf_X3_add im_X3_add se_X3_add ml_X1_88 ⟨Nat.le_trans (Nat.le_of_ble_eq_true rfl) hRf, Nat.le_trans (Nat.le_of_ble_eq_true rfl) hRl⟩ hP hD hS hA [2, 3] [0, 1] rfl (wr := [(b, .inr (1, [.ref ca, .int kk, .int sg])), (ca, .inl (g.2.1, 49, .inl f))]) rfl ⟨by decide, by decide⟩ (by decide) (ci := 3) (q0 := 0) rfl rfl rfl rfl hl.1 rfl (Nat.le_of_ble_eq_true rfl) dX1_listForward_52 ⟨Nat.zero_le _, Nat.zero_le _⟩ (fun H locs hP hD hS => ?_)
          have hP : va_P g.1 vwCl [(b, .inr (1, [.ref ca, .int kk, .int sg])), (ca, .inl (g.2.1, 49, .inl f)), (ml, .inr (3, [.ref mc, .int r_18.2])), (mc, .inl (g.2.1, 588, .inl r_18.1))] H := hP
          have hD : va_D A [(b, .inr (1, [.ref ca, .int kk, .int sg])), (ca, .inl (g.2.1, 49, .inl f)), (ml, .inr (3, [.ref mc, .int r_18.2])), (mc, .inl (g.2.1, 588, .inl r_18.1))] := hD
          exact kJ_15 r_18.1 r_18.2 H locs ls hyp hl hP hD hS

def fX1_listBackward_L69_B (a1 : Int32) (a2 : Int32) (r_1 : Int32) (self_13 : Int32 → Int32 → (Nat → Int32) → Int32 → Option ((Nat → Int32) × Int32)) (v5_9 : Int32) (v8_10 : Int32) (wmf_11 : Nat → Int32) (wcnt_12 : Int32) : Option ((Nat → Int32) × Int32) :=
  if v8_10 ≤ 0 then (some (wmf_11, wcnt_12)) else ((fX8_mayStop r_1 v5_9).bind (fun (r_15 : Int32) => jn (fun (wmf_16 : Nat → Int32) (wcnt_17 : Int32) => (fX8_opposite a2).bind (fun (r_19 : Int32) => (fX8_beside v5_9 r_19).bind (fun (r_20 : Int32) => self_13 r_20 (v8_10 + (-1)) wmf_16 wcnt_17))) (fun J_18 => if r_15 = 0 then (J_18 wmf_11 wcnt_12) else ((fX3_add wcnt_12 wmf_11 a1 v5_9).bind (fun (r_22 : (Nat → Int32) × Int32) => J_18 r_22.1 r_22.2)))))
def fX1_listBackward_L69 (a1 : Int32) (a2 : Int32) (r_1 : Int32) (n : Nat) (v5_9 : Int32) (v8_10 : Int32) (wmf_11 : Nat → Int32) (wcnt_12 : Int32) : Option ((Nat → Int32) × Int32) := lp (fun zf z => fX1_listBackward_L69_B a1 a2 r_1 (fun v5_9 v8_10 wmf_11 wcnt_12 => zf (v5_9, v8_10, wmf_11, wcnt_12)) z.1 z.2.1 z.2.2.1 z.2.2.2) n (v5_9, v8_10, wmf_11, wcnt_12)
def fX1_listBackward_L23_B (f : Nat → Int32) (cnt : Int32) (mf : Nat → Int32) (a1 : Int32) (a2 : Int32) (r_1 : Int32) (self_7 : Int32 → Int32 → Int32 → Int32 → Option ((Nat → Int32) × Int32)) (v5_3 : Int32) (v6_4 : Int32) (v7_5 : Int32) (v8_6 : Int32) : Option ((Nat → Int32) × Int32) :=
  jn (fX1_listBackward_L69 a1 a2 r_1 64 v5_3 v6_4 mf cnt) (fun J_8 => if 7 ≤ v8_6 then (J_8) else (if v7_5 < 0 then (J_8) else ((fX1_at f v7_5).bind (fun (r_25 : Int32) => if r_25 = 0 then ((fX8_beside v7_5 a2).bind (fun (r_27 : Int32) => self_7 v7_5 (v6_4 + 1) r_27 (v8_6 + 1))) else (J_8)))))
def fX1_listBackward_L23 (f : Nat → Int32) (cnt : Int32) (mf : Nat → Int32) (a1 : Int32) (a2 : Int32) (r_1 : Int32) (n : Nat) (v5_3 : Int32) (v6_4 : Int32) (v7_5 : Int32) (v8_6 : Int32) : Option ((Nat → Int32) × Int32) := lp (fun zf z => fX1_listBackward_L23_B f cnt mf a1 a2 r_1 (fun v5_3 v6_4 v7_5 v8_6 => zf (v5_3, v6_4, v7_5, v8_6)) z.1 z.2.1 z.2.2.1 z.2.2.2) n (v5_3, v6_4, v7_5, v8_6)
def fX1_listBackward (f : Nat → Int32) (cnt : Int32) (mf : Nat → Int32) (a1 : Int32) (a2 : Int32) : Option ((Nat → Int32) × Int32) :=
  (fX1_at f a1).bind (fun (r_1 : Int32) => (fX8_beside a1 a2).bind (fun (r_2 : Int32) => fX1_listBackward_L23 f cnt mf a1 a2 r_1 64 a1 0 r_2 1))
set_option maxRecDepth 100000 in
set_option maxHeartbeats 4000000 in
theorem mX1_listBackward (l : Launch) (g : GE) (b ca ml mc : Nat) (kk : Int32) (sg : Int32) (f : Nat → Int32) (cnt : Int32) (mf : Nat → Int32) (a1 : Int32) (a2 : Int32) (r : (Nat → Int32) × Int32) (hyp : fX1_listBackward f cnt mf a1 a2 = some r) : WM l yX1_listBackward cX1_listBackward 9 none 1 22 g [(b, .inr (1, [.ref ca, .int kk, .int sg])), (ca, .inl (g.2.1, 49, .inl f)), (ml, .inr (3, [.ref mc, .int cnt])), (mc, .inl (g.2.1, 588, .inl mf))] [.ref b, .int a1, .int a2, .ref ml] none [(b, .inr (1, [.ref ca, .int kk, .int sg])), (ca, .inl (g.2.1, 49, .inl f)), (ml, .inr (3, [.ref mc, .int r.2])), (mc, .inl (g.2.1, 588, .inl r.1))] := by
  refine metW_intro (by decide) rfl ?_
  intro p e R s m args below meth c Q A hRf hRl hQ hx hb hml hr hlocks hown hts hin hE hA H locs hP hD hS ls hl
  have hown : s.vm.findClass "HallGuards$Board" = some m.cls := hown
  have hl : lv_has ls 9 [(0, .ref b), (1, .int a1), (2, .int a2), (3, .ref ml)] := hl
  unfold fX1_listBackward at hyp
  refine lv_aload_n hx hb dX1_listBackward_0 rfl (lv_at hl 0 rfl) ?_
  refine lv_iload_n hx hb dX1_listBackward_1 rfl (lv_at hl 1 rfl) ?_
  obtain ⟨r_1, hr_1, hyp⟩ := opt_e hyp
  refine pV (As := [.int a1]) (rest := []) ⟨hx, hb, hml, hown, hts⟩ hE (mX1_at l g b ca kk sg f a1 r_1 hr_1) cf_X1_at im_X1_at se_X1_at ml_X1_60 ⟨Nat.le_trans (Nat.le_of_ble_eq_true rfl) hRf, Nat.le_trans (Nat.le_of_ble_eq_true rfl) hRl⟩ (hP.sub (ws' := [(b, .inr (1, [.ref ca, .int kk, .int sg])), (ca, .inl (g.2.1, 49, .inl f))]) [0, 1] rfl) (ci := 1) (q0 := 0) rfl rfl rfl rfl hl.1 rfl (Nat.le_of_ble_eq_true rfl) dX1_listBackward_2 ⟨Nat.zero_le _, Nat.zero_le _⟩ ?_
  refine lv_istore (lv' := [(4, .int r_1), (0, .ref b), (1, .int a1), (2, .int a2), (3, .ref ml)]) hx hb dX1_listBackward_5 hl (by decide) rfl (fun ls hl => ?_)
  refine lv_iload_n hx hb dX1_listBackward_7 rfl (lv_at hl 2 rfl) ?_
  refine lv_istore (lv' := [(5, .int a1), (4, .int r_1), (0, .ref b), (1, .int a1), (2, .int a2), (3, .ref ml)]) hx hb dX1_listBackward_8 hl (by decide) rfl (fun ls hl => ?_)
  refine lv_iconst (v := 0) hx hb dX1_listBackward_10 (by decide) ?_
  refine lv_istore (lv' := [(6, .int 0), (5, .int a1), (4, .int r_1), (0, .ref b), (1, .int a1), (2, .int a2), (3, .ref ml)]) hx hb dX1_listBackward_11 hl (by decide) rfl (fun ls hl => ?_)
  refine lv_iload_n hx hb dX1_listBackward_13 rfl (lv_at hl 4 rfl) ?_
  refine lv_iload_n hx hb dX1_listBackward_14 rfl (lv_at hl 5 rfl) ?_
  obtain ⟨r_2, hr_2, hyp⟩ := opt_e hyp
  refine pSN (As := [.int a1, .int a2]) (rest := []) ⟨hx, hb, hml, hown, hts⟩ hE (mX8_beside l g a1 a2 r_2 hr_2) cf_X8_beside st_X8_beside ml_X1_53 ⟨Nat.le_trans (Nat.le_of_ble_eq_true rfl) hRf, Nat.le_trans (Nat.le_of_ble_eq_true rfl) hRl⟩ (va_P_nil) rfl hl.1 rfl (Nat.le_of_ble_eq_true rfl) dX1_listBackward_15 ⟨Nat.zero_le _, Nat.zero_le _⟩ ?_
  refine lv_istore (lv' := [(7, .int r_2), (6, .int 0), (5, .int a1), (4, .int r_1), (0, .ref b), (1, .int a1), (2, .int a2), (3, .ref ml)]) hx hb dX1_listBackward_18 hl (by decide) rfl (fun ls hl => ?_)
  refine lv_iconst (v := 1) hx hb dX1_listBackward_20 (by decide) ?_
  refine lv_istore (lv' := [(8, .int 1), (7, .int r_2), (6, .int 0), (5, .int a1), (4, .int r_1), (0, .ref b), (1, .int a1), (2, .int a2), (3, .ref ml)]) hx hb dX1_listBackward_21 hl (by decide) rfl (fun ls hl => ?_)
  refine lp_i (r := r) (fun z : Int32 × Int32 × Int32 × Int32 => ∀ (H : Heap) (locs : List Loc) (ls : Array Slot), lv_has ls 9 [(0, .ref b), (1, .int a1), (2, .int a2), (3, .ref ml), (4, .int r_1), (5, .int z.1), (6, .int z.2.1), (7, .int z.2.2.1), (8, .int z.2.2.2)] → va_P g.1 vwCl [(b, .inr (1, [.ref ca, .int kk, .int sg])), (ca, .inl (g.2.1, 49, .inl f)), (ml, .inr (3, [.ref mc, .int cnt])), (mc, .inl (g.2.1, 588, .inl mf))] H → va_D A [(b, .inr (1, [.ref ca, .int kk, .int sg])), (ca, .inl (g.2.1, 49, .inl f)), (ml, .inr (3, [.ref mc, .int cnt])), (mc, .inl (g.2.1, 588, .inl mf))] → va_S A s.heap H locs → W p l e R s m args below meth c H locs 0 0 Q (F0 m 23 ls [])) ?_ 64 (a1, 0, r_2, 1) hyp _ _ ls (lv_sub hl [5, 6, 7, 8, 4, 3, 2, 1, 0] rfl) hP hD hS
  intro self_7T ihself_7T z hyp H locs ls hl hP hD hS
  obtain ⟨v5_3, v6_4, v7_5, v8_6⟩ := z
  obtain ⟨self_7, eself_7⟩ : ∃ f9 : Int32 → Int32 → Int32 → Int32 → Option ((Nat → Int32) × Int32), f9 = fun v5_3 v6_4 v7_5 v8_6 => self_7T (v5_3, v6_4, v7_5, v8_6) := ⟨_, rfl⟩
  have ihself_7 := fun (v5_3 : Int32) (v6_4 : Int32) (v7_5 : Int32) (v8_6 : Int32) (h9 : self_7 v5_3 v6_4 v7_5 v8_6 = some r) => ihself_7T (v5_3, v6_4, v7_5, v8_6) (by rw [eself_7] at h9; exact h9)
  replace hyp : fX1_listBackward_L23_B f cnt mf a1 a2 r_1 self_7 v5_3 v6_4 v7_5 v8_6 = some r := by rw [eself_7]; exact hyp
  have hl : lv_has ls 9 [(0, .ref b), (1, .int a1), (2, .int a2), (3, .ref ml), (4, .int r_1), (5, .int v5_3), (6, .int v6_4), (7, .int v7_5), (8, .int v8_6)] := hl
  have hP : va_P g.1 vwCl [(b, .inr (1, [.ref ca, .int kk, .int sg])), (ca, .inl (g.2.1, 49, .inl f)), (ml, .inr (3, [.ref mc, .int cnt])), (mc, .inl (g.2.1, 588, .inl mf))] H := hP
  have hD : va_D A [(b, .inr (1, [.ref ca, .int kk, .int sg])), (ca, .inl (g.2.1, 49, .inl f)), (ml, .inr (3, [.ref mc, .int cnt])), (mc, .inl (g.2.1, 588, .inl mf))] := hD
  show W p l e R s m args below meth c H locs 0 0 Q (F0 m 23 ls [])
  unfold fX1_listBackward_L23_B at hyp
  refine lv_iload hx hb dX1_listBackward_23 (lv_at hl 8 rfl) ?_
  refine lv_bipush (v := 7) hx hb dX1_listBackward_25 (by decide) ?_
  obtain ⟨J_8, eJ_8, hyp⟩ := jn_e hyp
  have kJ_8 : ∀ (H : Heap) (locs : List Loc) (ls : Array Slot), J_8 = some r → lv_has ls 9 [(1, .int a1), (2, .int a2), (3, .ref ml), (4, .int r_1), (5, .int v5_3), (6, .int v6_4)] → va_P g.1 vwCl [(b, .inr (1, [.ref ca, .int kk, .int sg])), (ca, .inl (g.2.1, 49, .inl f)), (ml, .inr (3, [.ref mc, .int cnt])), (mc, .inl (g.2.1, 588, .inl mf))] H → va_D A [(b, .inr (1, [.ref ca, .int kk, .int sg])), (ca, .inl (g.2.1, 49, .inl f)), (ml, .inr (3, [.ref mc, .int cnt])), (mc, .inl (g.2.1, 588, .inl mf))] → va_S A s.heap H locs → W p l e R s m args below meth c H locs 0 0 Q (F0 m 65 ls []) := by
    intro H locs  ls hyp hl hP hD hS
    replace hyp := (eJ_8).symm.trans hyp
    refine lv_iload hx hb dX1_listBackward_65 (lv_at hl 5 rfl) ?_
    refine lv_istore (lv' := [(8, .int v6_4), (1, .int a1), (2, .int a2), (3, .ref ml), (4, .int r_1), (5, .int v5_3), (6, .int v6_4)]) hx hb dX1_listBackward_67 hl (by decide) rfl (fun ls hl => ?_)
    refine lp_i (r := r) (fun z : Int32 × Int32 × (Nat → Int32) × Int32 => ∀ (H : Heap) (locs : List Loc) (ls : Array Slot), lv_has ls 9 [(1, .int a1), (2, .int a2), (3, .ref ml), (4, .int r_1), (5, .int z.1), (8, .int z.2.1)] → va_P g.1 vwCl [(b, .inr (1, [.ref ca, .int kk, .int sg])), (ca, .inl (g.2.1, 49, .inl f)), (ml, .inr (3, [.ref mc, .int z.2.2.2])), (mc, .inl (g.2.1, 588, .inl z.2.2.1))] H → va_D A [(b, .inr (1, [.ref ca, .int kk, .int sg])), (ca, .inl (g.2.1, 49, .inl f)), (ml, .inr (3, [.ref mc, .int z.2.2.2])), (mc, .inl (g.2.1, 588, .inl z.2.2.1))] → va_S A s.heap H locs → W p l e R s m args below meth c H locs 0 0 Q (F0 m 69 ls [])) ?_ 64 (v5_3, v6_4, mf, cnt) hyp _ _ ls (lv_sub hl [1, 2, 3, 4, 5, 0] rfl) hP hD hS
    intro self_13T ihself_13T z hyp H locs ls hl hP hD hS
    obtain ⟨v5_9, v8_10, wmf_11, wcnt_12⟩ := z
    obtain ⟨self_13, eself_13⟩ : ∃ f9 : Int32 → Int32 → (Nat → Int32) → Int32 → Option ((Nat → Int32) × Int32), f9 = fun v5_9 v8_10 wmf_11 wcnt_12 => self_13T (v5_9, v8_10, wmf_11, wcnt_12) := ⟨_, rfl⟩
    have ihself_13 := fun (v5_9 : Int32) (v8_10 : Int32) (wmf_11 : Nat → Int32) (wcnt_12 : Int32) (h9 : self_13 v5_9 v8_10 wmf_11 wcnt_12 = some r) => ihself_13T (v5_9, v8_10, wmf_11, wcnt_12) (by rw [eself_13] at h9; exact h9)
    replace hyp : fX1_listBackward_L69_B a1 a2 r_1 self_13 v5_9 v8_10 wmf_11 wcnt_12 = some r := by rw [eself_13]; exact hyp
    have hl : lv_has ls 9 [(1, .int a1), (2, .int a2), (3, .ref ml), (4, .int r_1), (5, .int v5_9), (8, .int v8_10)] := hl
    have hP : va_P g.1 vwCl [(b, .inr (1, [.ref ca, .int kk, .int sg])), (ca, .inl (g.2.1, 49, .inl f)), (ml, .inr (3, [.ref mc, .int wcnt_12])), (mc, .inl (g.2.1, 588, .inl wmf_11))] H := hP
    have hD : va_D A [(b, .inr (1, [.ref ca, .int kk, .int sg])), (ca, .inl (g.2.1, 49, .inl f)), (ml, .inr (3, [.ref mc, .int wcnt_12])), (mc, .inl (g.2.1, 588, .inl wmf_11))] := hD
    show W p l e R s m args below meth c H locs 0 0 Q (F0 m 69 ls [])
    unfold fX1_listBackward_L69_B at hyp
    refine lv_iload hx hb dX1_listBackward_69 (lv_at hl 5 rfl) ?_
    refine lv_if_le (tgt := 108) hx hb dX1_listBackward_71 (by decide) (fun h_14 => ?_) (fun h_14 => ?_)
    · replace hyp := ite_t h_14 hyp
      have hyp := some_e hyp
      subst hyp
      subst hQ
      exact rwV hx hb hr hlocks  hP hD hS dX1_listBackward_108
    · replace hyp := ite_f h_14 hyp
      refine lv_iload hx hb dX1_listBackward_74 (lv_at hl 3 rfl) ?_
      refine lv_iload hx hb dX1_listBackward_76 (lv_at hl 4 rfl) ?_
      obtain ⟨r_15, hr_15, hyp⟩ := opt_e hyp
      refine pSN (As := [.int r_1, .int v5_9]) (rest := []) ⟨hx, hb, hml, hown, hts⟩ hE (mX8_mayStop l g r_1 v5_9 r_15 hr_15) cf_X8_mayStop st_X8_mayStop ml_X1_38 ⟨Nat.le_trans (Nat.le_of_ble_eq_true rfl) hRf, Nat.le_trans (Nat.le_of_ble_eq_true rfl) hRl⟩ (va_P_nil) rfl hl.1 rfl (Nat.le_of_ble_eq_true rfl) dX1_listBackward_78 ⟨Nat.zero_le _, Nat.zero_le _⟩ ?_
      obtain ⟨J_18, eJ_18, hyp⟩ := jn_e hyp
      have kJ_18 : ∀ (wmf_16 : Nat → Int32) (wcnt_17 : Int32) (H : Heap) (locs : List Loc) (ls : Array Slot), J_18 wmf_16 wcnt_17 = some r → lv_has ls 9 [(1, .int a1), (2, .int a2), (3, .ref ml), (4, .int r_1), (5, .int v5_9), (8, .int v8_10)] → va_P g.1 vwCl [(b, .inr (1, [.ref ca, .int kk, .int sg])), (ca, .inl (g.2.1, 49, .inl f)), (ml, .inr (3, [.ref mc, .int wcnt_17])), (mc, .inl (g.2.1, 588, .inl wmf_16))] H → va_D A [(b, .inr (1, [.ref ca, .int kk, .int sg])), (ca, .inl (g.2.1, 49, .inl f)), (ml, .inr (3, [.ref mc, .int wcnt_17])), (mc, .inl (g.2.1, 588, .inl wmf_16))] → va_S A s.heap H locs → W p l e R s m args below meth c H locs 0 0 Q (F0 m 91 ls []) := by
        intro wmf_16 wcnt_17 H locs  ls hyp hl hP hD hS
        replace hyp := (congrFun (congrFun (eJ_18) wmf_16) wcnt_17).symm.trans hyp
        refine lv_iload hx hb dX1_listBackward_91 (lv_at hl 4 rfl) ?_
        refine lv_iload_n hx hb dX1_listBackward_93 rfl (lv_at hl 1 rfl) ?_
        obtain ⟨r_19, hr_19, hyp⟩ := opt_e hyp
        refine pSN (As := [.int a2]) (rest := [.int v5_9]) ⟨hx, hb, hml, hown, hts⟩ hE (mX8_opposite l g a2 r_19 hr_19) cf_X8_opposite st_X8_opposite ml_X1_92 ⟨Nat.le_trans (Nat.le_of_ble_eq_true rfl) hRf, Nat.le_trans (Nat.le_of_ble_eq_true rfl) hRl⟩ (va_P_nil) rfl hl.1 rfl (Nat.le_of_ble_eq_true rfl) dX1_listBackward_94 ⟨Nat.zero_le _, Nat.zero_le _⟩ ?_
        obtain ⟨r_20, hr_20, hyp⟩ := opt_e hyp
        refine pSN (As := [.int v5_9, .int r_19]) (rest := []) ⟨hx, hb, hml, hown, hts⟩ hE (mX8_beside l g v5_9 r_19 r_20 hr_20) cf_X8_beside st_X8_beside ml_X1_53 ⟨Nat.le_trans (Nat.le_of_ble_eq_true rfl) hRf, Nat.le_trans (Nat.le_of_ble_eq_true rfl) hRl⟩ (va_P_nil) rfl hl.1 rfl (Nat.le_of_ble_eq_true rfl) dX1_listBackward_97 ⟨Nat.zero_le _, Nat.zero_le _⟩ ?_
        refine lv_istore (lv' := [(5, .int r_20), (1, .int a1), (2, .int a2), (3, .ref ml), (4, .int r_1), (8, .int v8_10)]) hx hb dX1_listBackward_100 hl (by decide) rfl (fun ls hl => ?_)
        refine lv_iinc (v := v8_10 + (-1)) (lv' := [(8, .int (v8_10 + (-1))), (5, .int r_20), (1, .int a1), (2, .int a2), (3, .ref ml), (4, .int r_1)]) hx hb dX1_listBackward_102 hl (k := 5) rfl rfl (by decide) rfl (fun ls hl => ?_)
        refine lv_goto (tgt := 69) hx hb dX1_listBackward_105 (by decide) ?_
        exact ihself_13 r_20 (v8_10 + (-1)) wmf_16 wcnt_17 hyp H locs ls (lv_sub hl [2, 3, 4, 5, 1, 0] rfl) hP hD hS
      refine lv_if_eq (tgt := 91) hx hb dX1_listBackward_81 (by decide) (fun h_21 => ?_) (fun h_21 => ?_)
      · replace hyp := ite_t h_21 hyp
        exact kJ_18 wmf_11 wcnt_12 H locs ls hyp hl hP hD hS
      · replace hyp := ite_f h_21 hyp
        refine lv_aload_n hx hb dX1_listBackward_84 rfl (lv_at hl 2 rfl) ?_
        refine lv_iload_n hx hb dX1_listBackward_85 rfl (lv_at hl 0 rfl) ?_
        refine lv_iload hx hb dX1_listBackward_86 (lv_at hl 4 rfl) ?_
        obtain ⟨r_22, hr_22, hyp⟩ := opt_e hyp
        refine wV (As := [.int a1, .int v5_9]) (rest := []) ⟨hx, hb, hml, hown, hts⟩ hE (mX3_add l g ml mc wcnt_12 wmf_11 a1 v5_9 r_22 hr_22) cf_X3_add im_X3_add se_X3_add ml_X1_88 ⟨Nat.le_trans (Nat.le_of_ble_eq_true rfl) hRf, Nat.le_trans (Nat.le_of_ble_eq_true rfl) hRl⟩ hP hD hS hA [2, 3] [0, 1] rfl (wr := [(b, .inr (1, [.ref ca, .int kk, .int sg])), (ca, .inl (g.2.1, 49, .inl f))]) rfl ⟨by decide, by decide⟩ (by decide) (ci := 3) (q0 := 0) rfl rfl rfl rfl hl.1 rfl (Nat.le_of_ble_eq_true rfl) dX1_listBackward_88 ⟨Nat.zero_le _, Nat.zero_le _⟩ (fun H locs hP hD hS => ?_)
        have hP : va_P g.1 vwCl [(b, .inr (1, [.ref ca, .int kk, .int sg])), (ca, .inl (g.2.1, 49, .inl f)), (ml, .inr (3, [.ref mc, .int r_22.2])), (mc, .inl (g.2.1, 588, .inl r_22.1))] H := hP
        have hD : va_D A [(b, .inr (1, [.ref ca, .int kk, .int sg])), (ca, .inl (g.2.1, 49, .inl f)), (ml, .inr (3, [.ref mc, .int r_22.2])), (mc, .inl (g.2.1, 588, .inl r_22.1))] := hD
        exact kJ_18 r_22.1 r_22.2 H locs ls hyp hl hP hD hS
  refine lv_icmp_ge (tgt := 65) hx hb dX1_listBackward_27 (by decide) (fun h_23 => ?_) (fun h_23 => ?_)
  · replace hyp := ite_t h_23 hyp
    exact kJ_8 H locs ls hyp (lv_sub hl [1, 2, 3, 4, 5, 6] rfl) hP hD hS
  · replace hyp := ite_f h_23 hyp
    refine lv_iload hx hb dX1_listBackward_30 (lv_at hl 7 rfl) ?_
    refine lv_if_lt (tgt := 65) hx hb dX1_listBackward_32 (by decide) (fun h_24 => ?_) (fun h_24 => ?_)
    · replace hyp := ite_t h_24 hyp
      exact kJ_8 H locs ls hyp (lv_sub hl [1, 2, 3, 4, 5, 6] rfl) hP hD hS
    · replace hyp := ite_f h_24 hyp
      refine lv_aload_n hx hb dX1_listBackward_35 rfl (lv_at hl 0 rfl) ?_
      refine lv_iload hx hb dX1_listBackward_36 (lv_at hl 7 rfl) ?_
      obtain ⟨r_25, hr_25, hyp⟩ := opt_e hyp
      refine pV (As := [.int v7_5]) (rest := []) ⟨hx, hb, hml, hown, hts⟩ hE (mX1_at l g b ca kk sg f v7_5 r_25 hr_25) cf_X1_at im_X1_at se_X1_at ml_X1_60 ⟨Nat.le_trans (Nat.le_of_ble_eq_true rfl) hRf, Nat.le_trans (Nat.le_of_ble_eq_true rfl) hRl⟩ (hP.sub (ws' := [(b, .inr (1, [.ref ca, .int kk, .int sg])), (ca, .inl (g.2.1, 49, .inl f))]) [0, 1] rfl) (ci := 1) (q0 := 0) rfl rfl rfl rfl hl.1 rfl (Nat.le_of_ble_eq_true rfl) dX1_listBackward_38 ⟨Nat.zero_le _, Nat.zero_le _⟩ ?_
      refine lv_if_ne (tgt := 65) hx hb dX1_listBackward_41 (by decide) (fun h_26 => ?_) (fun h_26 => ?_)
      · replace hyp := ite_f h_26 hyp
        exact kJ_8 H locs ls hyp (lv_sub hl [1, 2, 3, 4, 5, 6] rfl) hP hD hS
      · replace hyp := ite_t h_26 hyp
        refine lv_iload hx hb dX1_listBackward_44 (lv_at hl 7 rfl) ?_
        refine lv_istore (lv' := [(5, .int v7_5), (0, .ref b), (1, .int a1), (2, .int a2), (3, .ref ml), (4, .int r_1), (6, .int v6_4), (7, .int v7_5), (8, .int v8_6)]) hx hb dX1_listBackward_46 hl (by decide) rfl (fun ls hl => ?_)
        refine lv_iinc (v := v6_4 + 1) (lv' := [(6, .int (v6_4 + 1)), (5, .int v7_5), (0, .ref b), (1, .int a1), (2, .int a2), (3, .ref ml), (4, .int r_1), (7, .int v7_5), (8, .int v8_6)]) hx hb dX1_listBackward_48 hl (k := 6) rfl rfl (by decide) rfl (fun ls hl => ?_)
        refine lv_iload hx hb dX1_listBackward_51 (lv_at hl 1 rfl) ?_
        refine lv_iload_n hx hb dX1_listBackward_53 rfl (lv_at hl 4 rfl) ?_
        obtain ⟨r_27, hr_27, hyp⟩ := opt_e hyp
        refine pSN (As := [.int v7_5, .int a2]) (rest := []) ⟨hx, hb, hml, hown, hts⟩ hE (mX8_beside l g v7_5 a2 r_27 hr_27) cf_X8_beside st_X8_beside ml_X1_53 ⟨Nat.le_trans (Nat.le_of_ble_eq_true rfl) hRf, Nat.le_trans (Nat.le_of_ble_eq_true rfl) hRl⟩ (va_P_nil) rfl hl.1 rfl (Nat.le_of_ble_eq_true rfl) dX1_listBackward_54 ⟨Nat.zero_le _, Nat.zero_le _⟩ ?_
        refine lv_istore (lv' := [(7, .int r_27), (6, .int (v6_4 + 1)), (5, .int v7_5), (0, .ref b), (1, .int a1), (2, .int a2), (3, .ref ml), (4, .int r_1), (8, .int v8_6)]) hx hb dX1_listBackward_57 hl (by decide) rfl (fun ls hl => ?_)
        refine lv_iinc (v := v8_6 + 1) (lv' := [(8, .int (v8_6 + 1)), (7, .int r_27), (6, .int (v6_4 + 1)), (5, .int v7_5), (0, .ref b), (1, .int a1), (2, .int a2), (3, .ref ml), (4, .int r_1)]) hx hb dX1_listBackward_59 hl (k := 8) rfl rfl (by decide) rfl (fun ls hl => ?_)
        refine lv_goto (tgt := 23) hx hb dX1_listBackward_62 (by decide) ?_
        exact ihself_7 v7_5 (v6_4 + 1) r_27 (v8_6 + 1) hyp H locs ls (lv_sub hl [4, 5, 6, 7, 8, 3, 2, 1, 0] rfl) hP hD hS

def fX1_listMoves_L6_B (f : Nat → Int32) (a1 : Int32) (self_5 : Int32 → (Nat → Int32) → Int32 → Option ((Nat → Int32) × Int32)) (v3_2 : Int32) (wmf_3 : Nat → Int32) (wcnt_4 : Int32) : Option ((Nat → Int32) × Int32) :=
  if 49 ≤ v3_2 then (some (wmf_3, wcnt_4)) else (grd (inB v3_2 49) ((fX8_sideOf (f v3_2.toNatClampNeg)).bind (fun (r_7 : Int32) => if r_7 = a1 then ((fX1_listBackward f wcnt_4 wmf_3 v3_2 0).bind (fun (r_9 : (Nat → Int32) × Int32) => (fX1_listBackward f r_9.2 r_9.1 v3_2 1).bind (fun (r_10 : (Nat → Int32) × Int32) => (fX1_listForward f r_10.2 r_10.1 v3_2 2).bind (fun (r_11 : (Nat → Int32) × Int32) => (fX1_listForward f r_11.2 r_11.1 v3_2 3).bind (fun (r_12 : (Nat → Int32) × Int32) => self_5 (v3_2 + 1) r_12.1 r_12.2))))) else (self_5 (v3_2 + 1) wmf_3 wcnt_4))))
def fX1_listMoves_L6 (f : Nat → Int32) (a1 : Int32) (n : Nat) (v3_2 : Int32) (wmf_3 : Nat → Int32) (wcnt_4 : Int32) : Option ((Nat → Int32) × Int32) := lp (fun zf z => fX1_listMoves_L6_B f a1 (fun v3_2 wmf_3 wcnt_4 => zf (v3_2, wmf_3, wcnt_4)) z.1 z.2.1 z.2.2) n (v3_2, wmf_3, wcnt_4)
def fX1_listMoves (f : Nat → Int32) (mf : Nat → Int32) (a1 : Int32) : Option ((Nat → Int32) × Int32) :=
  (fX3_empty).bind (fun (r_1 : Int32) => fX1_listMoves_L6 f a1 64 0 mf r_1)
set_option maxRecDepth 100000 in
set_option maxHeartbeats 4000000 in
theorem mX1_listMoves (l : Launch) (g : GE) (b ca ml mc : Nat) (kk : Int32) (sg : Int32) (f : Nat → Int32) (cnt : Int32) (mf : Nat → Int32) (a1 : Int32) (r : (Nat → Int32) × Int32) (hyp : fX1_listMoves f mf a1 = some r) : WM l yX1_listMoves cX1_listMoves 4 none 2 50 g [(b, .inr (1, [.ref ca, .int kk, .int sg])), (ca, .inl (g.2.1, 49, .inl f)), (ml, .inr (3, [.ref mc, .int cnt])), (mc, .inl (g.2.1, 588, .inl mf))] [.ref b, .int a1, .ref ml] none [(b, .inr (1, [.ref ca, .int kk, .int sg])), (ca, .inl (g.2.1, 49, .inl f)), (ml, .inr (3, [.ref mc, .int r.2])), (mc, .inl (g.2.1, 588, .inl r.1))] := by
  refine metW_intro (by decide) rfl ?_
  intro p e R s m args below meth c Q A hRf hRl hQ hx hb hml hr hlocks hown hts hin hE hA H locs hP hD hS ls hl
  have hown : s.vm.findClass "HallGuards$Board" = some m.cls := hown
  have hl : lv_has ls 4 [(0, .ref b), (1, .int a1), (2, .ref ml)] := hl
  unfold fX1_listMoves at hyp
  refine lv_aload_n hx hb dX1_listMoves_0 rfl (lv_at hl 2 rfl) ?_
  obtain ⟨r_1, hr_1, hyp⟩ := opt_e hyp
  refine wV (As := []) (rest := []) ⟨hx, hb, hml, hown, hts⟩ hE (mX3_empty l g ml mc cnt r_1 hr_1) cf_X3_empty im_X3_empty se_X3_empty ml_X1_76 ⟨Nat.le_trans (Nat.le_of_ble_eq_true rfl) hRf, Nat.le_trans (Nat.le_of_ble_eq_true rfl) hRl⟩ hP hD hS hA [2] [0, 1, 3] rfl (wr := [(b, .inr (1, [.ref ca, .int kk, .int sg])), (ca, .inl (g.2.1, 49, .inl f)), (mc, .inl (g.2.1, 588, .inl mf))]) rfl ⟨by decide, by decide⟩ (by decide) (ci := 3) (q0 := 0) rfl rfl rfl rfl hl.1 rfl (Nat.le_of_ble_eq_true rfl) dX1_listMoves_1 ⟨Nat.zero_le _, Nat.zero_le _⟩ (fun H locs hP hD hS => ?_)
  have hP : va_P g.1 vwCl [(b, .inr (1, [.ref ca, .int kk, .int sg])), (ca, .inl (g.2.1, 49, .inl f)), (mc, .inl (g.2.1, 588, .inl mf)), (ml, .inr (3, [.ref mc, .int r_1]))] H := hP
  have hD : va_D A [(b, .inr (1, [.ref ca, .int kk, .int sg])), (ca, .inl (g.2.1, 49, .inl f)), (mc, .inl (g.2.1, 588, .inl mf)), (ml, .inr (3, [.ref mc, .int r_1]))] := hD
  refine lv_iconst (v := 0) hx hb dX1_listMoves_4 (by decide) ?_
  refine lv_istore_n (lv' := [(3, .int 0), (0, .ref b), (1, .int a1), (2, .ref ml)]) hx hb dX1_listMoves_5 rfl hl (by decide) rfl (fun ls hl => ?_)
  have hP : va_P g.1 vwCl [(b, .inr (1, [.ref ca, .int kk, .int sg])), (ca, .inl (g.2.1, 49, .inl f)), (ml, .inr (3, [.ref mc, .int r_1])), (mc, .inl (g.2.1, 588, .inl mf))] H := hP.sub [0, 1, 3, 2] rfl
  have hD : va_D A [(b, .inr (1, [.ref ca, .int kk, .int sg])), (ca, .inl (g.2.1, 49, .inl f)), (ml, .inr (3, [.ref mc, .int r_1])), (mc, .inl (g.2.1, 588, .inl mf))] := hD.sub [0, 1, 3, 2] (by decide) rfl
  refine lp_i (r := r) (fun z : Int32 × (Nat → Int32) × Int32 => ∀ (H : Heap) (locs : List Loc) (ls : Array Slot), lv_has ls 4 [(0, .ref b), (1, .int a1), (2, .ref ml), (3, .int z.1)] → va_P g.1 vwCl [(b, .inr (1, [.ref ca, .int kk, .int sg])), (ca, .inl (g.2.1, 49, .inl f)), (ml, .inr (3, [.ref mc, .int z.2.2])), (mc, .inl (g.2.1, 588, .inl z.2.1))] H → va_D A [(b, .inr (1, [.ref ca, .int kk, .int sg])), (ca, .inl (g.2.1, 49, .inl f)), (ml, .inr (3, [.ref mc, .int z.2.2])), (mc, .inl (g.2.1, 588, .inl z.2.1))] → va_S A s.heap H locs → W p l e R s m args below meth c H locs 0 0 Q (F0 m 6 ls [])) ?_ 64 (0, mf, r_1) hyp _ _ ls (lv_sub hl [1, 2, 3, 0] rfl) hP hD hS
  intro self_5T ihself_5T z hyp H locs ls hl hP hD hS
  obtain ⟨v3_2, wmf_3, wcnt_4⟩ := z
  obtain ⟨self_5, eself_5⟩ : ∃ f9 : Int32 → (Nat → Int32) → Int32 → Option ((Nat → Int32) × Int32), f9 = fun v3_2 wmf_3 wcnt_4 => self_5T (v3_2, wmf_3, wcnt_4) := ⟨_, rfl⟩
  have ihself_5 := fun (v3_2 : Int32) (wmf_3 : Nat → Int32) (wcnt_4 : Int32) (h9 : self_5 v3_2 wmf_3 wcnt_4 = some r) => ihself_5T (v3_2, wmf_3, wcnt_4) (by rw [eself_5] at h9; exact h9)
  replace hyp : fX1_listMoves_L6_B f a1 self_5 v3_2 wmf_3 wcnt_4 = some r := by rw [eself_5]; exact hyp
  have hl : lv_has ls 4 [(0, .ref b), (1, .int a1), (2, .ref ml), (3, .int v3_2)] := hl
  have hP : va_P g.1 vwCl [(b, .inr (1, [.ref ca, .int kk, .int sg])), (ca, .inl (g.2.1, 49, .inl f)), (ml, .inr (3, [.ref mc, .int wcnt_4])), (mc, .inl (g.2.1, 588, .inl wmf_3))] H := hP
  have hD : va_D A [(b, .inr (1, [.ref ca, .int kk, .int sg])), (ca, .inl (g.2.1, 49, .inl f)), (ml, .inr (3, [.ref mc, .int wcnt_4])), (mc, .inl (g.2.1, 588, .inl wmf_3))] := hD
  show W p l e R s m args below meth c H locs 0 0 Q (F0 m 6 ls [])
  unfold fX1_listMoves_L6_B at hyp
  refine lv_iload_n hx hb dX1_listMoves_6 rfl (lv_at hl 3 rfl) ?_
  refine lv_bipush (v := 49) hx hb dX1_listMoves_7 (by decide) ?_
  refine lv_icmp_ge (tgt := 59) hx hb dX1_listMoves_9 (by decide) (fun h_6 => ?_) (fun h_6 => ?_)
  · replace hyp := ite_t h_6 hyp
    have hyp := some_e hyp
    subst hyp
    subst hQ
    exact rwV hx hb hr hlocks  hP hD hS dX1_listMoves_59
  · replace hyp := ite_f h_6 hyp
    refine lv_aload_n hx hb dX1_listMoves_12 rfl (lv_at hl 0 rfl) ?_
    refine gf_X1_9 hx hb hts hown hE hP 0 rfl rfl dX1_listMoves_13 ?_
    refine lv_iload_n hx hb dX1_listMoves_16 rfl (lv_at hl 3 rfl) ?_
    obtain ⟨hi, hyp⟩ := grd_e hyp
    refine va_iald hx hb hE.1 hP 1 0 rfl rfl (inB_vp hi) dX1_listMoves_17 ?_
    obtain ⟨r_7, hr_7, hyp⟩ := opt_e hyp
    refine pSN (As := [.int (f v3_2.toNatClampNeg)]) (rest := []) ⟨hx, hb, hml, hown, hts⟩ hE (mX8_sideOf l g (f v3_2.toNatClampNeg) r_7 hr_7) cf_X8_sideOf st_X8_sideOf ml_X1_42 ⟨Nat.le_trans (Nat.le_of_ble_eq_true rfl) hRf, Nat.le_trans (Nat.le_of_ble_eq_true rfl) hRl⟩ (va_P_nil) rfl hl.1 rfl (Nat.le_of_ble_eq_true rfl) dX1_listMoves_18 ⟨Nat.zero_le _, Nat.zero_le _⟩ ?_
    refine lv_iload_n hx hb dX1_listMoves_21 rfl (lv_at hl 1 rfl) ?_
    refine lv_icmp_ne (tgt := 53) hx hb dX1_listMoves_22 (by decide) (fun h_8 => ?_) (fun h_8 => ?_)
    · replace hyp := ite_f h_8 hyp
      refine lv_iinc (v := v3_2 + 1) (lv' := [(3, .int (v3_2 + 1)), (0, .ref b), (1, .int a1), (2, .ref ml)]) hx hb dX1_listMoves_53 hl (k := 3) rfl rfl (by decide) rfl (fun ls hl => ?_)
      refine lv_goto (tgt := 6) hx hb dX1_listMoves_56 (by decide) ?_
      exact ihself_5 (v3_2 + 1) wmf_3 wcnt_4 hyp H locs ls (lv_sub hl [1, 2, 3, 0] rfl) hP hD hS
    · replace hyp := ite_t h_8 hyp
      refine lv_aload_n hx hb dX1_listMoves_25 rfl (lv_at hl 0 rfl) ?_
      refine lv_iload_n hx hb dX1_listMoves_26 rfl (lv_at hl 3 rfl) ?_
      refine lv_iconst (v := 0) hx hb dX1_listMoves_27 (by decide) ?_
      refine lv_aload_n hx hb dX1_listMoves_28 rfl (lv_at hl 2 rfl) ?_
      obtain ⟨r_9, hr_9, hyp⟩ := opt_e hyp
      refine wV (As := [.int v3_2, .int 0, .ref ml]) (rest := []) ⟨hx, hb, hml, hown, hts⟩ hE (mX1_listBackward l g b ca ml mc kk sg f wcnt_4 wmf_3 v3_2 0 r_9 hr_9) cf_X1_listBackward im_X1_listBackward se_X1_listBackward ml_X1_81 ⟨Nat.le_trans (Nat.le_of_ble_eq_true rfl) hRf, Nat.le_trans (Nat.le_of_ble_eq_true rfl) hRl⟩ hP hD hS hA [0, 1, 2, 3] [] rfl (wr := []) rfl ⟨by decide, by decide⟩ (by decide) (ci := 1) (q0 := 0) rfl rfl rfl rfl hl.1 rfl (Nat.le_of_ble_eq_true rfl) dX1_listMoves_29 ⟨Nat.zero_le _, Nat.zero_le _⟩ (fun H locs hP hD hS => ?_)
      have hP : va_P g.1 vwCl [(b, .inr (1, [.ref ca, .int kk, .int sg])), (ca, .inl (g.2.1, 49, .inl f)), (ml, .inr (3, [.ref mc, .int r_9.2])), (mc, .inl (g.2.1, 588, .inl r_9.1))] H := hP
      have hD : va_D A [(b, .inr (1, [.ref ca, .int kk, .int sg])), (ca, .inl (g.2.1, 49, .inl f)), (ml, .inr (3, [.ref mc, .int r_9.2])), (mc, .inl (g.2.1, 588, .inl r_9.1))] := hD
      refine lv_aload_n hx hb dX1_listMoves_32 rfl (lv_at hl 0 rfl) ?_
      refine lv_iload_n hx hb dX1_listMoves_33 rfl (lv_at hl 3 rfl) ?_
      refine lv_iconst (v := 1) hx hb dX1_listMoves_34 (by decide) ?_
      refine lv_aload_n hx hb dX1_listMoves_35 rfl (lv_at hl 2 rfl) ?_
      obtain ⟨r_10, hr_10, hyp⟩ := opt_e hyp
      refine wV (As := [.int v3_2, .int 1, .ref ml]) (rest := []) ⟨hx, hb, hml, hown, hts⟩ hE (mX1_listBackward l g b ca ml mc kk sg f r_9.2 r_9.1 v3_2 1 r_10 hr_10) cf_X1_listBackward im_X1_listBackward se_X1_listBackward ml_X1_81 ⟨Nat.le_trans (Nat.le_of_ble_eq_true rfl) hRf, Nat.le_trans (Nat.le_of_ble_eq_true rfl) hRl⟩ hP hD hS hA [0, 1, 2, 3] [] rfl (wr := []) rfl ⟨by decide, by decide⟩ (by decide) (ci := 1) (q0 := 0) rfl rfl rfl rfl hl.1 rfl (Nat.le_of_ble_eq_true rfl) dX1_listMoves_36 ⟨Nat.zero_le _, Nat.zero_le _⟩ (fun H locs hP hD hS => ?_)
      have hP : va_P g.1 vwCl [(b, .inr (1, [.ref ca, .int kk, .int sg])), (ca, .inl (g.2.1, 49, .inl f)), (ml, .inr (3, [.ref mc, .int r_10.2])), (mc, .inl (g.2.1, 588, .inl r_10.1))] H := hP
      have hD : va_D A [(b, .inr (1, [.ref ca, .int kk, .int sg])), (ca, .inl (g.2.1, 49, .inl f)), (ml, .inr (3, [.ref mc, .int r_10.2])), (mc, .inl (g.2.1, 588, .inl r_10.1))] := hD
      refine lv_aload_n hx hb dX1_listMoves_39 rfl (lv_at hl 0 rfl) ?_
      refine lv_iload_n hx hb dX1_listMoves_40 rfl (lv_at hl 3 rfl) ?_
      refine lv_iconst (v := 2) hx hb dX1_listMoves_41 (by decide) ?_
      refine lv_aload_n hx hb dX1_listMoves_42 rfl (lv_at hl 2 rfl) ?_
      obtain ⟨r_11, hr_11, hyp⟩ := opt_e hyp
      refine wV (As := [.int v3_2, .int 2, .ref ml]) (rest := []) ⟨hx, hb, hml, hown, hts⟩ hE (mX1_listForward l g b ca ml mc kk sg f r_10.2 r_10.1 v3_2 2 r_11 hr_11) cf_X1_listForward im_X1_listForward se_X1_listForward ml_X1_85 ⟨Nat.le_trans (Nat.le_of_ble_eq_true rfl) hRf, Nat.le_trans (Nat.le_of_ble_eq_true rfl) hRl⟩ hP hD hS hA [0, 1, 2, 3] [] rfl (wr := []) rfl ⟨by decide, by decide⟩ (by decide) (ci := 1) (q0 := 0) rfl rfl rfl rfl hl.1 rfl (Nat.le_of_ble_eq_true rfl) dX1_listMoves_43 ⟨Nat.zero_le _, Nat.zero_le _⟩ (fun H locs hP hD hS => ?_)
      have hP : va_P g.1 vwCl [(b, .inr (1, [.ref ca, .int kk, .int sg])), (ca, .inl (g.2.1, 49, .inl f)), (ml, .inr (3, [.ref mc, .int r_11.2])), (mc, .inl (g.2.1, 588, .inl r_11.1))] H := hP
      have hD : va_D A [(b, .inr (1, [.ref ca, .int kk, .int sg])), (ca, .inl (g.2.1, 49, .inl f)), (ml, .inr (3, [.ref mc, .int r_11.2])), (mc, .inl (g.2.1, 588, .inl r_11.1))] := hD
      refine lv_aload_n hx hb dX1_listMoves_46 rfl (lv_at hl 0 rfl) ?_
      refine lv_iload_n hx hb dX1_listMoves_47 rfl (lv_at hl 3 rfl) ?_
      refine lv_iconst (v := 3) hx hb dX1_listMoves_48 (by decide) ?_
      refine lv_aload_n hx hb dX1_listMoves_49 rfl (lv_at hl 2 rfl) ?_
      obtain ⟨r_12, hr_12, hyp⟩ := opt_e hyp
      refine wV (As := [.int v3_2, .int 3, .ref ml]) (rest := []) ⟨hx, hb, hml, hown, hts⟩ hE (mX1_listForward l g b ca ml mc kk sg f r_11.2 r_11.1 v3_2 3 r_12 hr_12) cf_X1_listForward im_X1_listForward se_X1_listForward ml_X1_85 ⟨Nat.le_trans (Nat.le_of_ble_eq_true rfl) hRf, Nat.le_trans (Nat.le_of_ble_eq_true rfl) hRl⟩ hP hD hS hA [0, 1, 2, 3] [] rfl (wr := []) rfl ⟨by decide, by decide⟩ (by decide) (ci := 1) (q0 := 0) rfl rfl rfl rfl hl.1 rfl (Nat.le_of_ble_eq_true rfl) dX1_listMoves_50 ⟨Nat.zero_le _, Nat.zero_le _⟩ (fun H locs hP hD hS => ?_)
      have hP : va_P g.1 vwCl [(b, .inr (1, [.ref ca, .int kk, .int sg])), (ca, .inl (g.2.1, 49, .inl f)), (ml, .inr (3, [.ref mc, .int r_12.2])), (mc, .inl (g.2.1, 588, .inl r_12.1))] H := hP
      have hD : va_D A [(b, .inr (1, [.ref ca, .int kk, .int sg])), (ca, .inl (g.2.1, 49, .inl f)), (ml, .inr (3, [.ref mc, .int r_12.2])), (mc, .inl (g.2.1, 588, .inl r_12.1))] := hD
      refine lv_iinc (v := v3_2 + 1) (lv' := [(3, .int (v3_2 + 1)), (0, .ref b), (1, .int a1), (2, .ref ml)]) hx hb dX1_listMoves_53 hl (k := 3) rfl rfl (by decide) rfl (fun ls hl => ?_)
      refine lv_goto (tgt := 6) hx hb dX1_listMoves_56 (by decide) ?_
      exact ihself_5 (v3_2 + 1) r_12.1 r_12.2 hyp H locs ls (lv_sub hl [1, 2, 3, 0] rfl) hP hD hS

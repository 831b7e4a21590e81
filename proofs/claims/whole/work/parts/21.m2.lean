def fX9_thrown (refu : Int32) : Option Int32 :=
  some refu
set_option maxRecDepth 100000 in
set_option maxHeartbeats 4000000 in
theorem mX9_thrown (l : Launch) (g : GE) (o pn pt pr pw pb pk pi pf pl pe pm px : Nat) (refu : Int32) (nst : Int32) (nn : Int32) (len : Int32) (pos : Int32) (gd : Int32) (ps : Int32) (sm : Int32) (r : Int32) (hyp : fX9_thrown refu = some r) : PI l yX9_thrown cX9_thrown 1 (some .int) 0 0 g [(o, .inr (9, [.int refu, .ref pn, .ref pt, .ref pr, .ref pw, .ref pb, .int nst, .ref pk, .ref pi, .ref pf, .ref pl, .ref pe, .ref pm, .int nn, .ref px, .int len, .int pos, .int gd, .int ps, .int sm]))] [.ref o] r := by
  refine metP_intro (by decide) rfl ?_
  intro p e R s m args below meth c Q hRf hRl hQ hx hb hml hr hlocks hown hts hin hE hP ls hl
  have hown : s.vm.findClass "HallGuardsModel" = some m.cls := hown
  have hl : lv_has ls 1 [(0, .ref o)] := hl
  unfold fX9_thrown at hyp
  refine lv_aload_n hx hb dX9_thrown_0 rfl (lv_at hl 0 rfl) ?_
  refine gf_X9_52 hx hb hts hown hE hP 0 rfl rfl dX9_thrown_1 ?_
  subst hQ
  exact rI hx hb hr hlocks (some_e hyp) dX9_thrown_4

def fX9_refused (a1 : Int32) : Option (Int32 × Int32) :=
  if a1 = 0 then (some (0, a1)) else (some (1, a1))
set_option maxRecDepth 100000 in
set_option maxHeartbeats 4000000 in
theorem mX9_refused (l : Launch) (g : GE) (o pn pt pr pw pb pk pi pf pl pe pm px : Nat) (refu : Int32) (nst : Int32) (nn : Int32) (len : Int32) (pos : Int32) (gd : Int32) (ps : Int32) (sm : Int32) (a1 : Int32) (r : Int32 × Int32) (hyp : fX9_refused a1 = some r) : WM l yX9_refused cX9_refused 2 (some .boolean) 0 0 g [(o, .inr (9, [.int refu, .ref pn, .ref pt, .ref pr, .ref pw, .ref pb, .int nst, .ref pk, .ref pi, .ref pf, .ref pl, .ref pe, .ref pm, .int nn, .ref px, .int len, .int pos, .int gd, .int ps, .int sm]))] [.ref o, .int a1] (some (.int r.1)) [(o, .inr (9, [.int r.2, .ref pn, .ref pt, .ref pr, .ref pw, .ref pb, .int nst, .ref pk, .ref pi, .ref pf, .ref pl, .ref pe, .ref pm, .int nn, .ref px, .int len, .int pos, .int gd, .int ps, .int sm]))] := by
  refine metW_intro (by decide) rfl ?_
  intro p e R s m args below meth c Q A hRf hRl hQ hx hb hml hr hlocks hown hts hin hE hA H locs hP hD hS ls hl
  have hown : s.vm.findClass "HallGuardsModel" = some m.cls := hown
  have hl : lv_has ls 2 [(0, .ref o), (1, .int a1)] := hl
  unfold fX9_refused at hyp
  refine lv_aload_n hx hb dX9_refused_0 rfl (lv_at hl 0 rfl) ?_
  refine lv_iload_n hx hb dX9_refused_1 rfl (lv_at hl 1 rfl) ?_
  refine pf_X9_52 hx hb hts hown hE hP hD hS 0 rfl rfl dX9_refused_2 (fun H locs hP hD hS => ?_)
  have hP : va_P g.1 vwCl [(o, .inr (9, [.int a1, .ref pn, .ref pt, .ref pr, .ref pw, .ref pb, .int nst, .ref pk, .ref pi, .ref pf, .ref pl, .ref pe, .ref pm, .int nn, .ref px, .int len, .int pos, .int gd, .int ps, .int sm]))] H := hP
  have hD : va_D A [(o, .inr (9, [.int a1, .ref pn, .ref pt, .ref pr, .ref pw, .ref pb, .int nst, .ref pk, .ref pi, .ref pf, .ref pl, .ref pe, .ref pm, .int nn, .ref px, .int len, .int pos, .int gd, .int ps, .int sm]))] := hD
  refine lv_iload_n hx hb dX9_refused_5 rfl (lv_at hl 1 rfl) ?_
  refine lv_if_eq (tgt := 13) hx hb dX9_refused_6 (by decide) (fun h_1 => ?_) (fun h_1 => ?_)
  · replace hyp := ite_t h_1 hyp
    refine lv_iconst (v := 0) hx hb dX9_refused_13 (by decide) ?_
    have hyp := some_e hyp
    subst hyp
    subst hQ
    exact rwZ hx hb hr hlocks (Or.inl rfl)  hP hD hS dX9_refused_14
  · replace hyp := ite_f h_1 hyp
    refine lv_iconst (v := 1) hx hb dX9_refused_9 (by decide) ?_
    refine lv_goto (tgt := 14) hx hb dX9_refused_10 (by decide) ?_
    have hyp := some_e hyp
    subst hyp
    subst hQ
    exact rwZ hx hb hr hlocks (Or.inr rfl)  hP hD hS dX9_refused_14

def fX9_mark_L2_B (fbef : Nat → Int32) (self_3 : Int32 → (Nat → Int32) → Option ((Nat → Int32))) (v2_1 : Int32) (wfmov_2 : Nat → Int32) : Option ((Nat → Int32)) :=
  if v2_1 = (-1) then (some (wfmov_2)) else (grd (inB v2_1 4096) (if (wfmov_2 v2_1.toNatClampNeg) = (-1) then (grd (inB v2_1 4096) (grd (inB v2_1 4096) (bnd (fbef v2_1.toNatClampNeg) (fun (v2_6 : Int32) => self_3 v2_6 (upd wfmov_2 v2_1.toNatClampNeg 0))))) else (some (wfmov_2))))
def fX9_mark_L2 (fbef : Nat → Int32) (n : Nat) (v2_1 : Int32) (wfmov_2 : Nat → Int32) : Option ((Nat → Int32)) := lp (fun zf z => fX9_mark_L2_B fbef (fun v2_1 wfmov_2 => zf (v2_1, wfmov_2)) z.1 z.2) n (v2_1, wfmov_2)
def fX9_mark (fbef : Nat → Int32) (fmov : Nat → Int32) (a1 : Int32) : Option ((Nat → Int32)) :=
  fX9_mark_L2 fbef 4100 a1 fmov
set_option maxRecDepth 100000 in
set_option maxHeartbeats 4000000 in
theorem mX9_mark (l : Launch) (g : GE) (o pe pm pn pt pr pw pb pk pi pf pl px : Nat) (refu : Int32) (nst : Int32) (nn : Int32) (len : Int32) (pos : Int32) (gd : Int32) (ps : Int32) (sm : Int32) (fbef : Nat → Int32) (fmov : Nat → Int32) (a1 : Int32) (r : (Nat → Int32)) (hyp : fX9_mark fbef fmov a1 = some r) : WM l yX9_mark cX9_mark 3 none 0 0 g [(o, .inr (9, [.int refu, .ref pn, .ref pt, .ref pr, .ref pw, .ref pb, .int nst, .ref pk, .ref pi, .ref pf, .ref pl, .ref pe, .ref pm, .int nn, .ref px, .int len, .int pos, .int gd, .int ps, .int sm])), (pe, .inl (g.2.1, 4096, .inl fbef)), (pm, .inl (g.2.1, 4096, .inl fmov))] [.ref o, .int a1] none [(o, .inr (9, [.int refu, .ref pn, .ref pt, .ref pr, .ref pw, .ref pb, .int nst, .ref pk, .ref pi, .ref pf, .ref pl, .ref pe, .ref pm, .int nn, .ref px, .int len, .int pos, .int gd, .int ps, .int sm])), (pe, .inl (g.2.1, 4096, .inl fbef)), (pm, .inl (g.2.1, 4096, .inl r))] := by
  refine metW_intro (by decide) rfl ?_
  intro p e R s m args below meth c Q A hRf hRl hQ hx hb hml hr hlocks hown hts hin hE hA H locs hP hD hS ls hl
  have hown : s.vm.findClass "HallGuardsModel" = some m.cls := hown
  have hl : lv_has ls 3 [(0, .ref o), (1, .int a1)] := hl
  unfold fX9_mark at hyp
  refine lv_iload_n hx hb dX9_mark_0 rfl (lv_at hl 1 rfl) ?_
  refine lv_istore_n (lv' := [(2, .int a1), (0, .ref o), (1, .int a1)]) hx hb dX9_mark_1 rfl hl (by decide) rfl (fun ls hl => ?_)
  refine lp_i (r := r) (fun z : Int32 × (Nat → Int32) => ∀ (H : Heap) (locs : List Loc) (ls : Array Slot), lv_has ls 3 [(0, .ref o), (2, .int z.1)] → va_P g.1 vwCl [(o, .inr (9, [.int refu, .ref pn, .ref pt, .ref pr, .ref pw, .ref pb, .int nst, .ref pk, .ref pi, .ref pf, .ref pl, .ref pe, .ref pm, .int nn, .ref px, .int len, .int pos, .int gd, .int ps, .int sm])), (pe, .inl (g.2.1, 4096, .inl fbef)), (pm, .inl (g.2.1, 4096, .inl z.2))] H → va_D A [(o, .inr (9, [.int refu, .ref pn, .ref pt, .ref pr, .ref pw, .ref pb, .int nst, .ref pk, .ref pi, .ref pf, .ref pl, .ref pe, .ref pm, .int nn, .ref px, .int len, .int pos, .int gd, .int ps, .int sm])), (pe, .inl (g.2.1, 4096, .inl fbef)), (pm, .inl (g.2.1, 4096, .inl z.2))] → va_S A s.heap H locs → W p l e R s m args below meth c H locs 0 0 Q (F0 m 2 ls [])) ?_ 4100 (a1, fmov) hyp _ _ ls (lv_sub hl [1, 0] rfl) hP hD hS
  intro self_3T ihself_3T z hyp H locs ls hl hP hD hS
  obtain ⟨v2_1, wfmov_2⟩ := z
  obtain ⟨self_3, eself_3⟩ : ∃ f9 : Int32 → (Nat → Int32) → Option ((Nat → Int32)), f9 = fun v2_1 wfmov_2 => self_3T (v2_1, wfmov_2) := ⟨_, rfl⟩
  have ihself_3 := fun (v2_1 : Int32) (wfmov_2 : Nat → Int32) (h9 : self_3 v2_1 wfmov_2 = some r) => ihself_3T (v2_1, wfmov_2) (by rw [eself_3] at h9; exact h9)
  replace hyp : fX9_mark_L2_B fbef self_3 v2_1 wfmov_2 = some r := by rw [eself_3]; exact hyp
  have hl : lv_has ls 3 [(0, .ref o), (2, .int v2_1)] := hl
  have hP : va_P g.1 vwCl [(o, .inr (9, [.int refu, .ref pn, .ref pt, .ref pr, .ref pw, .ref pb, .int nst, .ref pk, .ref pi, .ref pf, .ref pl, .ref pe, .ref pm, .int nn, .ref px, .int len, .int pos, .int gd, .int ps, .int sm])), (pe, .inl (g.2.1, 4096, .inl fbef)), (pm, .inl (g.2.1, 4096, .inl wfmov_2))] H := hP
  have hD : va_D A [(o, .inr (9, [.int refu, .ref pn, .ref pt, .ref pr, .ref pw, .ref pb, .int nst, .ref pk, .ref pi, .ref pf, .ref pl, .ref pe, .ref pm, .int nn, .ref px, .int len, .int pos, .int gd, .int ps, .int sm])), (pe, .inl (g.2.1, 4096, .inl fbef)), (pm, .inl (g.2.1, 4096, .inl wfmov_2))] := hD
  show W p l e R s m args below meth c H locs 0 0 Q (F0 m 2 ls [])
  unfold fX9_mark_L2_B at hyp
  refine lv_iload_n hx hb dX9_mark_2 rfl (lv_at hl 1 rfl) ?_
  refine lv_iconst (v := (-1)) hx hb dX9_mark_3 (by decide) ?_
  refine lv_icmp_eq (tgt := 34) hx hb dX9_mark_4 (by decide) (fun h_4 => ?_) (fun h_4 => ?_)
  · replace hyp := ite_t h_4 hyp
    have hyp := some_e hyp
    subst hyp
    subst hQ
    exact rwV hx hb hr hlocks  hP hD hS dX9_mark_34
  · replace hyp := ite_f h_4 hyp
    refine lv_aload_n hx hb dX9_mark_7 rfl (lv_at hl 0 rfl) ?_
    refine gf_X9_42 hx hb hts hown hE hP 0 rfl rfl dX9_mark_8 ?_
    refine lv_iload_n hx hb dX9_mark_11 rfl (lv_at hl 1 rfl) ?_
    obtain ⟨hi, hyp⟩ := grd_e hyp
    refine va_iald hx hb hE.1 hP 2 0 rfl rfl (inB_vp hi) dX9_mark_12 ?_
    refine lv_iconst (v := (-1)) hx hb dX9_mark_13 (by decide) ?_
    refine lv_icmp_ne (tgt := 34) hx hb dX9_mark_14 (by decide) (fun h_5 => ?_) (fun h_5 => ?_)
    · replace hyp := ite_f h_5 hyp
      have hyp := some_e hyp
      subst hyp
      subst hQ
      exact rwV hx hb hr hlocks  hP hD hS dX9_mark_34
    · replace hyp := ite_t h_5 hyp
      refine lv_aload_n hx hb dX9_mark_17 rfl (lv_at hl 0 rfl) ?_
      refine gf_X9_42 hx hb hts hown hE hP 0 rfl rfl dX9_mark_18 ?_
      refine lv_iload_n hx hb dX9_mark_21 rfl (lv_at hl 1 rfl) ?_
      refine lv_iconst (v := 0) hx hb dX9_mark_22 (by decide) ?_
      obtain ⟨hi, hyp⟩ := grd_e hyp
      refine va_iast hx hb hE.1 hP hD hS 2 0 rfl rfl (inB_vp hi) dX9_mark_23 (fun H locs hP hD hS => ?_)
      have hP : va_P g.1 vwCl [(o, .inr (9, [.int refu, .ref pn, .ref pt, .ref pr, .ref pw, .ref pb, .int nst, .ref pk, .ref pi, .ref pf, .ref pl, .ref pe, .ref pm, .int nn, .ref px, .int len, .int pos, .int gd, .int ps, .int sm])), (pe, .inl (g.2.1, 4096, .inl fbef)), (pm, .inl (g.2.1, 4096, .inl (upd wfmov_2 v2_1.toNatClampNeg 0)))] H := hP
      have hD : va_D A [(o, .inr (9, [.int refu, .ref pn, .ref pt, .ref pr, .ref pw, .ref pb, .int nst, .ref pk, .ref pi, .ref pf, .ref pl, .ref pe, .ref pm, .int nn, .ref px, .int len, .int pos, .int gd, .int ps, .int sm])), (pe, .inl (g.2.1, 4096, .inl fbef)), (pm, .inl (g.2.1, 4096, .inl (upd wfmov_2 v2_1.toNatClampNeg 0)))] := hD
      refine lv_aload_n hx hb dX9_mark_24 rfl (lv_at hl 0 rfl) ?_
      refine gf_X9_39 hx hb hts hown hE hP 0 rfl rfl dX9_mark_25 ?_
      refine lv_iload_n hx hb dX9_mark_28 rfl (lv_at hl 1 rfl) ?_
      obtain ⟨hi, hyp⟩ := grd_e hyp
      refine va_iald hx hb hE.1 hP 1 0 rfl rfl (inB_vp hi) dX9_mark_29 ?_
      obtain ⟨v2_6, ev2_6, hyp⟩ := bnd_e hyp
      refine lv_eqi ev2_6 ?_
      refine lv_istore_n (lv' := [(2, .int v2_6), (0, .ref o)]) hx hb dX9_mark_30 rfl hl (by decide) rfl (fun ls hl => ?_)
      refine lv_goto (tgt := 2) hx hb dX9_mark_31 (by decide) ?_
      exact ihself_3 v2_6 (upd wfmov_2 v2_1.toNatClampNeg 0) hyp H locs ls (lv_sub hl [1, 0] rfl) hP hD hS

def fX9_tidyN_L340_B (fisk : Nat → Int32) (self_72 : Int32 → (Nat → Int32) → (Nat → Int32) → (Nat → Int32) → (Nat → Int64) → (Nat → Int64) → (Nat → Int32) → (Nat → Int32) → Int32 → Option ((Nat → Int32) × (Nat → Int32) × (Nat → Int32) × (Nat → Int64) × (Nat → Int64) × (Nat → Int32) × (Nat → Int32) × Int32)) (v4_63 : Int32) (wfnow_64 : Nat → Int32) (wfbook_65 : Nat → Int32) (wfkept_66 : Nat → Int32) (wffst_67 : Nat → Int64) (wflst_68 : Nat → Int64) (wfbef_69 : Nat → Int32) (wfmov_70 : Nat → Int32) (wnn_71 : Int32) : Option ((Nat → Int32) × (Nat → Int32) × (Nat → Int32) × (Nat → Int64) × (Nat → Int64) × (Nat → Int32) × (Nat → Int32) × Int32) :=
  if 2 ≤ v4_63 then (some (wfnow_64, wfbook_65, wfkept_66, wffst_67, wflst_68, wfbef_69, wfmov_70, wnn_71)) else (grd (inB ((61 * v4_63) + 60) 122) (bnd (wfkept_66 ((61 * v4_63) + 60).toNatClampNeg) (fun (v5_74 : Int32) => grd (inB v4_63 2) (jn (fun (t_75 : Int32) => grd (inB ((61 * v4_63) + 60) 122) (self_72 (v4_63 + 1) wfnow_64 wfbook_65 (upd wfkept_66 ((61 * v4_63) + 60).toNatClampNeg t_75) wffst_67 wflst_68 wfbef_69 wfmov_70 wnn_71)) (fun J_76 => jn (J_76 (-1)) (fun J_77 => if (fisk v4_63.toNatClampNeg) = 0 then (J_77) else (if v5_74 = (-1) then (J_77) else (grd (inB v5_74 4096) (J_76 (wfmov_70 v5_74.toNatClampNeg))))))))))
def fX9_tidyN_L340 (fisk : Nat → Int32) (n : Nat) (v4_63 : Int32) (wfnow_64 : Nat → Int32) (wfbook_65 : Nat → Int32) (wfkept_66 : Nat → Int32) (wffst_67 : Nat → Int64) (wflst_68 : Nat → Int64) (wfbef_69 : Nat → Int32) (wfmov_70 : Nat → Int32) (wnn_71 : Int32) : Option ((Nat → Int32) × (Nat → Int32) × (Nat → Int32) × (Nat → Int64) × (Nat → Int64) × (Nat → Int32) × (Nat → Int32) × Int32) := lp (fun zf z => fX9_tidyN_L340_B fisk (fun v4_63 wfnow_64 wfbook_65 wfkept_66 wffst_67 wflst_68 wfbef_69 wfmov_70 wnn_71 => zf (v4_63, wfnow_64, wfbook_65, wfkept_66, wffst_67, wflst_68, wfbef_69, wfmov_70, wnn_71)) z.1 z.2.1 z.2.2.1 z.2.2.2.1 z.2.2.2.2.1 z.2.2.2.2.2.1 z.2.2.2.2.2.2.1 z.2.2.2.2.2.2.2.1 z.2.2.2.2.2.2.2.2) n (v4_63, wfnow_64, wfbook_65, wfkept_66, wffst_67, wflst_68, wfbef_69, wfmov_70, wnn_71)
def fX9_tidyN_L277_B (nst : Int32) (fisk : Nat → Int32) (self_61 : Int32 → (Nat → Int32) → (Nat → Int32) → (Nat → Int32) → (Nat → Int64) → (Nat → Int64) → (Nat → Int32) → (Nat → Int32) → Int32 → Option ((Nat → Int32) × (Nat → Int32) × (Nat → Int32) × (Nat → Int64) × (Nat → Int64) × (Nat → Int32) × (Nat → Int32) × Int32)) (v4_52 : Int32) (wfnow_53 : Nat → Int32) (wfbook_54 : Nat → Int32) (wfkept_55 : Nat → Int32) (wffst_56 : Nat → Int64) (wflst_57 : Nat → Int64) (wfbef_58 : Nat → Int32) (wfmov_59 : Nat → Int32) (wnn_60 : Int32) : Option ((Nat → Int32) × (Nat → Int32) × (Nat → Int32) × (Nat → Int64) × (Nat → Int64) × (Nat → Int32) × (Nat → Int32) × Int32) :=
  if nst ≤ v4_52 then (fX9_tidyN_L340 fisk 4100 0 wfnow_53 wfbook_54 wfkept_55 wffst_56 wflst_57 wfbef_58 wfmov_59 wnn_60) else (grd (inB ((61 * v4_52) + 60) 366) (bnd (wfbook_54 ((61 * v4_52) + 60).toNatClampNeg) (fun (v5_80 : Int32) => jn (fun (t_81 : Int32) => grd (inB ((61 * v4_52) + 60) 366) (self_61 (v4_52 + 1) wfnow_53 (upd wfbook_54 ((61 * v4_52) + 60).toNatClampNeg t_81) wfkept_55 wffst_56 wflst_57 wfbef_58 wfmov_59 wnn_60)) (fun J_82 => if v5_80 = (-1) then (J_82 (-1)) else (grd (inB v5_80 4096) (J_82 (wfmov_59 v5_80.toNatClampNeg)))))))
def fX9_tidyN_L277 (nst : Int32) (fisk : Nat → Int32) (n : Nat) (v4_52 : Int32) (wfnow_53 : Nat → Int32) (wfbook_54 : Nat → Int32) (wfkept_55 : Nat → Int32) (wffst_56 : Nat → Int64) (wflst_57 : Nat → Int64) (wfbef_58 : Nat → Int32) (wfmov_59 : Nat → Int32) (wnn_60 : Int32) : Option ((Nat → Int32) × (Nat → Int32) × (Nat → Int32) × (Nat → Int64) × (Nat → Int64) × (Nat → Int32) × (Nat → Int32) × Int32) := lp (fun zf z => fX9_tidyN_L277_B nst fisk (fun v4_52 wfnow_53 wfbook_54 wfkept_55 wffst_56 wflst_57 wfbef_58 wfmov_59 wnn_60 => zf (v4_52, wfnow_53, wfbook_54, wfkept_55, wffst_56, wflst_57, wfbef_58, wfmov_59, wnn_60)) z.1 z.2.1 z.2.2.1 z.2.2.2.1 z.2.2.2.2.1 z.2.2.2.2.2.1 z.2.2.2.2.2.2.1 z.2.2.2.2.2.2.2.1 z.2.2.2.2.2.2.2.2) n (v4_52, wfnow_53, wfbook_54, wfkept_55, wffst_56, wflst_57, wfbef_58, wfmov_59, wnn_60)
def fX9_tidyN_L120_B (nst : Int32) (fisk : Nat → Int32) (self_46 : Int32 → Int32 → (Nat → Int32) → (Nat → Int32) → (Nat → Int32) → (Nat → Int64) → (Nat → Int64) → (Nat → Int32) → (Nat → Int32) → Int32 → Option ((Nat → Int32) × (Nat → Int32) × (Nat → Int32) × (Nat → Int64) × (Nat → Int64) × (Nat → Int32) × (Nat → Int32) × Int32)) (v2_36 : Int32) (v3_37 : Int32) (wfnow_38 : Nat → Int32) (wfbook_39 : Nat → Int32) (wfkept_40 : Nat → Int32) (wffst_41 : Nat → Int64) (wflst_42 : Nat → Int64) (wfbef_43 : Nat → Int32) (wfmov_44 : Nat → Int32) (wnn_45 : Int32) : Option ((Nat → Int32) × (Nat → Int32) × (Nat → Int32) × (Nat → Int64) × (Nat → Int64) × (Nat → Int32) × (Nat → Int32) × Int32) :=
  if wnn_45 ≤ v3_37 then (grd (inB 60 61) (jn (fun (t_48 : Int32) => grd (inB 60 61) (jn (fun (t_50 : Int32) => grd (inB 60 61) (grd (inB 60 61) (fX9_tidyN_L277 nst fisk 4100 0 (upd (upd wfnow_38 (60 : Int32).toNatClampNeg t_50) (60 : Int32).toNatClampNeg t_48) wfbook_39 wfkept_40 wffst_41 wflst_42 wfbef_43 wfmov_44 v2_36))) (fun J_51 => if (wfnow_38 (60 : Int32).toNatClampNeg) = (-1) then (J_51 (-1)) else (grd (inB 60 61) (grd (inB (wfnow_38 (60 : Int32).toNatClampNeg) 4096) (J_51 (wfmov_44 (wfnow_38 (60 : Int32).toNatClampNeg).toNatClampNeg))))))) (fun J_49 => if (wfnow_38 (60 : Int32).toNatClampNeg) = (-1) then (J_49 (-1)) else (grd (inB 60 61) (grd (inB (wfnow_38 (60 : Int32).toNatClampNeg) 4096) (J_49 (wfmov_44 (wfnow_38 (60 : Int32).toNatClampNeg).toNatClampNeg))))))) else (grd (inB v3_37 4096) (if (wfmov_44 v3_37.toNatClampNeg) = 0 then (grd (inB v3_37 4096) (grd (inB v3_37 4096) (grd (inB v2_36 4096) (grd (inB v3_37 4096) (grd (inB v2_36 4096) (grd (inB v3_37 4096) (jn (fun (t_87 : Int32) => grd (inB v2_36 4096) (self_46 (v2_36 + 1) (v3_37 + 1) wfnow_38 wfbook_39 wfkept_40 (vp_updL wffst_41 v2_36.toNatClampNeg (wffst_41 v3_37.toNatClampNeg)) (vp_updL wflst_42 v2_36.toNatClampNeg (wflst_42 v3_37.toNatClampNeg)) (upd wfbef_43 v2_36.toNatClampNeg t_87) (upd wfmov_44 v3_37.toNatClampNeg v2_36) wnn_45)) (fun J_88 => if (wfbef_43 v3_37.toNatClampNeg) = (-1) then (J_88 (-1)) else (grd (inB v3_37 4096) (grd (inB (wfbef_43 v3_37.toNatClampNeg) 4096) (J_88 ((upd wfmov_44 v3_37.toNatClampNeg v2_36) (wfbef_43 v3_37.toNatClampNeg).toNatClampNeg)))))))))))) else (self_46 v2_36 (v3_37 + 1) wfnow_38 wfbook_39 wfkept_40 wffst_41 wflst_42 wfbef_43 wfmov_44 wnn_45)))
def fX9_tidyN_L120 (nst : Int32) (fisk : Nat → Int32) (n : Nat) (v2_36 : Int32) (v3_37 : Int32) (wfnow_38 : Nat → Int32) (wfbook_39 : Nat → Int32) (wfkept_40 : Nat → Int32) (wffst_41 : Nat → Int64) (wflst_42 : Nat → Int64) (wfbef_43 : Nat → Int32) (wfmov_44 : Nat → Int32) (wnn_45 : Int32) : Option ((Nat → Int32) × (Nat → Int32) × (Nat → Int32) × (Nat → Int64) × (Nat → Int64) × (Nat → Int32) × (Nat → Int32) × Int32) := lp (fun zf z => fX9_tidyN_L120_B nst fisk (fun v2_36 v3_37 wfnow_38 wfbook_39 wfkept_40 wffst_41 wflst_42 wfbef_43 wfmov_44 wnn_45 => zf (v2_36, v3_37, wfnow_38, wfbook_39, wfkept_40, wffst_41, wflst_42, wfbef_43, wfmov_44, wnn_45)) z.1 z.2.1 z.2.2.1 z.2.2.2.1 z.2.2.2.2.1 z.2.2.2.2.2.1 z.2.2.2.2.2.2.1 z.2.2.2.2.2.2.2.1 z.2.2.2.2.2.2.2.2.1 z.2.2.2.2.2.2.2.2.2) n (v2_36, v3_37, wfnow_38, wfbook_39, wfkept_40, wffst_41, wflst_42, wfbef_43, wfmov_44, wnn_45)
def fX9_tidyN_L76_B (nst : Int32) (fisk : Nat → Int32) (self_34 : Int32 → (Nat → Int32) → (Nat → Int32) → (Nat → Int32) → (Nat → Int64) → (Nat → Int64) → (Nat → Int32) → (Nat → Int32) → Int32 → Option ((Nat → Int32) × (Nat → Int32) × (Nat → Int32) × (Nat → Int64) × (Nat → Int64) × (Nat → Int32) × (Nat → Int32) × Int32)) (v2_25 : Int32) (wfnow_26 : Nat → Int32) (wfbook_27 : Nat → Int32) (wfkept_28 : Nat → Int32) (wffst_29 : Nat → Int64) (wflst_30 : Nat → Int64) (wfbef_31 : Nat → Int32) (wfmov_32 : Nat → Int32) (wnn_33 : Int32) : Option ((Nat → Int32) × (Nat → Int32) × (Nat → Int32) × (Nat → Int64) × (Nat → Int64) × (Nat → Int32) × (Nat → Int32) × Int32) :=
  if 2 ≤ v2_25 then (fX9_tidyN_L120 nst fisk 4100 0 0 wfnow_26 wfbook_27 wfkept_28 wffst_29 wflst_30 wfbef_31 wfmov_32 wnn_33) else (grd (inB v2_25 2) (jn (fun (t_90 : Int32) => (fX9_mark wfbef_31 wfmov_32 t_90).bind (fun (r_92 : (Nat → Int32)) => self_34 (v2_25 + 1) wfnow_26 wfbook_27 wfkept_28 wffst_29 wflst_30 wfbef_31 r_92 wnn_33)) (fun J_91 => if (fisk v2_25.toNatClampNeg) = 0 then (J_91 (-1)) else (grd (inB ((61 * v2_25) + 60) 122) (J_91 (wfkept_28 ((61 * v2_25) + 60).toNatClampNeg))))))
def fX9_tidyN_L76 (nst : Int32) (fisk : Nat → Int32) (n : Nat) (v2_25 : Int32) (wfnow_26 : Nat → Int32) (wfbook_27 : Nat → Int32) (wfkept_28 : Nat → Int32) (wffst_29 : Nat → Int64) (wflst_30 : Nat → Int64) (wfbef_31 : Nat → Int32) (wfmov_32 : Nat → Int32) (wnn_33 : Int32) : Option ((Nat → Int32) × (Nat → Int32) × (Nat → Int32) × (Nat → Int64) × (Nat → Int64) × (Nat → Int32) × (Nat → Int32) × Int32) := lp (fun zf z => fX9_tidyN_L76_B nst fisk (fun v2_25 wfnow_26 wfbook_27 wfkept_28 wffst_29 wflst_30 wfbef_31 wfmov_32 wnn_33 => zf (v2_25, wfnow_26, wfbook_27, wfkept_28, wffst_29, wflst_30, wfbef_31, wfmov_32, wnn_33)) z.1 z.2.1 z.2.2.1 z.2.2.2.1 z.2.2.2.2.1 z.2.2.2.2.2.1 z.2.2.2.2.2.2.1 z.2.2.2.2.2.2.2.1 z.2.2.2.2.2.2.2.2) n (v2_25, wfnow_26, wfbook_27, wfkept_28, wffst_29, wflst_30, wfbef_31, wfmov_32, wnn_33)
def fX9_tidyN_L44_B (nst : Int32) (fisk : Nat → Int32) (self_23 : Int32 → (Nat → Int32) → (Nat → Int32) → (Nat → Int32) → (Nat → Int64) → (Nat → Int64) → (Nat → Int32) → (Nat → Int32) → Int32 → Option ((Nat → Int32) × (Nat → Int32) × (Nat → Int32) × (Nat → Int64) × (Nat → Int64) × (Nat → Int32) × (Nat → Int32) × Int32)) (v2_14 : Int32) (wfnow_15 : Nat → Int32) (wfbook_16 : Nat → Int32) (wfkept_17 : Nat → Int32) (wffst_18 : Nat → Int64) (wflst_19 : Nat → Int64) (wfbef_20 : Nat → Int32) (wfmov_21 : Nat → Int32) (wnn_22 : Int32) : Option ((Nat → Int32) × (Nat → Int32) × (Nat → Int32) × (Nat → Int64) × (Nat → Int64) × (Nat → Int32) × (Nat → Int32) × Int32) :=
  if nst ≤ v2_14 then (fX9_tidyN_L76 nst fisk 4100 0 wfnow_15 wfbook_16 wfkept_17 wffst_18 wflst_19 wfbef_20 wfmov_21 wnn_22) else (grd (inB ((61 * v2_14) + 60) 366) ((fX9_mark wfbef_20 wfmov_21 (wfbook_16 ((61 * v2_14) + 60).toNatClampNeg)).bind (fun (r_94 : (Nat → Int32)) => self_23 (v2_14 + 1) wfnow_15 wfbook_16 wfkept_17 wffst_18 wflst_19 wfbef_20 r_94 wnn_22)))
def fX9_tidyN_L44 (nst : Int32) (fisk : Nat → Int32) (n : Nat) (v2_14 : Int32) (wfnow_15 : Nat → Int32) (wfbook_16 : Nat → Int32) (wfkept_17 : Nat → Int32) (wffst_18 : Nat → Int64) (wflst_19 : Nat → Int64) (wfbef_20 : Nat → Int32) (wfmov_21 : Nat → Int32) (wnn_22 : Int32) : Option ((Nat → Int32) × (Nat → Int32) × (Nat → Int32) × (Nat → Int64) × (Nat → Int64) × (Nat → Int32) × (Nat → Int32) × Int32) := lp (fun zf z => fX9_tidyN_L44_B nst fisk (fun v2_14 wfnow_15 wfbook_16 wfkept_17 wffst_18 wflst_19 wfbef_20 wfmov_21 wnn_22 => zf (v2_14, wfnow_15, wfbook_16, wfkept_17, wffst_18, wflst_19, wfbef_20, wfmov_21, wnn_22)) z.1 z.2.1 z.2.2.1 z.2.2.2.1 z.2.2.2.2.1 z.2.2.2.2.2.1 z.2.2.2.2.2.2.1 z.2.2.2.2.2.2.2.1 z.2.2.2.2.2.2.2.2) n (v2_14, wfnow_15, wfbook_16, wfkept_17, wffst_18, wflst_19, wfbef_20, wfmov_21, wnn_22)
def fX9_tidyN_L2_B (nst : Int32) (fisk : Nat → Int32) (self_10 : Int32 → (Nat → Int32) → (Nat → Int32) → (Nat → Int32) → (Nat → Int64) → (Nat → Int64) → (Nat → Int32) → (Nat → Int32) → Int32 → Option ((Nat → Int32) × (Nat → Int32) × (Nat → Int32) × (Nat → Int64) × (Nat → Int64) × (Nat → Int32) × (Nat → Int32) × Int32)) (v2_1 : Int32) (wfnow_2 : Nat → Int32) (wfbook_3 : Nat → Int32) (wfkept_4 : Nat → Int32) (wffst_5 : Nat → Int64) (wflst_6 : Nat → Int64) (wfbef_7 : Nat → Int32) (wfmov_8 : Nat → Int32) (wnn_9 : Int32) : Option ((Nat → Int32) × (Nat → Int32) × (Nat → Int32) × (Nat → Int64) × (Nat → Int64) × (Nat → Int32) × (Nat → Int32) × Int32) :=
  if wnn_9 ≤ v2_1 then (grd (inB 60 61) ((fX9_mark wfbef_7 wfmov_8 (wfnow_2 (60 : Int32).toNatClampNeg)).bind (fun (r_12 : (Nat → Int32)) => grd (inB 60 61) ((fX9_mark wfbef_7 r_12 (wfnow_2 (60 : Int32).toNatClampNeg)).bind (fun (r_13 : (Nat → Int32)) => fX9_tidyN_L44 nst fisk 4100 0 wfnow_2 wfbook_3 wfkept_4 wffst_5 wflst_6 wfbef_7 r_13 wnn_9))))) else (grd (inB v2_1 4096) (self_10 (v2_1 + 1) wfnow_2 wfbook_3 wfkept_4 wffst_5 wflst_6 wfbef_7 (upd wfmov_8 v2_1.toNatClampNeg (-1)) wnn_9))
def fX9_tidyN_L2 (nst : Int32) (fisk : Nat → Int32) (n : Nat) (v2_1 : Int32) (wfnow_2 : Nat → Int32) (wfbook_3 : Nat → Int32) (wfkept_4 : Nat → Int32) (wffst_5 : Nat → Int64) (wflst_6 : Nat → Int64) (wfbef_7 : Nat → Int32) (wfmov_8 : Nat → Int32) (wnn_9 : Int32) : Option ((Nat → Int32) × (Nat → Int32) × (Nat → Int32) × (Nat → Int64) × (Nat → Int64) × (Nat → Int32) × (Nat → Int32) × Int32) := lp (fun zf z => fX9_tidyN_L2_B nst fisk (fun v2_1 wfnow_2 wfbook_3 wfkept_4 wffst_5 wflst_6 wfbef_7 wfmov_8 wnn_9 => zf (v2_1, wfnow_2, wfbook_3, wfkept_4, wffst_5, wflst_6, wfbef_7, wfmov_8, wnn_9)) z.1 z.2.1 z.2.2.1 z.2.2.2.1 z.2.2.2.2.1 z.2.2.2.2.2.1 z.2.2.2.2.2.2.1 z.2.2.2.2.2.2.2.1 z.2.2.2.2.2.2.2.2) n (v2_1, wfnow_2, wfbook_3, wfkept_4, wffst_5, wflst_6, wfbef_7, wfmov_8, wnn_9)
def fX9_tidyN (nst : Int32) (nn : Int32) (fnow : Nat → Int32) (fbook : Nat → Int32) (fkept : Nat → Int32) (fisk : Nat → Int32) (ffst : Nat → Int64) (flst : Nat → Int64) (fbef : Nat → Int32) (fmov : Nat → Int32) : Option ((Nat → Int32) × (Nat → Int32) × (Nat → Int32) × (Nat → Int64) × (Nat → Int64) × (Nat → Int32) × (Nat → Int32) × Int32) :=
  fX9_tidyN_L2 nst fisk 4100 0 fnow fbook fkept ffst flst fbef fmov nn
set_option maxRecDepth 100000 in
set_option maxHeartbeats 4000000 in
theorem mX9_tidyN (l : Launch) (g : GE) (o pn pb pk pi pf pl pe pm pt pr pw px : Nat) (refu : Int32) (nst : Int32) (nn : Int32) (len : Int32) (pos : Int32) (gd : Int32) (ps : Int32) (sm : Int32) (fnow : Nat → Int32) (fbook : Nat → Int32) (fkept : Nat → Int32) (fisk : Nat → Int32) (ffst : Nat → Int64) (flst : Nat → Int64) (fbef : Nat → Int32) (fmov : Nat → Int32) (r : (Nat → Int32) × (Nat → Int32) × (Nat → Int32) × (Nat → Int64) × (Nat → Int64) × (Nat → Int32) × (Nat → Int32) × Int32) (hyp : fX9_tidyN nst nn fnow fbook fkept fisk ffst flst fbef fmov = some r) : WM l yX9_tidy cX9_tidy 6 none 1 22 g [(o, .inr (9, [.int refu, .ref pn, .ref pt, .ref pr, .ref pw, .ref pb, .int nst, .ref pk, .ref pi, .ref pf, .ref pl, .ref pe, .ref pm, .int nn, .ref px, .int len, .int pos, .int gd, .int ps, .int sm])), (pn, .inl (g.2.1, 61, .inl fnow)), (pb, .inl (g.2.1, 366, .inl fbook)), (pk, .inl (g.2.1, 122, .inl fkept)), (pi, .inl (g.2.2.2.1, 2, .inl fisk)), (pf, .inl (g.2.2.1, 4096, .inr (.inl ffst))), (pl, .inl (g.2.2.1, 4096, .inr (.inl flst))), (pe, .inl (g.2.1, 4096, .inl fbef)), (pm, .inl (g.2.1, 4096, .inl fmov))] [.ref o, .ref pn] none [(o, .inr (9, [.int refu, .ref pn, .ref pt, .ref pr, .ref pw, .ref pb, .int nst, .ref pk, .ref pi, .ref pf, .ref pl, .ref pe, .ref pm, .int r.2.2.2.2.2.2.2, .ref px, .int len, .int pos, .int gd, .int ps, .int sm])), (pn, .inl (g.2.1, 61, .inl r.1)), (pb, .inl (g.2.1, 366, .inl r.2.1)), (pk, .inl (g.2.1, 122, .inl r.2.2.1)), (pi, .inl (g.2.2.2.1, 2, .inl fisk)), (pf, .inl (g.2.2.1, 4096, .inr (.inl r.2.2.2.1))), (pl, .inl (g.2.2.1, 4096, .inr (.inl r.2.2.2.2.1))), (pe, .inl (g.2.1, 4096, .inl r.2.2.2.2.2.1)), (pm, .inl (g.2.1, 4096, .inl r.2.2.2.2.2.2.1))] := by
  refine metW_intro (by decide) rfl ?_
  intro p e R s m args below meth c Q A hRf hRl hQ hx hb hml hr hlocks hown hts hin hE hA H locs hP hD hS ls hl
  have hown : s.vm.findClass "HallGuardsModel" = some m.cls := hown
  have hl : lv_has ls 6 [(0, .ref o), (1, .ref pn)] := hl
  unfold fX9_tidyN at hyp
  refine lv_iconst (v := 0) hx hb dX9_tidy_0 (by decide) ?_
  refine lv_istore_n (lv' := [(2, .int 0), (0, .ref o), (1, .ref pn)]) hx hb dX9_tidy_1 rfl hl (by decide) rfl (fun ls hl => ?_)
  refine lp_i (r := r) (fun z : Int32 × (Nat → Int32) × (Nat → Int32) × (Nat → Int32) × (Nat → Int64) × (Nat → Int64) × (Nat → Int32) × (Nat → Int32) × Int32 => ∀ (H : Heap) (locs : List Loc) (ls : Array Slot), lv_has ls 6 [(0, .ref o), (1, .ref pn), (2, .int z.1)] → va_P g.1 vwCl [(o, .inr (9, [.int refu, .ref pn, .ref pt, .ref pr, .ref pw, .ref pb, .int nst, .ref pk, .ref pi, .ref pf, .ref pl, .ref pe, .ref pm, .int z.2.2.2.2.2.2.2.2, .ref px, .int len, .int pos, .int gd, .int ps, .int sm])), (pn, .inl (g.2.1, 61, .inl z.2.1)), (pb, .inl (g.2.1, 366, .inl z.2.2.1)), (pk, .inl (g.2.1, 122, .inl z.2.2.2.1)), (pi, .inl (g.2.2.2.1, 2, .inl fisk)), (pf, .inl (g.2.2.1, 4096, .inr (.inl z.2.2.2.2.1))), (pl, .inl (g.2.2.1, 4096, .inr (.inl z.2.2.2.2.2.1))), (pe, .inl (g.2.1, 4096, .inl z.2.2.2.2.2.2.1)), (pm, .inl (g.2.1, 4096, .inl z.2.2.2.2.2.2.2.1))] H → va_D A [(o, .inr (9, [.int refu, .ref pn, .ref pt, .ref pr, .ref pw, .ref pb, .int nst, .ref pk, .ref pi, .ref pf, .ref pl, .ref pe, .ref pm, .int z.2.2.2.2.2.2.2.2, .ref px, .int len, .int pos, .int gd, .int ps, .int sm])), (pn, .inl (g.2.1, 61, .inl z.2.1)), (pb, .inl (g.2.1, 366, .inl z.2.2.1)), (pk, .inl (g.2.1, 122, .inl z.2.2.2.1)), (pi, .inl (g.2.2.2.1, 2, .inl fisk)), (pf, .inl (g.2.2.1, 4096, .inr (.inl z.2.2.2.2.1))), (pl, .inl (g.2.2.1, 4096, .inr (.inl z.2.2.2.2.2.1))), (pe, .inl (g.2.1, 4096, .inl z.2.2.2.2.2.2.1)), (pm, .inl (g.2.1, 4096, .inl z.2.2.2.2.2.2.2.1))] → va_S A s.heap H locs → W p l e R s m args below meth c H locs 0 0 Q (F0 m 2 ls [])) ?_ 4100 (0, fnow, fbook, fkept, ffst, flst, fbef, fmov, nn) hyp _ _ ls (lv_sub hl [1, 2, 0] rfl) hP hD hS
  intro self_10T ihself_10T z hyp H locs ls hl hP hD hS
  obtain ⟨v2_1, wfnow_2, wfbook_3, wfkept_4, wffst_5, wflst_6, wfbef_7, wfmov_8, wnn_9⟩ := z
  obtain ⟨self_10, eself_10⟩ : ∃ f9 : Int32 → (Nat → Int32) → (Nat → Int32) → (Nat → Int32) → (Nat → Int64) → (Nat → Int64) → (Nat → Int32) → (Nat → Int32) → Int32 → Option ((Nat → Int32) × (Nat → Int32) × (Nat → Int32) × (Nat → Int64) × (Nat → Int64) × (Nat → Int32) × (Nat → Int32) × Int32), f9 = fun v2_1 wfnow_2 wfbook_3 wfkept_4 wffst_5 wflst_6 wfbef_7 wfmov_8 wnn_9 => self_10T (v2_1, wfnow_2, wfbook_3, wfkept_4, wffst_5, wflst_6, wfbef_7, wfmov_8, wnn_9) := ⟨_, rfl⟩
  have ihself_10 := fun (v2_1 : Int32) (wfnow_2 : Nat → Int32) (wfbook_3 : Nat → Int32) (wfkept_4 : Nat → Int32) (wffst_5 : Nat → Int64) (wflst_6 : Nat → Int64) (wfbef_7 : Nat → Int32) (wfmov_8 : Nat → Int32) (wnn_9 : Int32) (h9 : self_10 v2_1 wfnow_2 wfbook_3 wfkept_4 wffst_5 wflst_6 wfbef_7 wfmov_8 wnn_9 = some r) => ihself_10T (v2_1, wfnow_2, wfbook_3, wfkept_4, wffst_5, wflst_6, wfbef_7, wfmov_8, wnn_9) (by rw [eself_10] at h9; exact h9)
  replace hyp : fX9_tidyN_L2_B nst fisk self_10 v2_1 wfnow_2 wfbook_3 wfkept_4 wffst_5 wflst_6 wfbef_7 wfmov_8 wnn_9 = some r := by rw [eself_10]; exact hyp
  have hl : lv_has ls 6 [(0, .ref o), (1, .ref pn), (2, .int v2_1)] := hl
  have hP : va_P g.1 vwCl [(o, .inr (9, [.int refu, .ref pn, .ref pt, .ref pr, .ref pw, .ref pb, .int nst, .ref pk, .ref pi, .ref pf, .ref pl, .ref pe, .ref pm, .int wnn_9, .ref px, .int len, .int pos, .int gd, .int ps, .int sm])), (pn, .inl (g.2.1, 61, .inl wfnow_2)), (pb, .inl (g.2.1, 366, .inl wfbook_3)), (pk, .inl (g.2.1, 122, .inl wfkept_4)), (pi, .inl (g.2.2.2.1, 2, .inl fisk)), (pf, .inl (g.2.2.1, 4096, .inr (.inl wffst_5))), (pl, .inl (g.2.2.1, 4096, .inr (.inl wflst_6))), (pe, .inl (g.2.1, 4096, .inl wfbef_7)), (pm, .inl (g.2.1, 4096, .inl wfmov_8))] H := hP
  have hD : va_D A [(o, .inr (9, [.int refu, .ref pn, .ref pt, .ref pr, .ref pw, .ref pb, .int nst, .ref pk, .ref pi, .ref pf, .ref pl, .ref pe, .ref pm, .int wnn_9, .ref px, .int len, .int pos, .int gd, .int ps, .int sm])), (pn, .inl (g.2.1, 61, .inl wfnow_2)), (pb, .inl (g.2.1, 366, .inl wfbook_3)), (pk, .inl (g.2.1, 122, .inl wfkept_4)), (pi, .inl (g.2.2.2.1, 2, .inl fisk)), (pf, .inl (g.2.2.1, 4096, .inr (.inl wffst_5))), (pl, .inl (g.2.2.1, 4096, .inr (.inl wflst_6))), (pe, .inl (g.2.1, 4096, .inl wfbef_7)), (pm, .inl (g.2.1, 4096, .inl wfmov_8))] := hD
  show W p l e R s m args below meth c H locs 0 0 Q (F0 m 2 ls [])
  unfold fX9_tidyN_L2_B at hyp
  refine lv_iload_n hx hb dX9_tidy_2 rfl (lv_at hl 2 rfl) ?_
  refine lv_aload_n hx hb dX9_tidy_3 rfl (lv_at hl 0 rfl) ?_
  refine gf_X9_104 hx hb hts hown hE hP 0 rfl rfl dX9_tidy_4 ?_
  refine lv_icmp_ge (tgt := 23) hx hb dX9_tidy_7 (by decide) (fun h_11 => ?_) (fun h_11 => ?_)
  · replace hyp := ite_t h_11 hyp
    refine lv_aload_n hx hb dX9_tidy_23 rfl (lv_at hl 0 rfl) ?_
    refine lv_aload_n hx hb dX9_tidy_24 rfl (lv_at hl 1 rfl) ?_
    refine lv_bipush (v := 60) hx hb dX9_tidy_25 (by decide) ?_
    obtain ⟨hi, hyp⟩ := grd_e hyp
    refine va_iald hx hb hE.1 hP 1 0 rfl rfl (inB_vp hi) dX9_tidy_27 ?_
    obtain ⟨r_12, hr_12, hyp⟩ := opt_e hyp
    refine wV (As := [.int (wfnow_2 (60 : Int32).toNatClampNeg)]) (rest := []) ⟨hx, hb, hml, hown, hts⟩ hE (mX9_mark l g o pe pm pn pt pr pw pb pk pi pf pl px refu nst wnn_9 len pos gd ps sm wfbef_7 wfmov_8 (wfnow_2 (60 : Int32).toNatClampNeg) r_12 hr_12) cf_X9_mark im_X9_mark se_X9_mark ml_X9_107 ⟨Nat.le_trans (Nat.le_of_ble_eq_true rfl) hRf, Nat.le_trans (Nat.le_of_ble_eq_true rfl) hRl⟩ hP hD hS hA [0, 7, 8] [1, 2, 3, 4, 5, 6] rfl (wr := [(pn, .inl (g.2.1, 61, .inl wfnow_2)), (pb, .inl (g.2.1, 366, .inl wfbook_3)), (pk, .inl (g.2.1, 122, .inl wfkept_4)), (pi, .inl (g.2.2.2.1, 2, .inl fisk)), (pf, .inl (g.2.2.1, 4096, .inr (.inl wffst_5))), (pl, .inl (g.2.2.1, 4096, .inr (.inl wflst_6)))]) rfl ⟨by decide, by decide⟩ (by decide) (ci := 9) (q0 := 0) rfl rfl rfl rfl hl.1 rfl (Nat.le_of_ble_eq_true rfl) dX9_tidy_28 ⟨Nat.zero_le _, Nat.zero_le _⟩ (fun H locs hP hD hS => ?_)
    have hP : va_P g.1 vwCl [(pn, .inl (g.2.1, 61, .inl wfnow_2)), (pb, .inl (g.2.1, 366, .inl wfbook_3)), (pk, .inl (g.2.1, 122, .inl wfkept_4)), (pi, .inl (g.2.2.2.1, 2, .inl fisk)), (pf, .inl (g.2.2.1, 4096, .inr (.inl wffst_5))), (pl, .inl (g.2.2.1, 4096, .inr (.inl wflst_6))), (o, .inr (9, [.int refu, .ref pn, .ref pt, .ref pr, .ref pw, .ref pb, .int nst, .ref pk, .ref pi, .ref pf, .ref pl, .ref pe, .ref pm, .int wnn_9, .ref px, .int len, .int pos, .int gd, .int ps, .int sm])), (pe, .inl (g.2.1, 4096, .inl wfbef_7)), (pm, .inl (g.2.1, 4096, .inl r_12))] H := hP
    have hD : va_D A [(pn, .inl (g.2.1, 61, .inl wfnow_2)), (pb, .inl (g.2.1, 366, .inl wfbook_3)), (pk, .inl (g.2.1, 122, .inl wfkept_4)), (pi, .inl (g.2.2.2.1, 2, .inl fisk)), (pf, .inl (g.2.2.1, 4096, .inr (.inl wffst_5))), (pl, .inl (g.2.2.1, 4096, .inr (.inl wflst_6))), (o, .inr (9, [.int refu, .ref pn, .ref pt, .ref pr, .ref pw, .ref pb, .int nst, .ref pk, .ref pi, .ref pf, .ref pl, .ref pe, .ref pm, .int wnn_9, .ref px, .int len, .int pos, .int gd, .int ps, .int sm])), (pe, .inl (g.2.1, 4096, .inl wfbef_7)), (pm, .inl (g.2.1, 4096, .inl r_12))] := hD
    refine lv_aload_n hx hb dX9_tidy_31 rfl (lv_at hl 0 rfl) ?_
    refine lv_aload_n hx hb dX9_tidy_32 rfl (lv_at hl 0 rfl) ?_
    refine gf_X9_7 hx hb hts hown hE hP 6 rfl rfl dX9_tidy_33 ?_
    refine lv_bipush (v := 60) hx hb dX9_tidy_36 (by decide) ?_
    obtain ⟨hi, hyp⟩ := grd_e hyp
    refine va_iald hx hb hE.1 hP 0 0 rfl rfl (inB_vp hi) dX9_tidy_38 ?_
    obtain ⟨r_13, hr_13, hyp⟩ := opt_e hyp
    refine wV (As := [.int (wfnow_2 (60 : Int32).toNatClampNeg)]) (rest := []) ⟨hx, hb, hml, hown, hts⟩ hE (mX9_mark l g o pe pm pn pt pr pw pb pk pi pf pl px refu nst wnn_9 len pos gd ps sm wfbef_7 r_12 (wfnow_2 (60 : Int32).toNatClampNeg) r_13 hr_13) cf_X9_mark im_X9_mark se_X9_mark ml_X9_107 ⟨Nat.le_trans (Nat.le_of_ble_eq_true rfl) hRf, Nat.le_trans (Nat.le_of_ble_eq_true rfl) hRl⟩ hP hD hS hA [6, 7, 8] [0, 1, 2, 3, 4, 5] rfl (wr := [(pn, .inl (g.2.1, 61, .inl wfnow_2)), (pb, .inl (g.2.1, 366, .inl wfbook_3)), (pk, .inl (g.2.1, 122, .inl wfkept_4)), (pi, .inl (g.2.2.2.1, 2, .inl fisk)), (pf, .inl (g.2.2.1, 4096, .inr (.inl wffst_5))), (pl, .inl (g.2.2.1, 4096, .inr (.inl wflst_6)))]) rfl ⟨by decide, by decide⟩ (by decide) (ci := 9) (q0 := 0) rfl rfl rfl rfl hl.1 rfl (Nat.le_of_ble_eq_true rfl) dX9_tidy_39 ⟨Nat.zero_le _, Nat.zero_le _⟩ (fun H locs hP hD hS => ?_)
    have hP : va_P g.1 vwCl [(pn, .inl (g.2.1, 61, .inl wfnow_2)), (pb, .inl (g.2.1, 366, .inl wfbook_3)), (pk, .inl (g.2.1, 122, .inl wfkept_4)), (pi, .inl (g.2.2.2.1, 2, .inl fisk)), (pf, .inl (g.2.2.1, 4096, .inr (.inl wffst_5))), (pl, .inl (g.2.2.1, 4096, .inr (.inl wflst_6))), (o, .inr (9, [.int refu, .ref pn, .ref pt, .ref pr, .ref pw, .ref pb, .int nst, .ref pk, .ref pi, .ref pf, .ref pl, .ref pe, .ref pm, .int wnn_9, .ref px, .int len, .int pos, .int gd, .int ps, .int sm])), (pe, .inl (g.2.1, 4096, .inl wfbef_7)), (pm, .inl (g.2.1, 4096, .inl r_13))] H := hP
    have hD : va_D A [(pn, .inl (g.2.1, 61, .inl wfnow_2)), (pb, .inl (g.2.1, 366, .inl wfbook_3)), (pk, .inl (g.2.1, 122, .inl wfkept_4)), (pi, .inl (g.2.2.2.1, 2, .inl fisk)), (pf, .inl (g.2.2.1, 4096, .inr (.inl wffst_5))), (pl, .inl (g.2.2.1, 4096, .inr (.inl wflst_6))), (o, .inr (9, [.int refu, .ref pn, .ref pt, .ref pr, .ref pw, .ref pb, .int nst, .ref pk, .ref pi, .ref pf, .ref pl, .ref pe, .ref pm, .int wnn_9, .ref px, .int len, .int pos, .int gd, .int ps, .int sm])), (pe, .inl (g.2.1, 4096, .inl wfbef_7)), (pm, .inl (g.2.1, 4096, .inl r_13))] := hD
    refine lv_iconst (v := 0) hx hb dX9_tidy_42 (by decide) ?_
    refine lv_istore_n (lv' := [(2, .int 0), (0, .ref o), (1, .ref pn)]) hx hb dX9_tidy_43 rfl hl (by decide) rfl (fun ls hl => ?_)
    have hP : va_P g.1 vwCl [(o, .inr (9, [.int refu, .ref pn, .ref pt, .ref pr, .ref pw, .ref pb, .int nst, .ref pk, .ref pi, .ref pf, .ref pl, .ref pe, .ref pm, .int wnn_9, .ref px, .int len, .int pos, .int gd, .int ps, .int sm])), (pn, .inl (g.2.1, 61, .inl wfnow_2)), (pb, .inl (g.2.1, 366, .inl wfbook_3)), (pk, .inl (g.2.1, 122, .inl wfkept_4)), (pi, .inl (g.2.2.2.1, 2, .inl fisk)), (pf, .inl (g.2.2.1, 4096, .inr (.inl wffst_5))), (pl, .inl (g.2.2.1, 4096, .inr (.inl wflst_6))), (pe, .inl (g.2.1, 4096, .inl wfbef_7)), (pm, .inl (g.2.1, 4096, .inl r_13))] H := hP.sub [6, 0, 1, 2, 3, 4, 5, 7, 8] rfl
    have hD : va_D A [(o, .inr (9, [.int refu, .ref pn, .ref pt, .ref pr, .ref pw, .ref pb, .int nst, .ref pk, .ref pi, .ref pf, .ref pl, .ref pe, .ref pm, .int wnn_9, .ref px, .int len, .int pos, .int gd, .int ps, .int sm])), (pn, .inl (g.2.1, 61, .inl wfnow_2)), (pb, .inl (g.2.1, 366, .inl wfbook_3)), (pk, .inl (g.2.1, 122, .inl wfkept_4)), (pi, .inl (g.2.2.2.1, 2, .inl fisk)), (pf, .inl (g.2.2.1, 4096, .inr (.inl wffst_5))), (pl, .inl (g.2.2.1, 4096, .inr (.inl wflst_6))), (pe, .inl (g.2.1, 4096, .inl wfbef_7)), (pm, .inl (g.2.1, 4096, .inl r_13))] := hD.sub [6, 0, 1, 2, 3, 4, 5, 7, 8] (by decide) rfl
    refine lp_i (r := r) (fun z : Int32 × (Nat → Int32) × (Nat → Int32) × (Nat → Int32) × (Nat → Int64) × (Nat → Int64) × (Nat → Int32) × (Nat → Int32) × Int32 => ∀ (H : Heap) (locs : List Loc) (ls : Array Slot), lv_has ls 6 [(0, .ref o), (1, .ref pn), (2, .int z.1)] → va_P g.1 vwCl [(o, .inr (9, [.int refu, .ref pn, .ref pt, .ref pr, .ref pw, .ref pb, .int nst, .ref pk, .ref pi, .ref pf, .ref pl, .ref pe, .ref pm, .int z.2.2.2.2.2.2.2.2, .ref px, .int len, .int pos, .int gd, .int ps, .int sm])), (pn, .inl (g.2.1, 61, .inl z.2.1)), (pb, .inl (g.2.1, 366, .inl z.2.2.1)), (pk, .inl (g.2.1, 122, .inl z.2.2.2.1)), (pi, .inl (g.2.2.2.1, 2, .inl fisk)), (pf, .inl (g.2.2.1, 4096, .inr (.inl z.2.2.2.2.1))), (pl, .inl (g.2.2.1, 4096, .inr (.inl z.2.2.2.2.2.1))), (pe, .inl (g.2.1, 4096, .inl z.2.2.2.2.2.2.1)), (pm, .inl (g.2.1, 4096, .inl z.2.2.2.2.2.2.2.1))] H → va_D A [(o, .inr (9, [.int refu, .ref pn, .ref pt, .ref pr, .ref pw, .ref pb, .int nst, .ref pk, .ref pi, .ref pf, .ref pl, .ref pe, .ref pm, .int z.2.2.2.2.2.2.2.2, .ref px, .int len, .int pos, .int gd, .int ps, .int sm])), (pn, .inl (g.2.1, 61, .inl z.2.1)), (pb, .inl (g.2.1, 366, .inl z.2.2.1)), (pk, .inl (g.2.1, 122, .inl z.2.2.2.1)), (pi, .inl (g.2.2.2.1, 2, .inl fisk)), (pf, .inl (g.2.2.1, 4096, .inr (.inl z.2.2.2.2.1))), (pl, .inl (g.2.2.1, 4096, .inr (.inl z.2.2.2.2.2.1))), (pe, .inl (g.2.1, 4096, .inl z.2.2.2.2.2.2.1)), (pm, .inl (g.2.1, 4096, .inl z.2.2.2.2.2.2.2.1))] → va_S A s.heap H locs → W p l e R s m args below meth c H locs 0 0 Q (F0 m 44 ls [])) ?_ 4100 (0, wfnow_2, wfbook_3, wfkept_4, wffst_5, wflst_6, wfbef_7, r_13, wnn_9) hyp _ _ ls (lv_sub hl [1, 2, 0] rfl) hP hD hS
    intro self_23T ihself_23T z hyp H locs ls hl hP hD hS
    obtain ⟨v2_14, wfnow_15, wfbook_16, wfkept_17, wffst_18, wflst_19, wfbef_20, wfmov_21, wnn_22⟩ := z
    obtain ⟨self_23, eself_23⟩ : ∃ f9 : Int32 → (Nat → Int32) → (Nat → Int32) → (Nat → Int32) → (Nat → Int64) → (Nat → Int64) → (Nat → Int32) → (Nat → Int32) → Int32 → Option ((Nat → Int32) × (Nat → Int32) × (Nat → Int32) × (Nat → Int64) × (Nat → Int64) × (Nat → Int32) × (Nat → Int32) × Int32), f9 = fun v2_14 wfnow_15 wfbook_16 wfkept_17 wffst_18 wflst_19 wfbef_20 wfmov_21 wnn_22 => self_23T (v2_14, wfnow_15, wfbook_16, wfkept_17, wffst_18, wflst_19, wfbef_20, wfmov_21, wnn_22) := ⟨_, rfl⟩
    have ihself_23 := fun (v2_14 : Int32) (wfnow_15 : Nat → Int32) (wfbook_16 : Nat → Int32) (wfkept_17 : Nat → Int32) (wffst_18 : Nat → Int64) (wflst_19 : Nat → Int64) (wfbef_20 : Nat → Int32) (wfmov_21 : Nat → Int32) (wnn_22 : Int32) (h9 : self_23 v2_14 wfnow_15 wfbook_16 wfkept_17 wffst_18 wflst_19 wfbef_20 wfmov_21 wnn_22 = some r) => ihself_23T (v2_14, wfnow_15, wfbook_16, wfkept_17, wffst_18, wflst_19, wfbef_20, wfmov_21, wnn_22) (by rw [eself_23] at h9; exact h9)
    replace hyp : fX9_tidyN_L44_B nst fisk self_23 v2_14 wfnow_15 wfbook_16 wfkept_17 wffst_18 wflst_19 wfbef_20 wfmov_21 wnn_22 = some r := by rw [eself_23]; exact hyp
    have hl : lv_has ls 6 [(0, .ref o), (1, .ref pn), (2, .int v2_14)] := hl
    have hP : va_P g.1 vwCl [(o, .inr (9, [.int refu, .ref pn, .ref pt, .ref pr, .ref pw, .ref pb, .int nst, .ref pk, .ref pi, .ref pf, .ref pl, .ref pe, .ref pm, .int wnn_22, .ref px, .int len, .int pos, .int gd, .int ps, .int sm])), (pn, .inl (g.2.1, 61, .inl wfnow_15)), (pb, .inl (g.2.1, 366, .inl wfbook_16)), (pk, .inl (g.2.1, 122, .inl wfkept_17)), (pi, .inl (g.2.2.2.1, 2, .inl fisk)), (pf, .inl (g.2.2.1, 4096, .inr (.inl wffst_18))), (pl, .inl (g.2.2.1, 4096, .inr (.inl wflst_19))), (pe, .inl (g.2.1, 4096, .inl wfbef_20)), (pm, .inl (g.2.1, 4096, .inl wfmov_21))] H := hP
    have hD : va_D A [(o, .inr (9, [.int refu, .ref pn, .ref pt, .ref pr, .ref pw, .ref pb, .int nst, .ref pk, .ref pi, .ref pf, .ref pl, .ref pe, .ref pm, .int wnn_22, .ref px, .int len, .int pos, .int gd, .int ps, .int sm])), (pn, .inl (g.2.1, 61, .inl wfnow_15)), (pb, .inl (g.2.1, 366, .inl wfbook_16)), (pk, .inl (g.2.1, 122, .inl wfkept_17)), (pi, .inl (g.2.2.2.1, 2, .inl fisk)), (pf, .inl (g.2.2.1, 4096, .inr (.inl wffst_18))), (pl, .inl (g.2.2.1, 4096, .inr (.inl wflst_19))), (pe, .inl (g.2.1, 4096, .inl wfbef_20)), (pm, .inl (g.2.1, 4096, .inl wfmov_21))] := hD
    show W p l e R s m args below meth c H locs 0 0 Q (F0 m 44 ls [])
    unfold fX9_tidyN_L44_B at hyp
    refine lv_iload_n hx hb dX9_tidy_44 rfl (lv_at hl 2 rfl) ?_
    refine lv_aload_n hx hb dX9_tidy_45 rfl (lv_at hl 0 rfl) ?_
    refine gf_X9_111 hx hb hts hown hE hP 0 rfl rfl dX9_tidy_46 ?_
    refine lv_icmp_ge (tgt := 74) hx hb dX9_tidy_49 (by decide) (fun h_24 => ?_) (fun h_24 => ?_)
    · replace hyp := ite_t h_24 hyp
      refine lv_iconst (v := 0) hx hb dX9_tidy_74 (by decide) ?_
      refine lv_istore_n (lv' := [(2, .int 0), (0, .ref o), (1, .ref pn)]) hx hb dX9_tidy_75 rfl hl (by decide) rfl (fun ls hl => ?_)
      refine lp_i (r := r) (fun z : Int32 × (Nat → Int32) × (Nat → Int32) × (Nat → Int32) × (Nat → Int64) × (Nat → Int64) × (Nat → Int32) × (Nat → Int32) × Int32 => ∀ (H : Heap) (locs : List Loc) (ls : Array Slot), lv_has ls 6 [(0, .ref o), (1, .ref pn), (2, .int z.1)] → va_P g.1 vwCl [(o, .inr (9, [.int refu, .ref pn, .ref pt, .ref pr, .ref pw, .ref pb, .int nst, .ref pk, .ref pi, .ref pf, .ref pl, .ref pe, .ref pm, .int z.2.2.2.2.2.2.2.2, .ref px, .int len, .int pos, .int gd, .int ps, .int sm])), (pn, .inl (g.2.1, 61, .inl z.2.1)), (pb, .inl (g.2.1, 366, .inl z.2.2.1)), (pk, .inl (g.2.1, 122, .inl z.2.2.2.1)), (pi, .inl (g.2.2.2.1, 2, .inl fisk)), (pf, .inl (g.2.2.1, 4096, .inr (.inl z.2.2.2.2.1))), (pl, .inl (g.2.2.1, 4096, .inr (.inl z.2.2.2.2.2.1))), (pe, .inl (g.2.1, 4096, .inl z.2.2.2.2.2.2.1)), (pm, .inl (g.2.1, 4096, .inl z.2.2.2.2.2.2.2.1))] H → va_D A [(o, .inr (9, [.int refu, .ref pn, .ref pt, .ref pr, .ref pw, .ref pb, .int nst, .ref pk, .ref pi, .ref pf, .ref pl, .ref pe, .ref pm, .int z.2.2.2.2.2.2.2.2, .ref px, .int len, .int pos, .int gd, .int ps, .int sm])), (pn, .inl (g.2.1, 61, .inl z.2.1)), (pb, .inl (g.2.1, 366, .inl z.2.2.1)), (pk, .inl (g.2.1, 122, .inl z.2.2.2.1)), (pi, .inl (g.2.2.2.1, 2, .inl fisk)), (pf, .inl (g.2.2.1, 4096, .inr (.inl z.2.2.2.2.1))), (pl, .inl (g.2.2.1, 4096, .inr (.inl z.2.2.2.2.2.1))), (pe, .inl (g.2.1, 4096, .inl z.2.2.2.2.2.2.1)), (pm, .inl (g.2.1, 4096, .inl z.2.2.2.2.2.2.2.1))] → va_S A s.heap H locs → W p l e R s m args below meth c H locs 0 0 Q (F0 m 76 ls [])) ?_ 4100 (0, wfnow_15, wfbook_16, wfkept_17, wffst_18, wflst_19, wfbef_20, wfmov_21, wnn_22) hyp _ _ ls (lv_sub hl [1, 2, 0] rfl) hP hD hS
      intro self_34T ihself_34T z hyp H locs ls hl hP hD hS
      obtain ⟨v2_25, wfnow_26, wfbook_27, wfkept_28, wffst_29, wflst_30, wfbef_31, wfmov_32, wnn_33⟩ := z
      obtain ⟨self_34, eself_34⟩ : ∃ f9 : Int32 → (Nat → Int32) → (Nat → Int32) → (Nat → Int32) → (Nat → Int64) → (Nat → Int64) → (Nat → Int32) → (Nat → Int32) → Int32 → Option ((Nat → Int32) × (Nat → Int32) × (Nat → Int32) × (Nat → Int64) × (Nat → Int64) × (Nat → Int32) × (Nat → Int32) × Int32), f9 = fun v2_25 wfnow_26 wfbook_27 wfkept_28 wffst_29 wflst_30 wfbef_31 wfmov_32 wnn_33 => self_34T (v2_25, wfnow_26, wfbook_27, wfkept_28, wffst_29, wflst_30, wfbef_31, wfmov_32, wnn_33) := ⟨_, rfl⟩
      have ihself_34 := fun (v2_25 : Int32) (wfnow_26 : Nat → Int32) (wfbook_27 : Nat → Int32) (wfkept_28 : Nat → Int32) (wffst_29 : Nat → Int64) (wflst_30 : Nat → Int64) (wfbef_31 : Nat → Int32) (wfmov_32 : Nat → Int32) (wnn_33 : Int32) (h9 : self_34 v2_25 wfnow_26 wfbook_27 wfkept_28 wffst_29 wflst_30 wfbef_31 wfmov_32 wnn_33 = some r) => ihself_34T (v2_25, wfnow_26, wfbook_27, wfkept_28, wffst_29, wflst_30, wfbef_31, wfmov_32, wnn_33) (by rw [eself_34] at h9; exact h9)
      replace hyp : fX9_tidyN_L76_B nst fisk self_34 v2_25 wfnow_26 wfbook_27 wfkept_28 wffst_29 wflst_30 wfbef_31 wfmov_32 wnn_33 = some r := by rw [eself_34]; exact hyp
      have hl : lv_has ls 6 [(0, .ref o), (1, .ref pn), (2, .int v2_25)] := hl
      have hP : va_P g.1 vwCl [(o, .inr (9, [.int refu, .ref pn, .ref pt, .ref pr, .ref pw, .ref pb, .int nst, .ref pk, .ref pi, .ref pf, .ref pl, .ref pe, .ref pm, .int wnn_33, .ref px, .int len, .int pos, .int gd, .int ps, .int sm])), (pn, .inl (g.2.1, 61, .inl wfnow_26)), (pb, .inl (g.2.1, 366, .inl wfbook_27)), (pk, .inl (g.2.1, 122, .inl wfkept_28)), (pi, .inl (g.2.2.2.1, 2, .inl fisk)), (pf, .inl (g.2.2.1, 4096, .inr (.inl wffst_29))), (pl, .inl (g.2.2.1, 4096, .inr (.inl wflst_30))), (pe, .inl (g.2.1, 4096, .inl wfbef_31)), (pm, .inl (g.2.1, 4096, .inl wfmov_32))] H := hP
      have hD : va_D A [(o, .inr (9, [.int refu, .ref pn, .ref pt, .ref pr, .ref pw, .ref pb, .int nst, .ref pk, .ref pi, .ref pf, .ref pl, .ref pe, .ref pm, .int wnn_33, .ref px, .int len, .int pos, .int gd, .int ps, .int sm])), (pn, .inl (g.2.1, 61, .inl wfnow_26)), (pb, .inl (g.2.1, 366, .inl wfbook_27)), (pk, .inl (g.2.1, 122, .inl wfkept_28)), (pi, .inl (g.2.2.2.1, 2, .inl fisk)), (pf, .inl (g.2.2.1, 4096, .inr (.inl wffst_29))), (pl, .inl (g.2.2.1, 4096, .inr (.inl wflst_30))), (pe, .inl (g.2.1, 4096, .inl wfbef_31)), (pm, .inl (g.2.1, 4096, .inl wfmov_32))] := hD
      show W p l e R s m args below meth c H locs 0 0 Q (F0 m 76 ls [])
      unfold fX9_tidyN_L76_B at hyp
      refine lv_iload_n hx hb dX9_tidy_76 rfl (lv_at hl 2 rfl) ?_
      refine lv_iconst (v := 2) hx hb dX9_tidy_77 (by decide) ?_
      refine lv_icmp_ge (tgt := 116) hx hb dX9_tidy_78 (by decide) (fun h_35 => ?_) (fun h_35 => ?_)
      · replace hyp := ite_t h_35 hyp
        refine lv_iconst (v := 0) hx hb dX9_tidy_116 (by decide) ?_
        refine lv_istore_n (lv' := [(2, .int 0), (0, .ref o), (1, .ref pn)]) hx hb dX9_tidy_117 rfl hl (by decide) rfl (fun ls hl => ?_)
        refine lv_iconst (v := 0) hx hb dX9_tidy_118 (by decide) ?_
        refine lv_istore_n (lv' := [(3, .int 0), (2, .int 0), (0, .ref o), (1, .ref pn)]) hx hb dX9_tidy_119 rfl hl (by decide) rfl (fun ls hl => ?_)
        refine lp_i (r := r) (fun z : Int32 × Int32 × (Nat → Int32) × (Nat → Int32) × (Nat → Int32) × (Nat → Int64) × (Nat → Int64) × (Nat → Int32) × (Nat → Int32) × Int32 => ∀ (H : Heap) (locs : List Loc) (ls : Array Slot), lv_has ls 6 [(0, .ref o), (1, .ref pn), (2, .int z.1), (3, .int z.2.1)] → va_P g.1 vwCl [(o, .inr (9, [.int refu, .ref pn, .ref pt, .ref pr, .ref pw, .ref pb, .int nst, .ref pk, .ref pi, .ref pf, .ref pl, .ref pe, .ref pm, .int z.2.2.2.2.2.2.2.2.2, .ref px, .int len, .int pos, .int gd, .int ps, .int sm])), (pn, .inl (g.2.1, 61, .inl z.2.2.1)), (pb, .inl (g.2.1, 366, .inl z.2.2.2.1)), (pk, .inl (g.2.1, 122, .inl z.2.2.2.2.1)), (pi, .inl (g.2.2.2.1, 2, .inl fisk)), (pf, .inl (g.2.2.1, 4096, .inr (.inl z.2.2.2.2.2.1))), (pl, .inl (g.2.2.1, 4096, .inr (.inl z.2.2.2.2.2.2.1))), (pe, .inl (g.2.1, 4096, .inl z.2.2.2.2.2.2.2.1)), (pm, .inl (g.2.1, 4096, .inl z.2.2.2.2.2.2.2.2.1))] H → va_D A [(o, .inr (9, [.int refu, .ref pn, .ref pt, .ref pr, .ref pw, .ref pb, .int nst, .ref pk, .ref pi, .ref pf, .ref pl, .ref pe, .ref pm, .int z.2.2.2.2.2.2.2.2.2, .ref px, .int len, .int pos, .int gd, .int ps, .int sm])), (pn, .inl (g.2.1, 61, .inl z.2.2.1)), (pb, .inl (g.2.1, 366, .inl z.2.2.2.1)), (pk, .inl (g.2.1, 122, .inl z.2.2.2.2.1)), (pi, .inl (g.2.2.2.1, 2, .inl fisk)), (pf, .inl (g.2.2.1, 4096, .inr (.inl z.2.2.2.2.2.1))), (pl, .inl (g.2.2.1, 4096, .inr (.inl z.2.2.2.2.2.2.1))), (pe, .inl (g.2.1, 4096, .inl z.2.2.2.2.2.2.2.1)), (pm, .inl (g.2.1, 4096, .inl z.2.2.2.2.2.2.2.2.1))] → va_S A s.heap H locs → W p l e R s m args below meth c H locs 0 0 Q (F0 m 120 ls [])) ?_ 4100 (0, 0, wfnow_26, wfbook_27, wfkept_28, wffst_29, wflst_30, wfbef_31, wfmov_32, wnn_33) hyp _ _ ls (lv_sub hl [2, 3, 1, 0] rfl) hP hD hS
        intro self_46T ihself_46T z hyp H locs ls hl hP hD hS
        obtain ⟨v2_36, v3_37, wfnow_38, wfbook_39, wfkept_40, wffst_41, wflst_42, wfbef_43, wfmov_44, wnn_45⟩ := z
        obtain ⟨self_46, eself_46⟩ : ∃ f9 : Int32 → Int32 → (Nat → Int32) → (Nat → Int32) → (Nat → Int32) → (Nat → Int64) → (Nat → Int64) → (Nat → Int32) → (Nat → Int32) → Int32 → Option ((Nat → Int32) × (Nat → Int32) × (Nat → Int32) × (Nat → Int64) × (Nat → Int64) × (Nat → Int32) × (Nat → Int32) × Int32), f9 = fun v2_36 v3_37 wfnow_38 wfbook_39 wfkept_40 wffst_41 wflst_42 wfbef_43 wfmov_44 wnn_45 => self_46T (v2_36, v3_37, wfnow_38, wfbook_39, wfkept_40, wffst_41, wflst_42, wfbef_43, wfmov_44, wnn_45) := ⟨_, rfl⟩
        have ihself_46 := fun (v2_36 : Int32) (v3_37 : Int32) (wfnow_38 : Nat → Int32) (wfbook_39 : Nat → Int32) (wfkept_40 : Nat → Int32) (wffst_41 : Nat → Int64) (wflst_42 : Nat → Int64) (wfbef_43 : Nat → Int32) (wfmov_44 : Nat → Int32) (wnn_45 : Int32) (h9 : self_46 v2_36 v3_37 wfnow_38 wfbook_39 wfkept_40 wffst_41 wflst_42 wfbef_43 wfmov_44 wnn_45 = some r) => ihself_46T (v2_36, v3_37, wfnow_38, wfbook_39, wfkept_40, wffst_41, wflst_42, wfbef_43, wfmov_44, wnn_45) (by rw [eself_46] at h9; exact h9)
        replace hyp : fX9_tidyN_L120_B nst fisk self_46 v2_36 v3_37 wfnow_38 wfbook_39 wfkept_40 wffst_41 wflst_42 wfbef_43 wfmov_44 wnn_45 = some r := by rw [eself_46]; exact hyp
        have hl : lv_has ls 6 [(0, .ref o), (1, .ref pn), (2, .int v2_36), (3, .int v3_37)] := hl
        have hP : va_P g.1 vwCl [(o, .inr (9, [.int refu, .ref pn, .ref pt, .ref pr, .ref pw, .ref pb, .int nst, .ref pk, .ref pi, .ref pf, .ref pl, .ref pe, .ref pm, .int wnn_45, .ref px, .int len, .int pos, .int gd, .int ps, .int sm])), (pn, .inl (g.2.1, 61, .inl wfnow_38)), (pb, .inl (g.2.1, 366, .inl wfbook_39)), (pk, .inl (g.2.1, 122, .inl wfkept_40)), (pi, .inl (g.2.2.2.1, 2, .inl fisk)), (pf, .inl (g.2.2.1, 4096, .inr (.inl wffst_41))), (pl, .inl (g.2.2.1, 4096, .inr (.inl wflst_42))), (pe, .inl (g.2.1, 4096, .inl wfbef_43)), (pm, .inl (g.2.1, 4096, .inl wfmov_44))] H := hP
        have hD : va_D A [(o, .inr (9, [.int refu, .ref pn, .ref pt, .ref pr, .ref pw, .ref pb, .int nst, .ref pk, .ref pi, .ref pf, .ref pl, .ref pe, .ref pm, .int wnn_45, .ref px, .int len, .int pos, .int gd, .int ps, .int sm])), (pn, .inl (g.2.1, 61, .inl wfnow_38)), (pb, .inl (g.2.1, 366, .inl wfbook_39)), (pk, .inl (g.2.1, 122, .inl wfkept_40)), (pi, .inl (g.2.2.2.1, 2, .inl fisk)), (pf, .inl (g.2.2.1, 4096, .inr (.inl wffst_41))), (pl, .inl (g.2.2.1, 4096, .inr (.inl wflst_42))), (pe, .inl (g.2.1, 4096, .inl wfbef_43)), (pm, .inl (g.2.1, 4096, .inl wfmov_44))] := hD
        show W p l e R s m args below meth c H locs 0 0 Q (F0 m 120 ls [])
        unfold fX9_tidyN_L120_B at hyp
        refine lv_iload_n hx hb dX9_tidy_120 rfl (lv_at hl 3 rfl) ?_
        refine lv_aload_n hx hb dX9_tidy_121 rfl (lv_at hl 0 rfl) ?_
        refine gf_X9_104 hx hb hts hown hE hP 0 rfl rfl dX9_tidy_122 ?_
        refine lv_icmp_ge (tgt := 208) hx hb dX9_tidy_125 (by decide) (fun h_47 => ?_) (fun h_47 => ?_)
        · replace hyp := ite_t h_47 hyp
          refine lv_aload_n hx hb dX9_tidy_208 rfl (lv_at hl 0 rfl) ?_
          refine lv_iload_n hx hb dX9_tidy_209 rfl (lv_at hl 2 rfl) ?_
          refine pf_X9_104 hx hb hts hown hE hP hD hS 0 rfl rfl dX9_tidy_210 (fun H locs hP hD hS => ?_)
          have hP : va_P g.1 vwCl [(o, .inr (9, [.int refu, .ref pn, .ref pt, .ref pr, .ref pw, .ref pb, .int nst, .ref pk, .ref pi, .ref pf, .ref pl, .ref pe, .ref pm, .int v2_36, .ref px, .int len, .int pos, .int gd, .int ps, .int sm])), (pn, .inl (g.2.1, 61, .inl wfnow_38)), (pb, .inl (g.2.1, 366, .inl wfbook_39)), (pk, .inl (g.2.1, 122, .inl wfkept_40)), (pi, .inl (g.2.2.2.1, 2, .inl fisk)), (pf, .inl (g.2.2.1, 4096, .inr (.inl wffst_41))), (pl, .inl (g.2.2.1, 4096, .inr (.inl wflst_42))), (pe, .inl (g.2.1, 4096, .inl wfbef_43)), (pm, .inl (g.2.1, 4096, .inl wfmov_44))] H := hP
          have hD : va_D A [(o, .inr (9, [.int refu, .ref pn, .ref pt, .ref pr, .ref pw, .ref pb, .int nst, .ref pk, .ref pi, .ref pf, .ref pl, .ref pe, .ref pm, .int v2_36, .ref px, .int len, .int pos, .int gd, .int ps, .int sm])), (pn, .inl (g.2.1, 61, .inl wfnow_38)), (pb, .inl (g.2.1, 366, .inl wfbook_39)), (pk, .inl (g.2.1, 122, .inl wfkept_40)), (pi, .inl (g.2.2.2.1, 2, .inl fisk)), (pf, .inl (g.2.2.1, 4096, .inr (.inl wffst_41))), (pl, .inl (g.2.2.1, 4096, .inr (.inl wflst_42))), (pe, .inl (g.2.1, 4096, .inl wfbef_43)), (pm, .inl (g.2.1, 4096, .inl wfmov_44))] := hD
          refine lv_aload_n hx hb dX9_tidy_213 rfl (lv_at hl 1 rfl) ?_
          refine lv_bipush (v := 60) hx hb dX9_tidy_214 (by decide) ?_
          obtain ⟨hi, hyp⟩ := grd_e hyp
          refine va_iald hx hb hE.1 hP 1 0 rfl rfl (inB_vp hi) dX9_tidy_216 ?_
          refine lv_iconst (v := (-1)) hx hb dX9_tidy_217 (by decide) ?_
          obtain ⟨J_49, eJ_49, hyp⟩ := jn_e hyp
          have kJ_49 : ∀ (t_48 : Int32) (H : Heap) (locs : List Loc) (ls : Array Slot), J_49 t_48 = some r → lv_has ls 6 [(0, .ref o), (1, .ref pn)] → va_P g.1 vwCl [(o, .inr (9, [.int refu, .ref pn, .ref pt, .ref pr, .ref pw, .ref pb, .int nst, .ref pk, .ref pi, .ref pf, .ref pl, .ref pe, .ref pm, .int v2_36, .ref px, .int len, .int pos, .int gd, .int ps, .int sm])), (pn, .inl (g.2.1, 61, .inl wfnow_38)), (pb, .inl (g.2.1, 366, .inl wfbook_39)), (pk, .inl (g.2.1, 122, .inl wfkept_40)), (pi, .inl (g.2.2.2.1, 2, .inl fisk)), (pf, .inl (g.2.2.1, 4096, .inr (.inl wffst_41))), (pl, .inl (g.2.2.1, 4096, .inr (.inl wflst_42))), (pe, .inl (g.2.1, 4096, .inl wfbef_43)), (pm, .inl (g.2.1, 4096, .inl wfmov_44))] H → va_D A [(o, .inr (9, [.int refu, .ref pn, .ref pt, .ref pr, .ref pw, .ref pb, .int nst, .ref pk, .ref pi, .ref pf, .ref pl, .ref pe, .ref pm, .int v2_36, .ref px, .int len, .int pos, .int gd, .int ps, .int sm])), (pn, .inl (g.2.1, 61, .inl wfnow_38)), (pb, .inl (g.2.1, 366, .inl wfbook_39)), (pk, .inl (g.2.1, 122, .inl wfkept_40)), (pi, .inl (g.2.2.2.1, 2, .inl fisk)), (pf, .inl (g.2.2.1, 4096, .inr (.inl wffst_41))), (pl, .inl (g.2.2.1, 4096, .inr (.inl wflst_42))), (pe, .inl (g.2.1, 4096, .inl wfbef_43)), (pm, .inl (g.2.1, 4096, .inl wfmov_44))] → va_S A s.heap H locs → W p l e R s m args below meth c H locs 0 0 Q (F0 m 234 ls [.int t_48]) := by
            intro t_48 H locs  ls hyp hl hP hD hS
            replace hyp := (congrFun (eJ_49) t_48).symm.trans hyp
            refine lv_istore_n (lv' := [(3, .int t_48), (0, .ref o), (1, .ref pn)]) hx hb dX9_tidy_234 rfl hl (by decide) rfl (fun ls hl => ?_)
            refine lv_aload_n hx hb dX9_tidy_235 rfl (lv_at hl 1 rfl) ?_
            refine gf_X9_7 hx hb hts hown hE hP 0 rfl rfl dX9_tidy_236 ?_
            refine lv_bipush (v := 60) hx hb dX9_tidy_239 (by decide) ?_
            refine lv_aload_n hx hb dX9_tidy_241 rfl (lv_at hl 1 rfl) ?_
            refine gf_X9_7 hx hb hts hown hE hP 0 rfl rfl dX9_tidy_242 ?_
            refine lv_bipush (v := 60) hx hb dX9_tidy_245 (by decide) ?_
            obtain ⟨hi, hyp⟩ := grd_e hyp
            refine va_iald hx hb hE.1 hP 1 0 rfl rfl (inB_vp hi) dX9_tidy_247 ?_
            refine lv_iconst (v := (-1)) hx hb dX9_tidy_248 (by decide) ?_
            obtain ⟨J_51, eJ_51, hyp⟩ := jn_e hyp
            have kJ_51 : ∀ (t_50 : Int32) (H : Heap) (locs : List Loc) (ls : Array Slot), J_51 t_50 = some r → lv_has ls 6 [(0, .ref o), (1, .ref pn), (3, .int t_48)] → va_P g.1 vwCl [(o, .inr (9, [.int refu, .ref pn, .ref pt, .ref pr, .ref pw, .ref pb, .int nst, .ref pk, .ref pi, .ref pf, .ref pl, .ref pe, .ref pm, .int v2_36, .ref px, .int len, .int pos, .int gd, .int ps, .int sm])), (pn, .inl (g.2.1, 61, .inl wfnow_38)), (pb, .inl (g.2.1, 366, .inl wfbook_39)), (pk, .inl (g.2.1, 122, .inl wfkept_40)), (pi, .inl (g.2.2.2.1, 2, .inl fisk)), (pf, .inl (g.2.2.1, 4096, .inr (.inl wffst_41))), (pl, .inl (g.2.2.1, 4096, .inr (.inl wflst_42))), (pe, .inl (g.2.1, 4096, .inl wfbef_43)), (pm, .inl (g.2.1, 4096, .inl wfmov_44))] H → va_D A [(o, .inr (9, [.int refu, .ref pn, .ref pt, .ref pr, .ref pw, .ref pb, .int nst, .ref pk, .ref pi, .ref pf, .ref pl, .ref pe, .ref pm, .int v2_36, .ref px, .int len, .int pos, .int gd, .int ps, .int sm])), (pn, .inl (g.2.1, 61, .inl wfnow_38)), (pb, .inl (g.2.1, 366, .inl wfbook_39)), (pk, .inl (g.2.1, 122, .inl wfkept_40)), (pi, .inl (g.2.2.2.1, 2, .inl fisk)), (pf, .inl (g.2.2.1, 4096, .inr (.inl wffst_41))), (pl, .inl (g.2.2.1, 4096, .inr (.inl wflst_42))), (pe, .inl (g.2.1, 4096, .inl wfbef_43)), (pm, .inl (g.2.1, 4096, .inl wfmov_44))] → va_S A s.heap H locs → W p l e R s m args below meth c H locs 0 0 Q (F0 m 268 ls [.int t_50, .int 60, .ref pn]) := by
              intro t_50 H locs  ls hyp hl hP hD hS
              replace hyp := (congrFun (eJ_51) t_50).symm.trans hyp
              obtain ⟨hi, hyp⟩ := grd_e hyp
              refine va_iast hx hb hE.1 hP hD hS 1 0 rfl rfl (inB_vp hi) dX9_tidy_268 (fun H locs hP hD hS => ?_)
              have hP : va_P g.1 vwCl [(o, .inr (9, [.int refu, .ref pn, .ref pt, .ref pr, .ref pw, .ref pb, .int nst, .ref pk, .ref pi, .ref pf, .ref pl, .ref pe, .ref pm, .int v2_36, .ref px, .int len, .int pos, .int gd, .int ps, .int sm])), (pn, .inl (g.2.1, 61, .inl (upd wfnow_38 (60 : Int32).toNatClampNeg t_50))), (pb, .inl (g.2.1, 366, .inl wfbook_39)), (pk, .inl (g.2.1, 122, .inl wfkept_40)), (pi, .inl (g.2.2.2.1, 2, .inl fisk)), (pf, .inl (g.2.2.1, 4096, .inr (.inl wffst_41))), (pl, .inl (g.2.2.1, 4096, .inr (.inl wflst_42))), (pe, .inl (g.2.1, 4096, .inl wfbef_43)), (pm, .inl (g.2.1, 4096, .inl wfmov_44))] H := hP
              have hD : va_D A [(o, .inr (9, [.int refu, .ref pn, .ref pt, .ref pr, .ref pw, .ref pb, .int nst, .ref pk, .ref pi, .ref pf, .ref pl, .ref pe, .ref pm, .int v2_36, .ref px, .int len, .int pos, .int gd, .int ps, .int sm])), (pn, .inl (g.2.1, 61, .inl (upd wfnow_38 (60 : Int32).toNatClampNeg t_50))), (pb, .inl (g.2.1, 366, .inl wfbook_39)), (pk, .inl (g.2.1, 122, .inl wfkept_40)), (pi, .inl (g.2.2.2.1, 2, .inl fisk)), (pf, .inl (g.2.2.1, 4096, .inr (.inl wffst_41))), (pl, .inl (g.2.2.1, 4096, .inr (.inl wflst_42))), (pe, .inl (g.2.1, 4096, .inl wfbef_43)), (pm, .inl (g.2.1, 4096, .inl wfmov_44))] := hD
              refine lv_aload_n hx hb dX9_tidy_269 rfl (lv_at hl 1 rfl) ?_
              refine lv_bipush (v := 60) hx hb dX9_tidy_270 (by decide) ?_
              refine lv_iload_n hx hb dX9_tidy_272 rfl (lv_at hl 2 rfl) ?_
              obtain ⟨hi, hyp⟩ := grd_e hyp
              refine va_iast hx hb hE.1 hP hD hS 1 0 rfl rfl (inB_vp hi) dX9_tidy_273 (fun H locs hP hD hS => ?_)
              have hP : va_P g.1 vwCl [(o, .inr (9, [.int refu, .ref pn, .ref pt, .ref pr, .ref pw, .ref pb, .int nst, .ref pk, .ref pi, .ref pf, .ref pl, .ref pe, .ref pm, .int v2_36, .ref px, .int len, .int pos, .int gd, .int ps, .int sm])), (pn, .inl (g.2.1, 61, .inl (upd (upd wfnow_38 (60 : Int32).toNatClampNeg t_50) (60 : Int32).toNatClampNeg t_48))), (pb, .inl (g.2.1, 366, .inl wfbook_39)), (pk, .inl (g.2.1, 122, .inl wfkept_40)), (pi, .inl (g.2.2.2.1, 2, .inl fisk)), (pf, .inl (g.2.2.1, 4096, .inr (.inl wffst_41))), (pl, .inl (g.2.2.1, 4096, .inr (.inl wflst_42))), (pe, .inl (g.2.1, 4096, .inl wfbef_43)), (pm, .inl (g.2.1, 4096, .inl wfmov_44))] H := hP
              have hD : va_D A [(o, .inr (9, [.int refu, .ref pn, .ref pt, .ref pr, .ref pw, .ref pb, .int nst, .ref pk, .ref pi, .ref pf, .ref pl, .ref pe, .ref pm, .int v2_36, .ref px, .int len, .int pos, .int gd, .int ps, .int sm])), (pn, .inl (g.2.1, 61, .inl (upd (upd wfnow_38 (60 : Int32).toNatClampNeg t_50) (60 : Int32).toNatClampNeg t_48))), (pb, .inl (g.2.1, 366, .inl wfbook_39)), (pk, .inl (g.2.1, 122, .inl wfkept_40)), (pi, .inl (g.2.2.2.1, 2, .inl fisk)), (pf, .inl (g.2.2.1, 4096, .inr (.inl wffst_41))), (pl, .inl (g.2.2.1, 4096, .inr (.inl wflst_42))), (pe, .inl (g.2.1, 4096, .inl wfbef_43)), (pm, .inl (g.2.1, 4096, .inl wfmov_44))] := hD
              refine lv_iconst (v := 0) hx hb dX9_tidy_274 (by decide) ?_
              refine lv_istore (lv' := [(4, .int 0), (0, .ref o), (1, .ref pn), (3, .int t_48)]) hx hb dX9_tidy_275 hl (by decide) rfl (fun ls hl => ?_)
              refine lp_i (r := r) (fun z : Int32 × (Nat → Int32) × (Nat → Int32) × (Nat → Int32) × (Nat → Int64) × (Nat → Int64) × (Nat → Int32) × (Nat → Int32) × Int32 => ∀ (H : Heap) (locs : List Loc) (ls : Array Slot), lv_has ls 6 [(0, .ref o), (4, .int z.1)] → va_P g.1 vwCl [(o, .inr (9, [.int refu, .ref pn, .ref pt, .ref pr, .ref pw, .ref pb, .int nst, .ref pk, .ref pi, .ref pf, .ref pl, .ref pe, .ref pm, .int z.2.2.2.2.2.2.2.2, .ref px, .int len, .int pos, .int gd, .int ps, .int sm])), (pn, .inl (g.2.1, 61, .inl z.2.1)), (pb, .inl (g.2.1, 366, .inl z.2.2.1)), (pk, .inl (g.2.1, 122, .inl z.2.2.2.1)), (pi, .inl (g.2.2.2.1, 2, .inl fisk)), (pf, .inl (g.2.2.1, 4096, .inr (.inl z.2.2.2.2.1))), (pl, .inl (g.2.2.1, 4096, .inr (.inl z.2.2.2.2.2.1))), (pe, .inl (g.2.1, 4096, .inl z.2.2.2.2.2.2.1)), (pm, .inl (g.2.1, 4096, .inl z.2.2.2.2.2.2.2.1))] H → va_D A [(o, .inr (9, [.int refu, .ref pn, .ref pt, .ref pr, .ref pw, .ref pb, .int nst, .ref pk, .ref pi, .ref pf, .ref pl, .ref pe, .ref pm, .int z.2.2.2.2.2.2.2.2, .ref px, .int len, .int pos, .int gd, .int ps, .int sm])), (pn, .inl (g.2.1, 61, .inl z.2.1)), (pb, .inl (g.2.1, 366, .inl z.2.2.1)), (pk, .inl (g.2.1, 122, .inl z.2.2.2.1)), (pi, .inl (g.2.2.2.1, 2, .inl fisk)), (pf, .inl (g.2.2.1, 4096, .inr (.inl z.2.2.2.2.1))), (pl, .inl (g.2.2.1, 4096, .inr (.inl z.2.2.2.2.2.1))), (pe, .inl (g.2.1, 4096, .inl z.2.2.2.2.2.2.1)), (pm, .inl (g.2.1, 4096, .inl z.2.2.2.2.2.2.2.1))] → va_S A s.heap H locs → W p l e R s m args below meth c H locs 0 0 Q (F0 m 277 ls [])) ?_ 4100 (0, upd (upd wfnow_38 (60 : Int32).toNatClampNeg t_50) (60 : Int32).toNatClampNeg t_48, wfbook_39, wfkept_40, wffst_41, wflst_42, wfbef_43, wfmov_44, v2_36) hyp _ _ ls (lv_sub hl [1, 0] rfl) hP hD hS
              intro self_61T ihself_61T z hyp H locs ls hl hP hD hS
              obtain ⟨v4_52, wfnow_53, wfbook_54, wfkept_55, wffst_56, wflst_57, wfbef_58, wfmov_59, wnn_60⟩ := z
              obtain ⟨self_61, eself_61⟩ : ∃ f9 : Int32 → (Nat → Int32) → (Nat → Int32) → (Nat → Int32) → (Nat → Int64) → (Nat → Int64) → (Nat → Int32) → (Nat → Int32) → Int32 → Option ((Nat → Int32) × (Nat → Int32) × (Nat → Int32) × (Nat → Int64) × (Nat → Int64) × (Nat → Int32) × (Nat → Int32) × Int32), f9 = fun v4_52 wfnow_53 wfbook_54 wfkept_55 wffst_56 wflst_57 wfbef_58 wfmov_59 wnn_60 => self_61T (v4_52, wfnow_53, wfbook_54, wfkept_55, wffst_56, wflst_57, wfbef_58, wfmov_59, wnn_60) := ⟨_, rfl⟩
              have ihself_61 := fun (v4_52 : Int32) (wfnow_53 : Nat → Int32) (wfbook_54 : Nat → Int32) (wfkept_55 : Nat → Int32) (wffst_56 : Nat → Int64) (wflst_57 : Nat → Int64) (wfbef_58 : Nat → Int32) (wfmov_59 : Nat → Int32) (wnn_60 : Int32) (h9 : self_61 v4_52 wfnow_53 wfbook_54 wfkept_55 wffst_56 wflst_57 wfbef_58 wfmov_59 wnn_60 = some r) => ihself_61T (v4_52, wfnow_53, wfbook_54, wfkept_55, wffst_56, wflst_57, wfbef_58, wfmov_59, wnn_60) (by rw [eself_61] at h9; exact h9)
              replace hyp : fX9_tidyN_L277_B nst fisk self_61 v4_52 wfnow_53 wfbook_54 wfkept_55 wffst_56 wflst_57 wfbef_58 wfmov_59 wnn_60 = some r := by rw [eself_61]; exact hyp
              have hl : lv_has ls 6 [(0, .ref o), (4, .int v4_52)] := hl
              have hP : va_P g.1 vwCl [(o, .inr (9, [.int refu, .ref pn, .ref pt, .ref pr, .ref pw, .ref pb, .int nst, .ref pk, .ref pi, .ref pf, .ref pl, .ref pe, .ref pm, .int wnn_60, .ref px, .int len, .int pos, .int gd, .int ps, .int sm])), (pn, .inl (g.2.1, 61, .inl wfnow_53)), (pb, .inl (g.2.1, 366, .inl wfbook_54)), (pk, .inl (g.2.1, 122, .inl wfkept_55)), (pi, .inl (g.2.2.2.1, 2, .inl fisk)), (pf, .inl (g.2.2.1, 4096, .inr (.inl wffst_56))), (pl, .inl (g.2.2.1, 4096, .inr (.inl wflst_57))), (pe, .inl (g.2.1, 4096, .inl wfbef_58)), (pm, .inl (g.2.1, 4096, .inl wfmov_59))] H := hP
              have hD : va_D A [(o, .inr (9, [.int refu, .ref pn, .ref pt, .ref pr, .ref pw, .ref pb, .int nst, .ref pk, .ref pi, .ref pf, .ref pl, .ref pe, .ref pm, .int wnn_60, .ref px, .int len, .int pos, .int gd, .int ps, .int sm])), (pn, .inl (g.2.1, 61, .inl wfnow_53)), (pb, .inl (g.2.1, 366, .inl wfbook_54)), (pk, .inl (g.2.1, 122, .inl wfkept_55)), (pi, .inl (g.2.2.2.1, 2, .inl fisk)), (pf, .inl (g.2.2.1, 4096, .inr (.inl wffst_56))), (pl, .inl (g.2.2.1, 4096, .inr (.inl wflst_57))), (pe, .inl (g.2.1, 4096, .inl wfbef_58)), (pm, .inl (g.2.1, 4096, .inl wfmov_59))] := hD
              show W p l e R s m args below meth c H locs 0 0 Q (F0 m 277 ls [])
              unfold fX9_tidyN_L277_B at hyp
              refine lv_iload hx hb dX9_tidy_277 (lv_at hl 1 rfl) ?_
              refine lv_aload_n hx hb dX9_tidy_279 rfl (lv_at hl 0 rfl) ?_
              refine gf_X9_111 hx hb hts hown hE hP 0 rfl rfl dX9_tidy_280 ?_
              refine lv_icmp_ge (tgt := 337) hx hb dX9_tidy_283 (by decide) (fun h_62 => ?_) (fun h_62 => ?_)
              · replace hyp := ite_t h_62 hyp
                refine lv_iconst (v := 0) hx hb dX9_tidy_337 (by decide) ?_
                refine lv_istore (lv' := [(4, .int 0), (0, .ref o)]) hx hb dX9_tidy_338 hl (by decide) rfl (fun ls hl => ?_)
                refine lp_i (r := r) (fun z : Int32 × (Nat → Int32) × (Nat → Int32) × (Nat → Int32) × (Nat → Int64) × (Nat → Int64) × (Nat → Int32) × (Nat → Int32) × Int32 => ∀ (H : Heap) (locs : List Loc) (ls : Array Slot), lv_has ls 6 [(0, .ref o), (4, .int z.1)] → va_P g.1 vwCl [(o, .inr (9, [.int refu, .ref pn, .ref pt, .ref pr, .ref pw, .ref pb, .int nst, .ref pk, .ref pi, .ref pf, .ref pl, .ref pe, .ref pm, .int z.2.2.2.2.2.2.2.2, .ref px, .int len, .int pos, .int gd, .int ps, .int sm])), (pn, .inl (g.2.1, 61, .inl z.2.1)), (pb, .inl (g.2.1, 366, .inl z.2.2.1)), (pk, .inl (g.2.1, 122, .inl z.2.2.2.1)), (pi, .inl (g.2.2.2.1, 2, .inl fisk)), (pf, .inl (g.2.2.1, 4096, .inr (.inl z.2.2.2.2.1))), (pl, .inl (g.2.2.1, 4096, .inr (.inl z.2.2.2.2.2.1))), (pe, .inl (g.2.1, 4096, .inl z.2.2.2.2.2.2.1)), (pm, .inl (g.2.1, 4096, .inl z.2.2.2.2.2.2.2.1))] H → va_D A [(o, .inr (9, [.int refu, .ref pn, .ref pt, .ref pr, .ref pw, .ref pb, .int nst, .ref pk, .ref pi, .ref pf, .ref pl, .ref pe, .ref pm, .int z.2.2.2.2.2.2.2.2, .ref px, .int len, .int pos, .int gd, .int ps, .int sm])), (pn, .inl (g.2.1, 61, .inl z.2.1)), (pb, .inl (g.2.1, 366, .inl z.2.2.1)), (pk, .inl (g.2.1, 122, .inl z.2.2.2.1)), (pi, .inl (g.2.2.2.1, 2, .inl fisk)), (pf, .inl (g.2.2.1, 4096, .inr (.inl z.2.2.2.2.1))), (pl, .inl (g.2.2.1, 4096, .inr (.inl z.2.2.2.2.2.1))), (pe, .inl (g.2.1, 4096, .inl z.2.2.2.2.2.2.1)), (pm, .inl (g.2.1, 4096, .inl z.2.2.2.2.2.2.2.1))] → va_S A s.heap H locs → W p l e R s m args below meth c H locs 0 0 Q (F0 m 340 ls [])) ?_ 4100 (0, wfnow_53, wfbook_54, wfkept_55, wffst_56, wflst_57, wfbef_58, wfmov_59, wnn_60) hyp _ _ ls (lv_sub hl [1, 0] rfl) hP hD hS
                intro self_72T ihself_72T z hyp H locs ls hl hP hD hS
                obtain ⟨v4_63, wfnow_64, wfbook_65, wfkept_66, wffst_67, wflst_68, wfbef_69, wfmov_70, wnn_71⟩ := z
                obtain ⟨self_72, eself_72⟩ : ∃ f9 : Int32 → (Nat → Int32) → (Nat → Int32) → (Nat → Int32) → (Nat → Int64) → (Nat → Int64) → (Nat → Int32) → (Nat → Int32) → Int32 → Option ((Nat → Int32) × (Nat → Int32) × (Nat → Int32) × (Nat → Int64) × (Nat → Int64) × (Nat → Int32) × (Nat → Int32) × Int32), f9 = fun v4_63 wfnow_64 wfbook_65 wfkept_66 wffst_67 wflst_68 wfbef_69 wfmov_70 wnn_71 => self_72T (v4_63, wfnow_64, wfbook_65, wfkept_66, wffst_67, wflst_68, wfbef_69, wfmov_70, wnn_71) := ⟨_, rfl⟩
                have ihself_72 := fun (v4_63 : Int32) (wfnow_64 : Nat → Int32) (wfbook_65 : Nat → Int32) (wfkept_66 : Nat → Int32) (wffst_67 : Nat → Int64) (wflst_68 : Nat → Int64) (wfbef_69 : Nat → Int32) (wfmov_70 : Nat → Int32) (wnn_71 : Int32) (h9 : self_72 v4_63 wfnow_64 wfbook_65 wfkept_66 wffst_67 wflst_68 wfbef_69 wfmov_70 wnn_71 = some r) => ihself_72T (v4_63, wfnow_64, wfbook_65, wfkept_66, wffst_67, wflst_68, wfbef_69, wfmov_70, wnn_71) (by rw [eself_72] at h9; exact h9)
                replace hyp : fX9_tidyN_L340_B fisk self_72 v4_63 wfnow_64 wfbook_65 wfkept_66 wffst_67 wflst_68 wfbef_69 wfmov_70 wnn_71 = some r := by rw [eself_72]; exact hyp
                have hl : lv_has ls 6 [(0, .ref o), (4, .int v4_63)] := hl
                have hP : va_P g.1 vwCl [(o, .inr (9, [.int refu, .ref pn, .ref pt, .ref pr, .ref pw, .ref pb, .int nst, .ref pk, .ref pi, .ref pf, .ref pl, .ref pe, .ref pm, .int wnn_71, .ref px, .int len, .int pos, .int gd, .int ps, .int sm])), (pn, .inl (g.2.1, 61, .inl wfnow_64)), (pb, .inl (g.2.1, 366, .inl wfbook_65)), (pk, .inl (g.2.1, 122, .inl wfkept_66)), (pi, .inl (g.2.2.2.1, 2, .inl fisk)), (pf, .inl (g.2.2.1, 4096, .inr (.inl wffst_67))), (pl, .inl (g.2.2.1, 4096, .inr (.inl wflst_68))), (pe, .inl (g.2.1, 4096, .inl wfbef_69)), (pm, .inl (g.2.1, 4096, .inl wfmov_70))] H := hP
                have hD : va_D A [(o, .inr (9, [.int refu, .ref pn, .ref pt, .ref pr, .ref pw, .ref pb, .int nst, .ref pk, .ref pi, .ref pf, .ref pl, .ref pe, .ref pm, .int wnn_71, .ref px, .int len, .int pos, .int gd, .int ps, .int sm])), (pn, .inl (g.2.1, 61, .inl wfnow_64)), (pb, .inl (g.2.1, 366, .inl wfbook_65)), (pk, .inl (g.2.1, 122, .inl wfkept_66)), (pi, .inl (g.2.2.2.1, 2, .inl fisk)), (pf, .inl (g.2.2.1, 4096, .inr (.inl wffst_67))), (pl, .inl (g.2.2.1, 4096, .inr (.inl wflst_68))), (pe, .inl (g.2.1, 4096, .inl wfbef_69)), (pm, .inl (g.2.1, 4096, .inl wfmov_70))] := hD
                show W p l e R s m args below meth c H locs 0 0 Q (F0 m 340 ls [])
                unfold fX9_tidyN_L340_B at hyp
                refine lv_iload hx hb dX9_tidy_340 (lv_at hl 1 rfl) ?_
                refine lv_iconst (v := 2) hx hb dX9_tidy_342 (by decide) ?_
                refine lv_icmp_ge (tgt := 407) hx hb dX9_tidy_343 (by decide) (fun h_73 => ?_) (fun h_73 => ?_)
                · replace hyp := ite_t h_73 hyp
                  have hyp := some_e hyp
                  subst hyp
                  subst hQ
                  exact rwV hx hb hr hlocks  hP hD hS dX9_tidy_407
                · replace hyp := ite_f h_73 hyp
                  refine lv_aload_n hx hb dX9_tidy_346 rfl (lv_at hl 0 rfl) ?_
                  refine gf_X9_25 hx hb hts hown hE hP 0 rfl rfl dX9_tidy_347 ?_
                  refine lv_bipush (v := 61) hx hb dX9_tidy_350 (by decide) ?_
                  refine lv_iload hx hb dX9_tidy_352 (lv_at hl 1 rfl) ?_
                  refine lv_imul hx hb dX9_tidy_354 ?_
                  refine lv_bipush (v := 60) hx hb dX9_tidy_355 (by decide) ?_
                  refine lv_iadd hx hb dX9_tidy_357 ?_
                  obtain ⟨hi, hyp⟩ := grd_e hyp
                  refine va_iald hx hb hE.1 hP 3 0 rfl rfl (inB_vp hi) dX9_tidy_358 ?_
                  obtain ⟨v5_74, ev5_74, hyp⟩ := bnd_e hyp
                  refine lv_eqi ev5_74 ?_
                  refine lv_istore (lv' := [(5, .int v5_74), (0, .ref o), (4, .int v4_63)]) hx hb dX9_tidy_359 hl (by decide) rfl (fun ls hl => ?_)
                  refine lv_aload_n hx hb dX9_tidy_361 rfl (lv_at hl 1 rfl) ?_
                  refine gf_X9_25 hx hb hts hown hE hP 0 rfl rfl dX9_tidy_362 ?_
                  refine lv_bipush (v := 61) hx hb dX9_tidy_365 (by decide) ?_
                  refine lv_iload hx hb dX9_tidy_367 (lv_at hl 2 rfl) ?_
                  refine lv_imul hx hb dX9_tidy_369 ?_
                  refine lv_bipush (v := 60) hx hb dX9_tidy_370 (by decide) ?_
                  refine lv_iadd hx hb dX9_tidy_372 ?_
                  refine lv_aload_n hx hb dX9_tidy_373 rfl (lv_at hl 1 rfl) ?_
                  refine gf_X9_28 hx hb hts hown hE hP 0 rfl rfl dX9_tidy_374 ?_
                  refine lv_iload hx hb dX9_tidy_377 (lv_at hl 2 rfl) ?_
                  obtain ⟨hi, hyp⟩ := grd_e hyp
                  refine va_zald hx hb hE.1 hP 4 2 rfl rfl (inB_vp hi) dX9_tidy_379 ?_
                  obtain ⟨J_76, eJ_76, hyp⟩ := jn_e hyp
                  have kJ_76 : ∀ (t_75 : Int32) (H : Heap) (locs : List Loc) (ls : Array Slot), J_76 t_75 = some r → lv_has ls 6 [(0, .ref o), (4, .int v4_63)] → va_P g.1 vwCl [(o, .inr (9, [.int refu, .ref pn, .ref pt, .ref pr, .ref pw, .ref pb, .int nst, .ref pk, .ref pi, .ref pf, .ref pl, .ref pe, .ref pm, .int wnn_71, .ref px, .int len, .int pos, .int gd, .int ps, .int sm])), (pn, .inl (g.2.1, 61, .inl wfnow_64)), (pb, .inl (g.2.1, 366, .inl wfbook_65)), (pk, .inl (g.2.1, 122, .inl wfkept_66)), (pi, .inl (g.2.2.2.1, 2, .inl fisk)), (pf, .inl (g.2.2.1, 4096, .inr (.inl wffst_67))), (pl, .inl (g.2.2.1, 4096, .inr (.inl wflst_68))), (pe, .inl (g.2.1, 4096, .inl wfbef_69)), (pm, .inl (g.2.1, 4096, .inl wfmov_70))] H → va_D A [(o, .inr (9, [.int refu, .ref pn, .ref pt, .ref pr, .ref pw, .ref pb, .int nst, .ref pk, .ref pi, .ref pf, .ref pl, .ref pe, .ref pm, .int wnn_71, .ref px, .int len, .int pos, .int gd, .int ps, .int sm])), (pn, .inl (g.2.1, 61, .inl wfnow_64)), (pb, .inl (g.2.1, 366, .inl wfbook_65)), (pk, .inl (g.2.1, 122, .inl wfkept_66)), (pi, .inl (g.2.2.2.1, 2, .inl fisk)), (pf, .inl (g.2.2.1, 4096, .inr (.inl wffst_67))), (pl, .inl (g.2.2.1, 4096, .inr (.inl wflst_68))), (pe, .inl (g.2.1, 4096, .inl wfbef_69)), (pm, .inl (g.2.1, 4096, .inl wfmov_70))] → va_S A s.heap H locs → W p l e R s m args below meth c H locs 0 0 Q (F0 m 400 ls [.int t_75, .int ((61 * v4_63) + 60), .ref pk]) := by
                    intro t_75 H locs  ls hyp hl hP hD hS
                    replace hyp := (congrFun (eJ_76) t_75).symm.trans hyp
                    obtain ⟨hi, hyp⟩ := grd_e hyp
                    refine va_iast hx hb hE.1 hP hD hS 3 0 rfl rfl (inB_vp hi) dX9_tidy_400 (fun H locs hP hD hS => ?_)
                    have hP : va_P g.1 vwCl [(o, .inr (9, [.int refu, .ref pn, .ref pt, .ref pr, .ref pw, .ref pb, .int nst, .ref pk, .ref pi, .ref pf, .ref pl, .ref pe, .ref pm, .int wnn_71, .ref px, .int len, .int pos, .int gd, .int ps, .int sm])), (pn, .inl (g.2.1, 61, .inl wfnow_64)), (pb, .inl (g.2.1, 366, .inl wfbook_65)), (pk, .inl (g.2.1, 122, .inl (upd wfkept_66 ((61 * v4_63) + 60).toNatClampNeg t_75))), (pi, .inl (g.2.2.2.1, 2, .inl fisk)), (pf, .inl (g.2.2.1, 4096, .inr (.inl wffst_67))), (pl, .inl (g.2.2.1, 4096, .inr (.inl wflst_68))), (pe, .inl (g.2.1, 4096, .inl wfbef_69)), (pm, .inl (g.2.1, 4096, .inl wfmov_70))] H := hP
                    have hD : va_D A [(o, .inr (9, [.int refu, .ref pn, .ref pt, .ref pr, .ref pw, .ref pb, .int nst, .ref pk, .ref pi, .ref pf, .ref pl, .ref pe, .ref pm, .int wnn_71, .ref px, .int len, .int pos, .int gd, .int ps, .int sm])), (pn, .inl (g.2.1, 61, .inl wfnow_64)), (pb, .inl (g.2.1, 366, .inl wfbook_65)), (pk, .inl (g.2.1, 122, .inl (upd wfkept_66 ((61 * v4_63) + 60).toNatClampNeg t_75))), (pi, .inl (g.2.2.2.1, 2, .inl fisk)), (pf, .inl (g.2.2.1, 4096, .inr (.inl wffst_67))), (pl, .inl (g.2.2.1, 4096, .inr (.inl wflst_68))), (pe, .inl (g.2.1, 4096, .inl wfbef_69)), (pm, .inl (g.2.1, 4096, .inl wfmov_70))] := hD
                    refine lv_iinc (v := v4_63 + 1) (lv' := [(4, .int (v4_63 + 1)), (0, .ref o)]) hx hb dX9_tidy_401 hl (k := 1) rfl rfl (by decide) rfl (fun ls hl => ?_)
                    refine lv_goto (tgt := 340) hx hb dX9_tidy_404 (by decide) ?_
                    exact ihself_72 (v4_63 + 1) wfnow_64 wfbook_65 (upd wfkept_66 ((61 * v4_63) + 60).toNatClampNeg t_75) wffst_67 wflst_68 wfbef_69 wfmov_70 wnn_71 hyp H locs ls (lv_sub hl [1, 0] rfl) hP hD hS
                  obtain ⟨J_77, eJ_77, hyp⟩ := jn_e hyp
                  have kJ_77 : ∀ (H : Heap) (locs : List Loc) (ls : Array Slot), J_77 = some r → lv_has ls 6 [(0, .ref o), (4, .int v4_63)] → va_P g.1 vwCl [(o, .inr (9, [.int refu, .ref pn, .ref pt, .ref pr, .ref pw, .ref pb, .int nst, .ref pk, .ref pi, .ref pf, .ref pl, .ref pe, .ref pm, .int wnn_71, .ref px, .int len, .int pos, .int gd, .int ps, .int sm])), (pn, .inl (g.2.1, 61, .inl wfnow_64)), (pb, .inl (g.2.1, 366, .inl wfbook_65)), (pk, .inl (g.2.1, 122, .inl wfkept_66)), (pi, .inl (g.2.2.2.1, 2, .inl fisk)), (pf, .inl (g.2.2.1, 4096, .inr (.inl wffst_67))), (pl, .inl (g.2.2.1, 4096, .inr (.inl wflst_68))), (pe, .inl (g.2.1, 4096, .inl wfbef_69)), (pm, .inl (g.2.1, 4096, .inl wfmov_70))] H → va_D A [(o, .inr (9, [.int refu, .ref pn, .ref pt, .ref pr, .ref pw, .ref pb, .int nst, .ref pk, .ref pi, .ref pf, .ref pl, .ref pe, .ref pm, .int wnn_71, .ref px, .int len, .int pos, .int gd, .int ps, .int sm])), (pn, .inl (g.2.1, 61, .inl wfnow_64)), (pb, .inl (g.2.1, 366, .inl wfbook_65)), (pk, .inl (g.2.1, 122, .inl wfkept_66)), (pi, .inl (g.2.2.2.1, 2, .inl fisk)), (pf, .inl (g.2.2.1, 4096, .inr (.inl wffst_67))), (pl, .inl (g.2.2.1, 4096, .inr (.inl wflst_68))), (pe, .inl (g.2.1, 4096, .inl wfbef_69)), (pm, .inl (g.2.1, 4096, .inl wfmov_70))] → va_S A s.heap H locs → W p l e R s m args below meth c H locs 0 0 Q (F0 m 389 ls [.int ((61 * v4_63) + 60), .ref pk]) := by
                    intro H locs  ls hyp hl hP hD hS
                    replace hyp := (eJ_77).symm.trans hyp
                    refine lv_iconst (v := (-1)) hx hb dX9_tidy_389 (by decide) ?_
                    refine lv_goto (tgt := 400) hx hb dX9_tidy_390 (by decide) ?_
                    exact kJ_76 (-1) H locs ls hyp hl hP hD hS
                  refine lv_if_eq (tgt := 389) hx hb dX9_tidy_380 (by decide) (fun h_78 => ?_) (fun h_78 => ?_)
                  · replace hyp := ite_t h_78 hyp
                    exact kJ_77 H locs ls hyp (lv_sub hl [1, 2] rfl) hP hD hS
                  · replace hyp := ite_f h_78 hyp
                    refine lv_iload hx hb dX9_tidy_383 (lv_at hl 0 rfl) ?_
                    refine lv_iconst (v := (-1)) hx hb dX9_tidy_385 (by decide) ?_
                    refine lv_icmp_ne (tgt := 393) hx hb dX9_tidy_386 (by decide) (fun h_79 => ?_) (fun h_79 => ?_)
                    · replace hyp := ite_f h_79 hyp
                      refine lv_aload_n hx hb dX9_tidy_393 rfl (lv_at hl 1 rfl) ?_
                      refine gf_X9_42 hx hb hts hown hE hP 0 rfl rfl dX9_tidy_394 ?_
                      refine lv_iload hx hb dX9_tidy_397 (lv_at hl 0 rfl) ?_
                      obtain ⟨hi, hyp⟩ := grd_e hyp
                      refine va_iald hx hb hE.1 hP 8 0 rfl rfl (inB_vp hi) dX9_tidy_399 ?_
                      exact kJ_76 (wfmov_70 v5_74.toNatClampNeg) H locs ls hyp (lv_sub hl [1, 2] rfl) hP hD hS
                    · replace hyp := ite_t h_79 hyp
                      exact kJ_77 H locs ls hyp (lv_sub hl [1, 2] rfl) hP hD hS
              · replace hyp := ite_f h_62 hyp
                refine lv_aload_n hx hb dX9_tidy_286 rfl (lv_at hl 0 rfl) ?_
                refine gf_X9_22 hx hb hts hown hE hP 0 rfl rfl dX9_tidy_287 ?_
                refine lv_bipush (v := 61) hx hb dX9_tidy_290 (by decide) ?_
                refine lv_iload hx hb dX9_tidy_292 (lv_at hl 1 rfl) ?_
                refine lv_imul hx hb dX9_tidy_294 ?_
                refine lv_bipush (v := 60) hx hb dX9_tidy_295 (by decide) ?_
                refine lv_iadd hx hb dX9_tidy_297 ?_
                obtain ⟨hi, hyp⟩ := grd_e hyp
                refine va_iald hx hb hE.1 hP 2 0 rfl rfl (inB_vp hi) dX9_tidy_298 ?_
                obtain ⟨v5_80, ev5_80, hyp⟩ := bnd_e hyp
                refine lv_eqi ev5_80 ?_
                refine lv_istore (lv' := [(5, .int v5_80), (0, .ref o), (4, .int v4_52)]) hx hb dX9_tidy_299 hl (by decide) rfl (fun ls hl => ?_)
                refine lv_aload_n hx hb dX9_tidy_301 rfl (lv_at hl 1 rfl) ?_
                refine gf_X9_22 hx hb hts hown hE hP 0 rfl rfl dX9_tidy_302 ?_
                refine lv_bipush (v := 61) hx hb dX9_tidy_305 (by decide) ?_
                refine lv_iload hx hb dX9_tidy_307 (lv_at hl 2 rfl) ?_
                refine lv_imul hx hb dX9_tidy_309 ?_
                refine lv_bipush (v := 60) hx hb dX9_tidy_310 (by decide) ?_
                refine lv_iadd hx hb dX9_tidy_312 ?_
                refine lv_iload hx hb dX9_tidy_313 (lv_at hl 0 rfl) ?_
                refine lv_iconst (v := (-1)) hx hb dX9_tidy_315 (by decide) ?_
                obtain ⟨J_82, eJ_82, hyp⟩ := jn_e hyp
                have kJ_82 : ∀ (t_81 : Int32) (H : Heap) (locs : List Loc) (ls : Array Slot), J_82 t_81 = some r → lv_has ls 6 [(0, .ref o), (4, .int v4_52)] → va_P g.1 vwCl [(o, .inr (9, [.int refu, .ref pn, .ref pt, .ref pr, .ref pw, .ref pb, .int nst, .ref pk, .ref pi, .ref pf, .ref pl, .ref pe, .ref pm, .int wnn_60, .ref px, .int len, .int pos, .int gd, .int ps, .int sm])), (pn, .inl (g.2.1, 61, .inl wfnow_53)), (pb, .inl (g.2.1, 366, .inl wfbook_54)), (pk, .inl (g.2.1, 122, .inl wfkept_55)), (pi, .inl (g.2.2.2.1, 2, .inl fisk)), (pf, .inl (g.2.2.1, 4096, .inr (.inl wffst_56))), (pl, .inl (g.2.2.1, 4096, .inr (.inl wflst_57))), (pe, .inl (g.2.1, 4096, .inl wfbef_58)), (pm, .inl (g.2.1, 4096, .inl wfmov_59))] H → va_D A [(o, .inr (9, [.int refu, .ref pn, .ref pt, .ref pr, .ref pw, .ref pb, .int nst, .ref pk, .ref pi, .ref pf, .ref pl, .ref pe, .ref pm, .int wnn_60, .ref px, .int len, .int pos, .int gd, .int ps, .int sm])), (pn, .inl (g.2.1, 61, .inl wfnow_53)), (pb, .inl (g.2.1, 366, .inl wfbook_54)), (pk, .inl (g.2.1, 122, .inl wfkept_55)), (pi, .inl (g.2.2.2.1, 2, .inl fisk)), (pf, .inl (g.2.2.1, 4096, .inr (.inl wffst_56))), (pl, .inl (g.2.2.1, 4096, .inr (.inl wflst_57))), (pe, .inl (g.2.1, 4096, .inl wfbef_58)), (pm, .inl (g.2.1, 4096, .inl wfmov_59))] → va_S A s.heap H locs → W p l e R s m args below meth c H locs 0 0 Q (F0 m 330 ls [.int t_81, .int ((61 * v4_52) + 60), .ref pb]) := by
                  intro t_81 H locs  ls hyp hl hP hD hS
                  replace hyp := (congrFun (eJ_82) t_81).symm.trans hyp
                  obtain ⟨hi, hyp⟩ := grd_e hyp
                  refine va_iast hx hb hE.1 hP hD hS 2 0 rfl rfl (inB_vp hi) dX9_tidy_330 (fun H locs hP hD hS => ?_)
                  have hP : va_P g.1 vwCl [(o, .inr (9, [.int refu, .ref pn, .ref pt, .ref pr, .ref pw, .ref pb, .int nst, .ref pk, .ref pi, .ref pf, .ref pl, .ref pe, .ref pm, .int wnn_60, .ref px, .int len, .int pos, .int gd, .int ps, .int sm])), (pn, .inl (g.2.1, 61, .inl wfnow_53)), (pb, .inl (g.2.1, 366, .inl (upd wfbook_54 ((61 * v4_52) + 60).toNatClampNeg t_81))), (pk, .inl (g.2.1, 122, .inl wfkept_55)), (pi, .inl (g.2.2.2.1, 2, .inl fisk)), (pf, .inl (g.2.2.1, 4096, .inr (.inl wffst_56))), (pl, .inl (g.2.2.1, 4096, .inr (.inl wflst_57))), (pe, .inl (g.2.1, 4096, .inl wfbef_58)), (pm, .inl (g.2.1, 4096, .inl wfmov_59))] H := hP
                  have hD : va_D A [(o, .inr (9, [.int refu, .ref pn, .ref pt, .ref pr, .ref pw, .ref pb, .int nst, .ref pk, .ref pi, .ref pf, .ref pl, .ref pe, .ref pm, .int wnn_60, .ref px, .int len, .int pos, .int gd, .int ps, .int sm])), (pn, .inl (g.2.1, 61, .inl wfnow_53)), (pb, .inl (g.2.1, 366, .inl (upd wfbook_54 ((61 * v4_52) + 60).toNatClampNeg t_81))), (pk, .inl (g.2.1, 122, .inl wfkept_55)), (pi, .inl (g.2.2.2.1, 2, .inl fisk)), (pf, .inl (g.2.2.1, 4096, .inr (.inl wffst_56))), (pl, .inl (g.2.2.1, 4096, .inr (.inl wflst_57))), (pe, .inl (g.2.1, 4096, .inl wfbef_58)), (pm, .inl (g.2.1, 4096, .inl wfmov_59))] := hD
                  refine lv_iinc (v := v4_52 + 1) (lv' := [(4, .int (v4_52 + 1)), (0, .ref o)]) hx hb dX9_tidy_331 hl (k := 1) rfl rfl (by decide) rfl (fun ls hl => ?_)
                  refine lv_goto (tgt := 277) hx hb dX9_tidy_334 (by decide) ?_
                  exact ihself_61 (v4_52 + 1) wfnow_53 (upd wfbook_54 ((61 * v4_52) + 60).toNatClampNeg t_81) wfkept_55 wffst_56 wflst_57 wfbef_58 wfmov_59 wnn_60 hyp H locs ls (lv_sub hl [1, 0] rfl) hP hD hS
                refine lv_icmp_ne (tgt := 323) hx hb dX9_tidy_316 (by decide) (fun h_83 => ?_) (fun h_83 => ?_)
                · replace hyp := ite_f h_83 hyp
                  refine lv_aload_n hx hb dX9_tidy_323 rfl (lv_at hl 1 rfl) ?_
                  refine gf_X9_42 hx hb hts hown hE hP 0 rfl rfl dX9_tidy_324 ?_
                  refine lv_iload hx hb dX9_tidy_327 (lv_at hl 0 rfl) ?_
                  obtain ⟨hi, hyp⟩ := grd_e hyp
                  refine va_iald hx hb hE.1 hP 8 0 rfl rfl (inB_vp hi) dX9_tidy_329 ?_
                  exact kJ_82 (wfmov_59 v5_80.toNatClampNeg) H locs ls hyp (lv_sub hl [1, 2] rfl) hP hD hS
                · replace hyp := ite_t h_83 hyp
                  refine lv_iconst (v := (-1)) hx hb dX9_tidy_319 (by decide) ?_
                  refine lv_goto (tgt := 330) hx hb dX9_tidy_320 (by decide) ?_
                  exact kJ_82 (-1) H locs ls hyp (lv_sub hl [1, 2] rfl) hP hD hS
            refine lv_icmp_ne (tgt := 256) hx hb dX9_tidy_249 (by decide) (fun h_84 => ?_) (fun h_84 => ?_)
            · replace hyp := ite_f h_84 hyp
              refine lv_aload_n hx hb dX9_tidy_256 rfl (lv_at hl 1 rfl) ?_
              refine gf_X9_42 hx hb hts hown hE hP 0 rfl rfl dX9_tidy_257 ?_
              refine lv_aload_n hx hb dX9_tidy_260 rfl (lv_at hl 1 rfl) ?_
              refine gf_X9_7 hx hb hts hown hE hP 0 rfl rfl dX9_tidy_261 ?_
              refine lv_bipush (v := 60) hx hb dX9_tidy_264 (by decide) ?_
              obtain ⟨hi, hyp⟩ := grd_e hyp
              refine va_iald hx hb hE.1 hP 1 0 rfl rfl (inB_vp hi) dX9_tidy_266 ?_
              obtain ⟨hi, hyp⟩ := grd_e hyp
              refine va_iald hx hb hE.1 hP 8 0 rfl rfl (inB_vp hi) dX9_tidy_267 ?_
              exact kJ_51 (wfmov_44 (wfnow_38 (60 : Int32).toNatClampNeg).toNatClampNeg) H locs ls hyp (lv_sub hl [1, 2, 0] rfl) hP hD hS
            · replace hyp := ite_t h_84 hyp
              refine lv_iconst (v := (-1)) hx hb dX9_tidy_252 (by decide) ?_
              refine lv_goto (tgt := 268) hx hb dX9_tidy_253 (by decide) ?_
              exact kJ_51 (-1) H locs ls hyp (lv_sub hl [1, 2, 0] rfl) hP hD hS
          refine lv_icmp_ne (tgt := 225) hx hb dX9_tidy_218 (by decide) (fun h_85 => ?_) (fun h_85 => ?_)
          · replace hyp := ite_f h_85 hyp
            refine lv_aload_n hx hb dX9_tidy_225 rfl (lv_at hl 0 rfl) ?_
            refine gf_X9_42 hx hb hts hown hE hP 0 rfl rfl dX9_tidy_226 ?_
            refine lv_aload_n hx hb dX9_tidy_229 rfl (lv_at hl 1 rfl) ?_
            refine lv_bipush (v := 60) hx hb dX9_tidy_230 (by decide) ?_
            obtain ⟨hi, hyp⟩ := grd_e hyp
            refine va_iald hx hb hE.1 hP 1 0 rfl rfl (inB_vp hi) dX9_tidy_232 ?_
            obtain ⟨hi, hyp⟩ := grd_e hyp
            refine va_iald hx hb hE.1 hP 8 0 rfl rfl (inB_vp hi) dX9_tidy_233 ?_
            exact kJ_49 (wfmov_44 (wfnow_38 (60 : Int32).toNatClampNeg).toNatClampNeg) H locs ls hyp (lv_sub hl [0, 1] rfl) hP hD hS
          · replace hyp := ite_t h_85 hyp
            refine lv_iconst (v := (-1)) hx hb dX9_tidy_221 (by decide) ?_
            refine lv_goto (tgt := 234) hx hb dX9_tidy_222 (by decide) ?_
            exact kJ_49 (-1) H locs ls hyp (lv_sub hl [0, 1] rfl) hP hD hS
        · replace hyp := ite_f h_47 hyp
          refine lv_aload_n hx hb dX9_tidy_128 rfl (lv_at hl 0 rfl) ?_
          refine gf_X9_42 hx hb hts hown hE hP 0 rfl rfl dX9_tidy_129 ?_
          refine lv_iload_n hx hb dX9_tidy_132 rfl (lv_at hl 3 rfl) ?_
          obtain ⟨hi, hyp⟩ := grd_e hyp
          refine va_iald hx hb hE.1 hP 8 0 rfl rfl (inB_vp hi) dX9_tidy_133 ?_
          refine lv_if_ne (tgt := 202) hx hb dX9_tidy_134 (by decide) (fun h_86 => ?_) (fun h_86 => ?_)
          · replace hyp := ite_f h_86 hyp
            refine lv_iinc (v := v3_37 + 1) (lv' := [(3, .int (v3_37 + 1)), (0, .ref o), (1, .ref pn), (2, .int v2_36)]) hx hb dX9_tidy_202 hl (k := 3) rfl rfl (by decide) rfl (fun ls hl => ?_)
            refine lv_goto (tgt := 120) hx hb dX9_tidy_205 (by decide) ?_
            exact ihself_46 v2_36 (v3_37 + 1) wfnow_38 wfbook_39 wfkept_40 wffst_41 wflst_42 wfbef_43 wfmov_44 wnn_45 hyp H locs ls (lv_sub hl [1, 2, 3, 0] rfl) hP hD hS
          · replace hyp := ite_t h_86 hyp
            refine lv_aload_n hx hb dX9_tidy_137 rfl (lv_at hl 0 rfl) ?_
            refine gf_X9_42 hx hb hts hown hE hP 0 rfl rfl dX9_tidy_138 ?_
            refine lv_iload_n hx hb dX9_tidy_141 rfl (lv_at hl 3 rfl) ?_
            refine lv_iload_n hx hb dX9_tidy_142 rfl (lv_at hl 2 rfl) ?_
            obtain ⟨hi, hyp⟩ := grd_e hyp
            refine va_iast hx hb hE.1 hP hD hS 8 0 rfl rfl (inB_vp hi) dX9_tidy_143 (fun H locs hP hD hS => ?_)
            have hP : va_P g.1 vwCl [(o, .inr (9, [.int refu, .ref pn, .ref pt, .ref pr, .ref pw, .ref pb, .int nst, .ref pk, .ref pi, .ref pf, .ref pl, .ref pe, .ref pm, .int wnn_45, .ref px, .int len, .int pos, .int gd, .int ps, .int sm])), (pn, .inl (g.2.1, 61, .inl wfnow_38)), (pb, .inl (g.2.1, 366, .inl wfbook_39)), (pk, .inl (g.2.1, 122, .inl wfkept_40)), (pi, .inl (g.2.2.2.1, 2, .inl fisk)), (pf, .inl (g.2.2.1, 4096, .inr (.inl wffst_41))), (pl, .inl (g.2.2.1, 4096, .inr (.inl wflst_42))), (pe, .inl (g.2.1, 4096, .inl wfbef_43)), (pm, .inl (g.2.1, 4096, .inl (upd wfmov_44 v3_37.toNatClampNeg v2_36)))] H := hP
            have hD : va_D A [(o, .inr (9, [.int refu, .ref pn, .ref pt, .ref pr, .ref pw, .ref pb, .int nst, .ref pk, .ref pi, .ref pf, .ref pl, .ref pe, .ref pm, .int wnn_45, .ref px, .int len, .int pos, .int gd, .int ps, .int sm])), (pn, .inl (g.2.1, 61, .inl wfnow_38)), (pb, .inl (g.2.1, 366, .inl wfbook_39)), (pk, .inl (g.2.1, 122, .inl wfkept_40)), (pi, .inl (g.2.2.2.1, 2, .inl fisk)), (pf, .inl (g.2.2.1, 4096, .inr (.inl wffst_41))), (pl, .inl (g.2.2.1, 4096, .inr (.inl wflst_42))), (pe, .inl (g.2.1, 4096, .inl wfbef_43)), (pm, .inl (g.2.1, 4096, .inl (upd wfmov_44 v3_37.toNatClampNeg v2_36)))] := hD
            refine lv_aload_n hx hb dX9_tidy_144 rfl (lv_at hl 0 rfl) ?_
            refine gf_X9_32 hx hb hts hown hE hP 0 rfl rfl dX9_tidy_145 ?_
            refine lv_iload_n hx hb dX9_tidy_148 rfl (lv_at hl 2 rfl) ?_
            refine lv_aload_n hx hb dX9_tidy_149 rfl (lv_at hl 0 rfl) ?_
            refine gf_X9_32 hx hb hts hown hE hP 0 rfl rfl dX9_tidy_150 ?_
            refine lv_iload_n hx hb dX9_tidy_153 rfl (lv_at hl 3 rfl) ?_
            obtain ⟨hi, hyp⟩ := grd_e hyp
            refine va_lald hx hb hE.1 hP 5 1 rfl rfl (inB_vp hi) dX9_tidy_154 ?_
            obtain ⟨hi, hyp⟩ := grd_e hyp
            refine va_last hx hb hE.1 hP hD hS 5 1 rfl rfl (inB_vp hi) dX9_tidy_155 (fun H locs hP hD hS => ?_)
            have hP : va_P g.1 vwCl [(o, .inr (9, [.int refu, .ref pn, .ref pt, .ref pr, .ref pw, .ref pb, .int nst, .ref pk, .ref pi, .ref pf, .ref pl, .ref pe, .ref pm, .int wnn_45, .ref px, .int len, .int pos, .int gd, .int ps, .int sm])), (pn, .inl (g.2.1, 61, .inl wfnow_38)), (pb, .inl (g.2.1, 366, .inl wfbook_39)), (pk, .inl (g.2.1, 122, .inl wfkept_40)), (pi, .inl (g.2.2.2.1, 2, .inl fisk)), (pf, .inl (g.2.2.1, 4096, .inr (.inl (vp_updL wffst_41 v2_36.toNatClampNeg (wffst_41 v3_37.toNatClampNeg))))), (pl, .inl (g.2.2.1, 4096, .inr (.inl wflst_42))), (pe, .inl (g.2.1, 4096, .inl wfbef_43)), (pm, .inl (g.2.1, 4096, .inl (upd wfmov_44 v3_37.toNatClampNeg v2_36)))] H := hP
            have hD : va_D A [(o, .inr (9, [.int refu, .ref pn, .ref pt, .ref pr, .ref pw, .ref pb, .int nst, .ref pk, .ref pi, .ref pf, .ref pl, .ref pe, .ref pm, .int wnn_45, .ref px, .int len, .int pos, .int gd, .int ps, .int sm])), (pn, .inl (g.2.1, 61, .inl wfnow_38)), (pb, .inl (g.2.1, 366, .inl wfbook_39)), (pk, .inl (g.2.1, 122, .inl wfkept_40)), (pi, .inl (g.2.2.2.1, 2, .inl fisk)), (pf, .inl (g.2.2.1, 4096, .inr (.inl (vp_updL wffst_41 v2_36.toNatClampNeg (wffst_41 v3_37.toNatClampNeg))))), (pl, .inl (g.2.2.1, 4096, .inr (.inl wflst_42))), (pe, .inl (g.2.1, 4096, .inl wfbef_43)), (pm, .inl (g.2.1, 4096, .inl (upd wfmov_44 v3_37.toNatClampNeg v2_36)))] := hD
            refine lv_aload_n hx hb dX9_tidy_156 rfl (lv_at hl 0 rfl) ?_
            refine gf_X9_36 hx hb hts hown hE hP 0 rfl rfl dX9_tidy_157 ?_
            refine lv_iload_n hx hb dX9_tidy_160 rfl (lv_at hl 2 rfl) ?_
            refine lv_aload_n hx hb dX9_tidy_161 rfl (lv_at hl 0 rfl) ?_
            refine gf_X9_36 hx hb hts hown hE hP 0 rfl rfl dX9_tidy_162 ?_
            refine lv_iload_n hx hb dX9_tidy_165 rfl (lv_at hl 3 rfl) ?_
            obtain ⟨hi, hyp⟩ := grd_e hyp
            refine va_lald hx hb hE.1 hP 6 1 rfl rfl (inB_vp hi) dX9_tidy_166 ?_
            obtain ⟨hi, hyp⟩ := grd_e hyp
            refine va_last hx hb hE.1 hP hD hS 6 1 rfl rfl (inB_vp hi) dX9_tidy_167 (fun H locs hP hD hS => ?_)
            have hP : va_P g.1 vwCl [(o, .inr (9, [.int refu, .ref pn, .ref pt, .ref pr, .ref pw, .ref pb, .int nst, .ref pk, .ref pi, .ref pf, .ref pl, .ref pe, .ref pm, .int wnn_45, .ref px, .int len, .int pos, .int gd, .int ps, .int sm])), (pn, .inl (g.2.1, 61, .inl wfnow_38)), (pb, .inl (g.2.1, 366, .inl wfbook_39)), (pk, .inl (g.2.1, 122, .inl wfkept_40)), (pi, .inl (g.2.2.2.1, 2, .inl fisk)), (pf, .inl (g.2.2.1, 4096, .inr (.inl (vp_updL wffst_41 v2_36.toNatClampNeg (wffst_41 v3_37.toNatClampNeg))))), (pl, .inl (g.2.2.1, 4096, .inr (.inl (vp_updL wflst_42 v2_36.toNatClampNeg (wflst_42 v3_37.toNatClampNeg))))), (pe, .inl (g.2.1, 4096, .inl wfbef_43)), (pm, .inl (g.2.1, 4096, .inl (upd wfmov_44 v3_37.toNatClampNeg v2_36)))] H := hP
            have hD : va_D A [(o, .inr (9, [.int refu, .ref pn, .ref pt, .ref pr, .ref pw, .ref pb, .int nst, .ref pk, .ref pi, .ref pf, .ref pl, .ref pe, .ref pm, .int wnn_45, .ref px, .int len, .int pos, .int gd, .int ps, .int sm])), (pn, .inl (g.2.1, 61, .inl wfnow_38)), (pb, .inl (g.2.1, 366, .inl wfbook_39)), (pk, .inl (g.2.1, 122, .inl wfkept_40)), (pi, .inl (g.2.2.2.1, 2, .inl fisk)), (pf, .inl (g.2.2.1, 4096, .inr (.inl (vp_updL wffst_41 v2_36.toNatClampNeg (wffst_41 v3_37.toNatClampNeg))))), (pl, .inl (g.2.2.1, 4096, .inr (.inl (vp_updL wflst_42 v2_36.toNatClampNeg (wflst_42 v3_37.toNatClampNeg))))), (pe, .inl (g.2.1, 4096, .inl wfbef_43)), (pm, .inl (g.2.1, 4096, .inl (upd wfmov_44 v3_37.toNatClampNeg v2_36)))] := hD
            refine lv_aload_n hx hb dX9_tidy_168 rfl (lv_at hl 0 rfl) ?_
            refine gf_X9_39 hx hb hts hown hE hP 0 rfl rfl dX9_tidy_169 ?_
            refine lv_iload_n hx hb dX9_tidy_172 rfl (lv_at hl 2 rfl) ?_
            refine lv_aload_n hx hb dX9_tidy_173 rfl (lv_at hl 0 rfl) ?_
            refine gf_X9_39 hx hb hts hown hE hP 0 rfl rfl dX9_tidy_174 ?_
            refine lv_iload_n hx hb dX9_tidy_177 rfl (lv_at hl 3 rfl) ?_
            obtain ⟨hi, hyp⟩ := grd_e hyp
            refine va_iald hx hb hE.1 hP 7 0 rfl rfl (inB_vp hi) dX9_tidy_178 ?_
            refine lv_iconst (v := (-1)) hx hb dX9_tidy_179 (by decide) ?_
            obtain ⟨J_88, eJ_88, hyp⟩ := jn_e hyp
            have kJ_88 : ∀ (t_87 : Int32) (H : Heap) (locs : List Loc) (ls : Array Slot), J_88 t_87 = some r → lv_has ls 6 [(0, .ref o), (1, .ref pn), (2, .int v2_36), (3, .int v3_37)] → va_P g.1 vwCl [(o, .inr (9, [.int refu, .ref pn, .ref pt, .ref pr, .ref pw, .ref pb, .int nst, .ref pk, .ref pi, .ref pf, .ref pl, .ref pe, .ref pm, .int wnn_45, .ref px, .int len, .int pos, .int gd, .int ps, .int sm])), (pn, .inl (g.2.1, 61, .inl wfnow_38)), (pb, .inl (g.2.1, 366, .inl wfbook_39)), (pk, .inl (g.2.1, 122, .inl wfkept_40)), (pi, .inl (g.2.2.2.1, 2, .inl fisk)), (pf, .inl (g.2.2.1, 4096, .inr (.inl (vp_updL wffst_41 v2_36.toNatClampNeg (wffst_41 v3_37.toNatClampNeg))))), (pl, .inl (g.2.2.1, 4096, .inr (.inl (vp_updL wflst_42 v2_36.toNatClampNeg (wflst_42 v3_37.toNatClampNeg))))), (pe, .inl (g.2.1, 4096, .inl wfbef_43)), (pm, .inl (g.2.1, 4096, .inl (upd wfmov_44 v3_37.toNatClampNeg v2_36)))] H → va_D A [(o, .inr (9, [.int refu, .ref pn, .ref pt, .ref pr, .ref pw, .ref pb, .int nst, .ref pk, .ref pi, .ref pf, .ref pl, .ref pe, .ref pm, .int wnn_45, .ref px, .int len, .int pos, .int gd, .int ps, .int sm])), (pn, .inl (g.2.1, 61, .inl wfnow_38)), (pb, .inl (g.2.1, 366, .inl wfbook_39)), (pk, .inl (g.2.1, 122, .inl wfkept_40)), (pi, .inl (g.2.2.2.1, 2, .inl fisk)), (pf, .inl (g.2.2.1, 4096, .inr (.inl (vp_updL wffst_41 v2_36.toNatClampNeg (wffst_41 v3_37.toNatClampNeg))))), (pl, .inl (g.2.2.1, 4096, .inr (.inl (vp_updL wflst_42 v2_36.toNatClampNeg (wflst_42 v3_37.toNatClampNeg))))), (pe, .inl (g.2.1, 4096, .inl wfbef_43)), (pm, .inl (g.2.1, 4096, .inl (upd wfmov_44 v3_37.toNatClampNeg v2_36)))] → va_S A s.heap H locs → W p l e R s m args below meth c H locs 0 0 Q (F0 m 198 ls [.int t_87, .int v2_36, .ref pe]) := by
              intro t_87 H locs  ls hyp hl hP hD hS
              replace hyp := (congrFun (eJ_88) t_87).symm.trans hyp
              obtain ⟨hi, hyp⟩ := grd_e hyp
              refine va_iast hx hb hE.1 hP hD hS 7 0 rfl rfl (inB_vp hi) dX9_tidy_198 (fun H locs hP hD hS => ?_)
              have hP : va_P g.1 vwCl [(o, .inr (9, [.int refu, .ref pn, .ref pt, .ref pr, .ref pw, .ref pb, .int nst, .ref pk, .ref pi, .ref pf, .ref pl, .ref pe, .ref pm, .int wnn_45, .ref px, .int len, .int pos, .int gd, .int ps, .int sm])), (pn, .inl (g.2.1, 61, .inl wfnow_38)), (pb, .inl (g.2.1, 366, .inl wfbook_39)), (pk, .inl (g.2.1, 122, .inl wfkept_40)), (pi, .inl (g.2.2.2.1, 2, .inl fisk)), (pf, .inl (g.2.2.1, 4096, .inr (.inl (vp_updL wffst_41 v2_36.toNatClampNeg (wffst_41 v3_37.toNatClampNeg))))), (pl, .inl (g.2.2.1, 4096, .inr (.inl (vp_updL wflst_42 v2_36.toNatClampNeg (wflst_42 v3_37.toNatClampNeg))))), (pe, .inl (g.2.1, 4096, .inl (upd wfbef_43 v2_36.toNatClampNeg t_87))), (pm, .inl (g.2.1, 4096, .inl (upd wfmov_44 v3_37.toNatClampNeg v2_36)))] H := hP
              have hD : va_D A [(o, .inr (9, [.int refu, .ref pn, .ref pt, .ref pr, .ref pw, .ref pb, .int nst, .ref pk, .ref pi, .ref pf, .ref pl, .ref pe, .ref pm, .int wnn_45, .ref px, .int len, .int pos, .int gd, .int ps, .int sm])), (pn, .inl (g.2.1, 61, .inl wfnow_38)), (pb, .inl (g.2.1, 366, .inl wfbook_39)), (pk, .inl (g.2.1, 122, .inl wfkept_40)), (pi, .inl (g.2.2.2.1, 2, .inl fisk)), (pf, .inl (g.2.2.1, 4096, .inr (.inl (vp_updL wffst_41 v2_36.toNatClampNeg (wffst_41 v3_37.toNatClampNeg))))), (pl, .inl (g.2.2.1, 4096, .inr (.inl (vp_updL wflst_42 v2_36.toNatClampNeg (wflst_42 v3_37.toNatClampNeg))))), (pe, .inl (g.2.1, 4096, .inl (upd wfbef_43 v2_36.toNatClampNeg t_87))), (pm, .inl (g.2.1, 4096, .inl (upd wfmov_44 v3_37.toNatClampNeg v2_36)))] := hD
              refine lv_iinc (v := v2_36 + 1) (lv' := [(2, .int (v2_36 + 1)), (0, .ref o), (1, .ref pn), (3, .int v3_37)]) hx hb dX9_tidy_199 hl (k := 2) rfl rfl (by decide) rfl (fun ls hl => ?_)
              refine lv_iinc (v := v3_37 + 1) (lv' := [(3, .int (v3_37 + 1)), (2, .int (v2_36 + 1)), (0, .ref o), (1, .ref pn)]) hx hb dX9_tidy_202 hl (k := 3) rfl rfl (by decide) rfl (fun ls hl => ?_)
              refine lv_goto (tgt := 120) hx hb dX9_tidy_205 (by decide) ?_
              exact ihself_46 (v2_36 + 1) (v3_37 + 1) wfnow_38 wfbook_39 wfkept_40 (vp_updL wffst_41 v2_36.toNatClampNeg (wffst_41 v3_37.toNatClampNeg)) (vp_updL wflst_42 v2_36.toNatClampNeg (wflst_42 v3_37.toNatClampNeg)) (upd wfbef_43 v2_36.toNatClampNeg t_87) (upd wfmov_44 v3_37.toNatClampNeg v2_36) wnn_45 hyp H locs ls (lv_sub hl [2, 3, 1, 0] rfl) hP hD hS
            refine lv_icmp_ne (tgt := 187) hx hb dX9_tidy_180 (by decide) (fun h_89 => ?_) (fun h_89 => ?_)
            · replace hyp := ite_f h_89 hyp
              refine lv_aload_n hx hb dX9_tidy_187 rfl (lv_at hl 0 rfl) ?_
              refine gf_X9_42 hx hb hts hown hE hP 0 rfl rfl dX9_tidy_188 ?_
              refine lv_aload_n hx hb dX9_tidy_191 rfl (lv_at hl 0 rfl) ?_
              refine gf_X9_39 hx hb hts hown hE hP 0 rfl rfl dX9_tidy_192 ?_
              refine lv_iload_n hx hb dX9_tidy_195 rfl (lv_at hl 3 rfl) ?_
              obtain ⟨hi, hyp⟩ := grd_e hyp
              refine va_iald hx hb hE.1 hP 7 0 rfl rfl (inB_vp hi) dX9_tidy_196 ?_
              obtain ⟨hi, hyp⟩ := grd_e hyp
              refine va_iald hx hb hE.1 hP 8 0 rfl rfl (inB_vp hi) dX9_tidy_197 ?_
              exact kJ_88 ((upd wfmov_44 v3_37.toNatClampNeg v2_36) (wfbef_43 v3_37.toNatClampNeg).toNatClampNeg) H locs ls hyp hl hP hD hS
            · replace hyp := ite_t h_89 hyp
              refine lv_iconst (v := (-1)) hx hb dX9_tidy_183 (by decide) ?_
              refine lv_goto (tgt := 198) hx hb dX9_tidy_184 (by decide) ?_
              exact kJ_88 (-1) H locs ls hyp hl hP hD hS
      · replace hyp := ite_f h_35 hyp
        refine lv_aload_n hx hb dX9_tidy_81 rfl (lv_at hl 0 rfl) ?_
        refine lv_aload_n hx hb dX9_tidy_82 rfl (lv_at hl 0 rfl) ?_
        refine gf_X9_28 hx hb hts hown hE hP 0 rfl rfl dX9_tidy_83 ?_
        refine lv_iload_n hx hb dX9_tidy_86 rfl (lv_at hl 2 rfl) ?_
        obtain ⟨hi, hyp⟩ := grd_e hyp
        refine va_zald hx hb hE.1 hP 4 2 rfl rfl (inB_vp hi) dX9_tidy_87 ?_
        obtain ⟨J_91, eJ_91, hyp⟩ := jn_e hyp
        have kJ_91 : ∀ (t_90 : Int32) (H : Heap) (locs : List Loc) (ls : Array Slot), J_91 t_90 = some r → lv_has ls 6 [(0, .ref o), (1, .ref pn), (2, .int v2_25)] → va_P g.1 vwCl [(o, .inr (9, [.int refu, .ref pn, .ref pt, .ref pr, .ref pw, .ref pb, .int nst, .ref pk, .ref pi, .ref pf, .ref pl, .ref pe, .ref pm, .int wnn_33, .ref px, .int len, .int pos, .int gd, .int ps, .int sm])), (pn, .inl (g.2.1, 61, .inl wfnow_26)), (pb, .inl (g.2.1, 366, .inl wfbook_27)), (pk, .inl (g.2.1, 122, .inl wfkept_28)), (pi, .inl (g.2.2.2.1, 2, .inl fisk)), (pf, .inl (g.2.2.1, 4096, .inr (.inl wffst_29))), (pl, .inl (g.2.2.1, 4096, .inr (.inl wflst_30))), (pe, .inl (g.2.1, 4096, .inl wfbef_31)), (pm, .inl (g.2.1, 4096, .inl wfmov_32))] H → va_D A [(o, .inr (9, [.int refu, .ref pn, .ref pt, .ref pr, .ref pw, .ref pb, .int nst, .ref pk, .ref pi, .ref pf, .ref pl, .ref pe, .ref pm, .int wnn_33, .ref px, .int len, .int pos, .int gd, .int ps, .int sm])), (pn, .inl (g.2.1, 61, .inl wfnow_26)), (pb, .inl (g.2.1, 366, .inl wfbook_27)), (pk, .inl (g.2.1, 122, .inl wfkept_28)), (pi, .inl (g.2.2.2.1, 2, .inl fisk)), (pf, .inl (g.2.2.1, 4096, .inr (.inl wffst_29))), (pl, .inl (g.2.2.1, 4096, .inr (.inl wflst_30))), (pe, .inl (g.2.1, 4096, .inl wfbef_31)), (pm, .inl (g.2.1, 4096, .inl wfmov_32))] → va_S A s.heap H locs → W p l e R s m args below meth c H locs 0 0 Q (F0 m 107 ls [.int t_90, .ref o]) := by
          intro t_90 H locs  ls hyp hl hP hD hS
          replace hyp := (congrFun (eJ_91) t_90).symm.trans hyp
          obtain ⟨r_92, hr_92, hyp⟩ := opt_e hyp
          refine wV (As := [.int t_90]) (rest := []) ⟨hx, hb, hml, hown, hts⟩ hE (mX9_mark l g o pe pm pn pt pr pw pb pk pi pf pl px refu nst wnn_33 len pos gd ps sm wfbef_31 wfmov_32 t_90 r_92 hr_92) cf_X9_mark im_X9_mark se_X9_mark ml_X9_107 ⟨Nat.le_trans (Nat.le_of_ble_eq_true rfl) hRf, Nat.le_trans (Nat.le_of_ble_eq_true rfl) hRl⟩ hP hD hS hA [0, 7, 8] [1, 2, 3, 4, 5, 6] rfl (wr := [(pn, .inl (g.2.1, 61, .inl wfnow_26)), (pb, .inl (g.2.1, 366, .inl wfbook_27)), (pk, .inl (g.2.1, 122, .inl wfkept_28)), (pi, .inl (g.2.2.2.1, 2, .inl fisk)), (pf, .inl (g.2.2.1, 4096, .inr (.inl wffst_29))), (pl, .inl (g.2.2.1, 4096, .inr (.inl wflst_30)))]) rfl ⟨by decide, by decide⟩ (by decide) (ci := 9) (q0 := 0) rfl rfl rfl rfl hl.1 rfl (Nat.le_of_ble_eq_true rfl) dX9_tidy_107 ⟨Nat.zero_le _, Nat.zero_le _⟩ (fun H locs hP hD hS => ?_)
          have hP : va_P g.1 vwCl [(pn, .inl (g.2.1, 61, .inl wfnow_26)), (pb, .inl (g.2.1, 366, .inl wfbook_27)), (pk, .inl (g.2.1, 122, .inl wfkept_28)), (pi, .inl (g.2.2.2.1, 2, .inl fisk)), (pf, .inl (g.2.2.1, 4096, .inr (.inl wffst_29))), (pl, .inl (g.2.2.1, 4096, .inr (.inl wflst_30))), (o, .inr (9, [.int refu, .ref pn, .ref pt, .ref pr, .ref pw, .ref pb, .int nst, .ref pk, .ref pi, .ref pf, .ref pl, .ref pe, .ref pm, .int wnn_33, .ref px, .int len, .int pos, .int gd, .int ps, .int sm])), (pe, .inl (g.2.1, 4096, .inl wfbef_31)), (pm, .inl (g.2.1, 4096, .inl r_92))] H := hP
          have hD : va_D A [(pn, .inl (g.2.1, 61, .inl wfnow_26)), (pb, .inl (g.2.1, 366, .inl wfbook_27)), (pk, .inl (g.2.1, 122, .inl wfkept_28)), (pi, .inl (g.2.2.2.1, 2, .inl fisk)), (pf, .inl (g.2.2.1, 4096, .inr (.inl wffst_29))), (pl, .inl (g.2.2.1, 4096, .inr (.inl wflst_30))), (o, .inr (9, [.int refu, .ref pn, .ref pt, .ref pr, .ref pw, .ref pb, .int nst, .ref pk, .ref pi, .ref pf, .ref pl, .ref pe, .ref pm, .int wnn_33, .ref px, .int len, .int pos, .int gd, .int ps, .int sm])), (pe, .inl (g.2.1, 4096, .inl wfbef_31)), (pm, .inl (g.2.1, 4096, .inl r_92))] := hD
          refine lv_iinc (v := v2_25 + 1) (lv' := [(2, .int (v2_25 + 1)), (0, .ref o), (1, .ref pn)]) hx hb dX9_tidy_110 hl (k := 2) rfl rfl (by decide) rfl (fun ls hl => ?_)
          refine lv_goto (tgt := 76) hx hb dX9_tidy_113 (by decide) ?_
          have hP : va_P g.1 vwCl [(o, .inr (9, [.int refu, .ref pn, .ref pt, .ref pr, .ref pw, .ref pb, .int nst, .ref pk, .ref pi, .ref pf, .ref pl, .ref pe, .ref pm, .int wnn_33, .ref px, .int len, .int pos, .int gd, .int ps, .int sm])), (pn, .inl (g.2.1, 61, .inl wfnow_26)), (pb, .inl (g.2.1, 366, .inl wfbook_27)), (pk, .inl (g.2.1, 122, .inl wfkept_28)), (pi, .inl (g.2.2.2.1, 2, .inl fisk)), (pf, .inl (g.2.2.1, 4096, .inr (.inl wffst_29))), (pl, .inl (g.2.2.1, 4096, .inr (.inl wflst_30))), (pe, .inl (g.2.1, 4096, .inl wfbef_31)), (pm, .inl (g.2.1, 4096, .inl r_92))] H := hP.sub [6, 0, 1, 2, 3, 4, 5, 7, 8] rfl
          have hD : va_D A [(o, .inr (9, [.int refu, .ref pn, .ref pt, .ref pr, .ref pw, .ref pb, .int nst, .ref pk, .ref pi, .ref pf, .ref pl, .ref pe, .ref pm, .int wnn_33, .ref px, .int len, .int pos, .int gd, .int ps, .int sm])), (pn, .inl (g.2.1, 61, .inl wfnow_26)), (pb, .inl (g.2.1, 366, .inl wfbook_27)), (pk, .inl (g.2.1, 122, .inl wfkept_28)), (pi, .inl (g.2.2.2.1, 2, .inl fisk)), (pf, .inl (g.2.2.1, 4096, .inr (.inl wffst_29))), (pl, .inl (g.2.2.1, 4096, .inr (.inl wflst_30))), (pe, .inl (g.2.1, 4096, .inl wfbef_31)), (pm, .inl (g.2.1, 4096, .inl r_92))] := hD.sub [6, 0, 1, 2, 3, 4, 5, 7, 8] (by decide) rfl
          exact ihself_34 (v2_25 + 1) wfnow_26 wfbook_27 wfkept_28 wffst_29 wflst_30 wfbef_31 r_92 wnn_33 hyp H locs ls (lv_sub hl [1, 2, 0] rfl) hP hD hS
        refine lv_if_eq (tgt := 106) hx hb dX9_tidy_88 (by decide) (fun h_93 => ?_) (fun h_93 => ?_)
        · replace hyp := ite_t h_93 hyp
          refine lv_iconst (v := (-1)) hx hb dX9_tidy_106 (by decide) ?_
          exact kJ_91 (-1) H locs ls hyp hl hP hD hS
        · replace hyp := ite_f h_93 hyp
          refine lv_aload_n hx hb dX9_tidy_91 rfl (lv_at hl 0 rfl) ?_
          refine gf_X9_25 hx hb hts hown hE hP 0 rfl rfl dX9_tidy_92 ?_
          refine lv_bipush (v := 61) hx hb dX9_tidy_95 (by decide) ?_
          refine lv_iload_n hx hb dX9_tidy_97 rfl (lv_at hl 2 rfl) ?_
          refine lv_imul hx hb dX9_tidy_98 ?_
          refine lv_bipush (v := 60) hx hb dX9_tidy_99 (by decide) ?_
          refine lv_iadd hx hb dX9_tidy_101 ?_
          obtain ⟨hi, hyp⟩ := grd_e hyp
          refine va_iald hx hb hE.1 hP 3 0 rfl rfl (inB_vp hi) dX9_tidy_102 ?_
          refine lv_goto (tgt := 107) hx hb dX9_tidy_103 (by decide) ?_
          exact kJ_91 (wfkept_28 ((61 * v2_25) + 60).toNatClampNeg) H locs ls hyp hl hP hD hS
    · replace hyp := ite_f h_24 hyp
      refine lv_aload_n hx hb dX9_tidy_52 rfl (lv_at hl 0 rfl) ?_
      refine lv_aload_n hx hb dX9_tidy_53 rfl (lv_at hl 0 rfl) ?_
      refine gf_X9_22 hx hb hts hown hE hP 0 rfl rfl dX9_tidy_54 ?_
      refine lv_bipush (v := 61) hx hb dX9_tidy_57 (by decide) ?_
      refine lv_iload_n hx hb dX9_tidy_59 rfl (lv_at hl 2 rfl) ?_
      refine lv_imul hx hb dX9_tidy_60 ?_
      refine lv_bipush (v := 60) hx hb dX9_tidy_61 (by decide) ?_
      refine lv_iadd hx hb dX9_tidy_63 ?_
      obtain ⟨hi, hyp⟩ := grd_e hyp
      refine va_iald hx hb hE.1 hP 2 0 rfl rfl (inB_vp hi) dX9_tidy_64 ?_
      obtain ⟨r_94, hr_94, hyp⟩ := opt_e hyp
      refine wV (As := [.int (wfbook_16 ((61 * v2_14) + 60).toNatClampNeg)]) (rest := []) ⟨hx, hb, hml, hown, hts⟩ hE (mX9_mark l g o pe pm pn pt pr pw pb pk pi pf pl px refu nst wnn_22 len pos gd ps sm wfbef_20 wfmov_21 (wfbook_16 ((61 * v2_14) + 60).toNatClampNeg) r_94 hr_94) cf_X9_mark im_X9_mark se_X9_mark ml_X9_107 ⟨Nat.le_trans (Nat.le_of_ble_eq_true rfl) hRf, Nat.le_trans (Nat.le_of_ble_eq_true rfl) hRl⟩ hP hD hS hA [0, 7, 8] [1, 2, 3, 4, 5, 6] rfl (wr := [(pn, .inl (g.2.1, 61, .inl wfnow_15)), (pb, .inl (g.2.1, 366, .inl wfbook_16)), (pk, .inl (g.2.1, 122, .inl wfkept_17)), (pi, .inl (g.2.2.2.1, 2, .inl fisk)), (pf, .inl (g.2.2.1, 4096, .inr (.inl wffst_18))), (pl, .inl (g.2.2.1, 4096, .inr (.inl wflst_19)))]) rfl ⟨by decide, by decide⟩ (by decide) (ci := 9) (q0 := 0) rfl rfl rfl rfl hl.1 rfl (Nat.le_of_ble_eq_true rfl) dX9_tidy_65 ⟨Nat.zero_le _, Nat.zero_le _⟩ (fun H locs hP hD hS => ?_)
      have hP : va_P g.1 vwCl [(pn, .inl (g.2.1, 61, .inl wfnow_15)), (pb, .inl (g.2.1, 366, .inl wfbook_16)), (pk, .inl (g.2.1, 122, .inl wfkept_17)), (pi, .inl (g.2.2.2.1, 2, .inl fisk)), (pf, .inl (g.2.2.1, 4096, .inr (.inl wffst_18))), (pl, .inl (g.2.2.1, 4096, .inr (.inl wflst_19))), (o, .inr (9, [.int refu, .ref pn, .ref pt, .ref pr, .ref pw, .ref pb, .int nst, .ref pk, .ref pi, .ref pf, .ref pl, .ref pe, .ref pm, .int wnn_22, .ref px, .int len, .int pos, .int gd, .int ps, .int sm])), (pe, .inl (g.2.1, 4096, .inl wfbef_20)), (pm, .inl (g.2.1, 4096, .inl r_94))] H := hP
      have hD : va_D A [(pn, .inl (g.2.1, 61, .inl wfnow_15)), (pb, .inl (g.2.1, 366, .inl wfbook_16)), (pk, .inl (g.2.1, 122, .inl wfkept_17)), (pi, .inl (g.2.2.2.1, 2, .inl fisk)), (pf, .inl (g.2.2.1, 4096, .inr (.inl wffst_18))), (pl, .inl (g.2.2.1, 4096, .inr (.inl wflst_19))), (o, .inr (9, [.int refu, .ref pn, .ref pt, .ref pr, .ref pw, .ref pb, .int nst, .ref pk, .ref pi, .ref pf, .ref pl, .ref pe, .ref pm, .int wnn_22, .ref px, .int len, .int pos, .int gd, .int ps, .int sm])), (pe, .inl (g.2.1, 4096, .inl wfbef_20)), (pm, .inl (g.2.1, 4096, .inl r_94))] := hD
      refine lv_iinc (v := v2_14 + 1) (lv' := [(2, .int (v2_14 + 1)), (0, .ref o), (1, .ref pn)]) hx hb dX9_tidy_68 hl (k := 2) rfl rfl (by decide) rfl (fun ls hl => ?_)
      refine lv_goto (tgt := 44) hx hb dX9_tidy_71 (by decide) ?_
      have hP : va_P g.1 vwCl [(o, .inr (9, [.int refu, .ref pn, .ref pt, .ref pr, .ref pw, .ref pb, .int nst, .ref pk, .ref pi, .ref pf, .ref pl, .ref pe, .ref pm, .int wnn_22, .ref px, .int len, .int pos, .int gd, .int ps, .int sm])), (pn, .inl (g.2.1, 61, .inl wfnow_15)), (pb, .inl (g.2.1, 366, .inl wfbook_16)), (pk, .inl (g.2.1, 122, .inl wfkept_17)), (pi, .inl (g.2.2.2.1, 2, .inl fisk)), (pf, .inl (g.2.2.1, 4096, .inr (.inl wffst_18))), (pl, .inl (g.2.2.1, 4096, .inr (.inl wflst_19))), (pe, .inl (g.2.1, 4096, .inl wfbef_20)), (pm, .inl (g.2.1, 4096, .inl r_94))] H := hP.sub [6, 0, 1, 2, 3, 4, 5, 7, 8] rfl
      have hD : va_D A [(o, .inr (9, [.int refu, .ref pn, .ref pt, .ref pr, .ref pw, .ref pb, .int nst, .ref pk, .ref pi, .ref pf, .ref pl, .ref pe, .ref pm, .int wnn_22, .ref px, .int len, .int pos, .int gd, .int ps, .int sm])), (pn, .inl (g.2.1, 61, .inl wfnow_15)), (pb, .inl (g.2.1, 366, .inl wfbook_16)), (pk, .inl (g.2.1, 122, .inl wfkept_17)), (pi, .inl (g.2.2.2.1, 2, .inl fisk)), (pf, .inl (g.2.2.1, 4096, .inr (.inl wffst_18))), (pl, .inl (g.2.2.1, 4096, .inr (.inl wflst_19))), (pe, .inl (g.2.1, 4096, .inl wfbef_20)), (pm, .inl (g.2.1, 4096, .inl r_94))] := hD.sub [6, 0, 1, 2, 3, 4, 5, 7, 8] (by decide) rfl
      exact ihself_23 (v2_14 + 1) wfnow_15 wfbook_16 wfkept_17 wffst_18 wflst_19 wfbef_20 r_94 wnn_22 hyp H locs ls (lv_sub hl [1, 2, 0] rfl) hP hD hS
  · replace hyp := ite_f h_11 hyp
    refine lv_aload_n hx hb dX9_tidy_10 rfl (lv_at hl 0 rfl) ?_
    refine gf_X9_42 hx hb hts hown hE hP 0 rfl rfl dX9_tidy_11 ?_
    refine lv_iload_n hx hb dX9_tidy_14 rfl (lv_at hl 2 rfl) ?_
    refine lv_iconst (v := (-1)) hx hb dX9_tidy_15 (by decide) ?_
    obtain ⟨hi, hyp⟩ := grd_e hyp
    refine va_iast hx hb hE.1 hP hD hS 8 0 rfl rfl (inB_vp hi) dX9_tidy_16 (fun H locs hP hD hS => ?_)
    have hP : va_P g.1 vwCl [(o, .inr (9, [.int refu, .ref pn, .ref pt, .ref pr, .ref pw, .ref pb, .int nst, .ref pk, .ref pi, .ref pf, .ref pl, .ref pe, .ref pm, .int wnn_9, .ref px, .int len, .int pos, .int gd, .int ps, .int sm])), (pn, .inl (g.2.1, 61, .inl wfnow_2)), (pb, .inl (g.2.1, 366, .inl wfbook_3)), (pk, .inl (g.2.1, 122, .inl wfkept_4)), (pi, .inl (g.2.2.2.1, 2, .inl fisk)), (pf, .inl (g.2.2.1, 4096, .inr (.inl wffst_5))), (pl, .inl (g.2.2.1, 4096, .inr (.inl wflst_6))), (pe, .inl (g.2.1, 4096, .inl wfbef_7)), (pm, .inl (g.2.1, 4096, .inl (upd wfmov_8 v2_1.toNatClampNeg (-1))))] H := hP
    have hD : va_D A [(o, .inr (9, [.int refu, .ref pn, .ref pt, .ref pr, .ref pw, .ref pb, .int nst, .ref pk, .ref pi, .ref pf, .ref pl, .ref pe, .ref pm, .int wnn_9, .ref px, .int len, .int pos, .int gd, .int ps, .int sm])), (pn, .inl (g.2.1, 61, .inl wfnow_2)), (pb, .inl (g.2.1, 366, .inl wfbook_3)), (pk, .inl (g.2.1, 122, .inl wfkept_4)), (pi, .inl (g.2.2.2.1, 2, .inl fisk)), (pf, .inl (g.2.2.1, 4096, .inr (.inl wffst_5))), (pl, .inl (g.2.2.1, 4096, .inr (.inl wflst_6))), (pe, .inl (g.2.1, 4096, .inl wfbef_7)), (pm, .inl (g.2.1, 4096, .inl (upd wfmov_8 v2_1.toNatClampNeg (-1))))] := hD
    refine lv_iinc (v := v2_1 + 1) (lv' := [(2, .int (v2_1 + 1)), (0, .ref o), (1, .ref pn)]) hx hb dX9_tidy_17 hl (k := 2) rfl rfl (by decide) rfl (fun ls hl => ?_)
    refine lv_goto (tgt := 2) hx hb dX9_tidy_20 (by decide) ?_
    exact ihself_10 (v2_1 + 1) wfnow_2 wfbook_3 wfkept_4 wffst_5 wflst_6 wfbef_7 (upd wfmov_8 v2_1.toNatClampNeg (-1)) wnn_9 hyp H locs ls (lv_sub hl [1, 2, 0] rfl) hP hD hS

def fX9_tidyT_L340_B (fisk : Nat → Int32) (self_78 : Int32 → (Nat → Int32) → (Nat → Int32) → (Nat → Int32) → (Nat → Int64) → (Nat → Int64) → (Nat → Int32) → (Nat → Int32) → Int32 → (Nat → Int32) → Option ((Nat → Int32) × (Nat → Int32) × (Nat → Int32) × (Nat → Int64) × (Nat → Int64) × (Nat → Int32) × (Nat → Int32) × Int32 × (Nat → Int32))) (v4_68 : Int32) (wfnow_69 : Nat → Int32) (wfbook_70 : Nat → Int32) (wfkept_71 : Nat → Int32) (wffst_72 : Nat → Int64) (wflst_73 : Nat → Int64) (wfbef_74 : Nat → Int32) (wfmov_75 : Nat → Int32) (wnn_76 : Int32) (wftri_77 : Nat → Int32) : Option ((Nat → Int32) × (Nat → Int32) × (Nat → Int32) × (Nat → Int64) × (Nat → Int64) × (Nat → Int32) × (Nat → Int32) × Int32 × (Nat → Int32)) :=
  if 2 ≤ v4_68 then (some (wfnow_69, wfbook_70, wfkept_71, wffst_72, wflst_73, wfbef_74, wfmov_75, wnn_76, wftri_77)) else (grd (inB ((61 * v4_68) + 60) 122) (bnd (wfkept_71 ((61 * v4_68) + 60).toNatClampNeg) (fun (v5_80 : Int32) => grd (inB v4_68 2) (jn (fun (t_81 : Int32) => grd (inB ((61 * v4_68) + 60) 122) (self_78 (v4_68 + 1) wfnow_69 wfbook_70 (upd wfkept_71 ((61 * v4_68) + 60).toNatClampNeg t_81) wffst_72 wflst_73 wfbef_74 wfmov_75 wnn_76 wftri_77)) (fun J_82 => jn (J_82 (-1)) (fun J_83 => if (fisk v4_68.toNatClampNeg) = 0 then (J_83) else (if v5_80 = (-1) then (J_83) else (grd (inB v5_80 4096) (J_82 (wfmov_75 v5_80.toNatClampNeg))))))))))
def fX9_tidyT_L340 (fisk : Nat → Int32) (n : Nat) (v4_68 : Int32) (wfnow_69 : Nat → Int32) (wfbook_70 : Nat → Int32) (wfkept_71 : Nat → Int32) (wffst_72 : Nat → Int64) (wflst_73 : Nat → Int64) (wfbef_74 : Nat → Int32) (wfmov_75 : Nat → Int32) (wnn_76 : Int32) (wftri_77 : Nat → Int32) : Option ((Nat → Int32) × (Nat → Int32) × (Nat → Int32) × (Nat → Int64) × (Nat → Int64) × (Nat → Int32) × (Nat → Int32) × Int32 × (Nat → Int32)) := lp (fun zf z => fX9_tidyT_L340_B fisk (fun v4_68 wfnow_69 wfbook_70 wfkept_71 wffst_72 wflst_73 wfbef_74 wfmov_75 wnn_76 wftri_77 => zf (v4_68, wfnow_69, wfbook_70, wfkept_71, wffst_72, wflst_73, wfbef_74, wfmov_75, wnn_76, wftri_77)) z.1 z.2.1 z.2.2.1 z.2.2.2.1 z.2.2.2.2.1 z.2.2.2.2.2.1 z.2.2.2.2.2.2.1 z.2.2.2.2.2.2.2.1 z.2.2.2.2.2.2.2.2.1 z.2.2.2.2.2.2.2.2.2) n (v4_68, wfnow_69, wfbook_70, wfkept_71, wffst_72, wflst_73, wfbef_74, wfmov_75, wnn_76, wftri_77)
def fX9_tidyT_L277_B (nst : Int32) (fisk : Nat → Int32) (self_66 : Int32 → (Nat → Int32) → (Nat → Int32) → (Nat → Int32) → (Nat → Int64) → (Nat → Int64) → (Nat → Int32) → (Nat → Int32) → Int32 → (Nat → Int32) → Option ((Nat → Int32) × (Nat → Int32) × (Nat → Int32) × (Nat → Int64) × (Nat → Int64) × (Nat → Int32) × (Nat → Int32) × Int32 × (Nat → Int32))) (v4_56 : Int32) (wfnow_57 : Nat → Int32) (wfbook_58 : Nat → Int32) (wfkept_59 : Nat → Int32) (wffst_60 : Nat → Int64) (wflst_61 : Nat → Int64) (wfbef_62 : Nat → Int32) (wfmov_63 : Nat → Int32) (wnn_64 : Int32) (wftri_65 : Nat → Int32) : Option ((Nat → Int32) × (Nat → Int32) × (Nat → Int32) × (Nat → Int64) × (Nat → Int64) × (Nat → Int32) × (Nat → Int32) × Int32 × (Nat → Int32)) :=
  if nst ≤ v4_56 then (fX9_tidyT_L340 fisk 4100 0 wfnow_57 wfbook_58 wfkept_59 wffst_60 wflst_61 wfbef_62 wfmov_63 wnn_64 wftri_65) else (grd (inB ((61 * v4_56) + 60) 366) (bnd (wfbook_58 ((61 * v4_56) + 60).toNatClampNeg) (fun (v5_86 : Int32) => jn (fun (t_87 : Int32) => grd (inB ((61 * v4_56) + 60) 366) (self_66 (v4_56 + 1) wfnow_57 (upd wfbook_58 ((61 * v4_56) + 60).toNatClampNeg t_87) wfkept_59 wffst_60 wflst_61 wfbef_62 wfmov_63 wnn_64 wftri_65)) (fun J_88 => if v5_86 = (-1) then (J_88 (-1)) else (grd (inB v5_86 4096) (J_88 (wfmov_63 v5_86.toNatClampNeg)))))))
def fX9_tidyT_L277 (nst : Int32) (fisk : Nat → Int32) (n : Nat) (v4_56 : Int32) (wfnow_57 : Nat → Int32) (wfbook_58 : Nat → Int32) (wfkept_59 : Nat → Int32) (wffst_60 : Nat → Int64) (wflst_61 : Nat → Int64) (wfbef_62 : Nat → Int32) (wfmov_63 : Nat → Int32) (wnn_64 : Int32) (wftri_65 : Nat → Int32) : Option ((Nat → Int32) × (Nat → Int32) × (Nat → Int32) × (Nat → Int64) × (Nat → Int64) × (Nat → Int32) × (Nat → Int32) × Int32 × (Nat → Int32)) := lp (fun zf z => fX9_tidyT_L277_B nst fisk (fun v4_56 wfnow_57 wfbook_58 wfkept_59 wffst_60 wflst_61 wfbef_62 wfmov_63 wnn_64 wftri_65 => zf (v4_56, wfnow_57, wfbook_58, wfkept_59, wffst_60, wflst_61, wfbef_62, wfmov_63, wnn_64, wftri_65)) z.1 z.2.1 z.2.2.1 z.2.2.2.1 z.2.2.2.2.1 z.2.2.2.2.2.1 z.2.2.2.2.2.2.1 z.2.2.2.2.2.2.2.1 z.2.2.2.2.2.2.2.2.1 z.2.2.2.2.2.2.2.2.2) n (v4_56, wfnow_57, wfbook_58, wfkept_59, wffst_60, wflst_61, wfbef_62, wfmov_63, wnn_64, wftri_65)
def fX9_tidyT_L120_B (nst : Int32) (fisk : Nat → Int32) (self_50 : Int32 → Int32 → (Nat → Int32) → (Nat → Int32) → (Nat → Int32) → (Nat → Int64) → (Nat → Int64) → (Nat → Int32) → (Nat → Int32) → Int32 → (Nat → Int32) → Option ((Nat → Int32) × (Nat → Int32) × (Nat → Int32) × (Nat → Int64) × (Nat → Int64) × (Nat → Int32) × (Nat → Int32) × Int32 × (Nat → Int32))) (v2_39 : Int32) (v3_40 : Int32) (wfnow_41 : Nat → Int32) (wfbook_42 : Nat → Int32) (wfkept_43 : Nat → Int32) (wffst_44 : Nat → Int64) (wflst_45 : Nat → Int64) (wfbef_46 : Nat → Int32) (wfmov_47 : Nat → Int32) (wnn_48 : Int32) (wftri_49 : Nat → Int32) : Option ((Nat → Int32) × (Nat → Int32) × (Nat → Int32) × (Nat → Int64) × (Nat → Int64) × (Nat → Int32) × (Nat → Int32) × Int32 × (Nat → Int32)) :=
  if wnn_48 ≤ v3_40 then (grd (inB 60 61) (jn (fun (t_52 : Int32) => grd (inB 60 61) (jn (fun (t_54 : Int32) => grd (inB 60 61) (grd (inB 60 61) (fX9_tidyT_L277 nst fisk 4100 0 (upd wfnow_41 (60 : Int32).toNatClampNeg t_54) wfbook_42 wfkept_43 wffst_44 wflst_45 wfbef_46 wfmov_47 v2_39 (upd wftri_49 (60 : Int32).toNatClampNeg t_52)))) (fun J_55 => if (wfnow_41 (60 : Int32).toNatClampNeg) = (-1) then (J_55 (-1)) else (grd (inB 60 61) (grd (inB (wfnow_41 (60 : Int32).toNatClampNeg) 4096) (J_55 (wfmov_47 (wfnow_41 (60 : Int32).toNatClampNeg).toNatClampNeg))))))) (fun J_53 => if (wftri_49 (60 : Int32).toNatClampNeg) = (-1) then (J_53 (-1)) else (grd (inB 60 61) (grd (inB (wftri_49 (60 : Int32).toNatClampNeg) 4096) (J_53 (wfmov_47 (wftri_49 (60 : Int32).toNatClampNeg).toNatClampNeg))))))) else (grd (inB v3_40 4096) (if (wfmov_47 v3_40.toNatClampNeg) = 0 then (grd (inB v3_40 4096) (grd (inB v3_40 4096) (grd (inB v2_39 4096) (grd (inB v3_40 4096) (grd (inB v2_39 4096) (grd (inB v3_40 4096) (jn (fun (t_93 : Int32) => grd (inB v2_39 4096) (self_50 (v2_39 + 1) (v3_40 + 1) wfnow_41 wfbook_42 wfkept_43 (vp_updL wffst_44 v2_39.toNatClampNeg (wffst_44 v3_40.toNatClampNeg)) (vp_updL wflst_45 v2_39.toNatClampNeg (wflst_45 v3_40.toNatClampNeg)) (upd wfbef_46 v2_39.toNatClampNeg t_93) (upd wfmov_47 v3_40.toNatClampNeg v2_39) wnn_48 wftri_49)) (fun J_94 => if (wfbef_46 v3_40.toNatClampNeg) = (-1) then (J_94 (-1)) else (grd (inB v3_40 4096) (grd (inB (wfbef_46 v3_40.toNatClampNeg) 4096) (J_94 ((upd wfmov_47 v3_40.toNatClampNeg v2_39) (wfbef_46 v3_40.toNatClampNeg).toNatClampNeg)))))))))))) else (self_50 v2_39 (v3_40 + 1) wfnow_41 wfbook_42 wfkept_43 wffst_44 wflst_45 wfbef_46 wfmov_47 wnn_48 wftri_49)))
def fX9_tidyT_L120 (nst : Int32) (fisk : Nat → Int32) (n : Nat) (v2_39 : Int32) (v3_40 : Int32) (wfnow_41 : Nat → Int32) (wfbook_42 : Nat → Int32) (wfkept_43 : Nat → Int32) (wffst_44 : Nat → Int64) (wflst_45 : Nat → Int64) (wfbef_46 : Nat → Int32) (wfmov_47 : Nat → Int32) (wnn_48 : Int32) (wftri_49 : Nat → Int32) : Option ((Nat → Int32) × (Nat → Int32) × (Nat → Int32) × (Nat → Int64) × (Nat → Int64) × (Nat → Int32) × (Nat → Int32) × Int32 × (Nat → Int32)) := lp (fun zf z => fX9_tidyT_L120_B nst fisk (fun v2_39 v3_40 wfnow_41 wfbook_42 wfkept_43 wffst_44 wflst_45 wfbef_46 wfmov_47 wnn_48 wftri_49 => zf (v2_39, v3_40, wfnow_41, wfbook_42, wfkept_43, wffst_44, wflst_45, wfbef_46, wfmov_47, wnn_48, wftri_49)) z.1 z.2.1 z.2.2.1 z.2.2.2.1 z.2.2.2.2.1 z.2.2.2.2.2.1 z.2.2.2.2.2.2.1 z.2.2.2.2.2.2.2.1 z.2.2.2.2.2.2.2.2.1 z.2.2.2.2.2.2.2.2.2.1 z.2.2.2.2.2.2.2.2.2.2) n (v2_39, v3_40, wfnow_41, wfbook_42, wfkept_43, wffst_44, wflst_45, wfbef_46, wfmov_47, wnn_48, wftri_49)
def fX9_tidyT_L76_B (nst : Int32) (fisk : Nat → Int32) (self_37 : Int32 → (Nat → Int32) → (Nat → Int32) → (Nat → Int32) → (Nat → Int64) → (Nat → Int64) → (Nat → Int32) → (Nat → Int32) → Int32 → (Nat → Int32) → Option ((Nat → Int32) × (Nat → Int32) × (Nat → Int32) × (Nat → Int64) × (Nat → Int64) × (Nat → Int32) × (Nat → Int32) × Int32 × (Nat → Int32))) (v2_27 : Int32) (wfnow_28 : Nat → Int32) (wfbook_29 : Nat → Int32) (wfkept_30 : Nat → Int32) (wffst_31 : Nat → Int64) (wflst_32 : Nat → Int64) (wfbef_33 : Nat → Int32) (wfmov_34 : Nat → Int32) (wnn_35 : Int32) (wftri_36 : Nat → Int32) : Option ((Nat → Int32) × (Nat → Int32) × (Nat → Int32) × (Nat → Int64) × (Nat → Int64) × (Nat → Int32) × (Nat → Int32) × Int32 × (Nat → Int32)) :=
  if 2 ≤ v2_27 then (fX9_tidyT_L120 nst fisk 4100 0 0 wfnow_28 wfbook_29 wfkept_30 wffst_31 wflst_32 wfbef_33 wfmov_34 wnn_35 wftri_36) else (grd (inB v2_27 2) (jn (fun (t_96 : Int32) => (fX9_mark wfbef_33 wfmov_34 t_96).bind (fun (r_98 : (Nat → Int32)) => self_37 (v2_27 + 1) wfnow_28 wfbook_29 wfkept_30 wffst_31 wflst_32 wfbef_33 r_98 wnn_35 wftri_36)) (fun J_97 => if (fisk v2_27.toNatClampNeg) = 0 then (J_97 (-1)) else (grd (inB ((61 * v2_27) + 60) 122) (J_97 (wfkept_30 ((61 * v2_27) + 60).toNatClampNeg))))))
def fX9_tidyT_L76 (nst : Int32) (fisk : Nat → Int32) (n : Nat) (v2_27 : Int32) (wfnow_28 : Nat → Int32) (wfbook_29 : Nat → Int32) (wfkept_30 : Nat → Int32) (wffst_31 : Nat → Int64) (wflst_32 : Nat → Int64) (wfbef_33 : Nat → Int32) (wfmov_34 : Nat → Int32) (wnn_35 : Int32) (wftri_36 : Nat → Int32) : Option ((Nat → Int32) × (Nat → Int32) × (Nat → Int32) × (Nat → Int64) × (Nat → Int64) × (Nat → Int32) × (Nat → Int32) × Int32 × (Nat → Int32)) := lp (fun zf z => fX9_tidyT_L76_B nst fisk (fun v2_27 wfnow_28 wfbook_29 wfkept_30 wffst_31 wflst_32 wfbef_33 wfmov_34 wnn_35 wftri_36 => zf (v2_27, wfnow_28, wfbook_29, wfkept_30, wffst_31, wflst_32, wfbef_33, wfmov_34, wnn_35, wftri_36)) z.1 z.2.1 z.2.2.1 z.2.2.2.1 z.2.2.2.2.1 z.2.2.2.2.2.1 z.2.2.2.2.2.2.1 z.2.2.2.2.2.2.2.1 z.2.2.2.2.2.2.2.2.1 z.2.2.2.2.2.2.2.2.2) n (v2_27, wfnow_28, wfbook_29, wfkept_30, wffst_31, wflst_32, wfbef_33, wfmov_34, wnn_35, wftri_36)
def fX9_tidyT_L44_B (nst : Int32) (fisk : Nat → Int32) (self_25 : Int32 → (Nat → Int32) → (Nat → Int32) → (Nat → Int32) → (Nat → Int64) → (Nat → Int64) → (Nat → Int32) → (Nat → Int32) → Int32 → (Nat → Int32) → Option ((Nat → Int32) × (Nat → Int32) × (Nat → Int32) × (Nat → Int64) × (Nat → Int64) × (Nat → Int32) × (Nat → Int32) × Int32 × (Nat → Int32))) (v2_15 : Int32) (wfnow_16 : Nat → Int32) (wfbook_17 : Nat → Int32) (wfkept_18 : Nat → Int32) (wffst_19 : Nat → Int64) (wflst_20 : Nat → Int64) (wfbef_21 : Nat → Int32) (wfmov_22 : Nat → Int32) (wnn_23 : Int32) (wftri_24 : Nat → Int32) : Option ((Nat → Int32) × (Nat → Int32) × (Nat → Int32) × (Nat → Int64) × (Nat → Int64) × (Nat → Int32) × (Nat → Int32) × Int32 × (Nat → Int32)) :=
  if nst ≤ v2_15 then (fX9_tidyT_L76 nst fisk 4100 0 wfnow_16 wfbook_17 wfkept_18 wffst_19 wflst_20 wfbef_21 wfmov_22 wnn_23 wftri_24) else (grd (inB ((61 * v2_15) + 60) 366) ((fX9_mark wfbef_21 wfmov_22 (wfbook_17 ((61 * v2_15) + 60).toNatClampNeg)).bind (fun (r_100 : (Nat → Int32)) => self_25 (v2_15 + 1) wfnow_16 wfbook_17 wfkept_18 wffst_19 wflst_20 wfbef_21 r_100 wnn_23 wftri_24)))
def fX9_tidyT_L44 (nst : Int32) (fisk : Nat → Int32) (n : Nat) (v2_15 : Int32) (wfnow_16 : Nat → Int32) (wfbook_17 : Nat → Int32) (wfkept_18 : Nat → Int32) (wffst_19 : Nat → Int64) (wflst_20 : Nat → Int64) (wfbef_21 : Nat → Int32) (wfmov_22 : Nat → Int32) (wnn_23 : Int32) (wftri_24 : Nat → Int32) : Option ((Nat → Int32) × (Nat → Int32) × (Nat → Int32) × (Nat → Int64) × (Nat → Int64) × (Nat → Int32) × (Nat → Int32) × Int32 × (Nat → Int32)) := lp (fun zf z => fX9_tidyT_L44_B nst fisk (fun v2_15 wfnow_16 wfbook_17 wfkept_18 wffst_19 wflst_20 wfbef_21 wfmov_22 wnn_23 wftri_24 => zf (v2_15, wfnow_16, wfbook_17, wfkept_18, wffst_19, wflst_20, wfbef_21, wfmov_22, wnn_23, wftri_24)) z.1 z.2.1 z.2.2.1 z.2.2.2.1 z.2.2.2.2.1 z.2.2.2.2.2.1 z.2.2.2.2.2.2.1 z.2.2.2.2.2.2.2.1 z.2.2.2.2.2.2.2.2.1 z.2.2.2.2.2.2.2.2.2) n (v2_15, wfnow_16, wfbook_17, wfkept_18, wffst_19, wflst_20, wfbef_21, wfmov_22, wnn_23, wftri_24)
def fX9_tidyT_L2_B (nst : Int32) (fisk : Nat → Int32) (self_11 : Int32 → (Nat → Int32) → (Nat → Int32) → (Nat → Int32) → (Nat → Int64) → (Nat → Int64) → (Nat → Int32) → (Nat → Int32) → Int32 → (Nat → Int32) → Option ((Nat → Int32) × (Nat → Int32) × (Nat → Int32) × (Nat → Int64) × (Nat → Int64) × (Nat → Int32) × (Nat → Int32) × Int32 × (Nat → Int32))) (v2_1 : Int32) (wfnow_2 : Nat → Int32) (wfbook_3 : Nat → Int32) (wfkept_4 : Nat → Int32) (wffst_5 : Nat → Int64) (wflst_6 : Nat → Int64) (wfbef_7 : Nat → Int32) (wfmov_8 : Nat → Int32) (wnn_9 : Int32) (wftri_10 : Nat → Int32) : Option ((Nat → Int32) × (Nat → Int32) × (Nat → Int32) × (Nat → Int64) × (Nat → Int64) × (Nat → Int32) × (Nat → Int32) × Int32 × (Nat → Int32)) :=
  if wnn_9 ≤ v2_1 then (grd (inB 60 61) ((fX9_mark wfbef_7 wfmov_8 (wftri_10 (60 : Int32).toNatClampNeg)).bind (fun (r_13 : (Nat → Int32)) => grd (inB 60 61) ((fX9_mark wfbef_7 r_13 (wfnow_2 (60 : Int32).toNatClampNeg)).bind (fun (r_14 : (Nat → Int32)) => fX9_tidyT_L44 nst fisk 4100 0 wfnow_2 wfbook_3 wfkept_4 wffst_5 wflst_6 wfbef_7 r_14 wnn_9 wftri_10))))) else (grd (inB v2_1 4096) (self_11 (v2_1 + 1) wfnow_2 wfbook_3 wfkept_4 wffst_5 wflst_6 wfbef_7 (upd wfmov_8 v2_1.toNatClampNeg (-1)) wnn_9 wftri_10))
def fX9_tidyT_L2 (nst : Int32) (fisk : Nat → Int32) (n : Nat) (v2_1 : Int32) (wfnow_2 : Nat → Int32) (wfbook_3 : Nat → Int32) (wfkept_4 : Nat → Int32) (wffst_5 : Nat → Int64) (wflst_6 : Nat → Int64) (wfbef_7 : Nat → Int32) (wfmov_8 : Nat → Int32) (wnn_9 : Int32) (wftri_10 : Nat → Int32) : Option ((Nat → Int32) × (Nat → Int32) × (Nat → Int32) × (Nat → Int64) × (Nat → Int64) × (Nat → Int32) × (Nat → Int32) × Int32 × (Nat → Int32)) := lp (fun zf z => fX9_tidyT_L2_B nst fisk (fun v2_1 wfnow_2 wfbook_3 wfkept_4 wffst_5 wflst_6 wfbef_7 wfmov_8 wnn_9 wftri_10 => zf (v2_1, wfnow_2, wfbook_3, wfkept_4, wffst_5, wflst_6, wfbef_7, wfmov_8, wnn_9, wftri_10)) z.1 z.2.1 z.2.2.1 z.2.2.2.1 z.2.2.2.2.1 z.2.2.2.2.2.1 z.2.2.2.2.2.2.1 z.2.2.2.2.2.2.2.1 z.2.2.2.2.2.2.2.2.1 z.2.2.2.2.2.2.2.2.2) n (v2_1, wfnow_2, wfbook_3, wfkept_4, wffst_5, wflst_6, wfbef_7, wfmov_8, wnn_9, wftri_10)
def fX9_tidyT (nst : Int32) (nn : Int32) (fnow : Nat → Int32) (fbook : Nat → Int32) (fkept : Nat → Int32) (fisk : Nat → Int32) (ffst : Nat → Int64) (flst : Nat → Int64) (fbef : Nat → Int32) (fmov : Nat → Int32) (ftri : Nat → Int32) : Option ((Nat → Int32) × (Nat → Int32) × (Nat → Int32) × (Nat → Int64) × (Nat → Int64) × (Nat → Int32) × (Nat → Int32) × Int32 × (Nat → Int32)) :=
  fX9_tidyT_L2 nst fisk 4100 0 fnow fbook fkept ffst flst fbef fmov nn ftri
set_option maxRecDepth 100000 in
set_option maxHeartbeats 4000000 in
theorem mX9_tidyT (l : Launch) (g : GE) (o pn pb pk pi pf pl pe pm pt pr pw px : Nat) (refu : Int32) (nst : Int32) (nn : Int32) (len : Int32) (pos : Int32) (gd : Int32) (ps : Int32) (sm : Int32) (fnow : Nat → Int32) (fbook : Nat → Int32) (fkept : Nat → Int32) (fisk : Nat → Int32) (ffst : Nat → Int64) (flst : Nat → Int64) (fbef : Nat → Int32) (fmov : Nat → Int32) (ftri : Nat → Int32) (r : (Nat → Int32) × (Nat → Int32) × (Nat → Int32) × (Nat → Int64) × (Nat → Int64) × (Nat → Int32) × (Nat → Int32) × Int32 × (Nat → Int32)) (hyp : fX9_tidyT nst nn fnow fbook fkept fisk ffst flst fbef fmov ftri = some r) : WM l yX9_tidy cX9_tidy 6 none 1 22 g [(o, .inr (9, [.int refu, .ref pn, .ref pt, .ref pr, .ref pw, .ref pb, .int nst, .ref pk, .ref pi, .ref pf, .ref pl, .ref pe, .ref pm, .int nn, .ref px, .int len, .int pos, .int gd, .int ps, .int sm])), (pn, .inl (g.2.1, 61, .inl fnow)), (pb, .inl (g.2.1, 366, .inl fbook)), (pk, .inl (g.2.1, 122, .inl fkept)), (pi, .inl (g.2.2.2.1, 2, .inl fisk)), (pf, .inl (g.2.2.1, 4096, .inr (.inl ffst))), (pl, .inl (g.2.2.1, 4096, .inr (.inl flst))), (pe, .inl (g.2.1, 4096, .inl fbef)), (pm, .inl (g.2.1, 4096, .inl fmov)), (pt, .inl (g.2.1, 61, .inl ftri))] [.ref o, .ref pt] none [(o, .inr (9, [.int refu, .ref pn, .ref pt, .ref pr, .ref pw, .ref pb, .int nst, .ref pk, .ref pi, .ref pf, .ref pl, .ref pe, .ref pm, .int r.2.2.2.2.2.2.2.1, .ref px, .int len, .int pos, .int gd, .int ps, .int sm])), (pn, .inl (g.2.1, 61, .inl r.1)), (pb, .inl (g.2.1, 366, .inl r.2.1)), (pk, .inl (g.2.1, 122, .inl r.2.2.1)), (pi, .inl (g.2.2.2.1, 2, .inl fisk)), (pf, .inl (g.2.2.1, 4096, .inr (.inl r.2.2.2.1))), (pl, .inl (g.2.2.1, 4096, .inr (.inl r.2.2.2.2.1))), (pe, .inl (g.2.1, 4096, .inl r.2.2.2.2.2.1)), (pm, .inl (g.2.1, 4096, .inl r.2.2.2.2.2.2.1)), (pt, .inl (g.2.1, 61, .inl r.2.2.2.2.2.2.2.2))] := by
  refine metW_intro (by decide) rfl ?_
  intro p e R s m args below meth c Q A hRf hRl hQ hx hb hml hr hlocks hown hts hin hE hA H locs hP hD hS ls hl
  have hown : s.vm.findClass "HallGuardsModel" = some m.cls := hown
  have hl : lv_has ls 6 [(0, .ref o), (1, .ref pt)] := hl
  unfold fX9_tidyT at hyp
  refine lv_iconst (v := 0) hx hb dX9_tidy_0 (by decide) ?_
  refine lv_istore_n (lv' := [(2, .int 0), (0, .ref o), (1, .ref pt)]) hx hb dX9_tidy_1 rfl hl (by decide) rfl (fun ls hl => ?_)
  refine lp_i (r := r) (fun z : Int32 × (Nat → Int32) × (Nat → Int32) × (Nat → Int32) × (Nat → Int64) × (Nat → Int64) × (Nat → Int32) × (Nat → Int32) × Int32 × (Nat → Int32) => ∀ (H : Heap) (locs : List Loc) (ls : Array Slot), lv_has ls 6 [(0, .ref o), (1, .ref pt), (2, .int z.1)] → va_P g.1 vwCl [(o, .inr (9, [.int refu, .ref pn, .ref pt, .ref pr, .ref pw, .ref pb, .int nst, .ref pk, .ref pi, .ref pf, .ref pl, .ref pe, .ref pm, .int z.2.2.2.2.2.2.2.2.1, .ref px, .int len, .int pos, .int gd, .int ps, .int sm])), (pn, .inl (g.2.1, 61, .inl z.2.1)), (pb, .inl (g.2.1, 366, .inl z.2.2.1)), (pk, .inl (g.2.1, 122, .inl z.2.2.2.1)), (pi, .inl (g.2.2.2.1, 2, .inl fisk)), (pf, .inl (g.2.2.1, 4096, .inr (.inl z.2.2.2.2.1))), (pl, .inl (g.2.2.1, 4096, .inr (.inl z.2.2.2.2.2.1))), (pe, .inl (g.2.1, 4096, .inl z.2.2.2.2.2.2.1)), (pm, .inl (g.2.1, 4096, .inl z.2.2.2.2.2.2.2.1)), (pt, .inl (g.2.1, 61, .inl z.2.2.2.2.2.2.2.2.2))] H → va_D A [(o, .inr (9, [.int refu, .ref pn, .ref pt, .ref pr, .ref pw, .ref pb, .int nst, .ref pk, .ref pi, .ref pf, .ref pl, .ref pe, .ref pm, .int z.2.2.2.2.2.2.2.2.1, .ref px, .int len, .int pos, .int gd, .int ps, .int sm])), (pn, .inl (g.2.1, 61, .inl z.2.1)), (pb, .inl (g.2.1, 366, .inl z.2.2.1)), (pk, .inl (g.2.1, 122, .inl z.2.2.2.1)), (pi, .inl (g.2.2.2.1, 2, .inl fisk)), (pf, .inl (g.2.2.1, 4096, .inr (.inl z.2.2.2.2.1))), (pl, .inl (g.2.2.1, 4096, .inr (.inl z.2.2.2.2.2.1))), (pe, .inl (g.2.1, 4096, .inl z.2.2.2.2.2.2.1)), (pm, .inl (g.2.1, 4096, .inl z.2.2.2.2.2.2.2.1)), (pt, .inl (g.2.1, 61, .inl z.2.2.2.2.2.2.2.2.2))] → va_S A s.heap H locs → W p l e R s m args below meth c H locs 0 0 Q (F0 m 2 ls [])) ?_ 4100 (0, fnow, fbook, fkept, ffst, flst, fbef, fmov, nn, ftri) hyp _ _ ls (lv_sub hl [1, 2, 0] rfl) hP hD hS
  intro self_11T ihself_11T z hyp H locs ls hl hP hD hS
  obtain ⟨v2_1, wfnow_2, wfbook_3, wfkept_4, wffst_5, wflst_6, wfbef_7, wfmov_8, wnn_9, wftri_10⟩ := z
  obtain ⟨self_11, eself_11⟩ : ∃ f9 : Int32 → (Nat → Int32) → (Nat → Int32) → (Nat → Int32) → (Nat → Int64) → (Nat → Int64) → (Nat → Int32) → (Nat → Int32) → Int32 → (Nat → Int32) → Option ((Nat → Int32) × (Nat → Int32) × (Nat → Int32) × (Nat → Int64) × (Nat → Int64) × (Nat → Int32) × (Nat → Int32) × Int32 × (Nat → Int32)), f9 = fun v2_1 wfnow_2 wfbook_3 wfkept_4 wffst_5 wflst_6 wfbef_7 wfmov_8 wnn_9 wftri_10 => self_11T (v2_1, wfnow_2, wfbook_3, wfkept_4, wffst_5, wflst_6, wfbef_7, wfmov_8, wnn_9, wftri_10) := ⟨_, rfl⟩
  have ihself_11 := fun (v2_1 : Int32) (wfnow_2 : Nat → Int32) (wfbook_3 : Nat → Int32) (wfkept_4 : Nat → Int32) (wffst_5 : Nat → Int64) (wflst_6 : Nat → Int64) (wfbef_7 : Nat → Int32) (wfmov_8 : Nat → Int32) (wnn_9 : Int32) (wftri_10 : Nat → Int32) (h9 : self_11 v2_1 wfnow_2 wfbook_3 wfkept_4 wffst_5 wflst_6 wfbef_7 wfmov_8 wnn_9 wftri_10 = some r) => ihself_11T (v2_1, wfnow_2, wfbook_3, wfkept_4, wffst_5, wflst_6, wfbef_7, wfmov_8, wnn_9, wftri_10) (by rw [eself_11] at h9; exact h9)
  replace hyp : fX9_tidyT_L2_B nst fisk self_11 v2_1 wfnow_2 wfbook_3 wfkept_4 wffst_5 wflst_6 wfbef_7 wfmov_8 wnn_9 wftri_10 = some r := by rw [eself_11]; exact hyp
  have hl : lv_has ls 6 [(0, .ref o), (1, .ref pt), (2, .int v2_1)] := hl
  have hP : va_P g.1 vwCl [(o, .inr (9, [.int refu, .ref pn, .ref pt, .ref pr, .ref pw, .ref pb, .int nst, .ref pk, .ref pi, .ref pf, .ref pl, .ref pe, .ref pm, .int wnn_9, .ref px, .int len, .int pos, .int gd, .int ps, .int sm])), (pn, .inl (g.2.1, 61, .inl wfnow_2)), (pb, .inl (g.2.1, 366, .inl wfbook_3)), (pk, .inl (g.2.1, 122, .inl wfkept_4)), (pi, .inl (g.2.2.2.1, 2, .inl fisk)), (pf, .inl (g.2.2.1, 4096, .inr (.inl wffst_5))), (pl, .inl (g.2.2.1, 4096, .inr (.inl wflst_6))), (pe, .inl (g.2.1, 4096, .inl wfbef_7)), (pm, .inl (g.2.1, 4096, .inl wfmov_8)), (pt, .inl (g.2.1, 61, .inl wftri_10))] H := hP
  have hD : va_D A [(o, .inr (9, [.int refu, .ref pn, .ref pt, .ref pr, .ref pw, .ref pb, .int nst, .ref pk, .ref pi, .ref pf, .ref pl, .ref pe, .ref pm, .int wnn_9, .ref px, .int len, .int pos, .int gd, .int ps, .int sm])), (pn, .inl (g.2.1, 61, .inl wfnow_2)), (pb, .inl (g.2.1, 366, .inl wfbook_3)), (pk, .inl (g.2.1, 122, .inl wfkept_4)), (pi, .inl (g.2.2.2.1, 2, .inl fisk)), (pf, .inl (g.2.2.1, 4096, .inr (.inl wffst_5))), (pl, .inl (g.2.2.1, 4096, .inr (.inl wflst_6))), (pe, .inl (g.2.1, 4096, .inl wfbef_7)), (pm, .inl (g.2.1, 4096, .inl wfmov_8)), (pt, .inl (g.2.1, 61, .inl wftri_10))] := hD
  show W p l e R s m args below meth c H locs 0 0 Q (F0 m 2 ls [])
  unfold fX9_tidyT_L2_B at hyp
  refine lv_iload_n hx hb dX9_tidy_2 rfl (lv_at hl 2 rfl) ?_
  refine lv_aload_n hx hb dX9_tidy_3 rfl (lv_at hl 0 rfl) ?_
  refine gf_X9_104 hx hb hts hown hE hP 0 rfl rfl dX9_tidy_4 ?_
  refine lv_icmp_ge (tgt := 23) hx hb dX9_tidy_7 (by decide) (fun h_12 => ?_) (fun h_12 => ?_)
  · replace hyp := ite_t h_12 hyp
    refine lv_aload_n hx hb dX9_tidy_23 rfl (lv_at hl 0 rfl) ?_
    refine lv_aload_n hx hb dX9_tidy_24 rfl (lv_at hl 1 rfl) ?_
    refine lv_bipush (v := 60) hx hb dX9_tidy_25 (by decide) ?_
    obtain ⟨hi, hyp⟩ := grd_e hyp
    refine va_iald hx hb hE.1 hP 9 0 rfl rfl (inB_vp hi) dX9_tidy_27 ?_
    obtain ⟨r_13, hr_13, hyp⟩ := opt_e hyp
    refine wV (As := [.int (wftri_10 (60 : Int32).toNatClampNeg)]) (rest := []) ⟨hx, hb, hml, hown, hts⟩ hE (mX9_mark l g o pe pm pn pt pr pw pb pk pi pf pl px refu nst wnn_9 len pos gd ps sm wfbef_7 wfmov_8 (wftri_10 (60 : Int32).toNatClampNeg) r_13 hr_13) cf_X9_mark im_X9_mark se_X9_mark ml_X9_107 ⟨Nat.le_trans (Nat.le_of_ble_eq_true rfl) hRf, Nat.le_trans (Nat.le_of_ble_eq_true rfl) hRl⟩ hP hD hS hA [0, 7, 8] [1, 2, 3, 4, 5, 6, 9] rfl (wr := [(pn, .inl (g.2.1, 61, .inl wfnow_2)), (pb, .inl (g.2.1, 366, .inl wfbook_3)), (pk, .inl (g.2.1, 122, .inl wfkept_4)), (pi, .inl (g.2.2.2.1, 2, .inl fisk)), (pf, .inl (g.2.2.1, 4096, .inr (.inl wffst_5))), (pl, .inl (g.2.2.1, 4096, .inr (.inl wflst_6))), (pt, .inl (g.2.1, 61, .inl wftri_10))]) rfl ⟨by decide, by decide⟩ (by decide) (ci := 9) (q0 := 0) rfl rfl rfl rfl hl.1 rfl (Nat.le_of_ble_eq_true rfl) dX9_tidy_28 ⟨Nat.zero_le _, Nat.zero_le _⟩ (fun H locs hP hD hS => ?_)
    have hP : va_P g.1 vwCl [(pn, .inl (g.2.1, 61, .inl wfnow_2)), (pb, .inl (g.2.1, 366, .inl wfbook_3)), (pk, .inl (g.2.1, 122, .inl wfkept_4)), (pi, .inl (g.2.2.2.1, 2, .inl fisk)), (pf, .inl (g.2.2.1, 4096, .inr (.inl wffst_5))), (pl, .inl (g.2.2.1, 4096, .inr (.inl wflst_6))), (pt, .inl (g.2.1, 61, .inl wftri_10)), (o, .inr (9, [.int refu, .ref pn, .ref pt, .ref pr, .ref pw, .ref pb, .int nst, .ref pk, .ref pi, .ref pf, .ref pl, .ref pe, .ref pm, .int wnn_9, .ref px, .int len, .int pos, .int gd, .int ps, .int sm])), (pe, .inl (g.2.1, 4096, .inl wfbef_7)), (pm, .inl (g.2.1, 4096, .inl r_13))] H := hP
    have hD : va_D A [(pn, .inl (g.2.1, 61, .inl wfnow_2)), (pb, .inl (g.2.1, 366, .inl wfbook_3)), (pk, .inl (g.2.1, 122, .inl wfkept_4)), (pi, .inl (g.2.2.2.1, 2, .inl fisk)), (pf, .inl (g.2.2.1, 4096, .inr (.inl wffst_5))), (pl, .inl (g.2.2.1, 4096, .inr (.inl wflst_6))), (pt, .inl (g.2.1, 61, .inl wftri_10)), (o, .inr (9, [.int refu, .ref pn, .ref pt, .ref pr, .ref pw, .ref pb, .int nst, .ref pk, .ref pi, .ref pf, .ref pl, .ref pe, .ref pm, .int wnn_9, .ref px, .int len, .int pos, .int gd, .int ps, .int sm])), (pe, .inl (g.2.1, 4096, .inl wfbef_7)), (pm, .inl (g.2.1, 4096, .inl r_13))] := hD
    refine lv_aload_n hx hb dX9_tidy_31 rfl (lv_at hl 0 rfl) ?_
    refine lv_aload_n hx hb dX9_tidy_32 rfl (lv_at hl 0 rfl) ?_
    refine gf_X9_7 hx hb hts hown hE hP 7 rfl rfl dX9_tidy_33 ?_
    refine lv_bipush (v := 60) hx hb dX9_tidy_36 (by decide) ?_
    obtain ⟨hi, hyp⟩ := grd_e hyp
    refine va_iald hx hb hE.1 hP 0 0 rfl rfl (inB_vp hi) dX9_tidy_38 ?_
    obtain ⟨r_14, hr_14, hyp⟩ := opt_e hyp
    refine wV (As := [.int (wfnow_2 (60 : Int32).toNatClampNeg)]) (rest := []) ⟨hx, hb, hml, hown, hts⟩ hE (mX9_mark l g o pe pm pn pt pr pw pb pk pi pf pl px refu nst wnn_9 len pos gd ps sm wfbef_7 r_13 (wfnow_2 (60 : Int32).toNatClampNeg) r_14 hr_14) cf_X9_mark im_X9_mark se_X9_mark ml_X9_107 ⟨Nat.le_trans (Nat.le_of_ble_eq_true rfl) hRf, Nat.le_trans (Nat.le_of_ble_eq_true rfl) hRl⟩ hP hD hS hA [7, 8, 9] [0, 1, 2, 3, 4, 5, 6] rfl (wr := [(pn, .inl (g.2.1, 61, .inl wfnow_2)), (pb, .inl (g.2.1, 366, .inl wfbook_3)), (pk, .inl (g.2.1, 122, .inl wfkept_4)), (pi, .inl (g.2.2.2.1, 2, .inl fisk)), (pf, .inl (g.2.2.1, 4096, .inr (.inl wffst_5))), (pl, .inl (g.2.2.1, 4096, .inr (.inl wflst_6))), (pt, .inl (g.2.1, 61, .inl wftri_10))]) rfl ⟨by decide, by decide⟩ (by decide) (ci := 9) (q0 := 0) rfl rfl rfl rfl hl.1 rfl (Nat.le_of_ble_eq_true rfl) dX9_tidy_39 ⟨Nat.zero_le _, Nat.zero_le _⟩ (fun H locs hP hD hS => ?_)
    have hP : va_P g.1 vwCl [(pn, .inl (g.2.1, 61, .inl wfnow_2)), (pb, .inl (g.2.1, 366, .inl wfbook_3)), (pk, .inl (g.2.1, 122, .inl wfkept_4)), (pi, .inl (g.2.2.2.1, 2, .inl fisk)), (pf, .inl (g.2.2.1, 4096, .inr (.inl wffst_5))), (pl, .inl (g.2.2.1, 4096, .inr (.inl wflst_6))), (pt, .inl (g.2.1, 61, .inl wftri_10)), (o, .inr (9, [.int refu, .ref pn, .ref pt, .ref pr, .ref pw, .ref pb, .int nst, .ref pk, .ref pi, .ref pf, .ref pl, .ref pe, .ref pm, .int wnn_9, .ref px, .int len, .int pos, .int gd, .int ps, .int sm])), (pe, .inl (g.2.1, 4096, .inl wfbef_7)), (pm, .inl (g.2.1, 4096, .inl r_14))] H := hP
    have hD : va_D A [(pn, .inl (g.2.1, 61, .inl wfnow_2)), (pb, .inl (g.2.1, 366, .inl wfbook_3)), (pk, .inl (g.2.1, 122, .inl wfkept_4)), (pi, .inl (g.2.2.2.1, 2, .inl fisk)), (pf, .inl (g.2.2.1, 4096, .inr (.inl wffst_5))), (pl, .inl (g.2.2.1, 4096, .inr (.inl wflst_6))), (pt, .inl (g.2.1, 61, .inl wftri_10)), (o, .inr (9, [.int refu, .ref pn, .ref pt, .ref pr, .ref pw, .ref pb, .int nst, .ref pk, .ref pi, .ref pf, .ref pl, .ref pe, .ref pm, .int wnn_9, .ref px, .int len, .int pos, .int gd, .int ps, .int sm])), (pe, .inl (g.2.1, 4096, .inl wfbef_7)), (pm, .inl (g.2.1, 4096, .inl r_14))] := hD
    refine lv_iconst (v := 0) hx hb dX9_tidy_42 (by decide) ?_
    refine lv_istore_n (lv' := [(2, .int 0), (0, .ref o), (1, .ref pt)]) hx hb dX9_tidy_43 rfl hl (by decide) rfl (fun ls hl => ?_)
    have hP : va_P g.1 vwCl [(o, .inr (9, [.int refu, .ref pn, .ref pt, .ref pr, .ref pw, .ref pb, .int nst, .ref pk, .ref pi, .ref pf, .ref pl, .ref pe, .ref pm, .int wnn_9, .ref px, .int len, .int pos, .int gd, .int ps, .int sm])), (pn, .inl (g.2.1, 61, .inl wfnow_2)), (pb, .inl (g.2.1, 366, .inl wfbook_3)), (pk, .inl (g.2.1, 122, .inl wfkept_4)), (pi, .inl (g.2.2.2.1, 2, .inl fisk)), (pf, .inl (g.2.2.1, 4096, .inr (.inl wffst_5))), (pl, .inl (g.2.2.1, 4096, .inr (.inl wflst_6))), (pe, .inl (g.2.1, 4096, .inl wfbef_7)), (pm, .inl (g.2.1, 4096, .inl r_14)), (pt, .inl (g.2.1, 61, .inl wftri_10))] H := hP.sub [7, 0, 1, 2, 3, 4, 5, 8, 9, 6] rfl
    have hD : va_D A [(o, .inr (9, [.int refu, .ref pn, .ref pt, .ref pr, .ref pw, .ref pb, .int nst, .ref pk, .ref pi, .ref pf, .ref pl, .ref pe, .ref pm, .int wnn_9, .ref px, .int len, .int pos, .int gd, .int ps, .int sm])), (pn, .inl (g.2.1, 61, .inl wfnow_2)), (pb, .inl (g.2.1, 366, .inl wfbook_3)), (pk, .inl (g.2.1, 122, .inl wfkept_4)), (pi, .inl (g.2.2.2.1, 2, .inl fisk)), (pf, .inl (g.2.2.1, 4096, .inr (.inl wffst_5))), (pl, .inl (g.2.2.1, 4096, .inr (.inl wflst_6))), (pe, .inl (g.2.1, 4096, .inl wfbef_7)), (pm, .inl (g.2.1, 4096, .inl r_14)), (pt, .inl (g.2.1, 61, .inl wftri_10))] := hD.sub [7, 0, 1, 2, 3, 4, 5, 8, 9, 6] (by decide) rfl
    refine lp_i (r := r) (fun z : Int32 × (Nat → Int32) × (Nat → Int32) × (Nat → Int32) × (Nat → Int64) × (Nat → Int64) × (Nat → Int32) × (Nat → Int32) × Int32 × (Nat → Int32) => ∀ (H : Heap) (locs : List Loc) (ls : Array Slot), lv_has ls 6 [(0, .ref o), (1, .ref pt), (2, .int z.1)] → va_P g.1 vwCl [(o, .inr (9, [.int refu, .ref pn, .ref pt, .ref pr, .ref pw, .ref pb, .int nst, .ref pk, .ref pi, .ref pf, .ref pl, .ref pe, .ref pm, .int z.2.2.2.2.2.2.2.2.1, .ref px, .int len, .int pos, .int gd, .int ps, .int sm])), (pn, .inl (g.2.1, 61, .inl z.2.1)), (pb, .inl (g.2.1, 366, .inl z.2.2.1)), (pk, .inl (g.2.1, 122, .inl z.2.2.2.1)), (pi, .inl (g.2.2.2.1, 2, .inl fisk)), (pf, .inl (g.2.2.1, 4096, .inr (.inl z.2.2.2.2.1))), (pl, .inl (g.2.2.1, 4096, .inr (.inl z.2.2.2.2.2.1))), (pe, .inl (g.2.1, 4096, .inl z.2.2.2.2.2.2.1)), (pm, .inl (g.2.1, 4096, .inl z.2.2.2.2.2.2.2.1)), (pt, .inl (g.2.1, 61, .inl z.2.2.2.2.2.2.2.2.2))] H → va_D A [(o, .inr (9, [.int refu, .ref pn, .ref pt, .ref pr, .ref pw, .ref pb, .int nst, .ref pk, .ref pi, .ref pf, .ref pl, .ref pe, .ref pm, .int z.2.2.2.2.2.2.2.2.1, .ref px, .int len, .int pos, .int gd, .int ps, .int sm])), (pn, .inl (g.2.1, 61, .inl z.2.1)), (pb, .inl (g.2.1, 366, .inl z.2.2.1)), (pk, .inl (g.2.1, 122, .inl z.2.2.2.1)), (pi, .inl (g.2.2.2.1, 2, .inl fisk)), (pf, .inl (g.2.2.1, 4096, .inr (.inl z.2.2.2.2.1))), (pl, .inl (g.2.2.1, 4096, .inr (.inl z.2.2.2.2.2.1))), (pe, .inl (g.2.1, 4096, .inl z.2.2.2.2.2.2.1)), (pm, .inl (g.2.1, 4096, .inl z.2.2.2.2.2.2.2.1)), (pt, .inl (g.2.1, 61, .inl z.2.2.2.2.2.2.2.2.2))] → va_S A s.heap H locs → W p l e R s m args below meth c H locs 0 0 Q (F0 m 44 ls [])) ?_ 4100 (0, wfnow_2, wfbook_3, wfkept_4, wffst_5, wflst_6, wfbef_7, r_14, wnn_9, wftri_10) hyp _ _ ls (lv_sub hl [1, 2, 0] rfl) hP hD hS
    intro self_25T ihself_25T z hyp H locs ls hl hP hD hS
    obtain ⟨v2_15, wfnow_16, wfbook_17, wfkept_18, wffst_19, wflst_20, wfbef_21, wfmov_22, wnn_23, wftri_24⟩ := z
    obtain ⟨self_25, eself_25⟩ : ∃ f9 : Int32 → (Nat → Int32) → (Nat → Int32) → (Nat → Int32) → (Nat → Int64) → (Nat → Int64) → (Nat → Int32) → (Nat → Int32) → Int32 → (Nat → Int32) → Option ((Nat → Int32) × (Nat → Int32) × (Nat → Int32) × (Nat → Int64) × (Nat → Int64) × (Nat → Int32) × (Nat → Int32) × Int32 × (Nat → Int32)), f9 = fun v2_15 wfnow_16 wfbook_17 wfkept_18 wffst_19 wflst_20 wfbef_21 wfmov_22 wnn_23 wftri_24 => self_25T (v2_15, wfnow_16, wfbook_17, wfkept_18, wffst_19, wflst_20, wfbef_21, wfmov_22, wnn_23, wftri_24) := ⟨_, rfl⟩
    have ihself_25 := fun (v2_15 : Int32) (wfnow_16 : Nat → Int32) (wfbook_17 : Nat → Int32) (wfkept_18 : Nat → Int32) (wffst_19 : Nat → Int64) (wflst_20 : Nat → Int64) (wfbef_21 : Nat → Int32) (wfmov_22 : Nat → Int32) (wnn_23 : Int32) (wftri_24 : Nat → Int32) (h9 : self_25 v2_15 wfnow_16 wfbook_17 wfkept_18 wffst_19 wflst_20 wfbef_21 wfmov_22 wnn_23 wftri_24 = some r) => ihself_25T (v2_15, wfnow_16, wfbook_17, wfkept_18, wffst_19, wflst_20, wfbef_21, wfmov_22, wnn_23, wftri_24) (by rw [eself_25] at h9; exact h9)
    replace hyp : fX9_tidyT_L44_B nst fisk self_25 v2_15 wfnow_16 wfbook_17 wfkept_18 wffst_19 wflst_20 wfbef_21 wfmov_22 wnn_23 wftri_24 = some r := by rw [eself_25]; exact hyp
    have hl : lv_has ls 6 [(0, .ref o), (1, .ref pt), (2, .int v2_15)] := hl
    have hP : va_P g.1 vwCl [(o, .inr (9, [.int refu, .ref pn, .ref pt, .ref pr, .ref pw, .ref pb, .int nst, .ref pk, .ref pi, .ref pf, .ref pl, .ref pe, .ref pm, .int wnn_23, .ref px, .int len, .int pos, .int gd, .int ps, .int sm])), (pn, .inl (g.2.1, 61, .inl wfnow_16)), (pb, .inl (g.2.1, 366, .inl wfbook_17)), (pk, .inl (g.2.1, 122, .inl wfkept_18)), (pi, .inl (g.2.2.2.1, 2, .inl fisk)), (pf, .inl (g.2.2.1, 4096, .inr (.inl wffst_19))), (pl, .inl (g.2.2.1, 4096, .inr (.inl wflst_20))), (pe, .inl (g.2.1, 4096, .inl wfbef_21)), (pm, .inl (g.2.1, 4096, .inl wfmov_22)), (pt, .inl (g.2.1, 61, .inl wftri_24))] H := hP
    have hD : va_D A [(o, .inr (9, [.int refu, .ref pn, .ref pt, .ref pr, .ref pw, .ref pb, .int nst, .ref pk, .ref pi, .ref pf, .ref pl, .ref pe, .ref pm, .int wnn_23, .ref px, .int len, .int pos, .int gd, .int ps, .int sm])), (pn, .inl (g.2.1, 61, .inl wfnow_16)), (pb, .inl (g.2.1, 366, .inl wfbook_17)), (pk, .inl (g.2.1, 122, .inl wfkept_18)), (pi, .inl (g.2.2.2.1, 2, .inl fisk)), (pf, .inl (g.2.2.1, 4096, .inr (.inl wffst_19))), (pl, .inl (g.2.2.1, 4096, .inr (.inl wflst_20))), (pe, .inl (g.2.1, 4096, .inl wfbef_21)), (pm, .inl (g.2.1, 4096, .inl wfmov_22)), (pt, .inl (g.2.1, 61, .inl wftri_24))] := hD
    show W p l e R s m args below meth c H locs 0 0 Q (F0 m 44 ls [])
    unfold fX9_tidyT_L44_B at hyp
    refine lv_iload_n hx hb dX9_tidy_44 rfl (lv_at hl 2 rfl) ?_
    refine lv_aload_n hx hb dX9_tidy_45 rfl (lv_at hl 0 rfl) ?_
    refine gf_X9_111 hx hb hts hown hE hP 0 rfl rfl dX9_tidy_46 ?_
    refine lv_icmp_ge (tgt := 74) hx hb dX9_tidy_49 (by decide) (fun h_26 => ?_) (fun h_26 => ?_)
    · replace hyp := ite_t h_26 hyp
      refine lv_iconst (v := 0) hx hb dX9_tidy_74 (by decide) ?_
      refine lv_istore_n (lv' := [(2, .int 0), (0, .ref o), (1, .ref pt)]) hx hb dX9_tidy_75 rfl hl (by decide) rfl (fun ls hl => ?_)
      refine lp_i (r := r) (fun z : Int32 × (Nat → Int32) × (Nat → Int32) × (Nat → Int32) × (Nat → Int64) × (Nat → Int64) × (Nat → Int32) × (Nat → Int32) × Int32 × (Nat → Int32) => ∀ (H : Heap) (locs : List Loc) (ls : Array Slot), lv_has ls 6 [(0, .ref o), (1, .ref pt), (2, .int z.1)] → va_P g.1 vwCl [(o, .inr (9, [.int refu, .ref pn, .ref pt, .ref pr, .ref pw, .ref pb, .int nst, .ref pk, .ref pi, .ref pf, .ref pl, .ref pe, .ref pm, .int z.2.2.2.2.2.2.2.2.1, .ref px, .int len, .int pos, .int gd, .int ps, .int sm])), (pn, .inl (g.2.1, 61, .inl z.2.1)), (pb, .inl (g.2.1, 366, .inl z.2.2.1)), (pk, .inl (g.2.1, 122, .inl z.2.2.2.1)), (pi, .inl (g.2.2.2.1, 2, .inl fisk)), (pf, .inl (g.2.2.1, 4096, .inr (.inl z.2.2.2.2.1))), (pl, .inl (g.2.2.1, 4096, .inr (.inl z.2.2.2.2.2.1))), (pe, .inl (g.2.1, 4096, .inl z.2.2.2.2.2.2.1)), (pm, .inl (g.2.1, 4096, .inl z.2.2.2.2.2.2.2.1)), (pt, .inl (g.2.1, 61, .inl z.2.2.2.2.2.2.2.2.2))] H → va_D A [(o, .inr (9, [.int refu, .ref pn, .ref pt, .ref pr, .ref pw, .ref pb, .int nst, .ref pk, .ref pi, .ref pf, .ref pl, .ref pe, .ref pm, .int z.2.2.2.2.2.2.2.2.1, .ref px, .int len, .int pos, .int gd, .int ps, .int sm])), (pn, .inl (g.2.1, 61, .inl z.2.1)), (pb, .inl (g.2.1, 366, .inl z.2.2.1)), (pk, .inl (g.2.1, 122, .inl z.2.2.2.1)), (pi, .inl (g.2.2.2.1, 2, .inl fisk)), (pf, .inl (g.2.2.1, 4096, .inr (.inl z.2.2.2.2.1))), (pl, .inl (g.2.2.1, 4096, .inr (.inl z.2.2.2.2.2.1))), (pe, .inl (g.2.1, 4096, .inl z.2.2.2.2.2.2.1)), (pm, .inl (g.2.1, 4096, .inl z.2.2.2.2.2.2.2.1)), (pt, .inl (g.2.1, 61, .inl z.2.2.2.2.2.2.2.2.2))] → va_S A s.heap H locs → W p l e R s m args below meth c H locs 0 0 Q (F0 m 76 ls [])) ?_ 4100 (0, wfnow_16, wfbook_17, wfkept_18, wffst_19, wflst_20, wfbef_21, wfmov_22, wnn_23, wftri_24) hyp _ _ ls (lv_sub hl [1, 2, 0] rfl) hP hD hS
      intro self_37T ihself_37T z hyp H locs ls hl hP hD hS
      obtain ⟨v2_27, wfnow_28, wfbook_29, wfkept_30, wffst_31, wflst_32, wfbef_33, wfmov_34, wnn_35, wftri_36⟩ := z
      obtain ⟨self_37, eself_37⟩ : ∃ f9 : Int32 → (Nat → Int32) → (Nat → Int32) → (Nat → Int32) → (Nat → Int64) → (Nat → Int64) → (Nat → Int32) → (Nat → Int32) → Int32 → (Nat → Int32) → Option ((Nat → Int32) × (Nat → Int32) × (Nat → Int32) × (Nat → Int64) × (Nat → Int64) × (Nat → Int32) × (Nat → Int32) × Int32 × (Nat → Int32)), f9 = fun v2_27 wfnow_28 wfbook_29 wfkept_30 wffst_31 wflst_32 wfbef_33 wfmov_34 wnn_35 wftri_36 => self_37T (v2_27, wfnow_28, wfbook_29, wfkept_30, wffst_31, wflst_32, wfbef_33, wfmov_34, wnn_35, wftri_36) := ⟨_, rfl⟩
      have ihself_37 := fun (v2_27 : Int32) (wfnow_28 : Nat → Int32) (wfbook_29 : Nat → Int32) (wfkept_30 : Nat → Int32) (wffst_31 : Nat → Int64) (wflst_32 : Nat → Int64) (wfbef_33 : Nat → Int32) (wfmov_34 : Nat → Int32) (wnn_35 : Int32) (wftri_36 : Nat → Int32) (h9 : self_37 v2_27 wfnow_28 wfbook_29 wfkept_30 wffst_31 wflst_32 wfbef_33 wfmov_34 wnn_35 wftri_36 = some r) => ihself_37T (v2_27, wfnow_28, wfbook_29, wfkept_30, wffst_31, wflst_32, wfbef_33, wfmov_34, wnn_35, wftri_36) (by rw [eself_37] at h9; exact h9)
      replace hyp : fX9_tidyT_L76_B nst fisk self_37 v2_27 wfnow_28 wfbook_29 wfkept_30 wffst_31 wflst_32 wfbef_33 wfmov_34 wnn_35 wftri_36 = some r := by rw [eself_37]; exact hyp
      have hl : lv_has ls 6 [(0, .ref o), (1, .ref pt), (2, .int v2_27)] := hl
      have hP : va_P g.1 vwCl [(o, .inr (9, [.int refu, .ref pn, .ref pt, .ref pr, .ref pw, .ref pb, .int nst, .ref pk, .ref pi, .ref pf, .ref pl, .ref pe, .ref pm, .int wnn_35, .ref px, .int len, .int pos, .int gd, .int ps, .int sm])), (pn, .inl (g.2.1, 61, .inl wfnow_28)), (pb, .inl (g.2.1, 366, .inl wfbook_29)), (pk, .inl (g.2.1, 122, .inl wfkept_30)), (pi, .inl (g.2.2.2.1, 2, .inl fisk)), (pf, .inl (g.2.2.1, 4096, .inr (.inl wffst_31))), (pl, .inl (g.2.2.1, 4096, .inr (.inl wflst_32))), (pe, .inl (g.2.1, 4096, .inl wfbef_33)), (pm, .inl (g.2.1, 4096, .inl wfmov_34)), (pt, .inl (g.2.1, 61, .inl wftri_36))] H := hP
      have hD : va_D A [(o, .inr (9, [.int refu, .ref pn, .ref pt, .ref pr, .ref pw, .ref pb, .int nst, .ref pk, .ref pi, .ref pf, .ref pl, .ref pe, .ref pm, .int wnn_35, .ref px, .int len, .int pos, .int gd, .int ps, .int sm])), (pn, .inl (g.2.1, 61, .inl wfnow_28)), (pb, .inl (g.2.1, 366, .inl wfbook_29)), (pk, .inl (g.2.1, 122, .inl wfkept_30)), (pi, .inl (g.2.2.2.1, 2, .inl fisk)), (pf, .inl (g.2.2.1, 4096, .inr (.inl wffst_31))), (pl, .inl (g.2.2.1, 4096, .inr (.inl wflst_32))), (pe, .inl (g.2.1, 4096, .inl wfbef_33)), (pm, .inl (g.2.1, 4096, .inl wfmov_34)), (pt, .inl (g.2.1, 61, .inl wftri_36))] := hD
      show W p l e R s m args below meth c H locs 0 0 Q (F0 m 76 ls [])
      unfold fX9_tidyT_L76_B at hyp
      refine lv_iload_n hx hb dX9_tidy_76 rfl (lv_at hl 2 rfl) ?_
      refine lv_iconst (v := 2) hx hb dX9_tidy_77 (by decide) ?_
      refine lv_icmp_ge (tgt := 116) hx hb dX9_tidy_78 (by decide) (fun h_38 => ?_) (fun h_38 => ?_)
      · replace hyp := ite_t h_38 hyp
        refine lv_iconst (v := 0) hx hb dX9_tidy_116 (by decide) ?_
        refine lv_istore_n (lv' := [(2, .int 0), (0, .ref o), (1, .ref pt)]) hx hb dX9_tidy_117 rfl hl (by decide) rfl (fun ls hl => ?_)
        refine lv_iconst (v := 0) hx hb dX9_tidy_118 (by decide) ?_
        refine lv_istore_n (lv' := [(3, .int 0), (2, .int 0), (0, .ref o), (1, .ref pt)]) hx hb dX9_tidy_119 rfl hl (by decide) rfl (fun ls hl => ?_)
        refine lp_i (r := r) (fun z : Int32 × Int32 × (Nat → Int32) × (Nat → Int32) × (Nat → Int32) × (Nat → Int64) × (Nat → Int64) × (Nat → Int32) × (Nat → Int32) × Int32 × (Nat → Int32) => ∀ (H : Heap) (locs : List Loc) (ls : Array Slot), lv_has ls 6 [(0, .ref o), (1, .ref pt), (2, .int z.1), (3, .int z.2.1)] → va_P g.1 vwCl [(o, .inr (9, [.int refu, .ref pn, .ref pt, .ref pr, .ref pw, .ref pb, .int nst, .ref pk, .ref pi, .ref pf, .ref pl, .ref pe, .ref pm, .int z.2.2.2.2.2.2.2.2.2.1, .ref px, .int len, .int pos, .int gd, .int ps, .int sm])), (pn, .inl (g.2.1, 61, .inl z.2.2.1)), (pb, .inl (g.2.1, 366, .inl z.2.2.2.1)), (pk, .inl (g.2.1, 122, .inl z.2.2.2.2.1)), (pi, .inl (g.2.2.2.1, 2, .inl fisk)), (pf, .inl (g.2.2.1, 4096, .inr (.inl z.2.2.2.2.2.1))), (pl, .inl (g.2.2.1, 4096, .inr (.inl z.2.2.2.2.2.2.1))), (pe, .inl (g.2.1, 4096, .inl z.2.2.2.2.2.2.2.1)), (pm, .inl (g.2.1, 4096, .inl z.2.2.2.2.2.2.2.2.1)), (pt, .inl (g.2.1, 61, .inl z.2.2.2.2.2.2.2.2.2.2))] H → va_D A [(o, .inr (9, [.int refu, .ref pn, .ref pt, .ref pr, .ref pw, .ref pb, .int nst, .ref pk, .ref pi, .ref pf, .ref pl, .ref pe, .ref pm, .int z.2.2.2.2.2.2.2.2.2.1, .ref px, .int len, .int pos, .int gd, .int ps, .int sm])), (pn, .inl (g.2.1, 61, .inl z.2.2.1)), (pb, .inl (g.2.1, 366, .inl z.2.2.2.1)), (pk, .inl (g.2.1, 122, .inl z.2.2.2.2.1)), (pi, .inl (g.2.2.2.1, 2, .inl fisk)), (pf, .inl (g.2.2.1, 4096, .inr (.inl z.2.2.2.2.2.1))), (pl, .inl (g.2.2.1, 4096, .inr (.inl z.2.2.2.2.2.2.1))), (pe, .inl (g.2.1, 4096, .inl z.2.2.2.2.2.2.2.1)), (pm, .inl (g.2.1, 4096, .inl z.2.2.2.2.2.2.2.2.1)), (pt, .inl (g.2.1, 61, .inl z.2.2.2.2.2.2.2.2.2.2))] → va_S A s.heap H locs → W p l e R s m args below meth c H locs 0 0 Q (F0 m 120 ls [])) ?_ 4100 (0, 0, wfnow_28, wfbook_29, wfkept_30, wffst_31, wflst_32, wfbef_33, wfmov_34, wnn_35, wftri_36) hyp _ _ ls (lv_sub hl [2, 3, 1, 0] rfl) hP hD hS
        intro self_50T ihself_50T z hyp H locs ls hl hP hD hS
        obtain ⟨v2_39, v3_40, wfnow_41, wfbook_42, wfkept_43, wffst_44, wflst_45, wfbef_46, wfmov_47, wnn_48, wftri_49⟩ := z
        obtain ⟨self_50, eself_50⟩ : ∃ f9 : Int32 → Int32 → (Nat → Int32) → (Nat → Int32) → (Nat → Int32) → (Nat → Int64) → (Nat → Int64) → (Nat → Int32) → (Nat → Int32) → Int32 → (Nat → Int32) → Option ((Nat → Int32) × (Nat → Int32) × (Nat → Int32) × (Nat → Int64) × (Nat → Int64) × (Nat → Int32) × (Nat → Int32) × Int32 × (Nat → Int32)), f9 = fun v2_39 v3_40 wfnow_41 wfbook_42 wfkept_43 wffst_44 wflst_45 wfbef_46 wfmov_47 wnn_48 wftri_49 => self_50T (v2_39, v3_40, wfnow_41, wfbook_42, wfkept_43, wffst_44, wflst_45, wfbef_46, wfmov_47, wnn_48, wftri_49) := ⟨_, rfl⟩
        have ihself_50 := fun (v2_39 : Int32) (v3_40 : Int32) (wfnow_41 : Nat → Int32) (wfbook_42 : Nat → Int32) (wfkept_43 : Nat → Int32) (wffst_44 : Nat → Int64) (wflst_45 : Nat → Int64) (wfbef_46 : Nat → Int32) (wfmov_47 : Nat → Int32) (wnn_48 : Int32) (wftri_49 : Nat → Int32) (h9 : self_50 v2_39 v3_40 wfnow_41 wfbook_42 wfkept_43 wffst_44 wflst_45 wfbef_46 wfmov_47 wnn_48 wftri_49 = some r) => ihself_50T (v2_39, v3_40, wfnow_41, wfbook_42, wfkept_43, wffst_44, wflst_45, wfbef_46, wfmov_47, wnn_48, wftri_49) (by rw [eself_50] at h9; exact h9)
        replace hyp : fX9_tidyT_L120_B nst fisk self_50 v2_39 v3_40 wfnow_41 wfbook_42 wfkept_43 wffst_44 wflst_45 wfbef_46 wfmov_47 wnn_48 wftri_49 = some r := by rw [eself_50]; exact hyp
        have hl : lv_has ls 6 [(0, .ref o), (1, .ref pt), (2, .int v2_39), (3, .int v3_40)] := hl
        have hP : va_P g.1 vwCl [(o, .inr (9, [.int refu, .ref pn, .ref pt, .ref pr, .ref pw, .ref pb, .int nst, .ref pk, .ref pi, .ref pf, .ref pl, .ref pe, .ref pm, .int wnn_48, .ref px, .int len, .int pos, .int gd, .int ps, .int sm])), (pn, .inl (g.2.1, 61, .inl wfnow_41)), (pb, .inl (g.2.1, 366, .inl wfbook_42)), (pk, .inl (g.2.1, 122, .inl wfkept_43)), (pi, .inl (g.2.2.2.1, 2, .inl fisk)), (pf, .inl (g.2.2.1, 4096, .inr (.inl wffst_44))), (pl, .inl (g.2.2.1, 4096, .inr (.inl wflst_45))), (pe, .inl (g.2.1, 4096, .inl wfbef_46)), (pm, .inl (g.2.1, 4096, .inl wfmov_47)), (pt, .inl (g.2.1, 61, .inl wftri_49))] H := hP
        have hD : va_D A [(o, .inr (9, [.int refu, .ref pn, .ref pt, .ref pr, .ref pw, .ref pb, .int nst, .ref pk, .ref pi, .ref pf, .ref pl, .ref pe, .ref pm, .int wnn_48, .ref px, .int len, .int pos, .int gd, .int ps, .int sm])), (pn, .inl (g.2.1, 61, .inl wfnow_41)), (pb, .inl (g.2.1, 366, .inl wfbook_42)), (pk, .inl (g.2.1, 122, .inl wfkept_43)), (pi, .inl (g.2.2.2.1, 2, .inl fisk)), (pf, .inl (g.2.2.1, 4096, .inr (.inl wffst_44))), (pl, .inl (g.2.2.1, 4096, .inr (.inl wflst_45))), (pe, .inl (g.2.1, 4096, .inl wfbef_46)), (pm, .inl (g.2.1, 4096, .inl wfmov_47)), (pt, .inl (g.2.1, 61, .inl wftri_49))] := hD
        show W p l e R s m args below meth c H locs 0 0 Q (F0 m 120 ls [])
        unfold fX9_tidyT_L120_B at hyp
        refine lv_iload_n hx hb dX9_tidy_120 rfl (lv_at hl 3 rfl) ?_
        refine lv_aload_n hx hb dX9_tidy_121 rfl (lv_at hl 0 rfl) ?_
        refine gf_X9_104 hx hb hts hown hE hP 0 rfl rfl dX9_tidy_122 ?_
        refine lv_icmp_ge (tgt := 208) hx hb dX9_tidy_125 (by decide) (fun h_51 => ?_) (fun h_51 => ?_)
        · replace hyp := ite_t h_51 hyp
          refine lv_aload_n hx hb dX9_tidy_208 rfl (lv_at hl 0 rfl) ?_
          refine lv_iload_n hx hb dX9_tidy_209 rfl (lv_at hl 2 rfl) ?_
          refine pf_X9_104 hx hb hts hown hE hP hD hS 0 rfl rfl dX9_tidy_210 (fun H locs hP hD hS => ?_)
          have hP : va_P g.1 vwCl [(o, .inr (9, [.int refu, .ref pn, .ref pt, .ref pr, .ref pw, .ref pb, .int nst, .ref pk, .ref pi, .ref pf, .ref pl, .ref pe, .ref pm, .int v2_39, .ref px, .int len, .int pos, .int gd, .int ps, .int sm])), (pn, .inl (g.2.1, 61, .inl wfnow_41)), (pb, .inl (g.2.1, 366, .inl wfbook_42)), (pk, .inl (g.2.1, 122, .inl wfkept_43)), (pi, .inl (g.2.2.2.1, 2, .inl fisk)), (pf, .inl (g.2.2.1, 4096, .inr (.inl wffst_44))), (pl, .inl (g.2.2.1, 4096, .inr (.inl wflst_45))), (pe, .inl (g.2.1, 4096, .inl wfbef_46)), (pm, .inl (g.2.1, 4096, .inl wfmov_47)), (pt, .inl (g.2.1, 61, .inl wftri_49))] H := hP
          have hD : va_D A [(o, .inr (9, [.int refu, .ref pn, .ref pt, .ref pr, .ref pw, .ref pb, .int nst, .ref pk, .ref pi, .ref pf, .ref pl, .ref pe, .ref pm, .int v2_39, .ref px, .int len, .int pos, .int gd, .int ps, .int sm])), (pn, .inl (g.2.1, 61, .inl wfnow_41)), (pb, .inl (g.2.1, 366, .inl wfbook_42)), (pk, .inl (g.2.1, 122, .inl wfkept_43)), (pi, .inl (g.2.2.2.1, 2, .inl fisk)), (pf, .inl (g.2.2.1, 4096, .inr (.inl wffst_44))), (pl, .inl (g.2.2.1, 4096, .inr (.inl wflst_45))), (pe, .inl (g.2.1, 4096, .inl wfbef_46)), (pm, .inl (g.2.1, 4096, .inl wfmov_47)), (pt, .inl (g.2.1, 61, .inl wftri_49))] := hD
          refine lv_aload_n hx hb dX9_tidy_213 rfl (lv_at hl 1 rfl) ?_
          refine lv_bipush (v := 60) hx hb dX9_tidy_214 (by decide) ?_
          obtain ⟨hi, hyp⟩ := grd_e hyp
          refine va_iald hx hb hE.1 hP 9 0 rfl rfl (inB_vp hi) dX9_tidy_216 ?_
          refine lv_iconst (v := (-1)) hx hb dX9_tidy_217 (by decide) ?_
          obtain ⟨J_53, eJ_53, hyp⟩ := jn_e hyp
          have kJ_53 : ∀ (t_52 : Int32) (H : Heap) (locs : List Loc) (ls : Array Slot), J_53 t_52 = some r → lv_has ls 6 [(0, .ref o), (1, .ref pt)] → va_P g.1 vwCl [(o, .inr (9, [.int refu, .ref pn, .ref pt, .ref pr, .ref pw, .ref pb, .int nst, .ref pk, .ref pi, .ref pf, .ref pl, .ref pe, .ref pm, .int v2_39, .ref px, .int len, .int pos, .int gd, .int ps, .int sm])), (pn, .inl (g.2.1, 61, .inl wfnow_41)), (pb, .inl (g.2.1, 366, .inl wfbook_42)), (pk, .inl (g.2.1, 122, .inl wfkept_43)), (pi, .inl (g.2.2.2.1, 2, .inl fisk)), (pf, .inl (g.2.2.1, 4096, .inr (.inl wffst_44))), (pl, .inl (g.2.2.1, 4096, .inr (.inl wflst_45))), (pe, .inl (g.2.1, 4096, .inl wfbef_46)), (pm, .inl (g.2.1, 4096, .inl wfmov_47)), (pt, .inl (g.2.1, 61, .inl wftri_49))] H → va_D A [(o, .inr (9, [.int refu, .ref pn, .ref pt, .ref pr, .ref pw, .ref pb, .int nst, .ref pk, .ref pi, .ref pf, .ref pl, .ref pe, .ref pm, .int v2_39, .ref px, .int len, .int pos, .int gd, .int ps, .int sm])), (pn, .inl (g.2.1, 61, .inl wfnow_41)), (pb, .inl (g.2.1, 366, .inl wfbook_42)), (pk, .inl (g.2.1, 122, .inl wfkept_43)), (pi, .inl (g.2.2.2.1, 2, .inl fisk)), (pf, .inl (g.2.2.1, 4096, .inr (.inl wffst_44))), (pl, .inl (g.2.2.1, 4096, .inr (.inl wflst_45))), (pe, .inl (g.2.1, 4096, .inl wfbef_46)), (pm, .inl (g.2.1, 4096, .inl wfmov_47)), (pt, .inl (g.2.1, 61, .inl wftri_49))] → va_S A s.heap H locs → W p l e R s m args below meth c H locs 0 0 Q (F0 m 234 ls [.int t_52]) := by
            intro t_52 H locs  ls hyp hl hP hD hS
            replace hyp := (congrFun (eJ_53) t_52).symm.trans hyp
            refine lv_istore_n (lv' := [(3, .int t_52), (0, .ref o), (1, .ref pt)]) hx hb dX9_tidy_234 rfl hl (by decide) rfl (fun ls hl => ?_)
            refine lv_aload_n hx hb dX9_tidy_235 rfl (lv_at hl 1 rfl) ?_
            refine gf_X9_7 hx hb hts hown hE hP 0 rfl rfl dX9_tidy_236 ?_
            refine lv_bipush (v := 60) hx hb dX9_tidy_239 (by decide) ?_
            refine lv_aload_n hx hb dX9_tidy_241 rfl (lv_at hl 1 rfl) ?_
            refine gf_X9_7 hx hb hts hown hE hP 0 rfl rfl dX9_tidy_242 ?_
            refine lv_bipush (v := 60) hx hb dX9_tidy_245 (by decide) ?_
            obtain ⟨hi, hyp⟩ := grd_e hyp
            refine va_iald hx hb hE.1 hP 1 0 rfl rfl (inB_vp hi) dX9_tidy_247 ?_
            refine lv_iconst (v := (-1)) hx hb dX9_tidy_248 (by decide) ?_
            obtain ⟨J_55, eJ_55, hyp⟩ := jn_e hyp
            have kJ_55 : ∀ (t_54 : Int32) (H : Heap) (locs : List Loc) (ls : Array Slot), J_55 t_54 = some r → lv_has ls 6 [(0, .ref o), (1, .ref pt), (3, .int t_52)] → va_P g.1 vwCl [(o, .inr (9, [.int refu, .ref pn, .ref pt, .ref pr, .ref pw, .ref pb, .int nst, .ref pk, .ref pi, .ref pf, .ref pl, .ref pe, .ref pm, .int v2_39, .ref px, .int len, .int pos, .int gd, .int ps, .int sm])), (pn, .inl (g.2.1, 61, .inl wfnow_41)), (pb, .inl (g.2.1, 366, .inl wfbook_42)), (pk, .inl (g.2.1, 122, .inl wfkept_43)), (pi, .inl (g.2.2.2.1, 2, .inl fisk)), (pf, .inl (g.2.2.1, 4096, .inr (.inl wffst_44))), (pl, .inl (g.2.2.1, 4096, .inr (.inl wflst_45))), (pe, .inl (g.2.1, 4096, .inl wfbef_46)), (pm, .inl (g.2.1, 4096, .inl wfmov_47)), (pt, .inl (g.2.1, 61, .inl wftri_49))] H → va_D A [(o, .inr (9, [.int refu, .ref pn, .ref pt, .ref pr, .ref pw, .ref pb, .int nst, .ref pk, .ref pi, .ref pf, .ref pl, .ref pe, .ref pm, .int v2_39, .ref px, .int len, .int pos, .int gd, .int ps, .int sm])), (pn, .inl (g.2.1, 61, .inl wfnow_41)), (pb, .inl (g.2.1, 366, .inl wfbook_42)), (pk, .inl (g.2.1, 122, .inl wfkept_43)), (pi, .inl (g.2.2.2.1, 2, .inl fisk)), (pf, .inl (g.2.2.1, 4096, .inr (.inl wffst_44))), (pl, .inl (g.2.2.1, 4096, .inr (.inl wflst_45))), (pe, .inl (g.2.1, 4096, .inl wfbef_46)), (pm, .inl (g.2.1, 4096, .inl wfmov_47)), (pt, .inl (g.2.1, 61, .inl wftri_49))] → va_S A s.heap H locs → W p l e R s m args below meth c H locs 0 0 Q (F0 m 268 ls [.int t_54, .int 60, .ref pn]) := by
              intro t_54 H locs  ls hyp hl hP hD hS
              replace hyp := (congrFun (eJ_55) t_54).symm.trans hyp
              obtain ⟨hi, hyp⟩ := grd_e hyp
              refine va_iast hx hb hE.1 hP hD hS 1 0 rfl rfl (inB_vp hi) dX9_tidy_268 (fun H locs hP hD hS => ?_)
              have hP : va_P g.1 vwCl [(o, .inr (9, [.int refu, .ref pn, .ref pt, .ref pr, .ref pw, .ref pb, .int nst, .ref pk, .ref pi, .ref pf, .ref pl, .ref pe, .ref pm, .int v2_39, .ref px, .int len, .int pos, .int gd, .int ps, .int sm])), (pn, .inl (g.2.1, 61, .inl (upd wfnow_41 (60 : Int32).toNatClampNeg t_54))), (pb, .inl (g.2.1, 366, .inl wfbook_42)), (pk, .inl (g.2.1, 122, .inl wfkept_43)), (pi, .inl (g.2.2.2.1, 2, .inl fisk)), (pf, .inl (g.2.2.1, 4096, .inr (.inl wffst_44))), (pl, .inl (g.2.2.1, 4096, .inr (.inl wflst_45))), (pe, .inl (g.2.1, 4096, .inl wfbef_46)), (pm, .inl (g.2.1, 4096, .inl wfmov_47)), (pt, .inl (g.2.1, 61, .inl wftri_49))] H := hP
              have hD : va_D A [(o, .inr (9, [.int refu, .ref pn, .ref pt, .ref pr, .ref pw, .ref pb, .int nst, .ref pk, .ref pi, .ref pf, .ref pl, .ref pe, .ref pm, .int v2_39, .ref px, .int len, .int pos, .int gd, .int ps, .int sm])), (pn, .inl (g.2.1, 61, .inl (upd wfnow_41 (60 : Int32).toNatClampNeg t_54))), (pb, .inl (g.2.1, 366, .inl wfbook_42)), (pk, .inl (g.2.1, 122, .inl wfkept_43)), (pi, .inl (g.2.2.2.1, 2, .inl fisk)), (pf, .inl (g.2.2.1, 4096, .inr (.inl wffst_44))), (pl, .inl (g.2.2.1, 4096, .inr (.inl wflst_45))), (pe, .inl (g.2.1, 4096, .inl wfbef_46)), (pm, .inl (g.2.1, 4096, .inl wfmov_47)), (pt, .inl (g.2.1, 61, .inl wftri_49))] := hD
              refine lv_aload_n hx hb dX9_tidy_269 rfl (lv_at hl 1 rfl) ?_
              refine lv_bipush (v := 60) hx hb dX9_tidy_270 (by decide) ?_
              refine lv_iload_n hx hb dX9_tidy_272 rfl (lv_at hl 2 rfl) ?_
              obtain ⟨hi, hyp⟩ := grd_e hyp
              refine va_iast hx hb hE.1 hP hD hS 9 0 rfl rfl (inB_vp hi) dX9_tidy_273 (fun H locs hP hD hS => ?_)
              have hP : va_P g.1 vwCl [(o, .inr (9, [.int refu, .ref pn, .ref pt, .ref pr, .ref pw, .ref pb, .int nst, .ref pk, .ref pi, .ref pf, .ref pl, .ref pe, .ref pm, .int v2_39, .ref px, .int len, .int pos, .int gd, .int ps, .int sm])), (pn, .inl (g.2.1, 61, .inl (upd wfnow_41 (60 : Int32).toNatClampNeg t_54))), (pb, .inl (g.2.1, 366, .inl wfbook_42)), (pk, .inl (g.2.1, 122, .inl wfkept_43)), (pi, .inl (g.2.2.2.1, 2, .inl fisk)), (pf, .inl (g.2.2.1, 4096, .inr (.inl wffst_44))), (pl, .inl (g.2.2.1, 4096, .inr (.inl wflst_45))), (pe, .inl (g.2.1, 4096, .inl wfbef_46)), (pm, .inl (g.2.1, 4096, .inl wfmov_47)), (pt, .inl (g.2.1, 61, .inl (upd wftri_49 (60 : Int32).toNatClampNeg t_52)))] H := hP
              have hD : va_D A [(o, .inr (9, [.int refu, .ref pn, .ref pt, .ref pr, .ref pw, .ref pb, .int nst, .ref pk, .ref pi, .ref pf, .ref pl, .ref pe, .ref pm, .int v2_39, .ref px, .int len, .int pos, .int gd, .int ps, .int sm])), (pn, .inl (g.2.1, 61, .inl (upd wfnow_41 (60 : Int32).toNatClampNeg t_54))), (pb, .inl (g.2.1, 366, .inl wfbook_42)), (pk, .inl (g.2.1, 122, .inl wfkept_43)), (pi, .inl (g.2.2.2.1, 2, .inl fisk)), (pf, .inl (g.2.2.1, 4096, .inr (.inl wffst_44))), (pl, .inl (g.2.2.1, 4096, .inr (.inl wflst_45))), (pe, .inl (g.2.1, 4096, .inl wfbef_46)), (pm, .inl (g.2.1, 4096, .inl wfmov_47)), (pt, .inl (g.2.1, 61, .inl (upd wftri_49 (60 : Int32).toNatClampNeg t_52)))] := hD
              refine lv_iconst (v := 0) hx hb dX9_tidy_274 (by decide) ?_
              refine lv_istore (lv' := [(4, .int 0), (0, .ref o), (1, .ref pt), (3, .int t_52)]) hx hb dX9_tidy_275 hl (by decide) rfl (fun ls hl => ?_)
              refine lp_i (r := r) (fun z : Int32 × (Nat → Int32) × (Nat → Int32) × (Nat → Int32) × (Nat → Int64) × (Nat → Int64) × (Nat → Int32) × (Nat → Int32) × Int32 × (Nat → Int32) => ∀ (H : Heap) (locs : List Loc) (ls : Array Slot), lv_has ls 6 [(0, .ref o), (4, .int z.1)] → va_P g.1 vwCl [(o, .inr (9, [.int refu, .ref pn, .ref pt, .ref pr, .ref pw, .ref pb, .int nst, .ref pk, .ref pi, .ref pf, .ref pl, .ref pe, .ref pm, .int z.2.2.2.2.2.2.2.2.1, .ref px, .int len, .int pos, .int gd, .int ps, .int sm])), (pn, .inl (g.2.1, 61, .inl z.2.1)), (pb, .inl (g.2.1, 366, .inl z.2.2.1)), (pk, .inl (g.2.1, 122, .inl z.2.2.2.1)), (pi, .inl (g.2.2.2.1, 2, .inl fisk)), (pf, .inl (g.2.2.1, 4096, .inr (.inl z.2.2.2.2.1))), (pl, .inl (g.2.2.1, 4096, .inr (.inl z.2.2.2.2.2.1))), (pe, .inl (g.2.1, 4096, .inl z.2.2.2.2.2.2.1)), (pm, .inl (g.2.1, 4096, .inl z.2.2.2.2.2.2.2.1)), (pt, .inl (g.2.1, 61, .inl z.2.2.2.2.2.2.2.2.2))] H → va_D A [(o, .inr (9, [.int refu, .ref pn, .ref pt, .ref pr, .ref pw, .ref pb, .int nst, .ref pk, .ref pi, .ref pf, .ref pl, .ref pe, .ref pm, .int z.2.2.2.2.2.2.2.2.1, .ref px, .int len, .int pos, .int gd, .int ps, .int sm])), (pn, .inl (g.2.1, 61, .inl z.2.1)), (pb, .inl (g.2.1, 366, .inl z.2.2.1)), (pk, .inl (g.2.1, 122, .inl z.2.2.2.1)), (pi, .inl (g.2.2.2.1, 2, .inl fisk)), (pf, .inl (g.2.2.1, 4096, .inr (.inl z.2.2.2.2.1))), (pl, .inl (g.2.2.1, 4096, .inr (.inl z.2.2.2.2.2.1))), (pe, .inl (g.2.1, 4096, .inl z.2.2.2.2.2.2.1)), (pm, .inl (g.2.1, 4096, .inl z.2.2.2.2.2.2.2.1)), (pt, .inl (g.2.1, 61, .inl z.2.2.2.2.2.2.2.2.2))] → va_S A s.heap H locs → W p l e R s m args below meth c H locs 0 0 Q (F0 m 277 ls [])) ?_ 4100 (0, upd wfnow_41 (60 : Int32).toNatClampNeg t_54, wfbook_42, wfkept_43, wffst_44, wflst_45, wfbef_46, wfmov_47, v2_39, upd wftri_49 (60 : Int32).toNatClampNeg t_52) hyp _ _ ls (lv_sub hl [1, 0] rfl) hP hD hS
              intro self_66T ihself_66T z hyp H locs ls hl hP hD hS
              obtain ⟨v4_56, wfnow_57, wfbook_58, wfkept_59, wffst_60, wflst_61, wfbef_62, wfmov_63, wnn_64, wftri_65⟩ := z
              obtain ⟨self_66, eself_66⟩ : ∃ f9 : Int32 → (Nat → Int32) → (Nat → Int32) → (Nat → Int32) → (Nat → Int64) → (Nat → Int64) → (Nat → Int32) → (Nat → Int32) → Int32 → (Nat → Int32) → Option ((Nat → Int32) × (Nat → Int32) × (Nat → Int32) × (Nat → Int64) × (Nat → Int64) × (Nat → Int32) × (Nat → Int32) × Int32 × (Nat → Int32)), f9 = fun v4_56 wfnow_57 wfbook_58 wfkept_59 wffst_60 wflst_61 wfbef_62 wfmov_63 wnn_64 wftri_65 => self_66T (v4_56, wfnow_57, wfbook_58, wfkept_59, wffst_60, wflst_61, wfbef_62, wfmov_63, wnn_64, wftri_65) := ⟨_, rfl⟩
              have ihself_66 := fun (v4_56 : Int32) (wfnow_57 : Nat → Int32) (wfbook_58 : Nat → Int32) (wfkept_59 : Nat → Int32) (wffst_60 : Nat → Int64) (wflst_61 : Nat → Int64) (wfbef_62 : Nat → Int32) (wfmov_63 : Nat → Int32) (wnn_64 : Int32) (wftri_65 : Nat → Int32) (h9 : self_66 v4_56 wfnow_57 wfbook_58 wfkept_59 wffst_60 wflst_61 wfbef_62 wfmov_63 wnn_64 wftri_65 = some r) => ihself_66T (v4_56, wfnow_57, wfbook_58, wfkept_59, wffst_60, wflst_61, wfbef_62, wfmov_63, wnn_64, wftri_65) (by rw [eself_66] at h9; exact h9)
              replace hyp : fX9_tidyT_L277_B nst fisk self_66 v4_56 wfnow_57 wfbook_58 wfkept_59 wffst_60 wflst_61 wfbef_62 wfmov_63 wnn_64 wftri_65 = some r := by rw [eself_66]; exact hyp
              have hl : lv_has ls 6 [(0, .ref o), (4, .int v4_56)] := hl
              have hP : va_P g.1 vwCl [(o, .inr (9, [.int refu, .ref pn, .ref pt, .ref pr, .ref pw, .ref pb, .int nst, .ref pk, .ref pi, .ref pf, .ref pl, .ref pe, .ref pm, .int wnn_64, .ref px, .int len, .int pos, .int gd, .int ps, .int sm])), (pn, .inl (g.2.1, 61, .inl wfnow_57)), (pb, .inl (g.2.1, 366, .inl wfbook_58)), (pk, .inl (g.2.1, 122, .inl wfkept_59)), (pi, .inl (g.2.2.2.1, 2, .inl fisk)), (pf, .inl (g.2.2.1, 4096, .inr (.inl wffst_60))), (pl, .inl (g.2.2.1, 4096, .inr (.inl wflst_61))), (pe, .inl (g.2.1, 4096, .inl wfbef_62)), (pm, .inl (g.2.1, 4096, .inl wfmov_63)), (pt, .inl (g.2.1, 61, .inl wftri_65))] H := hP
              have hD : va_D A [(o, .inr (9, [.int refu, .ref pn, .ref pt, .ref pr, .ref pw, .ref pb, .int nst, .ref pk, .ref pi, .ref pf, .ref pl, .ref pe, .ref pm, .int wnn_64, .ref px, .int len, .int pos, .int gd, .int ps, .int sm])), (pn, .inl (g.2.1, 61, .inl wfnow_57)), (pb, .inl (g.2.1, 366, .inl wfbook_58)), (pk, .inl (g.2.1, 122, .inl wfkept_59)), (pi, .inl (g.2.2.2.1, 2, .inl fisk)), (pf, .inl (g.2.2.1, 4096, .inr (.inl wffst_60))), (pl, .inl (g.2.2.1, 4096, .inr (.inl wflst_61))), (pe, .inl (g.2.1, 4096, .inl wfbef_62)), (pm, .inl (g.2.1, 4096, .inl wfmov_63)), (pt, .inl (g.2.1, 61, .inl wftri_65))] := hD
              show W p l e R s m args below meth c H locs 0 0 Q (F0 m 277 ls [])
              unfold fX9_tidyT_L277_B at hyp
              refine lv_iload hx hb dX9_tidy_277 (lv_at hl 1 rfl) ?_
              refine lv_aload_n hx hb dX9_tidy_279 rfl (lv_at hl 0 rfl) ?_
              refine gf_X9_111 hx hb hts hown hE hP 0 rfl rfl dX9_tidy_280 ?_
              refine lv_icmp_ge (tgt := 337) hx hb dX9_tidy_283 (by decide) (fun h_67 => ?_) (fun h_67 => ?_)
              · replace hyp := ite_t h_67 hyp
                refine lv_iconst (v := 0) hx hb dX9_tidy_337 (by decide) ?_
                refine lv_istore (lv' := [(4, .int 0), (0, .ref o)]) hx hb dX9_tidy_338 hl (by decide) rfl (fun ls hl => ?_)
                refine lp_i (r := r) (fun z : Int32 × (Nat → Int32) × (Nat → Int32) × (Nat → Int32) × (Nat → Int64) × (Nat → Int64) × (Nat → Int32) × (Nat → Int32) × Int32 × (Nat → Int32) => ∀ (H : Heap) (locs : List Loc) (ls : Array Slot), lv_has ls 6 [(0, .ref o), (4, .int z.1)] → va_P g.1 vwCl [(o, .inr (9, [.int refu, .ref pn, .ref pt, .ref pr, .ref pw, .ref pb, .int nst, .ref pk, .ref pi, .ref pf, .ref pl, .ref pe, .ref pm, .int z.2.2.2.2.2.2.2.2.1, .ref px, .int len, .int pos, .int gd, .int ps, .int sm])), (pn, .inl (g.2.1, 61, .inl z.2.1)), (pb, .inl (g.2.1, 366, .inl z.2.2.1)), (pk, .inl (g.2.1, 122, .inl z.2.2.2.1)), (pi, .inl (g.2.2.2.1, 2, .inl fisk)), (pf, .inl (g.2.2.1, 4096, .inr (.inl z.2.2.2.2.1))), (pl, .inl (g.2.2.1, 4096, .inr (.inl z.2.2.2.2.2.1))), (pe, .inl (g.2.1, 4096, .inl z.2.2.2.2.2.2.1)), (pm, .inl (g.2.1, 4096, .inl z.2.2.2.2.2.2.2.1)), (pt, .inl (g.2.1, 61, .inl z.2.2.2.2.2.2.2.2.2))] H → va_D A [(o, .inr (9, [.int refu, .ref pn, .ref pt, .ref pr, .ref pw, .ref pb, .int nst, .ref pk, .ref pi, .ref pf, .ref pl, .ref pe, .ref pm, .int z.2.2.2.2.2.2.2.2.1, .ref px, .int len, .int pos, .int gd, .int ps, .int sm])), (pn, .inl (g.2.1, 61, .inl z.2.1)), (pb, .inl (g.2.1, 366, .inl z.2.2.1)), (pk, .inl (g.2.1, 122, .inl z.2.2.2.1)), (pi, .inl (g.2.2.2.1, 2, .inl fisk)), (pf, .inl (g.2.2.1, 4096, .inr (.inl z.2.2.2.2.1))), (pl, .inl (g.2.2.1, 4096, .inr (.inl z.2.2.2.2.2.1))), (pe, .inl (g.2.1, 4096, .inl z.2.2.2.2.2.2.1)), (pm, .inl (g.2.1, 4096, .inl z.2.2.2.2.2.2.2.1)), (pt, .inl (g.2.1, 61, .inl z.2.2.2.2.2.2.2.2.2))] → va_S A s.heap H locs → W p l e R s m args below meth c H locs 0 0 Q (F0 m 340 ls [])) ?_ 4100 (0, wfnow_57, wfbook_58, wfkept_59, wffst_60, wflst_61, wfbef_62, wfmov_63, wnn_64, wftri_65) hyp _ _ ls (lv_sub hl [1, 0] rfl) hP hD hS
                intro self_78T ihself_78T z hyp H locs ls hl hP hD hS
                obtain ⟨v4_68, wfnow_69, wfbook_70, wfkept_71, wffst_72, wflst_73, wfbef_74, wfmov_75, wnn_76, wftri_77⟩ := z
                obtain ⟨self_78, eself_78⟩ : ∃ f9 : Int32 → (Nat → Int32) → (Nat → Int32) → (Nat → Int32) → (Nat → Int64) → (Nat → Int64) → (Nat → Int32) → (Nat → Int32) → Int32 → (Nat → Int32) → Option ((Nat → Int32) × (Nat → Int32) × (Nat → Int32) × (Nat → Int64) × (Nat → Int64) × (Nat → Int32) × (Nat → Int32) × Int32 × (Nat → Int32)), f9 = fun v4_68 wfnow_69 wfbook_70 wfkept_71 wffst_72 wflst_73 wfbef_74 wfmov_75 wnn_76 wftri_77 => self_78T (v4_68, wfnow_69, wfbook_70, wfkept_71, wffst_72, wflst_73, wfbef_74, wfmov_75, wnn_76, wftri_77) := ⟨_, rfl⟩
                have ihself_78 := fun (v4_68 : Int32) (wfnow_69 : Nat → Int32) (wfbook_70 : Nat → Int32) (wfkept_71 : Nat → Int32) (wffst_72 : Nat → Int64) (wflst_73 : Nat → Int64) (wfbef_74 : Nat → Int32) (wfmov_75 : Nat → Int32) (wnn_76 : Int32) (wftri_77 : Nat → Int32) (h9 : self_78 v4_68 wfnow_69 wfbook_70 wfkept_71 wffst_72 wflst_73 wfbef_74 wfmov_75 wnn_76 wftri_77 = some r) => ihself_78T (v4_68, wfnow_69, wfbook_70, wfkept_71, wffst_72, wflst_73, wfbef_74, wfmov_75, wnn_76, wftri_77) (by rw [eself_78] at h9; exact h9)
                replace hyp : fX9_tidyT_L340_B fisk self_78 v4_68 wfnow_69 wfbook_70 wfkept_71 wffst_72 wflst_73 wfbef_74 wfmov_75 wnn_76 wftri_77 = some r := by rw [eself_78]; exact hyp
                have hl : lv_has ls 6 [(0, .ref o), (4, .int v4_68)] := hl
                have hP : va_P g.1 vwCl [(o, .inr (9, [.int refu, .ref pn, .ref pt, .ref pr, .ref pw, .ref pb, .int nst, .ref pk, .ref pi, .ref pf, .ref pl, .ref pe, .ref pm, .int wnn_76, .ref px, .int len, .int pos, .int gd, .int ps, .int sm])), (pn, .inl (g.2.1, 61, .inl wfnow_69)), (pb, .inl (g.2.1, 366, .inl wfbook_70)), (pk, .inl (g.2.1, 122, .inl wfkept_71)), (pi, .inl (g.2.2.2.1, 2, .inl fisk)), (pf, .inl (g.2.2.1, 4096, .inr (.inl wffst_72))), (pl, .inl (g.2.2.1, 4096, .inr (.inl wflst_73))), (pe, .inl (g.2.1, 4096, .inl wfbef_74)), (pm, .inl (g.2.1, 4096, .inl wfmov_75)), (pt, .inl (g.2.1, 61, .inl wftri_77))] H := hP
                have hD : va_D A [(o, .inr (9, [.int refu, .ref pn, .ref pt, .ref pr, .ref pw, .ref pb, .int nst, .ref pk, .ref pi, .ref pf, .ref pl, .ref pe, .ref pm, .int wnn_76, .ref px, .int len, .int pos, .int gd, .int ps, .int sm])), (pn, .inl (g.2.1, 61, .inl wfnow_69)), (pb, .inl (g.2.1, 366, .inl wfbook_70)), (pk, .inl (g.2.1, 122, .inl wfkept_71)), (pi, .inl (g.2.2.2.1, 2, .inl fisk)), (pf, .inl (g.2.2.1, 4096, .inr (.inl wffst_72))), (pl, .inl (g.2.2.1, 4096, .inr (.inl wflst_73))), (pe, .inl (g.2.1, 4096, .inl wfbef_74)), (pm, .inl (g.2.1, 4096, .inl wfmov_75)), (pt, .inl (g.2.1, 61, .inl wftri_77))] := hD
                show W p l e R s m args below meth c H locs 0 0 Q (F0 m 340 ls [])
                unfold fX9_tidyT_L340_B at hyp
                refine lv_iload hx hb dX9_tidy_340 (lv_at hl 1 rfl) ?_
                refine lv_iconst (v := 2) hx hb dX9_tidy_342 (by decide) ?_
                refine lv_icmp_ge (tgt := 407) hx hb dX9_tidy_343 (by decide) (fun h_79 => ?_) (fun h_79 => ?_)
                · replace hyp := ite_t h_79 hyp
                  have hyp := some_e hyp
                  subst hyp
                  subst hQ
                  exact rwV hx hb hr hlocks  hP hD hS dX9_tidy_407
                · replace hyp := ite_f h_79 hyp
                  refine lv_aload_n hx hb dX9_tidy_346 rfl (lv_at hl 0 rfl) ?_
                  refine gf_X9_25 hx hb hts hown hE hP 0 rfl rfl dX9_tidy_347 ?_
                  refine lv_bipush (v := 61) hx hb dX9_tidy_350 (by decide) ?_
                  refine lv_iload hx hb dX9_tidy_352 (lv_at hl 1 rfl) ?_
                  refine lv_imul hx hb dX9_tidy_354 ?_
                  refine lv_bipush (v := 60) hx hb dX9_tidy_355 (by decide) ?_
                  refine lv_iadd hx hb dX9_tidy_357 ?_
                  obtain ⟨hi, hyp⟩ := grd_e hyp
                  refine va_iald hx hb hE.1 hP 3 0 rfl rfl (inB_vp hi) dX9_tidy_358 ?_
                  obtain ⟨v5_80, ev5_80, hyp⟩ := bnd_e hyp
                  refine lv_eqi ev5_80 ?_
                  refine lv_istore (lv' := [(5, .int v5_80), (0, .ref o), (4, .int v4_68)]) hx hb dX9_tidy_359 hl (by decide) rfl (fun ls hl => ?_)
                  refine lv_aload_n hx hb dX9_tidy_361 rfl (lv_at hl 1 rfl) ?_
                  refine gf_X9_25 hx hb hts hown hE hP 0 rfl rfl dX9_tidy_362 ?_
                  refine lv_bipush (v := 61) hx hb dX9_tidy_365 (by decide) ?_
                  refine lv_iload hx hb dX9_tidy_367 (lv_at hl 2 rfl) ?_
                  refine lv_imul hx hb dX9_tidy_369 ?_
                  refine lv_bipush (v := 60) hx hb dX9_tidy_370 (by decide) ?_
                  refine lv_iadd hx hb dX9_tidy_372 ?_
                  refine lv_aload_n hx hb dX9_tidy_373 rfl (lv_at hl 1 rfl) ?_
                  refine gf_X9_28 hx hb hts hown hE hP 0 rfl rfl dX9_tidy_374 ?_
                  refine lv_iload hx hb dX9_tidy_377 (lv_at hl 2 rfl) ?_
                  obtain ⟨hi, hyp⟩ := grd_e hyp
                  refine va_zald hx hb hE.1 hP 4 2 rfl rfl (inB_vp hi) dX9_tidy_379 ?_
                  obtain ⟨J_82, eJ_82, hyp⟩ := jn_e hyp
                  have kJ_82 : ∀ (t_81 : Int32) (H : Heap) (locs : List Loc) (ls : Array Slot), J_82 t_81 = some r → lv_has ls 6 [(0, .ref o), (4, .int v4_68)] → va_P g.1 vwCl [(o, .inr (9, [.int refu, .ref pn, .ref pt, .ref pr, .ref pw, .ref pb, .int nst, .ref pk, .ref pi, .ref pf, .ref pl, .ref pe, .ref pm, .int wnn_76, .ref px, .int len, .int pos, .int gd, .int ps, .int sm])), (pn, .inl (g.2.1, 61, .inl wfnow_69)), (pb, .inl (g.2.1, 366, .inl wfbook_70)), (pk, .inl (g.2.1, 122, .inl wfkept_71)), (pi, .inl (g.2.2.2.1, 2, .inl fisk)), (pf, .inl (g.2.2.1, 4096, .inr (.inl wffst_72))), (pl, .inl (g.2.2.1, 4096, .inr (.inl wflst_73))), (pe, .inl (g.2.1, 4096, .inl wfbef_74)), (pm, .inl (g.2.1, 4096, .inl wfmov_75)), (pt, .inl (g.2.1, 61, .inl wftri_77))] H → va_D A [(o, .inr (9, [.int refu, .ref pn, .ref pt, .ref pr, .ref pw, .ref pb, .int nst, .ref pk, .ref pi, .ref pf, .ref pl, .ref pe, .ref pm, .int wnn_76, .ref px, .int len, .int pos, .int gd, .int ps, .int sm])), (pn, .inl (g.2.1, 61, .inl wfnow_69)), (pb, .inl (g.2.1, 366, .inl wfbook_70)), (pk, .inl (g.2.1, 122, .inl wfkept_71)), (pi, .inl (g.2.2.2.1, 2, .inl fisk)), (pf, .inl (g.2.2.1, 4096, .inr (.inl wffst_72))), (pl, .inl (g.2.2.1, 4096, .inr (.inl wflst_73))), (pe, .inl (g.2.1, 4096, .inl wfbef_74)), (pm, .inl (g.2.1, 4096, .inl wfmov_75)), (pt, .inl (g.2.1, 61, .inl wftri_77))] → va_S A s.heap H locs → W p l e R s m args below meth c H locs 0 0 Q (F0 m 400 ls [.int t_81, .int ((61 * v4_68) + 60), .ref pk]) := by
                    intro t_81 H locs  ls hyp hl hP hD hS
                    replace hyp := (congrFun (eJ_82) t_81).symm.trans hyp
                    obtain ⟨hi, hyp⟩ := grd_e hyp
                    refine va_iast hx hb hE.1 hP hD hS 3 0 rfl rfl (inB_vp hi) dX9_tidy_400 (fun H locs hP hD hS => ?_)
                    have hP : va_P g.1 vwCl [(o, .inr (9, [.int refu, .ref pn, .ref pt, .ref pr, .ref pw, .ref pb, .int nst, .ref pk, .ref pi, .ref pf, .ref pl, .ref pe, .ref pm, .int wnn_76, .ref px, .int len, .int pos, .int gd, .int ps, .int sm])), (pn, .inl (g.2.1, 61, .inl wfnow_69)), (pb, .inl (g.2.1, 366, .inl wfbook_70)), (pk, .inl (g.2.1, 122, .inl (upd wfkept_71 ((61 * v4_68) + 60).toNatClampNeg t_81))), (pi, .inl (g.2.2.2.1, 2, .inl fisk)), (pf, .inl (g.2.2.1, 4096, .inr (.inl wffst_72))), (pl, .inl (g.2.2.1, 4096, .inr (.inl wflst_73))), (pe, .inl (g.2.1, 4096, .inl wfbef_74)), (pm, .inl (g.2.1, 4096, .inl wfmov_75)), (pt, .inl (g.2.1, 61, .inl wftri_77))] H := hP
                    have hD : va_D A [(o, .inr (9, [.int refu, .ref pn, .ref pt, .ref pr, .ref pw, .ref pb, .int nst, .ref pk, .ref pi, .ref pf, .ref pl, .ref pe, .ref pm, .int wnn_76, .ref px, .int len, .int pos, .int gd, .int ps, .int sm])), (pn, .inl (g.2.1, 61, .inl wfnow_69)), (pb, .inl (g.2.1, 366, .inl wfbook_70)), (pk, .inl (g.2.1, 122, .inl (upd wfkept_71 ((61 * v4_68) + 60).toNatClampNeg t_81))), (pi, .inl (g.2.2.2.1, 2, .inl fisk)), (pf, .inl (g.2.2.1, 4096, .inr (.inl wffst_72))), (pl, .inl (g.2.2.1, 4096, .inr (.inl wflst_73))), (pe, .inl (g.2.1, 4096, .inl wfbef_74)), (pm, .inl (g.2.1, 4096, .inl wfmov_75)), (pt, .inl (g.2.1, 61, .inl wftri_77))] := hD
                    refine lv_iinc (v := v4_68 + 1) (lv' := [(4, .int (v4_68 + 1)), (0, .ref o)]) hx hb dX9_tidy_401 hl (k := 1) rfl rfl (by decide) rfl (fun ls hl => ?_)
                    refine lv_goto (tgt := 340) hx hb dX9_tidy_404 (by decide) ?_
                    exact ihself_78 (v4_68 + 1) wfnow_69 wfbook_70 (upd wfkept_71 ((61 * v4_68) + 60).toNatClampNeg t_81) wffst_72 wflst_73 wfbef_74 wfmov_75 wnn_76 wftri_77 hyp H locs ls (lv_sub hl [1, 0] rfl) hP hD hS
                  obtain ⟨J_83, eJ_83, hyp⟩ := jn_e hyp
                  have kJ_83 : ∀ (H : Heap) (locs : List Loc) (ls : Array Slot), J_83 = some r → lv_has ls 6 [(0, .ref o), (4, .int v4_68)] → va_P g.1 vwCl [(o, .inr (9, [.int refu, .ref pn, .ref pt, .ref pr, .ref pw, .ref pb, .int nst, .ref pk, .ref pi, .ref pf, .ref pl, .ref pe, .ref pm, .int wnn_76, .ref px, .int len, .int pos, .int gd, .int ps, .int sm])), (pn, .inl (g.2.1, 61, .inl wfnow_69)), (pb, .inl (g.2.1, 366, .inl wfbook_70)), (pk, .inl (g.2.1, 122, .inl wfkept_71)), (pi, .inl (g.2.2.2.1, 2, .inl fisk)), (pf, .inl (g.2.2.1, 4096, .inr (.inl wffst_72))), (pl, .inl (g.2.2.1, 4096, .inr (.inl wflst_73))), (pe, .inl (g.2.1, 4096, .inl wfbef_74)), (pm, .inl (g.2.1, 4096, .inl wfmov_75)), (pt, .inl (g.2.1, 61, .inl wftri_77))] H → va_D A [(o, .inr (9, [.int refu, .ref pn, .ref pt, .ref pr, .ref pw, .ref pb, .int nst, .ref pk, .ref pi, .ref pf, .ref pl, .ref pe, .ref pm, .int wnn_76, .ref px, .int len, .int pos, .int gd, .int ps, .int sm])), (pn, .inl (g.2.1, 61, .inl wfnow_69)), (pb, .inl (g.2.1, 366, .inl wfbook_70)), (pk, .inl (g.2.1, 122, .inl wfkept_71)), (pi, .inl (g.2.2.2.1, 2, .inl fisk)), (pf, .inl (g.2.2.1, 4096, .inr (.inl wffst_72))), (pl, .inl (g.2.2.1, 4096, .inr (.inl wflst_73))), (pe, .inl (g.2.1, 4096, .inl wfbef_74)), (pm, .inl (g.2.1, 4096, .inl wfmov_75)), (pt, .inl (g.2.1, 61, .inl wftri_77))] → va_S A s.heap H locs → W p l e R s m args below meth c H locs 0 0 Q (F0 m 389 ls [.int ((61 * v4_68) + 60), .ref pk]) := by
                    intro H locs  ls hyp hl hP hD hS
                    replace hyp := (eJ_83).symm.trans hyp
                    refine lv_iconst (v := (-1)) hx hb dX9_tidy_389 (by decide) ?_
                    refine lv_goto (tgt := 400) hx hb dX9_tidy_390 (by decide) ?_
                    exact kJ_82 (-1) H locs ls hyp hl hP hD hS
                  refine lv_if_eq (tgt := 389) hx hb dX9_tidy_380 (by decide) (fun h_84 => ?_) (fun h_84 => ?_)
                  · replace hyp := ite_t h_84 hyp
                    exact kJ_83 H locs ls hyp (lv_sub hl [1, 2] rfl) hP hD hS
                  · replace hyp := ite_f h_84 hyp
                    refine lv_iload hx hb dX9_tidy_383 (lv_at hl 0 rfl) ?_
                    refine lv_iconst (v := (-1)) hx hb dX9_tidy_385 (by decide) ?_
                    refine lv_icmp_ne (tgt := 393) hx hb dX9_tidy_386 (by decide) (fun h_85 => ?_) (fun h_85 => ?_)
                    · replace hyp := ite_f h_85 hyp
                      refine lv_aload_n hx hb dX9_tidy_393 rfl (lv_at hl 1 rfl) ?_
                      refine gf_X9_42 hx hb hts hown hE hP 0 rfl rfl dX9_tidy_394 ?_
                      refine lv_iload hx hb dX9_tidy_397 (lv_at hl 0 rfl) ?_
                      obtain ⟨hi, hyp⟩ := grd_e hyp
                      refine va_iald hx hb hE.1 hP 8 0 rfl rfl (inB_vp hi) dX9_tidy_399 ?_
                      exact kJ_82 (wfmov_75 v5_80.toNatClampNeg) H locs ls hyp (lv_sub hl [1, 2] rfl) hP hD hS
                    · replace hyp := ite_t h_85 hyp
                      exact kJ_83 H locs ls hyp (lv_sub hl [1, 2] rfl) hP hD hS
              · replace hyp := ite_f h_67 hyp
                refine lv_aload_n hx hb dX9_tidy_286 rfl (lv_at hl 0 rfl) ?_
                refine gf_X9_22 hx hb hts hown hE hP 0 rfl rfl dX9_tidy_287 ?_
                refine lv_bipush (v := 61) hx hb dX9_tidy_290 (by decide) ?_
                refine lv_iload hx hb dX9_tidy_292 (lv_at hl 1 rfl) ?_
                refine lv_imul hx hb dX9_tidy_294 ?_
                refine lv_bipush (v := 60) hx hb dX9_tidy_295 (by decide) ?_
                refine lv_iadd hx hb dX9_tidy_297 ?_
                obtain ⟨hi, hyp⟩ := grd_e hyp
                refine va_iald hx hb hE.1 hP 2 0 rfl rfl (inB_vp hi) dX9_tidy_298 ?_
                obtain ⟨v5_86, ev5_86, hyp⟩ := bnd_e hyp
                refine lv_eqi ev5_86 ?_
                refine lv_istore (lv' := [(5, .int v5_86), (0, .ref o), (4, .int v4_56)]) hx hb dX9_tidy_299 hl (by decide) rfl (fun ls hl => ?_)
                refine lv_aload_n hx hb dX9_tidy_301 rfl (lv_at hl 1 rfl) ?_
                refine gf_X9_22 hx hb hts hown hE hP 0 rfl rfl dX9_tidy_302 ?_
                refine lv_bipush (v := 61) hx hb dX9_tidy_305 (by decide) ?_
                refine lv_iload hx hb dX9_tidy_307 (lv_at hl 2 rfl) ?_
                refine lv_imul hx hb dX9_tidy_309 ?_
                refine lv_bipush (v := 60) hx hb dX9_tidy_310 (by decide) ?_
                refine lv_iadd hx hb dX9_tidy_312 ?_
                refine lv_iload hx hb dX9_tidy_313 (lv_at hl 0 rfl) ?_
                refine lv_iconst (v := (-1)) hx hb dX9_tidy_315 (by decide) ?_
                obtain ⟨J_88, eJ_88, hyp⟩ := jn_e hyp
                have kJ_88 : ∀ (t_87 : Int32) (H : Heap) (locs : List Loc) (ls : Array Slot), J_88 t_87 = some r → lv_has ls 6 [(0, .ref o), (4, .int v4_56)] → va_P g.1 vwCl [(o, .inr (9, [.int refu, .ref pn, .ref pt, .ref pr, .ref pw, .ref pb, .int nst, .ref pk, .ref pi, .ref pf, .ref pl, .ref pe, .ref pm, .int wnn_64, .ref px, .int len, .int pos, .int gd, .int ps, .int sm])), (pn, .inl (g.2.1, 61, .inl wfnow_57)), (pb, .inl (g.2.1, 366, .inl wfbook_58)), (pk, .inl (g.2.1, 122, .inl wfkept_59)), (pi, .inl (g.2.2.2.1, 2, .inl fisk)), (pf, .inl (g.2.2.1, 4096, .inr (.inl wffst_60))), (pl, .inl (g.2.2.1, 4096, .inr (.inl wflst_61))), (pe, .inl (g.2.1, 4096, .inl wfbef_62)), (pm, .inl (g.2.1, 4096, .inl wfmov_63)), (pt, .inl (g.2.1, 61, .inl wftri_65))] H → va_D A [(o, .inr (9, [.int refu, .ref pn, .ref pt, .ref pr, .ref pw, .ref pb, .int nst, .ref pk, .ref pi, .ref pf, .ref pl, .ref pe, .ref pm, .int wnn_64, .ref px, .int len, .int pos, .int gd, .int ps, .int sm])), (pn, .inl (g.2.1, 61, .inl wfnow_57)), (pb, .inl (g.2.1, 366, .inl wfbook_58)), (pk, .inl (g.2.1, 122, .inl wfkept_59)), (pi, .inl (g.2.2.2.1, 2, .inl fisk)), (pf, .inl (g.2.2.1, 4096, .inr (.inl wffst_60))), (pl, .inl (g.2.2.1, 4096, .inr (.inl wflst_61))), (pe, .inl (g.2.1, 4096, .inl wfbef_62)), (pm, .inl (g.2.1, 4096, .inl wfmov_63)), (pt, .inl (g.2.1, 61, .inl wftri_65))] → va_S A s.heap H locs → W p l e R s m args below meth c H locs 0 0 Q (F0 m 330 ls [.int t_87, .int ((61 * v4_56) + 60), .ref pb]) := by
                  intro t_87 H locs  ls hyp hl hP hD hS
                  replace hyp := (congrFun (eJ_88) t_87).symm.trans hyp
                  obtain ⟨hi, hyp⟩ := grd_e hyp
                  refine va_iast hx hb hE.1 hP hD hS 2 0 rfl rfl (inB_vp hi) dX9_tidy_330 (fun H locs hP hD hS => ?_)
                  have hP : va_P g.1 vwCl [(o, .inr (9, [.int refu, .ref pn, .ref pt, .ref pr, .ref pw, .ref pb, .int nst, .ref pk, .ref pi, .ref pf, .ref pl, .ref pe, .ref pm, .int wnn_64, .ref px, .int len, .int pos, .int gd, .int ps, .int sm])), (pn, .inl (g.2.1, 61, .inl wfnow_57)), (pb, .inl (g.2.1, 366, .inl (upd wfbook_58 ((61 * v4_56) + 60).toNatClampNeg t_87))), (pk, .inl (g.2.1, 122, .inl wfkept_59)), (pi, .inl (g.2.2.2.1, 2, .inl fisk)), (pf, .inl (g.2.2.1, 4096, .inr (.inl wffst_60))), (pl, .inl (g.2.2.1, 4096, .inr (.inl wflst_61))), (pe, .inl (g.2.1, 4096, .inl wfbef_62)), (pm, .inl (g.2.1, 4096, .inl wfmov_63)), (pt, .inl (g.2.1, 61, .inl wftri_65))] H := hP
                  have hD : va_D A [(o, .inr (9, [.int refu, .ref pn, .ref pt, .ref pr, .ref pw, .ref pb, .int nst, .ref pk, .ref pi, .ref pf, .ref pl, .ref pe, .ref pm, .int wnn_64, .ref px, .int len, .int pos, .int gd, .int ps, .int sm])), (pn, .inl (g.2.1, 61, .inl wfnow_57)), (pb, .inl (g.2.1, 366, .inl (upd wfbook_58 ((61 * v4_56) + 60).toNatClampNeg t_87))), (pk, .inl (g.2.1, 122, .inl wfkept_59)), (pi, .inl (g.2.2.2.1, 2, .inl fisk)), (pf, .inl (g.2.2.1, 4096, .inr (.inl wffst_60))), (pl, .inl (g.2.2.1, 4096, .inr (.inl wflst_61))), (pe, .inl (g.2.1, 4096, .inl wfbef_62)), (pm, .inl (g.2.1, 4096, .inl wfmov_63)), (pt, .inl (g.2.1, 61, .inl wftri_65))] := hD
                  refine lv_iinc (v := v4_56 + 1) (lv' := [(4, .int (v4_56 + 1)), (0, .ref o)]) hx hb dX9_tidy_331 hl (k := 1) rfl rfl (by decide) rfl (fun ls hl => ?_)
                  refine lv_goto (tgt := 277) hx hb dX9_tidy_334 (by decide) ?_
                  exact ihself_66 (v4_56 + 1) wfnow_57 (upd wfbook_58 ((61 * v4_56) + 60).toNatClampNeg t_87) wfkept_59 wffst_60 wflst_61 wfbef_62 wfmov_63 wnn_64 wftri_65 hyp H locs ls (lv_sub hl [1, 0] rfl) hP hD hS
                refine lv_icmp_ne (tgt := 323) hx hb dX9_tidy_316 (by decide) (fun h_89 => ?_) (fun h_89 => ?_)
                · replace hyp := ite_f h_89 hyp
                  refine lv_aload_n hx hb dX9_tidy_323 rfl (lv_at hl 1 rfl) ?_
                  refine gf_X9_42 hx hb hts hown hE hP 0 rfl rfl dX9_tidy_324 ?_
                  refine lv_iload hx hb dX9_tidy_327 (lv_at hl 0 rfl) ?_
                  obtain ⟨hi, hyp⟩ := grd_e hyp
                  refine va_iald hx hb hE.1 hP 8 0 rfl rfl (inB_vp hi) dX9_tidy_329 ?_
                  exact kJ_88 (wfmov_63 v5_86.toNatClampNeg) H locs ls hyp (lv_sub hl [1, 2] rfl) hP hD hS
                · replace hyp := ite_t h_89 hyp
                  refine lv_iconst (v := (-1)) hx hb dX9_tidy_319 (by decide) ?_
                  refine lv_goto (tgt := 330) hx hb dX9_tidy_320 (by decide) ?_
                  exact kJ_88 (-1) H locs ls hyp (lv_sub hl [1, 2] rfl) hP hD hS
            refine lv_icmp_ne (tgt := 256) hx hb dX9_tidy_249 (by decide) (fun h_90 => ?_) (fun h_90 => ?_)
            · replace hyp := ite_f h_90 hyp
              refine lv_aload_n hx hb dX9_tidy_256 rfl (lv_at hl 1 rfl) ?_
              refine gf_X9_42 hx hb hts hown hE hP 0 rfl rfl dX9_tidy_257 ?_
              refine lv_aload_n hx hb dX9_tidy_260 rfl (lv_at hl 1 rfl) ?_
              refine gf_X9_7 hx hb hts hown hE hP 0 rfl rfl dX9_tidy_261 ?_
              refine lv_bipush (v := 60) hx hb dX9_tidy_264 (by decide) ?_
              obtain ⟨hi, hyp⟩ := grd_e hyp
              refine va_iald hx hb hE.1 hP 1 0 rfl rfl (inB_vp hi) dX9_tidy_266 ?_
              obtain ⟨hi, hyp⟩ := grd_e hyp
              refine va_iald hx hb hE.1 hP 8 0 rfl rfl (inB_vp hi) dX9_tidy_267 ?_
              exact kJ_55 (wfmov_47 (wfnow_41 (60 : Int32).toNatClampNeg).toNatClampNeg) H locs ls hyp (lv_sub hl [1, 2, 0] rfl) hP hD hS
            · replace hyp := ite_t h_90 hyp
              refine lv_iconst (v := (-1)) hx hb dX9_tidy_252 (by decide) ?_
              refine lv_goto (tgt := 268) hx hb dX9_tidy_253 (by decide) ?_
              exact kJ_55 (-1) H locs ls hyp (lv_sub hl [1, 2, 0] rfl) hP hD hS
          refine lv_icmp_ne (tgt := 225) hx hb dX9_tidy_218 (by decide) (fun h_91 => ?_) (fun h_91 => ?_)
          · replace hyp := ite_f h_91 hyp
            refine lv_aload_n hx hb dX9_tidy_225 rfl (lv_at hl 0 rfl) ?_
            refine gf_X9_42 hx hb hts hown hE hP 0 rfl rfl dX9_tidy_226 ?_
            refine lv_aload_n hx hb dX9_tidy_229 rfl (lv_at hl 1 rfl) ?_
            refine lv_bipush (v := 60) hx hb dX9_tidy_230 (by decide) ?_
            obtain ⟨hi, hyp⟩ := grd_e hyp
            refine va_iald hx hb hE.1 hP 9 0 rfl rfl (inB_vp hi) dX9_tidy_232 ?_
            obtain ⟨hi, hyp⟩ := grd_e hyp
            refine va_iald hx hb hE.1 hP 8 0 rfl rfl (inB_vp hi) dX9_tidy_233 ?_
            exact kJ_53 (wfmov_47 (wftri_49 (60 : Int32).toNatClampNeg).toNatClampNeg) H locs ls hyp (lv_sub hl [0, 1] rfl) hP hD hS
          · replace hyp := ite_t h_91 hyp
            refine lv_iconst (v := (-1)) hx hb dX9_tidy_221 (by decide) ?_
            refine lv_goto (tgt := 234) hx hb dX9_tidy_222 (by decide) ?_
            exact kJ_53 (-1) H locs ls hyp (lv_sub hl [0, 1] rfl) hP hD hS
        · replace hyp := ite_f h_51 hyp
          refine lv_aload_n hx hb dX9_tidy_128 rfl (lv_at hl 0 rfl) ?_
          refine gf_X9_42 hx hb hts hown hE hP 0 rfl rfl dX9_tidy_129 ?_
          refine lv_iload_n hx hb dX9_tidy_132 rfl (lv_at hl 3 rfl) ?_
          obtain ⟨hi, hyp⟩ := grd_e hyp
          refine va_iald hx hb hE.1 hP 8 0 rfl rfl (inB_vp hi) dX9_tidy_133 ?_
          refine lv_if_ne (tgt := 202) hx hb dX9_tidy_134 (by decide) (fun h_92 => ?_) (fun h_92 => ?_)
          · replace hyp := ite_f h_92 hyp
            refine lv_iinc (v := v3_40 + 1) (lv' := [(3, .int (v3_40 + 1)), (0, .ref o), (1, .ref pt), (2, .int v2_39)]) hx hb dX9_tidy_202 hl (k := 3) rfl rfl (by decide) rfl (fun ls hl => ?_)
            refine lv_goto (tgt := 120) hx hb dX9_tidy_205 (by decide) ?_
            exact ihself_50 v2_39 (v3_40 + 1) wfnow_41 wfbook_42 wfkept_43 wffst_44 wflst_45 wfbef_46 wfmov_47 wnn_48 wftri_49 hyp H locs ls (lv_sub hl [1, 2, 3, 0] rfl) hP hD hS
          · replace hyp := ite_t h_92 hyp
            refine lv_aload_n hx hb dX9_tidy_137 rfl (lv_at hl 0 rfl) ?_
            refine gf_X9_42 hx hb hts hown hE hP 0 rfl rfl dX9_tidy_138 ?_
            refine lv_iload_n hx hb dX9_tidy_141 rfl (lv_at hl 3 rfl) ?_
            refine lv_iload_n hx hb dX9_tidy_142 rfl (lv_at hl 2 rfl) ?_
            obtain ⟨hi, hyp⟩ := grd_e hyp
            refine va_iast hx hb hE.1 hP hD hS 8 0 rfl rfl (inB_vp hi) dX9_tidy_143 (fun H locs hP hD hS => ?_)
            have hP : va_P g.1 vwCl [(o, .inr (9, [.int refu, .ref pn, .ref pt, .ref pr, .ref pw, .ref pb, .int nst, .ref pk, .ref pi, .ref pf, .ref pl, .ref pe, .ref pm, .int wnn_48, .ref px, .int len, .int pos, .int gd, .int ps, .int sm])), (pn, .inl (g.2.1, 61, .inl wfnow_41)), (pb, .inl (g.2.1, 366, .inl wfbook_42)), (pk, .inl (g.2.1, 122, .inl wfkept_43)), (pi, .inl (g.2.2.2.1, 2, .inl fisk)), (pf, .inl (g.2.2.1, 4096, .inr (.inl wffst_44))), (pl, .inl (g.2.2.1, 4096, .inr (.inl wflst_45))), (pe, .inl (g.2.1, 4096, .inl wfbef_46)), (pm, .inl (g.2.1, 4096, .inl (upd wfmov_47 v3_40.toNatClampNeg v2_39))), (pt, .inl (g.2.1, 61, .inl wftri_49))] H := hP
            have hD : va_D A [(o, .inr (9, [.int refu, .ref pn, .ref pt, .ref pr, .ref pw, .ref pb, .int nst, .ref pk, .ref pi, .ref pf, .ref pl, .ref pe, .ref pm, .int wnn_48, .ref px, .int len, .int pos, .int gd, .int ps, .int sm])), (pn, .inl (g.2.1, 61, .inl wfnow_41)), (pb, .inl (g.2.1, 366, .inl wfbook_42)), (pk, .inl (g.2.1, 122, .inl wfkept_43)), (pi, .inl (g.2.2.2.1, 2, .inl fisk)), (pf, .inl (g.2.2.1, 4096, .inr (.inl wffst_44))), (pl, .inl (g.2.2.1, 4096, .inr (.inl wflst_45))), (pe, .inl (g.2.1, 4096, .inl wfbef_46)), (pm, .inl (g.2.1, 4096, .inl (upd wfmov_47 v3_40.toNatClampNeg v2_39))), (pt, .inl (g.2.1, 61, .inl wftri_49))] := hD
            refine lv_aload_n hx hb dX9_tidy_144 rfl (lv_at hl 0 rfl) ?_
            refine gf_X9_32 hx hb hts hown hE hP 0 rfl rfl dX9_tidy_145 ?_
            refine lv_iload_n hx hb dX9_tidy_148 rfl (lv_at hl 2 rfl) ?_
            refine lv_aload_n hx hb dX9_tidy_149 rfl (lv_at hl 0 rfl) ?_
            refine gf_X9_32 hx hb hts hown hE hP 0 rfl rfl dX9_tidy_150 ?_
            refine lv_iload_n hx hb dX9_tidy_153 rfl (lv_at hl 3 rfl) ?_
            obtain ⟨hi, hyp⟩ := grd_e hyp
            refine va_lald hx hb hE.1 hP 5 1 rfl rfl (inB_vp hi) dX9_tidy_154 ?_
            obtain ⟨hi, hyp⟩ := grd_e hyp
            refine va_last hx hb hE.1 hP hD hS 5 1 rfl rfl (inB_vp hi) dX9_tidy_155 (fun H locs hP hD hS => ?_)
            have hP : va_P g.1 vwCl [(o, .inr (9, [.int refu, .ref pn, .ref pt, .ref pr, .ref pw, .ref pb, .int nst, .ref pk, .ref pi, .ref pf, .ref pl, .ref pe, .ref pm, .int wnn_48, .ref px, .int len, .int pos, .int gd, .int ps, .int sm])), (pn, .inl (g.2.1, 61, .inl wfnow_41)), (pb, .inl (g.2.1, 366, .inl wfbook_42)), (pk, .inl (g.2.1, 122, .inl wfkept_43)), (pi, .inl (g.2.2.2.1, 2, .inl fisk)), (pf, .inl (g.2.2.1, 4096, .inr (.inl (vp_updL wffst_44 v2_39.toNatClampNeg (wffst_44 v3_40.toNatClampNeg))))), (pl, .inl (g.2.2.1, 4096, .inr (.inl wflst_45))), (pe, .inl (g.2.1, 4096, .inl wfbef_46)), (pm, .inl (g.2.1, 4096, .inl (upd wfmov_47 v3_40.toNatClampNeg v2_39))), (pt, .inl (g.2.1, 61, .inl wftri_49))] H := hP
            have hD : va_D A [(o, .inr (9, [.int refu, .ref pn, .ref pt, .ref pr, .ref pw, .ref pb, .int nst, .ref pk, .ref pi, .ref pf, .ref pl, .ref pe, .ref pm, .int wnn_48, .ref px, .int len, .int pos, .int gd, .int ps, .int sm])), (pn, .inl (g.2.1, 61, .inl wfnow_41)), (pb, .inl (g.2.1, 366, .inl wfbook_42)), (pk, .inl (g.2.1, 122, .inl wfkept_43)), (pi, .inl (g.2.2.2.1, 2, .inl fisk)), (pf, .inl (g.2.2.1, 4096, .inr (.inl (vp_updL wffst_44 v2_39.toNatClampNeg (wffst_44 v3_40.toNatClampNeg))))), (pl, .inl (g.2.2.1, 4096, .inr (.inl wflst_45))), (pe, .inl (g.2.1, 4096, .inl wfbef_46)), (pm, .inl (g.2.1, 4096, .inl (upd wfmov_47 v3_40.toNatClampNeg v2_39))), (pt, .inl (g.2.1, 61, .inl wftri_49))] := hD
            refine lv_aload_n hx hb dX9_tidy_156 rfl (lv_at hl 0 rfl) ?_
            refine gf_X9_36 hx hb hts hown hE hP 0 rfl rfl dX9_tidy_157 ?_
            refine lv_iload_n hx hb dX9_tidy_160 rfl (lv_at hl 2 rfl) ?_
            refine lv_aload_n hx hb dX9_tidy_161 rfl (lv_at hl 0 rfl) ?_
            refine gf_X9_36 hx hb hts hown hE hP 0 rfl rfl dX9_tidy_162 ?_
            refine lv_iload_n hx hb dX9_tidy_165 rfl (lv_at hl 3 rfl) ?_
            obtain ⟨hi, hyp⟩ := grd_e hyp
            refine va_lald hx hb hE.1 hP 6 1 rfl rfl (inB_vp hi) dX9_tidy_166 ?_
            obtain ⟨hi, hyp⟩ := grd_e hyp
            refine va_last hx hb hE.1 hP hD hS 6 1 rfl rfl (inB_vp hi) dX9_tidy_167 (fun H locs hP hD hS => ?_)
            have hP : va_P g.1 vwCl [(o, .inr (9, [.int refu, .ref pn, .ref pt, .ref pr, .ref pw, .ref pb, .int nst, .ref pk, .ref pi, .ref pf, .ref pl, .ref pe, .ref pm, .int wnn_48, .ref px, .int len, .int pos, .int gd, .int ps, .int sm])), (pn, .inl (g.2.1, 61, .inl wfnow_41)), (pb, .inl (g.2.1, 366, .inl wfbook_42)), (pk, .inl (g.2.1, 122, .inl wfkept_43)), (pi, .inl (g.2.2.2.1, 2, .inl fisk)), (pf, .inl (g.2.2.1, 4096, .inr (.inl (vp_updL wffst_44 v2_39.toNatClampNeg (wffst_44 v3_40.toNatClampNeg))))), (pl, .inl (g.2.2.1, 4096, .inr (.inl (vp_updL wflst_45 v2_39.toNatClampNeg (wflst_45 v3_40.toNatClampNeg))))), (pe, .inl (g.2.1, 4096, .inl wfbef_46)), (pm, .inl (g.2.1, 4096, .inl (upd wfmov_47 v3_40.toNatClampNeg v2_39))), (pt, .inl (g.2.1, 61, .inl wftri_49))] H := hP
            have hD : va_D A [(o, .inr (9, [.int refu, .ref pn, .ref pt, .ref pr, .ref pw, .ref pb, .int nst, .ref pk, .ref pi, .ref pf, .ref pl, .ref pe, .ref pm, .int wnn_48, .ref px, .int len, .int pos, .int gd, .int ps, .int sm])), (pn, .inl (g.2.1, 61, .inl wfnow_41)), (pb, .inl (g.2.1, 366, .inl wfbook_42)), (pk, .inl (g.2.1, 122, .inl wfkept_43)), (pi, .inl (g.2.2.2.1, 2, .inl fisk)), (pf, .inl (g.2.2.1, 4096, .inr (.inl (vp_updL wffst_44 v2_39.toNatClampNeg (wffst_44 v3_40.toNatClampNeg))))), (pl, .inl (g.2.2.1, 4096, .inr (.inl (vp_updL wflst_45 v2_39.toNatClampNeg (wflst_45 v3_40.toNatClampNeg))))), (pe, .inl (g.2.1, 4096, .inl wfbef_46)), (pm, .inl (g.2.1, 4096, .inl (upd wfmov_47 v3_40.toNatClampNeg v2_39))), (pt, .inl (g.2.1, 61, .inl wftri_49))] := hD
            refine lv_aload_n hx hb dX9_tidy_168 rfl (lv_at hl 0 rfl) ?_
            refine gf_X9_39 hx hb hts hown hE hP 0 rfl rfl dX9_tidy_169 ?_
            refine lv_iload_n hx hb dX9_tidy_172 rfl (lv_at hl 2 rfl) ?_
            refine lv_aload_n hx hb dX9_tidy_173 rfl (lv_at hl 0 rfl) ?_
            refine gf_X9_39 hx hb hts hown hE hP 0 rfl rfl dX9_tidy_174 ?_
            refine lv_iload_n hx hb dX9_tidy_177 rfl (lv_at hl 3 rfl) ?_
            obtain ⟨hi, hyp⟩ := grd_e hyp
            refine va_iald hx hb hE.1 hP 7 0 rfl rfl (inB_vp hi) dX9_tidy_178 ?_
            refine lv_iconst (v := (-1)) hx hb dX9_tidy_179 (by decide) ?_
            obtain ⟨J_94, eJ_94, hyp⟩ := jn_e hyp
            have kJ_94 : ∀ (t_93 : Int32) (H : Heap) (locs : List Loc) (ls : Array Slot), J_94 t_93 = some r → lv_has ls 6 [(0, .ref o), (1, .ref pt), (2, .int v2_39), (3, .int v3_40)] → va_P g.1 vwCl [(o, .inr (9, [.int refu, .ref pn, .ref pt, .ref pr, .ref pw, .ref pb, .int nst, .ref pk, .ref pi, .ref pf, .ref pl, .ref pe, .ref pm, .int wnn_48, .ref px, .int len, .int pos, .int gd, .int ps, .int sm])), (pn, .inl (g.2.1, 61, .inl wfnow_41)), (pb, .inl (g.2.1, 366, .inl wfbook_42)), (pk, .inl (g.2.1, 122, .inl wfkept_43)), (pi, .inl (g.2.2.2.1, 2, .inl fisk)), (pf, .inl (g.2.2.1, 4096, .inr (.inl (vp_updL wffst_44 v2_39.toNatClampNeg (wffst_44 v3_40.toNatClampNeg))))), (pl, .inl (g.2.2.1, 4096, .inr (.inl (vp_updL wflst_45 v2_39.toNatClampNeg (wflst_45 v3_40.toNatClampNeg))))), (pe, .inl (g.2.1, 4096, .inl wfbef_46)), (pm, .inl (g.2.1, 4096, .inl (upd wfmov_47 v3_40.toNatClampNeg v2_39))), (pt, .inl (g.2.1, 61, .inl wftri_49))] H → va_D A [(o, .inr (9, [.int refu, .ref pn, .ref pt, .ref pr, .ref pw, .ref pb, .int nst, .ref pk, .ref pi, .ref pf, .ref pl, .ref pe, .ref pm, .int wnn_48, .ref px, .int len, .int pos, .int gd, .int ps, .int sm])), (pn, .inl (g.2.1, 61, .inl wfnow_41)), (pb, .inl (g.2.1, 366, .inl wfbook_42)), (pk, .inl (g.2.1, 122, .inl wfkept_43)), (pi, .inl (g.2.2.2.1, 2, .inl fisk)), (pf, .inl (g.2.2.1, 4096, .inr (.inl (vp_updL wffst_44 v2_39.toNatClampNeg (wffst_44 v3_40.toNatClampNeg))))), (pl, .inl (g.2.2.1, 4096, .inr (.inl (vp_updL wflst_45 v2_39.toNatClampNeg (wflst_45 v3_40.toNatClampNeg))))), (pe, .inl (g.2.1, 4096, .inl wfbef_46)), (pm, .inl (g.2.1, 4096, .inl (upd wfmov_47 v3_40.toNatClampNeg v2_39))), (pt, .inl (g.2.1, 61, .inl wftri_49))] → va_S A s.heap H locs → W p l e R s m args below meth c H locs 0 0 Q (F0 m 198 ls [.int t_93, .int v2_39, .ref pe]) := by
              intro t_93 H locs  ls hyp hl hP hD hS
              replace hyp := (congrFun (eJ_94) t_93).symm.trans hyp
              obtain ⟨hi, hyp⟩ := grd_e hyp
              refine va_iast hx hb hE.1 hP hD hS 7 0 rfl rfl (inB_vp hi) dX9_tidy_198 (fun H locs hP hD hS => ?_)
              have hP : va_P g.1 vwCl [(o, .inr (9, [.int refu, .ref pn, .ref pt, .ref pr, .ref pw, .ref pb, .int nst, .ref pk, .ref pi, .ref pf, .ref pl, .ref pe, .ref pm, .int wnn_48, .ref px, .int len, .int pos, .int gd, .int ps, .int sm])), (pn, .inl (g.2.1, 61, .inl wfnow_41)), (pb, .inl (g.2.1, 366, .inl wfbook_42)), (pk, .inl (g.2.1, 122, .inl wfkept_43)), (pi, .inl (g.2.2.2.1, 2, .inl fisk)), (pf, .inl (g.2.2.1, 4096, .inr (.inl (vp_updL wffst_44 v2_39.toNatClampNeg (wffst_44 v3_40.toNatClampNeg))))), (pl, .inl (g.2.2.1, 4096, .inr (.inl (vp_updL wflst_45 v2_39.toNatClampNeg (wflst_45 v3_40.toNatClampNeg))))), (pe, .inl (g.2.1, 4096, .inl (upd wfbef_46 v2_39.toNatClampNeg t_93))), (pm, .inl (g.2.1, 4096, .inl (upd wfmov_47 v3_40.toNatClampNeg v2_39))), (pt, .inl (g.2.1, 61, .inl wftri_49))] H := hP
              have hD : va_D A [(o, .inr (9, [.int refu, .ref pn, .ref pt, .ref pr, .ref pw, .ref pb, .int nst, .ref pk, .ref pi, .ref pf, .ref pl, .ref pe, .ref pm, .int wnn_48, .ref px, .int len, .int pos, .int gd, .int ps, .int sm])), (pn, .inl (g.2.1, 61, .inl wfnow_41)), (pb, .inl (g.2.1, 366, .inl wfbook_42)), (pk, .inl (g.2.1, 122, .inl wfkept_43)), (pi, .inl (g.2.2.2.1, 2, .inl fisk)), (pf, .inl (g.2.2.1, 4096, .inr (.inl (vp_updL wffst_44 v2_39.toNatClampNeg (wffst_44 v3_40.toNatClampNeg))))), (pl, .inl (g.2.2.1, 4096, .inr (.inl (vp_updL wflst_45 v2_39.toNatClampNeg (wflst_45 v3_40.toNatClampNeg))))), (pe, .inl (g.2.1, 4096, .inl (upd wfbef_46 v2_39.toNatClampNeg t_93))), (pm, .inl (g.2.1, 4096, .inl (upd wfmov_47 v3_40.toNatClampNeg v2_39))), (pt, .inl (g.2.1, 61, .inl wftri_49))] := hD
              refine lv_iinc (v := v2_39 + 1) (lv' := [(2, .int (v2_39 + 1)), (0, .ref o), (1, .ref pt), (3, .int v3_40)]) hx hb dX9_tidy_199 hl (k := 2) rfl rfl (by decide) rfl (fun ls hl => ?_)
              refine lv_iinc (v := v3_40 + 1) (lv' := [(3, .int (v3_40 + 1)), (2, .int (v2_39 + 1)), (0, .ref o), (1, .ref pt)]) hx hb dX9_tidy_202 hl (k := 3) rfl rfl (by decide) rfl (fun ls hl => ?_)
              refine lv_goto (tgt := 120) hx hb dX9_tidy_205 (by decide) ?_
              exact ihself_50 (v2_39 + 1) (v3_40 + 1) wfnow_41 wfbook_42 wfkept_43 (vp_updL wffst_44 v2_39.toNatClampNeg (wffst_44 v3_40.toNatClampNeg)) (vp_updL wflst_45 v2_39.toNatClampNeg (wflst_45 v3_40.toNatClampNeg)) (upd wfbef_46 v2_39.toNatClampNeg t_93) (upd wfmov_47 v3_40.toNatClampNeg v2_39) wnn_48 wftri_49 hyp H locs ls (lv_sub hl [2, 3, 1, 0] rfl) hP hD hS
            refine lv_icmp_ne (tgt := 187) hx hb dX9_tidy_180 (by decide) (fun h_95 => ?_) (fun h_95 => ?_)
            · replace hyp := ite_f h_95 hyp
              refine lv_aload_n hx hb dX9_tidy_187 rfl (lv_at hl 0 rfl) ?_
              refine gf_X9_42 hx hb hts hown hE hP 0 rfl rfl dX9_tidy_188 ?_
              refine lv_aload_n hx hb dX9_tidy_191 rfl (lv_at hl 0 rfl) ?_
              refine gf_X9_39 hx hb hts hown hE hP 0 rfl rfl dX9_tidy_192 ?_
              refine lv_iload_n hx hb dX9_tidy_195 rfl (lv_at hl 3 rfl) ?_
              obtain ⟨hi, hyp⟩ := grd_e hyp
              refine va_iald hx hb hE.1 hP 7 0 rfl rfl (inB_vp hi) dX9_tidy_196 ?_
              obtain ⟨hi, hyp⟩ := grd_e hyp
              refine va_iald hx hb hE.1 hP 8 0 rfl rfl (inB_vp hi) dX9_tidy_197 ?_
              exact kJ_94 ((upd wfmov_47 v3_40.toNatClampNeg v2_39) (wfbef_46 v3_40.toNatClampNeg).toNatClampNeg) H locs ls hyp hl hP hD hS
            · replace hyp := ite_t h_95 hyp
              refine lv_iconst (v := (-1)) hx hb dX9_tidy_183 (by decide) ?_
              refine lv_goto (tgt := 198) hx hb dX9_tidy_184 (by decide) ?_
              exact kJ_94 (-1) H locs ls hyp hl hP hD hS
      · replace hyp := ite_f h_38 hyp
        refine lv_aload_n hx hb dX9_tidy_81 rfl (lv_at hl 0 rfl) ?_
        refine lv_aload_n hx hb dX9_tidy_82 rfl (lv_at hl 0 rfl) ?_
        refine gf_X9_28 hx hb hts hown hE hP 0 rfl rfl dX9_tidy_83 ?_
        refine lv_iload_n hx hb dX9_tidy_86 rfl (lv_at hl 2 rfl) ?_
        obtain ⟨hi, hyp⟩ := grd_e hyp
        refine va_zald hx hb hE.1 hP 4 2 rfl rfl (inB_vp hi) dX9_tidy_87 ?_
        obtain ⟨J_97, eJ_97, hyp⟩ := jn_e hyp
        have kJ_97 : ∀ (t_96 : Int32) (H : Heap) (locs : List Loc) (ls : Array Slot), J_97 t_96 = some r → lv_has ls 6 [(0, .ref o), (1, .ref pt), (2, .int v2_27)] → va_P g.1 vwCl [(o, .inr (9, [.int refu, .ref pn, .ref pt, .ref pr, .ref pw, .ref pb, .int nst, .ref pk, .ref pi, .ref pf, .ref pl, .ref pe, .ref pm, .int wnn_35, .ref px, .int len, .int pos, .int gd, .int ps, .int sm])), (pn, .inl (g.2.1, 61, .inl wfnow_28)), (pb, .inl (g.2.1, 366, .inl wfbook_29)), (pk, .inl (g.2.1, 122, .inl wfkept_30)), (pi, .inl (g.2.2.2.1, 2, .inl fisk)), (pf, .inl (g.2.2.1, 4096, .inr (.inl wffst_31))), (pl, .inl (g.2.2.1, 4096, .inr (.inl wflst_32))), (pe, .inl (g.2.1, 4096, .inl wfbef_33)), (pm, .inl (g.2.1, 4096, .inl wfmov_34)), (pt, .inl (g.2.1, 61, .inl wftri_36))] H → va_D A [(o, .inr (9, [.int refu, .ref pn, .ref pt, .ref pr, .ref pw, .ref pb, .int nst, .ref pk, .ref pi, .ref pf, .ref pl, .ref pe, .ref pm, .int wnn_35, .ref px, .int len, .int pos, .int gd, .int ps, .int sm])), (pn, .inl (g.2.1, 61, .inl wfnow_28)), (pb, .inl (g.2.1, 366, .inl wfbook_29)), (pk, .inl (g.2.1, 122, .inl wfkept_30)), (pi, .inl (g.2.2.2.1, 2, .inl fisk)), (pf, .inl (g.2.2.1, 4096, .inr (.inl wffst_31))), (pl, .inl (g.2.2.1, 4096, .inr (.inl wflst_32))), (pe, .inl (g.2.1, 4096, .inl wfbef_33)), (pm, .inl (g.2.1, 4096, .inl wfmov_34)), (pt, .inl (g.2.1, 61, .inl wftri_36))] → va_S A s.heap H locs → W p l e R s m args below meth c H locs 0 0 Q (F0 m 107 ls [.int t_96, .ref o]) := by
          intro t_96 H locs  ls hyp hl hP hD hS
          replace hyp := (congrFun (eJ_97) t_96).symm.trans hyp
          obtain ⟨r_98, hr_98, hyp⟩ := opt_e hyp
          refine wV (As := [.int t_96]) (rest := []) ⟨hx, hb, hml, hown, hts⟩ hE (mX9_mark l g o pe pm pn pt pr pw pb pk pi pf pl px refu nst wnn_35 len pos gd ps sm wfbef_33 wfmov_34 t_96 r_98 hr_98) cf_X9_mark im_X9_mark se_X9_mark ml_X9_107 ⟨Nat.le_trans (Nat.le_of_ble_eq_true rfl) hRf, Nat.le_trans (Nat.le_of_ble_eq_true rfl) hRl⟩ hP hD hS hA [0, 7, 8] [1, 2, 3, 4, 5, 6, 9] rfl (wr := [(pn, .inl (g.2.1, 61, .inl wfnow_28)), (pb, .inl (g.2.1, 366, .inl wfbook_29)), (pk, .inl (g.2.1, 122, .inl wfkept_30)), (pi, .inl (g.2.2.2.1, 2, .inl fisk)), (pf, .inl (g.2.2.1, 4096, .inr (.inl wffst_31))), (pl, .inl (g.2.2.1, 4096, .inr (.inl wflst_32))), (pt, .inl (g.2.1, 61, .inl wftri_36))]) rfl ⟨by decide, by decide⟩ (by decide) (ci := 9) (q0 := 0) rfl rfl rfl rfl hl.1 rfl (Nat.le_of_ble_eq_true rfl) dX9_tidy_107 ⟨Nat.zero_le _, Nat.zero_le _⟩ (fun H locs hP hD hS => ?_)
          have hP : va_P g.1 vwCl [(pn, .inl (g.2.1, 61, .inl wfnow_28)), (pb, .inl (g.2.1, 366, .inl wfbook_29)), (pk, .inl (g.2.1, 122, .inl wfkept_30)), (pi, .inl (g.2.2.2.1, 2, .inl fisk)), (pf, .inl (g.2.2.1, 4096, .inr (.inl wffst_31))), (pl, .inl (g.2.2.1, 4096, .inr (.inl wflst_32))), (pt, .inl (g.2.1, 61, .inl wftri_36)), (o, .inr (9, [.int refu, .ref pn, .ref pt, .ref pr, .ref pw, .ref pb, .int nst, .ref pk, .ref pi, .ref pf, .ref pl, .ref pe, .ref pm, .int wnn_35, .ref px, .int len, .int pos, .int gd, .int ps, .int sm])), (pe, .inl (g.2.1, 4096, .inl wfbef_33)), (pm, .inl (g.2.1, 4096, .inl r_98))] H := hP
          have hD : va_D A [(pn, .inl (g.2.1, 61, .inl wfnow_28)), (pb, .inl (g.2.1, 366, .inl wfbook_29)), (pk, .inl (g.2.1, 122, .inl wfkept_30)), (pi, .inl (g.2.2.2.1, 2, .inl fisk)), (pf, .inl (g.2.2.1, 4096, .inr (.inl wffst_31))), (pl, .inl (g.2.2.1, 4096, .inr (.inl wflst_32))), (pt, .inl (g.2.1, 61, .inl wftri_36)), (o, .inr (9, [.int refu, .ref pn, .ref pt, .ref pr, .ref pw, .ref pb, .int nst, .ref pk, .ref pi, .ref pf, .ref pl, .ref pe, .ref pm, .int wnn_35, .ref px, .int len, .int pos, .int gd, .int ps, .int sm])), (pe, .inl (g.2.1, 4096, .inl wfbef_33)), (pm, .inl (g.2.1, 4096, .inl r_98))] := hD
          refine lv_iinc (v := v2_27 + 1) (lv' := [(2, .int (v2_27 + 1)), (0, .ref o), (1, .ref pt)]) hx hb dX9_tidy_110 hl (k := 2) rfl rfl (by decide) rfl (fun ls hl => ?_)
          refine lv_goto (tgt := 76) hx hb dX9_tidy_113 (by decide) ?_
          have hP : va_P g.1 vwCl [(o, .inr (9, [.int refu, .ref pn, .ref pt, .ref pr, .ref pw, .ref pb, .int nst, .ref pk, .ref pi, .ref pf, .ref pl, .ref pe, .ref pm, .int wnn_35, .ref px, .int len, .int pos, .int gd, .int ps, .int sm])), (pn, .inl (g.2.1, 61, .inl wfnow_28)), (pb, .inl (g.2.1, 366, .inl wfbook_29)), (pk, .inl (g.2.1, 122, .inl wfkept_30)), (pi, .inl (g.2.2.2.1, 2, .inl fisk)), (pf, .inl (g.2.2.1, 4096, .inr (.inl wffst_31))), (pl, .inl (g.2.2.1, 4096, .inr (.inl wflst_32))), (pe, .inl (g.2.1, 4096, .inl wfbef_33)), (pm, .inl (g.2.1, 4096, .inl r_98)), (pt, .inl (g.2.1, 61, .inl wftri_36))] H := hP.sub [7, 0, 1, 2, 3, 4, 5, 8, 9, 6] rfl
          have hD : va_D A [(o, .inr (9, [.int refu, .ref pn, .ref pt, .ref pr, .ref pw, .ref pb, .int nst, .ref pk, .ref pi, .ref pf, .ref pl, .ref pe, .ref pm, .int wnn_35, .ref px, .int len, .int pos, .int gd, .int ps, .int sm])), (pn, .inl (g.2.1, 61, .inl wfnow_28)), (pb, .inl (g.2.1, 366, .inl wfbook_29)), (pk, .inl (g.2.1, 122, .inl wfkept_30)), (pi, .inl (g.2.2.2.1, 2, .inl fisk)), (pf, .inl (g.2.2.1, 4096, .inr (.inl wffst_31))), (pl, .inl (g.2.2.1, 4096, .inr (.inl wflst_32))), (pe, .inl (g.2.1, 4096, .inl wfbef_33)), (pm, .inl (g.2.1, 4096, .inl r_98)), (pt, .inl (g.2.1, 61, .inl wftri_36))] := hD.sub [7, 0, 1, 2, 3, 4, 5, 8, 9, 6] (by decide) rfl
          exact ihself_37 (v2_27 + 1) wfnow_28 wfbook_29 wfkept_30 wffst_31 wflst_32 wfbef_33 r_98 wnn_35 wftri_36 hyp H locs ls (lv_sub hl [1, 2, 0] rfl) hP hD hS
        refine lv_if_eq (tgt := 106) hx hb dX9_tidy_88 (by decide) (fun h_99 => ?_) (fun h_99 => ?_)
        · replace hyp := ite_t h_99 hyp
          refine lv_iconst (v := (-1)) hx hb dX9_tidy_106 (by decide) ?_
          exact kJ_97 (-1) H locs ls hyp hl hP hD hS
        · replace hyp := ite_f h_99 hyp
          refine lv_aload_n hx hb dX9_tidy_91 rfl (lv_at hl 0 rfl) ?_
          refine gf_X9_25 hx hb hts hown hE hP 0 rfl rfl dX9_tidy_92 ?_
          refine lv_bipush (v := 61) hx hb dX9_tidy_95 (by decide) ?_
          refine lv_iload_n hx hb dX9_tidy_97 rfl (lv_at hl 2 rfl) ?_
          refine lv_imul hx hb dX9_tidy_98 ?_
          refine lv_bipush (v := 60) hx hb dX9_tidy_99 (by decide) ?_
          refine lv_iadd hx hb dX9_tidy_101 ?_
          obtain ⟨hi, hyp⟩ := grd_e hyp
          refine va_iald hx hb hE.1 hP 3 0 rfl rfl (inB_vp hi) dX9_tidy_102 ?_
          refine lv_goto (tgt := 107) hx hb dX9_tidy_103 (by decide) ?_
          exact kJ_97 (wfkept_30 ((61 * v2_27) + 60).toNatClampNeg) H locs ls hyp hl hP hD hS
    · replace hyp := ite_f h_26 hyp
      refine lv_aload_n hx hb dX9_tidy_52 rfl (lv_at hl 0 rfl) ?_
      refine lv_aload_n hx hb dX9_tidy_53 rfl (lv_at hl 0 rfl) ?_
      refine gf_X9_22 hx hb hts hown hE hP 0 rfl rfl dX9_tidy_54 ?_
      refine lv_bipush (v := 61) hx hb dX9_tidy_57 (by decide) ?_
      refine lv_iload_n hx hb dX9_tidy_59 rfl (lv_at hl 2 rfl) ?_
      refine lv_imul hx hb dX9_tidy_60 ?_
      refine lv_bipush (v := 60) hx hb dX9_tidy_61 (by decide) ?_
      refine lv_iadd hx hb dX9_tidy_63 ?_
      obtain ⟨hi, hyp⟩ := grd_e hyp
      refine va_iald hx hb hE.1 hP 2 0 rfl rfl (inB_vp hi) dX9_tidy_64 ?_
      obtain ⟨r_100, hr_100, hyp⟩ := opt_e hyp
      refine wV (As := [.int (wfbook_17 ((61 * v2_15) + 60).toNatClampNeg)]) (rest := []) ⟨hx, hb, hml, hown, hts⟩ hE (mX9_mark l g o pe pm pn pt pr pw pb pk pi pf pl px refu nst wnn_23 len pos gd ps sm wfbef_21 wfmov_22 (wfbook_17 ((61 * v2_15) + 60).toNatClampNeg) r_100 hr_100) cf_X9_mark im_X9_mark se_X9_mark ml_X9_107 ⟨Nat.le_trans (Nat.le_of_ble_eq_true rfl) hRf, Nat.le_trans (Nat.le_of_ble_eq_true rfl) hRl⟩ hP hD hS hA [0, 7, 8] [1, 2, 3, 4, 5, 6, 9] rfl (wr := [(pn, .inl (g.2.1, 61, .inl wfnow_16)), (pb, .inl (g.2.1, 366, .inl wfbook_17)), (pk, .inl (g.2.1, 122, .inl wfkept_18)), (pi, .inl (g.2.2.2.1, 2, .inl fisk)), (pf, .inl (g.2.2.1, 4096, .inr (.inl wffst_19))), (pl, .inl (g.2.2.1, 4096, .inr (.inl wflst_20))), (pt, .inl (g.2.1, 61, .inl wftri_24))]) rfl ⟨by decide, by decide⟩ (by decide) (ci := 9) (q0 := 0) rfl rfl rfl rfl hl.1 rfl (Nat.le_of_ble_eq_true rfl) dX9_tidy_65 ⟨Nat.zero_le _, Nat.zero_le _⟩ (fun H locs hP hD hS => ?_)
      have hP : va_P g.1 vwCl [(pn, .inl (g.2.1, 61, .inl wfnow_16)), (pb, .inl (g.2.1, 366, .inl wfbook_17)), (pk, .inl (g.2.1, 122, .inl wfkept_18)), (pi, .inl (g.2.2.2.1, 2, .inl fisk)), (pf, .inl (g.2.2.1, 4096, .inr (.inl wffst_19))), (pl, .inl (g.2.2.1, 4096, .inr (.inl wflst_20))), (pt, .inl (g.2.1, 61, .inl wftri_24)), (o, .inr (9, [.int refu, .ref pn, .ref pt, .ref pr, .ref pw, .ref pb, .int nst, .ref pk, .ref pi, .ref pf, .ref pl, .ref pe, .ref pm, .int wnn_23, .ref px, .int len, .int pos, .int gd, .int ps, .int sm])), (pe, .inl (g.2.1, 4096, .inl wfbef_21)), (pm, .inl (g.2.1, 4096, .inl r_100))] H := hP
      have hD : va_D A [(pn, .inl (g.2.1, 61, .inl wfnow_16)), (pb, .inl (g.2.1, 366, .inl wfbook_17)), (pk, .inl (g.2.1, 122, .inl wfkept_18)), (pi, .inl (g.2.2.2.1, 2, .inl fisk)), (pf, .inl (g.2.2.1, 4096, .inr (.inl wffst_19))), (pl, .inl (g.2.2.1, 4096, .inr (.inl wflst_20))), (pt, .inl (g.2.1, 61, .inl wftri_24)), (o, .inr (9, [.int refu, .ref pn, .ref pt, .ref pr, .ref pw, .ref pb, .int nst, .ref pk, .ref pi, .ref pf, .ref pl, .ref pe, .ref pm, .int wnn_23, .ref px, .int len, .int pos, .int gd, .int ps, .int sm])), (pe, .inl (g.2.1, 4096, .inl wfbef_21)), (pm, .inl (g.2.1, 4096, .inl r_100))] := hD
      refine lv_iinc (v := v2_15 + 1) (lv' := [(2, .int (v2_15 + 1)), (0, .ref o), (1, .ref pt)]) hx hb dX9_tidy_68 hl (k := 2) rfl rfl (by decide) rfl (fun ls hl => ?_)
      refine lv_goto (tgt := 44) hx hb dX9_tidy_71 (by decide) ?_
      have hP : va_P g.1 vwCl [(o, .inr (9, [.int refu, .ref pn, .ref pt, .ref pr, .ref pw, .ref pb, .int nst, .ref pk, .ref pi, .ref pf, .ref pl, .ref pe, .ref pm, .int wnn_23, .ref px, .int len, .int pos, .int gd, .int ps, .int sm])), (pn, .inl (g.2.1, 61, .inl wfnow_16)), (pb, .inl (g.2.1, 366, .inl wfbook_17)), (pk, .inl (g.2.1, 122, .inl wfkept_18)), (pi, .inl (g.2.2.2.1, 2, .inl fisk)), (pf, .inl (g.2.2.1, 4096, .inr (.inl wffst_19))), (pl, .inl (g.2.2.1, 4096, .inr (.inl wflst_20))), (pe, .inl (g.2.1, 4096, .inl wfbef_21)), (pm, .inl (g.2.1, 4096, .inl r_100)), (pt, .inl (g.2.1, 61, .inl wftri_24))] H := hP.sub [7, 0, 1, 2, 3, 4, 5, 8, 9, 6] rfl
      have hD : va_D A [(o, .inr (9, [.int refu, .ref pn, .ref pt, .ref pr, .ref pw, .ref pb, .int nst, .ref pk, .ref pi, .ref pf, .ref pl, .ref pe, .ref pm, .int wnn_23, .ref px, .int len, .int pos, .int gd, .int ps, .int sm])), (pn, .inl (g.2.1, 61, .inl wfnow_16)), (pb, .inl (g.2.1, 366, .inl wfbook_17)), (pk, .inl (g.2.1, 122, .inl wfkept_18)), (pi, .inl (g.2.2.2.1, 2, .inl fisk)), (pf, .inl (g.2.2.1, 4096, .inr (.inl wffst_19))), (pl, .inl (g.2.2.1, 4096, .inr (.inl wflst_20))), (pe, .inl (g.2.1, 4096, .inl wfbef_21)), (pm, .inl (g.2.1, 4096, .inl r_100)), (pt, .inl (g.2.1, 61, .inl wftri_24))] := hD.sub [7, 0, 1, 2, 3, 4, 5, 8, 9, 6] (by decide) rfl
      exact ihself_25 (v2_15 + 1) wfnow_16 wfbook_17 wfkept_18 wffst_19 wflst_20 wfbef_21 r_100 wnn_23 wftri_24 hyp H locs ls (lv_sub hl [1, 2, 0] rfl) hP hD hS
  · replace hyp := ite_f h_12 hyp
    refine lv_aload_n hx hb dX9_tidy_10 rfl (lv_at hl 0 rfl) ?_
    refine gf_X9_42 hx hb hts hown hE hP 0 rfl rfl dX9_tidy_11 ?_
    refine lv_iload_n hx hb dX9_tidy_14 rfl (lv_at hl 2 rfl) ?_
    refine lv_iconst (v := (-1)) hx hb dX9_tidy_15 (by decide) ?_
    obtain ⟨hi, hyp⟩ := grd_e hyp
    refine va_iast hx hb hE.1 hP hD hS 8 0 rfl rfl (inB_vp hi) dX9_tidy_16 (fun H locs hP hD hS => ?_)
    have hP : va_P g.1 vwCl [(o, .inr (9, [.int refu, .ref pn, .ref pt, .ref pr, .ref pw, .ref pb, .int nst, .ref pk, .ref pi, .ref pf, .ref pl, .ref pe, .ref pm, .int wnn_9, .ref px, .int len, .int pos, .int gd, .int ps, .int sm])), (pn, .inl (g.2.1, 61, .inl wfnow_2)), (pb, .inl (g.2.1, 366, .inl wfbook_3)), (pk, .inl (g.2.1, 122, .inl wfkept_4)), (pi, .inl (g.2.2.2.1, 2, .inl fisk)), (pf, .inl (g.2.2.1, 4096, .inr (.inl wffst_5))), (pl, .inl (g.2.2.1, 4096, .inr (.inl wflst_6))), (pe, .inl (g.2.1, 4096, .inl wfbef_7)), (pm, .inl (g.2.1, 4096, .inl (upd wfmov_8 v2_1.toNatClampNeg (-1)))), (pt, .inl (g.2.1, 61, .inl wftri_10))] H := hP
    have hD : va_D A [(o, .inr (9, [.int refu, .ref pn, .ref pt, .ref pr, .ref pw, .ref pb, .int nst, .ref pk, .ref pi, .ref pf, .ref pl, .ref pe, .ref pm, .int wnn_9, .ref px, .int len, .int pos, .int gd, .int ps, .int sm])), (pn, .inl (g.2.1, 61, .inl wfnow_2)), (pb, .inl (g.2.1, 366, .inl wfbook_3)), (pk, .inl (g.2.1, 122, .inl wfkept_4)), (pi, .inl (g.2.2.2.1, 2, .inl fisk)), (pf, .inl (g.2.2.1, 4096, .inr (.inl wffst_5))), (pl, .inl (g.2.2.1, 4096, .inr (.inl wflst_6))), (pe, .inl (g.2.1, 4096, .inl wfbef_7)), (pm, .inl (g.2.1, 4096, .inl (upd wfmov_8 v2_1.toNatClampNeg (-1)))), (pt, .inl (g.2.1, 61, .inl wftri_10))] := hD
    refine lv_iinc (v := v2_1 + 1) (lv' := [(2, .int (v2_1 + 1)), (0, .ref o), (1, .ref pt)]) hx hb dX9_tidy_17 hl (k := 2) rfl rfl (by decide) rfl (fun ls hl => ?_)
    refine lv_goto (tgt := 2) hx hb dX9_tidy_20 (by decide) ?_
    exact ihself_11 (v2_1 + 1) wfnow_2 wfbook_3 wfkept_4 wffst_5 wflst_6 wfbef_7 (upd wfmov_8 v2_1.toNatClampNeg (-1)) wnn_9 wftri_10 hyp H locs ls (lv_sub hl [1, 2, 0] rfl) hP hD hS

def fX9_noteN (nst : Int32) (nn : Int32) (fnow : Nat → Int32) (fbook : Nat → Int32) (fkept : Nat → Int32) (fisk : Nat → Int32) (ffst : Nat → Int64) (flst : Nat → Int64) (fbef : Nat → Int32) (fmov : Nat → Int32) (a1 : Int32) : Option ((Nat → Int32) × (Nat → Int32) × (Nat → Int32) × (Nat → Int64) × (Nat → Int64) × (Nat → Int32) × (Nat → Int32) × Int32) :=
  grd (inB 60 61) (jn (fun (wfnow_1 : Nat → Int32) (wfbook_2 : Nat → Int32) (wfkept_3 : Nat → Int32) (wffst_4 : Nat → Int64) (wflst_5 : Nat → Int64) (wfbef_6 : Nat → Int32) (wfmov_7 : Nat → Int32) (wnn_8 : Int32) => (fX9_code wfnow_1 0 31).bind (fun (r_10 : Int64) => grd (inB wnn_8 4096) ((fX9_code wfnow_1 31 49).bind (fun (r_11 : Int64) => grd (inB 49 61) (grd (inB wnn_8 4096) (grd (inB 60 61) (grd (inB wnn_8 4096) (grd (inB 60 61) (some (upd wfnow_1 (60 : Int32).toNatClampNeg wnn_8, wfbook_2, wfkept_3, vp_updL wffst_4 wnn_8.toNatClampNeg r_10, vp_updL wflst_5 wnn_8.toNatClampNeg ((r_11 <<< ((1 : Int32).toInt64 &&& 63)) ||| ((wfnow_1 (49 : Int32).toNatClampNeg).toInt64)), upd wfbef_6 wnn_8.toNatClampNeg (wfnow_1 (60 : Int32).toNatClampNeg), wfmov_7, wnn_8 + 1)))))))))) (fun J_9 => if nn = 4096 then ((fX9_tidyN nst nn (upd fnow (60 : Int32).toNatClampNeg a1) fbook fkept fisk ffst flst fbef fmov).bind (fun (r_13 : (Nat → Int32) × (Nat → Int32) × (Nat → Int32) × (Nat → Int64) × (Nat → Int64) × (Nat → Int32) × (Nat → Int32) × Int32) => J_9 r_13.1 r_13.2.1 r_13.2.2.1 r_13.2.2.2.1 r_13.2.2.2.2.1 r_13.2.2.2.2.2.1 r_13.2.2.2.2.2.2.1 r_13.2.2.2.2.2.2.2)) else (J_9 (upd fnow (60 : Int32).toNatClampNeg a1) fbook fkept ffst flst fbef fmov nn)))
set_option maxRecDepth 100000 in
set_option maxHeartbeats 4000000 in
theorem mX9_noteN (l : Launch) (g : GE) (o pn pb pk pi pf pl pe pm pt pr pw px : Nat) (refu : Int32) (nst : Int32) (nn : Int32) (len : Int32) (pos : Int32) (gd : Int32) (ps : Int32) (sm : Int32) (fnow : Nat → Int32) (fbook : Nat → Int32) (fkept : Nat → Int32) (fisk : Nat → Int32) (ffst : Nat → Int64) (flst : Nat → Int64) (fbef : Nat → Int32) (fmov : Nat → Int32) (a1 : Int32) (r : (Nat → Int32) × (Nat → Int32) × (Nat → Int32) × (Nat → Int64) × (Nat → Int64) × (Nat → Int32) × (Nat → Int32) × Int32) (hyp : fX9_noteN nst nn fnow fbook fkept fisk ffst flst fbef fmov a1 = some r) : WM l yX9_note cX9_note 3 none 2 47 g [(o, .inr (9, [.int refu, .ref pn, .ref pt, .ref pr, .ref pw, .ref pb, .int nst, .ref pk, .ref pi, .ref pf, .ref pl, .ref pe, .ref pm, .int nn, .ref px, .int len, .int pos, .int gd, .int ps, .int sm])), (pn, .inl (g.2.1, 61, .inl fnow)), (pb, .inl (g.2.1, 366, .inl fbook)), (pk, .inl (g.2.1, 122, .inl fkept)), (pi, .inl (g.2.2.2.1, 2, .inl fisk)), (pf, .inl (g.2.2.1, 4096, .inr (.inl ffst))), (pl, .inl (g.2.2.1, 4096, .inr (.inl flst))), (pe, .inl (g.2.1, 4096, .inl fbef)), (pm, .inl (g.2.1, 4096, .inl fmov))] [.ref o, .ref pn, .int a1] none [(o, .inr (9, [.int refu, .ref pn, .ref pt, .ref pr, .ref pw, .ref pb, .int nst, .ref pk, .ref pi, .ref pf, .ref pl, .ref pe, .ref pm, .int r.2.2.2.2.2.2.2, .ref px, .int len, .int pos, .int gd, .int ps, .int sm])), (pn, .inl (g.2.1, 61, .inl r.1)), (pb, .inl (g.2.1, 366, .inl r.2.1)), (pk, .inl (g.2.1, 122, .inl r.2.2.1)), (pi, .inl (g.2.2.2.1, 2, .inl fisk)), (pf, .inl (g.2.2.1, 4096, .inr (.inl r.2.2.2.1))), (pl, .inl (g.2.2.1, 4096, .inr (.inl r.2.2.2.2.1))), (pe, .inl (g.2.1, 4096, .inl r.2.2.2.2.2.1)), (pm, .inl (g.2.1, 4096, .inl r.2.2.2.2.2.2.1))] := by
  refine metW_intro (by decide) rfl ?_
  intro p e R s m args below meth c Q A hRf hRl hQ hx hb hml hr hlocks hown hts hin hE hA H locs hP hD hS ls hl
  have hown : s.vm.findClass "HallGuardsModel" = some m.cls := hown
  have hl : lv_has ls 3 [(0, .ref o), (1, .ref pn), (2, .int a1)] := hl
  unfold fX9_noteN at hyp
  refine lv_aload_n hx hb dX9_note_0 rfl (lv_at hl 1 rfl) ?_
  refine lv_bipush (v := 60) hx hb dX9_note_1 (by decide) ?_
  refine lv_iload_n hx hb dX9_note_3 rfl (lv_at hl 2 rfl) ?_
  obtain ⟨hi, hyp⟩ := grd_e hyp
  refine va_iast hx hb hE.1 hP hD hS 1 0 rfl rfl (inB_vp hi) dX9_note_4 (fun H locs hP hD hS => ?_)
  have hP : va_P g.1 vwCl [(o, .inr (9, [.int refu, .ref pn, .ref pt, .ref pr, .ref pw, .ref pb, .int nst, .ref pk, .ref pi, .ref pf, .ref pl, .ref pe, .ref pm, .int nn, .ref px, .int len, .int pos, .int gd, .int ps, .int sm])), (pn, .inl (g.2.1, 61, .inl (upd fnow (60 : Int32).toNatClampNeg a1))), (pb, .inl (g.2.1, 366, .inl fbook)), (pk, .inl (g.2.1, 122, .inl fkept)), (pi, .inl (g.2.2.2.1, 2, .inl fisk)), (pf, .inl (g.2.2.1, 4096, .inr (.inl ffst))), (pl, .inl (g.2.2.1, 4096, .inr (.inl flst))), (pe, .inl (g.2.1, 4096, .inl fbef)), (pm, .inl (g.2.1, 4096, .inl fmov))] H := hP
  have hD : va_D A [(o, .inr (9, [.int refu, .ref pn, .ref pt, .ref pr, .ref pw, .ref pb, .int nst, .ref pk, .ref pi, .ref pf, .ref pl, .ref pe, .ref pm, .int nn, .ref px, .int len, .int pos, .int gd, .int ps, .int sm])), (pn, .inl (g.2.1, 61, .inl (upd fnow (60 : Int32).toNatClampNeg a1))), (pb, .inl (g.2.1, 366, .inl fbook)), (pk, .inl (g.2.1, 122, .inl fkept)), (pi, .inl (g.2.2.2.1, 2, .inl fisk)), (pf, .inl (g.2.2.1, 4096, .inr (.inl ffst))), (pl, .inl (g.2.2.1, 4096, .inr (.inl flst))), (pe, .inl (g.2.1, 4096, .inl fbef)), (pm, .inl (g.2.1, 4096, .inl fmov))] := hD
  refine lv_aload_n hx hb dX9_note_5 rfl (lv_at hl 0 rfl) ?_
  refine gf_X9_104 hx hb hts hown hE hP 0 rfl rfl dX9_note_6 ?_
  refine lv_sipush (v := 4096) hx hb dX9_note_9 (by decide) ?_
  obtain ⟨J_9, eJ_9, hyp⟩ := jn_e hyp
  have kJ_9 : ∀ (wfnow_1 : Nat → Int32) (wfbook_2 : Nat → Int32) (wfkept_3 : Nat → Int32) (wffst_4 : Nat → Int64) (wflst_5 : Nat → Int64) (wfbef_6 : Nat → Int32) (wfmov_7 : Nat → Int32) (wnn_8 : Int32) (H : Heap) (locs : List Loc) (ls : Array Slot), J_9 wfnow_1 wfbook_2 wfkept_3 wffst_4 wflst_5 wfbef_6 wfmov_7 wnn_8 = some r → lv_has ls 3 [(0, .ref o), (1, .ref pn)] → va_P g.1 vwCl [(o, .inr (9, [.int refu, .ref pn, .ref pt, .ref pr, .ref pw, .ref pb, .int nst, .ref pk, .ref pi, .ref pf, .ref pl, .ref pe, .ref pm, .int wnn_8, .ref px, .int len, .int pos, .int gd, .int ps, .int sm])), (pn, .inl (g.2.1, 61, .inl wfnow_1)), (pb, .inl (g.2.1, 366, .inl wfbook_2)), (pk, .inl (g.2.1, 122, .inl wfkept_3)), (pi, .inl (g.2.2.2.1, 2, .inl fisk)), (pf, .inl (g.2.2.1, 4096, .inr (.inl wffst_4))), (pl, .inl (g.2.2.1, 4096, .inr (.inl wflst_5))), (pe, .inl (g.2.1, 4096, .inl wfbef_6)), (pm, .inl (g.2.1, 4096, .inl wfmov_7))] H → va_D A [(o, .inr (9, [.int refu, .ref pn, .ref pt, .ref pr, .ref pw, .ref pb, .int nst, .ref pk, .ref pi, .ref pf, .ref pl, .ref pe, .ref pm, .int wnn_8, .ref px, .int len, .int pos, .int gd, .int ps, .int sm])), (pn, .inl (g.2.1, 61, .inl wfnow_1)), (pb, .inl (g.2.1, 366, .inl wfbook_2)), (pk, .inl (g.2.1, 122, .inl wfkept_3)), (pi, .inl (g.2.2.2.1, 2, .inl fisk)), (pf, .inl (g.2.2.1, 4096, .inr (.inl wffst_4))), (pl, .inl (g.2.2.1, 4096, .inr (.inl wflst_5))), (pe, .inl (g.2.1, 4096, .inl wfbef_6)), (pm, .inl (g.2.1, 4096, .inl wfmov_7))] → va_S A s.heap H locs → W p l e R s m args below meth c H locs 0 0 Q (F0 m 20 ls []) := by
    intro wfnow_1 wfbook_2 wfkept_3 wffst_4 wflst_5 wfbef_6 wfmov_7 wnn_8 H locs  ls hyp hl hP hD hS
    replace hyp := (congrFun (congrFun (congrFun (congrFun (congrFun (congrFun (congrFun (congrFun (eJ_9) wfnow_1) wfbook_2) wfkept_3) wffst_4) wflst_5) wfbef_6) wfmov_7) wnn_8).symm.trans hyp
    refine lv_aload_n hx hb dX9_note_20 rfl (lv_at hl 0 rfl) ?_
    refine gf_X9_32 hx hb hts hown hE hP 0 rfl rfl dX9_note_21 ?_
    refine lv_aload_n hx hb dX9_note_24 rfl (lv_at hl 0 rfl) ?_
    refine gf_X9_104 hx hb hts hown hE hP 0 rfl rfl dX9_note_25 ?_
    refine lv_aload_n hx hb dX9_note_28 rfl (lv_at hl 1 rfl) ?_
    refine lv_iconst (v := 0) hx hb dX9_note_29 (by decide) ?_
    refine lv_bipush (v := 31) hx hb dX9_note_30 (by decide) ?_
    obtain ⟨r_10, hr_10, hyp⟩ := opt_e hyp
    refine pSJ (As := [.ref pn, .int 0, .int 31]) (rest := [.int wnn_8, .ref pf]) ⟨hx, hb, hml, hown, hts⟩ hE (mX9_code l g pn wfnow_1 0 31 r_10 hr_10) cf_X9_code st_X9_code ml_X9_118 ⟨Nat.le_trans (Nat.le_of_ble_eq_true rfl) hRf, Nat.le_trans (Nat.le_of_ble_eq_true rfl) hRl⟩ (hP.sub (ws' := [(pn, .inl (g.2.1, 61, .inl wfnow_1))]) [1] rfl) rfl hl.1 rfl (Nat.le_of_ble_eq_true rfl) dX9_note_32 ⟨Nat.zero_le _, Nat.zero_le _⟩ ?_
    obtain ⟨hi, hyp⟩ := grd_e hyp
    refine va_last hx hb hE.1 hP hD hS 5 1 rfl rfl (inB_vp hi) dX9_note_35 (fun H locs hP hD hS => ?_)
    have hP : va_P g.1 vwCl [(o, .inr (9, [.int refu, .ref pn, .ref pt, .ref pr, .ref pw, .ref pb, .int nst, .ref pk, .ref pi, .ref pf, .ref pl, .ref pe, .ref pm, .int wnn_8, .ref px, .int len, .int pos, .int gd, .int ps, .int sm])), (pn, .inl (g.2.1, 61, .inl wfnow_1)), (pb, .inl (g.2.1, 366, .inl wfbook_2)), (pk, .inl (g.2.1, 122, .inl wfkept_3)), (pi, .inl (g.2.2.2.1, 2, .inl fisk)), (pf, .inl (g.2.2.1, 4096, .inr (.inl (vp_updL wffst_4 wnn_8.toNatClampNeg r_10)))), (pl, .inl (g.2.2.1, 4096, .inr (.inl wflst_5))), (pe, .inl (g.2.1, 4096, .inl wfbef_6)), (pm, .inl (g.2.1, 4096, .inl wfmov_7))] H := hP
    have hD : va_D A [(o, .inr (9, [.int refu, .ref pn, .ref pt, .ref pr, .ref pw, .ref pb, .int nst, .ref pk, .ref pi, .ref pf, .ref pl, .ref pe, .ref pm, .int wnn_8, .ref px, .int len, .int pos, .int gd, .int ps, .int sm])), (pn, .inl (g.2.1, 61, .inl wfnow_1)), (pb, .inl (g.2.1, 366, .inl wfbook_2)), (pk, .inl (g.2.1, 122, .inl wfkept_3)), (pi, .inl (g.2.2.2.1, 2, .inl fisk)), (pf, .inl (g.2.2.1, 4096, .inr (.inl (vp_updL wffst_4 wnn_8.toNatClampNeg r_10)))), (pl, .inl (g.2.2.1, 4096, .inr (.inl wflst_5))), (pe, .inl (g.2.1, 4096, .inl wfbef_6)), (pm, .inl (g.2.1, 4096, .inl wfmov_7))] := hD
    refine lv_aload_n hx hb dX9_note_36 rfl (lv_at hl 0 rfl) ?_
    refine gf_X9_36 hx hb hts hown hE hP 0 rfl rfl dX9_note_37 ?_
    refine lv_aload_n hx hb dX9_note_40 rfl (lv_at hl 0 rfl) ?_
    refine gf_X9_104 hx hb hts hown hE hP 0 rfl rfl dX9_note_41 ?_
    refine lv_aload_n hx hb dX9_note_44 rfl (lv_at hl 1 rfl) ?_
    refine lv_bipush (v := 31) hx hb dX9_note_45 (by decide) ?_
    refine lv_bipush (v := 49) hx hb dX9_note_47 (by decide) ?_
    obtain ⟨r_11, hr_11, hyp⟩ := opt_e hyp
    refine pSJ (As := [.ref pn, .int 31, .int 49]) (rest := [.int wnn_8, .ref pl]) ⟨hx, hb, hml, hown, hts⟩ hE (mX9_code l g pn wfnow_1 31 49 r_11 hr_11) cf_X9_code st_X9_code ml_X9_118 ⟨Nat.le_trans (Nat.le_of_ble_eq_true rfl) hRf, Nat.le_trans (Nat.le_of_ble_eq_true rfl) hRl⟩ (hP.sub (ws' := [(pn, .inl (g.2.1, 61, .inl wfnow_1))]) [1] rfl) rfl hl.1 rfl (Nat.le_of_ble_eq_true rfl) dX9_note_49 ⟨Nat.zero_le _, Nat.zero_le _⟩ ?_
    refine lv_iconst (v := 1) hx hb dX9_note_52 (by decide) ?_
    refine lv_lshl hx hb dX9_note_53 rfl ?_
    refine lv_aload_n hx hb dX9_note_54 rfl (lv_at hl 1 rfl) ?_
    refine lv_bipush (v := 49) hx hb dX9_note_55 (by decide) ?_
    obtain ⟨hi, hyp⟩ := grd_e hyp
    refine va_iald hx hb hE.1 hP 1 0 rfl rfl (inB_vp hi) dX9_note_57 ?_
    refine lv_i2l hx hb dX9_note_58 rfl ?_
    refine lv_lor hx hb dX9_note_59 ?_
    obtain ⟨hi, hyp⟩ := grd_e hyp
    refine va_last hx hb hE.1 hP hD hS 6 1 rfl rfl (inB_vp hi) dX9_note_60 (fun H locs hP hD hS => ?_)
    have hP : va_P g.1 vwCl [(o, .inr (9, [.int refu, .ref pn, .ref pt, .ref pr, .ref pw, .ref pb, .int nst, .ref pk, .ref pi, .ref pf, .ref pl, .ref pe, .ref pm, .int wnn_8, .ref px, .int len, .int pos, .int gd, .int ps, .int sm])), (pn, .inl (g.2.1, 61, .inl wfnow_1)), (pb, .inl (g.2.1, 366, .inl wfbook_2)), (pk, .inl (g.2.1, 122, .inl wfkept_3)), (pi, .inl (g.2.2.2.1, 2, .inl fisk)), (pf, .inl (g.2.2.1, 4096, .inr (.inl (vp_updL wffst_4 wnn_8.toNatClampNeg r_10)))), (pl, .inl (g.2.2.1, 4096, .inr (.inl (vp_updL wflst_5 wnn_8.toNatClampNeg ((r_11 <<< ((1 : Int32).toInt64 &&& 63)) ||| ((wfnow_1 (49 : Int32).toNatClampNeg).toInt64)))))), (pe, .inl (g.2.1, 4096, .inl wfbef_6)), (pm, .inl (g.2.1, 4096, .inl wfmov_7))] H := hP
    have hD : va_D A [(o, .inr (9, [.int refu, .ref pn, .ref pt, .ref pr, .ref pw, .ref pb, .int nst, .ref pk, .ref pi, .ref pf, .ref pl, .ref pe, .ref pm, .int wnn_8, .ref px, .int len, .int pos, .int gd, .int ps, .int sm])), (pn, .inl (g.2.1, 61, .inl wfnow_1)), (pb, .inl (g.2.1, 366, .inl wfbook_2)), (pk, .inl (g.2.1, 122, .inl wfkept_3)), (pi, .inl (g.2.2.2.1, 2, .inl fisk)), (pf, .inl (g.2.2.1, 4096, .inr (.inl (vp_updL wffst_4 wnn_8.toNatClampNeg r_10)))), (pl, .inl (g.2.2.1, 4096, .inr (.inl (vp_updL wflst_5 wnn_8.toNatClampNeg ((r_11 <<< ((1 : Int32).toInt64 &&& 63)) ||| ((wfnow_1 (49 : Int32).toNatClampNeg).toInt64)))))), (pe, .inl (g.2.1, 4096, .inl wfbef_6)), (pm, .inl (g.2.1, 4096, .inl wfmov_7))] := hD
    refine lv_aload_n hx hb dX9_note_61 rfl (lv_at hl 0 rfl) ?_
    refine gf_X9_39 hx hb hts hown hE hP 0 rfl rfl dX9_note_62 ?_
    refine lv_aload_n hx hb dX9_note_65 rfl (lv_at hl 0 rfl) ?_
    refine gf_X9_104 hx hb hts hown hE hP 0 rfl rfl dX9_note_66 ?_
    refine lv_aload_n hx hb dX9_note_69 rfl (lv_at hl 1 rfl) ?_
    refine lv_bipush (v := 60) hx hb dX9_note_70 (by decide) ?_
    obtain ⟨hi, hyp⟩ := grd_e hyp
    refine va_iald hx hb hE.1 hP 1 0 rfl rfl (inB_vp hi) dX9_note_72 ?_
    obtain ⟨hi, hyp⟩ := grd_e hyp
    refine va_iast hx hb hE.1 hP hD hS 7 0 rfl rfl (inB_vp hi) dX9_note_73 (fun H locs hP hD hS => ?_)
    have hP : va_P g.1 vwCl [(o, .inr (9, [.int refu, .ref pn, .ref pt, .ref pr, .ref pw, .ref pb, .int nst, .ref pk, .ref pi, .ref pf, .ref pl, .ref pe, .ref pm, .int wnn_8, .ref px, .int len, .int pos, .int gd, .int ps, .int sm])), (pn, .inl (g.2.1, 61, .inl wfnow_1)), (pb, .inl (g.2.1, 366, .inl wfbook_2)), (pk, .inl (g.2.1, 122, .inl wfkept_3)), (pi, .inl (g.2.2.2.1, 2, .inl fisk)), (pf, .inl (g.2.2.1, 4096, .inr (.inl (vp_updL wffst_4 wnn_8.toNatClampNeg r_10)))), (pl, .inl (g.2.2.1, 4096, .inr (.inl (vp_updL wflst_5 wnn_8.toNatClampNeg ((r_11 <<< ((1 : Int32).toInt64 &&& 63)) ||| ((wfnow_1 (49 : Int32).toNatClampNeg).toInt64)))))), (pe, .inl (g.2.1, 4096, .inl (upd wfbef_6 wnn_8.toNatClampNeg (wfnow_1 (60 : Int32).toNatClampNeg)))), (pm, .inl (g.2.1, 4096, .inl wfmov_7))] H := hP
    have hD : va_D A [(o, .inr (9, [.int refu, .ref pn, .ref pt, .ref pr, .ref pw, .ref pb, .int nst, .ref pk, .ref pi, .ref pf, .ref pl, .ref pe, .ref pm, .int wnn_8, .ref px, .int len, .int pos, .int gd, .int ps, .int sm])), (pn, .inl (g.2.1, 61, .inl wfnow_1)), (pb, .inl (g.2.1, 366, .inl wfbook_2)), (pk, .inl (g.2.1, 122, .inl wfkept_3)), (pi, .inl (g.2.2.2.1, 2, .inl fisk)), (pf, .inl (g.2.2.1, 4096, .inr (.inl (vp_updL wffst_4 wnn_8.toNatClampNeg r_10)))), (pl, .inl (g.2.2.1, 4096, .inr (.inl (vp_updL wflst_5 wnn_8.toNatClampNeg ((r_11 <<< ((1 : Int32).toInt64 &&& 63)) ||| ((wfnow_1 (49 : Int32).toNatClampNeg).toInt64)))))), (pe, .inl (g.2.1, 4096, .inl (upd wfbef_6 wnn_8.toNatClampNeg (wfnow_1 (60 : Int32).toNatClampNeg)))), (pm, .inl (g.2.1, 4096, .inl wfmov_7))] := hD
    refine lv_aload_n hx hb dX9_note_74 rfl (lv_at hl 1 rfl) ?_
    refine lv_bipush (v := 60) hx hb dX9_note_75 (by decide) ?_
    refine lv_aload_n hx hb dX9_note_77 rfl (lv_at hl 0 rfl) ?_
    refine gf_X9_104 hx hb hts hown hE hP 0 rfl rfl dX9_note_78 ?_
    obtain ⟨hi, hyp⟩ := grd_e hyp
    refine va_iast hx hb hE.1 hP hD hS 1 0 rfl rfl (inB_vp hi) dX9_note_81 (fun H locs hP hD hS => ?_)
    have hP : va_P g.1 vwCl [(o, .inr (9, [.int refu, .ref pn, .ref pt, .ref pr, .ref pw, .ref pb, .int nst, .ref pk, .ref pi, .ref pf, .ref pl, .ref pe, .ref pm, .int wnn_8, .ref px, .int len, .int pos, .int gd, .int ps, .int sm])), (pn, .inl (g.2.1, 61, .inl (upd wfnow_1 (60 : Int32).toNatClampNeg wnn_8))), (pb, .inl (g.2.1, 366, .inl wfbook_2)), (pk, .inl (g.2.1, 122, .inl wfkept_3)), (pi, .inl (g.2.2.2.1, 2, .inl fisk)), (pf, .inl (g.2.2.1, 4096, .inr (.inl (vp_updL wffst_4 wnn_8.toNatClampNeg r_10)))), (pl, .inl (g.2.2.1, 4096, .inr (.inl (vp_updL wflst_5 wnn_8.toNatClampNeg ((r_11 <<< ((1 : Int32).toInt64 &&& 63)) ||| ((wfnow_1 (49 : Int32).toNatClampNeg).toInt64)))))), (pe, .inl (g.2.1, 4096, .inl (upd wfbef_6 wnn_8.toNatClampNeg (wfnow_1 (60 : Int32).toNatClampNeg)))), (pm, .inl (g.2.1, 4096, .inl wfmov_7))] H := hP
    have hD : va_D A [(o, .inr (9, [.int refu, .ref pn, .ref pt, .ref pr, .ref pw, .ref pb, .int nst, .ref pk, .ref pi, .ref pf, .ref pl, .ref pe, .ref pm, .int wnn_8, .ref px, .int len, .int pos, .int gd, .int ps, .int sm])), (pn, .inl (g.2.1, 61, .inl (upd wfnow_1 (60 : Int32).toNatClampNeg wnn_8))), (pb, .inl (g.2.1, 366, .inl wfbook_2)), (pk, .inl (g.2.1, 122, .inl wfkept_3)), (pi, .inl (g.2.2.2.1, 2, .inl fisk)), (pf, .inl (g.2.2.1, 4096, .inr (.inl (vp_updL wffst_4 wnn_8.toNatClampNeg r_10)))), (pl, .inl (g.2.2.1, 4096, .inr (.inl (vp_updL wflst_5 wnn_8.toNatClampNeg ((r_11 <<< ((1 : Int32).toInt64 &&& 63)) ||| ((wfnow_1 (49 : Int32).toNatClampNeg).toInt64)))))), (pe, .inl (g.2.1, 4096, .inl (upd wfbef_6 wnn_8.toNatClampNeg (wfnow_1 (60 : Int32).toNatClampNeg)))), (pm, .inl (g.2.1, 4096, .inl wfmov_7))] := hD
    refine lv_aload_n hx hb dX9_note_82 rfl (lv_at hl 0 rfl) ?_
    refine lv_dup hx hb dX9_note_83 rfl ?_
    refine gf_X9_104 hx hb hts hown hE hP 0 rfl rfl dX9_note_84 ?_
    refine lv_iconst (v := 1) hx hb dX9_note_87 (by decide) ?_
    refine lv_iadd hx hb dX9_note_88 ?_
    refine pf_X9_104 hx hb hts hown hE hP hD hS 0 rfl rfl dX9_note_89 (fun H locs hP hD hS => ?_)
    have hP : va_P g.1 vwCl [(o, .inr (9, [.int refu, .ref pn, .ref pt, .ref pr, .ref pw, .ref pb, .int nst, .ref pk, .ref pi, .ref pf, .ref pl, .ref pe, .ref pm, .int (wnn_8 + 1), .ref px, .int len, .int pos, .int gd, .int ps, .int sm])), (pn, .inl (g.2.1, 61, .inl (upd wfnow_1 (60 : Int32).toNatClampNeg wnn_8))), (pb, .inl (g.2.1, 366, .inl wfbook_2)), (pk, .inl (g.2.1, 122, .inl wfkept_3)), (pi, .inl (g.2.2.2.1, 2, .inl fisk)), (pf, .inl (g.2.2.1, 4096, .inr (.inl (vp_updL wffst_4 wnn_8.toNatClampNeg r_10)))), (pl, .inl (g.2.2.1, 4096, .inr (.inl (vp_updL wflst_5 wnn_8.toNatClampNeg ((r_11 <<< ((1 : Int32).toInt64 &&& 63)) ||| ((wfnow_1 (49 : Int32).toNatClampNeg).toInt64)))))), (pe, .inl (g.2.1, 4096, .inl (upd wfbef_6 wnn_8.toNatClampNeg (wfnow_1 (60 : Int32).toNatClampNeg)))), (pm, .inl (g.2.1, 4096, .inl wfmov_7))] H := hP
    have hD : va_D A [(o, .inr (9, [.int refu, .ref pn, .ref pt, .ref pr, .ref pw, .ref pb, .int nst, .ref pk, .ref pi, .ref pf, .ref pl, .ref pe, .ref pm, .int (wnn_8 + 1), .ref px, .int len, .int pos, .int gd, .int ps, .int sm])), (pn, .inl (g.2.1, 61, .inl (upd wfnow_1 (60 : Int32).toNatClampNeg wnn_8))), (pb, .inl (g.2.1, 366, .inl wfbook_2)), (pk, .inl (g.2.1, 122, .inl wfkept_3)), (pi, .inl (g.2.2.2.1, 2, .inl fisk)), (pf, .inl (g.2.2.1, 4096, .inr (.inl (vp_updL wffst_4 wnn_8.toNatClampNeg r_10)))), (pl, .inl (g.2.2.1, 4096, .inr (.inl (vp_updL wflst_5 wnn_8.toNatClampNeg ((r_11 <<< ((1 : Int32).toInt64 &&& 63)) ||| ((wfnow_1 (49 : Int32).toNatClampNeg).toInt64)))))), (pe, .inl (g.2.1, 4096, .inl (upd wfbef_6 wnn_8.toNatClampNeg (wfnow_1 (60 : Int32).toNatClampNeg)))), (pm, .inl (g.2.1, 4096, .inl wfmov_7))] := hD
    have hyp := some_e hyp
    subst hyp
    subst hQ
    exact rwV hx hb hr hlocks  hP hD hS dX9_note_92
  refine lv_icmp_ne (tgt := 20) hx hb dX9_note_12 (by decide) (fun h_12 => ?_) (fun h_12 => ?_)
  · replace hyp := ite_f h_12 hyp
    exact kJ_9 (upd fnow (60 : Int32).toNatClampNeg a1) fbook fkept ffst flst fbef fmov nn H locs ls hyp (lv_sub hl [0, 1] rfl) hP hD hS
  · replace hyp := ite_t h_12 hyp
    refine lv_aload_n hx hb dX9_note_15 rfl (lv_at hl 0 rfl) ?_
    refine lv_aload_n hx hb dX9_note_16 rfl (lv_at hl 1 rfl) ?_
    obtain ⟨r_13, hr_13, hyp⟩ := opt_e hyp
    refine wV (As := [.ref pn]) (rest := []) ⟨hx, hb, hml, hown, hts⟩ hE (mX9_tidyN l g o pn pb pk pi pf pl pe pm pt pr pw px refu nst nn len pos gd ps sm (upd fnow (60 : Int32).toNatClampNeg a1) fbook fkept fisk ffst flst fbef fmov r_13 hr_13) cf_X9_tidy im_X9_tidy se_X9_tidy ml_X9_114 ⟨Nat.le_trans (Nat.le_of_ble_eq_true rfl) hRf, Nat.le_trans (Nat.le_of_ble_eq_true rfl) hRl⟩ hP hD hS hA [0, 1, 2, 3, 4, 5, 6, 7, 8] [] rfl (wr := []) rfl ⟨by decide, by decide⟩ (by decide) (ci := 9) (q0 := 0) rfl rfl rfl rfl hl.1 rfl (Nat.le_of_ble_eq_true rfl) dX9_note_17 ⟨Nat.zero_le _, Nat.zero_le _⟩ (fun H locs hP hD hS => ?_)
    have hP : va_P g.1 vwCl [(o, .inr (9, [.int refu, .ref pn, .ref pt, .ref pr, .ref pw, .ref pb, .int nst, .ref pk, .ref pi, .ref pf, .ref pl, .ref pe, .ref pm, .int r_13.2.2.2.2.2.2.2, .ref px, .int len, .int pos, .int gd, .int ps, .int sm])), (pn, .inl (g.2.1, 61, .inl r_13.1)), (pb, .inl (g.2.1, 366, .inl r_13.2.1)), (pk, .inl (g.2.1, 122, .inl r_13.2.2.1)), (pi, .inl (g.2.2.2.1, 2, .inl fisk)), (pf, .inl (g.2.2.1, 4096, .inr (.inl r_13.2.2.2.1))), (pl, .inl (g.2.2.1, 4096, .inr (.inl r_13.2.2.2.2.1))), (pe, .inl (g.2.1, 4096, .inl r_13.2.2.2.2.2.1)), (pm, .inl (g.2.1, 4096, .inl r_13.2.2.2.2.2.2.1))] H := hP
    have hD : va_D A [(o, .inr (9, [.int refu, .ref pn, .ref pt, .ref pr, .ref pw, .ref pb, .int nst, .ref pk, .ref pi, .ref pf, .ref pl, .ref pe, .ref pm, .int r_13.2.2.2.2.2.2.2, .ref px, .int len, .int pos, .int gd, .int ps, .int sm])), (pn, .inl (g.2.1, 61, .inl r_13.1)), (pb, .inl (g.2.1, 366, .inl r_13.2.1)), (pk, .inl (g.2.1, 122, .inl r_13.2.2.1)), (pi, .inl (g.2.2.2.1, 2, .inl fisk)), (pf, .inl (g.2.2.1, 4096, .inr (.inl r_13.2.2.2.1))), (pl, .inl (g.2.2.1, 4096, .inr (.inl r_13.2.2.2.2.1))), (pe, .inl (g.2.1, 4096, .inl r_13.2.2.2.2.2.1)), (pm, .inl (g.2.1, 4096, .inl r_13.2.2.2.2.2.2.1))] := hD
    exact kJ_9 r_13.1 r_13.2.1 r_13.2.2.1 r_13.2.2.2.1 r_13.2.2.2.2.1 r_13.2.2.2.2.2.1 r_13.2.2.2.2.2.2.1 r_13.2.2.2.2.2.2.2 H locs ls hyp (lv_sub hl [0, 1] rfl) hP hD hS

def fX9_noteT (nst : Int32) (nn : Int32) (fnow : Nat → Int32) (fbook : Nat → Int32) (fkept : Nat → Int32) (fisk : Nat → Int32) (ffst : Nat → Int64) (flst : Nat → Int64) (fbef : Nat → Int32) (fmov : Nat → Int32) (ftri : Nat → Int32) (a1 : Int32) : Option ((Nat → Int32) × (Nat → Int32) × (Nat → Int32) × (Nat → Int64) × (Nat → Int64) × (Nat → Int32) × (Nat → Int32) × Int32 × (Nat → Int32)) :=
  grd (inB 60 61) (jn (fun (wfnow_1 : Nat → Int32) (wfbook_2 : Nat → Int32) (wfkept_3 : Nat → Int32) (wffst_4 : Nat → Int64) (wflst_5 : Nat → Int64) (wfbef_6 : Nat → Int32) (wfmov_7 : Nat → Int32) (wnn_8 : Int32) (wftri_9 : Nat → Int32) => (fX9_code wftri_9 0 31).bind (fun (r_11 : Int64) => grd (inB wnn_8 4096) ((fX9_code wftri_9 31 49).bind (fun (r_12 : Int64) => grd (inB 49 61) (grd (inB wnn_8 4096) (grd (inB 60 61) (grd (inB wnn_8 4096) (grd (inB 60 61) (some (wfnow_1, wfbook_2, wfkept_3, vp_updL wffst_4 wnn_8.toNatClampNeg r_11, vp_updL wflst_5 wnn_8.toNatClampNeg ((r_12 <<< ((1 : Int32).toInt64 &&& 63)) ||| ((wftri_9 (49 : Int32).toNatClampNeg).toInt64)), upd wfbef_6 wnn_8.toNatClampNeg (wftri_9 (60 : Int32).toNatClampNeg), wfmov_7, wnn_8 + 1, upd wftri_9 (60 : Int32).toNatClampNeg wnn_8)))))))))) (fun J_10 => if nn = 4096 then ((fX9_tidyT nst nn fnow fbook fkept fisk ffst flst fbef fmov (upd ftri (60 : Int32).toNatClampNeg a1)).bind (fun (r_14 : (Nat → Int32) × (Nat → Int32) × (Nat → Int32) × (Nat → Int64) × (Nat → Int64) × (Nat → Int32) × (Nat → Int32) × Int32 × (Nat → Int32)) => J_10 r_14.1 r_14.2.1 r_14.2.2.1 r_14.2.2.2.1 r_14.2.2.2.2.1 r_14.2.2.2.2.2.1 r_14.2.2.2.2.2.2.1 r_14.2.2.2.2.2.2.2.1 r_14.2.2.2.2.2.2.2.2)) else (J_10 fnow fbook fkept ffst flst fbef fmov nn (upd ftri (60 : Int32).toNatClampNeg a1))))
set_option maxRecDepth 100000 in
set_option maxHeartbeats 4000000 in
theorem mX9_noteT (l : Launch) (g : GE) (o pn pb pk pi pf pl pe pm pt pr pw px : Nat) (refu : Int32) (nst : Int32) (nn : Int32) (len : Int32) (pos : Int32) (gd : Int32) (ps : Int32) (sm : Int32) (fnow : Nat → Int32) (fbook : Nat → Int32) (fkept : Nat → Int32) (fisk : Nat → Int32) (ffst : Nat → Int64) (flst : Nat → Int64) (fbef : Nat → Int32) (fmov : Nat → Int32) (ftri : Nat → Int32) (a1 : Int32) (r : (Nat → Int32) × (Nat → Int32) × (Nat → Int32) × (Nat → Int64) × (Nat → Int64) × (Nat → Int32) × (Nat → Int32) × Int32 × (Nat → Int32)) (hyp : fX9_noteT nst nn fnow fbook fkept fisk ffst flst fbef fmov ftri a1 = some r) : WM l yX9_note cX9_note 3 none 2 47 g [(o, .inr (9, [.int refu, .ref pn, .ref pt, .ref pr, .ref pw, .ref pb, .int nst, .ref pk, .ref pi, .ref pf, .ref pl, .ref pe, .ref pm, .int nn, .ref px, .int len, .int pos, .int gd, .int ps, .int sm])), (pn, .inl (g.2.1, 61, .inl fnow)), (pb, .inl (g.2.1, 366, .inl fbook)), (pk, .inl (g.2.1, 122, .inl fkept)), (pi, .inl (g.2.2.2.1, 2, .inl fisk)), (pf, .inl (g.2.2.1, 4096, .inr (.inl ffst))), (pl, .inl (g.2.2.1, 4096, .inr (.inl flst))), (pe, .inl (g.2.1, 4096, .inl fbef)), (pm, .inl (g.2.1, 4096, .inl fmov)), (pt, .inl (g.2.1, 61, .inl ftri))] [.ref o, .ref pt, .int a1] none [(o, .inr (9, [.int refu, .ref pn, .ref pt, .ref pr, .ref pw, .ref pb, .int nst, .ref pk, .ref pi, .ref pf, .ref pl, .ref pe, .ref pm, .int r.2.2.2.2.2.2.2.1, .ref px, .int len, .int pos, .int gd, .int ps, .int sm])), (pn, .inl (g.2.1, 61, .inl r.1)), (pb, .inl (g.2.1, 366, .inl r.2.1)), (pk, .inl (g.2.1, 122, .inl r.2.2.1)), (pi, .inl (g.2.2.2.1, 2, .inl fisk)), (pf, .inl (g.2.2.1, 4096, .inr (.inl r.2.2.2.1))), (pl, .inl (g.2.2.1, 4096, .inr (.inl r.2.2.2.2.1))), (pe, .inl (g.2.1, 4096, .inl r.2.2.2.2.2.1)), (pm, .inl (g.2.1, 4096, .inl r.2.2.2.2.2.2.1)), (pt, .inl (g.2.1, 61, .inl r.2.2.2.2.2.2.2.2))] := by
  refine metW_intro (by decide) rfl ?_
  intro p e R s m args below meth c Q A hRf hRl hQ hx hb hml hr hlocks hown hts hin hE hA H locs hP hD hS ls hl
  have hown : s.vm.findClass "HallGuardsModel" = some m.cls := hown
  have hl : lv_has ls 3 [(0, .ref o), (1, .ref pt), (2, .int a1)] := hl
  unfold fX9_noteT at hyp
  refine lv_aload_n hx hb dX9_note_0 rfl (lv_at hl 1 rfl) ?_
  refine lv_bipush (v := 60) hx hb dX9_note_1 (by decide) ?_
  refine lv_iload_n hx hb dX9_note_3 rfl (lv_at hl 2 rfl) ?_
  obtain ⟨hi, hyp⟩ := grd_e hyp
  refine va_iast hx hb hE.1 hP hD hS 9 0 rfl rfl (inB_vp hi) dX9_note_4 (fun H locs hP hD hS => ?_)
  have hP : va_P g.1 vwCl [(o, .inr (9, [.int refu, .ref pn, .ref pt, .ref pr, .ref pw, .ref pb, .int nst, .ref pk, .ref pi, .ref pf, .ref pl, .ref pe, .ref pm, .int nn, .ref px, .int len, .int pos, .int gd, .int ps, .int sm])), (pn, .inl (g.2.1, 61, .inl fnow)), (pb, .inl (g.2.1, 366, .inl fbook)), (pk, .inl (g.2.1, 122, .inl fkept)), (pi, .inl (g.2.2.2.1, 2, .inl fisk)), (pf, .inl (g.2.2.1, 4096, .inr (.inl ffst))), (pl, .inl (g.2.2.1, 4096, .inr (.inl flst))), (pe, .inl (g.2.1, 4096, .inl fbef)), (pm, .inl (g.2.1, 4096, .inl fmov)), (pt, .inl (g.2.1, 61, .inl (upd ftri (60 : Int32).toNatClampNeg a1)))] H := hP
  have hD : va_D A [(o, .inr (9, [.int refu, .ref pn, .ref pt, .ref pr, .ref pw, .ref pb, .int nst, .ref pk, .ref pi, .ref pf, .ref pl, .ref pe, .ref pm, .int nn, .ref px, .int len, .int pos, .int gd, .int ps, .int sm])), (pn, .inl (g.2.1, 61, .inl fnow)), (pb, .inl (g.2.1, 366, .inl fbook)), (pk, .inl (g.2.1, 122, .inl fkept)), (pi, .inl (g.2.2.2.1, 2, .inl fisk)), (pf, .inl (g.2.2.1, 4096, .inr (.inl ffst))), (pl, .inl (g.2.2.1, 4096, .inr (.inl flst))), (pe, .inl (g.2.1, 4096, .inl fbef)), (pm, .inl (g.2.1, 4096, .inl fmov)), (pt, .inl (g.2.1, 61, .inl (upd ftri (60 : Int32).toNatClampNeg a1)))] := hD
  refine lv_aload_n hx hb dX9_note_5 rfl (lv_at hl 0 rfl) ?_
  refine gf_X9_104 hx hb hts hown hE hP 0 rfl rfl dX9_note_6 ?_
  refine lv_sipush (v := 4096) hx hb dX9_note_9 (by decide) ?_
  obtain ⟨J_10, eJ_10, hyp⟩ := jn_e hyp
  have kJ_10 : ∀ (wfnow_1 : Nat → Int32) (wfbook_2 : Nat → Int32) (wfkept_3 : Nat → Int32) (wffst_4 : Nat → Int64) (wflst_5 : Nat → Int64) (wfbef_6 : Nat → Int32) (wfmov_7 : Nat → Int32) (wnn_8 : Int32) (wftri_9 : Nat → Int32) (H : Heap) (locs : List Loc) (ls : Array Slot), J_10 wfnow_1 wfbook_2 wfkept_3 wffst_4 wflst_5 wfbef_6 wfmov_7 wnn_8 wftri_9 = some r → lv_has ls 3 [(0, .ref o), (1, .ref pt)] → va_P g.1 vwCl [(o, .inr (9, [.int refu, .ref pn, .ref pt, .ref pr, .ref pw, .ref pb, .int nst, .ref pk, .ref pi, .ref pf, .ref pl, .ref pe, .ref pm, .int wnn_8, .ref px, .int len, .int pos, .int gd, .int ps, .int sm])), (pn, .inl (g.2.1, 61, .inl wfnow_1)), (pb, .inl (g.2.1, 366, .inl wfbook_2)), (pk, .inl (g.2.1, 122, .inl wfkept_3)), (pi, .inl (g.2.2.2.1, 2, .inl fisk)), (pf, .inl (g.2.2.1, 4096, .inr (.inl wffst_4))), (pl, .inl (g.2.2.1, 4096, .inr (.inl wflst_5))), (pe, .inl (g.2.1, 4096, .inl wfbef_6)), (pm, .inl (g.2.1, 4096, .inl wfmov_7)), (pt, .inl (g.2.1, 61, .inl wftri_9))] H → va_D A [(o, .inr (9, [.int refu, .ref pn, .ref pt, .ref pr, .ref pw, .ref pb, .int nst, .ref pk, .ref pi, .ref pf, .ref pl, .ref pe, .ref pm, .int wnn_8, .ref px, .int len, .int pos, .int gd, .int ps, .int sm])), (pn, .inl (g.2.1, 61, .inl wfnow_1)), (pb, .inl (g.2.1, 366, .inl wfbook_2)), (pk, .inl (g.2.1, 122, .inl wfkept_3)), (pi, .inl (g.2.2.2.1, 2, .inl fisk)), (pf, .inl (g.2.2.1, 4096, .inr (.inl wffst_4))), (pl, .inl (g.2.2.1, 4096, .inr (.inl wflst_5))), (pe, .inl (g.2.1, 4096, .inl wfbef_6)), (pm, .inl (g.2.1, 4096, .inl wfmov_7)), (pt, .inl (g.2.1, 61, .inl wftri_9))] → va_S A s.heap H locs → W p l e R s m args below meth c H locs 0 0 Q (F0 m 20 ls []) := by
    intro wfnow_1 wfbook_2 wfkept_3 wffst_4 wflst_5 wfbef_6 wfmov_7 wnn_8 wftri_9 H locs  ls hyp hl hP hD hS
    replace hyp := (congrFun (congrFun (congrFun (congrFun (congrFun (congrFun (congrFun (congrFun (congrFun (eJ_10) wfnow_1) wfbook_2) wfkept_3) wffst_4) wflst_5) wfbef_6) wfmov_7) wnn_8) wftri_9).symm.trans hyp
    refine lv_aload_n hx hb dX9_note_20 rfl (lv_at hl 0 rfl) ?_
    refine gf_X9_32 hx hb hts hown hE hP 0 rfl rfl dX9_note_21 ?_
    refine lv_aload_n hx hb dX9_note_24 rfl (lv_at hl 0 rfl) ?_
    refine gf_X9_104 hx hb hts hown hE hP 0 rfl rfl dX9_note_25 ?_
    refine lv_aload_n hx hb dX9_note_28 rfl (lv_at hl 1 rfl) ?_
    refine lv_iconst (v := 0) hx hb dX9_note_29 (by decide) ?_
    refine lv_bipush (v := 31) hx hb dX9_note_30 (by decide) ?_
    obtain ⟨r_11, hr_11, hyp⟩ := opt_e hyp
    refine pSJ (As := [.ref pt, .int 0, .int 31]) (rest := [.int wnn_8, .ref pf]) ⟨hx, hb, hml, hown, hts⟩ hE (mX9_code l g pt wftri_9 0 31 r_11 hr_11) cf_X9_code st_X9_code ml_X9_118 ⟨Nat.le_trans (Nat.le_of_ble_eq_true rfl) hRf, Nat.le_trans (Nat.le_of_ble_eq_true rfl) hRl⟩ (hP.sub (ws' := [(pt, .inl (g.2.1, 61, .inl wftri_9))]) [9] rfl) rfl hl.1 rfl (Nat.le_of_ble_eq_true rfl) dX9_note_32 ⟨Nat.zero_le _, Nat.zero_le _⟩ ?_
    obtain ⟨hi, hyp⟩ := grd_e hyp
    refine va_last hx hb hE.1 hP hD hS 5 1 rfl rfl (inB_vp hi) dX9_note_35 (fun H locs hP hD hS => ?_)
    have hP : va_P g.1 vwCl [(o, .inr (9, [.int refu, .ref pn, .ref pt, .ref pr, .ref pw, .ref pb, .int nst, .ref pk, .ref pi, .ref pf, .ref pl, .ref pe, .ref pm, .int wnn_8, .ref px, .int len, .int pos, .int gd, .int ps, .int sm])), (pn, .inl (g.2.1, 61, .inl wfnow_1)), (pb, .inl (g.2.1, 366, .inl wfbook_2)), (pk, .inl (g.2.1, 122, .inl wfkept_3)), (pi, .inl (g.2.2.2.1, 2, .inl fisk)), (pf, .inl (g.2.2.1, 4096, .inr (.inl (vp_updL wffst_4 wnn_8.toNatClampNeg r_11)))), (pl, .inl (g.2.2.1, 4096, .inr (.inl wflst_5))), (pe, .inl (g.2.1, 4096, .inl wfbef_6)), (pm, .inl (g.2.1, 4096, .inl wfmov_7)), (pt, .inl (g.2.1, 61, .inl wftri_9))] H := hP
    have hD : va_D A [(o, .inr (9, [.int refu, .ref pn, .ref pt, .ref pr, .ref pw, .ref pb, .int nst, .ref pk, .ref pi, .ref pf, .ref pl, .ref pe, .ref pm, .int wnn_8, .ref px, .int len, .int pos, .int gd, .int ps, .int sm])), (pn, .inl (g.2.1, 61, .inl wfnow_1)), (pb, .inl (g.2.1, 366, .inl wfbook_2)), (pk, .inl (g.2.1, 122, .inl wfkept_3)), (pi, .inl (g.2.2.2.1, 2, .inl fisk)), (pf, .inl (g.2.2.1, 4096, .inr (.inl (vp_updL wffst_4 wnn_8.toNatClampNeg r_11)))), (pl, .inl (g.2.2.1, 4096, .inr (.inl wflst_5))), (pe, .inl (g.2.1, 4096, .inl wfbef_6)), (pm, .inl (g.2.1, 4096, .inl wfmov_7)), (pt, .inl (g.2.1, 61, .inl wftri_9))] := hD
    refine lv_aload_n hx hb dX9_note_36 rfl (lv_at hl 0 rfl) ?_
    refine gf_X9_36 hx hb hts hown hE hP 0 rfl rfl dX9_note_37 ?_
    refine lv_aload_n hx hb dX9_note_40 rfl (lv_at hl 0 rfl) ?_
    refine gf_X9_104 hx hb hts hown hE hP 0 rfl rfl dX9_note_41 ?_
    refine lv_aload_n hx hb dX9_note_44 rfl (lv_at hl 1 rfl) ?_
    refine lv_bipush (v := 31) hx hb dX9_note_45 (by decide) ?_
    refine lv_bipush (v := 49) hx hb dX9_note_47 (by decide) ?_
    obtain ⟨r_12, hr_12, hyp⟩ := opt_e hyp
    refine pSJ (As := [.ref pt, .int 31, .int 49]) (rest := [.int wnn_8, .ref pl]) ⟨hx, hb, hml, hown, hts⟩ hE (mX9_code l g pt wftri_9 31 49 r_12 hr_12) cf_X9_code st_X9_code ml_X9_118 ⟨Nat.le_trans (Nat.le_of_ble_eq_true rfl) hRf, Nat.le_trans (Nat.le_of_ble_eq_true rfl) hRl⟩ (hP.sub (ws' := [(pt, .inl (g.2.1, 61, .inl wftri_9))]) [9] rfl) rfl hl.1 rfl (Nat.le_of_ble_eq_true rfl) dX9_note_49 ⟨Nat.zero_le _, Nat.zero_le _⟩ ?_
    refine lv_iconst (v := 1) hx hb dX9_note_52 (by decide) ?_
    refine lv_lshl hx hb dX9_note_53 rfl ?_
    refine lv_aload_n hx hb dX9_note_54 rfl (lv_at hl 1 rfl) ?_
    refine lv_bipush (v := 49) hx hb dX9_note_55 (by decide) ?_
    obtain ⟨hi, hyp⟩ := grd_e hyp
    refine va_iald hx hb hE.1 hP 9 0 rfl rfl (inB_vp hi) dX9_note_57 ?_
    refine lv_i2l hx hb dX9_note_58 rfl ?_
    refine lv_lor hx hb dX9_note_59 ?_
    obtain ⟨hi, hyp⟩ := grd_e hyp
    refine va_last hx hb hE.1 hP hD hS 6 1 rfl rfl (inB_vp hi) dX9_note_60 (fun H locs hP hD hS => ?_)
    have hP : va_P g.1 vwCl [(o, .inr (9, [.int refu, .ref pn, .ref pt, .ref pr, .ref pw, .ref pb, .int nst, .ref pk, .ref pi, .ref pf, .ref pl, .ref pe, .ref pm, .int wnn_8, .ref px, .int len, .int pos, .int gd, .int ps, .int sm])), (pn, .inl (g.2.1, 61, .inl wfnow_1)), (pb, .inl (g.2.1, 366, .inl wfbook_2)), (pk, .inl (g.2.1, 122, .inl wfkept_3)), (pi, .inl (g.2.2.2.1, 2, .inl fisk)), (pf, .inl (g.2.2.1, 4096, .inr (.inl (vp_updL wffst_4 wnn_8.toNatClampNeg r_11)))), (pl, .inl (g.2.2.1, 4096, .inr (.inl (vp_updL wflst_5 wnn_8.toNatClampNeg ((r_12 <<< ((1 : Int32).toInt64 &&& 63)) ||| ((wftri_9 (49 : Int32).toNatClampNeg).toInt64)))))), (pe, .inl (g.2.1, 4096, .inl wfbef_6)), (pm, .inl (g.2.1, 4096, .inl wfmov_7)), (pt, .inl (g.2.1, 61, .inl wftri_9))] H := hP
    have hD : va_D A [(o, .inr (9, [.int refu, .ref pn, .ref pt, .ref pr, .ref pw, .ref pb, .int nst, .ref pk, .ref pi, .ref pf, .ref pl, .ref pe, .ref pm, .int wnn_8, .ref px, .int len, .int pos, .int gd, .int ps, .int sm])), (pn, .inl (g.2.1, 61, .inl wfnow_1)), (pb, .inl (g.2.1, 366, .inl wfbook_2)), (pk, .inl (g.2.1, 122, .inl wfkept_3)), (pi, .inl (g.2.2.2.1, 2, .inl fisk)), (pf, .inl (g.2.2.1, 4096, .inr (.inl (vp_updL wffst_4 wnn_8.toNatClampNeg r_11)))), (pl, .inl (g.2.2.1, 4096, .inr (.inl (vp_updL wflst_5 wnn_8.toNatClampNeg ((r_12 <<< ((1 : Int32).toInt64 &&& 63)) ||| ((wftri_9 (49 : Int32).toNatClampNeg).toInt64)))))), (pe, .inl (g.2.1, 4096, .inl wfbef_6)), (pm, .inl (g.2.1, 4096, .inl wfmov_7)), (pt, .inl (g.2.1, 61, .inl wftri_9))] := hD
    refine lv_aload_n hx hb dX9_note_61 rfl (lv_at hl 0 rfl) ?_
    refine gf_X9_39 hx hb hts hown hE hP 0 rfl rfl dX9_note_62 ?_
    refine lv_aload_n hx hb dX9_note_65 rfl (lv_at hl 0 rfl) ?_
    refine gf_X9_104 hx hb hts hown hE hP 0 rfl rfl dX9_note_66 ?_
    refine lv_aload_n hx hb dX9_note_69 rfl (lv_at hl 1 rfl) ?_
    refine lv_bipush (v := 60) hx hb dX9_note_70 (by decide) ?_
    obtain ⟨hi, hyp⟩ := grd_e hyp
    refine va_iald hx hb hE.1 hP 9 0 rfl rfl (inB_vp hi) dX9_note_72 ?_
    obtain ⟨hi, hyp⟩ := grd_e hyp
    refine va_iast hx hb hE.1 hP hD hS 7 0 rfl rfl (inB_vp hi) dX9_note_73 (fun H locs hP hD hS => ?_)
    have hP : va_P g.1 vwCl [(o, .inr (9, [.int refu, .ref pn, .ref pt, .ref pr, .ref pw, .ref pb, .int nst, .ref pk, .ref pi, .ref pf, .ref pl, .ref pe, .ref pm, .int wnn_8, .ref px, .int len, .int pos, .int gd, .int ps, .int sm])), (pn, .inl (g.2.1, 61, .inl wfnow_1)), (pb, .inl (g.2.1, 366, .inl wfbook_2)), (pk, .inl (g.2.1, 122, .inl wfkept_3)), (pi, .inl (g.2.2.2.1, 2, .inl fisk)), (pf, .inl (g.2.2.1, 4096, .inr (.inl (vp_updL wffst_4 wnn_8.toNatClampNeg r_11)))), (pl, .inl (g.2.2.1, 4096, .inr (.inl (vp_updL wflst_5 wnn_8.toNatClampNeg ((r_12 <<< ((1 : Int32).toInt64 &&& 63)) ||| ((wftri_9 (49 : Int32).toNatClampNeg).toInt64)))))), (pe, .inl (g.2.1, 4096, .inl (upd wfbef_6 wnn_8.toNatClampNeg (wftri_9 (60 : Int32).toNatClampNeg)))), (pm, .inl (g.2.1, 4096, .inl wfmov_7)), (pt, .inl (g.2.1, 61, .inl wftri_9))] H := hP
    have hD : va_D A [(o, .inr (9, [.int refu, .ref pn, .ref pt, .ref pr, .ref pw, .ref pb, .int nst, .ref pk, .ref pi, .ref pf, .ref pl, .ref pe, .ref pm, .int wnn_8, .ref px, .int len, .int pos, .int gd, .int ps, .int sm])), (pn, .inl (g.2.1, 61, .inl wfnow_1)), (pb, .inl (g.2.1, 366, .inl wfbook_2)), (pk, .inl (g.2.1, 122, .inl wfkept_3)), (pi, .inl (g.2.2.2.1, 2, .inl fisk)), (pf, .inl (g.2.2.1, 4096, .inr (.inl (vp_updL wffst_4 wnn_8.toNatClampNeg r_11)))), (pl, .inl (g.2.2.1, 4096, .inr (.inl (vp_updL wflst_5 wnn_8.toNatClampNeg ((r_12 <<< ((1 : Int32).toInt64 &&& 63)) ||| ((wftri_9 (49 : Int32).toNatClampNeg).toInt64)))))), (pe, .inl (g.2.1, 4096, .inl (upd wfbef_6 wnn_8.toNatClampNeg (wftri_9 (60 : Int32).toNatClampNeg)))), (pm, .inl (g.2.1, 4096, .inl wfmov_7)), (pt, .inl (g.2.1, 61, .inl wftri_9))] := hD
    refine lv_aload_n hx hb dX9_note_74 rfl (lv_at hl 1 rfl) ?_
    refine lv_bipush (v := 60) hx hb dX9_note_75 (by decide) ?_
    refine lv_aload_n hx hb dX9_note_77 rfl (lv_at hl 0 rfl) ?_
    refine gf_X9_104 hx hb hts hown hE hP 0 rfl rfl dX9_note_78 ?_
    obtain ⟨hi, hyp⟩ := grd_e hyp
    refine va_iast hx hb hE.1 hP hD hS 9 0 rfl rfl (inB_vp hi) dX9_note_81 (fun H locs hP hD hS => ?_)
    have hP : va_P g.1 vwCl [(o, .inr (9, [.int refu, .ref pn, .ref pt, .ref pr, .ref pw, .ref pb, .int nst, .ref pk, .ref pi, .ref pf, .ref pl, .ref pe, .ref pm, .int wnn_8, .ref px, .int len, .int pos, .int gd, .int ps, .int sm])), (pn, .inl (g.2.1, 61, .inl wfnow_1)), (pb, .inl (g.2.1, 366, .inl wfbook_2)), (pk, .inl (g.2.1, 122, .inl wfkept_3)), (pi, .inl (g.2.2.2.1, 2, .inl fisk)), (pf, .inl (g.2.2.1, 4096, .inr (.inl (vp_updL wffst_4 wnn_8.toNatClampNeg r_11)))), (pl, .inl (g.2.2.1, 4096, .inr (.inl (vp_updL wflst_5 wnn_8.toNatClampNeg ((r_12 <<< ((1 : Int32).toInt64 &&& 63)) ||| ((wftri_9 (49 : Int32).toNatClampNeg).toInt64)))))), (pe, .inl (g.2.1, 4096, .inl (upd wfbef_6 wnn_8.toNatClampNeg (wftri_9 (60 : Int32).toNatClampNeg)))), (pm, .inl (g.2.1, 4096, .inl wfmov_7)), (pt, .inl (g.2.1, 61, .inl (upd wftri_9 (60 : Int32).toNatClampNeg wnn_8)))] H := hP
    have hD : va_D A [(o, .inr (9, [.int refu, .ref pn, .ref pt, .ref pr, .ref pw, .ref pb, .int nst, .ref pk, .ref pi, .ref pf, .ref pl, .ref pe, .ref pm, .int wnn_8, .ref px, .int len, .int pos, .int gd, .int ps, .int sm])), (pn, .inl (g.2.1, 61, .inl wfnow_1)), (pb, .inl (g.2.1, 366, .inl wfbook_2)), (pk, .inl (g.2.1, 122, .inl wfkept_3)), (pi, .inl (g.2.2.2.1, 2, .inl fisk)), (pf, .inl (g.2.2.1, 4096, .inr (.inl (vp_updL wffst_4 wnn_8.toNatClampNeg r_11)))), (pl, .inl (g.2.2.1, 4096, .inr (.inl (vp_updL wflst_5 wnn_8.toNatClampNeg ((r_12 <<< ((1 : Int32).toInt64 &&& 63)) ||| ((wftri_9 (49 : Int32).toNatClampNeg).toInt64)))))), (pe, .inl (g.2.1, 4096, .inl (upd wfbef_6 wnn_8.toNatClampNeg (wftri_9 (60 : Int32).toNatClampNeg)))), (pm, .inl (g.2.1, 4096, .inl wfmov_7)), (pt, .inl (g.2.1, 61, .inl (upd wftri_9 (60 : Int32).toNatClampNeg wnn_8)))] := hD
    refine lv_aload_n hx hb dX9_note_82 rfl (lv_at hl 0 rfl) ?_
    refine lv_dup hx hb dX9_note_83 rfl ?_
    refine gf_X9_104 hx hb hts hown hE hP 0 rfl rfl dX9_note_84 ?_
    refine lv_iconst (v := 1) hx hb dX9_note_87 (by decide) ?_
    refine lv_iadd hx hb dX9_note_88 ?_
    refine pf_X9_104 hx hb hts hown hE hP hD hS 0 rfl rfl dX9_note_89 (fun H locs hP hD hS => ?_)
    have hP : va_P g.1 vwCl [(o, .inr (9, [.int refu, .ref pn, .ref pt, .ref pr, .ref pw, .ref pb, .int nst, .ref pk, .ref pi, .ref pf, .ref pl, .ref pe, .ref pm, .int (wnn_8 + 1), .ref px, .int len, .int pos, .int gd, .int ps, .int sm])), (pn, .inl (g.2.1, 61, .inl wfnow_1)), (pb, .inl (g.2.1, 366, .inl wfbook_2)), (pk, .inl (g.2.1, 122, .inl wfkept_3)), (pi, .inl (g.2.2.2.1, 2, .inl fisk)), (pf, .inl (g.2.2.1, 4096, .inr (.inl (vp_updL wffst_4 wnn_8.toNatClampNeg r_11)))), (pl, .inl (g.2.2.1, 4096, .inr (.inl (vp_updL wflst_5 wnn_8.toNatClampNeg ((r_12 <<< ((1 : Int32).toInt64 &&& 63)) ||| ((wftri_9 (49 : Int32).toNatClampNeg).toInt64)))))), (pe, .inl (g.2.1, 4096, .inl (upd wfbef_6 wnn_8.toNatClampNeg (wftri_9 (60 : Int32).toNatClampNeg)))), (pm, .inl (g.2.1, 4096, .inl wfmov_7)), (pt, .inl (g.2.1, 61, .inl (upd wftri_9 (60 : Int32).toNatClampNeg wnn_8)))] H := hP
    have hD : va_D A [(o, .inr (9, [.int refu, .ref pn, .ref pt, .ref pr, .ref pw, .ref pb, .int nst, .ref pk, .ref pi, .ref pf, .ref pl, .ref pe, .ref pm, .int (wnn_8 + 1), .ref px, .int len, .int pos, .int gd, .int ps, .int sm])), (pn, .inl (g.2.1, 61, .inl wfnow_1)), (pb, .inl (g.2.1, 366, .inl wfbook_2)), (pk, .inl (g.2.1, 122, .inl wfkept_3)), (pi, .inl (g.2.2.2.1, 2, .inl fisk)), (pf, .inl (g.2.2.1, 4096, .inr (.inl (vp_updL wffst_4 wnn_8.toNatClampNeg r_11)))), (pl, .inl (g.2.2.1, 4096, .inr (.inl (vp_updL wflst_5 wnn_8.toNatClampNeg ((r_12 <<< ((1 : Int32).toInt64 &&& 63)) ||| ((wftri_9 (49 : Int32).toNatClampNeg).toInt64)))))), (pe, .inl (g.2.1, 4096, .inl (upd wfbef_6 wnn_8.toNatClampNeg (wftri_9 (60 : Int32).toNatClampNeg)))), (pm, .inl (g.2.1, 4096, .inl wfmov_7)), (pt, .inl (g.2.1, 61, .inl (upd wftri_9 (60 : Int32).toNatClampNeg wnn_8)))] := hD
    have hyp := some_e hyp
    subst hyp
    subst hQ
    exact rwV hx hb hr hlocks  hP hD hS dX9_note_92
  refine lv_icmp_ne (tgt := 20) hx hb dX9_note_12 (by decide) (fun h_13 => ?_) (fun h_13 => ?_)
  · replace hyp := ite_f h_13 hyp
    exact kJ_10 fnow fbook fkept ffst flst fbef fmov nn (upd ftri (60 : Int32).toNatClampNeg a1) H locs ls hyp (lv_sub hl [0, 1] rfl) hP hD hS
  · replace hyp := ite_t h_13 hyp
    refine lv_aload_n hx hb dX9_note_15 rfl (lv_at hl 0 rfl) ?_
    refine lv_aload_n hx hb dX9_note_16 rfl (lv_at hl 1 rfl) ?_
    obtain ⟨r_14, hr_14, hyp⟩ := opt_e hyp
    refine wV (As := [.ref pt]) (rest := []) ⟨hx, hb, hml, hown, hts⟩ hE (mX9_tidyT l g o pn pb pk pi pf pl pe pm pt pr pw px refu nst nn len pos gd ps sm fnow fbook fkept fisk ffst flst fbef fmov (upd ftri (60 : Int32).toNatClampNeg a1) r_14 hr_14) cf_X9_tidy im_X9_tidy se_X9_tidy ml_X9_114 ⟨Nat.le_trans (Nat.le_of_ble_eq_true rfl) hRf, Nat.le_trans (Nat.le_of_ble_eq_true rfl) hRl⟩ hP hD hS hA [0, 1, 2, 3, 4, 5, 6, 7, 8, 9] [] rfl (wr := []) rfl ⟨by decide, by decide⟩ (by decide) (ci := 9) (q0 := 0) rfl rfl rfl rfl hl.1 rfl (Nat.le_of_ble_eq_true rfl) dX9_note_17 ⟨Nat.zero_le _, Nat.zero_le _⟩ (fun H locs hP hD hS => ?_)
    have hP : va_P g.1 vwCl [(o, .inr (9, [.int refu, .ref pn, .ref pt, .ref pr, .ref pw, .ref pb, .int nst, .ref pk, .ref pi, .ref pf, .ref pl, .ref pe, .ref pm, .int r_14.2.2.2.2.2.2.2.1, .ref px, .int len, .int pos, .int gd, .int ps, .int sm])), (pn, .inl (g.2.1, 61, .inl r_14.1)), (pb, .inl (g.2.1, 366, .inl r_14.2.1)), (pk, .inl (g.2.1, 122, .inl r_14.2.2.1)), (pi, .inl (g.2.2.2.1, 2, .inl fisk)), (pf, .inl (g.2.2.1, 4096, .inr (.inl r_14.2.2.2.1))), (pl, .inl (g.2.2.1, 4096, .inr (.inl r_14.2.2.2.2.1))), (pe, .inl (g.2.1, 4096, .inl r_14.2.2.2.2.2.1)), (pm, .inl (g.2.1, 4096, .inl r_14.2.2.2.2.2.2.1)), (pt, .inl (g.2.1, 61, .inl r_14.2.2.2.2.2.2.2.2))] H := hP
    have hD : va_D A [(o, .inr (9, [.int refu, .ref pn, .ref pt, .ref pr, .ref pw, .ref pb, .int nst, .ref pk, .ref pi, .ref pf, .ref pl, .ref pe, .ref pm, .int r_14.2.2.2.2.2.2.2.1, .ref px, .int len, .int pos, .int gd, .int ps, .int sm])), (pn, .inl (g.2.1, 61, .inl r_14.1)), (pb, .inl (g.2.1, 366, .inl r_14.2.1)), (pk, .inl (g.2.1, 122, .inl r_14.2.2.1)), (pi, .inl (g.2.2.2.1, 2, .inl fisk)), (pf, .inl (g.2.2.1, 4096, .inr (.inl r_14.2.2.2.1))), (pl, .inl (g.2.2.1, 4096, .inr (.inl r_14.2.2.2.2.1))), (pe, .inl (g.2.1, 4096, .inl r_14.2.2.2.2.2.1)), (pm, .inl (g.2.1, 4096, .inl r_14.2.2.2.2.2.2.1)), (pt, .inl (g.2.1, 61, .inl r_14.2.2.2.2.2.2.2.2))] := hD
    exact kJ_10 r_14.1 r_14.2.1 r_14.2.2.1 r_14.2.2.2.1 r_14.2.2.2.2.1 r_14.2.2.2.2.2.1 r_14.2.2.2.2.2.2.1 r_14.2.2.2.2.2.2.2.1 r_14.2.2.2.2.2.2.2.2 H locs ls hyp (lv_sub hl [0, 1] rfl) hP hD hS

def fX9_seen_L10_B (ffst : Nat → Int64) (flst : Nat → Int64) (fbef : Nat → Int32) (v3_1 : Int32) (self_4 : Int32 → Int32 → Option Int32) (v2_2 : Int32) (v4_3 : Int32) : Option Int32 :=
  if v4_3 = (-1) then (some v2_2) else (grd (inB v4_3 4096) (grd (inB v3_1 4096) (jn (fun (t_6 : Int32) => grd (inB v4_3 4096) (bnd (fbef v4_3.toNatClampNeg) (fun (v4_8 : Int32) => self_4 (v2_2 + t_6) v4_8))) (fun J_7 => jn (J_7 0) (fun J_9 => if (lg_cmp (ffst v4_3.toNatClampNeg) (ffst v3_1.toNatClampNeg)) = 0 then (grd (inB v4_3 4096) (grd (inB v3_1 4096) (if (lg_cmp (flst v4_3.toNatClampNeg) (flst v3_1.toNatClampNeg)) = 0 then (J_7 1) else (J_9)))) else (J_9))))))
def fX9_seen_L10 (ffst : Nat → Int64) (flst : Nat → Int64) (fbef : Nat → Int32) (v3_1 : Int32) (n : Nat) (v2_2 : Int32) (v4_3 : Int32) : Option Int32 := lp (fun zf z => fX9_seen_L10_B ffst flst fbef v3_1 (fun v2_2 v4_3 => zf (v2_2, v4_3)) z.1 z.2) n (v2_2, v4_3)
def fX9_seen (ffst : Nat → Int64) (flst : Nat → Int64) (fbef : Nat → Int32) (row : Nat → Int32) : Option Int32 :=
  grd (inB 60 61) (bnd (row (60 : Int32).toNatClampNeg) (fun (v3_1 : Int32) => fX9_seen_L10 ffst flst fbef v3_1 4100 0 v3_1))
set_option maxRecDepth 100000 in
set_option maxHeartbeats 4000000 in
theorem mX9_seen (l : Launch) (g : GE) (o pf pl pe ra pn pt pr pw pb pk pi pm px : Nat) (refu : Int32) (nst : Int32) (nn : Int32) (len : Int32) (pos : Int32) (gd : Int32) (ps : Int32) (sm : Int32) (ffst : Nat → Int64) (flst : Nat → Int64) (fbef : Nat → Int32) (row : Nat → Int32) (r : Int32) (hyp : fX9_seen ffst flst fbef row = some r) : PI l yX9_seen cX9_seen 5 (some .int) 0 0 g [(o, .inr (9, [.int refu, .ref pn, .ref pt, .ref pr, .ref pw, .ref pb, .int nst, .ref pk, .ref pi, .ref pf, .ref pl, .ref pe, .ref pm, .int nn, .ref px, .int len, .int pos, .int gd, .int ps, .int sm])), (pf, .inl (g.2.2.1, 4096, .inr (.inl ffst))), (pl, .inl (g.2.2.1, 4096, .inr (.inl flst))), (pe, .inl (g.2.1, 4096, .inl fbef)), (ra, .inl (g.2.1, 61, .inl row))] [.ref o, .ref ra] r := by
  refine metP_intro (by decide) rfl ?_
  intro p e R s m args below meth c Q hRf hRl hQ hx hb hml hr hlocks hown hts hin hE hP ls hl
  have hown : s.vm.findClass "HallGuardsModel" = some m.cls := hown
  have hl : lv_has ls 5 [(0, .ref o), (1, .ref ra)] := hl
  unfold fX9_seen at hyp
  refine lv_iconst (v := 0) hx hb dX9_seen_0 (by decide) ?_
  refine lv_istore_n (lv' := [(2, .int 0), (0, .ref o), (1, .ref ra)]) hx hb dX9_seen_1 rfl hl (by decide) rfl (fun ls hl => ?_)
  refine lv_aload_n hx hb dX9_seen_2 rfl (lv_at hl 2 rfl) ?_
  refine lv_bipush (v := 60) hx hb dX9_seen_3 (by decide) ?_
  obtain ⟨hi, hyp⟩ := grd_e hyp
  refine va_iald hx hb hE.1 hP 4 0 rfl rfl (inB_vp hi) dX9_seen_5 ?_
  obtain ⟨v3_1, ev3_1, hyp⟩ := bnd_e hyp
  refine lv_eqi ev3_1 ?_
  refine lv_istore_n (lv' := [(3, .int v3_1), (2, .int 0), (0, .ref o), (1, .ref ra)]) hx hb dX9_seen_6 rfl hl (by decide) rfl (fun ls hl => ?_)
  refine lv_iload_n hx hb dX9_seen_7 rfl (lv_at hl 0 rfl) ?_
  refine lv_istore (lv' := [(4, .int v3_1), (3, .int v3_1), (2, .int 0), (0, .ref o), (1, .ref ra)]) hx hb dX9_seen_8 hl (by decide) rfl (fun ls hl => ?_)
  refine lp_i (r := r) (fun z : Int32 × Int32 => ∀ (ls : Array Slot), lv_has ls 5 [(0, .ref o), (2, .int z.1), (3, .int v3_1), (4, .int z.2)] → W p l e R s m args below meth c s.heap [] 0 0 Q (F0 m 10 ls [])) ?_ 4100 (0, v3_1) hyp ls (lv_sub hl [3, 2, 1, 0] rfl)
  intro self_4T ihself_4T z hyp ls hl
  obtain ⟨v2_2, v4_3⟩ := z
  obtain ⟨self_4, eself_4⟩ : ∃ f9 : Int32 → Int32 → Option Int32, f9 = fun v2_2 v4_3 => self_4T (v2_2, v4_3) := ⟨_, rfl⟩
  have ihself_4 := fun (v2_2 : Int32) (v4_3 : Int32) (h9 : self_4 v2_2 v4_3 = some r) => ihself_4T (v2_2, v4_3) (by rw [eself_4] at h9; exact h9)
  replace hyp : fX9_seen_L10_B ffst flst fbef v3_1 self_4 v2_2 v4_3 = some r := by rw [eself_4]; exact hyp
  have hl : lv_has ls 5 [(0, .ref o), (2, .int v2_2), (3, .int v3_1), (4, .int v4_3)] := hl
  show W p l e R s m args below meth c s.heap [] 0 0 Q (F0 m 10 ls [])
  unfold fX9_seen_L10_B at hyp
  refine lv_iload hx hb dX9_seen_10 (lv_at hl 3 rfl) ?_
  refine lv_iconst (v := (-1)) hx hb dX9_seen_12 (by decide) ?_
  refine lv_icmp_eq (tgt := 70) hx hb dX9_seen_13 (by decide) (fun h_5 => ?_) (fun h_5 => ?_)
  · replace hyp := ite_t h_5 hyp
    refine lv_iload_n hx hb dX9_seen_70 rfl (lv_at hl 1 rfl) ?_
    subst hQ
    exact rI hx hb hr hlocks (some_e hyp) dX9_seen_71
  · replace hyp := ite_f h_5 hyp
    refine lv_iload_n hx hb dX9_seen_16 rfl (lv_at hl 1 rfl) ?_
    refine lv_aload_n hx hb dX9_seen_17 rfl (lv_at hl 0 rfl) ?_
    refine gf_X9_32 hx hb hts hown hE hP 0 rfl rfl dX9_seen_18 ?_
    refine lv_iload hx hb dX9_seen_21 (lv_at hl 3 rfl) ?_
    obtain ⟨hi, hyp⟩ := grd_e hyp
    refine va_lald hx hb hE.1 hP 1 1 rfl rfl (inB_vp hi) dX9_seen_23 ?_
    refine lv_aload_n hx hb dX9_seen_24 rfl (lv_at hl 0 rfl) ?_
    refine gf_X9_32 hx hb hts hown hE hP 0 rfl rfl dX9_seen_25 ?_
    refine lv_iload_n hx hb dX9_seen_28 rfl (lv_at hl 2 rfl) ?_
    obtain ⟨hi, hyp⟩ := grd_e hyp
    refine va_lald hx hb hE.1 hP 1 1 rfl rfl (inB_vp hi) dX9_seen_29 ?_
    refine W.lcmp hx hb dX9_seen_30 ?_
    obtain ⟨J_7, eJ_7, hyp⟩ := jn_e hyp
    have kJ_7 : ∀ (t_6 : Int32) (ls : Array Slot), J_7 t_6 = some r → lv_has ls 5 [(0, .ref o), (3, .int v3_1), (4, .int v4_3)] → W p l e R s m args below meth c s.heap [] 0 0 Q (F0 m 56 ls [.int t_6, .int v2_2]) := by
      intro t_6  ls hyp hl
      replace hyp := (congrFun (eJ_7) t_6).symm.trans hyp
      refine lv_iadd hx hb dX9_seen_56 ?_
      refine lv_istore_n (lv' := [(2, .int (v2_2 + t_6)), (0, .ref o), (3, .int v3_1), (4, .int v4_3)]) hx hb dX9_seen_57 rfl hl (by decide) rfl (fun ls hl => ?_)
      refine lv_aload_n hx hb dX9_seen_58 rfl (lv_at hl 1 rfl) ?_
      refine gf_X9_39 hx hb hts hown hE hP 0 rfl rfl dX9_seen_59 ?_
      refine lv_iload hx hb dX9_seen_62 (lv_at hl 3 rfl) ?_
      obtain ⟨hi, hyp⟩ := grd_e hyp
      refine va_iald hx hb hE.1 hP 3 0 rfl rfl (inB_vp hi) dX9_seen_64 ?_
      obtain ⟨v4_8, ev4_8, hyp⟩ := bnd_e hyp
      refine lv_eqi ev4_8 ?_
      refine lv_istore (lv' := [(4, .int v4_8), (2, .int (v2_2 + t_6)), (0, .ref o), (3, .int v3_1)]) hx hb dX9_seen_65 hl (by decide) rfl (fun ls hl => ?_)
      refine lv_goto (tgt := 10) hx hb dX9_seen_67 (by decide) ?_
      exact ihself_4 (v2_2 + t_6) v4_8 hyp ls (lv_sub hl [2, 1, 3, 0] rfl)
    obtain ⟨J_9, eJ_9, hyp⟩ := jn_e hyp
    have kJ_9 : ∀ (ls : Array Slot), J_9 = some r → lv_has ls 5 [(0, .ref o), (3, .int v3_1), (4, .int v4_3)] → W p l e R s m args below meth c s.heap [] 0 0 Q (F0 m 55 ls [.int v2_2]) := by
      intro  ls hyp hl
      replace hyp := (eJ_9).symm.trans hyp
      refine lv_iconst (v := 0) hx hb dX9_seen_55 (by decide) ?_
      exact kJ_7 0 ls hyp hl
    refine lv_if_ne (tgt := 55) hx hb dX9_seen_31 (by decide) (fun h_10 => ?_) (fun h_10 => ?_)
    · replace hyp := ite_f h_10 hyp
      exact kJ_9 ls hyp (lv_sub hl [0, 2, 3] rfl)
    · replace hyp := ite_t h_10 hyp
      refine lv_aload_n hx hb dX9_seen_34 rfl (lv_at hl 0 rfl) ?_
      refine gf_X9_36 hx hb hts hown hE hP 0 rfl rfl dX9_seen_35 ?_
      refine lv_iload hx hb dX9_seen_38 (lv_at hl 3 rfl) ?_
      obtain ⟨hi, hyp⟩ := grd_e hyp
      refine va_lald hx hb hE.1 hP 2 1 rfl rfl (inB_vp hi) dX9_seen_40 ?_
      refine lv_aload_n hx hb dX9_seen_41 rfl (lv_at hl 0 rfl) ?_
      refine gf_X9_36 hx hb hts hown hE hP 0 rfl rfl dX9_seen_42 ?_
      refine lv_iload_n hx hb dX9_seen_45 rfl (lv_at hl 2 rfl) ?_
      obtain ⟨hi, hyp⟩ := grd_e hyp
      refine va_lald hx hb hE.1 hP 2 1 rfl rfl (inB_vp hi) dX9_seen_46 ?_
      refine W.lcmp hx hb dX9_seen_47 ?_
      refine lv_if_ne (tgt := 55) hx hb dX9_seen_48 (by decide) (fun h_11 => ?_) (fun h_11 => ?_)
      · replace hyp := ite_f h_11 hyp
        exact kJ_9 ls hyp (lv_sub hl [0, 2, 3] rfl)
      · replace hyp := ite_t h_11 hyp
        refine lv_iconst (v := 1) hx hb dX9_seen_51 (by decide) ?_
        refine lv_goto (tgt := 56) hx hb dX9_seen_52 (by decide) ?_
        exact kJ_7 1 ls hyp (lv_sub hl [0, 2, 3] rfl)

def fX9_goStart (nst : Int32) (nn : Int32) (fnow : Nat → Int32) (fbook : Nat → Int32) (fkept : Nat → Int32) (fisk : Nat → Int32) (ffst : Nat → Int64) (flst : Nat → Int64) (fbef : Nat → Int32) (fmov : Nat → Int32) (a1 : Int32) : Option (Int32 × (Nat → Int32) × (Nat → Int32) × (Nat → Int32) × (Nat → Int64) × (Nat → Int64) × (Nat → Int32) × (Nat → Int32) × Int32) :=
  grd (inB 49 61) (grd (inB 50 61) (grd (inB 51 61) (grd (inB 53 61) ((fX9_noteN nst nn (upd (upd (upd (upd fnow (49 : Int32).toNatClampNeg a1) (50 : Int32).toNatClampNeg 1) (51 : Int32).toNatClampNeg 1) (53 : Int32).toNatClampNeg 0) fbook fkept fisk ffst flst fbef fmov (-1)).bind (fun (r_1 : (Nat → Int32) × (Nat → Int32) × (Nat → Int32) × (Nat → Int64) × (Nat → Int64) × (Nat → Int32) × (Nat → Int32) × Int32) => (fX9_moveCount r_1.1 a1).bind (fun (r_2 : Int32) => some (r_2, r_1.1, r_1.2.1, r_1.2.2.1, r_1.2.2.2.1, r_1.2.2.2.2.1, r_1.2.2.2.2.2.1, r_1.2.2.2.2.2.2.1, r_1.2.2.2.2.2.2.2)))))))
set_option maxRecDepth 100000 in
set_option maxHeartbeats 4000000 in
theorem mX9_goStart (l : Launch) (g : GE) (o pn pb pk pi pf pl pe pm pt pr pw px : Nat) (refu : Int32) (nst : Int32) (nn : Int32) (len : Int32) (pos : Int32) (gd : Int32) (ps : Int32) (sm : Int32) (fnow : Nat → Int32) (fbook : Nat → Int32) (fkept : Nat → Int32) (fisk : Nat → Int32) (ffst : Nat → Int64) (flst : Nat → Int64) (fbef : Nat → Int32) (fmov : Nat → Int32) (a1 : Int32) (r : Int32 × (Nat → Int32) × (Nat → Int32) × (Nat → Int32) × (Nat → Int64) × (Nat → Int64) × (Nat → Int32) × (Nat → Int32) × Int32) (hyp : fX9_goStart nst nn fnow fbook fkept fisk ffst flst fbef fmov a1 = some r) : WM l yX9_goStart cX9_goStart 3 (some .int) 5 116 g [(o, .inr (9, [.int refu, .ref pn, .ref pt, .ref pr, .ref pw, .ref pb, .int nst, .ref pk, .ref pi, .ref pf, .ref pl, .ref pe, .ref pm, .int nn, .ref px, .int len, .int pos, .int gd, .int ps, .int sm])), (pn, .inl (g.2.1, 61, .inl fnow)), (pb, .inl (g.2.1, 366, .inl fbook)), (pk, .inl (g.2.1, 122, .inl fkept)), (pi, .inl (g.2.2.2.1, 2, .inl fisk)), (pf, .inl (g.2.2.1, 4096, .inr (.inl ffst))), (pl, .inl (g.2.2.1, 4096, .inr (.inl flst))), (pe, .inl (g.2.1, 4096, .inl fbef)), (pm, .inl (g.2.1, 4096, .inl fmov))] [.ref o, .ref pn, .int a1] (some (.int r.1)) [(o, .inr (9, [.int refu, .ref pn, .ref pt, .ref pr, .ref pw, .ref pb, .int nst, .ref pk, .ref pi, .ref pf, .ref pl, .ref pe, .ref pm, .int r.2.2.2.2.2.2.2.2, .ref px, .int len, .int pos, .int gd, .int ps, .int sm])), (pn, .inl (g.2.1, 61, .inl r.2.1)), (pb, .inl (g.2.1, 366, .inl r.2.2.1)), (pk, .inl (g.2.1, 122, .inl r.2.2.2.1)), (pi, .inl (g.2.2.2.1, 2, .inl fisk)), (pf, .inl (g.2.2.1, 4096, .inr (.inl r.2.2.2.2.1))), (pl, .inl (g.2.2.1, 4096, .inr (.inl r.2.2.2.2.2.1))), (pe, .inl (g.2.1, 4096, .inl r.2.2.2.2.2.2.1)), (pm, .inl (g.2.1, 4096, .inl r.2.2.2.2.2.2.2.1))] := by
  refine metW_intro (by decide) rfl ?_
  intro p e R s m args below meth c Q A hRf hRl hQ hx hb hml hr hlocks hown hts hin hE hA H locs hP hD hS ls hl
  have hown : s.vm.findClass "HallGuardsModel" = some m.cls := hown
  have hl : lv_has ls 3 [(0, .ref o), (1, .ref pn), (2, .int a1)] := hl
  unfold fX9_goStart at hyp
  refine lv_aload_n hx hb dX9_goStart_0 rfl (lv_at hl 1 rfl) ?_
  refine lv_bipush (v := 49) hx hb dX9_goStart_1 (by decide) ?_
  refine lv_iload_n hx hb dX9_goStart_3 rfl (lv_at hl 2 rfl) ?_
  obtain ⟨hi, hyp⟩ := grd_e hyp
  refine va_iast hx hb hE.1 hP hD hS 1 0 rfl rfl (inB_vp hi) dX9_goStart_4 (fun H locs hP hD hS => ?_)
  have hP : va_P g.1 vwCl [(o, .inr (9, [.int refu, .ref pn, .ref pt, .ref pr, .ref pw, .ref pb, .int nst, .ref pk, .ref pi, .ref pf, .ref pl, .ref pe, .ref pm, .int nn, .ref px, .int len, .int pos, .int gd, .int ps, .int sm])), (pn, .inl (g.2.1, 61, .inl (upd fnow (49 : Int32).toNatClampNeg a1))), (pb, .inl (g.2.1, 366, .inl fbook)), (pk, .inl (g.2.1, 122, .inl fkept)), (pi, .inl (g.2.2.2.1, 2, .inl fisk)), (pf, .inl (g.2.2.1, 4096, .inr (.inl ffst))), (pl, .inl (g.2.2.1, 4096, .inr (.inl flst))), (pe, .inl (g.2.1, 4096, .inl fbef)), (pm, .inl (g.2.1, 4096, .inl fmov))] H := hP
  have hD : va_D A [(o, .inr (9, [.int refu, .ref pn, .ref pt, .ref pr, .ref pw, .ref pb, .int nst, .ref pk, .ref pi, .ref pf, .ref pl, .ref pe, .ref pm, .int nn, .ref px, .int len, .int pos, .int gd, .int ps, .int sm])), (pn, .inl (g.2.1, 61, .inl (upd fnow (49 : Int32).toNatClampNeg a1))), (pb, .inl (g.2.1, 366, .inl fbook)), (pk, .inl (g.2.1, 122, .inl fkept)), (pi, .inl (g.2.2.2.1, 2, .inl fisk)), (pf, .inl (g.2.2.1, 4096, .inr (.inl ffst))), (pl, .inl (g.2.2.1, 4096, .inr (.inl flst))), (pe, .inl (g.2.1, 4096, .inl fbef)), (pm, .inl (g.2.1, 4096, .inl fmov))] := hD
  refine lv_aload_n hx hb dX9_goStart_5 rfl (lv_at hl 1 rfl) ?_
  refine lv_bipush (v := 50) hx hb dX9_goStart_6 (by decide) ?_
  refine lv_iconst (v := 1) hx hb dX9_goStart_8 (by decide) ?_
  obtain ⟨hi, hyp⟩ := grd_e hyp
  refine va_iast hx hb hE.1 hP hD hS 1 0 rfl rfl (inB_vp hi) dX9_goStart_9 (fun H locs hP hD hS => ?_)
  have hP : va_P g.1 vwCl [(o, .inr (9, [.int refu, .ref pn, .ref pt, .ref pr, .ref pw, .ref pb, .int nst, .ref pk, .ref pi, .ref pf, .ref pl, .ref pe, .ref pm, .int nn, .ref px, .int len, .int pos, .int gd, .int ps, .int sm])), (pn, .inl (g.2.1, 61, .inl (upd (upd fnow (49 : Int32).toNatClampNeg a1) (50 : Int32).toNatClampNeg 1))), (pb, .inl (g.2.1, 366, .inl fbook)), (pk, .inl (g.2.1, 122, .inl fkept)), (pi, .inl (g.2.2.2.1, 2, .inl fisk)), (pf, .inl (g.2.2.1, 4096, .inr (.inl ffst))), (pl, .inl (g.2.2.1, 4096, .inr (.inl flst))), (pe, .inl (g.2.1, 4096, .inl fbef)), (pm, .inl (g.2.1, 4096, .inl fmov))] H := hP
  have hD : va_D A [(o, .inr (9, [.int refu, .ref pn, .ref pt, .ref pr, .ref pw, .ref pb, .int nst, .ref pk, .ref pi, .ref pf, .ref pl, .ref pe, .ref pm, .int nn, .ref px, .int len, .int pos, .int gd, .int ps, .int sm])), (pn, .inl (g.2.1, 61, .inl (upd (upd fnow (49 : Int32).toNatClampNeg a1) (50 : Int32).toNatClampNeg 1))), (pb, .inl (g.2.1, 366, .inl fbook)), (pk, .inl (g.2.1, 122, .inl fkept)), (pi, .inl (g.2.2.2.1, 2, .inl fisk)), (pf, .inl (g.2.2.1, 4096, .inr (.inl ffst))), (pl, .inl (g.2.2.1, 4096, .inr (.inl flst))), (pe, .inl (g.2.1, 4096, .inl fbef)), (pm, .inl (g.2.1, 4096, .inl fmov))] := hD
  refine lv_aload_n hx hb dX9_goStart_10 rfl (lv_at hl 1 rfl) ?_
  refine lv_bipush (v := 51) hx hb dX9_goStart_11 (by decide) ?_
  refine lv_iconst (v := 1) hx hb dX9_goStart_13 (by decide) ?_
  obtain ⟨hi, hyp⟩ := grd_e hyp
  refine va_iast hx hb hE.1 hP hD hS 1 0 rfl rfl (inB_vp hi) dX9_goStart_14 (fun H locs hP hD hS => ?_)
  have hP : va_P g.1 vwCl [(o, .inr (9, [.int refu, .ref pn, .ref pt, .ref pr, .ref pw, .ref pb, .int nst, .ref pk, .ref pi, .ref pf, .ref pl, .ref pe, .ref pm, .int nn, .ref px, .int len, .int pos, .int gd, .int ps, .int sm])), (pn, .inl (g.2.1, 61, .inl (upd (upd (upd fnow (49 : Int32).toNatClampNeg a1) (50 : Int32).toNatClampNeg 1) (51 : Int32).toNatClampNeg 1))), (pb, .inl (g.2.1, 366, .inl fbook)), (pk, .inl (g.2.1, 122, .inl fkept)), (pi, .inl (g.2.2.2.1, 2, .inl fisk)), (pf, .inl (g.2.2.1, 4096, .inr (.inl ffst))), (pl, .inl (g.2.2.1, 4096, .inr (.inl flst))), (pe, .inl (g.2.1, 4096, .inl fbef)), (pm, .inl (g.2.1, 4096, .inl fmov))] H := hP
  have hD : va_D A [(o, .inr (9, [.int refu, .ref pn, .ref pt, .ref pr, .ref pw, .ref pb, .int nst, .ref pk, .ref pi, .ref pf, .ref pl, .ref pe, .ref pm, .int nn, .ref px, .int len, .int pos, .int gd, .int ps, .int sm])), (pn, .inl (g.2.1, 61, .inl (upd (upd (upd fnow (49 : Int32).toNatClampNeg a1) (50 : Int32).toNatClampNeg 1) (51 : Int32).toNatClampNeg 1))), (pb, .inl (g.2.1, 366, .inl fbook)), (pk, .inl (g.2.1, 122, .inl fkept)), (pi, .inl (g.2.2.2.1, 2, .inl fisk)), (pf, .inl (g.2.2.1, 4096, .inr (.inl ffst))), (pl, .inl (g.2.2.1, 4096, .inr (.inl flst))), (pe, .inl (g.2.1, 4096, .inl fbef)), (pm, .inl (g.2.1, 4096, .inl fmov))] := hD
  refine lv_aload_n hx hb dX9_goStart_15 rfl (lv_at hl 1 rfl) ?_
  refine lv_bipush (v := 53) hx hb dX9_goStart_16 (by decide) ?_
  refine lv_iconst (v := 0) hx hb dX9_goStart_18 (by decide) ?_
  obtain ⟨hi, hyp⟩ := grd_e hyp
  refine va_iast hx hb hE.1 hP hD hS 1 0 rfl rfl (inB_vp hi) dX9_goStart_19 (fun H locs hP hD hS => ?_)
  have hP : va_P g.1 vwCl [(o, .inr (9, [.int refu, .ref pn, .ref pt, .ref pr, .ref pw, .ref pb, .int nst, .ref pk, .ref pi, .ref pf, .ref pl, .ref pe, .ref pm, .int nn, .ref px, .int len, .int pos, .int gd, .int ps, .int sm])), (pn, .inl (g.2.1, 61, .inl (upd (upd (upd (upd fnow (49 : Int32).toNatClampNeg a1) (50 : Int32).toNatClampNeg 1) (51 : Int32).toNatClampNeg 1) (53 : Int32).toNatClampNeg 0))), (pb, .inl (g.2.1, 366, .inl fbook)), (pk, .inl (g.2.1, 122, .inl fkept)), (pi, .inl (g.2.2.2.1, 2, .inl fisk)), (pf, .inl (g.2.2.1, 4096, .inr (.inl ffst))), (pl, .inl (g.2.2.1, 4096, .inr (.inl flst))), (pe, .inl (g.2.1, 4096, .inl fbef)), (pm, .inl (g.2.1, 4096, .inl fmov))] H := hP
  have hD : va_D A [(o, .inr (9, [.int refu, .ref pn, .ref pt, .ref pr, .ref pw, .ref pb, .int nst, .ref pk, .ref pi, .ref pf, .ref pl, .ref pe, .ref pm, .int nn, .ref px, .int len, .int pos, .int gd, .int ps, .int sm])), (pn, .inl (g.2.1, 61, .inl (upd (upd (upd (upd fnow (49 : Int32).toNatClampNeg a1) (50 : Int32).toNatClampNeg 1) (51 : Int32).toNatClampNeg 1) (53 : Int32).toNatClampNeg 0))), (pb, .inl (g.2.1, 366, .inl fbook)), (pk, .inl (g.2.1, 122, .inl fkept)), (pi, .inl (g.2.2.2.1, 2, .inl fisk)), (pf, .inl (g.2.2.1, 4096, .inr (.inl ffst))), (pl, .inl (g.2.2.1, 4096, .inr (.inl flst))), (pe, .inl (g.2.1, 4096, .inl fbef)), (pm, .inl (g.2.1, 4096, .inl fmov))] := hD
  refine lv_aload_n hx hb dX9_goStart_20 rfl (lv_at hl 0 rfl) ?_
  refine lv_aload_n hx hb dX9_goStart_21 rfl (lv_at hl 1 rfl) ?_
  refine lv_iconst (v := (-1)) hx hb dX9_goStart_22 (by decide) ?_
  obtain ⟨r_1, hr_1, hyp⟩ := opt_e hyp
  refine wV (As := [.ref pn, .int (-1)]) (rest := []) ⟨hx, hb, hml, hown, hts⟩ hE (mX9_noteN l g o pn pb pk pi pf pl pe pm pt pr pw px refu nst nn len pos gd ps sm (upd (upd (upd (upd fnow (49 : Int32).toNatClampNeg a1) (50 : Int32).toNatClampNeg 1) (51 : Int32).toNatClampNeg 1) (53 : Int32).toNatClampNeg 0) fbook fkept fisk ffst flst fbef fmov (-1) r_1 hr_1) cf_X9_note im_X9_note se_X9_note ml_X9_122 ⟨Nat.le_trans (Nat.le_of_ble_eq_true rfl) hRf, Nat.le_trans (Nat.le_of_ble_eq_true rfl) hRl⟩ hP hD hS hA [0, 1, 2, 3, 4, 5, 6, 7, 8] [] rfl (wr := []) rfl ⟨by decide, by decide⟩ (by decide) (ci := 9) (q0 := 0) rfl rfl rfl rfl hl.1 rfl (Nat.le_of_ble_eq_true rfl) dX9_goStart_23 ⟨Nat.zero_le _, Nat.zero_le _⟩ (fun H locs hP hD hS => ?_)
  have hP : va_P g.1 vwCl [(o, .inr (9, [.int refu, .ref pn, .ref pt, .ref pr, .ref pw, .ref pb, .int nst, .ref pk, .ref pi, .ref pf, .ref pl, .ref pe, .ref pm, .int r_1.2.2.2.2.2.2.2, .ref px, .int len, .int pos, .int gd, .int ps, .int sm])), (pn, .inl (g.2.1, 61, .inl r_1.1)), (pb, .inl (g.2.1, 366, .inl r_1.2.1)), (pk, .inl (g.2.1, 122, .inl r_1.2.2.1)), (pi, .inl (g.2.2.2.1, 2, .inl fisk)), (pf, .inl (g.2.2.1, 4096, .inr (.inl r_1.2.2.2.1))), (pl, .inl (g.2.2.1, 4096, .inr (.inl r_1.2.2.2.2.1))), (pe, .inl (g.2.1, 4096, .inl r_1.2.2.2.2.2.1)), (pm, .inl (g.2.1, 4096, .inl r_1.2.2.2.2.2.2.1))] H := hP
  have hD : va_D A [(o, .inr (9, [.int refu, .ref pn, .ref pt, .ref pr, .ref pw, .ref pb, .int nst, .ref pk, .ref pi, .ref pf, .ref pl, .ref pe, .ref pm, .int r_1.2.2.2.2.2.2.2, .ref px, .int len, .int pos, .int gd, .int ps, .int sm])), (pn, .inl (g.2.1, 61, .inl r_1.1)), (pb, .inl (g.2.1, 366, .inl r_1.2.1)), (pk, .inl (g.2.1, 122, .inl r_1.2.2.1)), (pi, .inl (g.2.2.2.1, 2, .inl fisk)), (pf, .inl (g.2.2.1, 4096, .inr (.inl r_1.2.2.2.1))), (pl, .inl (g.2.2.1, 4096, .inr (.inl r_1.2.2.2.2.1))), (pe, .inl (g.2.1, 4096, .inl r_1.2.2.2.2.2.1)), (pm, .inl (g.2.1, 4096, .inl r_1.2.2.2.2.2.2.1))] := hD
  refine lv_aload_n hx hb dX9_goStart_26 rfl (lv_at hl 1 rfl) ?_
  refine lv_iload_n hx hb dX9_goStart_27 rfl (lv_at hl 2 rfl) ?_
  obtain ⟨r_2, hr_2, hyp⟩ := opt_e hyp
  refine pS (As := [.ref pn, .int a1]) (rest := []) ⟨hx, hb, hml, hown, hts⟩ hE (mX9_moveCount l g pn r_1.1 a1 r_2 hr_2) cf_X9_moveCount st_X9_moveCount ml_X9_101 ⟨Nat.le_trans (Nat.le_of_ble_eq_true rfl) hRf, Nat.le_trans (Nat.le_of_ble_eq_true rfl) hRl⟩ (hP.sub (ws' := [(pn, .inl (g.2.1, 61, .inl r_1.1))]) [1] rfl) rfl hl.1 rfl (Nat.le_of_ble_eq_true rfl) dX9_goStart_28 ⟨Nat.zero_le _, Nat.zero_le _⟩ ?_
  have hyp := some_e hyp
  subst hyp
  subst hQ
  exact rwI hx hb hr hlocks  hP hD hS dX9_goStart_31

def fX9_goSetUp_L25_B (nst : Int32) (fisk : Nat → Int32) (self_21 : Int32 → (Nat → Int32) → (Nat → Int32) → (Nat → Int32) → (Nat → Int64) → (Nat → Int64) → (Nat → Int32) → (Nat → Int32) → Int32 → Option (Int32 × (Nat → Int32) × (Nat → Int32) × (Nat → Int32) × (Nat → Int64) × (Nat → Int64) × (Nat → Int32) × (Nat → Int32) × Int32)) (v2_12 : Int32) (wfnow_13 : Nat → Int32) (wfbook_14 : Nat → Int32) (wfkept_15 : Nat → Int32) (wffst_16 : Nat → Int64) (wflst_17 : Nat → Int64) (wfbef_18 : Nat → Int32) (wfmov_19 : Nat → Int32) (wnn_20 : Int32) : Option (Int32 × (Nat → Int32) × (Nat → Int32) × (Nat → Int32) × (Nat → Int64) × (Nat → Int64) × (Nat → Int32) × (Nat → Int32) × Int32) :=
  if 4 ≤ v2_12 then ((fX9_goStart nst wnn_20 wfnow_13 wfbook_14 wfkept_15 fisk wffst_16 wflst_17 wfbef_18 wfmov_19 0).bind (fun (r_23 : Int32 × (Nat → Int32) × (Nat → Int32) × (Nat → Int32) × (Nat → Int64) × (Nat → Int64) × (Nat → Int32) × (Nat → Int32) × Int32) => (fX9_piecesIn r_23.2.1).bind (fun (r_24 : Int32) => some (r_24, r_23.2.1, r_23.2.2.1, r_23.2.2.2.1, r_23.2.2.2.2.1, r_23.2.2.2.2.2.1, r_23.2.2.2.2.2.2.1, r_23.2.2.2.2.2.2.2.1, r_23.2.2.2.2.2.2.2.2)))) else ((fX9_next 24 v2_12).bind (fun (r_25 : Int32) => (fX9_next r_25 v2_12).bind (fun (r_26 : Int32) => grd (inB r_25 61) (grd (inB r_26 61) ((fX9_next r_26 v2_12).bind (fun (r_27 : Int32) => grd (inB r_27 61) (self_21 (v2_12 + 1) (upd (upd (upd wfnow_13 r_25.toNatClampNeg 2) r_26.toNatClampNeg 1) r_27.toNatClampNeg 1) wfbook_14 wfkept_15 wffst_16 wflst_17 wfbef_18 wfmov_19 wnn_20)))))))
def fX9_goSetUp_L25 (nst : Int32) (fisk : Nat → Int32) (n : Nat) (v2_12 : Int32) (wfnow_13 : Nat → Int32) (wfbook_14 : Nat → Int32) (wfkept_15 : Nat → Int32) (wffst_16 : Nat → Int64) (wflst_17 : Nat → Int64) (wfbef_18 : Nat → Int32) (wfmov_19 : Nat → Int32) (wnn_20 : Int32) : Option (Int32 × (Nat → Int32) × (Nat → Int32) × (Nat → Int32) × (Nat → Int64) × (Nat → Int64) × (Nat → Int32) × (Nat → Int32) × Int32) := lp (fun zf z => fX9_goSetUp_L25_B nst fisk (fun v2_12 wfnow_13 wfbook_14 wfkept_15 wffst_16 wflst_17 wfbef_18 wfmov_19 wnn_20 => zf (v2_12, wfnow_13, wfbook_14, wfkept_15, wffst_16, wflst_17, wfbef_18, wfmov_19, wnn_20)) z.1 z.2.1 z.2.2.1 z.2.2.2.1 z.2.2.2.2.1 z.2.2.2.2.2.1 z.2.2.2.2.2.2.1 z.2.2.2.2.2.2.2.1 z.2.2.2.2.2.2.2.2) n (v2_12, wfnow_13, wfbook_14, wfkept_15, wffst_16, wflst_17, wfbef_18, wfmov_19, wnn_20)
def fX9_goSetUp_L2_B (nst : Int32) (fisk : Nat → Int32) (self_10 : Int32 → (Nat → Int32) → (Nat → Int32) → (Nat → Int32) → (Nat → Int64) → (Nat → Int64) → (Nat → Int32) → (Nat → Int32) → Int32 → Option (Int32 × (Nat → Int32) × (Nat → Int32) × (Nat → Int32) × (Nat → Int64) × (Nat → Int64) × (Nat → Int32) × (Nat → Int32) × Int32)) (v2_1 : Int32) (wfnow_2 : Nat → Int32) (wfbook_3 : Nat → Int32) (wfkept_4 : Nat → Int32) (wffst_5 : Nat → Int64) (wflst_6 : Nat → Int64) (wfbef_7 : Nat → Int32) (wfmov_8 : Nat → Int32) (wnn_9 : Int32) : Option (Int32 × (Nat → Int32) × (Nat → Int32) × (Nat → Int32) × (Nat → Int64) × (Nat → Int64) × (Nat → Int32) × (Nat → Int32) × Int32) :=
  if 49 ≤ v2_1 then (grd (inB 24 61) (fX9_goSetUp_L25 nst fisk 64 0 (upd wfnow_2 (24 : Int32).toNatClampNeg 3) wfbook_3 wfkept_4 wffst_5 wflst_6 wfbef_7 wfmov_8 wnn_9)) else (grd (inB v2_1 61) (self_10 (v2_1 + 1) (upd wfnow_2 v2_1.toNatClampNeg 0) wfbook_3 wfkept_4 wffst_5 wflst_6 wfbef_7 wfmov_8 wnn_9))
def fX9_goSetUp_L2 (nst : Int32) (fisk : Nat → Int32) (n : Nat) (v2_1 : Int32) (wfnow_2 : Nat → Int32) (wfbook_3 : Nat → Int32) (wfkept_4 : Nat → Int32) (wffst_5 : Nat → Int64) (wflst_6 : Nat → Int64) (wfbef_7 : Nat → Int32) (wfmov_8 : Nat → Int32) (wnn_9 : Int32) : Option (Int32 × (Nat → Int32) × (Nat → Int32) × (Nat → Int32) × (Nat → Int64) × (Nat → Int64) × (Nat → Int32) × (Nat → Int32) × Int32) := lp (fun zf z => fX9_goSetUp_L2_B nst fisk (fun v2_1 wfnow_2 wfbook_3 wfkept_4 wffst_5 wflst_6 wfbef_7 wfmov_8 wnn_9 => zf (v2_1, wfnow_2, wfbook_3, wfkept_4, wffst_5, wflst_6, wfbef_7, wfmov_8, wnn_9)) z.1 z.2.1 z.2.2.1 z.2.2.2.1 z.2.2.2.2.1 z.2.2.2.2.2.1 z.2.2.2.2.2.2.1 z.2.2.2.2.2.2.2.1 z.2.2.2.2.2.2.2.2) n (v2_1, wfnow_2, wfbook_3, wfkept_4, wffst_5, wflst_6, wfbef_7, wfmov_8, wnn_9)
def fX9_goSetUp (nst : Int32) (nn : Int32) (fnow : Nat → Int32) (fbook : Nat → Int32) (fkept : Nat → Int32) (fisk : Nat → Int32) (ffst : Nat → Int64) (flst : Nat → Int64) (fbef : Nat → Int32) (fmov : Nat → Int32) : Option (Int32 × (Nat → Int32) × (Nat → Int32) × (Nat → Int32) × (Nat → Int64) × (Nat → Int64) × (Nat → Int32) × (Nat → Int32) × Int32) :=
  fX9_goSetUp_L2 nst fisk 64 0 fnow fbook fkept ffst flst fbef fmov nn
set_option maxRecDepth 100000 in
set_option maxHeartbeats 4000000 in
theorem mX9_goSetUp (l : Launch) (g : GE) (o pn pb pk pi pf pl pe pm pt pr pw px : Nat) (refu : Int32) (nst : Int32) (nn : Int32) (len : Int32) (pos : Int32) (gd : Int32) (ps : Int32) (sm : Int32) (fnow : Nat → Int32) (fbook : Nat → Int32) (fkept : Nat → Int32) (fisk : Nat → Int32) (ffst : Nat → Int64) (flst : Nat → Int64) (fbef : Nat → Int32) (fmov : Nat → Int32) (r : Int32 × (Nat → Int32) × (Nat → Int32) × (Nat → Int32) × (Nat → Int64) × (Nat → Int64) × (Nat → Int32) × (Nat → Int32) × Int32) (hyp : fX9_goSetUp nst nn fnow fbook fkept fisk ffst flst fbef fmov = some r) : WM l yX9_goSetUp cX9_goSetUp 5 (some .int) 6 138 g [(o, .inr (9, [.int refu, .ref pn, .ref pt, .ref pr, .ref pw, .ref pb, .int nst, .ref pk, .ref pi, .ref pf, .ref pl, .ref pe, .ref pm, .int nn, .ref px, .int len, .int pos, .int gd, .int ps, .int sm])), (pn, .inl (g.2.1, 61, .inl fnow)), (pb, .inl (g.2.1, 366, .inl fbook)), (pk, .inl (g.2.1, 122, .inl fkept)), (pi, .inl (g.2.2.2.1, 2, .inl fisk)), (pf, .inl (g.2.2.1, 4096, .inr (.inl ffst))), (pl, .inl (g.2.2.1, 4096, .inr (.inl flst))), (pe, .inl (g.2.1, 4096, .inl fbef)), (pm, .inl (g.2.1, 4096, .inl fmov))] [.ref o, .ref pn] (some (.int r.1)) [(o, .inr (9, [.int refu, .ref pn, .ref pt, .ref pr, .ref pw, .ref pb, .int nst, .ref pk, .ref pi, .ref pf, .ref pl, .ref pe, .ref pm, .int r.2.2.2.2.2.2.2.2, .ref px, .int len, .int pos, .int gd, .int ps, .int sm])), (pn, .inl (g.2.1, 61, .inl r.2.1)), (pb, .inl (g.2.1, 366, .inl r.2.2.1)), (pk, .inl (g.2.1, 122, .inl r.2.2.2.1)), (pi, .inl (g.2.2.2.1, 2, .inl fisk)), (pf, .inl (g.2.2.1, 4096, .inr (.inl r.2.2.2.2.1))), (pl, .inl (g.2.2.1, 4096, .inr (.inl r.2.2.2.2.2.1))), (pe, .inl (g.2.1, 4096, .inl r.2.2.2.2.2.2.1)), (pm, .inl (g.2.1, 4096, .inl r.2.2.2.2.2.2.2.1))] := by
  refine metW_intro (by decide) rfl ?_
  intro p e R s m args below meth c Q A hRf hRl hQ hx hb hml hr hlocks hown hts hin hE hA H locs hP hD hS ls hl
  have hown : s.vm.findClass "HallGuardsModel" = some m.cls := hown
  have hl : lv_has ls 5 [(0, .ref o), (1, .ref pn)] := hl
  unfold fX9_goSetUp at hyp
  refine lv_iconst (v := 0) hx hb dX9_goSetUp_0 (by decide) ?_
  refine lv_istore_n (lv' := [(2, .int 0), (0, .ref o), (1, .ref pn)]) hx hb dX9_goSetUp_1 rfl hl (by decide) rfl (fun ls hl => ?_)
  refine lp_i (r := r) (fun z : Int32 × (Nat → Int32) × (Nat → Int32) × (Nat → Int32) × (Nat → Int64) × (Nat → Int64) × (Nat → Int32) × (Nat → Int32) × Int32 => ∀ (H : Heap) (locs : List Loc) (ls : Array Slot), lv_has ls 5 [(0, .ref o), (1, .ref pn), (2, .int z.1)] → va_P g.1 vwCl [(o, .inr (9, [.int refu, .ref pn, .ref pt, .ref pr, .ref pw, .ref pb, .int nst, .ref pk, .ref pi, .ref pf, .ref pl, .ref pe, .ref pm, .int z.2.2.2.2.2.2.2.2, .ref px, .int len, .int pos, .int gd, .int ps, .int sm])), (pn, .inl (g.2.1, 61, .inl z.2.1)), (pb, .inl (g.2.1, 366, .inl z.2.2.1)), (pk, .inl (g.2.1, 122, .inl z.2.2.2.1)), (pi, .inl (g.2.2.2.1, 2, .inl fisk)), (pf, .inl (g.2.2.1, 4096, .inr (.inl z.2.2.2.2.1))), (pl, .inl (g.2.2.1, 4096, .inr (.inl z.2.2.2.2.2.1))), (pe, .inl (g.2.1, 4096, .inl z.2.2.2.2.2.2.1)), (pm, .inl (g.2.1, 4096, .inl z.2.2.2.2.2.2.2.1))] H → va_D A [(o, .inr (9, [.int refu, .ref pn, .ref pt, .ref pr, .ref pw, .ref pb, .int nst, .ref pk, .ref pi, .ref pf, .ref pl, .ref pe, .ref pm, .int z.2.2.2.2.2.2.2.2, .ref px, .int len, .int pos, .int gd, .int ps, .int sm])), (pn, .inl (g.2.1, 61, .inl z.2.1)), (pb, .inl (g.2.1, 366, .inl z.2.2.1)), (pk, .inl (g.2.1, 122, .inl z.2.2.2.1)), (pi, .inl (g.2.2.2.1, 2, .inl fisk)), (pf, .inl (g.2.2.1, 4096, .inr (.inl z.2.2.2.2.1))), (pl, .inl (g.2.2.1, 4096, .inr (.inl z.2.2.2.2.2.1))), (pe, .inl (g.2.1, 4096, .inl z.2.2.2.2.2.2.1)), (pm, .inl (g.2.1, 4096, .inl z.2.2.2.2.2.2.2.1))] → va_S A s.heap H locs → W p l e R s m args below meth c H locs 0 0 Q (F0 m 2 ls [])) ?_ 64 (0, fnow, fbook, fkept, ffst, flst, fbef, fmov, nn) hyp _ _ ls (lv_sub hl [1, 2, 0] rfl) hP hD hS
  intro self_10T ihself_10T z hyp H locs ls hl hP hD hS
  obtain ⟨v2_1, wfnow_2, wfbook_3, wfkept_4, wffst_5, wflst_6, wfbef_7, wfmov_8, wnn_9⟩ := z
  obtain ⟨self_10, eself_10⟩ : ∃ f9 : Int32 → (Nat → Int32) → (Nat → Int32) → (Nat → Int32) → (Nat → Int64) → (Nat → Int64) → (Nat → Int32) → (Nat → Int32) → Int32 → Option (Int32 × (Nat → Int32) × (Nat → Int32) × (Nat → Int32) × (Nat → Int64) × (Nat → Int64) × (Nat → Int32) × (Nat → Int32) × Int32), f9 = fun v2_1 wfnow_2 wfbook_3 wfkept_4 wffst_5 wflst_6 wfbef_7 wfmov_8 wnn_9 => self_10T (v2_1, wfnow_2, wfbook_3, wfkept_4, wffst_5, wflst_6, wfbef_7, wfmov_8, wnn_9) := ⟨_, rfl⟩
  have ihself_10 := fun (v2_1 : Int32) (wfnow_2 : Nat → Int32) (wfbook_3 : Nat → Int32) (wfkept_4 : Nat → Int32) (wffst_5 : Nat → Int64) (wflst_6 : Nat → Int64) (wfbef_7 : Nat → Int32) (wfmov_8 : Nat → Int32) (wnn_9 : Int32) (h9 : self_10 v2_1 wfnow_2 wfbook_3 wfkept_4 wffst_5 wflst_6 wfbef_7 wfmov_8 wnn_9 = some r) => ihself_10T (v2_1, wfnow_2, wfbook_3, wfkept_4, wffst_5, wflst_6, wfbef_7, wfmov_8, wnn_9) (by rw [eself_10] at h9; exact h9)
  replace hyp : fX9_goSetUp_L2_B nst fisk self_10 v2_1 wfnow_2 wfbook_3 wfkept_4 wffst_5 wflst_6 wfbef_7 wfmov_8 wnn_9 = some r := by rw [eself_10]; exact hyp
  have hl : lv_has ls 5 [(0, .ref o), (1, .ref pn), (2, .int v2_1)] := hl
  have hP : va_P g.1 vwCl [(o, .inr (9, [.int refu, .ref pn, .ref pt, .ref pr, .ref pw, .ref pb, .int nst, .ref pk, .ref pi, .ref pf, .ref pl, .ref pe, .ref pm, .int wnn_9, .ref px, .int len, .int pos, .int gd, .int ps, .int sm])), (pn, .inl (g.2.1, 61, .inl wfnow_2)), (pb, .inl (g.2.1, 366, .inl wfbook_3)), (pk, .inl (g.2.1, 122, .inl wfkept_4)), (pi, .inl (g.2.2.2.1, 2, .inl fisk)), (pf, .inl (g.2.2.1, 4096, .inr (.inl wffst_5))), (pl, .inl (g.2.2.1, 4096, .inr (.inl wflst_6))), (pe, .inl (g.2.1, 4096, .inl wfbef_7)), (pm, .inl (g.2.1, 4096, .inl wfmov_8))] H := hP
  have hD : va_D A [(o, .inr (9, [.int refu, .ref pn, .ref pt, .ref pr, .ref pw, .ref pb, .int nst, .ref pk, .ref pi, .ref pf, .ref pl, .ref pe, .ref pm, .int wnn_9, .ref px, .int len, .int pos, .int gd, .int ps, .int sm])), (pn, .inl (g.2.1, 61, .inl wfnow_2)), (pb, .inl (g.2.1, 366, .inl wfbook_3)), (pk, .inl (g.2.1, 122, .inl wfkept_4)), (pi, .inl (g.2.2.2.1, 2, .inl fisk)), (pf, .inl (g.2.2.1, 4096, .inr (.inl wffst_5))), (pl, .inl (g.2.2.1, 4096, .inr (.inl wflst_6))), (pe, .inl (g.2.1, 4096, .inl wfbef_7)), (pm, .inl (g.2.1, 4096, .inl wfmov_8))] := hD
  show W p l e R s m args below meth c H locs 0 0 Q (F0 m 2 ls [])
  unfold fX9_goSetUp_L2_B at hyp
  refine lv_iload_n hx hb dX9_goSetUp_2 rfl (lv_at hl 2 rfl) ?_
  refine lv_bipush (v := 49) hx hb dX9_goSetUp_3 (by decide) ?_
  refine lv_icmp_ge (tgt := 18) hx hb dX9_goSetUp_5 (by decide) (fun h_11 => ?_) (fun h_11 => ?_)
  · replace hyp := ite_t h_11 hyp
    refine lv_aload_n hx hb dX9_goSetUp_18 rfl (lv_at hl 1 rfl) ?_
    refine lv_bipush (v := 24) hx hb dX9_goSetUp_19 (by decide) ?_
    refine lv_iconst (v := 3) hx hb dX9_goSetUp_21 (by decide) ?_
    obtain ⟨hi, hyp⟩ := grd_e hyp
    refine va_iast hx hb hE.1 hP hD hS 1 0 rfl rfl (inB_vp hi) dX9_goSetUp_22 (fun H locs hP hD hS => ?_)
    have hP : va_P g.1 vwCl [(o, .inr (9, [.int refu, .ref pn, .ref pt, .ref pr, .ref pw, .ref pb, .int nst, .ref pk, .ref pi, .ref pf, .ref pl, .ref pe, .ref pm, .int wnn_9, .ref px, .int len, .int pos, .int gd, .int ps, .int sm])), (pn, .inl (g.2.1, 61, .inl (upd wfnow_2 (24 : Int32).toNatClampNeg 3))), (pb, .inl (g.2.1, 366, .inl wfbook_3)), (pk, .inl (g.2.1, 122, .inl wfkept_4)), (pi, .inl (g.2.2.2.1, 2, .inl fisk)), (pf, .inl (g.2.2.1, 4096, .inr (.inl wffst_5))), (pl, .inl (g.2.2.1, 4096, .inr (.inl wflst_6))), (pe, .inl (g.2.1, 4096, .inl wfbef_7)), (pm, .inl (g.2.1, 4096, .inl wfmov_8))] H := hP
    have hD : va_D A [(o, .inr (9, [.int refu, .ref pn, .ref pt, .ref pr, .ref pw, .ref pb, .int nst, .ref pk, .ref pi, .ref pf, .ref pl, .ref pe, .ref pm, .int wnn_9, .ref px, .int len, .int pos, .int gd, .int ps, .int sm])), (pn, .inl (g.2.1, 61, .inl (upd wfnow_2 (24 : Int32).toNatClampNeg 3))), (pb, .inl (g.2.1, 366, .inl wfbook_3)), (pk, .inl (g.2.1, 122, .inl wfkept_4)), (pi, .inl (g.2.2.2.1, 2, .inl fisk)), (pf, .inl (g.2.2.1, 4096, .inr (.inl wffst_5))), (pl, .inl (g.2.2.1, 4096, .inr (.inl wflst_6))), (pe, .inl (g.2.1, 4096, .inl wfbef_7)), (pm, .inl (g.2.1, 4096, .inl wfmov_8))] := hD
    refine lv_iconst (v := 0) hx hb dX9_goSetUp_23 (by decide) ?_
    refine lv_istore_n (lv' := [(2, .int 0), (0, .ref o), (1, .ref pn)]) hx hb dX9_goSetUp_24 rfl hl (by decide) rfl (fun ls hl => ?_)
    refine lp_i (r := r) (fun z : Int32 × (Nat → Int32) × (Nat → Int32) × (Nat → Int32) × (Nat → Int64) × (Nat → Int64) × (Nat → Int32) × (Nat → Int32) × Int32 => ∀ (H : Heap) (locs : List Loc) (ls : Array Slot), lv_has ls 5 [(0, .ref o), (1, .ref pn), (2, .int z.1)] → va_P g.1 vwCl [(o, .inr (9, [.int refu, .ref pn, .ref pt, .ref pr, .ref pw, .ref pb, .int nst, .ref pk, .ref pi, .ref pf, .ref pl, .ref pe, .ref pm, .int z.2.2.2.2.2.2.2.2, .ref px, .int len, .int pos, .int gd, .int ps, .int sm])), (pn, .inl (g.2.1, 61, .inl z.2.1)), (pb, .inl (g.2.1, 366, .inl z.2.2.1)), (pk, .inl (g.2.1, 122, .inl z.2.2.2.1)), (pi, .inl (g.2.2.2.1, 2, .inl fisk)), (pf, .inl (g.2.2.1, 4096, .inr (.inl z.2.2.2.2.1))), (pl, .inl (g.2.2.1, 4096, .inr (.inl z.2.2.2.2.2.1))), (pe, .inl (g.2.1, 4096, .inl z.2.2.2.2.2.2.1)), (pm, .inl (g.2.1, 4096, .inl z.2.2.2.2.2.2.2.1))] H → va_D A [(o, .inr (9, [.int refu, .ref pn, .ref pt, .ref pr, .ref pw, .ref pb, .int nst, .ref pk, .ref pi, .ref pf, .ref pl, .ref pe, .ref pm, .int z.2.2.2.2.2.2.2.2, .ref px, .int len, .int pos, .int gd, .int ps, .int sm])), (pn, .inl (g.2.1, 61, .inl z.2.1)), (pb, .inl (g.2.1, 366, .inl z.2.2.1)), (pk, .inl (g.2.1, 122, .inl z.2.2.2.1)), (pi, .inl (g.2.2.2.1, 2, .inl fisk)), (pf, .inl (g.2.2.1, 4096, .inr (.inl z.2.2.2.2.1))), (pl, .inl (g.2.2.1, 4096, .inr (.inl z.2.2.2.2.2.1))), (pe, .inl (g.2.1, 4096, .inl z.2.2.2.2.2.2.1)), (pm, .inl (g.2.1, 4096, .inl z.2.2.2.2.2.2.2.1))] → va_S A s.heap H locs → W p l e R s m args below meth c H locs 0 0 Q (F0 m 25 ls [])) ?_ 64 (0, upd wfnow_2 (24 : Int32).toNatClampNeg 3, wfbook_3, wfkept_4, wffst_5, wflst_6, wfbef_7, wfmov_8, wnn_9) hyp _ _ ls (lv_sub hl [1, 2, 0] rfl) hP hD hS
    intro self_21T ihself_21T z hyp H locs ls hl hP hD hS
    obtain ⟨v2_12, wfnow_13, wfbook_14, wfkept_15, wffst_16, wflst_17, wfbef_18, wfmov_19, wnn_20⟩ := z
    obtain ⟨self_21, eself_21⟩ : ∃ f9 : Int32 → (Nat → Int32) → (Nat → Int32) → (Nat → Int32) → (Nat → Int64) → (Nat → Int64) → (Nat → Int32) → (Nat → Int32) → Int32 → Option (Int32 × (Nat → Int32) × (Nat → Int32) × (Nat → Int32) × (Nat → Int64) × (Nat → Int64) × (Nat → Int32) × (Nat → Int32) × Int32), f9 = fun v2_12 wfnow_13 wfbook_14 wfkept_15 wffst_16 wflst_17 wfbef_18 wfmov_19 wnn_20 => self_21T (v2_12, wfnow_13, wfbook_14, wfkept_15, wffst_16, wflst_17, wfbef_18, wfmov_19, wnn_20) := ⟨_, rfl⟩
    have ihself_21 := fun (v2_12 : Int32) (wfnow_13 : Nat → Int32) (wfbook_14 : Nat → Int32) (wfkept_15 : Nat → Int32) (wffst_16 : Nat → Int64) (wflst_17 : Nat → Int64) (wfbef_18 : Nat → Int32) (wfmov_19 : Nat → Int32) (wnn_20 : Int32) (h9 : self_21 v2_12 wfnow_13 wfbook_14 wfkept_15 wffst_16 wflst_17 wfbef_18 wfmov_19 wnn_20 = some r) => ihself_21T (v2_12, wfnow_13, wfbook_14, wfkept_15, wffst_16, wflst_17, wfbef_18, wfmov_19, wnn_20) (by rw [eself_21] at h9; exact h9)
    replace hyp : fX9_goSetUp_L25_B nst fisk self_21 v2_12 wfnow_13 wfbook_14 wfkept_15 wffst_16 wflst_17 wfbef_18 wfmov_19 wnn_20 = some r := by rw [eself_21]; exact hyp
    have hl : lv_has ls 5 [(0, .ref o), (1, .ref pn), (2, .int v2_12)] := hl
    have hP : va_P g.1 vwCl [(o, .inr (9, [.int refu, .ref pn, .ref pt, .ref pr, .ref pw, .ref pb, .int nst, .ref pk, .ref pi, .ref pf, .ref pl, .ref pe, .ref pm, .int wnn_20, .ref px, .int len, .int pos, .int gd, .int ps, .int sm])), (pn, .inl (g.2.1, 61, .inl wfnow_13)), (pb, .inl (g.2.1, 366, .inl wfbook_14)), (pk, .inl (g.2.1, 122, .inl wfkept_15)), (pi, .inl (g.2.2.2.1, 2, .inl fisk)), (pf, .inl (g.2.2.1, 4096, .inr (.inl wffst_16))), (pl, .inl (g.2.2.1, 4096, .inr (.inl wflst_17))), (pe, .inl (g.2.1, 4096, .inl wfbef_18)), (pm, .inl (g.2.1, 4096, .inl wfmov_19))] H := hP
    have hD : va_D A [(o, .inr (9, [.int refu, .ref pn, .ref pt, .ref pr, .ref pw, .ref pb, .int nst, .ref pk, .ref pi, .ref pf, .ref pl, .ref pe, .ref pm, .int wnn_20, .ref px, .int len, .int pos, .int gd, .int ps, .int sm])), (pn, .inl (g.2.1, 61, .inl wfnow_13)), (pb, .inl (g.2.1, 366, .inl wfbook_14)), (pk, .inl (g.2.1, 122, .inl wfkept_15)), (pi, .inl (g.2.2.2.1, 2, .inl fisk)), (pf, .inl (g.2.2.1, 4096, .inr (.inl wffst_16))), (pl, .inl (g.2.2.1, 4096, .inr (.inl wflst_17))), (pe, .inl (g.2.1, 4096, .inl wfbef_18)), (pm, .inl (g.2.1, 4096, .inl wfmov_19))] := hD
    show W p l e R s m args below meth c H locs 0 0 Q (F0 m 25 ls [])
    unfold fX9_goSetUp_L25_B at hyp
    refine lv_iload_n hx hb dX9_goSetUp_25 rfl (lv_at hl 2 rfl) ?_
    refine lv_iconst (v := 4) hx hb dX9_goSetUp_26 (by decide) ?_
    refine lv_icmp_ge (tgt := 68) hx hb dX9_goSetUp_27 (by decide) (fun h_22 => ?_) (fun h_22 => ?_)
    · replace hyp := ite_t h_22 hyp
      refine lv_aload_n hx hb dX9_goSetUp_68 rfl (lv_at hl 0 rfl) ?_
      refine lv_aload_n hx hb dX9_goSetUp_69 rfl (lv_at hl 1 rfl) ?_
      refine lv_iconst (v := 0) hx hb dX9_goSetUp_70 (by decide) ?_
      obtain ⟨r_23, hr_23, hyp⟩ := opt_e hyp
      refine wV (As := [.ref pn, .int 0]) (rest := []) ⟨hx, hb, hml, hown, hts⟩ hE (mX9_goStart l g o pn pb pk pi pf pl pe pm pt pr pw px refu nst wnn_20 len pos gd ps sm wfnow_13 wfbook_14 wfkept_15 fisk wffst_16 wflst_17 wfbef_18 wfmov_19 0 r_23 hr_23) cf_X9_goStart im_X9_goStart se_X9_goStart ml_X9_126 ⟨Nat.le_trans (Nat.le_of_ble_eq_true rfl) hRf, Nat.le_trans (Nat.le_of_ble_eq_true rfl) hRl⟩ hP hD hS hA [0, 1, 2, 3, 4, 5, 6, 7, 8] [] rfl (wr := []) rfl ⟨by decide, by decide⟩ (by decide) (ci := 9) (q0 := 0) rfl rfl rfl rfl hl.1 rfl (Nat.le_of_ble_eq_true rfl) dX9_goSetUp_71 ⟨Nat.zero_le _, Nat.zero_le _⟩ (fun H locs hP hD hS => ?_)
      have hP : va_P g.1 vwCl [(o, .inr (9, [.int refu, .ref pn, .ref pt, .ref pr, .ref pw, .ref pb, .int nst, .ref pk, .ref pi, .ref pf, .ref pl, .ref pe, .ref pm, .int r_23.2.2.2.2.2.2.2.2, .ref px, .int len, .int pos, .int gd, .int ps, .int sm])), (pn, .inl (g.2.1, 61, .inl r_23.2.1)), (pb, .inl (g.2.1, 366, .inl r_23.2.2.1)), (pk, .inl (g.2.1, 122, .inl r_23.2.2.2.1)), (pi, .inl (g.2.2.2.1, 2, .inl fisk)), (pf, .inl (g.2.2.1, 4096, .inr (.inl r_23.2.2.2.2.1))), (pl, .inl (g.2.2.1, 4096, .inr (.inl r_23.2.2.2.2.2.1))), (pe, .inl (g.2.1, 4096, .inl r_23.2.2.2.2.2.2.1)), (pm, .inl (g.2.1, 4096, .inl r_23.2.2.2.2.2.2.2.1))] H := hP
      have hD : va_D A [(o, .inr (9, [.int refu, .ref pn, .ref pt, .ref pr, .ref pw, .ref pb, .int nst, .ref pk, .ref pi, .ref pf, .ref pl, .ref pe, .ref pm, .int r_23.2.2.2.2.2.2.2.2, .ref px, .int len, .int pos, .int gd, .int ps, .int sm])), (pn, .inl (g.2.1, 61, .inl r_23.2.1)), (pb, .inl (g.2.1, 366, .inl r_23.2.2.1)), (pk, .inl (g.2.1, 122, .inl r_23.2.2.2.1)), (pi, .inl (g.2.2.2.1, 2, .inl fisk)), (pf, .inl (g.2.2.1, 4096, .inr (.inl r_23.2.2.2.2.1))), (pl, .inl (g.2.2.1, 4096, .inr (.inl r_23.2.2.2.2.2.1))), (pe, .inl (g.2.1, 4096, .inl r_23.2.2.2.2.2.2.1)), (pm, .inl (g.2.1, 4096, .inl r_23.2.2.2.2.2.2.2.1))] := hD
      refine lv_istore_n (lv' := [(2, .int r_23.1), (0, .ref o), (1, .ref pn)]) hx hb dX9_goSetUp_74 rfl hl (by decide) rfl (fun ls hl => ?_)
      refine lv_aload_n hx hb dX9_goSetUp_75 rfl (lv_at hl 2 rfl) ?_
      obtain ⟨r_24, hr_24, hyp⟩ := opt_e hyp
      refine pS (As := [.ref pn]) (rest := []) ⟨hx, hb, hml, hown, hts⟩ hE (mX9_piecesIn l g pn r_23.2.1 r_24 hr_24) cf_X9_piecesIn st_X9_piecesIn ml_X9_129 ⟨Nat.le_trans (Nat.le_of_ble_eq_true rfl) hRf, Nat.le_trans (Nat.le_of_ble_eq_true rfl) hRl⟩ (hP.sub (ws' := [(pn, .inl (g.2.1, 61, .inl r_23.2.1))]) [1] rfl) rfl hl.1 rfl (Nat.le_of_ble_eq_true rfl) dX9_goSetUp_76 ⟨Nat.zero_le _, Nat.zero_le _⟩ ?_
      have hyp := some_e hyp
      subst hyp
      subst hQ
      exact rwI hx hb hr hlocks  hP hD hS dX9_goSetUp_79
    · replace hyp := ite_f h_22 hyp
      refine lv_bipush (v := 24) hx hb dX9_goSetUp_30 (by decide) ?_
      refine lv_iload_n hx hb dX9_goSetUp_32 rfl (lv_at hl 2 rfl) ?_
      obtain ⟨r_25, hr_25, hyp⟩ := opt_e hyp
      refine pS (As := [.int 24, .int v2_12]) (rest := []) ⟨hx, hb, hml, hown, hts⟩ hE (mX9_next l g 24 v2_12 r_25 hr_25) cf_X9_next st_X9_next ml_X9_76 ⟨Nat.le_trans (Nat.le_of_ble_eq_true rfl) hRf, Nat.le_trans (Nat.le_of_ble_eq_true rfl) hRl⟩ (va_P_nil) rfl hl.1 rfl (Nat.le_of_ble_eq_true rfl) dX9_goSetUp_33 ⟨Nat.zero_le _, Nat.zero_le _⟩ ?_
      refine lv_istore_n (lv' := [(3, .int r_25), (0, .ref o), (1, .ref pn), (2, .int v2_12)]) hx hb dX9_goSetUp_36 rfl hl (by decide) rfl (fun ls hl => ?_)
      refine lv_iload_n hx hb dX9_goSetUp_37 rfl (lv_at hl 0 rfl) ?_
      refine lv_iload_n hx hb dX9_goSetUp_38 rfl (lv_at hl 3 rfl) ?_
      obtain ⟨r_26, hr_26, hyp⟩ := opt_e hyp
      refine pS (As := [.int r_25, .int v2_12]) (rest := []) ⟨hx, hb, hml, hown, hts⟩ hE (mX9_next l g r_25 v2_12 r_26 hr_26) cf_X9_next st_X9_next ml_X9_76 ⟨Nat.le_trans (Nat.le_of_ble_eq_true rfl) hRf, Nat.le_trans (Nat.le_of_ble_eq_true rfl) hRl⟩ (va_P_nil) rfl hl.1 rfl (Nat.le_of_ble_eq_true rfl) dX9_goSetUp_39 ⟨Nat.zero_le _, Nat.zero_le _⟩ ?_
      refine lv_istore (lv' := [(4, .int r_26), (3, .int r_25), (0, .ref o), (1, .ref pn), (2, .int v2_12)]) hx hb dX9_goSetUp_42 hl (by decide) rfl (fun ls hl => ?_)
      refine lv_aload_n hx hb dX9_goSetUp_44 rfl (lv_at hl 3 rfl) ?_
      refine lv_iload_n hx hb dX9_goSetUp_45 rfl (lv_at hl 1 rfl) ?_
      refine lv_iconst (v := 2) hx hb dX9_goSetUp_46 (by decide) ?_
      obtain ⟨hi, hyp⟩ := grd_e hyp
      refine va_iast hx hb hE.1 hP hD hS 1 0 rfl rfl (inB_vp hi) dX9_goSetUp_47 (fun H locs hP hD hS => ?_)
      have hP : va_P g.1 vwCl [(o, .inr (9, [.int refu, .ref pn, .ref pt, .ref pr, .ref pw, .ref pb, .int nst, .ref pk, .ref pi, .ref pf, .ref pl, .ref pe, .ref pm, .int wnn_20, .ref px, .int len, .int pos, .int gd, .int ps, .int sm])), (pn, .inl (g.2.1, 61, .inl (upd wfnow_13 r_25.toNatClampNeg 2))), (pb, .inl (g.2.1, 366, .inl wfbook_14)), (pk, .inl (g.2.1, 122, .inl wfkept_15)), (pi, .inl (g.2.2.2.1, 2, .inl fisk)), (pf, .inl (g.2.2.1, 4096, .inr (.inl wffst_16))), (pl, .inl (g.2.2.1, 4096, .inr (.inl wflst_17))), (pe, .inl (g.2.1, 4096, .inl wfbef_18)), (pm, .inl (g.2.1, 4096, .inl wfmov_19))] H := hP
      have hD : va_D A [(o, .inr (9, [.int refu, .ref pn, .ref pt, .ref pr, .ref pw, .ref pb, .int nst, .ref pk, .ref pi, .ref pf, .ref pl, .ref pe, .ref pm, .int wnn_20, .ref px, .int len, .int pos, .int gd, .int ps, .int sm])), (pn, .inl (g.2.1, 61, .inl (upd wfnow_13 r_25.toNatClampNeg 2))), (pb, .inl (g.2.1, 366, .inl wfbook_14)), (pk, .inl (g.2.1, 122, .inl wfkept_15)), (pi, .inl (g.2.2.2.1, 2, .inl fisk)), (pf, .inl (g.2.2.1, 4096, .inr (.inl wffst_16))), (pl, .inl (g.2.2.1, 4096, .inr (.inl wflst_17))), (pe, .inl (g.2.1, 4096, .inl wfbef_18)), (pm, .inl (g.2.1, 4096, .inl wfmov_19))] := hD
      refine lv_aload_n hx hb dX9_goSetUp_48 rfl (lv_at hl 3 rfl) ?_
      refine lv_iload hx hb dX9_goSetUp_49 (lv_at hl 0 rfl) ?_
      refine lv_iconst (v := 1) hx hb dX9_goSetUp_51 (by decide) ?_
      obtain ⟨hi, hyp⟩ := grd_e hyp
      refine va_iast hx hb hE.1 hP hD hS 1 0 rfl rfl (inB_vp hi) dX9_goSetUp_52 (fun H locs hP hD hS => ?_)
      have hP : va_P g.1 vwCl [(o, .inr (9, [.int refu, .ref pn, .ref pt, .ref pr, .ref pw, .ref pb, .int nst, .ref pk, .ref pi, .ref pf, .ref pl, .ref pe, .ref pm, .int wnn_20, .ref px, .int len, .int pos, .int gd, .int ps, .int sm])), (pn, .inl (g.2.1, 61, .inl (upd (upd wfnow_13 r_25.toNatClampNeg 2) r_26.toNatClampNeg 1))), (pb, .inl (g.2.1, 366, .inl wfbook_14)), (pk, .inl (g.2.1, 122, .inl wfkept_15)), (pi, .inl (g.2.2.2.1, 2, .inl fisk)), (pf, .inl (g.2.2.1, 4096, .inr (.inl wffst_16))), (pl, .inl (g.2.2.1, 4096, .inr (.inl wflst_17))), (pe, .inl (g.2.1, 4096, .inl wfbef_18)), (pm, .inl (g.2.1, 4096, .inl wfmov_19))] H := hP
      have hD : va_D A [(o, .inr (9, [.int refu, .ref pn, .ref pt, .ref pr, .ref pw, .ref pb, .int nst, .ref pk, .ref pi, .ref pf, .ref pl, .ref pe, .ref pm, .int wnn_20, .ref px, .int len, .int pos, .int gd, .int ps, .int sm])), (pn, .inl (g.2.1, 61, .inl (upd (upd wfnow_13 r_25.toNatClampNeg 2) r_26.toNatClampNeg 1))), (pb, .inl (g.2.1, 366, .inl wfbook_14)), (pk, .inl (g.2.1, 122, .inl wfkept_15)), (pi, .inl (g.2.2.2.1, 2, .inl fisk)), (pf, .inl (g.2.2.1, 4096, .inr (.inl wffst_16))), (pl, .inl (g.2.2.1, 4096, .inr (.inl wflst_17))), (pe, .inl (g.2.1, 4096, .inl wfbef_18)), (pm, .inl (g.2.1, 4096, .inl wfmov_19))] := hD
      refine lv_aload_n hx hb dX9_goSetUp_53 rfl (lv_at hl 3 rfl) ?_
      refine lv_iload hx hb dX9_goSetUp_54 (lv_at hl 0 rfl) ?_
      refine lv_iload_n hx hb dX9_goSetUp_56 rfl (lv_at hl 4 rfl) ?_
      obtain ⟨r_27, hr_27, hyp⟩ := opt_e hyp
      refine pS (As := [.int r_26, .int v2_12]) (rest := [.ref pn]) ⟨hx, hb, hml, hown, hts⟩ hE (mX9_next l g r_26 v2_12 r_27 hr_27) cf_X9_next st_X9_next ml_X9_76 ⟨Nat.le_trans (Nat.le_of_ble_eq_true rfl) hRf, Nat.le_trans (Nat.le_of_ble_eq_true rfl) hRl⟩ (va_P_nil) rfl hl.1 rfl (Nat.le_of_ble_eq_true rfl) dX9_goSetUp_57 ⟨Nat.zero_le _, Nat.zero_le _⟩ ?_
      refine lv_iconst (v := 1) hx hb dX9_goSetUp_60 (by decide) ?_
      obtain ⟨hi, hyp⟩ := grd_e hyp
      refine va_iast hx hb hE.1 hP hD hS 1 0 rfl rfl (inB_vp hi) dX9_goSetUp_61 (fun H locs hP hD hS => ?_)
      have hP : va_P g.1 vwCl [(o, .inr (9, [.int refu, .ref pn, .ref pt, .ref pr, .ref pw, .ref pb, .int nst, .ref pk, .ref pi, .ref pf, .ref pl, .ref pe, .ref pm, .int wnn_20, .ref px, .int len, .int pos, .int gd, .int ps, .int sm])), (pn, .inl (g.2.1, 61, .inl (upd (upd (upd wfnow_13 r_25.toNatClampNeg 2) r_26.toNatClampNeg 1) r_27.toNatClampNeg 1))), (pb, .inl (g.2.1, 366, .inl wfbook_14)), (pk, .inl (g.2.1, 122, .inl wfkept_15)), (pi, .inl (g.2.2.2.1, 2, .inl fisk)), (pf, .inl (g.2.2.1, 4096, .inr (.inl wffst_16))), (pl, .inl (g.2.2.1, 4096, .inr (.inl wflst_17))), (pe, .inl (g.2.1, 4096, .inl wfbef_18)), (pm, .inl (g.2.1, 4096, .inl wfmov_19))] H := hP
      have hD : va_D A [(o, .inr (9, [.int refu, .ref pn, .ref pt, .ref pr, .ref pw, .ref pb, .int nst, .ref pk, .ref pi, .ref pf, .ref pl, .ref pe, .ref pm, .int wnn_20, .ref px, .int len, .int pos, .int gd, .int ps, .int sm])), (pn, .inl (g.2.1, 61, .inl (upd (upd (upd wfnow_13 r_25.toNatClampNeg 2) r_26.toNatClampNeg 1) r_27.toNatClampNeg 1))), (pb, .inl (g.2.1, 366, .inl wfbook_14)), (pk, .inl (g.2.1, 122, .inl wfkept_15)), (pi, .inl (g.2.2.2.1, 2, .inl fisk)), (pf, .inl (g.2.2.1, 4096, .inr (.inl wffst_16))), (pl, .inl (g.2.2.1, 4096, .inr (.inl wflst_17))), (pe, .inl (g.2.1, 4096, .inl wfbef_18)), (pm, .inl (g.2.1, 4096, .inl wfmov_19))] := hD
      refine lv_iinc (v := v2_12 + 1) (lv' := [(2, .int (v2_12 + 1)), (4, .int r_26), (3, .int r_25), (0, .ref o), (1, .ref pn)]) hx hb dX9_goSetUp_62 hl (k := 4) rfl rfl (by decide) rfl (fun ls hl => ?_)
      refine lv_goto (tgt := 25) hx hb dX9_goSetUp_65 (by decide) ?_
      exact ihself_21 (v2_12 + 1) (upd (upd (upd wfnow_13 r_25.toNatClampNeg 2) r_26.toNatClampNeg 1) r_27.toNatClampNeg 1) wfbook_14 wfkept_15 wffst_16 wflst_17 wfbef_18 wfmov_19 wnn_20 hyp H locs ls (lv_sub hl [3, 4, 0] rfl) hP hD hS
  · replace hyp := ite_f h_11 hyp
    refine lv_aload_n hx hb dX9_goSetUp_8 rfl (lv_at hl 1 rfl) ?_
    refine lv_iload_n hx hb dX9_goSetUp_9 rfl (lv_at hl 2 rfl) ?_
    refine lv_iconst (v := 0) hx hb dX9_goSetUp_10 (by decide) ?_
    obtain ⟨hi, hyp⟩ := grd_e hyp
    refine va_iast hx hb hE.1 hP hD hS 1 0 rfl rfl (inB_vp hi) dX9_goSetUp_11 (fun H locs hP hD hS => ?_)
    have hP : va_P g.1 vwCl [(o, .inr (9, [.int refu, .ref pn, .ref pt, .ref pr, .ref pw, .ref pb, .int nst, .ref pk, .ref pi, .ref pf, .ref pl, .ref pe, .ref pm, .int wnn_9, .ref px, .int len, .int pos, .int gd, .int ps, .int sm])), (pn, .inl (g.2.1, 61, .inl (upd wfnow_2 v2_1.toNatClampNeg 0))), (pb, .inl (g.2.1, 366, .inl wfbook_3)), (pk, .inl (g.2.1, 122, .inl wfkept_4)), (pi, .inl (g.2.2.2.1, 2, .inl fisk)), (pf, .inl (g.2.2.1, 4096, .inr (.inl wffst_5))), (pl, .inl (g.2.2.1, 4096, .inr (.inl wflst_6))), (pe, .inl (g.2.1, 4096, .inl wfbef_7)), (pm, .inl (g.2.1, 4096, .inl wfmov_8))] H := hP
    have hD : va_D A [(o, .inr (9, [.int refu, .ref pn, .ref pt, .ref pr, .ref pw, .ref pb, .int nst, .ref pk, .ref pi, .ref pf, .ref pl, .ref pe, .ref pm, .int wnn_9, .ref px, .int len, .int pos, .int gd, .int ps, .int sm])), (pn, .inl (g.2.1, 61, .inl (upd wfnow_2 v2_1.toNatClampNeg 0))), (pb, .inl (g.2.1, 366, .inl wfbook_3)), (pk, .inl (g.2.1, 122, .inl wfkept_4)), (pi, .inl (g.2.2.2.1, 2, .inl fisk)), (pf, .inl (g.2.2.1, 4096, .inr (.inl wffst_5))), (pl, .inl (g.2.2.1, 4096, .inr (.inl wflst_6))), (pe, .inl (g.2.1, 4096, .inl wfbef_7)), (pm, .inl (g.2.1, 4096, .inl wfmov_8))] := hD
    refine lv_iinc (v := v2_1 + 1) (lv' := [(2, .int (v2_1 + 1)), (0, .ref o), (1, .ref pn)]) hx hb dX9_goSetUp_12 hl (k := 2) rfl rfl (by decide) rfl (fun ls hl => ?_)
    refine lv_goto (tgt := 2) hx hb dX9_goSetUp_15 (by decide) ?_
    exact ihself_10 (v2_1 + 1) (upd wfnow_2 v2_1.toNatClampNeg 0) wfbook_3 wfkept_4 wffst_5 wflst_6 wfbef_7 wfmov_8 wnn_9 hyp H locs ls (lv_sub hl [1, 2, 0] rfl) hP hD hS

def fX9_goMoveN (nst : Int32) (nn : Int32) (fnow : Nat → Int32) (fbook : Nat → Int32) (fkept : Nat → Int32) (fisk : Nat → Int32) (ffst : Nat → Int64) (flst : Nat → Int64) (fbef : Nat → Int32) (fmov : Nat → Int32) (a1 : Int32) (a2 : Int32) : Option (Int32 × (Nat → Int32) × (Nat → Int32) × (Nat → Int32) × (Nat → Int64) × (Nat → Int64) × (Nat → Int32) × (Nat → Int32) × Int32) :=
  grd (inB 49 61) (bnd (fnow (49 : Int32).toNatClampNeg) (fun (v4_1 : Int32) => (fX9_step fnow a1 a2).bind (fun (r_2 : Int32 × (Nat → Int32)) => (fX9_wonBy r_2.2 v4_1).bind (fun (r_3 : Int32) => grd (inB 53 61) (grd (inB 53 61) (grd (inB 54 61) (grd (inB 54 61) (grd (inB 49 61) (grd (inB 60 61) ((fX9_noteN nst nn (upd (upd (upd r_2.2 (53 : Int32).toNatClampNeg ((r_2.2 (53 : Int32).toNatClampNeg) + 1)) (54 : Int32).toNatClampNeg (((upd r_2.2 (53 : Int32).toNatClampNeg ((r_2.2 (53 : Int32).toNatClampNeg) + 1)) (54 : Int32).toNatClampNeg) + 1)) (49 : Int32).toNatClampNeg (1 - v4_1)) fbook fkept fisk ffst flst fbef fmov ((upd (upd (upd r_2.2 (53 : Int32).toNatClampNeg ((r_2.2 (53 : Int32).toNatClampNeg) + 1)) (54 : Int32).toNatClampNeg (((upd r_2.2 (53 : Int32).toNatClampNeg ((r_2.2 (53 : Int32).toNatClampNeg) + 1)) (54 : Int32).toNatClampNeg) + 1)) (49 : Int32).toNatClampNeg (1 - v4_1)) (60 : Int32).toNatClampNeg)).bind (fun (r_4 : (Nat → Int32) × (Nat → Int32) × (Nat → Int32) × (Nat → Int64) × (Nat → Int64) × (Nat → Int32) × (Nat → Int32) × Int32) => if r_3 = (-1) then ((fX9_seen r_4.2.2.2.1 r_4.2.2.2.2.1 r_4.2.2.2.2.2.1 r_4.1).bind (fun (r_6 : Int32) => if r_6 = 3 then (grd (inB 50 61) (grd (inB 57 61) (grd (inB 57 61) (some (r_2.1, upd (upd r_4.1 (50 : Int32).toNatClampNeg 4) (57 : Int32).toNatClampNeg (((upd r_4.1 (50 : Int32).toNatClampNeg 4) (57 : Int32).toNatClampNeg) + 1), r_4.2.1, r_4.2.2.1, r_4.2.2.2.1, r_4.2.2.2.2.1, r_4.2.2.2.2.2.1, r_4.2.2.2.2.2.2.1, r_4.2.2.2.2.2.2.2))))) else (some (r_2.1, r_4.1, r_4.2.1, r_4.2.2.1, r_4.2.2.2.1, r_4.2.2.2.2.1, r_4.2.2.2.2.2.1, r_4.2.2.2.2.2.2.1, r_4.2.2.2.2.2.2.2)))) else (grd (inB 50 61) (grd (inB (55 + r_3) 61) (grd (inB (55 + r_3) 61) (some (r_2.1, upd (upd r_4.1 (50 : Int32).toNatClampNeg (2 + r_3)) (55 + r_3).toNatClampNeg (((upd r_4.1 (50 : Int32).toNatClampNeg (2 + r_3)) (55 + r_3).toNatClampNeg) + 1), r_4.2.1, r_4.2.2.1, r_4.2.2.2.1, r_4.2.2.2.2.1, r_4.2.2.2.2.2.1, r_4.2.2.2.2.2.2.1, r_4.2.2.2.2.2.2.2))))))))))))))))
set_option maxRecDepth 100000 in
set_option maxHeartbeats 4000000 in
theorem mX9_goMoveN (l : Launch) (g : GE) (o pn pb pk pi pf pl pe pm pt pr pw px : Nat) (refu : Int32) (nst : Int32) (nn : Int32) (len : Int32) (pos : Int32) (gd : Int32) (ps : Int32) (sm : Int32) (fnow : Nat → Int32) (fbook : Nat → Int32) (fkept : Nat → Int32) (fisk : Nat → Int32) (ffst : Nat → Int64) (flst : Nat → Int64) (fbef : Nat → Int32) (fmov : Nat → Int32) (a1 : Int32) (a2 : Int32) (r : Int32 × (Nat → Int32) × (Nat → Int32) × (Nat → Int32) × (Nat → Int64) × (Nat → Int64) × (Nat → Int32) × (Nat → Int32) × Int32) (hyp : fX9_goMoveN nst nn fnow fbook fkept fisk ffst flst fbef fmov a1 a2 = some r) : WM l yX9_goMove cX9_goMove 7 (some .int) 6 138 g [(o, .inr (9, [.int refu, .ref pn, .ref pt, .ref pr, .ref pw, .ref pb, .int nst, .ref pk, .ref pi, .ref pf, .ref pl, .ref pe, .ref pm, .int nn, .ref px, .int len, .int pos, .int gd, .int ps, .int sm])), (pn, .inl (g.2.1, 61, .inl fnow)), (pb, .inl (g.2.1, 366, .inl fbook)), (pk, .inl (g.2.1, 122, .inl fkept)), (pi, .inl (g.2.2.2.1, 2, .inl fisk)), (pf, .inl (g.2.2.1, 4096, .inr (.inl ffst))), (pl, .inl (g.2.2.1, 4096, .inr (.inl flst))), (pe, .inl (g.2.1, 4096, .inl fbef)), (pm, .inl (g.2.1, 4096, .inl fmov))] [.ref o, .ref pn, .int a1, .int a2] (some (.int r.1)) [(o, .inr (9, [.int refu, .ref pn, .ref pt, .ref pr, .ref pw, .ref pb, .int nst, .ref pk, .ref pi, .ref pf, .ref pl, .ref pe, .ref pm, .int r.2.2.2.2.2.2.2.2, .ref px, .int len, .int pos, .int gd, .int ps, .int sm])), (pn, .inl (g.2.1, 61, .inl r.2.1)), (pb, .inl (g.2.1, 366, .inl r.2.2.1)), (pk, .inl (g.2.1, 122, .inl r.2.2.2.1)), (pi, .inl (g.2.2.2.1, 2, .inl fisk)), (pf, .inl (g.2.2.1, 4096, .inr (.inl r.2.2.2.2.1))), (pl, .inl (g.2.2.1, 4096, .inr (.inl r.2.2.2.2.2.1))), (pe, .inl (g.2.1, 4096, .inl r.2.2.2.2.2.2.1)), (pm, .inl (g.2.1, 4096, .inl r.2.2.2.2.2.2.2.1))] := by
  refine metW_intro (by decide) rfl ?_
  intro p e R s m args below meth c Q A hRf hRl hQ hx hb hml hr hlocks hown hts hin hE hA H locs hP hD hS ls hl
  have hown : s.vm.findClass "HallGuardsModel" = some m.cls := hown
  have hl : lv_has ls 7 [(0, .ref o), (1, .ref pn), (2, .int a1), (3, .int a2)] := hl
  unfold fX9_goMoveN at hyp
  refine lv_aload_n hx hb dX9_goMove_0 rfl (lv_at hl 1 rfl) ?_
  refine lv_bipush (v := 49) hx hb dX9_goMove_1 (by decide) ?_
  obtain ⟨hi, hyp⟩ := grd_e hyp
  refine va_iald hx hb hE.1 hP 1 0 rfl rfl (inB_vp hi) dX9_goMove_3 ?_
  obtain ⟨v4_1, ev4_1, hyp⟩ := bnd_e hyp
  refine lv_eqi ev4_1 ?_
  refine lv_istore (lv' := [(4, .int v4_1), (0, .ref o), (1, .ref pn), (2, .int a1), (3, .int a2)]) hx hb dX9_goMove_4 hl (by decide) rfl (fun ls hl => ?_)
  refine lv_aload_n hx hb dX9_goMove_6 rfl (lv_at hl 2 rfl) ?_
  refine lv_iload_n hx hb dX9_goMove_7 rfl (lv_at hl 3 rfl) ?_
  refine lv_iload_n hx hb dX9_goMove_8 rfl (lv_at hl 4 rfl) ?_
  obtain ⟨r_2, hr_2, hyp⟩ := opt_e hyp
  refine wS (As := [.ref pn, .int a1, .int a2]) (rest := []) ⟨hx, hb, hml, hown, hts⟩ hE (mX9_step l g pn fnow a1 a2 r_2 hr_2) cf_X9_step st_X9_step ml_X9_136 ⟨Nat.le_trans (Nat.le_of_ble_eq_true rfl) hRf, Nat.le_trans (Nat.le_of_ble_eq_true rfl) hRl⟩ hP hD hS hA [1] [0, 2, 3, 4, 5, 6, 7, 8] rfl (wr := [(o, .inr (9, [.int refu, .ref pn, .ref pt, .ref pr, .ref pw, .ref pb, .int nst, .ref pk, .ref pi, .ref pf, .ref pl, .ref pe, .ref pm, .int nn, .ref px, .int len, .int pos, .int gd, .int ps, .int sm])), (pb, .inl (g.2.1, 366, .inl fbook)), (pk, .inl (g.2.1, 122, .inl fkept)), (pi, .inl (g.2.2.2.1, 2, .inl fisk)), (pf, .inl (g.2.2.1, 4096, .inr (.inl ffst))), (pl, .inl (g.2.2.1, 4096, .inr (.inl flst))), (pe, .inl (g.2.1, 4096, .inl fbef)), (pm, .inl (g.2.1, 4096, .inl fmov))]) rfl ⟨by decide, by decide⟩ (by decide) rfl hl.1 rfl (Nat.le_of_ble_eq_true rfl) dX9_goMove_9 ⟨Nat.zero_le _, Nat.zero_le _⟩ (fun H locs hP hD hS => ?_)
  have hP : va_P g.1 vwCl [(o, .inr (9, [.int refu, .ref pn, .ref pt, .ref pr, .ref pw, .ref pb, .int nst, .ref pk, .ref pi, .ref pf, .ref pl, .ref pe, .ref pm, .int nn, .ref px, .int len, .int pos, .int gd, .int ps, .int sm])), (pb, .inl (g.2.1, 366, .inl fbook)), (pk, .inl (g.2.1, 122, .inl fkept)), (pi, .inl (g.2.2.2.1, 2, .inl fisk)), (pf, .inl (g.2.2.1, 4096, .inr (.inl ffst))), (pl, .inl (g.2.2.1, 4096, .inr (.inl flst))), (pe, .inl (g.2.1, 4096, .inl fbef)), (pm, .inl (g.2.1, 4096, .inl fmov)), (pn, .inl (g.2.1, 61, .inl r_2.2))] H := hP
  have hD : va_D A [(o, .inr (9, [.int refu, .ref pn, .ref pt, .ref pr, .ref pw, .ref pb, .int nst, .ref pk, .ref pi, .ref pf, .ref pl, .ref pe, .ref pm, .int nn, .ref px, .int len, .int pos, .int gd, .int ps, .int sm])), (pb, .inl (g.2.1, 366, .inl fbook)), (pk, .inl (g.2.1, 122, .inl fkept)), (pi, .inl (g.2.2.2.1, 2, .inl fisk)), (pf, .inl (g.2.2.1, 4096, .inr (.inl ffst))), (pl, .inl (g.2.2.1, 4096, .inr (.inl flst))), (pe, .inl (g.2.1, 4096, .inl fbef)), (pm, .inl (g.2.1, 4096, .inl fmov)), (pn, .inl (g.2.1, 61, .inl r_2.2))] := hD
  refine lv_istore (lv' := [(5, .int r_2.1), (4, .int v4_1), (0, .ref o), (1, .ref pn), (2, .int a1), (3, .int a2)]) hx hb dX9_goMove_12 hl (by decide) rfl (fun ls hl => ?_)
  refine lv_aload_n hx hb dX9_goMove_14 rfl (lv_at hl 3 rfl) ?_
  refine lv_iload hx hb dX9_goMove_15 (lv_at hl 1 rfl) ?_
  obtain ⟨r_3, hr_3, hyp⟩ := opt_e hyp
  refine pS (As := [.ref pn, .int v4_1]) (rest := []) ⟨hx, hb, hml, hown, hts⟩ hE (mX9_wonBy l g pn r_2.2 v4_1 r_3 hr_3) cf_X9_wonBy st_X9_wonBy ml_X9_139 ⟨Nat.le_trans (Nat.le_of_ble_eq_true rfl) hRf, Nat.le_trans (Nat.le_of_ble_eq_true rfl) hRl⟩ (hP.sub (ws' := [(pn, .inl (g.2.1, 61, .inl r_2.2))]) [8] rfl) rfl hl.1 rfl (Nat.le_of_ble_eq_true rfl) dX9_goMove_17 ⟨Nat.zero_le _, Nat.zero_le _⟩ ?_
  refine lv_istore (lv' := [(6, .int r_3), (5, .int r_2.1), (4, .int v4_1), (0, .ref o), (1, .ref pn), (2, .int a1), (3, .int a2)]) hx hb dX9_goMove_20 hl (by decide) rfl (fun ls hl => ?_)
  refine lv_aload_n hx hb dX9_goMove_22 rfl (lv_at hl 4 rfl) ?_
  refine lv_bipush (v := 53) hx hb dX9_goMove_23 (by decide) ?_
  refine lv_dup2_11 hx hb dX9_goMove_25 rfl rfl ?_
  obtain ⟨hi, hyp⟩ := grd_e hyp
  refine va_iald hx hb hE.1 hP 8 0 rfl rfl (inB_vp hi) dX9_goMove_26 ?_
  refine lv_iconst (v := 1) hx hb dX9_goMove_27 (by decide) ?_
  refine lv_iadd hx hb dX9_goMove_28 ?_
  obtain ⟨hi, hyp⟩ := grd_e hyp
  refine va_iast hx hb hE.1 hP hD hS 8 0 rfl rfl (inB_vp hi) dX9_goMove_29 (fun H locs hP hD hS => ?_)
  have hP : va_P g.1 vwCl [(o, .inr (9, [.int refu, .ref pn, .ref pt, .ref pr, .ref pw, .ref pb, .int nst, .ref pk, .ref pi, .ref pf, .ref pl, .ref pe, .ref pm, .int nn, .ref px, .int len, .int pos, .int gd, .int ps, .int sm])), (pb, .inl (g.2.1, 366, .inl fbook)), (pk, .inl (g.2.1, 122, .inl fkept)), (pi, .inl (g.2.2.2.1, 2, .inl fisk)), (pf, .inl (g.2.2.1, 4096, .inr (.inl ffst))), (pl, .inl (g.2.2.1, 4096, .inr (.inl flst))), (pe, .inl (g.2.1, 4096, .inl fbef)), (pm, .inl (g.2.1, 4096, .inl fmov)), (pn, .inl (g.2.1, 61, .inl (upd r_2.2 (53 : Int32).toNatClampNeg ((r_2.2 (53 : Int32).toNatClampNeg) + 1))))] H := hP
  have hD : va_D A [(o, .inr (9, [.int refu, .ref pn, .ref pt, .ref pr, .ref pw, .ref pb, .int nst, .ref pk, .ref pi, .ref pf, .ref pl, .ref pe, .ref pm, .int nn, .ref px, .int len, .int pos, .int gd, .int ps, .int sm])), (pb, .inl (g.2.1, 366, .inl fbook)), (pk, .inl (g.2.1, 122, .inl fkept)), (pi, .inl (g.2.2.2.1, 2, .inl fisk)), (pf, .inl (g.2.2.1, 4096, .inr (.inl ffst))), (pl, .inl (g.2.2.1, 4096, .inr (.inl flst))), (pe, .inl (g.2.1, 4096, .inl fbef)), (pm, .inl (g.2.1, 4096, .inl fmov)), (pn, .inl (g.2.1, 61, .inl (upd r_2.2 (53 : Int32).toNatClampNeg ((r_2.2 (53 : Int32).toNatClampNeg) + 1))))] := hD
  refine lv_aload_n hx hb dX9_goMove_30 rfl (lv_at hl 4 rfl) ?_
  refine lv_bipush (v := 54) hx hb dX9_goMove_31 (by decide) ?_
  refine lv_dup2_11 hx hb dX9_goMove_33 rfl rfl ?_
  obtain ⟨hi, hyp⟩ := grd_e hyp
  refine va_iald hx hb hE.1 hP 8 0 rfl rfl (inB_vp hi) dX9_goMove_34 ?_
  refine lv_iconst (v := 1) hx hb dX9_goMove_35 (by decide) ?_
  refine lv_iadd hx hb dX9_goMove_36 ?_
  obtain ⟨hi, hyp⟩ := grd_e hyp
  refine va_iast hx hb hE.1 hP hD hS 8 0 rfl rfl (inB_vp hi) dX9_goMove_37 (fun H locs hP hD hS => ?_)
  have hP : va_P g.1 vwCl [(o, .inr (9, [.int refu, .ref pn, .ref pt, .ref pr, .ref pw, .ref pb, .int nst, .ref pk, .ref pi, .ref pf, .ref pl, .ref pe, .ref pm, .int nn, .ref px, .int len, .int pos, .int gd, .int ps, .int sm])), (pb, .inl (g.2.1, 366, .inl fbook)), (pk, .inl (g.2.1, 122, .inl fkept)), (pi, .inl (g.2.2.2.1, 2, .inl fisk)), (pf, .inl (g.2.2.1, 4096, .inr (.inl ffst))), (pl, .inl (g.2.2.1, 4096, .inr (.inl flst))), (pe, .inl (g.2.1, 4096, .inl fbef)), (pm, .inl (g.2.1, 4096, .inl fmov)), (pn, .inl (g.2.1, 61, .inl (upd (upd r_2.2 (53 : Int32).toNatClampNeg ((r_2.2 (53 : Int32).toNatClampNeg) + 1)) (54 : Int32).toNatClampNeg (((upd r_2.2 (53 : Int32).toNatClampNeg ((r_2.2 (53 : Int32).toNatClampNeg) + 1)) (54 : Int32).toNatClampNeg) + 1))))] H := hP
  have hD : va_D A [(o, .inr (9, [.int refu, .ref pn, .ref pt, .ref pr, .ref pw, .ref pb, .int nst, .ref pk, .ref pi, .ref pf, .ref pl, .ref pe, .ref pm, .int nn, .ref px, .int len, .int pos, .int gd, .int ps, .int sm])), (pb, .inl (g.2.1, 366, .inl fbook)), (pk, .inl (g.2.1, 122, .inl fkept)), (pi, .inl (g.2.2.2.1, 2, .inl fisk)), (pf, .inl (g.2.2.1, 4096, .inr (.inl ffst))), (pl, .inl (g.2.2.1, 4096, .inr (.inl flst))), (pe, .inl (g.2.1, 4096, .inl fbef)), (pm, .inl (g.2.1, 4096, .inl fmov)), (pn, .inl (g.2.1, 61, .inl (upd (upd r_2.2 (53 : Int32).toNatClampNeg ((r_2.2 (53 : Int32).toNatClampNeg) + 1)) (54 : Int32).toNatClampNeg (((upd r_2.2 (53 : Int32).toNatClampNeg ((r_2.2 (53 : Int32).toNatClampNeg) + 1)) (54 : Int32).toNatClampNeg) + 1))))] := hD
  refine lv_aload_n hx hb dX9_goMove_38 rfl (lv_at hl 4 rfl) ?_
  refine lv_bipush (v := 49) hx hb dX9_goMove_39 (by decide) ?_
  refine lv_iconst (v := 1) hx hb dX9_goMove_41 (by decide) ?_
  refine lv_iload hx hb dX9_goMove_42 (lv_at hl 2 rfl) ?_
  refine lv_isub hx hb dX9_goMove_44 ?_
  obtain ⟨hi, hyp⟩ := grd_e hyp
  refine va_iast hx hb hE.1 hP hD hS 8 0 rfl rfl (inB_vp hi) dX9_goMove_45 (fun H locs hP hD hS => ?_)
  have hP : va_P g.1 vwCl [(o, .inr (9, [.int refu, .ref pn, .ref pt, .ref pr, .ref pw, .ref pb, .int nst, .ref pk, .ref pi, .ref pf, .ref pl, .ref pe, .ref pm, .int nn, .ref px, .int len, .int pos, .int gd, .int ps, .int sm])), (pb, .inl (g.2.1, 366, .inl fbook)), (pk, .inl (g.2.1, 122, .inl fkept)), (pi, .inl (g.2.2.2.1, 2, .inl fisk)), (pf, .inl (g.2.2.1, 4096, .inr (.inl ffst))), (pl, .inl (g.2.2.1, 4096, .inr (.inl flst))), (pe, .inl (g.2.1, 4096, .inl fbef)), (pm, .inl (g.2.1, 4096, .inl fmov)), (pn, .inl (g.2.1, 61, .inl (upd (upd (upd r_2.2 (53 : Int32).toNatClampNeg ((r_2.2 (53 : Int32).toNatClampNeg) + 1)) (54 : Int32).toNatClampNeg (((upd r_2.2 (53 : Int32).toNatClampNeg ((r_2.2 (53 : Int32).toNatClampNeg) + 1)) (54 : Int32).toNatClampNeg) + 1)) (49 : Int32).toNatClampNeg (1 - v4_1))))] H := hP
  have hD : va_D A [(o, .inr (9, [.int refu, .ref pn, .ref pt, .ref pr, .ref pw, .ref pb, .int nst, .ref pk, .ref pi, .ref pf, .ref pl, .ref pe, .ref pm, .int nn, .ref px, .int len, .int pos, .int gd, .int ps, .int sm])), (pb, .inl (g.2.1, 366, .inl fbook)), (pk, .inl (g.2.1, 122, .inl fkept)), (pi, .inl (g.2.2.2.1, 2, .inl fisk)), (pf, .inl (g.2.2.1, 4096, .inr (.inl ffst))), (pl, .inl (g.2.2.1, 4096, .inr (.inl flst))), (pe, .inl (g.2.1, 4096, .inl fbef)), (pm, .inl (g.2.1, 4096, .inl fmov)), (pn, .inl (g.2.1, 61, .inl (upd (upd (upd r_2.2 (53 : Int32).toNatClampNeg ((r_2.2 (53 : Int32).toNatClampNeg) + 1)) (54 : Int32).toNatClampNeg (((upd r_2.2 (53 : Int32).toNatClampNeg ((r_2.2 (53 : Int32).toNatClampNeg) + 1)) (54 : Int32).toNatClampNeg) + 1)) (49 : Int32).toNatClampNeg (1 - v4_1))))] := hD
  refine lv_aload_n hx hb dX9_goMove_46 rfl (lv_at hl 3 rfl) ?_
  refine lv_aload_n hx hb dX9_goMove_47 rfl (lv_at hl 4 rfl) ?_
  refine lv_aload_n hx hb dX9_goMove_48 rfl (lv_at hl 4 rfl) ?_
  refine lv_bipush (v := 60) hx hb dX9_goMove_49 (by decide) ?_
  obtain ⟨hi, hyp⟩ := grd_e hyp
  refine va_iald hx hb hE.1 hP 8 0 rfl rfl (inB_vp hi) dX9_goMove_51 ?_
  obtain ⟨r_4, hr_4, hyp⟩ := opt_e hyp
  refine wV (As := [.ref pn, .int ((upd (upd (upd r_2.2 (53 : Int32).toNatClampNeg ((r_2.2 (53 : Int32).toNatClampNeg) + 1)) (54 : Int32).toNatClampNeg (((upd r_2.2 (53 : Int32).toNatClampNeg ((r_2.2 (53 : Int32).toNatClampNeg) + 1)) (54 : Int32).toNatClampNeg) + 1)) (49 : Int32).toNatClampNeg (1 - v4_1)) (60 : Int32).toNatClampNeg)]) (rest := []) ⟨hx, hb, hml, hown, hts⟩ hE (mX9_noteN l g o pn pb pk pi pf pl pe pm pt pr pw px refu nst nn len pos gd ps sm (upd (upd (upd r_2.2 (53 : Int32).toNatClampNeg ((r_2.2 (53 : Int32).toNatClampNeg) + 1)) (54 : Int32).toNatClampNeg (((upd r_2.2 (53 : Int32).toNatClampNeg ((r_2.2 (53 : Int32).toNatClampNeg) + 1)) (54 : Int32).toNatClampNeg) + 1)) (49 : Int32).toNatClampNeg (1 - v4_1)) fbook fkept fisk ffst flst fbef fmov ((upd (upd (upd r_2.2 (53 : Int32).toNatClampNeg ((r_2.2 (53 : Int32).toNatClampNeg) + 1)) (54 : Int32).toNatClampNeg (((upd r_2.2 (53 : Int32).toNatClampNeg ((r_2.2 (53 : Int32).toNatClampNeg) + 1)) (54 : Int32).toNatClampNeg) + 1)) (49 : Int32).toNatClampNeg (1 - v4_1)) (60 : Int32).toNatClampNeg) r_4 hr_4) cf_X9_note im_X9_note se_X9_note ml_X9_122 ⟨Nat.le_trans (Nat.le_of_ble_eq_true rfl) hRf, Nat.le_trans (Nat.le_of_ble_eq_true rfl) hRl⟩ hP hD hS hA [0, 8, 1, 2, 3, 4, 5, 6, 7] [] rfl (wr := []) rfl ⟨by decide, by decide⟩ (by decide) (ci := 9) (q0 := 0) rfl rfl rfl rfl hl.1 rfl (Nat.le_of_ble_eq_true rfl) dX9_goMove_52 ⟨Nat.zero_le _, Nat.zero_le _⟩ (fun H locs hP hD hS => ?_)
  have hP : va_P g.1 vwCl [(o, .inr (9, [.int refu, .ref pn, .ref pt, .ref pr, .ref pw, .ref pb, .int nst, .ref pk, .ref pi, .ref pf, .ref pl, .ref pe, .ref pm, .int r_4.2.2.2.2.2.2.2, .ref px, .int len, .int pos, .int gd, .int ps, .int sm])), (pn, .inl (g.2.1, 61, .inl r_4.1)), (pb, .inl (g.2.1, 366, .inl r_4.2.1)), (pk, .inl (g.2.1, 122, .inl r_4.2.2.1)), (pi, .inl (g.2.2.2.1, 2, .inl fisk)), (pf, .inl (g.2.2.1, 4096, .inr (.inl r_4.2.2.2.1))), (pl, .inl (g.2.2.1, 4096, .inr (.inl r_4.2.2.2.2.1))), (pe, .inl (g.2.1, 4096, .inl r_4.2.2.2.2.2.1)), (pm, .inl (g.2.1, 4096, .inl r_4.2.2.2.2.2.2.1))] H := hP
  have hD : va_D A [(o, .inr (9, [.int refu, .ref pn, .ref pt, .ref pr, .ref pw, .ref pb, .int nst, .ref pk, .ref pi, .ref pf, .ref pl, .ref pe, .ref pm, .int r_4.2.2.2.2.2.2.2, .ref px, .int len, .int pos, .int gd, .int ps, .int sm])), (pn, .inl (g.2.1, 61, .inl r_4.1)), (pb, .inl (g.2.1, 366, .inl r_4.2.1)), (pk, .inl (g.2.1, 122, .inl r_4.2.2.1)), (pi, .inl (g.2.2.2.1, 2, .inl fisk)), (pf, .inl (g.2.2.1, 4096, .inr (.inl r_4.2.2.2.1))), (pl, .inl (g.2.2.1, 4096, .inr (.inl r_4.2.2.2.2.1))), (pe, .inl (g.2.1, 4096, .inl r_4.2.2.2.2.2.1)), (pm, .inl (g.2.1, 4096, .inl r_4.2.2.2.2.2.2.1))] := hD
  refine lv_iload hx hb dX9_goMove_55 (lv_at hl 0 rfl) ?_
  refine lv_iconst (v := (-1)) hx hb dX9_goMove_57 (by decide) ?_
  refine lv_icmp_eq (tgt := 83) hx hb dX9_goMove_58 (by decide) (fun h_5 => ?_) (fun h_5 => ?_)
  · replace hyp := ite_t h_5 hyp
    refine lv_aload_n hx hb dX9_goMove_83 rfl (lv_at hl 3 rfl) ?_
    refine lv_aload_n hx hb dX9_goMove_84 rfl (lv_at hl 4 rfl) ?_
    obtain ⟨r_6, hr_6, hyp⟩ := opt_e hyp
    refine pV (As := [.ref pn]) (rest := []) ⟨hx, hb, hml, hown, hts⟩ hE (mX9_seen l g o pf pl pe pn pn pt pr pw pb pk pi pm px refu nst r_4.2.2.2.2.2.2.2 len pos gd ps sm r_4.2.2.2.1 r_4.2.2.2.2.1 r_4.2.2.2.2.2.1 r_4.1 r_6 hr_6) cf_X9_seen im_X9_seen se_X9_seen ml_X9_142 ⟨Nat.le_trans (Nat.le_of_ble_eq_true rfl) hRf, Nat.le_trans (Nat.le_of_ble_eq_true rfl) hRl⟩ (hP.sub (ws' := [(o, .inr (9, [.int refu, .ref pn, .ref pt, .ref pr, .ref pw, .ref pb, .int nst, .ref pk, .ref pi, .ref pf, .ref pl, .ref pe, .ref pm, .int r_4.2.2.2.2.2.2.2, .ref px, .int len, .int pos, .int gd, .int ps, .int sm])), (pf, .inl (g.2.2.1, 4096, .inr (.inl r_4.2.2.2.1))), (pl, .inl (g.2.2.1, 4096, .inr (.inl r_4.2.2.2.2.1))), (pe, .inl (g.2.1, 4096, .inl r_4.2.2.2.2.2.1)), (pn, .inl (g.2.1, 61, .inl r_4.1))]) [0, 5, 6, 7, 1] rfl) (ci := 9) (q0 := 0) rfl rfl rfl rfl hl.1 rfl (Nat.le_of_ble_eq_true rfl) dX9_goMove_85 ⟨Nat.zero_le _, Nat.zero_le _⟩ ?_
    refine lv_iconst (v := 3) hx hb dX9_goMove_88 (by decide) ?_
    refine lv_icmp_ne (tgt := 105) hx hb dX9_goMove_89 (by decide) (fun h_7 => ?_) (fun h_7 => ?_)
    · replace hyp := ite_f h_7 hyp
      refine lv_iload hx hb dX9_goMove_105 (lv_at hl 1 rfl) ?_
      have hyp := some_e hyp
      subst hyp
      subst hQ
      exact rwI hx hb hr hlocks  hP hD hS dX9_goMove_107
    · replace hyp := ite_t h_7 hyp
      refine lv_aload_n hx hb dX9_goMove_92 rfl (lv_at hl 4 rfl) ?_
      refine lv_bipush (v := 50) hx hb dX9_goMove_93 (by decide) ?_
      refine lv_iconst (v := 4) hx hb dX9_goMove_95 (by decide) ?_
      obtain ⟨hi, hyp⟩ := grd_e hyp
      refine va_iast hx hb hE.1 hP hD hS 1 0 rfl rfl (inB_vp hi) dX9_goMove_96 (fun H locs hP hD hS => ?_)
      have hP : va_P g.1 vwCl [(o, .inr (9, [.int refu, .ref pn, .ref pt, .ref pr, .ref pw, .ref pb, .int nst, .ref pk, .ref pi, .ref pf, .ref pl, .ref pe, .ref pm, .int r_4.2.2.2.2.2.2.2, .ref px, .int len, .int pos, .int gd, .int ps, .int sm])), (pn, .inl (g.2.1, 61, .inl (upd r_4.1 (50 : Int32).toNatClampNeg 4))), (pb, .inl (g.2.1, 366, .inl r_4.2.1)), (pk, .inl (g.2.1, 122, .inl r_4.2.2.1)), (pi, .inl (g.2.2.2.1, 2, .inl fisk)), (pf, .inl (g.2.2.1, 4096, .inr (.inl r_4.2.2.2.1))), (pl, .inl (g.2.2.1, 4096, .inr (.inl r_4.2.2.2.2.1))), (pe, .inl (g.2.1, 4096, .inl r_4.2.2.2.2.2.1)), (pm, .inl (g.2.1, 4096, .inl r_4.2.2.2.2.2.2.1))] H := hP
      have hD : va_D A [(o, .inr (9, [.int refu, .ref pn, .ref pt, .ref pr, .ref pw, .ref pb, .int nst, .ref pk, .ref pi, .ref pf, .ref pl, .ref pe, .ref pm, .int r_4.2.2.2.2.2.2.2, .ref px, .int len, .int pos, .int gd, .int ps, .int sm])), (pn, .inl (g.2.1, 61, .inl (upd r_4.1 (50 : Int32).toNatClampNeg 4))), (pb, .inl (g.2.1, 366, .inl r_4.2.1)), (pk, .inl (g.2.1, 122, .inl r_4.2.2.1)), (pi, .inl (g.2.2.2.1, 2, .inl fisk)), (pf, .inl (g.2.2.1, 4096, .inr (.inl r_4.2.2.2.1))), (pl, .inl (g.2.2.1, 4096, .inr (.inl r_4.2.2.2.2.1))), (pe, .inl (g.2.1, 4096, .inl r_4.2.2.2.2.2.1)), (pm, .inl (g.2.1, 4096, .inl r_4.2.2.2.2.2.2.1))] := hD
      refine lv_aload_n hx hb dX9_goMove_97 rfl (lv_at hl 4 rfl) ?_
      refine lv_bipush (v := 57) hx hb dX9_goMove_98 (by decide) ?_
      refine lv_dup2_11 hx hb dX9_goMove_100 rfl rfl ?_
      obtain ⟨hi, hyp⟩ := grd_e hyp
      refine va_iald hx hb hE.1 hP 1 0 rfl rfl (inB_vp hi) dX9_goMove_101 ?_
      refine lv_iconst (v := 1) hx hb dX9_goMove_102 (by decide) ?_
      refine lv_iadd hx hb dX9_goMove_103 ?_
      obtain ⟨hi, hyp⟩ := grd_e hyp
      refine va_iast hx hb hE.1 hP hD hS 1 0 rfl rfl (inB_vp hi) dX9_goMove_104 (fun H locs hP hD hS => ?_)
      have hP : va_P g.1 vwCl [(o, .inr (9, [.int refu, .ref pn, .ref pt, .ref pr, .ref pw, .ref pb, .int nst, .ref pk, .ref pi, .ref pf, .ref pl, .ref pe, .ref pm, .int r_4.2.2.2.2.2.2.2, .ref px, .int len, .int pos, .int gd, .int ps, .int sm])), (pn, .inl (g.2.1, 61, .inl (upd (upd r_4.1 (50 : Int32).toNatClampNeg 4) (57 : Int32).toNatClampNeg (((upd r_4.1 (50 : Int32).toNatClampNeg 4) (57 : Int32).toNatClampNeg) + 1)))), (pb, .inl (g.2.1, 366, .inl r_4.2.1)), (pk, .inl (g.2.1, 122, .inl r_4.2.2.1)), (pi, .inl (g.2.2.2.1, 2, .inl fisk)), (pf, .inl (g.2.2.1, 4096, .inr (.inl r_4.2.2.2.1))), (pl, .inl (g.2.2.1, 4096, .inr (.inl r_4.2.2.2.2.1))), (pe, .inl (g.2.1, 4096, .inl r_4.2.2.2.2.2.1)), (pm, .inl (g.2.1, 4096, .inl r_4.2.2.2.2.2.2.1))] H := hP
      have hD : va_D A [(o, .inr (9, [.int refu, .ref pn, .ref pt, .ref pr, .ref pw, .ref pb, .int nst, .ref pk, .ref pi, .ref pf, .ref pl, .ref pe, .ref pm, .int r_4.2.2.2.2.2.2.2, .ref px, .int len, .int pos, .int gd, .int ps, .int sm])), (pn, .inl (g.2.1, 61, .inl (upd (upd r_4.1 (50 : Int32).toNatClampNeg 4) (57 : Int32).toNatClampNeg (((upd r_4.1 (50 : Int32).toNatClampNeg 4) (57 : Int32).toNatClampNeg) + 1)))), (pb, .inl (g.2.1, 366, .inl r_4.2.1)), (pk, .inl (g.2.1, 122, .inl r_4.2.2.1)), (pi, .inl (g.2.2.2.1, 2, .inl fisk)), (pf, .inl (g.2.2.1, 4096, .inr (.inl r_4.2.2.2.1))), (pl, .inl (g.2.2.1, 4096, .inr (.inl r_4.2.2.2.2.1))), (pe, .inl (g.2.1, 4096, .inl r_4.2.2.2.2.2.1)), (pm, .inl (g.2.1, 4096, .inl r_4.2.2.2.2.2.2.1))] := hD
      refine lv_iload hx hb dX9_goMove_105 (lv_at hl 1 rfl) ?_
      have hyp := some_e hyp
      subst hyp
      subst hQ
      exact rwI hx hb hr hlocks  hP hD hS dX9_goMove_107
  · replace hyp := ite_f h_5 hyp
    refine lv_aload_n hx hb dX9_goMove_61 rfl (lv_at hl 4 rfl) ?_
    refine lv_bipush (v := 50) hx hb dX9_goMove_62 (by decide) ?_
    refine lv_iconst (v := 2) hx hb dX9_goMove_64 (by decide) ?_
    refine lv_iload hx hb dX9_goMove_65 (lv_at hl 0 rfl) ?_
    refine lv_iadd hx hb dX9_goMove_67 ?_
    obtain ⟨hi, hyp⟩ := grd_e hyp
    refine va_iast hx hb hE.1 hP hD hS 1 0 rfl rfl (inB_vp hi) dX9_goMove_68 (fun H locs hP hD hS => ?_)
    have hP : va_P g.1 vwCl [(o, .inr (9, [.int refu, .ref pn, .ref pt, .ref pr, .ref pw, .ref pb, .int nst, .ref pk, .ref pi, .ref pf, .ref pl, .ref pe, .ref pm, .int r_4.2.2.2.2.2.2.2, .ref px, .int len, .int pos, .int gd, .int ps, .int sm])), (pn, .inl (g.2.1, 61, .inl (upd r_4.1 (50 : Int32).toNatClampNeg (2 + r_3)))), (pb, .inl (g.2.1, 366, .inl r_4.2.1)), (pk, .inl (g.2.1, 122, .inl r_4.2.2.1)), (pi, .inl (g.2.2.2.1, 2, .inl fisk)), (pf, .inl (g.2.2.1, 4096, .inr (.inl r_4.2.2.2.1))), (pl, .inl (g.2.2.1, 4096, .inr (.inl r_4.2.2.2.2.1))), (pe, .inl (g.2.1, 4096, .inl r_4.2.2.2.2.2.1)), (pm, .inl (g.2.1, 4096, .inl r_4.2.2.2.2.2.2.1))] H := hP
    have hD : va_D A [(o, .inr (9, [.int refu, .ref pn, .ref pt, .ref pr, .ref pw, .ref pb, .int nst, .ref pk, .ref pi, .ref pf, .ref pl, .ref pe, .ref pm, .int r_4.2.2.2.2.2.2.2, .ref px, .int len, .int pos, .int gd, .int ps, .int sm])), (pn, .inl (g.2.1, 61, .inl (upd r_4.1 (50 : Int32).toNatClampNeg (2 + r_3)))), (pb, .inl (g.2.1, 366, .inl r_4.2.1)), (pk, .inl (g.2.1, 122, .inl r_4.2.2.1)), (pi, .inl (g.2.2.2.1, 2, .inl fisk)), (pf, .inl (g.2.2.1, 4096, .inr (.inl r_4.2.2.2.1))), (pl, .inl (g.2.2.1, 4096, .inr (.inl r_4.2.2.2.2.1))), (pe, .inl (g.2.1, 4096, .inl r_4.2.2.2.2.2.1)), (pm, .inl (g.2.1, 4096, .inl r_4.2.2.2.2.2.2.1))] := hD
    refine lv_aload_n hx hb dX9_goMove_69 rfl (lv_at hl 4 rfl) ?_
    refine lv_bipush (v := 55) hx hb dX9_goMove_70 (by decide) ?_
    refine lv_iload hx hb dX9_goMove_72 (lv_at hl 0 rfl) ?_
    refine lv_iadd hx hb dX9_goMove_74 ?_
    refine lv_dup2_11 hx hb dX9_goMove_75 rfl rfl ?_
    obtain ⟨hi, hyp⟩ := grd_e hyp
    refine va_iald hx hb hE.1 hP 1 0 rfl rfl (inB_vp hi) dX9_goMove_76 ?_
    refine lv_iconst (v := 1) hx hb dX9_goMove_77 (by decide) ?_
    refine lv_iadd hx hb dX9_goMove_78 ?_
    obtain ⟨hi, hyp⟩ := grd_e hyp
    refine va_iast hx hb hE.1 hP hD hS 1 0 rfl rfl (inB_vp hi) dX9_goMove_79 (fun H locs hP hD hS => ?_)
    have hP : va_P g.1 vwCl [(o, .inr (9, [.int refu, .ref pn, .ref pt, .ref pr, .ref pw, .ref pb, .int nst, .ref pk, .ref pi, .ref pf, .ref pl, .ref pe, .ref pm, .int r_4.2.2.2.2.2.2.2, .ref px, .int len, .int pos, .int gd, .int ps, .int sm])), (pn, .inl (g.2.1, 61, .inl (upd (upd r_4.1 (50 : Int32).toNatClampNeg (2 + r_3)) (55 + r_3).toNatClampNeg (((upd r_4.1 (50 : Int32).toNatClampNeg (2 + r_3)) (55 + r_3).toNatClampNeg) + 1)))), (pb, .inl (g.2.1, 366, .inl r_4.2.1)), (pk, .inl (g.2.1, 122, .inl r_4.2.2.1)), (pi, .inl (g.2.2.2.1, 2, .inl fisk)), (pf, .inl (g.2.2.1, 4096, .inr (.inl r_4.2.2.2.1))), (pl, .inl (g.2.2.1, 4096, .inr (.inl r_4.2.2.2.2.1))), (pe, .inl (g.2.1, 4096, .inl r_4.2.2.2.2.2.1)), (pm, .inl (g.2.1, 4096, .inl r_4.2.2.2.2.2.2.1))] H := hP
    have hD : va_D A [(o, .inr (9, [.int refu, .ref pn, .ref pt, .ref pr, .ref pw, .ref pb, .int nst, .ref pk, .ref pi, .ref pf, .ref pl, .ref pe, .ref pm, .int r_4.2.2.2.2.2.2.2, .ref px, .int len, .int pos, .int gd, .int ps, .int sm])), (pn, .inl (g.2.1, 61, .inl (upd (upd r_4.1 (50 : Int32).toNatClampNeg (2 + r_3)) (55 + r_3).toNatClampNeg (((upd r_4.1 (50 : Int32).toNatClampNeg (2 + r_3)) (55 + r_3).toNatClampNeg) + 1)))), (pb, .inl (g.2.1, 366, .inl r_4.2.1)), (pk, .inl (g.2.1, 122, .inl r_4.2.2.1)), (pi, .inl (g.2.2.2.1, 2, .inl fisk)), (pf, .inl (g.2.2.1, 4096, .inr (.inl r_4.2.2.2.1))), (pl, .inl (g.2.2.1, 4096, .inr (.inl r_4.2.2.2.2.1))), (pe, .inl (g.2.1, 4096, .inl r_4.2.2.2.2.2.1)), (pm, .inl (g.2.1, 4096, .inl r_4.2.2.2.2.2.2.1))] := hD
    refine lv_goto (tgt := 105) hx hb dX9_goMove_80 (by decide) ?_
    refine lv_iload hx hb dX9_goMove_105 (lv_at hl 1 rfl) ?_
    have hyp := some_e hyp
    subst hyp
    subst hQ
    exact rwI hx hb hr hlocks  hP hD hS dX9_goMove_107

def fX9_goMoveT (nst : Int32) (nn : Int32) (fnow : Nat → Int32) (fbook : Nat → Int32) (fkept : Nat → Int32) (fisk : Nat → Int32) (ffst : Nat → Int64) (flst : Nat → Int64) (fbef : Nat → Int32) (fmov : Nat → Int32) (ftri : Nat → Int32) (a1 : Int32) (a2 : Int32) : Option (Int32 × (Nat → Int32) × (Nat → Int32) × (Nat → Int32) × (Nat → Int64) × (Nat → Int64) × (Nat → Int32) × (Nat → Int32) × Int32 × (Nat → Int32)) :=
  grd (inB 49 61) (bnd (ftri (49 : Int32).toNatClampNeg) (fun (v4_1 : Int32) => (fX9_step ftri a1 a2).bind (fun (r_2 : Int32 × (Nat → Int32)) => (fX9_wonBy r_2.2 v4_1).bind (fun (r_3 : Int32) => grd (inB 53 61) (grd (inB 53 61) (grd (inB 54 61) (grd (inB 54 61) (grd (inB 49 61) (grd (inB 60 61) ((fX9_noteT nst nn fnow fbook fkept fisk ffst flst fbef fmov (upd (upd (upd r_2.2 (53 : Int32).toNatClampNeg ((r_2.2 (53 : Int32).toNatClampNeg) + 1)) (54 : Int32).toNatClampNeg (((upd r_2.2 (53 : Int32).toNatClampNeg ((r_2.2 (53 : Int32).toNatClampNeg) + 1)) (54 : Int32).toNatClampNeg) + 1)) (49 : Int32).toNatClampNeg (1 - v4_1)) ((upd (upd (upd r_2.2 (53 : Int32).toNatClampNeg ((r_2.2 (53 : Int32).toNatClampNeg) + 1)) (54 : Int32).toNatClampNeg (((upd r_2.2 (53 : Int32).toNatClampNeg ((r_2.2 (53 : Int32).toNatClampNeg) + 1)) (54 : Int32).toNatClampNeg) + 1)) (49 : Int32).toNatClampNeg (1 - v4_1)) (60 : Int32).toNatClampNeg)).bind (fun (r_4 : (Nat → Int32) × (Nat → Int32) × (Nat → Int32) × (Nat → Int64) × (Nat → Int64) × (Nat → Int32) × (Nat → Int32) × Int32 × (Nat → Int32)) => if r_3 = (-1) then ((fX9_seen r_4.2.2.2.1 r_4.2.2.2.2.1 r_4.2.2.2.2.2.1 r_4.2.2.2.2.2.2.2.2).bind (fun (r_6 : Int32) => if r_6 = 3 then (grd (inB 50 61) (grd (inB 57 61) (grd (inB 57 61) (some (r_2.1, r_4.1, r_4.2.1, r_4.2.2.1, r_4.2.2.2.1, r_4.2.2.2.2.1, r_4.2.2.2.2.2.1, r_4.2.2.2.2.2.2.1, r_4.2.2.2.2.2.2.2.1, upd (upd r_4.2.2.2.2.2.2.2.2 (50 : Int32).toNatClampNeg 4) (57 : Int32).toNatClampNeg (((upd r_4.2.2.2.2.2.2.2.2 (50 : Int32).toNatClampNeg 4) (57 : Int32).toNatClampNeg) + 1)))))) else (some (r_2.1, r_4.1, r_4.2.1, r_4.2.2.1, r_4.2.2.2.1, r_4.2.2.2.2.1, r_4.2.2.2.2.2.1, r_4.2.2.2.2.2.2.1, r_4.2.2.2.2.2.2.2.1, r_4.2.2.2.2.2.2.2.2)))) else (grd (inB 50 61) (grd (inB (55 + r_3) 61) (grd (inB (55 + r_3) 61) (some (r_2.1, r_4.1, r_4.2.1, r_4.2.2.1, r_4.2.2.2.1, r_4.2.2.2.2.1, r_4.2.2.2.2.2.1, r_4.2.2.2.2.2.2.1, r_4.2.2.2.2.2.2.2.1, upd (upd r_4.2.2.2.2.2.2.2.2 (50 : Int32).toNatClampNeg (2 + r_3)) (55 + r_3).toNatClampNeg (((upd r_4.2.2.2.2.2.2.2.2 (50 : Int32).toNatClampNeg (2 + r_3)) (55 + r_3).toNatClampNeg) + 1)))))))))))))))))
set_option maxRecDepth 100000 in
set_option maxHeartbeats 4000000 in
theorem mX9_goMoveT (l : Launch) (g : GE) (o pn pb pk pi pf pl pe pm pt pr pw px : Nat) (refu : Int32) (nst : Int32) (nn : Int32) (len : Int32) (pos : Int32) (gd : Int32) (ps : Int32) (sm : Int32) (fnow : Nat → Int32) (fbook : Nat → Int32) (fkept : Nat → Int32) (fisk : Nat → Int32) (ffst : Nat → Int64) (flst : Nat → Int64) (fbef : Nat → Int32) (fmov : Nat → Int32) (ftri : Nat → Int32) (a1 : Int32) (a2 : Int32) (r : Int32 × (Nat → Int32) × (Nat → Int32) × (Nat → Int32) × (Nat → Int64) × (Nat → Int64) × (Nat → Int32) × (Nat → Int32) × Int32 × (Nat → Int32)) (hyp : fX9_goMoveT nst nn fnow fbook fkept fisk ffst flst fbef fmov ftri a1 a2 = some r) : WM l yX9_goMove cX9_goMove 7 (some .int) 6 138 g [(o, .inr (9, [.int refu, .ref pn, .ref pt, .ref pr, .ref pw, .ref pb, .int nst, .ref pk, .ref pi, .ref pf, .ref pl, .ref pe, .ref pm, .int nn, .ref px, .int len, .int pos, .int gd, .int ps, .int sm])), (pn, .inl (g.2.1, 61, .inl fnow)), (pb, .inl (g.2.1, 366, .inl fbook)), (pk, .inl (g.2.1, 122, .inl fkept)), (pi, .inl (g.2.2.2.1, 2, .inl fisk)), (pf, .inl (g.2.2.1, 4096, .inr (.inl ffst))), (pl, .inl (g.2.2.1, 4096, .inr (.inl flst))), (pe, .inl (g.2.1, 4096, .inl fbef)), (pm, .inl (g.2.1, 4096, .inl fmov)), (pt, .inl (g.2.1, 61, .inl ftri))] [.ref o, .ref pt, .int a1, .int a2] (some (.int r.1)) [(o, .inr (9, [.int refu, .ref pn, .ref pt, .ref pr, .ref pw, .ref pb, .int nst, .ref pk, .ref pi, .ref pf, .ref pl, .ref pe, .ref pm, .int r.2.2.2.2.2.2.2.2.1, .ref px, .int len, .int pos, .int gd, .int ps, .int sm])), (pn, .inl (g.2.1, 61, .inl r.2.1)), (pb, .inl (g.2.1, 366, .inl r.2.2.1)), (pk, .inl (g.2.1, 122, .inl r.2.2.2.1)), (pi, .inl (g.2.2.2.1, 2, .inl fisk)), (pf, .inl (g.2.2.1, 4096, .inr (.inl r.2.2.2.2.1))), (pl, .inl (g.2.2.1, 4096, .inr (.inl r.2.2.2.2.2.1))), (pe, .inl (g.2.1, 4096, .inl r.2.2.2.2.2.2.1)), (pm, .inl (g.2.1, 4096, .inl r.2.2.2.2.2.2.2.1)), (pt, .inl (g.2.1, 61, .inl r.2.2.2.2.2.2.2.2.2))] := by
  refine metW_intro (by decide) rfl ?_
  intro p e R s m args below meth c Q A hRf hRl hQ hx hb hml hr hlocks hown hts hin hE hA H locs hP hD hS ls hl
  have hown : s.vm.findClass "HallGuardsModel" = some m.cls := hown
  have hl : lv_has ls 7 [(0, .ref o), (1, .ref pt), (2, .int a1), (3, .int a2)] := hl
  unfold fX9_goMoveT at hyp
  refine lv_aload_n hx hb dX9_goMove_0 rfl (lv_at hl 1 rfl) ?_
  refine lv_bipush (v := 49) hx hb dX9_goMove_1 (by decide) ?_
  obtain ⟨hi, hyp⟩ := grd_e hyp
  refine va_iald hx hb hE.1 hP 9 0 rfl rfl (inB_vp hi) dX9_goMove_3 ?_
  obtain ⟨v4_1, ev4_1, hyp⟩ := bnd_e hyp
  refine lv_eqi ev4_1 ?_
  refine lv_istore (lv' := [(4, .int v4_1), (0, .ref o), (1, .ref pt), (2, .int a1), (3, .int a2)]) hx hb dX9_goMove_4 hl (by decide) rfl (fun ls hl => ?_)
  refine lv_aload_n hx hb dX9_goMove_6 rfl (lv_at hl 2 rfl) ?_
  refine lv_iload_n hx hb dX9_goMove_7 rfl (lv_at hl 3 rfl) ?_
  refine lv_iload_n hx hb dX9_goMove_8 rfl (lv_at hl 4 rfl) ?_
  obtain ⟨r_2, hr_2, hyp⟩ := opt_e hyp
  refine wS (As := [.ref pt, .int a1, .int a2]) (rest := []) ⟨hx, hb, hml, hown, hts⟩ hE (mX9_step l g pt ftri a1 a2 r_2 hr_2) cf_X9_step st_X9_step ml_X9_136 ⟨Nat.le_trans (Nat.le_of_ble_eq_true rfl) hRf, Nat.le_trans (Nat.le_of_ble_eq_true rfl) hRl⟩ hP hD hS hA [9] [0, 1, 2, 3, 4, 5, 6, 7, 8] rfl (wr := [(o, .inr (9, [.int refu, .ref pn, .ref pt, .ref pr, .ref pw, .ref pb, .int nst, .ref pk, .ref pi, .ref pf, .ref pl, .ref pe, .ref pm, .int nn, .ref px, .int len, .int pos, .int gd, .int ps, .int sm])), (pn, .inl (g.2.1, 61, .inl fnow)), (pb, .inl (g.2.1, 366, .inl fbook)), (pk, .inl (g.2.1, 122, .inl fkept)), (pi, .inl (g.2.2.2.1, 2, .inl fisk)), (pf, .inl (g.2.2.1, 4096, .inr (.inl ffst))), (pl, .inl (g.2.2.1, 4096, .inr (.inl flst))), (pe, .inl (g.2.1, 4096, .inl fbef)), (pm, .inl (g.2.1, 4096, .inl fmov))]) rfl ⟨by decide, by decide⟩ (by decide) rfl hl.1 rfl (Nat.le_of_ble_eq_true rfl) dX9_goMove_9 ⟨Nat.zero_le _, Nat.zero_le _⟩ (fun H locs hP hD hS => ?_)
  have hP : va_P g.1 vwCl [(o, .inr (9, [.int refu, .ref pn, .ref pt, .ref pr, .ref pw, .ref pb, .int nst, .ref pk, .ref pi, .ref pf, .ref pl, .ref pe, .ref pm, .int nn, .ref px, .int len, .int pos, .int gd, .int ps, .int sm])), (pn, .inl (g.2.1, 61, .inl fnow)), (pb, .inl (g.2.1, 366, .inl fbook)), (pk, .inl (g.2.1, 122, .inl fkept)), (pi, .inl (g.2.2.2.1, 2, .inl fisk)), (pf, .inl (g.2.2.1, 4096, .inr (.inl ffst))), (pl, .inl (g.2.2.1, 4096, .inr (.inl flst))), (pe, .inl (g.2.1, 4096, .inl fbef)), (pm, .inl (g.2.1, 4096, .inl fmov)), (pt, .inl (g.2.1, 61, .inl r_2.2))] H := hP
  have hD : va_D A [(o, .inr (9, [.int refu, .ref pn, .ref pt, .ref pr, .ref pw, .ref pb, .int nst, .ref pk, .ref pi, .ref pf, .ref pl, .ref pe, .ref pm, .int nn, .ref px, .int len, .int pos, .int gd, .int ps, .int sm])), (pn, .inl (g.2.1, 61, .inl fnow)), (pb, .inl (g.2.1, 366, .inl fbook)), (pk, .inl (g.2.1, 122, .inl fkept)), (pi, .inl (g.2.2.2.1, 2, .inl fisk)), (pf, .inl (g.2.2.1, 4096, .inr (.inl ffst))), (pl, .inl (g.2.2.1, 4096, .inr (.inl flst))), (pe, .inl (g.2.1, 4096, .inl fbef)), (pm, .inl (g.2.1, 4096, .inl fmov)), (pt, .inl (g.2.1, 61, .inl r_2.2))] := hD
  refine lv_istore (lv' := [(5, .int r_2.1), (4, .int v4_1), (0, .ref o), (1, .ref pt), (2, .int a1), (3, .int a2)]) hx hb dX9_goMove_12 hl (by decide) rfl (fun ls hl => ?_)
  refine lv_aload_n hx hb dX9_goMove_14 rfl (lv_at hl 3 rfl) ?_
  refine lv_iload hx hb dX9_goMove_15 (lv_at hl 1 rfl) ?_
  obtain ⟨r_3, hr_3, hyp⟩ := opt_e hyp
  refine pS (As := [.ref pt, .int v4_1]) (rest := []) ⟨hx, hb, hml, hown, hts⟩ hE (mX9_wonBy l g pt r_2.2 v4_1 r_3 hr_3) cf_X9_wonBy st_X9_wonBy ml_X9_139 ⟨Nat.le_trans (Nat.le_of_ble_eq_true rfl) hRf, Nat.le_trans (Nat.le_of_ble_eq_true rfl) hRl⟩ (hP.sub (ws' := [(pt, .inl (g.2.1, 61, .inl r_2.2))]) [9] rfl) rfl hl.1 rfl (Nat.le_of_ble_eq_true rfl) dX9_goMove_17 ⟨Nat.zero_le _, Nat.zero_le _⟩ ?_
  refine lv_istore (lv' := [(6, .int r_3), (5, .int r_2.1), (4, .int v4_1), (0, .ref o), (1, .ref pt), (2, .int a1), (3, .int a2)]) hx hb dX9_goMove_20 hl (by decide) rfl (fun ls hl => ?_)
  refine lv_aload_n hx hb dX9_goMove_22 rfl (lv_at hl 4 rfl) ?_
  refine lv_bipush (v := 53) hx hb dX9_goMove_23 (by decide) ?_
  refine lv_dup2_11 hx hb dX9_goMove_25 rfl rfl ?_
  obtain ⟨hi, hyp⟩ := grd_e hyp
  refine va_iald hx hb hE.1 hP 9 0 rfl rfl (inB_vp hi) dX9_goMove_26 ?_
  refine lv_iconst (v := 1) hx hb dX9_goMove_27 (by decide) ?_
  refine lv_iadd hx hb dX9_goMove_28 ?_
  obtain ⟨hi, hyp⟩ := grd_e hyp
  refine va_iast hx hb hE.1 hP hD hS 9 0 rfl rfl (inB_vp hi) dX9_goMove_29 (fun H locs hP hD hS => ?_)
  have hP : va_P g.1 vwCl [(o, .inr (9, [.int refu, .ref pn, .ref pt, .ref pr, .ref pw, .ref pb, .int nst, .ref pk, .ref pi, .ref pf, .ref pl, .ref pe, .ref pm, .int nn, .ref px, .int len, .int pos, .int gd, .int ps, .int sm])), (pn, .inl (g.2.1, 61, .inl fnow)), (pb, .inl (g.2.1, 366, .inl fbook)), (pk, .inl (g.2.1, 122, .inl fkept)), (pi, .inl (g.2.2.2.1, 2, .inl fisk)), (pf, .inl (g.2.2.1, 4096, .inr (.inl ffst))), (pl, .inl (g.2.2.1, 4096, .inr (.inl flst))), (pe, .inl (g.2.1, 4096, .inl fbef)), (pm, .inl (g.2.1, 4096, .inl fmov)), (pt, .inl (g.2.1, 61, .inl (upd r_2.2 (53 : Int32).toNatClampNeg ((r_2.2 (53 : Int32).toNatClampNeg) + 1))))] H := hP
  have hD : va_D A [(o, .inr (9, [.int refu, .ref pn, .ref pt, .ref pr, .ref pw, .ref pb, .int nst, .ref pk, .ref pi, .ref pf, .ref pl, .ref pe, .ref pm, .int nn, .ref px, .int len, .int pos, .int gd, .int ps, .int sm])), (pn, .inl (g.2.1, 61, .inl fnow)), (pb, .inl (g.2.1, 366, .inl fbook)), (pk, .inl (g.2.1, 122, .inl fkept)), (pi, .inl (g.2.2.2.1, 2, .inl fisk)), (pf, .inl (g.2.2.1, 4096, .inr (.inl ffst))), (pl, .inl (g.2.2.1, 4096, .inr (.inl flst))), (pe, .inl (g.2.1, 4096, .inl fbef)), (pm, .inl (g.2.1, 4096, .inl fmov)), (pt, .inl (g.2.1, 61, .inl (upd r_2.2 (53 : Int32).toNatClampNeg ((r_2.2 (53 : Int32).toNatClampNeg) + 1))))] := hD
  refine lv_aload_n hx hb dX9_goMove_30 rfl (lv_at hl 4 rfl) ?_
  refine lv_bipush (v := 54) hx hb dX9_goMove_31 (by decide) ?_
  refine lv_dup2_11 hx hb dX9_goMove_33 rfl rfl ?_
  obtain ⟨hi, hyp⟩ := grd_e hyp
  refine va_iald hx hb hE.1 hP 9 0 rfl rfl (inB_vp hi) dX9_goMove_34 ?_
  refine lv_iconst (v := 1) hx hb dX9_goMove_35 (by decide) ?_
  refine lv_iadd hx hb dX9_goMove_36 ?_
  obtain ⟨hi, hyp⟩ := grd_e hyp
  refine va_iast hx hb hE.1 hP hD hS 9 0 rfl rfl (inB_vp hi) dX9_goMove_37 (fun H locs hP hD hS => ?_)
  have hP : va_P g.1 vwCl [(o, .inr (9, [.int refu, .ref pn, .ref pt, .ref pr, .ref pw, .ref pb, .int nst, .ref pk, .ref pi, .ref pf, .ref pl, .ref pe, .ref pm, .int nn, .ref px, .int len, .int pos, .int gd, .int ps, .int sm])), (pn, .inl (g.2.1, 61, .inl fnow)), (pb, .inl (g.2.1, 366, .inl fbook)), (pk, .inl (g.2.1, 122, .inl fkept)), (pi, .inl (g.2.2.2.1, 2, .inl fisk)), (pf, .inl (g.2.2.1, 4096, .inr (.inl ffst))), (pl, .inl (g.2.2.1, 4096, .inr (.inl flst))), (pe, .inl (g.2.1, 4096, .inl fbef)), (pm, .inl (g.2.1, 4096, .inl fmov)), (pt, .inl (g.2.1, 61, .inl (upd (upd r_2.2 (53 : Int32).toNatClampNeg ((r_2.2 (53 : Int32).toNatClampNeg) + 1)) (54 : Int32).toNatClampNeg (((upd r_2.2 (53 : Int32).toNatClampNeg ((r_2.2 (53 : Int32).toNatClampNeg) + 1)) (54 : Int32).toNatClampNeg) + 1))))] H := hP
  have hD : va_D A [(o, .inr (9, [.int refu, .ref pn, .ref pt, .ref pr, .ref pw, .ref pb, .int nst, .ref pk, .ref pi, .ref pf, .ref pl, .ref pe, .ref pm, .int nn, .ref px, .int len, .int pos, .int gd, .int ps, .int sm])), (pn, .inl (g.2.1, 61, .inl fnow)), (pb, .inl (g.2.1, 366, .inl fbook)), (pk, .inl (g.2.1, 122, .inl fkept)), (pi, .inl (g.2.2.2.1, 2, .inl fisk)), (pf, .inl (g.2.2.1, 4096, .inr (.inl ffst))), (pl, .inl (g.2.2.1, 4096, .inr (.inl flst))), (pe, .inl (g.2.1, 4096, .inl fbef)), (pm, .inl (g.2.1, 4096, .inl fmov)), (pt, .inl (g.2.1, 61, .inl (upd (upd r_2.2 (53 : Int32).toNatClampNeg ((r_2.2 (53 : Int32).toNatClampNeg) + 1)) (54 : Int32).toNatClampNeg (((upd r_2.2 (53 : Int32).toNatClampNeg ((r_2.2 (53 : Int32).toNatClampNeg) + 1)) (54 : Int32).toNatClampNeg) + 1))))] := hD
  refine lv_aload_n hx hb dX9_goMove_38 rfl (lv_at hl 4 rfl) ?_
  refine lv_bipush (v := 49) hx hb dX9_goMove_39 (by decide) ?_
  refine lv_iconst (v := 1) hx hb dX9_goMove_41 (by decide) ?_
  refine lv_iload hx hb dX9_goMove_42 (lv_at hl 2 rfl) ?_
  refine lv_isub hx hb dX9_goMove_44 ?_
  obtain ⟨hi, hyp⟩ := grd_e hyp
  refine va_iast hx hb hE.1 hP hD hS 9 0 rfl rfl (inB_vp hi) dX9_goMove_45 (fun H locs hP hD hS => ?_)
  have hP : va_P g.1 vwCl [(o, .inr (9, [.int refu, .ref pn, .ref pt, .ref pr, .ref pw, .ref pb, .int nst, .ref pk, .ref pi, .ref pf, .ref pl, .ref pe, .ref pm, .int nn, .ref px, .int len, .int pos, .int gd, .int ps, .int sm])), (pn, .inl (g.2.1, 61, .inl fnow)), (pb, .inl (g.2.1, 366, .inl fbook)), (pk, .inl (g.2.1, 122, .inl fkept)), (pi, .inl (g.2.2.2.1, 2, .inl fisk)), (pf, .inl (g.2.2.1, 4096, .inr (.inl ffst))), (pl, .inl (g.2.2.1, 4096, .inr (.inl flst))), (pe, .inl (g.2.1, 4096, .inl fbef)), (pm, .inl (g.2.1, 4096, .inl fmov)), (pt, .inl (g.2.1, 61, .inl (upd (upd (upd r_2.2 (53 : Int32).toNatClampNeg ((r_2.2 (53 : Int32).toNatClampNeg) + 1)) (54 : Int32).toNatClampNeg (((upd r_2.2 (53 : Int32).toNatClampNeg ((r_2.2 (53 : Int32).toNatClampNeg) + 1)) (54 : Int32).toNatClampNeg) + 1)) (49 : Int32).toNatClampNeg (1 - v4_1))))] H := hP
  have hD : va_D A [(o, .inr (9, [.int refu, .ref pn, .ref pt, .ref pr, .ref pw, .ref pb, .int nst, .ref pk, .ref pi, .ref pf, .ref pl, .ref pe, .ref pm, .int nn, .ref px, .int len, .int pos, .int gd, .int ps, .int sm])), (pn, .inl (g.2.1, 61, .inl fnow)), (pb, .inl (g.2.1, 366, .inl fbook)), (pk, .inl (g.2.1, 122, .inl fkept)), (pi, .inl (g.2.2.2.1, 2, .inl fisk)), (pf, .inl (g.2.2.1, 4096, .inr (.inl ffst))), (pl, .inl (g.2.2.1, 4096, .inr (.inl flst))), (pe, .inl (g.2.1, 4096, .inl fbef)), (pm, .inl (g.2.1, 4096, .inl fmov)), (pt, .inl (g.2.1, 61, .inl (upd (upd (upd r_2.2 (53 : Int32).toNatClampNeg ((r_2.2 (53 : Int32).toNatClampNeg) + 1)) (54 : Int32).toNatClampNeg (((upd r_2.2 (53 : Int32).toNatClampNeg ((r_2.2 (53 : Int32).toNatClampNeg) + 1)) (54 : Int32).toNatClampNeg) + 1)) (49 : Int32).toNatClampNeg (1 - v4_1))))] := hD
  refine lv_aload_n hx hb dX9_goMove_46 rfl (lv_at hl 3 rfl) ?_
  refine lv_aload_n hx hb dX9_goMove_47 rfl (lv_at hl 4 rfl) ?_
  refine lv_aload_n hx hb dX9_goMove_48 rfl (lv_at hl 4 rfl) ?_
  refine lv_bipush (v := 60) hx hb dX9_goMove_49 (by decide) ?_
  obtain ⟨hi, hyp⟩ := grd_e hyp
  refine va_iald hx hb hE.1 hP 9 0 rfl rfl (inB_vp hi) dX9_goMove_51 ?_
  obtain ⟨r_4, hr_4, hyp⟩ := opt_e hyp
  refine wV (As := [.ref pt, .int ((upd (upd (upd r_2.2 (53 : Int32).toNatClampNeg ((r_2.2 (53 : Int32).toNatClampNeg) + 1)) (54 : Int32).toNatClampNeg (((upd r_2.2 (53 : Int32).toNatClampNeg ((r_2.2 (53 : Int32).toNatClampNeg) + 1)) (54 : Int32).toNatClampNeg) + 1)) (49 : Int32).toNatClampNeg (1 - v4_1)) (60 : Int32).toNatClampNeg)]) (rest := []) ⟨hx, hb, hml, hown, hts⟩ hE (mX9_noteT l g o pn pb pk pi pf pl pe pm pt pr pw px refu nst nn len pos gd ps sm fnow fbook fkept fisk ffst flst fbef fmov (upd (upd (upd r_2.2 (53 : Int32).toNatClampNeg ((r_2.2 (53 : Int32).toNatClampNeg) + 1)) (54 : Int32).toNatClampNeg (((upd r_2.2 (53 : Int32).toNatClampNeg ((r_2.2 (53 : Int32).toNatClampNeg) + 1)) (54 : Int32).toNatClampNeg) + 1)) (49 : Int32).toNatClampNeg (1 - v4_1)) ((upd (upd (upd r_2.2 (53 : Int32).toNatClampNeg ((r_2.2 (53 : Int32).toNatClampNeg) + 1)) (54 : Int32).toNatClampNeg (((upd r_2.2 (53 : Int32).toNatClampNeg ((r_2.2 (53 : Int32).toNatClampNeg) + 1)) (54 : Int32).toNatClampNeg) + 1)) (49 : Int32).toNatClampNeg (1 - v4_1)) (60 : Int32).toNatClampNeg) r_4 hr_4) cf_X9_note im_X9_note se_X9_note ml_X9_122 ⟨Nat.le_trans (Nat.le_of_ble_eq_true rfl) hRf, Nat.le_trans (Nat.le_of_ble_eq_true rfl) hRl⟩ hP hD hS hA [0, 1, 2, 3, 4, 5, 6, 7, 8, 9] [] rfl (wr := []) rfl ⟨by decide, by decide⟩ (by decide) (ci := 9) (q0 := 0) rfl rfl rfl rfl hl.1 rfl (Nat.le_of_ble_eq_true rfl) dX9_goMove_52 ⟨Nat.zero_le _, Nat.zero_le _⟩ (fun H locs hP hD hS => ?_)
  have hP : va_P g.1 vwCl [(o, .inr (9, [.int refu, .ref pn, .ref pt, .ref pr, .ref pw, .ref pb, .int nst, .ref pk, .ref pi, .ref pf, .ref pl, .ref pe, .ref pm, .int r_4.2.2.2.2.2.2.2.1, .ref px, .int len, .int pos, .int gd, .int ps, .int sm])), (pn, .inl (g.2.1, 61, .inl r_4.1)), (pb, .inl (g.2.1, 366, .inl r_4.2.1)), (pk, .inl (g.2.1, 122, .inl r_4.2.2.1)), (pi, .inl (g.2.2.2.1, 2, .inl fisk)), (pf, .inl (g.2.2.1, 4096, .inr (.inl r_4.2.2.2.1))), (pl, .inl (g.2.2.1, 4096, .inr (.inl r_4.2.2.2.2.1))), (pe, .inl (g.2.1, 4096, .inl r_4.2.2.2.2.2.1)), (pm, .inl (g.2.1, 4096, .inl r_4.2.2.2.2.2.2.1)), (pt, .inl (g.2.1, 61, .inl r_4.2.2.2.2.2.2.2.2))] H := hP
  have hD : va_D A [(o, .inr (9, [.int refu, .ref pn, .ref pt, .ref pr, .ref pw, .ref pb, .int nst, .ref pk, .ref pi, .ref pf, .ref pl, .ref pe, .ref pm, .int r_4.2.2.2.2.2.2.2.1, .ref px, .int len, .int pos, .int gd, .int ps, .int sm])), (pn, .inl (g.2.1, 61, .inl r_4.1)), (pb, .inl (g.2.1, 366, .inl r_4.2.1)), (pk, .inl (g.2.1, 122, .inl r_4.2.2.1)), (pi, .inl (g.2.2.2.1, 2, .inl fisk)), (pf, .inl (g.2.2.1, 4096, .inr (.inl r_4.2.2.2.1))), (pl, .inl (g.2.2.1, 4096, .inr (.inl r_4.2.2.2.2.1))), (pe, .inl (g.2.1, 4096, .inl r_4.2.2.2.2.2.1)), (pm, .inl (g.2.1, 4096, .inl r_4.2.2.2.2.2.2.1)), (pt, .inl (g.2.1, 61, .inl r_4.2.2.2.2.2.2.2.2))] := hD
  refine lv_iload hx hb dX9_goMove_55 (lv_at hl 0 rfl) ?_
  refine lv_iconst (v := (-1)) hx hb dX9_goMove_57 (by decide) ?_
  refine lv_icmp_eq (tgt := 83) hx hb dX9_goMove_58 (by decide) (fun h_5 => ?_) (fun h_5 => ?_)
  · replace hyp := ite_t h_5 hyp
    refine lv_aload_n hx hb dX9_goMove_83 rfl (lv_at hl 3 rfl) ?_
    refine lv_aload_n hx hb dX9_goMove_84 rfl (lv_at hl 4 rfl) ?_
    obtain ⟨r_6, hr_6, hyp⟩ := opt_e hyp
    refine pV (As := [.ref pt]) (rest := []) ⟨hx, hb, hml, hown, hts⟩ hE (mX9_seen l g o pf pl pe pt pn pt pr pw pb pk pi pm px refu nst r_4.2.2.2.2.2.2.2.1 len pos gd ps sm r_4.2.2.2.1 r_4.2.2.2.2.1 r_4.2.2.2.2.2.1 r_4.2.2.2.2.2.2.2.2 r_6 hr_6) cf_X9_seen im_X9_seen se_X9_seen ml_X9_142 ⟨Nat.le_trans (Nat.le_of_ble_eq_true rfl) hRf, Nat.le_trans (Nat.le_of_ble_eq_true rfl) hRl⟩ (hP.sub (ws' := [(o, .inr (9, [.int refu, .ref pn, .ref pt, .ref pr, .ref pw, .ref pb, .int nst, .ref pk, .ref pi, .ref pf, .ref pl, .ref pe, .ref pm, .int r_4.2.2.2.2.2.2.2.1, .ref px, .int len, .int pos, .int gd, .int ps, .int sm])), (pf, .inl (g.2.2.1, 4096, .inr (.inl r_4.2.2.2.1))), (pl, .inl (g.2.2.1, 4096, .inr (.inl r_4.2.2.2.2.1))), (pe, .inl (g.2.1, 4096, .inl r_4.2.2.2.2.2.1)), (pt, .inl (g.2.1, 61, .inl r_4.2.2.2.2.2.2.2.2))]) [0, 5, 6, 7, 9] rfl) (ci := 9) (q0 := 0) rfl rfl rfl rfl hl.1 rfl (Nat.le_of_ble_eq_true rfl) dX9_goMove_85 ⟨Nat.zero_le _, Nat.zero_le _⟩ ?_
    refine lv_iconst (v := 3) hx hb dX9_goMove_88 (by decide) ?_
    refine lv_icmp_ne (tgt := 105) hx hb dX9_goMove_89 (by decide) (fun h_7 => ?_) (fun h_7 => ?_)
    · replace hyp := ite_f h_7 hyp
      refine lv_iload hx hb dX9_goMove_105 (lv_at hl 1 rfl) ?_
      have hyp := some_e hyp
      subst hyp
      subst hQ
      exact rwI hx hb hr hlocks  hP hD hS dX9_goMove_107
    · replace hyp := ite_t h_7 hyp
      refine lv_aload_n hx hb dX9_goMove_92 rfl (lv_at hl 4 rfl) ?_
      refine lv_bipush (v := 50) hx hb dX9_goMove_93 (by decide) ?_
      refine lv_iconst (v := 4) hx hb dX9_goMove_95 (by decide) ?_
      obtain ⟨hi, hyp⟩ := grd_e hyp
      refine va_iast hx hb hE.1 hP hD hS 9 0 rfl rfl (inB_vp hi) dX9_goMove_96 (fun H locs hP hD hS => ?_)
      have hP : va_P g.1 vwCl [(o, .inr (9, [.int refu, .ref pn, .ref pt, .ref pr, .ref pw, .ref pb, .int nst, .ref pk, .ref pi, .ref pf, .ref pl, .ref pe, .ref pm, .int r_4.2.2.2.2.2.2.2.1, .ref px, .int len, .int pos, .int gd, .int ps, .int sm])), (pn, .inl (g.2.1, 61, .inl r_4.1)), (pb, .inl (g.2.1, 366, .inl r_4.2.1)), (pk, .inl (g.2.1, 122, .inl r_4.2.2.1)), (pi, .inl (g.2.2.2.1, 2, .inl fisk)), (pf, .inl (g.2.2.1, 4096, .inr (.inl r_4.2.2.2.1))), (pl, .inl (g.2.2.1, 4096, .inr (.inl r_4.2.2.2.2.1))), (pe, .inl (g.2.1, 4096, .inl r_4.2.2.2.2.2.1)), (pm, .inl (g.2.1, 4096, .inl r_4.2.2.2.2.2.2.1)), (pt, .inl (g.2.1, 61, .inl (upd r_4.2.2.2.2.2.2.2.2 (50 : Int32).toNatClampNeg 4)))] H := hP
      have hD : va_D A [(o, .inr (9, [.int refu, .ref pn, .ref pt, .ref pr, .ref pw, .ref pb, .int nst, .ref pk, .ref pi, .ref pf, .ref pl, .ref pe, .ref pm, .int r_4.2.2.2.2.2.2.2.1, .ref px, .int len, .int pos, .int gd, .int ps, .int sm])), (pn, .inl (g.2.1, 61, .inl r_4.1)), (pb, .inl (g.2.1, 366, .inl r_4.2.1)), (pk, .inl (g.2.1, 122, .inl r_4.2.2.1)), (pi, .inl (g.2.2.2.1, 2, .inl fisk)), (pf, .inl (g.2.2.1, 4096, .inr (.inl r_4.2.2.2.1))), (pl, .inl (g.2.2.1, 4096, .inr (.inl r_4.2.2.2.2.1))), (pe, .inl (g.2.1, 4096, .inl r_4.2.2.2.2.2.1)), (pm, .inl (g.2.1, 4096, .inl r_4.2.2.2.2.2.2.1)), (pt, .inl (g.2.1, 61, .inl (upd r_4.2.2.2.2.2.2.2.2 (50 : Int32).toNatClampNeg 4)))] := hD
      refine lv_aload_n hx hb dX9_goMove_97 rfl (lv_at hl 4 rfl) ?_
      refine lv_bipush (v := 57) hx hb dX9_goMove_98 (by decide) ?_
      refine lv_dup2_11 hx hb dX9_goMove_100 rfl rfl ?_
      obtain ⟨hi, hyp⟩ := grd_e hyp
      refine va_iald hx hb hE.1 hP 9 0 rfl rfl (inB_vp hi) dX9_goMove_101 ?_
      refine lv_iconst (v := 1) hx hb dX9_goMove_102 (by decide) ?_
      refine lv_iadd hx hb dX9_goMove_103 ?_
      obtain ⟨hi, hyp⟩ := grd_e hyp
      refine va_iast hx hb hE.1 hP hD hS 9 0 rfl rfl (inB_vp hi) dX9_goMove_104 (fun H locs hP hD hS => ?_)
      have hP : va_P g.1 vwCl [(o, .inr (9, [.int refu, .ref pn, .ref pt, .ref pr, .ref pw, .ref pb, .int nst, .ref pk, .ref pi, .ref pf, .ref pl, .ref pe, .ref pm, .int r_4.2.2.2.2.2.2.2.1, .ref px, .int len, .int pos, .int gd, .int ps, .int sm])), (pn, .inl (g.2.1, 61, .inl r_4.1)), (pb, .inl (g.2.1, 366, .inl r_4.2.1)), (pk, .inl (g.2.1, 122, .inl r_4.2.2.1)), (pi, .inl (g.2.2.2.1, 2, .inl fisk)), (pf, .inl (g.2.2.1, 4096, .inr (.inl r_4.2.2.2.1))), (pl, .inl (g.2.2.1, 4096, .inr (.inl r_4.2.2.2.2.1))), (pe, .inl (g.2.1, 4096, .inl r_4.2.2.2.2.2.1)), (pm, .inl (g.2.1, 4096, .inl r_4.2.2.2.2.2.2.1)), (pt, .inl (g.2.1, 61, .inl (upd (upd r_4.2.2.2.2.2.2.2.2 (50 : Int32).toNatClampNeg 4) (57 : Int32).toNatClampNeg (((upd r_4.2.2.2.2.2.2.2.2 (50 : Int32).toNatClampNeg 4) (57 : Int32).toNatClampNeg) + 1))))] H := hP
      have hD : va_D A [(o, .inr (9, [.int refu, .ref pn, .ref pt, .ref pr, .ref pw, .ref pb, .int nst, .ref pk, .ref pi, .ref pf, .ref pl, .ref pe, .ref pm, .int r_4.2.2.2.2.2.2.2.1, .ref px, .int len, .int pos, .int gd, .int ps, .int sm])), (pn, .inl (g.2.1, 61, .inl r_4.1)), (pb, .inl (g.2.1, 366, .inl r_4.2.1)), (pk, .inl (g.2.1, 122, .inl r_4.2.2.1)), (pi, .inl (g.2.2.2.1, 2, .inl fisk)), (pf, .inl (g.2.2.1, 4096, .inr (.inl r_4.2.2.2.1))), (pl, .inl (g.2.2.1, 4096, .inr (.inl r_4.2.2.2.2.1))), (pe, .inl (g.2.1, 4096, .inl r_4.2.2.2.2.2.1)), (pm, .inl (g.2.1, 4096, .inl r_4.2.2.2.2.2.2.1)), (pt, .inl (g.2.1, 61, .inl (upd (upd r_4.2.2.2.2.2.2.2.2 (50 : Int32).toNatClampNeg 4) (57 : Int32).toNatClampNeg (((upd r_4.2.2.2.2.2.2.2.2 (50 : Int32).toNatClampNeg 4) (57 : Int32).toNatClampNeg) + 1))))] := hD
      refine lv_iload hx hb dX9_goMove_105 (lv_at hl 1 rfl) ?_
      have hyp := some_e hyp
      subst hyp
      subst hQ
      exact rwI hx hb hr hlocks  hP hD hS dX9_goMove_107
  · replace hyp := ite_f h_5 hyp
    refine lv_aload_n hx hb dX9_goMove_61 rfl (lv_at hl 4 rfl) ?_
    refine lv_bipush (v := 50) hx hb dX9_goMove_62 (by decide) ?_
    refine lv_iconst (v := 2) hx hb dX9_goMove_64 (by decide) ?_
    refine lv_iload hx hb dX9_goMove_65 (lv_at hl 0 rfl) ?_
    refine lv_iadd hx hb dX9_goMove_67 ?_
    obtain ⟨hi, hyp⟩ := grd_e hyp
    refine va_iast hx hb hE.1 hP hD hS 9 0 rfl rfl (inB_vp hi) dX9_goMove_68 (fun H locs hP hD hS => ?_)
    have hP : va_P g.1 vwCl [(o, .inr (9, [.int refu, .ref pn, .ref pt, .ref pr, .ref pw, .ref pb, .int nst, .ref pk, .ref pi, .ref pf, .ref pl, .ref pe, .ref pm, .int r_4.2.2.2.2.2.2.2.1, .ref px, .int len, .int pos, .int gd, .int ps, .int sm])), (pn, .inl (g.2.1, 61, .inl r_4.1)), (pb, .inl (g.2.1, 366, .inl r_4.2.1)), (pk, .inl (g.2.1, 122, .inl r_4.2.2.1)), (pi, .inl (g.2.2.2.1, 2, .inl fisk)), (pf, .inl (g.2.2.1, 4096, .inr (.inl r_4.2.2.2.1))), (pl, .inl (g.2.2.1, 4096, .inr (.inl r_4.2.2.2.2.1))), (pe, .inl (g.2.1, 4096, .inl r_4.2.2.2.2.2.1)), (pm, .inl (g.2.1, 4096, .inl r_4.2.2.2.2.2.2.1)), (pt, .inl (g.2.1, 61, .inl (upd r_4.2.2.2.2.2.2.2.2 (50 : Int32).toNatClampNeg (2 + r_3))))] H := hP
    have hD : va_D A [(o, .inr (9, [.int refu, .ref pn, .ref pt, .ref pr, .ref pw, .ref pb, .int nst, .ref pk, .ref pi, .ref pf, .ref pl, .ref pe, .ref pm, .int r_4.2.2.2.2.2.2.2.1, .ref px, .int len, .int pos, .int gd, .int ps, .int sm])), (pn, .inl (g.2.1, 61, .inl r_4.1)), (pb, .inl (g.2.1, 366, .inl r_4.2.1)), (pk, .inl (g.2.1, 122, .inl r_4.2.2.1)), (pi, .inl (g.2.2.2.1, 2, .inl fisk)), (pf, .inl (g.2.2.1, 4096, .inr (.inl r_4.2.2.2.1))), (pl, .inl (g.2.2.1, 4096, .inr (.inl r_4.2.2.2.2.1))), (pe, .inl (g.2.1, 4096, .inl r_4.2.2.2.2.2.1)), (pm, .inl (g.2.1, 4096, .inl r_4.2.2.2.2.2.2.1)), (pt, .inl (g.2.1, 61, .inl (upd r_4.2.2.2.2.2.2.2.2 (50 : Int32).toNatClampNeg (2 + r_3))))] := hD
    refine lv_aload_n hx hb dX9_goMove_69 rfl (lv_at hl 4 rfl) ?_
    refine lv_bipush (v := 55) hx hb dX9_goMove_70 (by decide) ?_
    refine lv_iload hx hb dX9_goMove_72 (lv_at hl 0 rfl) ?_
    refine lv_iadd hx hb dX9_goMove_74 ?_
    refine lv_dup2_11 hx hb dX9_goMove_75 rfl rfl ?_
    obtain ⟨hi, hyp⟩ := grd_e hyp
    refine va_iald hx hb hE.1 hP 9 0 rfl rfl (inB_vp hi) dX9_goMove_76 ?_
    refine lv_iconst (v := 1) hx hb dX9_goMove_77 (by decide) ?_
    refine lv_iadd hx hb dX9_goMove_78 ?_
    obtain ⟨hi, hyp⟩ := grd_e hyp
    refine va_iast hx hb hE.1 hP hD hS 9 0 rfl rfl (inB_vp hi) dX9_goMove_79 (fun H locs hP hD hS => ?_)
    have hP : va_P g.1 vwCl [(o, .inr (9, [.int refu, .ref pn, .ref pt, .ref pr, .ref pw, .ref pb, .int nst, .ref pk, .ref pi, .ref pf, .ref pl, .ref pe, .ref pm, .int r_4.2.2.2.2.2.2.2.1, .ref px, .int len, .int pos, .int gd, .int ps, .int sm])), (pn, .inl (g.2.1, 61, .inl r_4.1)), (pb, .inl (g.2.1, 366, .inl r_4.2.1)), (pk, .inl (g.2.1, 122, .inl r_4.2.2.1)), (pi, .inl (g.2.2.2.1, 2, .inl fisk)), (pf, .inl (g.2.2.1, 4096, .inr (.inl r_4.2.2.2.1))), (pl, .inl (g.2.2.1, 4096, .inr (.inl r_4.2.2.2.2.1))), (pe, .inl (g.2.1, 4096, .inl r_4.2.2.2.2.2.1)), (pm, .inl (g.2.1, 4096, .inl r_4.2.2.2.2.2.2.1)), (pt, .inl (g.2.1, 61, .inl (upd (upd r_4.2.2.2.2.2.2.2.2 (50 : Int32).toNatClampNeg (2 + r_3)) (55 + r_3).toNatClampNeg (((upd r_4.2.2.2.2.2.2.2.2 (50 : Int32).toNatClampNeg (2 + r_3)) (55 + r_3).toNatClampNeg) + 1))))] H := hP
    have hD : va_D A [(o, .inr (9, [.int refu, .ref pn, .ref pt, .ref pr, .ref pw, .ref pb, .int nst, .ref pk, .ref pi, .ref pf, .ref pl, .ref pe, .ref pm, .int r_4.2.2.2.2.2.2.2.1, .ref px, .int len, .int pos, .int gd, .int ps, .int sm])), (pn, .inl (g.2.1, 61, .inl r_4.1)), (pb, .inl (g.2.1, 366, .inl r_4.2.1)), (pk, .inl (g.2.1, 122, .inl r_4.2.2.1)), (pi, .inl (g.2.2.2.1, 2, .inl fisk)), (pf, .inl (g.2.2.1, 4096, .inr (.inl r_4.2.2.2.1))), (pl, .inl (g.2.2.1, 4096, .inr (.inl r_4.2.2.2.2.1))), (pe, .inl (g.2.1, 4096, .inl r_4.2.2.2.2.2.1)), (pm, .inl (g.2.1, 4096, .inl r_4.2.2.2.2.2.2.1)), (pt, .inl (g.2.1, 61, .inl (upd (upd r_4.2.2.2.2.2.2.2.2 (50 : Int32).toNatClampNeg (2 + r_3)) (55 + r_3).toNatClampNeg (((upd r_4.2.2.2.2.2.2.2.2 (50 : Int32).toNatClampNeg (2 + r_3)) (55 + r_3).toNatClampNeg) + 1))))] := hD
    refine lv_goto (tgt := 105) hx hb dX9_goMove_80 (by decide) ?_
    refine lv_iload hx hb dX9_goMove_105 (lv_at hl 1 rfl) ?_
    have hyp := some_e hyp
    subst hyp
    subst hQ
    exact rwI hx hb hr hlocks  hP hD hS dX9_goMove_107

def fX9_save_L51_B (fnow : Nat → Int32) (self_7 : Int32 → (Nat → Int32) → Int32 → Option ((Nat → Int32) × Int32)) (v1_4 : Int32) (wfbook_5 : Nat → Int32) (wnst_6 : Int32) : Option ((Nat → Int32) × Int32) :=
  if 61 ≤ v1_4 then (some (wfbook_5, wnst_6 + 1)) else (grd (inB v1_4 61) (grd (inB ((61 * wnst_6) + v1_4) 366) (self_7 (v1_4 + 1) (upd wfbook_5 ((61 * wnst_6) + v1_4).toNatClampNeg (fnow v1_4.toNatClampNeg)) wnst_6)))
def fX9_save_L51 (fnow : Nat → Int32) (n : Nat) (v1_4 : Int32) (wfbook_5 : Nat → Int32) (wnst_6 : Int32) : Option ((Nat → Int32) × Int32) := lp (fun zf z => fX9_save_L51_B fnow (fun v1_4 wfbook_5 wnst_6 => zf (v1_4, wfbook_5, wnst_6)) z.1 z.2.1 z.2.2) n (v1_4, wfbook_5, wnst_6)
def fX9_save_L11_B (J_3 : (Nat → Int32) → Int32 → Option ((Nat → Int32) × Int32)) (self_13 : Int32 → (Nat → Int32) → Int32 → Option ((Nat → Int32) × Int32)) (v1_10 : Int32) (wfbook_11 : Nat → Int32) (wnst_12 : Int32) : Option ((Nat → Int32) × Int32) :=
  if 305 ≤ v1_10 then (J_3 wfbook_11 (wnst_12 - 1)) else (grd (inB (61 + v1_10) 366) (grd (inB v1_10 366) (self_13 (v1_10 + 1) (upd wfbook_11 v1_10.toNatClampNeg (wfbook_11 (61 + v1_10).toNatClampNeg)) wnst_12)))
def fX9_save_L11 (J_3 : (Nat → Int32) → Int32 → Option ((Nat → Int32) × Int32)) (n : Nat) (v1_10 : Int32) (wfbook_11 : Nat → Int32) (wnst_12 : Int32) : Option ((Nat → Int32) × Int32) := lp (fun zf z => fX9_save_L11_B J_3 (fun v1_10 wfbook_11 wnst_12 => zf (v1_10, wfbook_11, wnst_12)) z.1 z.2.1 z.2.2) n (v1_10, wfbook_11, wnst_12)
def fX9_save (nst : Int32) (fnow : Nat → Int32) (fbook : Nat → Int32) : Option ((Nat → Int32) × Int32) :=
  jn (fun (wfbook_1 : Nat → Int32) (wnst_2 : Int32) => fX9_save_L51 fnow 400 0 wfbook_1 wnst_2) (fun J_3 => if nst = 6 then (fX9_save_L11 J_3 400 0 fbook nst) else (J_3 fbook nst))
set_option maxRecDepth 100000 in
set_option maxHeartbeats 4000000 in
theorem mX9_save (l : Launch) (g : GE) (o pn pb pt pr pw pk pi pf pl pe pm px : Nat) (refu : Int32) (nst : Int32) (nn : Int32) (len : Int32) (pos : Int32) (gd : Int32) (ps : Int32) (sm : Int32) (fnow : Nat → Int32) (fbook : Nat → Int32) (r : (Nat → Int32) × Int32) (hyp : fX9_save nst fnow fbook = some r) : WM l yX9_save cX9_save 2 none 0 0 g [(o, .inr (9, [.int refu, .ref pn, .ref pt, .ref pr, .ref pw, .ref pb, .int nst, .ref pk, .ref pi, .ref pf, .ref pl, .ref pe, .ref pm, .int nn, .ref px, .int len, .int pos, .int gd, .int ps, .int sm])), (pn, .inl (g.2.1, 61, .inl fnow)), (pb, .inl (g.2.1, 366, .inl fbook))] [.ref o] none [(o, .inr (9, [.int refu, .ref pn, .ref pt, .ref pr, .ref pw, .ref pb, .int r.2, .ref pk, .ref pi, .ref pf, .ref pl, .ref pe, .ref pm, .int nn, .ref px, .int len, .int pos, .int gd, .int ps, .int sm])), (pn, .inl (g.2.1, 61, .inl fnow)), (pb, .inl (g.2.1, 366, .inl r.1))] := by
  refine metW_intro (by decide) rfl ?_
  intro p e R s m args below meth c Q A hRf hRl hQ hx hb hml hr hlocks hown hts hin hE hA H locs hP hD hS ls hl
  have hown : s.vm.findClass "HallGuardsModel" = some m.cls := hown
  have hl : lv_has ls 2 [(0, .ref o)] := hl
  unfold fX9_save at hyp
  refine lv_aload_n hx hb dX9_save_0 rfl (lv_at hl 0 rfl) ?_
  refine gf_X9_111 hx hb hts hown hE hP 0 rfl rfl dX9_save_1 ?_
  refine lv_bipush (v := 6) hx hb dX9_save_4 (by decide) ?_
  obtain ⟨J_3, eJ_3, hyp⟩ := jn_e hyp
  have kJ_3 : ∀ (wfbook_1 : Nat → Int32) (wnst_2 : Int32) (H : Heap) (locs : List Loc) (ls : Array Slot), J_3 wfbook_1 wnst_2 = some r → lv_has ls 2 [(0, .ref o)] → va_P g.1 vwCl [(o, .inr (9, [.int refu, .ref pn, .ref pt, .ref pr, .ref pw, .ref pb, .int wnst_2, .ref pk, .ref pi, .ref pf, .ref pl, .ref pe, .ref pm, .int nn, .ref px, .int len, .int pos, .int gd, .int ps, .int sm])), (pn, .inl (g.2.1, 61, .inl fnow)), (pb, .inl (g.2.1, 366, .inl wfbook_1))] H → va_D A [(o, .inr (9, [.int refu, .ref pn, .ref pt, .ref pr, .ref pw, .ref pb, .int wnst_2, .ref pk, .ref pi, .ref pf, .ref pl, .ref pe, .ref pm, .int nn, .ref px, .int len, .int pos, .int gd, .int ps, .int sm])), (pn, .inl (g.2.1, 61, .inl fnow)), (pb, .inl (g.2.1, 366, .inl wfbook_1))] → va_S A s.heap H locs → W p l e R s m args below meth c H locs 0 0 Q (F0 m 49 ls []) := by
    intro wfbook_1 wnst_2 H locs  ls hyp hl hP hD hS
    replace hyp := (congrFun (congrFun (eJ_3) wfbook_1) wnst_2).symm.trans hyp
    refine lv_iconst (v := 0) hx hb dX9_save_49 (by decide) ?_
    refine lv_istore_n (lv' := [(1, .int 0), (0, .ref o)]) hx hb dX9_save_50 rfl hl (by decide) rfl (fun ls hl => ?_)
    refine lp_i (r := r) (fun z : Int32 × (Nat → Int32) × Int32 => ∀ (H : Heap) (locs : List Loc) (ls : Array Slot), lv_has ls 2 [(0, .ref o), (1, .int z.1)] → va_P g.1 vwCl [(o, .inr (9, [.int refu, .ref pn, .ref pt, .ref pr, .ref pw, .ref pb, .int z.2.2, .ref pk, .ref pi, .ref pf, .ref pl, .ref pe, .ref pm, .int nn, .ref px, .int len, .int pos, .int gd, .int ps, .int sm])), (pn, .inl (g.2.1, 61, .inl fnow)), (pb, .inl (g.2.1, 366, .inl z.2.1))] H → va_D A [(o, .inr (9, [.int refu, .ref pn, .ref pt, .ref pr, .ref pw, .ref pb, .int z.2.2, .ref pk, .ref pi, .ref pf, .ref pl, .ref pe, .ref pm, .int nn, .ref px, .int len, .int pos, .int gd, .int ps, .int sm])), (pn, .inl (g.2.1, 61, .inl fnow)), (pb, .inl (g.2.1, 366, .inl z.2.1))] → va_S A s.heap H locs → W p l e R s m args below meth c H locs 0 0 Q (F0 m 51 ls [])) ?_ 400 (0, wfbook_1, wnst_2) hyp _ _ ls (lv_sub hl [1, 0] rfl) hP hD hS
    intro self_7T ihself_7T z hyp H locs ls hl hP hD hS
    obtain ⟨v1_4, wfbook_5, wnst_6⟩ := z
    obtain ⟨self_7, eself_7⟩ : ∃ f9 : Int32 → (Nat → Int32) → Int32 → Option ((Nat → Int32) × Int32), f9 = fun v1_4 wfbook_5 wnst_6 => self_7T (v1_4, wfbook_5, wnst_6) := ⟨_, rfl⟩
    have ihself_7 := fun (v1_4 : Int32) (wfbook_5 : Nat → Int32) (wnst_6 : Int32) (h9 : self_7 v1_4 wfbook_5 wnst_6 = some r) => ihself_7T (v1_4, wfbook_5, wnst_6) (by rw [eself_7] at h9; exact h9)
    replace hyp : fX9_save_L51_B fnow self_7 v1_4 wfbook_5 wnst_6 = some r := by rw [eself_7]; exact hyp
    have hl : lv_has ls 2 [(0, .ref o), (1, .int v1_4)] := hl
    have hP : va_P g.1 vwCl [(o, .inr (9, [.int refu, .ref pn, .ref pt, .ref pr, .ref pw, .ref pb, .int wnst_6, .ref pk, .ref pi, .ref pf, .ref pl, .ref pe, .ref pm, .int nn, .ref px, .int len, .int pos, .int gd, .int ps, .int sm])), (pn, .inl (g.2.1, 61, .inl fnow)), (pb, .inl (g.2.1, 366, .inl wfbook_5))] H := hP
    have hD : va_D A [(o, .inr (9, [.int refu, .ref pn, .ref pt, .ref pr, .ref pw, .ref pb, .int wnst_6, .ref pk, .ref pi, .ref pf, .ref pl, .ref pe, .ref pm, .int nn, .ref px, .int len, .int pos, .int gd, .int ps, .int sm])), (pn, .inl (g.2.1, 61, .inl fnow)), (pb, .inl (g.2.1, 366, .inl wfbook_5))] := hD
    show W p l e R s m args below meth c H locs 0 0 Q (F0 m 51 ls [])
    unfold fX9_save_L51_B at hyp
    refine lv_iload_n hx hb dX9_save_51 rfl (lv_at hl 1 rfl) ?_
    refine lv_bipush (v := 61) hx hb dX9_save_52 (by decide) ?_
    refine lv_icmp_ge (tgt := 83) hx hb dX9_save_54 (by decide) (fun h_8 => ?_) (fun h_8 => ?_)
    · replace hyp := ite_t h_8 hyp
      refine lv_aload_n hx hb dX9_save_83 rfl (lv_at hl 0 rfl) ?_
      refine lv_dup hx hb dX9_save_84 rfl ?_
      refine gf_X9_111 hx hb hts hown hE hP 0 rfl rfl dX9_save_85 ?_
      refine lv_iconst (v := 1) hx hb dX9_save_88 (by decide) ?_
      refine lv_iadd hx hb dX9_save_89 ?_
      refine pf_X9_111 hx hb hts hown hE hP hD hS 0 rfl rfl dX9_save_90 (fun H locs hP hD hS => ?_)
      have hP : va_P g.1 vwCl [(o, .inr (9, [.int refu, .ref pn, .ref pt, .ref pr, .ref pw, .ref pb, .int (wnst_6 + 1), .ref pk, .ref pi, .ref pf, .ref pl, .ref pe, .ref pm, .int nn, .ref px, .int len, .int pos, .int gd, .int ps, .int sm])), (pn, .inl (g.2.1, 61, .inl fnow)), (pb, .inl (g.2.1, 366, .inl wfbook_5))] H := hP
      have hD : va_D A [(o, .inr (9, [.int refu, .ref pn, .ref pt, .ref pr, .ref pw, .ref pb, .int (wnst_6 + 1), .ref pk, .ref pi, .ref pf, .ref pl, .ref pe, .ref pm, .int nn, .ref px, .int len, .int pos, .int gd, .int ps, .int sm])), (pn, .inl (g.2.1, 61, .inl fnow)), (pb, .inl (g.2.1, 366, .inl wfbook_5))] := hD
      have hyp := some_e hyp
      subst hyp
      subst hQ
      exact rwV hx hb hr hlocks  hP hD hS dX9_save_93
    · replace hyp := ite_f h_8 hyp
      refine lv_aload_n hx hb dX9_save_57 rfl (lv_at hl 0 rfl) ?_
      refine gf_X9_22 hx hb hts hown hE hP 0 rfl rfl dX9_save_58 ?_
      refine lv_bipush (v := 61) hx hb dX9_save_61 (by decide) ?_
      refine lv_aload_n hx hb dX9_save_63 rfl (lv_at hl 0 rfl) ?_
      refine gf_X9_111 hx hb hts hown hE hP 0 rfl rfl dX9_save_64 ?_
      refine lv_imul hx hb dX9_save_67 ?_
      refine lv_iload_n hx hb dX9_save_68 rfl (lv_at hl 1 rfl) ?_
      refine lv_iadd hx hb dX9_save_69 ?_
      refine lv_aload_n hx hb dX9_save_70 rfl (lv_at hl 0 rfl) ?_
      refine gf_X9_7 hx hb hts hown hE hP 0 rfl rfl dX9_save_71 ?_
      refine lv_iload_n hx hb dX9_save_74 rfl (lv_at hl 1 rfl) ?_
      obtain ⟨hi, hyp⟩ := grd_e hyp
      refine va_iald hx hb hE.1 hP 1 0 rfl rfl (inB_vp hi) dX9_save_75 ?_
      obtain ⟨hi, hyp⟩ := grd_e hyp
      refine va_iast hx hb hE.1 hP hD hS 2 0 rfl rfl (inB_vp hi) dX9_save_76 (fun H locs hP hD hS => ?_)
      have hP : va_P g.1 vwCl [(o, .inr (9, [.int refu, .ref pn, .ref pt, .ref pr, .ref pw, .ref pb, .int wnst_6, .ref pk, .ref pi, .ref pf, .ref pl, .ref pe, .ref pm, .int nn, .ref px, .int len, .int pos, .int gd, .int ps, .int sm])), (pn, .inl (g.2.1, 61, .inl fnow)), (pb, .inl (g.2.1, 366, .inl (upd wfbook_5 ((61 * wnst_6) + v1_4).toNatClampNeg (fnow v1_4.toNatClampNeg))))] H := hP
      have hD : va_D A [(o, .inr (9, [.int refu, .ref pn, .ref pt, .ref pr, .ref pw, .ref pb, .int wnst_6, .ref pk, .ref pi, .ref pf, .ref pl, .ref pe, .ref pm, .int nn, .ref px, .int len, .int pos, .int gd, .int ps, .int sm])), (pn, .inl (g.2.1, 61, .inl fnow)), (pb, .inl (g.2.1, 366, .inl (upd wfbook_5 ((61 * wnst_6) + v1_4).toNatClampNeg (fnow v1_4.toNatClampNeg))))] := hD
      refine lv_iinc (v := v1_4 + 1) (lv' := [(1, .int (v1_4 + 1)), (0, .ref o)]) hx hb dX9_save_77 hl (k := 1) rfl rfl (by decide) rfl (fun ls hl => ?_)
      refine lv_goto (tgt := 51) hx hb dX9_save_80 (by decide) ?_
      exact ihself_7 (v1_4 + 1) (upd wfbook_5 ((61 * wnst_6) + v1_4).toNatClampNeg (fnow v1_4.toNatClampNeg)) wnst_6 hyp H locs ls (lv_sub hl [1, 0] rfl) hP hD hS
  refine lv_icmp_ne (tgt := 49) hx hb dX9_save_6 (by decide) (fun h_9 => ?_) (fun h_9 => ?_)
  · replace hyp := ite_f h_9 hyp
    exact kJ_3 fbook nst H locs ls hyp hl hP hD hS
  · replace hyp := ite_t h_9 hyp
    refine lv_iconst (v := 0) hx hb dX9_save_9 (by decide) ?_
    refine lv_istore_n (lv' := [(1, .int 0), (0, .ref o)]) hx hb dX9_save_10 rfl hl (by decide) rfl (fun ls hl => ?_)
    refine lp_i (r := r) (fun z : Int32 × (Nat → Int32) × Int32 => ∀ (H : Heap) (locs : List Loc) (ls : Array Slot), lv_has ls 2 [(0, .ref o), (1, .int z.1)] → va_P g.1 vwCl [(o, .inr (9, [.int refu, .ref pn, .ref pt, .ref pr, .ref pw, .ref pb, .int z.2.2, .ref pk, .ref pi, .ref pf, .ref pl, .ref pe, .ref pm, .int nn, .ref px, .int len, .int pos, .int gd, .int ps, .int sm])), (pn, .inl (g.2.1, 61, .inl fnow)), (pb, .inl (g.2.1, 366, .inl z.2.1))] H → va_D A [(o, .inr (9, [.int refu, .ref pn, .ref pt, .ref pr, .ref pw, .ref pb, .int z.2.2, .ref pk, .ref pi, .ref pf, .ref pl, .ref pe, .ref pm, .int nn, .ref px, .int len, .int pos, .int gd, .int ps, .int sm])), (pn, .inl (g.2.1, 61, .inl fnow)), (pb, .inl (g.2.1, 366, .inl z.2.1))] → va_S A s.heap H locs → W p l e R s m args below meth c H locs 0 0 Q (F0 m 11 ls [])) ?_ 400 (0, fbook, nst) hyp _ _ ls (lv_sub hl [1, 0] rfl) hP hD hS
    intro self_13T ihself_13T z hyp H locs ls hl hP hD hS
    obtain ⟨v1_10, wfbook_11, wnst_12⟩ := z
    obtain ⟨self_13, eself_13⟩ : ∃ f9 : Int32 → (Nat → Int32) → Int32 → Option ((Nat → Int32) × Int32), f9 = fun v1_10 wfbook_11 wnst_12 => self_13T (v1_10, wfbook_11, wnst_12) := ⟨_, rfl⟩
    have ihself_13 := fun (v1_10 : Int32) (wfbook_11 : Nat → Int32) (wnst_12 : Int32) (h9 : self_13 v1_10 wfbook_11 wnst_12 = some r) => ihself_13T (v1_10, wfbook_11, wnst_12) (by rw [eself_13] at h9; exact h9)
    replace hyp : fX9_save_L11_B J_3 self_13 v1_10 wfbook_11 wnst_12 = some r := by rw [eself_13]; exact hyp
    have hl : lv_has ls 2 [(0, .ref o), (1, .int v1_10)] := hl
    have hP : va_P g.1 vwCl [(o, .inr (9, [.int refu, .ref pn, .ref pt, .ref pr, .ref pw, .ref pb, .int wnst_12, .ref pk, .ref pi, .ref pf, .ref pl, .ref pe, .ref pm, .int nn, .ref px, .int len, .int pos, .int gd, .int ps, .int sm])), (pn, .inl (g.2.1, 61, .inl fnow)), (pb, .inl (g.2.1, 366, .inl wfbook_11))] H := hP
    have hD : va_D A [(o, .inr (9, [.int refu, .ref pn, .ref pt, .ref pr, .ref pw, .ref pb, .int wnst_12, .ref pk, .ref pi, .ref pf, .ref pl, .ref pe, .ref pm, .int nn, .ref px, .int len, .int pos, .int gd, .int ps, .int sm])), (pn, .inl (g.2.1, 61, .inl fnow)), (pb, .inl (g.2.1, 366, .inl wfbook_11))] := hD
    show W p l e R s m args below meth c H locs 0 0 Q (F0 m 11 ls [])
    unfold fX9_save_L11_B at hyp
    refine lv_iload_n hx hb dX9_save_11 rfl (lv_at hl 1 rfl) ?_
    refine lv_sipush (v := 305) hx hb dX9_save_12 (by decide) ?_
    refine lv_icmp_ge (tgt := 39) hx hb dX9_save_15 (by decide) (fun h_14 => ?_) (fun h_14 => ?_)
    · replace hyp := ite_t h_14 hyp
      refine lv_aload_n hx hb dX9_save_39 rfl (lv_at hl 0 rfl) ?_
      refine lv_dup hx hb dX9_save_40 rfl ?_
      refine gf_X9_111 hx hb hts hown hE hP 0 rfl rfl dX9_save_41 ?_
      refine lv_iconst (v := 1) hx hb dX9_save_44 (by decide) ?_
      refine lv_isub hx hb dX9_save_45 ?_
      refine pf_X9_111 hx hb hts hown hE hP hD hS 0 rfl rfl dX9_save_46 (fun H locs hP hD hS => ?_)
      have hP : va_P g.1 vwCl [(o, .inr (9, [.int refu, .ref pn, .ref pt, .ref pr, .ref pw, .ref pb, .int (wnst_12 - 1), .ref pk, .ref pi, .ref pf, .ref pl, .ref pe, .ref pm, .int nn, .ref px, .int len, .int pos, .int gd, .int ps, .int sm])), (pn, .inl (g.2.1, 61, .inl fnow)), (pb, .inl (g.2.1, 366, .inl wfbook_11))] H := hP
      have hD : va_D A [(o, .inr (9, [.int refu, .ref pn, .ref pt, .ref pr, .ref pw, .ref pb, .int (wnst_12 - 1), .ref pk, .ref pi, .ref pf, .ref pl, .ref pe, .ref pm, .int nn, .ref px, .int len, .int pos, .int gd, .int ps, .int sm])), (pn, .inl (g.2.1, 61, .inl fnow)), (pb, .inl (g.2.1, 366, .inl wfbook_11))] := hD
      exact kJ_3 wfbook_11 (wnst_12 - 1) H locs ls hyp (lv_sub hl [0] rfl) hP hD hS
    · replace hyp := ite_f h_14 hyp
      refine lv_aload_n hx hb dX9_save_18 rfl (lv_at hl 0 rfl) ?_
      refine gf_X9_22 hx hb hts hown hE hP 0 rfl rfl dX9_save_19 ?_
      refine lv_iload_n hx hb dX9_save_22 rfl (lv_at hl 1 rfl) ?_
      refine lv_aload_n hx hb dX9_save_23 rfl (lv_at hl 0 rfl) ?_
      refine gf_X9_22 hx hb hts hown hE hP 0 rfl rfl dX9_save_24 ?_
      refine lv_bipush (v := 61) hx hb dX9_save_27 (by decide) ?_
      refine lv_iload_n hx hb dX9_save_29 rfl (lv_at hl 1 rfl) ?_
      refine lv_iadd hx hb dX9_save_30 ?_
      obtain ⟨hi, hyp⟩ := grd_e hyp
      refine va_iald hx hb hE.1 hP 2 0 rfl rfl (inB_vp hi) dX9_save_31 ?_
      obtain ⟨hi, hyp⟩ := grd_e hyp
      refine va_iast hx hb hE.1 hP hD hS 2 0 rfl rfl (inB_vp hi) dX9_save_32 (fun H locs hP hD hS => ?_)
      have hP : va_P g.1 vwCl [(o, .inr (9, [.int refu, .ref pn, .ref pt, .ref pr, .ref pw, .ref pb, .int wnst_12, .ref pk, .ref pi, .ref pf, .ref pl, .ref pe, .ref pm, .int nn, .ref px, .int len, .int pos, .int gd, .int ps, .int sm])), (pn, .inl (g.2.1, 61, .inl fnow)), (pb, .inl (g.2.1, 366, .inl (upd wfbook_11 v1_10.toNatClampNeg (wfbook_11 (61 + v1_10).toNatClampNeg))))] H := hP
      have hD : va_D A [(o, .inr (9, [.int refu, .ref pn, .ref pt, .ref pr, .ref pw, .ref pb, .int wnst_12, .ref pk, .ref pi, .ref pf, .ref pl, .ref pe, .ref pm, .int nn, .ref px, .int len, .int pos, .int gd, .int ps, .int sm])), (pn, .inl (g.2.1, 61, .inl fnow)), (pb, .inl (g.2.1, 366, .inl (upd wfbook_11 v1_10.toNatClampNeg (wfbook_11 (61 + v1_10).toNatClampNeg))))] := hD
      refine lv_iinc (v := v1_10 + 1) (lv' := [(1, .int (v1_10 + 1)), (0, .ref o)]) hx hb dX9_save_33 hl (k := 1) rfl rfl (by decide) rfl (fun ls hl => ?_)
      refine lv_goto (tgt := 11) hx hb dX9_save_36 (by decide) ?_
      exact ihself_13 (v1_10 + 1) (upd wfbook_11 v1_10.toNatClampNeg (wfbook_11 (61 + v1_10).toNatClampNeg)) wnst_12 hyp H locs ls (lv_sub hl [1, 0] rfl) hP hD hS

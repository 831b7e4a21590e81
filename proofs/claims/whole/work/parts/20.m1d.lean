def fX9_mix (a1 : Int64) (a2 : Int64) : Option Int64 :=
  some ((31 * a1) + a2)
set_option maxRecDepth 100000 in
set_option maxHeartbeats 4000000 in
theorem mX9_mix (l : Launch) (g : GE) (a1 : Int64) (a2 : Int64) (r : Int64) (hyp : fX9_mix a1 a2 = some r) : PJ l yX9_mix cX9_mix 4 (some .long) 0 0 g [] [.long a1, .long a2] r := by
  refine metP_intro (by decide) rfl ?_
  intro p e R s m args below meth c Q hRf hRl hQ hx hb hml hr hlocks hown hts hin hE hP ls hl
  have hown : s.vm.findClass "HallGuardsModel" = some m.cls := hown
  have hl : lv_has ls 4 [(0, .long a1), (2, .long a2)] := hl
  unfold fX9_mix at hyp
  refine lv_ldc2 (v := 31) hx hb hown (hts _ ct_X9_266) dX9_mix_0 ?_
  refine lv_lload_n hx hb dX9_mix_3 rfl (lv_at hl 0 rfl) ?_
  refine lv_lmul hx hb dX9_mix_4 ?_
  refine lv_lload_n hx hb dX9_mix_5 rfl (lv_at hl 1 rfl) ?_
  refine lv_ladd hx hb dX9_mix_6 ?_
  subst hQ
  exact rJ hx hb hr hlocks (some_e hyp) dX9_mix_7

def fX5_timesIn (ch : List PC) (tp : Int64) (tq : Int64) (td : Int32) : Option Int32 := grd (decide (ch.length ≤ 1000)) (some (tin ch tp tq td))
set_option maxRecDepth 100000 in
set_option maxHeartbeats 4000000 in
theorem timesIn_loop {p : Program} {l : Launch} {e : Env} {R : Room} {s : State} {m : MethodId} {args : Array Value} {below : List Frame} {meth : Method} {c : Code} {g : GE} {P1 P2 : Int64} {d v : Int32} (hx : p.tables.exec = Jvm.exec) (hb : c.code = cX5_timesIn) (hr : meth.sig.returnType = some .int) (hlocks : meth.locks = false) (hown : s.vm.findClass "HallGuards$Position" = some m.cls) (hts : ∀ w ∈ TB, w.before args s = true) (hE : EV g s) : ∀ (t : List PC) (bef : Option Nat) (i : Nat), i + t.length ≤ 1000 → OC g t bef noA s s.heap → tin t P1 P2 d = v → ∀ ls : Array Slot, lv_has ls 8 [(1, .long P1), (3, .long P2), (5, .int d), (6, va_rf bef), (7, .int (nI i))] → W p l e R s m args below meth c s.heap [] 0 0 (MQ below (qI v) args s 0 0 noF) (F0 m 6 ls []) := by
  intro t
  induction t with
  | nil =>
    intro bef i hi hO hv ls hl
    have hbef : bef = none := hO
    subst hbef
    have hv : (0 : Int32) = v := hv
    have hl : lv_has ls 8 [(1, .long P1), (3, .long P2), (5, .int d), (6, .null), (7, .int (nI i))] := hl
    refine lv_iload hx hb dX5_timesIn_6 (lv_at hl 4 rfl) ?_
    refine lv_sipush (v := 1000) hx hb dX5_timesIn_8 (by decide) ?_
    have k68 : W p l e R s m args below meth c s.heap [] 0 0 (MQ below (qI v) args s 0 0 noF) (F0 m 68 ls []) := by
      refine lv_iconst (v := 0) hx hb dX5_timesIn_68 (by decide) ?_
      exact rI hx hb hr hlocks hv dX5_timesIn_69
    refine lv_icmp_ge (tgt := 68) hx hb dX5_timesIn_11 (by decide) (fun h => ?_) (fun h => ?_)
    · exact k68
    · refine lv_aloadN hx hb dX5_timesIn_14 (lv_at hl 3 rfl) ?_
      refine lv_ifnullN (tgt := 68) hx hb dX5_timesIn_16 (by decide) ?_
      exact k68
  | cons x t ih =>
    intro bef i hi hO hv ls hl
    obtain ⟨a, bef', rfl, h2, h3, h4⟩ := hO
    have hi' : i + (t.length + 1) ≤ 1000 := hi
    have hl : lv_has ls 8 [(1, .long P1), (3, .long P2), (5, .int d), (6, .ref a), (7, .int (nI i))] := hl
    refine lv_iload hx hb dX5_timesIn_6 (lv_at hl 4 rfl) ?_
    refine lv_sipush (v := 1000) hx hb dX5_timesIn_8 (by decide) ?_
    refine lv_icmp_ge (tgt := 68) hx hb dX5_timesIn_11 (by decide) (fun h => ?_) (fun h => ?_)
    · exact absurd h (nI_ge (a := i) (b := 1000) (by omega) (by decide))
    refine lv_aload hx hb dX5_timesIn_14 (lv_at hl 3 rfl) ?_
    refine lv_ifnull hx hb dX5_timesIn_16 ?_
    have k55 : tin t P1 P2 d = v → W p l e R s m args below meth c s.heap [] 0 0 (MQ below (qI v) args s 0 0 noF) (F0 m 55 ls []) := by
      intro hv
      refine lv_aload hx hb dX5_timesIn_55 (lv_at hl 3 rfl) ?_
      refine gf_X5_29 hx hb hts hown hE h2 0 rfl rfl dX5_timesIn_57 ?_
      have k62 : ∀ ls : Array Slot, lv_has ls 8 [(6, va_rf bef'), (1, .long P1), (3, .long P2), (5, .int d), (7, .int (nI i))] → W p l e R s m args below meth c s.heap [] 0 0 (MQ below (qI v) args s 0 0 noF) (F0 m 62 ls []) := by
        intro ls hl
        refine lv_iinc (v := nI i + 1) (lv' := [(7, .int (nI i + 1)), (6, va_rf bef'), (1, .long P1), (3, .long P2), (5, .int d)]) hx hb dX5_timesIn_62 hl (k := 4) rfl rfl (by decide) (by cases bef' <;> rfl) (fun ls hl => ?_)
        refine lv_goto (tgt := 6) hx hb dX5_timesIn_65 (by decide) ?_
        rw [← nI_succ] at hl
        exact ih bef' (i + 1) (by omega) h4 hv ls (lv_sub hl [2, 3, 4, 1, 0] rfl)
      cases bef' with
      | none =>
        refine lv_astoreN (lv' := [(6, .null), (1, .long P1), (3, .long P2), (5, .int d), (7, .int (nI i))]) hx hb dX5_timesIn_60 hl (by decide) rfl (fun ls hl => ?_)
        exact k62 ls hl
      | some b =>
        refine lv_astore (lv' := [(6, .ref b), (1, .long P1), (3, .long P2), (5, .int d), (7, .int (nI i))]) hx hb dX5_timesIn_60 hl (by decide) rfl (fun ls hl => ?_)
        exact k62 ls hl
    unfold tin at hv
    refine lv_aload hx hb dX5_timesIn_19 (lv_at hl 3 rfl) ?_
    refine gf_X5_15 hx hb hts hown hE h2 0 rfl rfl dX5_timesIn_21 ?_
    refine lv_lload_n hx hb dX5_timesIn_24 rfl (lv_at hl 0 rfl) ?_
    refine W.lcmp hx hb dX5_timesIn_25 ?_
    refine lv_if_ne (tgt := 55) hx hb dX5_timesIn_26 (by decide) (fun h1 => ?_) (fun h1 => ?_)
    · rw [if_neg (fun q => h1 ((lg_cmp_eq _ _).mpr q.1))] at hv
      exact k55 hv
    have e1 := (lg_cmp_eq _ _).mp h1
    refine lv_aload hx hb dX5_timesIn_29 (lv_at hl 3 rfl) ?_
    refine gf_X5_19 hx hb hts hown hE h2 0 rfl rfl dX5_timesIn_31 ?_
    refine lv_lload_n hx hb dX5_timesIn_34 rfl (lv_at hl 1 rfl) ?_
    refine W.lcmp hx hb dX5_timesIn_35 ?_
    refine lv_if_ne (tgt := 55) hx hb dX5_timesIn_36 (by decide) (fun h1 => ?_) (fun h1 => ?_)
    · rw [if_neg (fun q => h1 ((lg_cmp_eq _ _).mpr q.2.1))] at hv
      exact k55 hv
    have e2 := (lg_cmp_eq _ _).mp h1
    refine lv_aload hx hb dX5_timesIn_39 (lv_at hl 3 rfl) ?_
    refine gf_X5_22 hx hb hts hown hE h2 0 rfl rfl dX5_timesIn_41 ?_
    refine lv_iload hx hb dX5_timesIn_44 (lv_at hl 2 rfl) ?_
    refine lv_icmp_ne (tgt := 55) hx hb dX5_timesIn_46 (by decide) (fun h1 => ?_) (fun h1 => ?_)
    · rw [if_neg (fun q => h1 q.2.2)] at hv
      exact k55 hv
    rw [if_pos ⟨e1, e2, h1⟩] at hv
    refine lv_aload hx hb dX5_timesIn_49 (lv_at hl 3 rfl) ?_
    refine gf_X5_37 hx hb hts hown hE h2 0 rfl rfl dX5_timesIn_51 ?_
    exact rI hx hb hr hlocks hv dX5_timesIn_54
set_option maxRecDepth 100000 in
set_option maxHeartbeats 4000000 in
theorem mX5_timesIn (l : Launch) (g : GE) (ch : List PC) (lat : Option Nat) (tp tq : Int64) (td : Int32) (r : Int32) (hyp : fX5_timesIn ch tp tq td = some r) : PIO l yX5_timesIn cX5_timesIn 8 (some .int) 0 0 g [] (OC g ch lat) [va_rf lat, .long tp, .long tq, .int td] r := by
  obtain ⟨hi, hyp⟩ := grd_e hyp
  replace hi := of_decide_eq_true hi
  have hyp := some_e hyp
  cases lat with
  | none =>
    refine metPO_intro (by decide) rfl ?_
    intro p e R s m args below meth c Q hRf hRl hQ hx hb hml hr hlocks hown hts hin hE hP hO ls hl
    have hown : s.vm.findClass "HallGuards$Position" = some m.cls := hown
    have hl : lv_has ls 8 [(0, .null), (1, .long tp), (3, .long tq), (5, .int td)] := hl
    subst hQ
    refine lv_aload_nN hx hb dX5_timesIn_0 rfl (lv_at hl 0 rfl) ?_
    refine lv_astoreN (lv' := [(6, .null), (0, .null), (1, .long tp), (3, .long tq), (5, .int td)]) hx hb dX5_timesIn_1 hl (by decide) rfl (fun ls hl => ?_)
    refine lv_iconst (v := 0) hx hb dX5_timesIn_3 (by decide) ?_
    refine lv_istore (lv' := [(7, .int 0), (6, .null), (0, .null), (1, .long tp), (3, .long tq), (5, .int td)]) hx hb dX5_timesIn_4 hl (by decide) rfl (fun ls hl => ?_)
    exact timesIn_loop hx hb hr hlocks hown hts hE ch none 0 (by omega) hO hyp ls (lv_sub hl [3, 4, 5, 1, 0] rfl)
  | some a =>
    refine metPO_intro (by decide) rfl ?_
    intro p e R s m args below meth c Q hRf hRl hQ hx hb hml hr hlocks hown hts hin hE hP hO ls hl
    have hown : s.vm.findClass "HallGuards$Position" = some m.cls := hown
    have hl : lv_has ls 8 [(0, .ref a), (1, .long tp), (3, .long tq), (5, .int td)] := hl
    subst hQ
    refine lv_aload_n hx hb dX5_timesIn_0 rfl (lv_at hl 0 rfl) ?_
    refine lv_astore (lv' := [(6, .ref a), (0, .ref a), (1, .long tp), (3, .long tq), (5, .int td)]) hx hb dX5_timesIn_1 hl (by decide) rfl (fun ls hl => ?_)
    refine lv_iconst (v := 0) hx hb dX5_timesIn_3 (by decide) ?_
    refine lv_istore (lv' := [(7, .int 0), (6, .ref a), (0, .ref a), (1, .long tp), (3, .long tq), (5, .int td)]) hx hb dX5_timesIn_4 hl (by decide) rfl (fun ls hl => ?_)
    exact timesIn_loop hx hb hr hlocks hown hts hE ch (some a) 0 (by omega) hO hyp ls (lv_sub hl [3, 4, 5, 1, 0] rfl)

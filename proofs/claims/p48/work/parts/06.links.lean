section LINKS
variable {p : Program} {l : Launch} {e : Env} {R : Room} {s : State} {m : MethodId} {args : Array Value} {below : List Frame} {meth : Method} {c : Code} {H H0 : Heap} {locs : List Loc} {cells slots : Nat} {Q : State → Prop} {cc : ByteArray} {pc : Nat} {ls : Array Slot} {rest : List Value} {g : GE} {ws : va_W} {A : Nat → Prop} {a : Nat} {fs : List Value}
theorem ct_X8_355 : Cond.constantLong "HallGuards" 355 (285873023221825) ∈ TB := mTB 541 (by decide +kernel) (by decide +kernel)
theorem ct_X8_357 : Cond.constantLong "HallGuards" 357 (285873039999041) ∈ TB := mTB 444 (by decide +kernel) (by decide +kernel)
theorem fl_X1_9 : Cond.fieldLink "HallGuards$Board" 9 "HallGuards$Board" "cells" "[I" ∈ TB := mTB 61 (by decide +kernel) (by decide +kernel)
theorem inX1 : ∀ w ∈ u_ws RX1 TX1 3, w ∈ TB := fun w hw => List.mem_filter.mpr ⟨(by decide +kernel : ∀ w ∈ u_ws RX1 TX1 3, w ∈ lw_tbl) w hw, (by decide +kernel : ∀ w ∈ u_ws RX1 TX1 3, goodWord w = true) w hw⟩
theorem gf_X1_9 (hx : p.tables.exec = Jvm.exec) (hb : c.code = cc) (hts : ∀ w ∈ TB, w.before args s = true) (hown : s.vm.findClass "HallGuards$Board" = some m.cls) (hE : EV g s) (hP : va_P g.1 vwCl ws H) (q0 : Nat) (he : ws[q0]? = some (a, .inr (1, fs))) {v : Value} (hv : fs[0]? = some v) (hdg : decode cc pc = .ok (.getfield 9, 3)) (kk : W p l e R s m args below meth c H locs cells slots Q (F0 m (pc + 3) ls (v :: rest))) : W p l e R s m args below meth c H locs cells slots Q (F0 m pc ls (.ref a :: rest)) := va_get (C := RX1) (T := TX1) (N := 3) hx hb hts inX1 hown hE.1 hP q0 he rfl 0 (by decide) (hts _ fl_X1_9) (fun _ h => h) hv hdg kk
theorem ml_X1_60 : Cond.methodLink "HallGuards$Board" 60 yX1_at ∈ TB := mTB 437 (by decide +kernel) (by decide +kernel)
theorem im_X1_at : Cond.instanceMethod yX1_at ∈ TB := mTB 233 (by decide +kernel) (by decide +kernel)
theorem se_X1_at : Cond.selects yX1_at.cls yX1_at yX1_at ∈ TB := mTB 234 (by decide +kernel) (by decide +kernel)
theorem cf_X1_at : CF yX1_at cX1_at 2 (some .int) 1 := ⟨mTB 235 (by decide +kernel) (by decide +kernel), mTB 25 (by decide +kernel) (by decide +kernel), by decide +kernel, by decide +kernel, by decide +kernel⟩
theorem ml_X1_53 : Cond.methodLinkNest "HallGuards$Board" 53 yX8_beside "HallGuards" ∈ TN := mTN 438 (by decide +kernel) (by decide +kernel)
theorem st_X8_beside : Cond.static yX8_beside ∈ TB := mTB 439 (by decide +kernel) (by decide +kernel)
theorem cf_X8_beside : CF yX8_beside cX8_beside 2 (some .int) 2 := ⟨mTB 440 (by decide +kernel) (by decide +kernel), mTB 23 (by decide +kernel) (by decide +kernel), by decide +kernel, by decide +kernel, by decide +kernel⟩
theorem ml_X1_38 : Cond.methodLinkNest "HallGuards$Board" 38 yX8_mayStop "HallGuards" ∈ TN := mTN 441 (by decide +kernel) (by decide +kernel)
theorem st_X8_mayStop : Cond.static yX8_mayStop ∈ TB := mTB 442 (by decide +kernel) (by decide +kernel)
theorem cf_X8_mayStop : CF yX8_mayStop cX8_mayStop 2 (some .boolean) 2 := ⟨mTB 443 (by decide +kernel) (by decide +kernel), mTB 23 (by decide +kernel) (by decide +kernel), by decide +kernel, by decide +kernel, by decide +kernel⟩
end LINKS

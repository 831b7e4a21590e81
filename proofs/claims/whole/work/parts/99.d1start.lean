/-! ===== the start of the law ===== -/
theorem D_last {A : Nat → Prop} {ws : va_W} {q : Nat × va_E} (h : va_D A (ws ++ [q])) : ¬ q.1 ∈ ws.map (fun x => x.1) := by
  intro hm
  obtain ⟨x, hx, he⟩ := List.mem_map.mp hm
  obtain ⟨k, hk⟩ := List.getElem?_of_mem hx
  have hlt := (List.getElem?_eq_some_iff.mp hk).1
  have := h.1 k ws.length x q (by rw [List.getElem?_append_left hlt]; exact hk) (by rw [List.getElem?_append_right (Nat.le_refl _), Nat.sub_self]; rfl) he
  omega
theorem arr_of {s : State} {args : Array Value} {ty : FieldType} (h : (Cond.arrayClass ty).before args s = true) : ∃ cA, ArrOfT s cA ty ∧ s.vm.findClass ("[" ++ ty.toString) = some cA := by
  obtain ⟨c, k, comp, h1, h2, h3⟩ := Cond.arrayClass_spec h
  exact ⟨c, fun N z => ⟨(fun k h => by cases h), k, h2, comp, h3⟩, h1⟩
theorem arr_ofQ {s : State} {args : Array Value} {C : String} (h : (Cond.arrayOver (.object C)).before args s = true) : ∃ cA, ArrOfT s cA (.object C) ∧ va_RA s cA (.object C) := by
  obtain ⟨comp, c, k, h1, _, h2, h3, h4⟩ := Cond.arrayOver_spec h
  exact ⟨c, fun N z => ⟨(fun k h => by cases h), k, h2, comp, h3⟩, k, comp, h2, h3, h1, h4⟩
theorem EV_of {s : State} {args : Array Value} (hts : ∀ w ∈ lw_tbl, w.before args s = true) : ∃ g : GE, EV g s := by
  have hT : ∀ w ∈ TB, w.before args s = true := fun w h => hts w (TB_in h)
  obtain ⟨c0, i0, h0⟩ := u_known (C := RX0) (T := TX0) (N := 3) (n := 3) hT inX0 (hts (.instantiable RX0 3) (by decide +kernel))
  obtain ⟨c1, i1, h1⟩ := u_known (C := RX1) (T := TX1) (N := 3) (n := 3) hT inX1 (hts (.instantiable RX1 3) (by decide +kernel))
  obtain ⟨c2, i2, h2⟩ := u_known (C := RX2) (T := TX2) (N := 3) (n := 3) hT inX2 (hts (.instantiable RX2 3) (by decide +kernel))
  obtain ⟨c3, i3, h3⟩ := u_known (C := RX3) (T := TX3) (N := 2) (n := 2) hT inX3 (hts (.instantiable RX3 2) (by decide +kernel))
  obtain ⟨c4, i4, h4⟩ := u_known (C := RX4) (T := TX4) (N := 2) (n := 2) hT inX4 (hts (.instantiable RX4 2) (by decide +kernel))
  obtain ⟨c5, i5, h5⟩ := u_known (C := RX5) (T := TX5) (N := 6) (n := 6) hT inX5 (hts (.instantiable RX5 6) (by decide +kernel))
  obtain ⟨c6, i6, h6⟩ := u_known (C := RX6) (T := TX6) (N := 3) (n := 3) hT inX6 (hts (.instantiable RX6 3) (by decide +kernel))
  obtain ⟨c7, i7, h7⟩ := u_known (C := RX7) (T := TX7) (N := 11) (n := 11) hT inX7 (hts (.instantiable RX7 11) (by decide +kernel))
  obtain ⟨c8, i8, h8⟩ := u_known (C := RX8) (T := TX8) (N := 9) (n := 9) hT inX8 (hts (.instantiable RX8 9) (by decide +kernel))
  obtain ⟨c9, i9, h9⟩ := u_known (C := RX9) (T := TX9) (N := 20) (n := 20) hT inX9 (hts (.instantiable RX9 20) (by decide +kernel))
  obtain ⟨a0, x0, y0⟩ := arr_of (hT _ ar_I)
  obtain ⟨a1, x1, y1⟩ := arr_of (hT _ ar_J)
  obtain ⟨a2, x2, y2⟩ := arr_of (hT _ ar_Z)
  obtain ⟨a3, x3, y3⟩ := arr_ofQ (hts (.arrayOver (.object "HallGuards$State")) (by decide +kernel))
  refine ⟨((fun k => [c0, c1, c2, c3, c4, c5, c6, c7, c8, c9].getD k c0, fun k => [i0, i1, i2, i3, i4, i5, i6, i7, i8, i9].getD k i0), a0, a1, a2, a3), ⟨?_, ?_⟩, fun w hw => va_Nw.of (okNest_tab (List.mem_filter.mp hw).2) (hts w (List.mem_filter.mp hw).1)⟩
  · intro k q hq
    match k, hq with
    | 0, hq => cases hq; exact h0
    | 1, hq => cases hq; exact h1
    | 2, hq => cases hq; exact h2
    | 3, hq => cases hq; exact h3
    | 4, hq => cases hq; exact h4
    | 5, hq => cases hq; exact h5
    | 6, hq => cases hq; exact h6
    | 7, hq => cases hq; exact h7
    | 8, hq => cases hq; exact h8
    | 9, hq => cases hq; exact h9
    | k + 10, hq => exact absurd hq (by simp [vwCl])
  · intro k q hq
    match k, hq with
    | 0, hq => cases hq; exact ⟨x0, y0⟩
    | 1, hq => cases hq; exact ⟨x1, y1⟩
    | 2, hq => cases hq; exact ⟨x2, y2⟩
    | 3, hq => cases hq; exact ⟨x3, y3⟩
    | k + 4, hq => exact absurd hq (by simp [tyL])
theorem SR_of {s : State} {args : Array Value} (hts : ∀ w ∈ lw_tbl, w.before args s = true) (hgv : (Jvm.Cond.and given_1 narrow_1).before args s = true) : SR s := by
  have hs := flat_of_before _ hgv
  refine ⟨fun q hq => ?_, fun w hw => va_Nw.of (okFace_tab (List.mem_filter.mp hw).2) (hts w (List.mem_filter.mp hw).1)⟩
  have h1 := hts _ ((by decide +kernel : ∀ q ∈ strs, Cond.stringRef "HallGuards" q.1 q.2 ∈ lw_tbl) q hq)
  have h2 := hs _ ((by decide +kernel : ∀ q ∈ strs, Cond.exactly (.string "HallGuards" q.1) "java/lang/String" ∈ flatC (Jvm.Cond.and given_1 narrow_1)) q hq)
  obtain ⟨a, c, cell, k, h3, _⟩ := Cond.exactly_spec h2
  exact ⟨a, vk_R.of h1 h3⟩
theorem NC_of {s : State} {args : Array Value} (hgv : (Jvm.Cond.and given_1 narrow_1).before args s = true) : NC s := by
  have hs := flat_of_before _ hgv
  exact ⟨va_Nc.of (hs _ (by decide +kernel)), va_Nc.of (hs _ (by decide +kernel)), va_Nc.of (hs _ (by decide +kernel))⟩
theorem XT_of {s : State} {args : Array Value} {A : Nat → Prop} {n : String} {N : Nat} {xs : Nat → Int32} (hN : N < 2 ^ 31) (hl : (Cond.laysStatic "HallGuards" n "[I").before args s = true) (hi : (Cond.initialized "HallGuards").before args s = true) (h1 : (Cond.arrayOf (.static "HallGuards" n "[I") .int).before args s = true) (h2 : (Cond.eq (.length (.static "HallGuards" n "[I")) (.int (Int32.ofNat N))).before args s = true) (h3 : ∀ j, j < N → (Cond.eq (.elem (.static "HallGuards" n "[I") (.int (Int32.ofNat j))) (.int (xs j))).before args s = true) (hA : ∀ a : Nat, a < s.heap.size → ¬ A a) : ∃ t, va_Z "HallGuards" n "[I" (.ref t) A s s.heap ∧ XT t N xs s s.heap ∧ t < s.heap.size ∧ ¬ A t := by
  obtain ⟨t, h4, cell, x1, x2, x3, x4, x5, x6, x7⟩ := va_Tof (f := fun j => .int (xs j)) hN h1 (va_eqt h2) (fun j hj => va_eqt (h3 j hj)) hA
  exact ⟨t, va_Zref hl hi h4 hA, ⟨cell, x1, x2, x3, x4, x5, x6⟩, (Array.getElem?_eq_some_iff.mp x1).1, x7⟩
theorem OS_of {s : State} {args : Array Value} {A : Nat → Prop} (hts : ∀ w ∈ lw_tbl, w.before args s = true) (hgv : (Jvm.Cond.and given_1 narrow_1).before args s = true) (hA : ∀ a : Nat, a < s.heap.size → ¬ A a) : ∃ zc zp, OS zc zp A s s.heap := by
  have hs := flat_of_before _ hgv
  obtain ⟨zc, hc⟩ := XT_of (n := "CORNERS") (N := 4) (xs := fCO) (by decide) (hts _ (by decide +kernel)) (hts _ (by decide +kernel)) (hs _ (by decide +kernel)) (hs _ (by decide +kernel)) (fun j hj => hs _ ((by decide +kernel : ∀ j, j < 4 → Cond.eq (.elem (.static "HallGuards" "CORNERS" "[I") (.int (Int32.ofNat j))) (.int (fCO j)) ∈ flatC (Jvm.Cond.and given_1 narrow_1)) j hj)) hA
  obtain ⟨zp, hp⟩ := XT_of (n := "PIECES_SET_UP") (N := 49) (xs := fPI) (by decide) (hts _ (by decide +kernel)) (hts _ (by decide +kernel)) (hs _ (by decide +kernel)) (hs _ (by decide +kernel)) (fun j hj => hs _ ((by decide +kernel : ∀ j, j < 49 → Cond.eq (.elem (.static "HallGuards" "PIECES_SET_UP" "[I") (.int (Int32.ofNat j))) (.int (fPI j)) ∈ flatC (Jvm.Cond.and given_1 narrow_1)) j hj)) hA
  exact ⟨zc, zp, hc, hp⟩
theorem OT_of {s : State} {args : Array Value} {A : Nat → Prop} (hts : ∀ w ∈ lw_tbl, w.before args s = true) (hgv : (Jvm.Cond.and given_1 narrow_1).before args s = true) (hA : ∀ a : Nat, a < s.heap.size → ¬ A a) : OT A s s.heap := by
  have hs := flat_of_before _ hgv
  exact ⟨vx_Zqof (hts _ (by decide +kernel)) (hts _ (by decide +kernel)) (hs _ (by decide +kernel)) hA, vx_Zqof (hts _ (by decide +kernel)) (hts _ (by decide +kernel)) (hs _ (by decide +kernel)) hA⟩
section STARTL
set_option maxHeartbeats 8000000
set_option maxRecDepth 100000
theorem whole_start {p : Program} {e : Env} {s : State} {m : MethodId} {below : List Frame} {meth : Method} {c : Code} (l : Launch) (hflags : l.flags = flags0) {b L : Nat} {xs : Nat → Int32} (hL : L ≤ 2048) (C0 : lw_At p s m meth c b L xs) : W p l e room_1 s m #[Value.ref b] below meth c s.heap [] 0 0 (lw_Z below #[Value.ref b] s) (entryFrame m ([Value.ref b] : List Value).toArray 9) := by
  obtain ⟨hx, hb, hr, hml, hown, hts0, hX, hbl, hlocks, hgv⟩ := id C0
  have hA : ∀ q : Nat, s.heap.size ≤ q → (fun q : Nat => s.heap.size ≤ q) q := fun _ h => h
  have hA0 : ∀ a : Nat, a < s.heap.size → ¬ (fun q : Nat => s.heap.size ≤ q) a := fun _ h => Nat.not_le.mpr h
  have hts : ∀ w ∈ TB, w.before #[Value.ref b] s = true := fun w h => hts0 w (TB_in h)
  have hl0 : l.stackTraces = false := by unfold Launch.stackTraces; rw [hflags]; decide
  obtain ⟨g, hE⟩ := EV_of hts0
  have hSR := SR_of hts0 hgv
  have hNC := NC_of hgv
  obtain ⟨zc, zp, hOS⟩ := OS_of hts0 hgv hA0
  have hOT := OT_of hts0 hgv hA0
  have hAO : va_AO "HallGuards$State" s := va_AO.of (hts0 (.arrayOver (.object "HallGuards$State")) (by decide +kernel))
  have hO : O9 g zc zp (fun q : Nat => s.heap.size ≤ q) s s.heap := ⟨⟨hOS, hOT, rfl⟩, hAO⟩
  have C : LX p l s m c b L xs g zc zp := ⟨hx, hb, hml, hown, hts, hl0, hX, hbl, hE, hSR, hNC, hOS, hOT⟩
  obtain ⟨f', t9, now', book', kept', F', L', B', M', nn', p9, e8, e9, hREL⟩ := REL_init (fun _ => ((fun _ => 0), (-1), 0, 0, 0, 0, none, 0, 0, 0, 0, 0, 0)) (fun _ => ((fun _ => 0), (-1), 0, 0, 0, 0, none, 0, 0, 0, 0, 0, 0)) (fun _ => 0) (fun _ => 0)
  have hS : va_S (fun q : Nat => s.heap.size ≤ q) s.heap s.heap [] := va_S.rf
  have hP : va_P g.1 vwCl [] s.heap := fun k q h => by simp at h
  have hD : va_D (fun q : Nat => s.heap.size ≤ q) [] := ⟨fun i j p q h => by simp at h, fun k q h => by simp at h⟩
  have hl := lv_entry ([.ref b]) (n := 9) (Nat.le_of_ble_eq_true rfl)
  rw [lg_entry_eq]
  generalize (lg_sl ([.ref b]) ++ List.replicate (9 - (lg_sl ([.ref b])).length) Slot.unset).toArray = ls at hl ⊢
  have hl : lv_has ls 9 [(0, .ref b)] := hl
  refine va_new hx hb hts inX8 tyX8 tyX8_ok hown (hts _ cl_L_8) (hts _ ins_X8) (hts _ ini_X8) hE.1 hP hD hS hA (ci := 8) rfl (fs := [.null, .null, .null, .null, .null, .null, .null, .null, .null]) (by decide) (by decide) (by decide) dL_law_0 (fun q8 H hP hD hS => ?_)
  refine lv_dup hx hb dL_law_3 rfl ?_
  refine cI (As := []) (rest := [.ref q8]) (cs := [(q8, .inr (8, [.null, .null, .null, .null, .null, .null, .null, .null, .null]))]) ⟨hx, hb, hml, hown, hts⟩ hE hSR (mX8_init l hl0 g q8 zc zp _ e8) (O9_ok g zc zp) hO cf_X8_init im_X8_init rfl ml_L_112 ⟨Nat.le_of_ble_eq_true rfl, Nat.le_of_ble_eq_true rfl⟩ hP hD hS hA [0] [] rfl (wr := []) rfl ⟨by decide, by decide⟩ (by decide) rfl hl.1 rfl (Nat.le_of_ble_eq_true rfl) dL_law_4 ⟨by decide, by decide⟩ (fun w8 H locs hw8 hP hD hS => ?_)
  refine lv_astore_n (lv' := [(1, .ref q8), (0, .ref b)]) hx hb dL_law_7 rfl hl (by decide) rfl (fun ls hl => ?_)
  refine va_new hx hb hts inX9 tyX9 tyX9_ok hown (hts _ cl_L_113) (hts _ ins_X9) (hts _ ini_X9) hE.1 hP hD hS hA (ci := 9) rfl (fs := [.int 0, .null, .null, .null, .null, .null, .int 0, .null, .null, .null, .null, .null, .null, .int 0, .null, .int 0, .int 0, .int 0, .int 0, .int 0]) (by decide) (by decide) (by decide) dL_law_8 (fun q9 H hP hD hS => ?_)
  refine lv_dup hx hb dL_law_11 rfl ?_
  refine cI (As := []) (rest := [.ref q9]) (cs := [(q9, .inr (9, [.int 0, .null, .null, .null, .null, .null, .int 0, .null, .null, .null, .null, .null, .null, .int 0, .null, .int 0, .int 0, .int 0, .int 0, .int 0]))]) ⟨hx, hb, hml, hown, hts⟩ hE hSR (mX9_init l hl0 g q9 zc zp _ e9) (O9_ok g zc zp) hO cf_X9_init im_X9_init rfl ml_L_115 ⟨Nat.le_of_ble_eq_true rfl, Nat.le_of_ble_eq_true rfl⟩ hP hD hS hA [50] [0, 1, 2, 3, 4, 5, 6, 7, 8, 9, 10, 11, 12, 13, 14, 15, 16, 17, 18, 19, 20, 21, 22, 23, 24, 25, 26, 27, 28, 29, 30, 31, 32, 33, 34, 35, 36, 37, 38, 39, 40, 41, 42, 43, 44, 45, 46, 47, 48, 49] rfl (pk_ok _ rfl) ⟨by decide, by decide⟩ (by decide) rfl hl.1 rfl (Nat.le_of_ble_eq_true rfl) dL_law_12 ⟨by decide, by decide⟩ (fun w9 H locs hw9 hP hD hS => ?_)
  refine lv_astore_n (lv' := [(2, .ref q9), (1, .ref q8), (0, .ref b)]) hx hb dL_law_15 rfl hl (by decide) rfl (fun ls hl => ?_)
  refine lv_iconst (v := 1) hx hb dL_law_16 (by decide) ?_
  refine newJ (N := 1) hx hb hts ar_J hE hP hD hS hA (by decide) (by decide) (by decide) ⟨by decide, by decide⟩ dL_law_17 (fun qo H hP hD hS => ?_)
  refine lv_astore_n (lv' := [(3, .ref qo), (2, .ref q9), (1, .ref q8), (0, .ref b)]) hx hb dL_law_19 rfl hl (by decide) rfl (fun ls hl => ?_)
  refine lv_iconst (v := 0) hx hb dL_law_20 (by decide) ?_
  refine lv_istore (lv' := [(4, .int 0), (3, .ref qo), (2, .ref q9), (1, .ref q8), (0, .ref b)]) hx hb dL_law_21 hl (by decide) rfl (fun ls hl => ?_)
  have hpc : va_P g.1 vwCl [(w8.getD 48 0, pcell none 0 (newPC p9 []))] H := hP.sub [49] rfl
  have hP2 : va_P g.1 vwCl (WS g (fun i => [q8, w8.getD 45 0, w8.getD 46 0, w8.getD 47 0, w8.getD 0 0, w8.getD 1 0, w8.getD 2 0, w8.getD 3 0, w8.getD 4 0, w8.getD 5 0, w8.getD 6 0, w8.getD 7 0, w8.getD 8 0, w8.getD 9 0, w8.getD 10 0, w8.getD 11 0, w8.getD 12 0, w8.getD 13 0, w8.getD 14 0, w8.getD 15 0, w8.getD 16 0, w8.getD 17 0, w8.getD 18 0, w8.getD 19 0, w8.getD 20 0, w8.getD 21 0, w8.getD 22 0, w8.getD 23 0, w8.getD 24 0, w8.getD 25 0, w8.getD 26 0, w8.getD 27 0, w8.getD 28 0, w8.getD 29 0, w8.getD 30 0, w8.getD 31 0, w8.getD 32 0, w8.getD 33 0, w8.getD 34 0, w8.getD 35 0, w8.getD 36 0, w8.getD 37 0, w8.getD 38 0, w8.getD 39 0, w8.getD 40 0, w8.getD 41 0, w8.getD 42 0, w8.getD 43 0, w8.getD 44 0, q9, w9.getD 4 0, w9.getD 0 0, w9.getD 1 0, w9.getD 2 0, w9.getD 5 0, w9.getD 6 0, w9.getD 7 0, w9.getD 8 0, w9.getD 9 0, w9.getD 10 0, w9.getD 11 0, w9.getD 3 0, qo].getD i 0) f' 24 0 1 0 0 (some (w8.getD 48 0)) 0 0 0 0 0 0 (fun _ => 0) (-1) 0 0 0 0 none 0 0 0 0 0 0 0 0 (fun _ => ((fun _ => 0), (-1), 0, 0, 0, 0, none, 0, 0, 0, 0, 0, 0)) (fun _ => 0) (fun _ => ((fun _ => 0), (-1), 0, 0, 0, 0, none, 0, 0, 0, 0, 0, 0)) 0 (fun _ => 0) 0 (fun _ => 0) (-1) 0 (fun _ => 0) (-1) 0 (fun _ => 0) 0 (fun _ => 0) 0 (fun _ => 0) (fun _ => 0) 0 0 nn' 0 0 0 0 0 now' (fun _ => 0) (fun _ => 0) (fun _ => 0) book' kept' (fun _ => 0) F' L' B' M' (fun _ => 0) (fun _ => 0)) H := hP.sub [0, 46, 47, 48, 1, 2, 3, 4, 5, 6, 7, 8, 9, 10, 11, 12, 13, 14, 15, 16, 17, 18, 19, 20, 21, 22, 23, 24, 25, 26, 27, 28, 29, 30, 31, 32, 33, 34, 35, 36, 37, 38, 39, 40, 41, 42, 43, 44, 45, 50, 55, 51, 52, 53, 56, 57, 58, 59, 60, 61, 62, 54, 63] rfl
  have hD3 : va_D (fun q : Nat => s.heap.size ≤ q) (WS g (fun i => [q8, w8.getD 45 0, w8.getD 46 0, w8.getD 47 0, w8.getD 0 0, w8.getD 1 0, w8.getD 2 0, w8.getD 3 0, w8.getD 4 0, w8.getD 5 0, w8.getD 6 0, w8.getD 7 0, w8.getD 8 0, w8.getD 9 0, w8.getD 10 0, w8.getD 11 0, w8.getD 12 0, w8.getD 13 0, w8.getD 14 0, w8.getD 15 0, w8.getD 16 0, w8.getD 17 0, w8.getD 18 0, w8.getD 19 0, w8.getD 20 0, w8.getD 21 0, w8.getD 22 0, w8.getD 23 0, w8.getD 24 0, w8.getD 25 0, w8.getD 26 0, w8.getD 27 0, w8.getD 28 0, w8.getD 29 0, w8.getD 30 0, w8.getD 31 0, w8.getD 32 0, w8.getD 33 0, w8.getD 34 0, w8.getD 35 0, w8.getD 36 0, w8.getD 37 0, w8.getD 38 0, w8.getD 39 0, w8.getD 40 0, w8.getD 41 0, w8.getD 42 0, w8.getD 43 0, w8.getD 44 0, q9, w9.getD 4 0, w9.getD 0 0, w9.getD 1 0, w9.getD 2 0, w9.getD 5 0, w9.getD 6 0, w9.getD 7 0, w9.getD 8 0, w9.getD 9 0, w9.getD 10 0, w9.getD 11 0, w9.getD 3 0, qo].getD i 0) f' 24 0 1 0 0 (some (w8.getD 48 0)) 0 0 0 0 0 0 (fun _ => 0) (-1) 0 0 0 0 none 0 0 0 0 0 0 0 0 (fun _ => ((fun _ => 0), (-1), 0, 0, 0, 0, none, 0, 0, 0, 0, 0, 0)) (fun _ => 0) (fun _ => ((fun _ => 0), (-1), 0, 0, 0, 0, none, 0, 0, 0, 0, 0, 0)) 0 (fun _ => 0) 0 (fun _ => 0) (-1) 0 (fun _ => 0) (-1) 0 (fun _ => 0) 0 (fun _ => 0) 0 (fun _ => 0) (fun _ => 0) 0 0 nn' 0 0 0 0 0 now' (fun _ => 0) (fun _ => 0) (fun _ => 0) book' kept' (fun _ => 0) F' L' B' M' (fun _ => 0) (fun _ => 0) ++ [(w8.getD 48 0, pcell none 0 (newPC p9 []))]) := hD.sub [0, 46, 47, 48, 1, 2, 3, 4, 5, 6, 7, 8, 9, 10, 11, 12, 13, 14, 15, 16, 17, 18, 19, 20, 21, 22, 23, 24, 25, 26, 27, 28, 29, 30, 31, 32, 33, 34, 35, 36, 37, 38, 39, 40, 41, 42, 43, 44, 45, 50, 55, 51, 52, 53, 56, 57, 58, 59, 60, 61, 62, 54, 63, 49] (by decide) rfl
  have hD2 : va_D (fun q : Nat => s.heap.size ≤ q) (WS g (fun i => [q8, w8.getD 45 0, w8.getD 46 0, w8.getD 47 0, w8.getD 0 0, w8.getD 1 0, w8.getD 2 0, w8.getD 3 0, w8.getD 4 0, w8.getD 5 0, w8.getD 6 0, w8.getD 7 0, w8.getD 8 0, w8.getD 9 0, w8.getD 10 0, w8.getD 11 0, w8.getD 12 0, w8.getD 13 0, w8.getD 14 0, w8.getD 15 0, w8.getD 16 0, w8.getD 17 0, w8.getD 18 0, w8.getD 19 0, w8.getD 20 0, w8.getD 21 0, w8.getD 22 0, w8.getD 23 0, w8.getD 24 0, w8.getD 25 0, w8.getD 26 0, w8.getD 27 0, w8.getD 28 0, w8.getD 29 0, w8.getD 30 0, w8.getD 31 0, w8.getD 32 0, w8.getD 33 0, w8.getD 34 0, w8.getD 35 0, w8.getD 36 0, w8.getD 37 0, w8.getD 38 0, w8.getD 39 0, w8.getD 40 0, w8.getD 41 0, w8.getD 42 0, w8.getD 43 0, w8.getD 44 0, q9, w9.getD 4 0, w9.getD 0 0, w9.getD 1 0, w9.getD 2 0, w9.getD 5 0, w9.getD 6 0, w9.getD 7 0, w9.getD 8 0, w9.getD 9 0, w9.getD 10 0, w9.getD 11 0, w9.getD 3 0, qo].getD i 0) f' 24 0 1 0 0 (some (w8.getD 48 0)) 0 0 0 0 0 0 (fun _ => 0) (-1) 0 0 0 0 none 0 0 0 0 0 0 0 0 (fun _ => ((fun _ => 0), (-1), 0, 0, 0, 0, none, 0, 0, 0, 0, 0, 0)) (fun _ => 0) (fun _ => ((fun _ => 0), (-1), 0, 0, 0, 0, none, 0, 0, 0, 0, 0, 0)) 0 (fun _ => 0) 0 (fun _ => 0) (-1) 0 (fun _ => 0) (-1) 0 (fun _ => 0) 0 (fun _ => 0) 0 (fun _ => 0) (fun _ => 0) 0 0 nn' 0 0 0 0 0 now' (fun _ => 0) (fun _ => 0) (fun _ => 0) book' kept' (fun _ => 0) F' L' B' M' (fun _ => 0) (fun _ => 0)) := hD.sub [0, 46, 47, 48, 1, 2, 3, 4, 5, 6, 7, 8, 9, 10, 11, 12, 13, 14, 15, 16, 17, 18, 19, 20, 21, 22, 23, 24, 25, 26, 27, 28, 29, 30, 31, 32, 33, 34, 35, 36, 37, 38, 39, 40, 41, 42, 43, 44, 45, 50, 55, 51, 52, 53, 56, 57, 58, 59, 60, 61, 62, 54, 63] (by decide) rfl
  have hn : ¬ (w8.getD 48 0) ∈ AL (fun i => [q8, w8.getD 45 0, w8.getD 46 0, w8.getD 47 0, w8.getD 0 0, w8.getD 1 0, w8.getD 2 0, w8.getD 3 0, w8.getD 4 0, w8.getD 5 0, w8.getD 6 0, w8.getD 7 0, w8.getD 8 0, w8.getD 9 0, w8.getD 10 0, w8.getD 11 0, w8.getD 12 0, w8.getD 13 0, w8.getD 14 0, w8.getD 15 0, w8.getD 16 0, w8.getD 17 0, w8.getD 18 0, w8.getD 19 0, w8.getD 20 0, w8.getD 21 0, w8.getD 22 0, w8.getD 23 0, w8.getD 24 0, w8.getD 25 0, w8.getD 26 0, w8.getD 27 0, w8.getD 28 0, w8.getD 29 0, w8.getD 30 0, w8.getD 31 0, w8.getD 32 0, w8.getD 33 0, w8.getD 34 0, w8.getD 35 0, w8.getD 36 0, w8.getD 37 0, w8.getD 38 0, w8.getD 39 0, w8.getD 40 0, w8.getD 41 0, w8.getD 42 0, w8.getD 43 0, w8.getD 44 0, q9, w9.getD 4 0, w9.getD 0 0, w9.getD 1 0, w9.getD 2 0, w9.getD 5 0, w9.getD 6 0, w9.getD 7 0, w9.getD 8 0, w9.getD 9 0, w9.getD 10 0, w9.getD 11 0, w9.getD 3 0, qo].getD i 0) := D_last hD3
  have hK : KF g s (fun i => [q8, w8.getD 45 0, w8.getD 46 0, w8.getD 47 0, w8.getD 0 0, w8.getD 1 0, w8.getD 2 0, w8.getD 3 0, w8.getD 4 0, w8.getD 5 0, w8.getD 6 0, w8.getD 7 0, w8.getD 8 0, w8.getD 9 0, w8.getD 10 0, w8.getD 11 0, w8.getD 12 0, w8.getD 13 0, w8.getD 14 0, w8.getD 15 0, w8.getD 16 0, w8.getD 17 0, w8.getD 18 0, w8.getD 19 0, w8.getD 20 0, w8.getD 21 0, w8.getD 22 0, w8.getD 23 0, w8.getD 24 0, w8.getD 25 0, w8.getD 26 0, w8.getD 27 0, w8.getD 28 0, w8.getD 29 0, w8.getD 30 0, w8.getD 31 0, w8.getD 32 0, w8.getD 33 0, w8.getD 34 0, w8.getD 35 0, w8.getD 36 0, w8.getD 37 0, w8.getD 38 0, w8.getD 39 0, w8.getD 40 0, w8.getD 41 0, w8.getD 42 0, w8.getD 43 0, w8.getD 44 0, q9, w9.getD 4 0, w9.getD 0 0, w9.getD 1 0, w9.getD 2 0, w9.getD 5 0, w9.getD 6 0, w9.getD 7 0, w9.getD 8 0, w9.getD 9 0, w9.getD 10 0, w9.getD 11 0, w9.getD 3 0, qo].getD i 0) H [p9] (some (w8.getD 48 0)) := ⟨w8.getD 48 0, none, rfl, hpc, hn, rfl⟩
  refine law_loop C hr hlocks hL (L + 4) 0 0 (by omega) (by omega) rfl H _ _ _ ls (by decide) (by decide) ⟨[p9], f', 24, 0, 1, 0, 0, (some (w8.getD 48 0)), 0, 0, 0, 0, 0, 0, (fun _ => 0), (-1), 0, 0, 0, 0, none, 0, 0, 0, 0, 0, 0, 0, 0, (fun _ => ((fun _ => 0), (-1), 0, 0, 0, 0, none, 0, 0, 0, 0, 0, 0)), (fun _ => 0), (fun _ => ((fun _ => 0), (-1), 0, 0, 0, 0, none, 0, 0, 0, 0, 0, 0)), 0, (fun _ => 0), 0, (fun _ => 0), (-1), 0, (fun _ => 0), (-1), 0, (fun _ => 0), 0, (fun _ => 0), 0, (fun _ => 0), (fun _ => 0), 0, 0, nn', 0, 0, 0, 0, 0, now', (fun _ => 0), (fun _ => 0), (fun _ => 0), book', kept', (fun _ => 0), F', L', B', M', (fun _ => 0), (fun _ => 0), hP2, hD2, hS, hREL _ _ hK⟩ (lv_sub hl [4, 3, 2, 1, 0] rfl)
end STARTL

/-! ===== the start of the law ===== -/
theorem both_D {A : Nat → Prop} {ap aq : Nat → Nat} {wp wq wr : va_W} (lp : wp.length = 49) (lq : wq.length = 49) (hp : ∀ (k : Nat) (q : Nat × va_E), wp[k]? = some q → k < 49 ∧ q.1 = ap k) (hq : ∀ (k : Nat) (q : Nat × va_E), wq[k]? = some q → k < 49 ∧ q.1 = aq k) (hD : va_D A (wp ++ (wq ++ wr))) : (∀ i j, i < 49 → j < 49 → ap i = ap j → i = j) ∧ (∀ i j, i < 49 → j < 49 → aq i = aq j → i = j) ∧ (∀ i, i < 49 → A (ap i)) ∧ (∀ i, i < 49 → A (aq i)) ∧ (∀ i j, i < 49 → j < 49 → ap i ≠ aq j) ∧ ∀ (k : Nat) (x : Nat × va_E), wr[k]? = some x → ∀ i, i < 49 → x.1 ≠ ap i ∧ x.1 ≠ aq i := by
  have gp : ∀ i, i < 49 → ∃ x, (wp ++ (wq ++ wr))[i]? = some x ∧ x.1 = ap i := fun i hi => by
    have h1 : wp[i]? = some wp[i] := List.getElem?_eq_getElem (by omega)
    exact ⟨wp[i], by rw [List.getElem?_append_left (by omega)]; exact h1, (hp i _ h1).2⟩
  have gq : ∀ i, i < 49 → ∃ x, (wp ++ (wq ++ wr))[49 + i]? = some x ∧ x.1 = aq i := fun i hi => by
    have h1 : wq[i]? = some wq[i] := List.getElem?_eq_getElem (by omega)
    refine ⟨wq[i], ?_, (hq i _ h1).2⟩
    rw [List.getElem?_append_right (by omega), show 49 + i - wp.length = i by omega, List.getElem?_append_left (by omega)]
    exact h1
  have gr : ∀ (k : Nat) (x : Nat × va_E), wr[k]? = some x → (wp ++ (wq ++ wr))[98 + k]? = some x := fun k x h => by
    rw [List.getElem?_append_right (by omega), List.getElem?_append_right (by omega), show 98 + k - wp.length - wq.length = k by omega]
    exact h
  refine ⟨fun i j hi hj e => ?_, fun i j hi hj e => ?_, fun i hi => ?_, fun i hi => ?_, fun i j hi hj e => ?_, fun k x hk i hi => ⟨fun e => ?_, fun e => ?_⟩⟩
  · obtain ⟨x, x1, x2⟩ := gp i hi
    obtain ⟨y, y1, y2⟩ := gp j hj
    exact hD.1 i j x y x1 y1 (by rw [x2, y2, e])
  · obtain ⟨x, x1, x2⟩ := gq i hi
    obtain ⟨y, y1, y2⟩ := gq j hj
    have := hD.1 (49 + i) (49 + j) x y x1 y1 (by rw [x2, y2, e])
    omega
  · obtain ⟨x, x1, x2⟩ := gp i hi
    rw [← x2]
    exact hD.2 _ x x1
  · obtain ⟨x, x1, x2⟩ := gq i hi
    rw [← x2]
    exact hD.2 _ x x1
  · obtain ⟨x, x1, x2⟩ := gp i hi
    obtain ⟨y, y1, y2⟩ := gq j hj
    have := hD.1 i (49 + j) x y x1 y1 (by rw [x2, y2, e])
    omega
  · obtain ⟨y, y1, y2⟩ := gp i hi
    have := hD.1 (98 + k) i x y (gr k x hk) y1 (by rw [y2, e])
    omega
  · obtain ⟨y, y1, y2⟩ := gq i hi
    have := hD.1 (98 + k) (49 + i) x y (gr k x hk) y1 (by rw [y2, e])
    omega
theorem init_ok : ∃ f', AG f' fPI ∧ fX8_init = some (f', 24, 1, 0, 0, newPC (f', 0) []) := by
  obtain ⟨f', ag, hpl⟩ := f_placeAll (fun _ => 0)
  refine ⟨f', ag, ?_⟩
  unfold fX8_init fX7_beginSetUp
  rw [hpl, Option.bind_some, f_begin]
  rfl
theorem st0_GD : GD gst0 := ⟨⟨st0_IA, Nat.le_of_ble_eq_true rfl⟩, fun a h => absurd (show a ∈ ([] : List AS) from h) List.not_mem_nil, fun j _ a e => absurd (show (none : Option AS) = some a from e) nofun⟩
theorem arr_of {s : State} {args : Array Value} {ty : FieldType} (h : (Cond.arrayClass ty).before args s = true) : ∃ cA, ArrOfT s cA ty ∧ s.vm.findClass ("[" ++ ty.toString) = some cA := by
  obtain ⟨c, k, comp, h1, h2, h3⟩ := Cond.arrayClass_spec h
  exact ⟨c, fun N z => ⟨(fun k h => by cases h), k, h2, comp, h3⟩, h1⟩
theorem arr_ofQ {s : State} {args : Array Value} {C : String} (h : (Cond.arrayOver (.object C)).before args s = true) : ∃ cA, ArrOfT s cA (.object C) ∧ va_RA s cA (.object C) := by
  obtain ⟨comp, c, k, h1, _, h2, h3, h4⟩ := Cond.arrayOver_spec h
  exact ⟨c, fun N z => ⟨(fun k h => by cases h), k, h2, comp, h3⟩, k, comp, h2, h3, h1, h4⟩
theorem EV_of {s : State} {args : Array Value} (hts : ∀ w ∈ lw_tbl, w.before args s = true) : ∃ g : GE, EV g s := by
  have hT : ∀ w ∈ TB, w.before args s = true := fun w h => hts w (TB_in h)
  obtain ⟨c0, i0, h0⟩ := u_known (C := RX0) (T := TX0) (N := 3) (n := 3) hT inX0 (hts (.instantiable RX0 3) (by decide +kernel))
  obtain ⟨c1, i1, h1⟩ := u_known (C := RX1) (T := TX1) (N := 3) (n := 3) hT inX1 (hts (.instantiable RX1 3) (by decide +kernel))
  obtain ⟨c2, i2, h2⟩ := u_known (C := RX2) (T := TX2) (N := 3) (n := 3) hT inX2 (hts (.instantiable RX2 3) (by decide +kernel))
  obtain ⟨c3, i3, h3⟩ := u_known (C := RX3) (T := TX3) (N := 2) (n := 2) hT inX3 (hts (.instantiable RX3 2) (by decide +kernel))
  obtain ⟨c4, i4, h4⟩ := u_known (C := RX4) (T := TX4) (N := 2) (n := 2) hT inX4 (hts (.instantiable RX4 2) (by decide +kernel))
  obtain ⟨c5, i5, h5⟩ := u_known (C := RX5) (T := TX5) (N := 6) (n := 6) hT inX5 (hts (.instantiable RX5 6) (by decide +kernel))
  obtain ⟨c6, i6, h6⟩ := u_known (C := RX6) (T := TX6) (N := 3) (n := 3) hT inX6 (hts (.instantiable RX6 3) (by decide +kernel))
  obtain ⟨c7, i7, h7⟩ := u_known (C := RX7) (T := TX7) (N := 11) (n := 11) hT inX7 (hts (.instantiable RX7 11) (by decide +kernel))
  obtain ⟨c8, i8, h8⟩ := u_known (C := RX8) (T := TX8) (N := 9) (n := 9) hT inX8 (hts (.instantiable RX8 9) (by decide +kernel))
  obtain ⟨a0, x0, y0⟩ := arr_of (hT _ ar_I)
  obtain ⟨a1, x1, y1⟩ := arr_of (hT _ ar_J)
  obtain ⟨a2, x2, y2⟩ := arr_of (hT _ ar_Z)
  obtain ⟨a3, x3, y3⟩ := arr_ofQ (hts (.arrayOver (.object "HallGuards$State")) (by decide +kernel))
  refine ⟨((fun k => [c0, c1, c2, c3, c4, c5, c6, c7, c8].getD k c0, fun k => [i0, i1, i2, i3, i4, i5, i6, i7, i8].getD k i0), a0, a1, a2, a3), ⟨?_, ?_⟩, fun w hw => va_Nw.of (okNest_tab (List.mem_filter.mp hw).2) (hts w (List.mem_filter.mp hw).1)⟩
  · intro k q hq
    match k, hq with
    | 0, hq => cases hq; exact h0
    | 1, hq => cases hq; exact h1
    | 2, hq => cases hq; exact h2
    | 3, hq => cases hq; exact h3
    | 4, hq => cases hq; exact h4
    | 5, hq => cases hq; exact h5
    | 6, hq => cases hq; exact h6
    | 7, hq => cases hq; exact h7
    | 8, hq => cases hq; exact h8
    | k + 9, hq => exact absurd hq (by simp [vwCl])
  · intro k q hq
    match k, hq with
    | 0, hq => cases hq; exact ⟨x0, y0⟩
    | 1, hq => cases hq; exact ⟨x1, y1⟩
    | 2, hq => cases hq; exact ⟨x2, y2⟩
    | 3, hq => cases hq; exact ⟨x3, y3⟩
    | k + 4, hq => exact absurd hq (by simp [tyL])
theorem SR_of {s : State} {args : Array Value} (hts : ∀ w ∈ lw_tbl, w.before args s = true) (hgv : (Jvm.Cond.and given_1 narrow_1).before args s = true) : SR s := by
  have hs := flat_of_before _ hgv
  refine ⟨fun q hq => ?_, fun w hw => va_Nw.of (okFace_tab (List.mem_filter.mp hw).2) (hts w (List.mem_filter.mp hw).1)⟩
  have h1 := hts _ ((by decide +kernel : ∀ q ∈ strs, Cond.stringRef "HallGuards" q.1 q.2 ∈ lw_tbl) q hq)
  have h2 := hs _ ((by decide +kernel : ∀ q ∈ strs, Cond.exactly (.string "HallGuards" q.1) "java/lang/String" ∈ flatC (Jvm.Cond.and given_1 narrow_1)) q hq)
  obtain ⟨a, c, cell, k, h3, _⟩ := Cond.exactly_spec h2
  exact ⟨a, vk_R.of h1 h3⟩
theorem NC_of {s : State} {args : Array Value} (hgv : (Jvm.Cond.and given_1 narrow_1).before args s = true) : NC s := by
  have hs := flat_of_before _ hgv
  exact ⟨va_Nc.of (hs _ (by decide +kernel)), va_Nc.of (hs _ (by decide +kernel)), va_Nc.of (hs _ (by decide +kernel))⟩
theorem XT_of {s : State} {args : Array Value} {A : Nat → Prop} {n : String} {N : Nat} {xs : Nat → Int32} (hN : N < 2 ^ 31) (hl : (Cond.laysStatic "HallGuards" n "[I").before args s = true) (hi : (Cond.initialized "HallGuards").before args s = true) (h1 : (Cond.arrayOf (.static "HallGuards" n "[I") .int).before args s = true) (h2 : (Cond.eq (.length (.static "HallGuards" n "[I")) (.int (Int32.ofNat N))).before args s = true) (h3 : ∀ j, j < N → (Cond.eq (.elem (.static "HallGuards" n "[I") (.int (Int32.ofNat j))) (.int (xs j))).before args s = true) (hA : ∀ a : Nat, a < s.heap.size → ¬ A a) : ∃ t, va_Z "HallGuards" n "[I" (.ref t) A s s.heap ∧ XT t N xs s s.heap ∧ t < s.heap.size ∧ ¬ A t := by
  obtain ⟨t, h4, cell, x1, x2, x3, x4, x5, x6, x7⟩ := va_Tof (f := fun j => .int (xs j)) hN h1 (va_eqt h2) (fun j hj => va_eqt (h3 j hj)) hA
  exact ⟨t, va_Zref hl hi h4 hA, ⟨cell, x1, x2, x3, x4, x5, x6⟩, (Array.getElem?_eq_some_iff.mp x1).1, x7⟩
theorem OS_of {s : State} {args : Array Value} {A : Nat → Prop} (hts : ∀ w ∈ lw_tbl, w.before args s = true) (hgv : (Jvm.Cond.and given_1 narrow_1).before args s = true) (hA : ∀ a : Nat, a < s.heap.size → ¬ A a) : ∃ zc zp, OS zc zp A s s.heap := by
  have hs := flat_of_before _ hgv
  obtain ⟨zc, hc⟩ := XT_of (n := "CORNERS") (N := 4) (xs := fCO) (by decide) (hts _ (by decide +kernel)) (hts _ (by decide +kernel)) (hs _ (by decide +kernel)) (hs _ (by decide +kernel)) (fun j hj => hs _ ((by decide +kernel : ∀ j, j < 4 → Cond.eq (.elem (.static "HallGuards" "CORNERS" "[I") (.int (Int32.ofNat j))) (.int (fCO j)) ∈ flatC (Jvm.Cond.and given_1 narrow_1)) j hj)) hA
  obtain ⟨zp, hp⟩ := XT_of (n := "PIECES_SET_UP") (N := 49) (xs := fPI) (by decide) (hts _ (by decide +kernel)) (hts _ (by decide +kernel)) (hs _ (by decide +kernel)) (hs _ (by decide +kernel)) (fun j hj => hs _ ((by decide +kernel : ∀ j, j < 49 → Cond.eq (.elem (.static "HallGuards" "PIECES_SET_UP" "[I") (.int (Int32.ofNat j))) (.int (fPI j)) ∈ flatC (Jvm.Cond.and given_1 narrow_1)) j hj)) hA
  exact ⟨zc, zp, hc, hp⟩
theorem OT_of {s : State} {args : Array Value} {A : Nat → Prop} (hts : ∀ w ∈ lw_tbl, w.before args s = true) (hgv : (Jvm.Cond.and given_1 narrow_1).before args s = true) (hA : ∀ a : Nat, a < s.heap.size → ¬ A a) : OT A s s.heap := by
  have hs := flat_of_before _ hgv
  exact ⟨vx_Zqof (hts _ (by decide +kernel)) (hts _ (by decide +kernel)) (hs _ (by decide +kernel)) hA, vx_Zqof (hts _ (by decide +kernel)) (hts _ (by decide +kernel)) (hs _ (by decide +kernel)) hA⟩
section STARTL
set_option maxHeartbeats 8000000
set_option maxRecDepth 100000
theorem whole_start {p : Program} {e : Env} {s : State} {m : MethodId} {below : List Frame} {meth : Method} {c : Code} (l : Launch) (hflags : l.flags = flags0) {b L : Nat} {xs : Nat → Int32} (hL : L ≤ 260) (C0 : lw_At p s m meth c b L xs) : W p l e room_1 s m #[Value.ref b] below meth c s.heap [] 0 0 (lw_Z below #[Value.ref b] s) (entryFrame m ([Value.ref b] : List Value).toArray 8) := by
  obtain ⟨hx, hb, hr, hml, hown, hts0, hX, hbl, hlocks, hgv⟩ := id C0
  have hA : ∀ q : Nat, s.heap.size ≤ q → (fun q : Nat => s.heap.size ≤ q) q := fun _ h => h
  have hA0 : ∀ a : Nat, a < s.heap.size → ¬ (fun q : Nat => s.heap.size ≤ q) a := fun _ h => Nat.not_le.mpr h
  have hts : ∀ w ∈ TB, w.before #[Value.ref b] s = true := fun w h => hts0 w (TB_in h)
  have hl0 : l.stackTraces = false := by unfold Launch.stackTraces; rw [hflags]; decide
  obtain ⟨g, hE⟩ := EV_of hts0
  have hSR := SR_of hts0 hgv
  have hNC := NC_of hgv
  obtain ⟨zc, zp, hOS⟩ := OS_of hts0 hgv hA0
  have hOT := OT_of hts0 hgv hA0
  have hAO : va_AO "HallGuards$State" s := va_AO.of (hts0 (.arrayOver (.object "HallGuards$State")) (by decide +kernel))
  have hO : O9 g zc zp (fun q : Nat => s.heap.size ≤ q) s s.heap := ⟨⟨hOS, hOT, rfl⟩, hAO⟩
  have C : CX p l s m #[Value.ref b] c cL_law 8 g zc zp (fun q : Nat => s.heap.size ≤ q) := ⟨hx, hb, hml, hown, hts, hl0, hE, hSR, hNC, hOS, hOT, hA⟩
  obtain ⟨f', ag, e8⟩ := init_ok
  have hS : va_S (fun q : Nat => s.heap.size ≤ q) s.heap s.heap [] := va_S.rf
  have hP : va_P g.1 vwCl [] s.heap := fun k q h => by simp at h
  have hD : va_D (fun q : Nat => s.heap.size ≤ q) [] := ⟨fun i j p q h => by simp at h, fun k q h => by simp at h⟩
  have hl := lv_entry ([.ref b]) (n := 8) (Nat.le_of_ble_eq_true rfl)
  rw [lg_entry_eq]
  generalize (lg_sl ([.ref b]) ++ List.replicate (8 - (lg_sl ([.ref b])).length) Slot.unset).toArray = ls at hl ⊢
  have hl : lv_has ls 8 [(0, .ref b)] := hl
  refine va_new hx hb hts inX8 tyX8 tyX8_ok hown (hts _ cl_L_10) (hts _ ins_X8) (hts _ ini_X8) hE.1 hP hD hS hA (ci := 8) rfl (fs := [.null, .null, .null, .null, .null, .null, .null, .null, .null]) (by decide) (by decide) (by decide) dL_law_0 (fun q8 H hP hD hS => ?_)
  refine lv_dup hx hb dL_law_3 rfl ?_
  refine cI (As := []) (rest := [.ref q8]) (cs := [(q8, .inr (8, [.null, .null, .null, .null, .null, .null, .null, .null, .null]))]) ⟨hx, hb, hml, hown, hts⟩ hE hSR (mX8_init l hl0 g q8 zc zp _ e8) (O9_ok g zc zp) hO cf_X8_init im_X8_init rfl ml_L_268 ⟨Nat.le_of_ble_eq_true rfl, Nat.le_of_ble_eq_true rfl⟩ hP hD hS hA [0] [] rfl (wr := []) rfl ⟨by decide, by decide⟩ (by decide) rfl hl.1 rfl (Nat.le_of_ble_eq_true rfl) dL_law_4 ⟨by decide, by decide⟩ (fun w8 H locs hw8 hP hD hS => ?_)
  refine lv_astore_n (lv' := [(1, .ref q8), (0, .ref b)]) hx hb dL_law_7 rfl hl (by decide) rfl (fun ls hl => ?_)
  refine va_new hx hb hts inX8 tyX8 tyX8_ok hown (hts _ cl_L_10) (hts _ ins_X8) (hts _ ini_X8) hE.1 hP hD hS hA (ci := 8) rfl (fs := [.null, .null, .null, .null, .null, .null, .null, .null, .null]) (by decide) (by decide) (by decide) dL_law_8 (fun q9 H hP hD hS => ?_)
  refine lv_dup hx hb dL_law_11 rfl ?_
  refine cI (As := []) (rest := [.ref q9]) (cs := [(q9, .inr (8, [.null, .null, .null, .null, .null, .null, .null, .null, .null]))]) ⟨hx, hb, hml, hown, hts⟩ hE hSR (mX8_init l hl0 g q9 zc zp _ e8) (O9_ok g zc zp) hO cf_X8_init im_X8_init rfl ml_L_268 ⟨Nat.le_of_ble_eq_true rfl, Nat.le_of_ble_eq_true rfl⟩ hP hD hS hA [50] [0, 1, 2, 3, 4, 5, 6, 7, 8, 9, 10, 11, 12, 13, 14, 15, 16, 17, 18, 19, 20, 21, 22, 23, 24, 25, 26, 27, 28, 29, 30, 31, 32, 33, 34, 35, 36, 37, 38, 39, 40, 41, 42, 43, 44, 45, 46, 47, 48, 49] rfl (pk_ok _ rfl) ⟨by decide, by decide⟩ (by decide) rfl hl.1 rfl (Nat.le_of_ble_eq_true rfl) dL_law_12 ⟨by decide, by decide⟩ (fun w9 H locs hw9 hP hD hS => ?_)
  refine lv_astore_n (lv' := [(2, .ref q9), (1, .ref q8), (0, .ref b)]) hx hb dL_law_15 rfl hl (by decide) rfl (fun ls hl => ?_)
  have hP : va_P g.1 vwCl [(q8, .inr (8, [.ref (w8.getD 45 0), .ref (w8.getD 0 0), .ref (w8.getD 3 0), .ref (w8.getD 10 0), .ref (w8.getD 11 0), .ref (w8.getD 31 0), .ref (w8.getD 33 0), .ref (w8.getD 35 0), .ref (w8.getD 42 0)])), ((w8.getD 0 0), .inr (7, [.ref (w8.getD 1 0), .int 0, .int 0, .int 0, .null, .int 0, .int 0, .int 0, .int 0, .int 0, .int 0])), ((w8.getD 1 0), .inr (1, [.ref (w8.getD 2 0), .int (-1), .int 0])), ((w8.getD 2 0), .inl (g.2.1, 49, .inl (fun _ => 0))), ((w8.getD 3 0), .inl (g.2.2.2.2, 2, .inr (.inr (.inr (.inr (al [(w8.getD 4 0), (w8.getD 7 0)])))))), ((w8.getD 4 0), .inr (7, [.ref (w8.getD 5 0), .int 0, .int 0, .int 0, .null, .int 0, .int 0, .int 0, .int 0, .int 0, .int 0])), ((w8.getD 5 0), .inr (1, [.ref (w8.getD 6 0), .int (-1), .int 0])), ((w8.getD 6 0), .inl (g.2.1, 49, .inl (fun _ => 0))), ((w8.getD 7 0), .inr (7, [.ref (w8.getD 8 0), .int 0, .int 0, .int 0, .null, .int 0, .int 0, .int 0, .int 0, .int 0, .int 0])), ((w8.getD 8 0), .inr (1, [.ref (w8.getD 9 0), .int (-1), .int 0])), ((w8.getD 9 0), .inl (g.2.1, 49, .inl (fun _ => 0))), ((w8.getD 10 0), .inl (g.2.2.2.1, 2, .inl (fun _ => 0))), ((w8.getD 11 0), .inr (6, [.ref (w8.getD 12 0), .int 0, .int 0])), ((w8.getD 12 0), .inl (g.2.2.2.2, 6, .inr (.inr (.inr (.inr (al [(w8.getD 13 0), (w8.getD 16 0), (w8.getD 19 0), (w8.getD 22 0), (w8.getD 25 0), (w8.getD 28 0)])))))), ((w8.getD 13 0), .inr (7, [.ref (w8.getD 14 0), .int 0, .int 0, .int 0, .null, .int 0, .int 0, .int 0, .int 0, .int 0, .int 0])), ((w8.getD 14 0), .inr (1, [.ref (w8.getD 15 0), .int (-1), .int 0])), ((w8.getD 15 0), .inl (g.2.1, 49, .inl (fun _ => 0))), ((w8.getD 16 0), .inr (7, [.ref (w8.getD 17 0), .int 0, .int 0, .int 0, .null, .int 0, .int 0, .int 0, .int 0, .int 0, .int 0])), ((w8.getD 17 0), .inr (1, [.ref (w8.getD 18 0), .int (-1), .int 0])), ((w8.getD 18 0), .inl (g.2.1, 49, .inl (fun _ => 0))), ((w8.getD 19 0), .inr (7, [.ref (w8.getD 20 0), .int 0, .int 0, .int 0, .null, .int 0, .int 0, .int 0, .int 0, .int 0, .int 0])), ((w8.getD 20 0), .inr (1, [.ref (w8.getD 21 0), .int (-1), .int 0])), ((w8.getD 21 0), .inl (g.2.1, 49, .inl (fun _ => 0))), ((w8.getD 22 0), .inr (7, [.ref (w8.getD 23 0), .int 0, .int 0, .int 0, .null, .int 0, .int 0, .int 0, .int 0, .int 0, .int 0])), ((w8.getD 23 0), .inr (1, [.ref (w8.getD 24 0), .int (-1), .int 0])), ((w8.getD 24 0), .inl (g.2.1, 49, .inl (fun _ => 0))), ((w8.getD 25 0), .inr (7, [.ref (w8.getD 26 0), .int 0, .int 0, .int 0, .null, .int 0, .int 0, .int 0, .int 0, .int 0, .int 0])), ((w8.getD 26 0), .inr (1, [.ref (w8.getD 27 0), .int (-1), .int 0])), ((w8.getD 27 0), .inl (g.2.1, 49, .inl (fun _ => 0))), ((w8.getD 28 0), .inr (7, [.ref (w8.getD 29 0), .int 0, .int 0, .int 0, .null, .int 0, .int 0, .int 0, .int 0, .int 0, .int 0])), ((w8.getD 29 0), .inr (1, [.ref (w8.getD 30 0), .int (-1), .int 0])), ((w8.getD 30 0), .inl (g.2.1, 49, .inl (fun _ => 0))), ((w8.getD 31 0), .inr (4, [.ref (w8.getD 32 0), .int 0])), ((w8.getD 32 0), .inl (g.2.1, 60, .inl (fun _ => 0))), ((w8.getD 33 0), .inr (3, [.ref (w8.getD 34 0), .int 0])), ((w8.getD 34 0), .inl (g.2.1, 588, .inl (fun _ => 0))), ((w8.getD 35 0), .inr (0, [.ref (w8.getD 36 0), .ref (w8.getD 38 0), .ref (w8.getD 40 0)])), ((w8.getD 36 0), .inr (1, [.ref (w8.getD 37 0), .int (-1), .int 0])), ((w8.getD 37 0), .inl (g.2.1, 49, .inl (fun _ => 0))), ((w8.getD 38 0), .inr (1, [.ref (w8.getD 39 0), .int (-1), .int 0])), ((w8.getD 39 0), .inl (g.2.1, 49, .inl (fun _ => 0))), ((w8.getD 40 0), .inr (3, [.ref (w8.getD 41 0), .int 0])), ((w8.getD 41 0), .inl (g.2.1, 588, .inl (fun _ => 0))), ((w8.getD 42 0), .inr (2, [.ref (w8.getD 43 0), .ref (w8.getD 44 0), .int 0])), ((w8.getD 43 0), .inl (g.2.1, 49, .inl (fun _ => 0))), ((w8.getD 44 0), .inl (g.2.1, 49, .inl (fun _ => 0))), ((w8.getD 45 0), .inr (7, [.ref (w8.getD 46 0), .int 1, .int 0, .int 0, .ref (w8.getD 48 0), .int 0, .int 0, .int 0, .int 0, .int 0, .int 0])), ((w8.getD 46 0), .inr (1, [.ref (w8.getD 47 0), .int 24, .int 0])), ((w8.getD 47 0), .inl (g.2.1, 49, .inl f')), ((w8.getD 48 0), pcell none 0 (newPC (f', 0) [])), (q9, .inr (8, [.ref (w9.getD 45 0), .ref (w9.getD 0 0), .ref (w9.getD 3 0), .ref (w9.getD 10 0), .ref (w9.getD 11 0), .ref (w9.getD 31 0), .ref (w9.getD 33 0), .ref (w9.getD 35 0), .ref (w9.getD 42 0)])), ((w9.getD 0 0), .inr (7, [.ref (w9.getD 1 0), .int 0, .int 0, .int 0, .null, .int 0, .int 0, .int 0, .int 0, .int 0, .int 0])), ((w9.getD 1 0), .inr (1, [.ref (w9.getD 2 0), .int (-1), .int 0])), ((w9.getD 2 0), .inl (g.2.1, 49, .inl (fun _ => 0))), ((w9.getD 3 0), .inl (g.2.2.2.2, 2, .inr (.inr (.inr (.inr (al [(w9.getD 4 0), (w9.getD 7 0)])))))), ((w9.getD 4 0), .inr (7, [.ref (w9.getD 5 0), .int 0, .int 0, .int 0, .null, .int 0, .int 0, .int 0, .int 0, .int 0, .int 0])), ((w9.getD 5 0), .inr (1, [.ref (w9.getD 6 0), .int (-1), .int 0])), ((w9.getD 6 0), .inl (g.2.1, 49, .inl (fun _ => 0))), ((w9.getD 7 0), .inr (7, [.ref (w9.getD 8 0), .int 0, .int 0, .int 0, .null, .int 0, .int 0, .int 0, .int 0, .int 0, .int 0])), ((w9.getD 8 0), .inr (1, [.ref (w9.getD 9 0), .int (-1), .int 0])), ((w9.getD 9 0), .inl (g.2.1, 49, .inl (fun _ => 0))), ((w9.getD 10 0), .inl (g.2.2.2.1, 2, .inl (fun _ => 0))), ((w9.getD 11 0), .inr (6, [.ref (w9.getD 12 0), .int 0, .int 0])), ((w9.getD 12 0), .inl (g.2.2.2.2, 6, .inr (.inr (.inr (.inr (al [(w9.getD 13 0), (w9.getD 16 0), (w9.getD 19 0), (w9.getD 22 0), (w9.getD 25 0), (w9.getD 28 0)])))))), ((w9.getD 13 0), .inr (7, [.ref (w9.getD 14 0), .int 0, .int 0, .int 0, .null, .int 0, .int 0, .int 0, .int 0, .int 0, .int 0])), ((w9.getD 14 0), .inr (1, [.ref (w9.getD 15 0), .int (-1), .int 0])), ((w9.getD 15 0), .inl (g.2.1, 49, .inl (fun _ => 0))), ((w9.getD 16 0), .inr (7, [.ref (w9.getD 17 0), .int 0, .int 0, .int 0, .null, .int 0, .int 0, .int 0, .int 0, .int 0, .int 0])), ((w9.getD 17 0), .inr (1, [.ref (w9.getD 18 0), .int (-1), .int 0])), ((w9.getD 18 0), .inl (g.2.1, 49, .inl (fun _ => 0))), ((w9.getD 19 0), .inr (7, [.ref (w9.getD 20 0), .int 0, .int 0, .int 0, .null, .int 0, .int 0, .int 0, .int 0, .int 0, .int 0])), ((w9.getD 20 0), .inr (1, [.ref (w9.getD 21 0), .int (-1), .int 0])), ((w9.getD 21 0), .inl (g.2.1, 49, .inl (fun _ => 0))), ((w9.getD 22 0), .inr (7, [.ref (w9.getD 23 0), .int 0, .int 0, .int 0, .null, .int 0, .int 0, .int 0, .int 0, .int 0, .int 0])), ((w9.getD 23 0), .inr (1, [.ref (w9.getD 24 0), .int (-1), .int 0])), ((w9.getD 24 0), .inl (g.2.1, 49, .inl (fun _ => 0))), ((w9.getD 25 0), .inr (7, [.ref (w9.getD 26 0), .int 0, .int 0, .int 0, .null, .int 0, .int 0, .int 0, .int 0, .int 0, .int 0])), ((w9.getD 26 0), .inr (1, [.ref (w9.getD 27 0), .int (-1), .int 0])), ((w9.getD 27 0), .inl (g.2.1, 49, .inl (fun _ => 0))), ((w9.getD 28 0), .inr (7, [.ref (w9.getD 29 0), .int 0, .int 0, .int 0, .null, .int 0, .int 0, .int 0, .int 0, .int 0, .int 0])), ((w9.getD 29 0), .inr (1, [.ref (w9.getD 30 0), .int (-1), .int 0])), ((w9.getD 30 0), .inl (g.2.1, 49, .inl (fun _ => 0))), ((w9.getD 31 0), .inr (4, [.ref (w9.getD 32 0), .int 0])), ((w9.getD 32 0), .inl (g.2.1, 60, .inl (fun _ => 0))), ((w9.getD 33 0), .inr (3, [.ref (w9.getD 34 0), .int 0])), ((w9.getD 34 0), .inl (g.2.1, 588, .inl (fun _ => 0))), ((w9.getD 35 0), .inr (0, [.ref (w9.getD 36 0), .ref (w9.getD 38 0), .ref (w9.getD 40 0)])), ((w9.getD 36 0), .inr (1, [.ref (w9.getD 37 0), .int (-1), .int 0])), ((w9.getD 37 0), .inl (g.2.1, 49, .inl (fun _ => 0))), ((w9.getD 38 0), .inr (1, [.ref (w9.getD 39 0), .int (-1), .int 0])), ((w9.getD 39 0), .inl (g.2.1, 49, .inl (fun _ => 0))), ((w9.getD 40 0), .inr (3, [.ref (w9.getD 41 0), .int 0])), ((w9.getD 41 0), .inl (g.2.1, 588, .inl (fun _ => 0))), ((w9.getD 42 0), .inr (2, [.ref (w9.getD 43 0), .ref (w9.getD 44 0), .int 0])), ((w9.getD 43 0), .inl (g.2.1, 49, .inl (fun _ => 0))), ((w9.getD 44 0), .inl (g.2.1, 49, .inl (fun _ => 0))), ((w9.getD 45 0), .inr (7, [.ref (w9.getD 46 0), .int 1, .int 0, .int 0, .ref (w9.getD 48 0), .int 0, .int 0, .int 0, .int 0, .int 0, .int 0])), ((w9.getD 46 0), .inr (1, [.ref (w9.getD 47 0), .int 24, .int 0])), ((w9.getD 47 0), .inl (g.2.1, 49, .inl f')), ((w9.getD 48 0), pcell none 0 (newPC (f', 0) []))] H := hP
  have hD : va_D (fun q : Nat => s.heap.size ≤ q) [(q8, .inr (8, [.ref (w8.getD 45 0), .ref (w8.getD 0 0), .ref (w8.getD 3 0), .ref (w8.getD 10 0), .ref (w8.getD 11 0), .ref (w8.getD 31 0), .ref (w8.getD 33 0), .ref (w8.getD 35 0), .ref (w8.getD 42 0)])), ((w8.getD 0 0), .inr (7, [.ref (w8.getD 1 0), .int 0, .int 0, .int 0, .null, .int 0, .int 0, .int 0, .int 0, .int 0, .int 0])), ((w8.getD 1 0), .inr (1, [.ref (w8.getD 2 0), .int (-1), .int 0])), ((w8.getD 2 0), .inl (g.2.1, 49, .inl (fun _ => 0))), ((w8.getD 3 0), .inl (g.2.2.2.2, 2, .inr (.inr (.inr (.inr (al [(w8.getD 4 0), (w8.getD 7 0)])))))), ((w8.getD 4 0), .inr (7, [.ref (w8.getD 5 0), .int 0, .int 0, .int 0, .null, .int 0, .int 0, .int 0, .int 0, .int 0, .int 0])), ((w8.getD 5 0), .inr (1, [.ref (w8.getD 6 0), .int (-1), .int 0])), ((w8.getD 6 0), .inl (g.2.1, 49, .inl (fun _ => 0))), ((w8.getD 7 0), .inr (7, [.ref (w8.getD 8 0), .int 0, .int 0, .int 0, .null, .int 0, .int 0, .int 0, .int 0, .int 0, .int 0])), ((w8.getD 8 0), .inr (1, [.ref (w8.getD 9 0), .int (-1), .int 0])), ((w8.getD 9 0), .inl (g.2.1, 49, .inl (fun _ => 0))), ((w8.getD 10 0), .inl (g.2.2.2.1, 2, .inl (fun _ => 0))), ((w8.getD 11 0), .inr (6, [.ref (w8.getD 12 0), .int 0, .int 0])), ((w8.getD 12 0), .inl (g.2.2.2.2, 6, .inr (.inr (.inr (.inr (al [(w8.getD 13 0), (w8.getD 16 0), (w8.getD 19 0), (w8.getD 22 0), (w8.getD 25 0), (w8.getD 28 0)])))))), ((w8.getD 13 0), .inr (7, [.ref (w8.getD 14 0), .int 0, .int 0, .int 0, .null, .int 0, .int 0, .int 0, .int 0, .int 0, .int 0])), ((w8.getD 14 0), .inr (1, [.ref (w8.getD 15 0), .int (-1), .int 0])), ((w8.getD 15 0), .inl (g.2.1, 49, .inl (fun _ => 0))), ((w8.getD 16 0), .inr (7, [.ref (w8.getD 17 0), .int 0, .int 0, .int 0, .null, .int 0, .int 0, .int 0, .int 0, .int 0, .int 0])), ((w8.getD 17 0), .inr (1, [.ref (w8.getD 18 0), .int (-1), .int 0])), ((w8.getD 18 0), .inl (g.2.1, 49, .inl (fun _ => 0))), ((w8.getD 19 0), .inr (7, [.ref (w8.getD 20 0), .int 0, .int 0, .int 0, .null, .int 0, .int 0, .int 0, .int 0, .int 0, .int 0])), ((w8.getD 20 0), .inr (1, [.ref (w8.getD 21 0), .int (-1), .int 0])), ((w8.getD 21 0), .inl (g.2.1, 49, .inl (fun _ => 0))), ((w8.getD 22 0), .inr (7, [.ref (w8.getD 23 0), .int 0, .int 0, .int 0, .null, .int 0, .int 0, .int 0, .int 0, .int 0, .int 0])), ((w8.getD 23 0), .inr (1, [.ref (w8.getD 24 0), .int (-1), .int 0])), ((w8.getD 24 0), .inl (g.2.1, 49, .inl (fun _ => 0))), ((w8.getD 25 0), .inr (7, [.ref (w8.getD 26 0), .int 0, .int 0, .int 0, .null, .int 0, .int 0, .int 0, .int 0, .int 0, .int 0])), ((w8.getD 26 0), .inr (1, [.ref (w8.getD 27 0), .int (-1), .int 0])), ((w8.getD 27 0), .inl (g.2.1, 49, .inl (fun _ => 0))), ((w8.getD 28 0), .inr (7, [.ref (w8.getD 29 0), .int 0, .int 0, .int 0, .null, .int 0, .int 0, .int 0, .int 0, .int 0, .int 0])), ((w8.getD 29 0), .inr (1, [.ref (w8.getD 30 0), .int (-1), .int 0])), ((w8.getD 30 0), .inl (g.2.1, 49, .inl (fun _ => 0))), ((w8.getD 31 0), .inr (4, [.ref (w8.getD 32 0), .int 0])), ((w8.getD 32 0), .inl (g.2.1, 60, .inl (fun _ => 0))), ((w8.getD 33 0), .inr (3, [.ref (w8.getD 34 0), .int 0])), ((w8.getD 34 0), .inl (g.2.1, 588, .inl (fun _ => 0))), ((w8.getD 35 0), .inr (0, [.ref (w8.getD 36 0), .ref (w8.getD 38 0), .ref (w8.getD 40 0)])), ((w8.getD 36 0), .inr (1, [.ref (w8.getD 37 0), .int (-1), .int 0])), ((w8.getD 37 0), .inl (g.2.1, 49, .inl (fun _ => 0))), ((w8.getD 38 0), .inr (1, [.ref (w8.getD 39 0), .int (-1), .int 0])), ((w8.getD 39 0), .inl (g.2.1, 49, .inl (fun _ => 0))), ((w8.getD 40 0), .inr (3, [.ref (w8.getD 41 0), .int 0])), ((w8.getD 41 0), .inl (g.2.1, 588, .inl (fun _ => 0))), ((w8.getD 42 0), .inr (2, [.ref (w8.getD 43 0), .ref (w8.getD 44 0), .int 0])), ((w8.getD 43 0), .inl (g.2.1, 49, .inl (fun _ => 0))), ((w8.getD 44 0), .inl (g.2.1, 49, .inl (fun _ => 0))), ((w8.getD 45 0), .inr (7, [.ref (w8.getD 46 0), .int 1, .int 0, .int 0, .ref (w8.getD 48 0), .int 0, .int 0, .int 0, .int 0, .int 0, .int 0])), ((w8.getD 46 0), .inr (1, [.ref (w8.getD 47 0), .int 24, .int 0])), ((w8.getD 47 0), .inl (g.2.1, 49, .inl f')), ((w8.getD 48 0), pcell none 0 (newPC (f', 0) [])), (q9, .inr (8, [.ref (w9.getD 45 0), .ref (w9.getD 0 0), .ref (w9.getD 3 0), .ref (w9.getD 10 0), .ref (w9.getD 11 0), .ref (w9.getD 31 0), .ref (w9.getD 33 0), .ref (w9.getD 35 0), .ref (w9.getD 42 0)])), ((w9.getD 0 0), .inr (7, [.ref (w9.getD 1 0), .int 0, .int 0, .int 0, .null, .int 0, .int 0, .int 0, .int 0, .int 0, .int 0])), ((w9.getD 1 0), .inr (1, [.ref (w9.getD 2 0), .int (-1), .int 0])), ((w9.getD 2 0), .inl (g.2.1, 49, .inl (fun _ => 0))), ((w9.getD 3 0), .inl (g.2.2.2.2, 2, .inr (.inr (.inr (.inr (al [(w9.getD 4 0), (w9.getD 7 0)])))))), ((w9.getD 4 0), .inr (7, [.ref (w9.getD 5 0), .int 0, .int 0, .int 0, .null, .int 0, .int 0, .int 0, .int 0, .int 0, .int 0])), ((w9.getD 5 0), .inr (1, [.ref (w9.getD 6 0), .int (-1), .int 0])), ((w9.getD 6 0), .inl (g.2.1, 49, .inl (fun _ => 0))), ((w9.getD 7 0), .inr (7, [.ref (w9.getD 8 0), .int 0, .int 0, .int 0, .null, .int 0, .int 0, .int 0, .int 0, .int 0, .int 0])), ((w9.getD 8 0), .inr (1, [.ref (w9.getD 9 0), .int (-1), .int 0])), ((w9.getD 9 0), .inl (g.2.1, 49, .inl (fun _ => 0))), ((w9.getD 10 0), .inl (g.2.2.2.1, 2, .inl (fun _ => 0))), ((w9.getD 11 0), .inr (6, [.ref (w9.getD 12 0), .int 0, .int 0])), ((w9.getD 12 0), .inl (g.2.2.2.2, 6, .inr (.inr (.inr (.inr (al [(w9.getD 13 0), (w9.getD 16 0), (w9.getD 19 0), (w9.getD 22 0), (w9.getD 25 0), (w9.getD 28 0)])))))), ((w9.getD 13 0), .inr (7, [.ref (w9.getD 14 0), .int 0, .int 0, .int 0, .null, .int 0, .int 0, .int 0, .int 0, .int 0, .int 0])), ((w9.getD 14 0), .inr (1, [.ref (w9.getD 15 0), .int (-1), .int 0])), ((w9.getD 15 0), .inl (g.2.1, 49, .inl (fun _ => 0))), ((w9.getD 16 0), .inr (7, [.ref (w9.getD 17 0), .int 0, .int 0, .int 0, .null, .int 0, .int 0, .int 0, .int 0, .int 0, .int 0])), ((w9.getD 17 0), .inr (1, [.ref (w9.getD 18 0), .int (-1), .int 0])), ((w9.getD 18 0), .inl (g.2.1, 49, .inl (fun _ => 0))), ((w9.getD 19 0), .inr (7, [.ref (w9.getD 20 0), .int 0, .int 0, .int 0, .null, .int 0, .int 0, .int 0, .int 0, .int 0, .int 0])), ((w9.getD 20 0), .inr (1, [.ref (w9.getD 21 0), .int (-1), .int 0])), ((w9.getD 21 0), .inl (g.2.1, 49, .inl (fun _ => 0))), ((w9.getD 22 0), .inr (7, [.ref (w9.getD 23 0), .int 0, .int 0, .int 0, .null, .int 0, .int 0, .int 0, .int 0, .int 0, .int 0])), ((w9.getD 23 0), .inr (1, [.ref (w9.getD 24 0), .int (-1), .int 0])), ((w9.getD 24 0), .inl (g.2.1, 49, .inl (fun _ => 0))), ((w9.getD 25 0), .inr (7, [.ref (w9.getD 26 0), .int 0, .int 0, .int 0, .null, .int 0, .int 0, .int 0, .int 0, .int 0, .int 0])), ((w9.getD 26 0), .inr (1, [.ref (w9.getD 27 0), .int (-1), .int 0])), ((w9.getD 27 0), .inl (g.2.1, 49, .inl (fun _ => 0))), ((w9.getD 28 0), .inr (7, [.ref (w9.getD 29 0), .int 0, .int 0, .int 0, .null, .int 0, .int 0, .int 0, .int 0, .int 0, .int 0])), ((w9.getD 29 0), .inr (1, [.ref (w9.getD 30 0), .int (-1), .int 0])), ((w9.getD 30 0), .inl (g.2.1, 49, .inl (fun _ => 0))), ((w9.getD 31 0), .inr (4, [.ref (w9.getD 32 0), .int 0])), ((w9.getD 32 0), .inl (g.2.1, 60, .inl (fun _ => 0))), ((w9.getD 33 0), .inr (3, [.ref (w9.getD 34 0), .int 0])), ((w9.getD 34 0), .inl (g.2.1, 588, .inl (fun _ => 0))), ((w9.getD 35 0), .inr (0, [.ref (w9.getD 36 0), .ref (w9.getD 38 0), .ref (w9.getD 40 0)])), ((w9.getD 36 0), .inr (1, [.ref (w9.getD 37 0), .int (-1), .int 0])), ((w9.getD 37 0), .inl (g.2.1, 49, .inl (fun _ => 0))), ((w9.getD 38 0), .inr (1, [.ref (w9.getD 39 0), .int (-1), .int 0])), ((w9.getD 39 0), .inl (g.2.1, 49, .inl (fun _ => 0))), ((w9.getD 40 0), .inr (3, [.ref (w9.getD 41 0), .int 0])), ((w9.getD 41 0), .inl (g.2.1, 588, .inl (fun _ => 0))), ((w9.getD 42 0), .inr (2, [.ref (w9.getD 43 0), .ref (w9.getD 44 0), .int 0])), ((w9.getD 43 0), .inl (g.2.1, 49, .inl (fun _ => 0))), ((w9.getD 44 0), .inl (g.2.1, 49, .inl (fun _ => 0))), ((w9.getD 45 0), .inr (7, [.ref (w9.getD 46 0), .int 1, .int 0, .int 0, .ref (w9.getD 48 0), .int 0, .int 0, .int 0, .int 0, .int 0, .int 0])), ((w9.getD 46 0), .inr (1, [.ref (w9.getD 47 0), .int 24, .int 0])), ((w9.getD 47 0), .inl (g.2.1, 49, .inl f')), ((w9.getD 48 0), pcell none 0 (newPC (f', 0) []))] := hD
  obtain ⟨ap, hap⟩ : ∃ ap : Nat → Nat, ap = (fun i => [q8, w8.getD 45 0, w8.getD 46 0, w8.getD 47 0, w8.getD 0 0, w8.getD 1 0, w8.getD 2 0, w8.getD 3 0, w8.getD 4 0, w8.getD 5 0, w8.getD 6 0, w8.getD 7 0, w8.getD 8 0, w8.getD 9 0, w8.getD 10 0, w8.getD 11 0, w8.getD 12 0, w8.getD 13 0, w8.getD 14 0, w8.getD 15 0, w8.getD 16 0, w8.getD 17 0, w8.getD 18 0, w8.getD 19 0, w8.getD 20 0, w8.getD 21 0, w8.getD 22 0, w8.getD 23 0, w8.getD 24 0, w8.getD 25 0, w8.getD 26 0, w8.getD 27 0, w8.getD 28 0, w8.getD 29 0, w8.getD 30 0, w8.getD 31 0, w8.getD 32 0, w8.getD 33 0, w8.getD 34 0, w8.getD 35 0, w8.getD 36 0, w8.getD 37 0, w8.getD 38 0, w8.getD 39 0, w8.getD 40 0, w8.getD 41 0, w8.getD 42 0, w8.getD 43 0, w8.getD 44 0].getD i 0) := ⟨_, rfl⟩
  obtain ⟨aq, haq⟩ : ∃ aq : Nat → Nat, aq = (fun i => [q9, w9.getD 45 0, w9.getD 46 0, w9.getD 47 0, w9.getD 0 0, w9.getD 1 0, w9.getD 2 0, w9.getD 3 0, w9.getD 4 0, w9.getD 5 0, w9.getD 6 0, w9.getD 7 0, w9.getD 8 0, w9.getD 9 0, w9.getD 10 0, w9.getD 11 0, w9.getD 12 0, w9.getD 13 0, w9.getD 14 0, w9.getD 15 0, w9.getD 16 0, w9.getD 17 0, w9.getD 18 0, w9.getD 19 0, w9.getD 20 0, w9.getD 21 0, w9.getD 22 0, w9.getD 23 0, w9.getD 24 0, w9.getD 25 0, w9.getD 26 0, w9.getD 27 0, w9.getD 28 0, w9.getD 29 0, w9.getD 30 0, w9.getD 31 0, w9.getD 32 0, w9.getD 33 0, w9.getD 34 0, w9.getD 35 0, w9.getD 36 0, w9.getD 37 0, w9.getD 38 0, w9.getD 39 0, w9.getD 40 0, w9.getD 41 0, w9.getD 42 0, w9.getD 43 0, w9.getD 44 0].getD i 0) := ⟨_, rfl⟩
  have hPp : va_P g.1 vwCl (WS g ap f' 24 0 1 0 0 (some (w8.getD 48 0)) 0 0 0 0 0 0 (fun _ => 0) (-1) 0 0 0 0 none 0 0 0 0 0 0 0 0 (fun _ => ((fun _ => 0), (-1), 0, 0, 0, 0, none, 0, 0, 0, 0, 0, 0)) (fun _ => 0) (fun _ => ((fun _ => 0), (-1), 0, 0, 0, 0, none, 0, 0, 0, 0, 0, 0)) 0 (fun _ => 0) 0 (fun _ => 0) (-1) 0 (fun _ => 0) (-1) 0 (fun _ => 0) 0 (fun _ => 0) 0 (fun _ => 0) (fun _ => 0)) H := by rw [hap]; exact hP.sub [0, 46, 47, 48, 1, 2, 3, 4, 5, 6, 7, 8, 9, 10, 11, 12, 13, 14, 15, 16, 17, 18, 19, 20, 21, 22, 23, 24, 25, 26, 27, 28, 29, 30, 31, 32, 33, 34, 35, 36, 37, 38, 39, 40, 41, 42, 43, 44, 45] rfl
  have hPq : va_P g.1 vwCl (WS g aq f' 24 0 1 0 0 (some (w9.getD 48 0)) 0 0 0 0 0 0 (fun _ => 0) (-1) 0 0 0 0 none 0 0 0 0 0 0 0 0 (fun _ => ((fun _ => 0), (-1), 0, 0, 0, 0, none, 0, 0, 0, 0, 0, 0)) (fun _ => 0) (fun _ => ((fun _ => 0), (-1), 0, 0, 0, 0, none, 0, 0, 0, 0, 0, 0)) 0 (fun _ => 0) 0 (fun _ => 0) (-1) 0 (fun _ => 0) (-1) 0 (fun _ => 0) 0 (fun _ => 0) 0 (fun _ => 0) (fun _ => 0)) H := by rw [haq]; exact hP.sub [50, 96, 97, 98, 51, 52, 53, 54, 55, 56, 57, 58, 59, 60, 61, 62, 63, 64, 65, 66, 67, 68, 69, 70, 71, 72, 73, 74, 75, 76, 77, 78, 79, 80, 81, 82, 83, 84, 85, 86, 87, 88, 89, 90, 91, 92, 93, 94, 95] rfl
  have hpp : va_P g.1 vwCl [(w8.getD 48 0, pcell none 0 (newPC (f', 0) []))] H := hP.sub [49] rfl
  have hpq : va_P g.1 vwCl [(w9.getD 48 0, pcell none 0 (newPC (f', 0) []))] H := hP.sub [99] rfl
  have hD3 : va_D (fun q : Nat => s.heap.size ≤ q) ((WS g ap f' 24 0 1 0 0 (some (w8.getD 48 0)) 0 0 0 0 0 0 (fun _ => 0) (-1) 0 0 0 0 none 0 0 0 0 0 0 0 0 (fun _ => ((fun _ => 0), (-1), 0, 0, 0, 0, none, 0, 0, 0, 0, 0, 0)) (fun _ => 0) (fun _ => ((fun _ => 0), (-1), 0, 0, 0, 0, none, 0, 0, 0, 0, 0, 0)) 0 (fun _ => 0) 0 (fun _ => 0) (-1) 0 (fun _ => 0) (-1) 0 (fun _ => 0) 0 (fun _ => 0) 0 (fun _ => 0) (fun _ => 0)) ++ ((WS g aq f' 24 0 1 0 0 (some (w9.getD 48 0)) 0 0 0 0 0 0 (fun _ => 0) (-1) 0 0 0 0 none 0 0 0 0 0 0 0 0 (fun _ => ((fun _ => 0), (-1), 0, 0, 0, 0, none, 0, 0, 0, 0, 0, 0)) (fun _ => 0) (fun _ => ((fun _ => 0), (-1), 0, 0, 0, 0, none, 0, 0, 0, 0, 0, 0)) 0 (fun _ => 0) 0 (fun _ => 0) (-1) 0 (fun _ => 0) (-1) 0 (fun _ => 0) 0 (fun _ => 0) 0 (fun _ => 0) (fun _ => 0)) ++ [(w8.getD 48 0, pcell none 0 (newPC (f', 0) [])), (w9.getD 48 0, pcell none 0 (newPC (f', 0) []))])) := by rw [hap, haq]; exact hD.sub [0, 46, 47, 48, 1, 2, 3, 4, 5, 6, 7, 8, 9, 10, 11, 12, 13, 14, 15, 16, 17, 18, 19, 20, 21, 22, 23, 24, 25, 26, 27, 28, 29, 30, 31, 32, 33, 34, 35, 36, 37, 38, 39, 40, 41, 42, 43, 44, 45, 50, 96, 97, 98, 51, 52, 53, 54, 55, 56, 57, 58, 59, 60, 61, 62, 63, 64, 65, 66, 67, 68, 69, 70, 71, 72, 73, 74, 75, 76, 77, 78, 79, 80, 81, 82, 83, 84, 85, 86, 87, 88, 89, 90, 91, 92, 93, 94, 95, 49, 99] (by decide) rfl
  obtain ⟨d1, d2, d3, d4, d5, d6⟩ := both_D rfl rfl (fun k q hk => at_AL (aa := ap) rfl hk) (fun k q hk => at_AL (aa := aq) rfl hk) hD3
  have e1 := d6 0 _ rfl
  have e2 := d6 1 _ rfl
  obtain ⟨F, hF⟩ : ∃ F : Nat → Prop, F = fun q => q ∈ AL ap ∨ q ∈ AL aq := ⟨_, rfl⟩
  have hltp : ∀ i, i < 49 → ap i < H.size := fun i hi => by
    have h1 : (WS g ap f' 24 0 1 0 0 (some (w8.getD 48 0)) 0 0 0 0 0 0 (fun _ => 0) (-1) 0 0 0 0 none 0 0 0 0 0 0 0 0 (fun _ => ((fun _ => 0), (-1), 0, 0, 0, 0, none, 0, 0, 0, 0, 0, 0)) (fun _ => 0) (fun _ => ((fun _ => 0), (-1), 0, 0, 0, 0, none, 0, 0, 0, 0, 0, 0)) 0 (fun _ => 0) 0 (fun _ => 0) (-1) 0 (fun _ => 0) (-1) 0 (fun _ => 0) 0 (fun _ => 0) 0 (fun _ => 0) (fun _ => 0))[i]? = some (WS g ap f' 24 0 1 0 0 (some (w8.getD 48 0)) 0 0 0 0 0 0 (fun _ => 0) (-1) 0 0 0 0 none 0 0 0 0 0 0 0 0 (fun _ => ((fun _ => 0), (-1), 0, 0, 0, 0, none, 0, 0, 0, 0, 0, 0)) (fun _ => 0) (fun _ => ((fun _ => 0), (-1), 0, 0, 0, 0, none, 0, 0, 0, 0, 0, 0)) 0 (fun _ => 0) 0 (fun _ => 0) (-1) 0 (fun _ => 0) (-1) 0 (fun _ => 0) 0 (fun _ => 0) 0 (fun _ => 0) (fun _ => 0))[i] := List.getElem?_eq_getElem hi
    rw [← (at_AL (aa := ap) rfl h1).2]
    exact (hPp i _ h1).lt
  have hltq : ∀ i, i < 49 → aq i < H.size := fun i hi => by
    have h1 : (WS g aq f' 24 0 1 0 0 (some (w9.getD 48 0)) 0 0 0 0 0 0 (fun _ => 0) (-1) 0 0 0 0 none 0 0 0 0 0 0 0 0 (fun _ => ((fun _ => 0), (-1), 0, 0, 0, 0, none, 0, 0, 0, 0, 0, 0)) (fun _ => 0) (fun _ => ((fun _ => 0), (-1), 0, 0, 0, 0, none, 0, 0, 0, 0, 0, 0)) 0 (fun _ => 0) 0 (fun _ => 0) (-1) 0 (fun _ => 0) (-1) 0 (fun _ => 0) 0 (fun _ => 0) 0 (fun _ => 0) (fun _ => 0))[i]? = some (WS g aq f' 24 0 1 0 0 (some (w9.getD 48 0)) 0 0 0 0 0 0 (fun _ => 0) (-1) 0 0 0 0 none 0 0 0 0 0 0 0 0 (fun _ => ((fun _ => 0), (-1), 0, 0, 0, 0, none, 0, 0, 0, 0, 0, 0)) (fun _ => 0) (fun _ => ((fun _ => 0), (-1), 0, 0, 0, 0, none, 0, 0, 0, 0, 0, 0)) 0 (fun _ => 0) 0 (fun _ => 0) (-1) 0 (fun _ => 0) (-1) 0 (fun _ => 0) 0 (fun _ => 0) 0 (fun _ => 0) (fun _ => 0))[i] := List.getElem?_eq_getElem hi
    rw [← (at_AL (aa := aq) rfl h1).2]
    exact (hPq i _ h1).lt
  have hFlt : ∀ q, F q → q < H.size := fun q hq => by
    rw [hF] at hq
    rcases hq with hq | hq
    · obtain ⟨i, hi, rfl⟩ := AL_mem.mp hq
      exact hltp i hi
    · obtain ⟨i, hi, rfl⟩ := AL_mem.mp hq
      exact hltq i hi
  have hOAp : OA (fun q : Nat => s.heap.size ≤ q) F ap := ⟨d1, fun i hi => ⟨d3 i hi, by rw [hF]; exact Or.inl (AL_mem.mpr ⟨i, hi, rfl⟩)⟩⟩
  have hOAq : OA (fun q : Nat => s.heap.size ≤ q) F aq := ⟨d2, fun i hi => ⟨d4 i hi, by rw [hF]; exact Or.inr (AL_mem.mpr ⟨i, hi, rfl⟩)⟩⟩
  have hnF : ∀ z : Nat, (∀ i, i < 49 → z ≠ ap i ∧ z ≠ aq i) → ¬ F z := fun z hz hq => by
    rw [hF] at hq
    rcases hq with hq | hq
    · obtain ⟨i, hi, h2⟩ := AL_mem.mp hq
      exact (hz i hi).1 h2.symm
    · obtain ⟨i, hi, h2⟩ := AL_mem.mp hq
      exact (hz i hi).2 h2.symm
  have ech : chP [(fPI, (0 : Int32))] = [newPC (f', 0) []] := by
    rw [newPC_AG ag]
    rfl
  have hKp : KF g F s H [(fPI, 0)] (some (w8.getD 48 0)) := by
    unfold KF
    rw [ech]
    exact ⟨_, none, rfl, hpp, hnF _ e1, rfl⟩
  have hKq : KF g F s H [(fPI, 0)] (some (w9.getD 48 0)) := by
    unfold KF
    rw [ech]
    exact ⟨_, none, rfl, hpq, hnF _ e2, rfl⟩
  have hsv : ∀ (K : List HP → Option Nat → Prop) (sx : Nat → SV), SVR K 0 sx [] := fun K sx k a e => by simp at e
  have hsl : ∀ (K : List HP → Option Nat → Prop) (qx : Nat → SV), SLR K (fun _ => 0) qx (fun _ => none) := fun K qx j hj => ⟨fun _ => rfl, fun a e => (nomatch e)⟩
  have hOp : OB g ap F gst0 s H := ⟨hFlt, st0_GD, f', 24, 0, 1, 0, 0, (some (w8.getD 48 0)), 0, 0, 0, 0, 0, 0, (fun _ => 0), (-1), 0, 0, 0, 0, none, 0, 0, 0, 0, 0, 0, 0, 0, (fun _ => ((fun _ => 0), (-1), 0, 0, 0, 0, none, 0, 0, 0, 0, 0, 0)), (fun _ => 0), (fun _ => ((fun _ => 0), (-1), 0, 0, 0, 0, none, 0, 0, 0, 0, 0, 0)), 0, (fun _ => 0), 0, (fun _ => 0), (-1), 0, (fun _ => 0), (-1), 0, (fun _ => 0), 0, (fun _ => 0), 0, (fun _ => 0), (fun _ => 0), hPp, OR_i (s := 0) (t := 0) (l := []) ag hKp (by decide) (Nat.zero_le _) (hsv _ _) (hsl _ _) (Nat.zero_le _) (fun i hi => absurd hi (Nat.not_lt_zero _))⟩
  have hOq : OB g aq F gst0 s H := ⟨hFlt, st0_GD, f', 24, 0, 1, 0, 0, (some (w9.getD 48 0)), 0, 0, 0, 0, 0, 0, (fun _ => 0), (-1), 0, 0, 0, 0, none, 0, 0, 0, 0, 0, 0, 0, 0, (fun _ => ((fun _ => 0), (-1), 0, 0, 0, 0, none, 0, 0, 0, 0, 0, 0)), (fun _ => 0), (fun _ => ((fun _ => 0), (-1), 0, 0, 0, 0, none, 0, 0, 0, 0, 0, 0)), 0, (fun _ => 0), 0, (fun _ => 0), (-1), 0, (fun _ => 0), (-1), 0, (fun _ => 0), 0, (fun _ => 0), 0, (fun _ => 0), (fun _ => 0), hPq, OR_i (s := 0) (t := 0) (l := []) ag hKq (by decide) (Nat.zero_le _) (hsv _ _) (hsl _ _) (Nat.zero_le _) (fun i hi => absurd hi (Nat.not_lt_zero _))⟩
  have ea : q8 = ap 0 := by rw [hap]; rfl
  have eb : q9 = aq 0 := by rw [haq]; rfl
  rw [ea, eb] at hl
  refine mL_law (R := room_1) (by exact Nat.le_of_ble_eq_true rfl) (by exact Nat.le_of_ble_eq_true rfl) (by exact Nat.le_of_ble_eq_true rfl) (by exact Nat.le_of_ble_eq_true rfl) C hX (by omega) (Nat.not_le.mpr hbl) hOAp hOAq d5 hOp hOq hS (lv_sub hl [2, 1, 0] rfl) 1 (law_ok xs L st0_INV) (fun H locs c9 s9 ls hS hc => ?_)
  refine va_forget (fun q hq => hS.2.2 q hq) ?_
  refine W.widen (k := 600130) (n := 7301080) (by omega) (by omega) ?_
  exact lw_ret hx hb hr hlocks dL_law_271
end STARTL

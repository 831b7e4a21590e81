/-! ===== what the tables and the start give ===== -/
theorem arr_of {s : State} {args : Array Value} {ty : FieldType} (h : (Cond.arrayClass ty).before args s = true) : ∃ cA, ArrOfT s cA ty ∧ s.vm.findClass ("[" ++ ty.toString) = some cA := by
  obtain ⟨c, k, comp, h1, h2, h3⟩ := Cond.arrayClass_spec h
  exact ⟨c, fun N z => ⟨(fun k h => by cases h), k, h2, comp, h3⟩, h1⟩
theorem arr_ofQ {s : State} {args : Array Value} {C : String} (h : (Cond.arrayOver (.object C)).before args s = true) : ∃ cA, ArrOfT s cA (.object C) ∧ va_RA s cA (.object C) := by
  obtain ⟨comp, c, k, h1, _, h2, h3, h4⟩ := Cond.arrayOver_spec h
  exact ⟨c, fun N z => ⟨(fun k h => by cases h), k, h2, comp, h3⟩, k, comp, h2, h3, h1, h4⟩
theorem EV_of {s : State} {args : Array Value} (hts : ∀ w ∈ lw_tbl, w.before args s = true) : ∃ g : GE, EV g s := by
  have hT : ∀ w ∈ TB, w.before args s = true := fun w h => hts w (TB_in h)
  obtain ⟨c0, i0, h0⟩ := u_known (C := RX0) (T := TX0) (N := 3) (n := 3) hT inX0 (hts (.instantiable RX0 3) (by decide +kernel))
  obtain ⟨c1, i1, h1⟩ := u_known (C := RX1) (T := TX1) (N := 3) (n := 3) hT inX1 (hts (.instantiable RX1 3) (by decide +kernel))
  obtain ⟨c2, i2, h2⟩ := u_known (C := RX2) (T := TX2) (N := 3) (n := 3) hT inX2 (hts (.instantiable RX2 3) (by decide +kernel))
  obtain ⟨c3, i3, h3⟩ := u_known (C := RX3) (T := TX3) (N := 2) (n := 2) hT inX3 (hts (.instantiable RX3 2) (by decide +kernel))
  obtain ⟨c4, i4, h4⟩ := u_known (C := RX4) (T := TX4) (N := 2) (n := 2) hT inX4 (hts (.instantiable RX4 2) (by decide +kernel))
  obtain ⟨c5, i5, h5⟩ := u_known (C := RX5) (T := TX5) (N := 6) (n := 6) hT inX5 (hts (.instantiable RX5 6) (by decide +kernel))
  obtain ⟨c6, i6, h6⟩ := u_known (C := RX6) (T := TX6) (N := 3) (n := 3) hT inX6 (hts (.instantiable RX6 3) (by decide +kernel))
  obtain ⟨c7, i7, h7⟩ := u_known (C := RX7) (T := TX7) (N := 11) (n := 11) hT inX7 (hts (.instantiable RX7 11) (by decide +kernel))
  obtain ⟨c8, i8, h8⟩ := u_known (C := RX8) (T := TX8) (N := 9) (n := 9) hT inX8 (hts (.instantiable RX8 9) (by decide +kernel))
  obtain ⟨a0, x0, y0⟩ := arr_of (hT _ ar_I)
  obtain ⟨a1, x1, y1⟩ := arr_of (hT _ ar_I)
  obtain ⟨a2, x2, y2⟩ := arr_of (hT _ ar_Z)
  obtain ⟨a3, x3, y3⟩ := arr_ofQ (hts (.arrayOver (.object "HallGuards$State")) (by decide +kernel))
  refine ⟨((fun k => [c0, c1, c2, c3, c4, c5, c6, c7, c8].getD k c0, fun k => [i0, i1, i2, i3, i4, i5, i6, i7, i8].getD k i0), a0, a1, a2, a3), ⟨?_, ?_⟩, fun w hw => va_Nw.of (okNest_tab (List.mem_filter.mp hw).2) (hts w (List.mem_filter.mp hw).1)⟩
  · intro k q hq
    match k, hq with
    | 0, hq => cases hq; exact h0
    | 1, hq => cases hq; exact h1
    | 2, hq => cases hq; exact h2
    | 3, hq => cases hq; exact h3
    | 4, hq => cases hq; exact h4
    | 5, hq => cases hq; exact h5
    | 6, hq => cases hq; exact h6
    | 7, hq => cases hq; exact h7
    | 8, hq => cases hq; exact h8
    | k + 9, hq => exact absurd hq (by simp [vwCl])
  · intro k q hq
    match k, hq with
    | 0, hq => cases hq; exact ⟨x0, y0⟩
    | 1, hq => cases hq; exact ⟨x1, y1⟩
    | 2, hq => cases hq; exact ⟨x2, y2⟩
    | 3, hq => cases hq; exact ⟨x3, y3⟩
    | k + 4, hq => exact absurd hq (by simp [tyL])
theorem SR_of {s : State} {args : Array Value} (hts : ∀ w ∈ lw_tbl, w.before args s = true) (hgv : (Jvm.Cond.and given_1 narrow_1).before args s = true) : SR s := by
  have hs := flat_of_before _ hgv
  refine ⟨fun q hq => ?_, fun w hw => va_Nw.of (okFace_tab (List.mem_filter.mp hw).2) (hts w (List.mem_filter.mp hw).1)⟩
  have h1 := hts _ ((by decide +kernel : ∀ q ∈ strs, Cond.stringRef "HallGuards" q.1 q.2 ∈ lw_tbl) q hq)
  have h2 := hs _ ((by decide +kernel : ∀ q ∈ strs, Cond.exactly (.string "HallGuards" q.1) "java/lang/String" ∈ flatC (Jvm.Cond.and given_1 narrow_1)) q hq)
  obtain ⟨a, c, cell, k, h3, _⟩ := Cond.exactly_spec h2
  exact ⟨a, vk_R.of h1 h3⟩
theorem NC_of {s : State} {args : Array Value} (hgv : (Jvm.Cond.and given_1 narrow_1).before args s = true) : NC s := by
  have hs := flat_of_before _ hgv
  exact ⟨va_Nc.of (hs _ (by decide +kernel)), va_Nc.of (hs _ (by decide +kernel)), va_Nc.of (hs _ (by decide +kernel))⟩
theorem XT_of {s : State} {args : Array Value} {A : Nat → Prop} {n : String} {N : Nat} {xs : Nat → Int32} (hN : N < 2 ^ 31) (hl : (Cond.laysStatic "HallGuards" n "[I").before args s = true) (hi : (Cond.initialized "HallGuards").before args s = true) (h1 : (Cond.arrayOf (.static "HallGuards" n "[I") .int).before args s = true) (h2 : (Cond.eq (.length (.static "HallGuards" n "[I")) (.int (Int32.ofNat N))).before args s = true) (h3 : ∀ j, j < N → (Cond.eq (.elem (.static "HallGuards" n "[I") (.int (Int32.ofNat j))) (.int (xs j))).before args s = true) (hA : ∀ a : Nat, a < s.heap.size → ¬ A a) : ∃ t, va_Z "HallGuards" n "[I" (.ref t) A s s.heap ∧ XT t N xs s s.heap ∧ t < s.heap.size ∧ ¬ A t := by
  obtain ⟨t, h4, cell, x1, x2, x3, x4, x5, x6, x7⟩ := va_Tof (f := fun j => .int (xs j)) hN h1 (va_eqt h2) (fun j hj => va_eqt (h3 j hj)) hA
  exact ⟨t, va_Zref hl hi h4 hA, ⟨cell, x1, x2, x3, x4, x5, x6⟩, (Array.getElem?_eq_some_iff.mp x1).1, x7⟩
theorem OS_of {s : State} {args : Array Value} {A : Nat → Prop} (hts : ∀ w ∈ lw_tbl, w.before args s = true) (hgv : (Jvm.Cond.and given_1 narrow_1).before args s = true) (hA : ∀ a : Nat, a < s.heap.size → ¬ A a) : ∃ zc zp, OS zc zp A s s.heap := by
  have hs := flat_of_before _ hgv
  obtain ⟨zc, hc⟩ := XT_of (n := "CORNERS") (N := 4) (xs := fCO) (by decide) (hts _ (by decide +kernel)) (hts _ (by decide +kernel)) (hs _ (by decide +kernel)) (hs _ (by decide +kernel)) (fun j hj => hs _ ((by decide +kernel : ∀ j, j < 4 → Cond.eq (.elem (.static "HallGuards" "CORNERS" "[I") (.int (Int32.ofNat j))) (.int (fCO j)) ∈ flatC (Jvm.Cond.and given_1 narrow_1)) j hj)) hA
  obtain ⟨zp, hp⟩ := XT_of (n := "PIECES_SET_UP") (N := 49) (xs := fPI) (by decide) (hts _ (by decide +kernel)) (hts _ (by decide +kernel)) (hs _ (by decide +kernel)) (hs _ (by decide +kernel)) (fun j hj => hs _ ((by decide +kernel : ∀ j, j < 49 → Cond.eq (.elem (.static "HallGuards" "PIECES_SET_UP" "[I") (.int (Int32.ofNat j))) (.int (fPI j)) ∈ flatC (Jvm.Cond.and given_1 narrow_1)) j hj)) hA
  exact ⟨zc, zp, hc, hp⟩
theorem OT_of {s : State} {args : Array Value} {A : Nat → Prop} (hts : ∀ w ∈ lw_tbl, w.before args s = true) (hgv : (Jvm.Cond.and given_1 narrow_1).before args s = true) (hA : ∀ a : Nat, a < s.heap.size → ¬ A a) : OT A s s.heap := by
  have hs := flat_of_before _ hgv
  exact ⟨vx_Zqof (hts _ (by decide +kernel)) (hts _ (by decide +kernel)) (hs _ (by decide +kernel)) hA, vx_Zqof (hts _ (by decide +kernel)) (hts _ (by decide +kernel)) (hs _ (by decide +kernel)) hA⟩

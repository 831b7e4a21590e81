theorem sub4 : ∀ L, L < 2049 → (4 ≤ L → nI L - 4 = nI (L - 4)) ∧ (L < 4 → nI L - 4 < 0) := by decide +kernel
section LOOPL
set_option maxHeartbeats 8000000
set_option maxRecDepth 100000
theorem law_loop {p : Program} {l : Launch} {e : Env} {s : State} {m : MethodId} {below : List Frame} {meth : Method} {c : Code} {b L : Nat} {xs : Nat → Int32} {g : GE} {zc zp : Nat} {aa : Nat → Nat} (C : LX p l s m c b L xs g zc zp) (hr : meth.sig.returnType = ret) (hlocks : meth.locks = false) (hL : L ≤ 2048) :
    ∀ (n j : Nat) (x4 : Int32), L + 4 ≤ 4 * (j + n) → 4 * j ≤ L + 3 → x4 = nI (4 * j) → ∀ (H : Heap) (locs : List Loc) (cells slots : Nat) (ls : Array Slot), cells ≤ 1000 + 20 * j → slots ≤ 30000 + 100 * j → LI g s aa (j + 1) H locs → lv_has ls 9 [(0, .ref b), (1, .ref (aa 0)), (2, .ref (aa 49)), (3, .ref (aa 62)), (4, .int x4)] → W p l e room_1 s m #[Value.ref b] below meth c H locs cells slots (lw_Z below #[Value.ref b] s) (F0 m 23 ls []) := by
  intro n
  induction n with
  | zero => intro j x4 h1 h2; exact absurd h1 (by omega)
  | succ n ih =>
    intro j x4 h1 h2 ex4 H locs cells slots ls hc1 hc2 hLI hl
    obtain ⟨hn, f, kk, sg, sd, mv, gm, lt, w1, w2, dg, t1, t2, am, fT, kkT, sgT, sdT, mvT, gmT, ltT, w1T, w2T, dgT, t1T, t2T, amT, so, sc, sx, skf, qx, tl, tf, cnt, mf, bk, bs, bf, rk, rs, rf, rn, rmf, kc, krf, kqf, refu, nst, nn, len, pos, gd, ps, sm, fnow, ftri, frep, fway, fbook, fkept, fisk, ffst, flst, fbef, fmov, ftext, fo, hP, hD, hS, hR⟩ := hLI
    obtain ⟨hx, hb, hml, hown, hts, hl0, hX, hbl, hE, hSR, hNC, hOS, hOT⟩ := id C
    have hbA : ¬ (fun q : Nat => s.heap.size ≤ q) b := Nat.not_le.mpr hbl
    have s4 := sub4 L (by omega)
    refine lv_iload hx hb dL_law_23 (lv_at hl 4 rfl) ?_
    refine lv_aload_n hx hb dL_law_25 rfl (lv_at hl 0 rfl) ?_
    refine va_slen hx hb hX hbl hbA hS dL_law_26 ?_
    refine lv_iconst (v := 4) hx hb dL_law_27 (by decide) ?_
    refine lv_isub hx hb dL_law_28 ?_
    refine lv_icmp_gt (tgt := 2163) hx hb dL_law_29 (by decide) (fun _ => ?_) (fun c9 => ?_)
    · refine lv_iconst (v := 1) hx hb dL_law_2163 (by decide) ?_
      refine va_forget (fun q hq => hS.2.2 q hq) ?_
      refine W.widen (k := 601024) (n := 7293034) (by omega) (by omega) ?_
      refine W.base ?_
      exact lw_ret (Drawn.sameBut.refl s.drawn lw_cs) hx hb hr hlocks dL_law_2164
    · have c9 : ¬ (nI L - 4 < x4) := c9
      have hj : 4 * j + 4 ≤ L := by
        rcases Nat.lt_or_ge L 4 with q | q
        · refine absurd (Int32.lt_of_lt_of_le (s4.2 q) ?_) c9
          rw [ex4]
          exact nI_pos' (by omega)
        · rw [s4.1 q, ex4, nI_ltI (by omega) (by omega)] at c9
          omega
      have i0 : vp_in x4 L := by rw [ex4]; exact vp_in_nI (by omega) (by omega)
      have i1 : vp_in (x4 + 1) L := by rw [ex4, nI_1]; exact vp_in_nI (by omega) (by omega)
      have i2 : vp_in (x4 + 2) L := by rw [ex4, show (2 : Int32) = nI 2 from rfl, nI_add]; exact vp_in_nI (by omega) (by omega)
      have i3 : vp_in (x4 + 3) L := by rw [ex4, show (3 : Int32) = nI 3 from rfl, nI_add]; exact vp_in_nI (by omega) (by omega)
      have kont : ∀ (H1 : Heap) (locs1 : List Loc) (n1 n2 : Nat) (ls1 : Array Slot), LI g s aa (j + 1 + 1) H1 locs1 → n1 ≤ cells + 20 → n2 ≤ slots + 100 → lv_has ls1 9 [(0, .ref b), (1, .ref (aa 0)), (2, .ref (aa 49)), (3, .ref (aa 62)), (4, .int x4)] → W p l e room_1 s m #[Value.ref b] below meth c H1 locs1 n1 n2 (lw_Z below #[Value.ref b] s) (F0 m 2157 ls1 []) := by
        intro H1 locs1 n1 n2 ls1 hLI1 hn1 hn2 hl1
        obtain ⟨x4', ex4'⟩ : ∃ y : Int32, y = x4 + 4 := ⟨_, rfl⟩
        refine lv_iinc (v := x4') (lv' := [(4, .int x4'), (0, .ref b), (1, .ref (aa 0)), (2, .ref (aa 49)), (3, .ref (aa 62))]) hx hb dL_law_2157 hl1 (k := 4) rfl (by rw [ex4']; rfl) (by decide) rfl (fun ls hl => ?_)
        refine lv_goto (tgt := 23) hx hb dL_law_2160 (by decide) ?_
        exact ih (j + 1) x4' (by omega) (by omega) (by rw [ex4', ex4, show (4 : Int32) = nI 4 from rfl, nI_add, Nat.mul_succ]) H1 locs1 n1 n2 ls (by omega) (by omega) hLI1 (lv_sub hl [1, 2, 3, 4, 0] rfl)
      refine lv_aload_n hx hb dL_law_32 rfl (lv_at hl 0 rfl) ?_
      refine lv_iload hx hb dL_law_33 (lv_at hl 4 rfl) ?_
      refine va_sld hx hb hX hbl hbA hS i0 dL_law_35 ?_
      refine lv_bipush (v := 63) hx hb dL_law_36 (by decide) ?_
      refine lv_iand hx hb dL_law_38 ?_
      generalize xs x4.toNatClampNeg &&& 63 = v
      by_cases h0 : v = 0
      · refine lv_tableIn (off := 193) (tgt := 232) hx hb dL_law_39 (by rw [h0]; decide) (by rw [h0]; decide) (by rw [h0]; decide) (by decide) ?_
        exact kc_0 C hP hD hS hR (by omega) i1 i2 i3 (by omega) (by omega) hl kont
      by_cases h1 : v = 1
      · refine lv_tableIn (off := 206) (tgt := 245) hx hb dL_law_39 (by rw [h1]; decide) (by rw [h1]; decide) (by rw [h1]; decide) (by decide) ?_
        exact kc_1 C hP hD hS hR (by omega) i1 i2 i3 (by omega) (by omega) hl kont
      by_cases h2 : v = 2
      · refine lv_tableIn (off := 219) (tgt := 258) hx hb dL_law_39 (by rw [h2]; decide) (by rw [h2]; decide) (by rw [h2]; decide) (by decide) ?_
        exact kc_2 C hP hD hS hR (by omega) i1 i2 i3 (by omega) (by omega) hl kont
      by_cases h3 : v = 3
      · refine lv_tableIn (off := 299) (tgt := 338) hx hb dL_law_39 (by rw [h3]; decide) (by rw [h3]; decide) (by rw [h3]; decide) (by decide) ?_
        exact kc_3 C hP hD hS hR (by omega) i1 i2 i3 (by omega) (by omega) hl kont
      by_cases h4 : v = 4
      · refine lv_tableIn (off := 355) (tgt := 394) hx hb dL_law_39 (by rw [h4]; decide) (by rw [h4]; decide) (by rw [h4]; decide) (by decide) ?_
        exact kc_4 C hP hD hS hR (by omega) i1 i2 i3 (by omega) (by omega) hl kont
      by_cases h5 : v = 5
      · refine lv_tableIn (off := 368) (tgt := 407) hx hb dL_law_39 (by rw [h5]; decide) (by rw [h5]; decide) (by rw [h5]; decide) (by decide) ?_
        cases hn with
        | nil =>
          have h9 : lt = none := REL_K hR
          subst h9
          exact kc_5N C hP hD hS hR (by omega) i1 i2 i3 (by omega) (by omega) hl kont
        | cons p0 tt =>
          have hk : OC g (newPC p0 tt :: chP tt) lt (fun q => q ∈ AL aa) s H := REL_K hR
          obtain ⟨la, bef, h9, _⟩ := hk
          subst h9
          exact kc_5S C hP hD hS hR (by omega) i1 i2 i3 (by omega) (by omega) hl kont
      by_cases h6 : v = 6
      · refine lv_tableIn (off := 436) (tgt := 475) hx hb dL_law_39 (by rw [h6]; decide) (by rw [h6]; decide) (by rw [h6]; decide) (by decide) ?_
        exact kc_6 C hP hD hS hR (by omega) i1 i2 i3 (by omega) (by omega) hl kont
      by_cases h7 : v = 7
      · refine lv_tableIn (off := 492) (tgt := 531) hx hb dL_law_39 (by rw [h7]; decide) (by rw [h7]; decide) (by rw [h7]; decide) (by decide) ?_
        exact kc_7 C hP hD hS hR (by omega) i1 i2 i3 (by omega) (by omega) hl kont
      by_cases h8 : v = 8
      · refine lv_tableIn (off := 505) (tgt := 544) hx hb dL_law_39 (by rw [h8]; decide) (by rw [h8]; decide) (by rw [h8]; decide) (by decide) ?_
        exact kc_8 C hP hD hS hR (by omega) i1 i2 i3 (by omega) (by omega) hl kont
      by_cases h9 : v = 9
      · refine lv_tableIn (off := 518) (tgt := 557) hx hb dL_law_39 (by rw [h9]; decide) (by rw [h9]; decide) (by rw [h9]; decide) (by decide) ?_
        cases hn with
        | nil =>
          have h9 : lt = none := REL_K hR
          subst h9
          exact kc_9N C hP hD hS hR (by omega) i1 i2 i3 (by omega) (by omega) hl kont
        | cons p0 tt =>
          have hk : OC g (newPC p0 tt :: chP tt) lt (fun q => q ∈ AL aa) s H := REL_K hR
          obtain ⟨la, bef, h9, _⟩ := hk
          subst h9
          exact kc_9S C hP hD hS hR (by omega) i1 i2 i3 (by omega) (by omega) hl kont
      by_cases h10 : v = 10
      · refine lv_tableIn (off := 562) (tgt := 601) hx hb dL_law_39 (by rw [h10]; decide) (by rw [h10]; decide) (by rw [h10]; decide) (by decide) ?_
        exact kc_10 C hP hD hS hR (by omega) i1 i2 i3 (by omega) (by omega) hl kont
      by_cases h11 : v = 11
      · refine lv_tableIn (off := 598) (tgt := 637) hx hb dL_law_39 (by rw [h11]; decide) (by rw [h11]; decide) (by rw [h11]; decide) (by decide) ?_
        exact kc_11 C hP hD hS hR (by omega) i1 i2 i3 (by omega) (by omega) hl kont
      by_cases h12 : v = 12
      · refine lv_tableIn (off := 634) (tgt := 673) hx hb dL_law_39 (by rw [h12]; decide) (by rw [h12]; decide) (by rw [h12]; decide) (by decide) ?_
        exact kc_12 C hP hD hS hR (by omega) i1 i2 i3 (by omega) (by omega) hl kont
      by_cases h13 : v = 13
      · refine lv_tableIn (off := 658) (tgt := 697) hx hb dL_law_39 (by rw [h13]; decide) (by rw [h13]; decide) (by rw [h13]; decide) (by decide) ?_
        exact kc_13 C hP hD hS hR (by omega) i1 i2 i3 (by omega) (by omega) hl kont
      by_cases h14 : v = 14
      · refine lv_tableIn (off := 671) (tgt := 710) hx hb dL_law_39 (by rw [h14]; decide) (by rw [h14]; decide) (by rw [h14]; decide) (by decide) ?_
        exact kc_14 C hP hD hS hR (by omega) i1 i2 i3 (by omega) (by omega) hl kont
      by_cases h15 : v = 15
      · refine lv_tableIn (off := 739) (tgt := 778) hx hb dL_law_39 (by rw [h15]; decide) (by rw [h15]; decide) (by rw [h15]; decide) (by decide) ?_
        exact kc_15 C hP hD hS hR (by omega) i1 i2 i3 (by omega) (by omega) hl kont
      by_cases h16 : v = 16
      · refine lv_tableIn (off := 795) (tgt := 834) hx hb dL_law_39 (by rw [h16]; decide) (by rw [h16]; decide) (by rw [h16]; decide) (by decide) ?_
        exact kc_16 C hP hD hS hR (by omega) i1 i2 i3 (by omega) (by omega) hl kont
      by_cases h17 : v = 17
      · refine lv_tableIn (off := 839) (tgt := 878) hx hb dL_law_39 (by rw [h17]; decide) (by rw [h17]; decide) (by rw [h17]; decide) (by decide) ?_
        exact kc_17 C hP hD hS hR (by omega) i1 i2 i3 (by omega) (by omega) hl kont
      by_cases h18 : v = 18
      · refine lv_tableIn (off := 926) (tgt := 965) hx hb dL_law_39 (by rw [h18]; decide) (by rw [h18]; decide) (by rw [h18]; decide) (by decide) ?_
        exact kc_18 C hP hD hS hR (by omega) i1 i2 i3 (by omega) (by omega) hl kont
      by_cases h19 : v = 19
      · refine lv_tableIn (off := 939) (tgt := 978) hx hb dL_law_39 (by rw [h19]; decide) (by rw [h19]; decide) (by rw [h19]; decide) (by decide) ?_
        exact kc_19 C hP hD hS hR (by omega) i1 i2 i3 (by omega) (by omega) hl kont
      by_cases h20 : v = 20
      · refine lv_tableIn (off := 952) (tgt := 991) hx hb dL_law_39 (by rw [h20]; decide) (by rw [h20]; decide) (by rw [h20]; decide) (by decide) ?_
        exact kc_20 C hP hD hS hR (by omega) i1 i2 i3 (by omega) (by omega) hl kont
      by_cases h21 : v = 21
      · refine lv_tableIn (off := 996) (tgt := 1035) hx hb dL_law_39 (by rw [h21]; decide) (by rw [h21]; decide) (by rw [h21]; decide) (by decide) ?_
        exact kc_21 C hP hD hS hR (by omega) i1 i2 i3 (by omega) (by omega) hl kont
      by_cases h22 : v = 22
      · refine lv_tableIn (off := 1009) (tgt := 1048) hx hb dL_law_39 (by rw [h22]; decide) (by rw [h22]; decide) (by rw [h22]; decide) (by decide) ?_
        cases hn with
        | nil =>
          have h9 : lt = none := REL_K hR
          subst h9
          exact kc_22N C hP hD hS hR (by omega) i1 i2 i3 (by omega) (by omega) hl kont
        | cons p0 tt =>
          have hk : OC g (newPC p0 tt :: chP tt) lt (fun q => q ∈ AL aa) s H := REL_K hR
          obtain ⟨la, bef, h9, _⟩ := hk
          subst h9
          exact kc_22S C hP hD hS hR (by omega) i1 i2 i3 (by omega) (by omega) hl kont
      by_cases h23 : v = 23
      · refine lv_tableIn (off := 1053) (tgt := 1092) hx hb dL_law_39 (by rw [h23]; decide) (by rw [h23]; decide) (by rw [h23]; decide) (by decide) ?_
        exact kc_23 C hP hD hS hR (by omega) i1 i2 i3 (by omega) (by omega) hl kont
      by_cases h24 : v = 24
      · refine lv_tableIn (off := 1128) (tgt := 1167) hx hb dL_law_39 (by rw [h24]; decide) (by rw [h24]; decide) (by rw [h24]; decide) (by decide) ?_
        exact kc_24 C hP hD hS hR (by omega) i1 i2 i3 (by omega) (by omega) hl kont
      by_cases h25 : v = 25
      · refine lv_tableIn (off := 1196) (tgt := 1235) hx hb dL_law_39 (by rw [h25]; decide) (by rw [h25]; decide) (by rw [h25]; decide) (by decide) ?_
        exact kc_25 C hP hD hS hR (by omega) i1 i2 i3 (by omega) (by omega) hl kont
      by_cases h26 : v = 26
      · refine lv_tableIn (off := 1264) (tgt := 1303) hx hb dL_law_39 (by rw [h26]; decide) (by rw [h26]; decide) (by rw [h26]; decide) (by decide) ?_
        exact kc_26 C hP hD hS hR (by omega) i1 i2 i3 (by omega) (by omega) hl kont
      by_cases h27 : v = 27
      · refine lv_tableIn (off := 1320) (tgt := 1359) hx hb dL_law_39 (by rw [h27]; decide) (by rw [h27]; decide) (by rw [h27]; decide) (by decide) ?_
        exact kc_27 C hP hD hS hR (by omega) i1 i2 i3 (by omega) (by omega) hl kont
      by_cases h28 : v = 28
      · refine lv_tableIn (off := 1376) (tgt := 1415) hx hb dL_law_39 (by rw [h28]; decide) (by rw [h28]; decide) (by rw [h28]; decide) (by decide) ?_
        exact kc_28 C hP hD hS hR (by omega) i1 i2 i3 (by omega) (by omega) hl kont
      by_cases h29 : v = 29
      · refine lv_tableIn (off := 1444) (tgt := 1483) hx hb dL_law_39 (by rw [h29]; decide) (by rw [h29]; decide) (by rw [h29]; decide) (by decide) ?_
        exact kc_29 C hP hD hS hR (by omega) i1 i2 i3 (by omega) (by omega) hl kont
      by_cases h30 : v = 30
      · refine lv_tableIn (off := 1519) (tgt := 1558) hx hb dL_law_39 (by rw [h30]; decide) (by rw [h30]; decide) (by rw [h30]; decide) (by decide) ?_
        exact kc_30 C hP hD hS hR (by omega) i1 i2 i3 (by omega) (by omega) hl kont
      by_cases h31 : v = 31
      · refine lv_tableIn (off := 1575) (tgt := 1614) hx hb dL_law_39 (by rw [h31]; decide) (by rw [h31]; decide) (by rw [h31]; decide) (by decide) ?_
        exact kc_31 C hP hD hS hR (by omega) i1 i2 i3 (by omega) (by omega) hl kont
      by_cases h32 : v = 32
      · refine lv_tableIn (off := 1643) (tgt := 1682) hx hb dL_law_39 (by rw [h32]; decide) (by rw [h32]; decide) (by rw [h32]; decide) (by decide) ?_
        exact kc_32 C hP hD hS hR (by omega) i1 i2 i3 (by omega) (by omega) hl kont
      by_cases h33 : v = 33
      · refine lv_tableIn (off := 1687) (tgt := 1726) hx hb dL_law_39 (by rw [h33]; decide) (by rw [h33]; decide) (by rw [h33]; decide) (by decide) ?_
        exact kc_33 C hP hD hS hR (by omega) i1 i2 i3 (by omega) (by omega) hl kont
      by_cases h34 : v = 34
      · refine lv_tableIn (off := 1731) (tgt := 1770) hx hb dL_law_39 (by rw [h34]; decide) (by rw [h34]; decide) (by rw [h34]; decide) (by decide) ?_
        exact kc_34 C hP hD hS hR (by omega) i1 i2 i3 (by omega) (by omega) hl kont
      by_cases h35 : v = 35
      · refine lv_tableIn (off := 1744) (tgt := 1783) hx hb dL_law_39 (by rw [h35]; decide) (by rw [h35]; decide) (by rw [h35]; decide) (by decide) ?_
        exact kc_35 C hP hD hS hR (by omega) i1 i2 i3 (by omega) (by omega) hl kont
      by_cases h36 : v = 36
      · refine lv_tableIn (off := 1757) (tgt := 1796) hx hb dL_law_39 (by rw [h36]; decide) (by rw [h36]; decide) (by rw [h36]; decide) (by decide) ?_
        exact kc_36 C hP hD hS hR (by omega) i1 i2 i3 (by omega) (by omega) hl kont
      by_cases h37 : v = 37
      · refine lv_tableIn (off := 1801) (tgt := 1840) hx hb dL_law_39 (by rw [h37]; decide) (by rw [h37]; decide) (by rw [h37]; decide) (by decide) ?_
        exact kc_37 C hP hD hS hR (by omega) i1 i2 i3 (by omega) (by omega) hl kont
      by_cases h38 : v = 38
      · refine lv_tableIn (off := 1869) (tgt := 1908) hx hb dL_law_39 (by rw [h38]; decide) (by rw [h38]; decide) (by rw [h38]; decide) (by decide) ?_
        exact kc_38 C hP hD hS hR (by omega) i1 i2 i3 (by omega) (by omega) hl kont
      by_cases h39 : v = 39
      · refine lv_tableIn (off := 1925) (tgt := 1964) hx hb dL_law_39 (by rw [h39]; decide) (by rw [h39]; decide) (by rw [h39]; decide) (by decide) ?_
        exact kc_39 C hP hD hS hR (by omega) i1 i2 i3 (by omega) (by omega) hl kont
      by_cases h40 : v = 40
      · refine lv_tableIn (off := 1981) (tgt := 2020) hx hb dL_law_39 (by rw [h40]; decide) (by rw [h40]; decide) (by rw [h40]; decide) (by decide) ?_
        exact kc_40 C hP hD hS hR (by omega) i1 i2 i3 (by omega) (by omega) hl kont
      by_cases h41 : v = 41
      · refine lv_tableIn (off := 1994) (tgt := 2033) hx hb dL_law_39 (by rw [h41]; decide) (by rw [h41]; decide) (by rw [h41]; decide) (by decide) ?_
        exact kc_41 C hP hD hS hR (by omega) i1 i2 i3 (by omega) (by omega) hl kont
      by_cases h42 : v = 42
      · refine lv_tableIn (off := 2050) (tgt := 2089) hx hb dL_law_39 (by rw [h42]; decide) (by rw [h42]; decide) (by rw [h42]; decide) (by decide) ?_
        exact kc_42 C hP hD hS hR (by omega) i1 i2 i3 (by omega) (by omega) hl kont
      by_cases h43 : v = 43
      · refine lv_tableIn (off := 2063) (tgt := 2102) hx hb dL_law_39 (by rw [h43]; decide) (by rw [h43]; decide) (by rw [h43]; decide) (by decide) ?_
        exact kc_43 C hP hD hS hR (by omega) i1 i2 i3 (by omega) (by omega) hl kont
      by_cases h44 : v = 44
      · refine lv_tableIn (off := 2104) (tgt := 2143) hx hb dL_law_39 (by rw [h44]; decide) (by rw [h44]; decide) (by rw [h44]; decide) (by decide) ?_
        cases hn with
        | nil =>
          have h9 : lt = none := REL_K hR
          subst h9
          exact kc_44N C hP hD hS hR (by omega) i1 i2 i3 (by omega) (by omega) hl kont
        | cons p0 tt =>
          have hk : OC g (newPC p0 tt :: chP tt) lt (fun q => q ∈ AL aa) s H := REL_K hR
          obtain ⟨la, bef, h9, _⟩ := hk
          subst h9
          exact kc_44S C hP hD hS hR (by omega) i1 i2 i3 (by omega) (by omega) hl kont
      refine lv_tableOut (tgt := 2157) hx hb dL_law_39 (by have a0 := tsw_ne (n := 0) h0 (by decide); have a1 := tsw_ne (n := 1) h1 (by decide); have a2 := tsw_ne (n := 2) h2 (by decide); have a3 := tsw_ne (n := 3) h3 (by decide); have a4 := tsw_ne (n := 4) h4 (by decide); have a5 := tsw_ne (n := 5) h5 (by decide); have a6 := tsw_ne (n := 6) h6 (by decide); have a7 := tsw_ne (n := 7) h7 (by decide); have a8 := tsw_ne (n := 8) h8 (by decide); have a9 := tsw_ne (n := 9) h9 (by decide); have a10 := tsw_ne (n := 10) h10 (by decide); have a11 := tsw_ne (n := 11) h11 (by decide); have a12 := tsw_ne (n := 12) h12 (by decide); have a13 := tsw_ne (n := 13) h13 (by decide); have a14 := tsw_ne (n := 14) h14 (by decide); have a15 := tsw_ne (n := 15) h15 (by decide); have a16 := tsw_ne (n := 16) h16 (by decide); have a17 := tsw_ne (n := 17) h17 (by decide); have a18 := tsw_ne (n := 18) h18 (by decide); have a19 := tsw_ne (n := 19) h19 (by decide); have a20 := tsw_ne (n := 20) h20 (by decide); have a21 := tsw_ne (n := 21) h21 (by decide); have a22 := tsw_ne (n := 22) h22 (by decide); have a23 := tsw_ne (n := 23) h23 (by decide); have a24 := tsw_ne (n := 24) h24 (by decide); have a25 := tsw_ne (n := 25) h25 (by decide); have a26 := tsw_ne (n := 26) h26 (by decide); have a27 := tsw_ne (n := 27) h27 (by decide); have a28 := tsw_ne (n := 28) h28 (by decide); have a29 := tsw_ne (n := 29) h29 (by decide); have a30 := tsw_ne (n := 30) h30 (by decide); have a31 := tsw_ne (n := 31) h31 (by decide); have a32 := tsw_ne (n := 32) h32 (by decide); have a33 := tsw_ne (n := 33) h33 (by decide); have a34 := tsw_ne (n := 34) h34 (by decide); have a35 := tsw_ne (n := 35) h35 (by decide); have a36 := tsw_ne (n := 36) h36 (by decide); have a37 := tsw_ne (n := 37) h37 (by decide); have a38 := tsw_ne (n := 38) h38 (by decide); have a39 := tsw_ne (n := 39) h39 (by decide); have a40 := tsw_ne (n := 40) h40 (by decide); have a41 := tsw_ne (n := 41) h41 (by decide); have a42 := tsw_ne (n := 42) h42 (by decide); have a43 := tsw_ne (n := 43) h43 (by decide); have a44 := tsw_ne (n := 44) h44 (by decide); omega) (by decide) ?_
      exact kont _ _ _ _ _ ⟨hn, f, kk, sg, sd, mv, gm, lt, w1, w2, dg, t1, t2, am, fT, kkT, sgT, sdT, mvT, gmT, ltT, w1T, w2T, dgT, t1T, t2T, amT, so, sc, sx, skf, qx, tl, tf, cnt, mf, bk, bs, bf, rk, rs, rf, rn, rmf, kc, krf, kqf, refu, nst, nn, len, pos, gd, ps, sm, fnow, ftri, frep, fway, fbook, fkept, fisk, ffst, flst, fbef, fmov, ftext, fo, hP, hD, hS, REL_mono hR (fun _ _ z => z) (Nat.le_succ _)⟩ (by omega) (by omega) hl
end LOOPL

/-! ===== throws; a position made; the chain's head ===== -/
def chN : List String := ["java/lang/RuntimeException", "java/lang/Exception"]
theorem aw1 : ∀ w ∈ Cond.classLink "HallGuards" 251 "java/lang/IndexOutOfBoundsException" :: Cond.initialized "java/lang/IndexOutOfBoundsException" :: vx_atS "HallGuards" 255 "java/lang/IndexOutOfBoundsException" chN, w ∈ lw_tbl ∧ (goodWord w || okFace w) = true := fun w hw => ⟨(by decide +kernel : ∀ w ∈ Cond.classLink "HallGuards" 251 "java/lang/IndexOutOfBoundsException" :: Cond.initialized "java/lang/IndexOutOfBoundsException" :: vx_atS "HallGuards" 255 "java/lang/IndexOutOfBoundsException" chN, w ∈ lw_tbl) w hw, (by decide +kernel : ∀ w ∈ Cond.classLink "HallGuards" 251 "java/lang/IndexOutOfBoundsException" :: Cond.initialized "java/lang/IndexOutOfBoundsException" :: vx_atS "HallGuards" 255 "java/lang/IndexOutOfBoundsException" chN, (goodWord w || okFace w) = true) w hw⟩
theorem aw2 : ∀ w ∈ Cond.classLink "HallGuards" 86 "java/lang/IllegalArgumentException" :: Cond.initialized "java/lang/IllegalArgumentException" :: vx_atS "HallGuards" 90 "java/lang/IllegalArgumentException" chN, w ∈ lw_tbl ∧ (goodWord w || okFace w) = true := fun w hw => ⟨(by decide +kernel : ∀ w ∈ Cond.classLink "HallGuards" 86 "java/lang/IllegalArgumentException" :: Cond.initialized "java/lang/IllegalArgumentException" :: vx_atS "HallGuards" 90 "java/lang/IllegalArgumentException" chN, w ∈ lw_tbl) w hw, (by decide +kernel : ∀ w ∈ Cond.classLink "HallGuards" 86 "java/lang/IllegalArgumentException" :: Cond.initialized "java/lang/IllegalArgumentException" :: vx_atS "HallGuards" 90 "java/lang/IllegalArgumentException" chN, (goodWord w || okFace w) = true) w hw⟩
theorem aw3 : ∀ w ∈ Cond.classLink "HallGuards" 101 "java/lang/IllegalStateException" :: Cond.initialized "java/lang/IllegalStateException" :: vx_atS "HallGuards" 105 "java/lang/IllegalStateException" chN, w ∈ lw_tbl ∧ (goodWord w || okFace w) = true := fun w hw => ⟨(by decide +kernel : ∀ w ∈ Cond.classLink "HallGuards" 101 "java/lang/IllegalStateException" :: Cond.initialized "java/lang/IllegalStateException" :: vx_atS "HallGuards" 105 "java/lang/IllegalStateException" chN, w ∈ lw_tbl) w hw, (by decide +kernel : ∀ w ∈ Cond.classLink "HallGuards" 101 "java/lang/IllegalStateException" :: Cond.initialized "java/lang/IllegalStateException" :: vx_atS "HallGuards" 105 "java/lang/IllegalStateException" chN, (goodWord w || okFace w) = true) w hw⟩
section BASE7
variable {p : Program} {l : Launch} {e : Env} {R : Room} {s : State} {m : MethodId} {args : Array Value} {below : List Frame} {meth : Method} {c : Code} {H H0 : Heap} {locs : List Loc} {cells slots : Nat} {Q : State → Prop}
variable {y : MethodName} {bytes cc : ByteArray} {maxL nL mc ms n idx pc fr lo k na : Nat} {ret : Option FieldType} {own : String} {b : Addr} {As rest st0 : List Value} {ls : Array Slot} {g : GE} {cs ws wr : va_W} {cs' csx : Nat → va_W} {A A1 : Nat → Prop} {O : OX} {o : Option Value}
theorem xthr {q : Nat × String} (hq : q ∈ strs) {cls : String} {ik ic : Nat} (hkk : k ≠ 0) (hkc : cls = exn k) (aw : ∀ w ∈ Cond.classLink "HallGuards" ik cls :: Cond.initialized cls :: vx_atS "HallGuards" ic cls chN, w ∈ lw_tbl ∧ (goodWord w || okFace w) = true) (hcl : Bundle.fit cls = true)
    (hx : p.tables.exec = Jvm.exec) (hb : c.code = cc) (hl0 : l.stackTraces = false) (hml : c.maxLocals = nL) (hlocks : meth.locks = false) (hex : ∀ x ∈ c.exceptionTable.toList, False) (hown : s.vm.findClass "HallGuards" = some m.cls) (hts : ∀ w ∈ TB, w.before args s = true) (hSR : SR s) (hO : OT A s s.heap) (hna : s.heap.size ≤ na) (hP : va_P g.1 vwCl (csx na) H) (hD : va_D A (csx na)) (hS : va_S A s.heap H locs) (hsize : ls.size = nL) (hrest : (rest.map fun v => v.category).sum ≤ 8)
    (hR : 6 ≤ R.frames ∧ 90 ≤ R.locals) (hf : cells + 1 ≤ R.cells ∧ slots + 6 ≤ R.slots) (hm : cells + 1 ≤ mc ∧ slots + 6 ≤ ms)
    (d0 : decode cc pc = .ok (.new ik, 3)) (d3 : decode cc (pc + 3) = .ok (.dup, 1)) (hd : (decode cc (pc + 4) = .ok (.ldc q.1, 2) ∧ decode cc (pc + 6) = .ok (.invokespecial ic, 3) ∧ decode cc (pc + 9) = .ok (.athrow, 1)) ∨ (decode cc (pc + 4) = .ok (.ldc_w q.1, 3) ∧ decode cc (pc + 7) = .ok (.invokespecial ic, 3) ∧ decode cc (pc + 10) = .ok (.athrow, 1))) :
    W p l e R s m args below meth c H locs cells slots (vx_MQ below (qX g k o cs' A) (xX g k csx A) args s mc ms A) (F0 m pc ls rest) := by
  obtain ⟨sa, hstr⟩ := hSR.1 q hq
  have hgood : ∀ w ∈ Cond.classLink "HallGuards" ik cls :: Cond.initialized cls :: vx_atS "HallGuards" ic cls chN, vx_ot w = true := fun w hw => by
    have h9 := (aw w hw).2
    rw [Bool.or_eq_true] at h9
    unfold vx_ot
    rw [Bool.or_eq_true]
    rcases h9 with h9 | h9
    · exact Or.inr h9
    · exact Or.inl (okFace_tab h9)
  have hwd : ∀ w ∈ Cond.classLink "HallGuards" ik cls :: Cond.initialized cls :: vx_atS "HallGuards" ic cls chN, w.before args s = true := fun w hw => by
    have h9 := (aw w hw).2
    rw [Bool.or_eq_true] at h9
    rcases h9 with h9 | h9
    · exact hts w (List.mem_filter.mpr ⟨(aw w hw).1, h9⟩)
    · exact va_Nw.use (okFace_tab h9) (hSR.2 w (List.mem_filter.mpr ⟨(aw w hw).1, h9⟩))
  have hX : ∀ t : State, s.vm.Alike t.vm → H.size ≤ t.heap.size → (∀ q : Nat, q < H.size → t.heap[q]? = H[q]?) → xX g k csx A cls s t := fun t _ hz ho =>
    ⟨⟨hkk, hkc, na, hna, hP.kept (fun k q hk => ho q.1 ((hP k q hk).lt)), hD⟩, Nat.le_trans hS.1 hz, fun q h1 h2 => (ho q (Nat.lt_of_lt_of_le h1 hS.1)).trans (hS.2.1 q h1 h2)⟩
  have hnames : ∀ n ∈ chN, Bundle.fit n = true := by decide +kernel
  rcases hd with ⟨d4, d6, d9⟩ | ⟨d4, d7, d10⟩
  · exact vx_throwS hx hb hl0 hown hcl hnames (hwd _ List.mem_cons_self) (hwd _ (List.mem_cons_of_mem _ List.mem_cons_self)) hstr (fun w hw => hwd w (List.mem_cons_of_mem _ (List.mem_cons_of_mem _ hw))) hgood hO.1 hO.2 hS (hsize.trans hml.symm) d0 d3 d4 d6 d9 (fun x hx => (hex x hx).elim) (by show 2 + 3 < _; omega) (by show _ + (13 * (2 + 1) + 43) ≤ _; omega) hf.1 hf.2 hlocks hX hS.2.2 hm.1 hm.2
  · exact vx_throwSW hx hb hl0 hown hcl hnames (hwd _ List.mem_cons_self) (hwd _ (List.mem_cons_of_mem _ List.mem_cons_self)) hstr (fun w hw => hwd w (List.mem_cons_of_mem _ (List.mem_cons_of_mem _ hw))) hgood hO.1 hO.2 hS (hsize.trans hml.symm) d0 d3 d4 d7 d10 (fun x hx => (hex x hx).elim) (by show 2 + 3 < _; omega) (by show _ + (13 * (2 + 1) + 43) ≤ _; omega) hf.1 hf.2 hlocks hX hS.2.2 hm.1 hm.2
theorem OC_head {x : PC} {t : List PC} {la : Nat} (hO : OC g (x :: t) (some la) A s s.heap) : ∃ eb : Option Nat, ∀ (H : Heap) (locs : List Loc), va_S A s.heap H locs → va_P g.1 vwCl [(la, pcell eb t.length x)] H := by
  obtain ⟨a, eb, h1, h2, h3, -⟩ := hO
  cases h1
  refine ⟨eb, fun H locs hS => h2.kept (fun k q hk => ?_)⟩
  have hz : k < 1 := (List.getElem?_eq_some_iff.mp hk).1
  rw [show k = 0 by omega] at hk
  cases hk
  exact hS.2.1 la ((h2 0 _ rfl).lt) h3
theorem OC_nil {U : State} : OC g [] none A U H := rfl
theorem OZ_nil {zc zp : Nat} {ch : List PC} {lat : Option Nat} {U : State} (h : OZ g zc zp ch lat A U H) : OZ g zc zp [] none A U H := ⟨h.1, h.2.1, rfl⟩
theorem pcell_eq {r : Int64 × Int64 × Int32 × Option Nat × Int32 × Int32} {lt : Option Nat} {n : Nat} (h : r.2.2.2.1 = lt ∧ r.2.2.2.2.1 = lenI n) : (Sum.inr (5, [.long r.1, .long r.2.1, .int r.2.2.1, va_rf r.2.2.2.1, .int r.2.2.2.2.1, .int r.2.2.2.2.2]) : va_E) = pcell lt n (r.1, r.2.1, r.2.2.1, r.2.2.2.2.2) := by
  rw [h.1, h.2]; rfl
/-- the chain with the new position ahead, as a callee sees it -/
theorem OC_push {x : PC} {t : List PC} {la : Option Nat} {nx : Nat} (hO : OC g t la A s s.heap) (hP : va_P g.1 vwCl ws H) (hD : va_D A ws) (hS : va_S A s.heap H locs) (hA : ∀ q : Nat, s.heap.size ≤ q → A q) (j : Nat) (hj : ws[j]? = some (nx, pcell la t.length x)) (isC : List Nat) (hC : isC.map (fun i => ws[i]?) = cs.map some) (hni : j ∉ isC) {U : State} (hv : s.vm.Alike U.vm) : OC g (x :: t) (some nx) (va_A cs H.size) U H := by
  have hF := va_free (wc := cs) hD hS hA isC hC
  refine ⟨nx, la, rfl, ?_, ?_, (OC_ok g t la).to hO hS hv hF⟩
  · intro k q hk
    have hz : k < 1 := (List.getElem?_eq_some_iff.mp hk).1
    rw [show k = 0 by omega] at hk
    cases hk
    exact hP j _ hj
  · rintro (⟨i, e, hi⟩ | hz)
    · have h1 : (cs.map some)[i]? = some (some (nx, e)) := by rw [List.getElem?_map, hi]; rfl
      rw [← hC, List.getElem?_map] at h1
      cases hi2 : isC[i]? with
      | none => rw [hi2] at h1; cases h1
      | some i2 =>
        rw [hi2] at h1
        have h2 : ws[i2]? = some (nx, e) := Option.some.inj h1
        have h3 := hD.1 i2 j _ _ h2 hj rfl
        exact hni (h3 ▸ List.mem_of_getElem? hi2)
    · exact absurd ((hP j _ hj).lt) (Nat.not_lt.mpr hz)
/-- 'new' of a position -/
theorem newP {ik : Nat} (hx : p.tables.exec = Jvm.exec) (hb : c.code = cc) (hts : ∀ w ∈ TB, w.before args s = true) (hown : s.vm.findClass own = some m.cls) (hcl : Cond.classLink own ik "HallGuards$Position" ∈ TB) (hin : ∀ w ∈ u_ws RX5 TX5 6, w ∈ TB) (hinst : Cond.instantiable "HallGuards$Position" 6 ∈ TB) (hini : Cond.initialized "HallGuards$Position" ∈ TB) (hE : EV g s) (hP : va_P g.1 vwCl ws H) (hD : va_D A ws) (hS : va_S A s.heap H locs) (hA : ∀ q : Nat, s.heap.size ≤ q → A q) (hf : cells + 1 ≤ R.cells ∧ slots + 6 ≤ R.slots) (hdg : decode cc pc = .ok (.new ik, 3))
    (kk : ∀ (q : Nat) (H1 : Heap), s.heap.size ≤ q → va_P g.1 vwCl (ws ++ [(q, .inr (5, [.long 0, .long 0, .int 0, .null, .int 0, .int 0]))]) H1 → va_D A (ws ++ [(q, .inr (5, [.long 0, .long 0, .int 0, .null, .int 0, .int 0]))]) → va_S A s.heap H1 locs → W p l e R s m args below meth c H1 locs (cells + 1) (slots + 6) Q (F0 m (pc + 3) ls (.ref q :: rest))) : W p l e R s m args below meth c H locs cells slots Q (F0 m pc ls rest) := by
  have hKn := hE.1.1 5 _ rfl
  refine W.newcK hx hb hown (hts _ hcl) (hts _ hinst) (hts _ hini) rfl hdg hf.1 hf.2 hKn.2.1 rfl fun H1 kC hkC e1 z1 o1 => ?_
  have hk : ∀ (k : Nat) (x : Nat × va_E), ws[k]? = some x → H1[x.1]? = H[x.1]? := fun k x hx => o1 x.1 ((hP k x hx).lt)
  refine kk H.size H1 hS.1 ((hP.kept hk).app (fun k x hx => ?_)) (hD.push hP rfl (hA _ hS.1)) ⟨Nat.le_trans hS.1 (by omega), fun x h1 h2 => (o1 x (Nat.lt_of_lt_of_le h1 hS.1)).trans (hS.2.1 x h1 h2), hS.2.2⟩
  have hz : k < 1 := (List.getElem?_eq_some_iff.mp hx).1
  rw [show k = 0 by omega] at hx
  cases hx
  exact ⟨_, rfl, (u_born tyX5 hts hin hKn hkC e1 tyX5_ok).to (by decide)⟩
/-- a call that writes, of a method that has a fact about what lies outside, which is had here in the heap as it is now -/
theorem wVH {o1 : Option Value} {cs1 : va_W} {ci q0 : Nat} {q : vw_C} {fs : List Value} (S : CallFix p m c cc nL s args TB own) (hE : EV g s) (hM : WMO l y bytes maxL ret fr lo g cs O (.ref b :: As) o1 cs1) (hk : OK O) (hO : ∀ U : State, s.vm.Alike U.vm → O (va_A cs H.size) U H) (cf : CF y bytes maxL ret n) (hin : Cond.instanceMethod y ∈ TB) (hse : Cond.selects y.cls y y ∈ TB) (hl : Cond.methodLink own idx y ∈ TB) (hR : fr + 1 ≤ R.frames ∧ 8 + (maxL + 11) + lo ≤ R.locals) (hP : va_P g.1 vwCl ws H) (hD : va_D A ws) (hS : va_S A H0 H locs) (hA : ∀ q : Nat, H0.size ≤ q → A q) (isC isR : List Nat) (hC : isC.map (fun i => ws[i]?) = cs.map some) (hR2 : isR.map (fun i => ws[i]?) = wr.map some) (hn2 : va_nd isR = true ∧ va_nd isC = true) (hdis : ∀ i ∈ isR, i ∉ isC) (hc : vwCl[ci]? = some q) (hq : y.cls = q.1) (he : cs[q0]? = some (b, .inr (ci, fs))) (hn : As.length = n) (hsize : ls.size = nL) (hstack : st0 = As.reverse ++ .ref b :: rest) (hW : (rest.map fun v => v.category).sum ≤ 8) (hdg : decode cc pc = .ok (.invokevirtual idx, 3)) (hf : cells ≤ R.cells ∧ slots ≤ R.slots)
    (kk : ∀ (H1 : Heap) (locs1 : List Loc), va_P g.1 vwCl (wr ++ cs1) H1 → va_D A (wr ++ cs1) → va_S A H0 H1 locs1 → W p l e R s m args below meth c H1 locs1 cells slots Q (F0 m (pc + 3) ls (o1.toList ++ rest))) : W p l e R s m args below meth c H locs cells slots Q (F0 m pc ls st0) :=
  rcW (runV_TB S (hM H.size) rfl rfl cf hin hse hl hR (BWO_blind hk) (by rw [hq]; exact recv_TB hE (sub_P hP hC) hc he) (fun U hU hW => ⟨⟨by rw [hU], hE.warm hW, by rw [hU]; exact sub_P hP hC, sub_D hD hn2.2 hC⟩, by rw [hU]; exact hO U hW.alike⟩) hn hsize hstack hW hdg hf) hP hD hS hA isC isR hC hR2 hn2.1 hdis kk
theorem wIO {o1 : Option Value} {cs1 : va_W} (S : CallFix p m c cc nL s args TB own) (hE : EV g s) (hM : WMO l y bytes maxL none fr lo g cs O (.ref b :: As) o1 cs1) (hk : OK O) (hO : O A s s.heap) (cf : CF y bytes maxL none n) (hin : Cond.instanceMethod y ∈ TB) (hnm : y.name = "<init>") (hl : Cond.methodLink own idx y ∈ TB) (hR : fr + 1 ≤ R.frames ∧ 8 + (maxL + 11) + lo ≤ R.locals) (hP : va_P g.1 vwCl ws H) (hD : va_D A ws) (hS : va_S A s.heap H locs) (hA : ∀ q : Nat, s.heap.size ≤ q → A q) (isC isR : List Nat) (hC : isC.map (fun i => ws[i]?) = cs.map some) (hR2 : isR.map (fun i => ws[i]?) = wr.map some) (hn2 : va_nd isR = true ∧ va_nd isC = true) (hdis : ∀ i ∈ isR, i ∉ isC) (hn : As.length = n) (hsize : ls.size = nL) (hstack : st0 = As.reverse ++ .ref b :: rest) (hW : (rest.map fun v => v.category).sum ≤ 8) (hdg : decode cc pc = .ok (.invokespecial idx, 3)) (hf : cells ≤ R.cells ∧ slots ≤ R.slots)
    (kk : ∀ (H1 : Heap) (locs1 : List Loc), va_P g.1 vwCl (wr ++ cs1) H1 → va_D A (wr ++ cs1) → va_S A s.heap H1 locs1 → W p l e R s m args below meth c H1 locs1 cells slots Q (F0 m (pc + 3) ls (o1.toList ++ rest))) : W p l e R s m args below meth c H locs cells slots Q (F0 m pc ls st0) :=
  rcW (va_runI S (hM H.size) ⟨callB_of n S.2.2.2.2 (goodTB cf.1) rfl rfl rfl (S.2.2.2.2 _ cf.2.1) (S.2.2.2.2 _ hl) cf.2.2 hR, hnm, S.2.2.2.2 _ hin⟩ ⟨BWO_blind hk, fun U hU hW => ⟨rfl, ⟨by rw [hU], hE.warm hW, by rw [hU]; exact sub_P hP hC, sub_D hD hn2.2 hC⟩, by rw [hU]; exact hk.to hO hS hW.alike (va_free hD hS hA isC hC)⟩⟩ rfl hn hsize hstack (lv_room hW) hdg hf) hP hD hS hA isC isR hC hR2 hn2.1 hdis kk
end BASE7
/-! ===== how often a position was there, by the nearest like one ===== -/
def tin : List PC → Int64 → Int64 → Int32 → Int32
  | [], _, _, _ => 0
  | x :: t, p, q, d => if x.1 = p ∧ x.2.1 = q ∧ x.2.2.1 = d then x.2.2.2 else tin t p q d

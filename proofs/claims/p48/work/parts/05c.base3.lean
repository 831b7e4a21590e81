/-! ===== facts about what lies outside (statics, positions that are never written again): contracts that have them ===== -/
abbrev OX : Type := (Nat → Prop) → State → Heap → Prop
def OK (O : OX) : Prop := (∀ (A : Nat → Prop) (u U : State) (H : Heap), u.vm.Alike U.vm → O A u H → O A U H) ∧ (∀ (A : Nat → Prop) (U : State) (H H1 : Heap), (∀ a : Nat, a < H.size → ¬ A a → H1[a]? = H[a]?) → O A U H → O A U H1) ∧ (∀ (A B : Nat → Prop) (U : State) (H : Heap), (∀ q, B q → A q) → O A U H → O B U H)
def noA : Nat → Prop := fun _ => False
theorem OK.to {O : OX} (h : OK O) {A B : Nat → Prop} {s U : State} {H : Heap} {locs : List Loc} (hO : O A s s.heap) (hS : va_S A s.heap H locs) (hW : s.vm.Alike U.vm) (hB : ∀ q, B q → A q) : O B U H := h.2.2 A B U H hB (h.1 A s U H hW (h.2.1 A s s.heap H hS.2.1 hO))
def OAnd (O1 O2 : OX) : OX := fun A U H => O1 A U H ∧ O2 A U H
theorem OK.and {O1 O2 : OX} (h1 : OK O1) (h2 : OK O2) : OK (OAnd O1 O2) := ⟨fun A u U H hv h => ⟨h1.1 A u U H hv h.1, h2.1 A u U H hv h.2⟩, fun A U H H1 hq h => ⟨h1.2.1 A U H H1 hq h.1, h2.2.1 A U H H1 hq h.2⟩, fun A B U H hq h => ⟨h1.2.2 A B U H hq h.1, h2.2.2 A B U H hq h.2⟩⟩
/-- a row of ints that nobody writes: at least its first cells, and the length that the machine tells -/
def XT (b L : Nat) (xs : Nat → Int32) (U : State) (H : Heap) : Prop := ∃ scr : Cell, H[b]? = some scr ∧ U.isArrayOf scr .int ∧ scr.vm ≠ .unknown ∧ L ≤ scr.slots.size ∧ scr.slots.size.toInt32 = Int32.ofNat L ∧ ∀ j : Nat, j < L → scr.slots[j]? = some (.int (xs j))
theorem XT.lt {b L : Nat} {xs : Nat → Int32} {U : State} {H : Heap} (h : XT b L xs U H) : b < H.size := by
  obtain ⟨scr, h1, -⟩ := h
  exact (Array.getElem?_eq_some_iff.mp h1).1
theorem XT.kept {b L : Nat} {xs : Nat → Int32} {U : State} {H H1 : Heap} (h : XT b L xs U H) (hq : H1[b]? = H[b]?) : XT b L xs U H1 := by
  obtain ⟨scr, h1, h2⟩ := h
  exact ⟨scr, hq.trans h1, h2⟩
theorem XT.moved {b L : Nat} {xs : Nat → Int32} {u U : State} {H : Heap} (hvm : u.vm.Alike U.vm) (h : XT b L xs u H) : XT b L xs U H := by
  obtain ⟨scr, h1, h2, h3⟩ := h
  exact ⟨scr, h1, State.isArrayOf_alike hvm h2, h3⟩
section XTL
variable {p : Program} {l : Launch} {e : Env} {R : Room} {s : State} {m : MethodId} {args : Array Value} {below : List Frame} {meth : Method} {c : Code} {H H0 : Heap} {locs : List Loc} {cells slots : Nat} {Q : State → Prop}
variable {cc : ByteArray} {pc : Nat} {ls : Array Slot} {rest : List Value} {D : va_G} {cl : List vw_C} {A : Nat → Prop} {a b L : Nat} {xs : Nat → Int32} {tys : List (ClassId × FieldType)} {ws : va_W}
theorem xt_sld (hx : p.tables.exec = Jvm.exec) (hb : c.code = cc) (hX : XT b L xs s H0) (hbl : b < H0.size) (hbA : ¬ A b) (hS : va_S A H0 H locs) {i : Int32} (hin : vp_in i L) (hdg : decode cc pc = .ok (.iaload, 1))
    (kk : W p l e R s m args below meth c H locs cells slots Q (F0 m (pc + 1) ls (.int (xs i.toNatClampNeg) :: rest))) : W p l e R s m args below meth c H locs cells slots Q (F0 m pc ls (.int i :: .ref b :: rest)) := by
  obtain ⟨scr, h1, h2, h3, h4, h5, h6⟩ := hX
  have h7 : i.toNatClampNeg < L := Nat.not_le.mp fun q => hin (Or.inr q)
  refine W.iald (v := .int (xs i.toNatClampNeg)) hx hb ((hS.2.1 b hbl hbA).trans h1) h2 h3 (fun q => ?_) (h6 _ h7) rfl rfl hdg kk
  rcases q with q | q
  · exact hin (Or.inl q)
  · exact absurd (Nat.lt_of_lt_of_le h7 h4) (Nat.not_lt.mpr q)
theorem xt_slen (hx : p.tables.exec = Jvm.exec) (hb : c.code = cc) (hX : XT b L xs s H0) (hbl : b < H0.size) (hbA : ¬ A b) (hS : va_S A H0 H locs) (hdg : decode cc pc = .ok (.arraylength, 1))
    (kk : W p l e R s m args below meth c H locs cells slots Q (F0 m (pc + 1) ls (.int (Int32.ofNat L) :: rest))) : W p l e R s m args below meth c H locs cells slots Q (F0 m pc ls (.ref b :: rest)) := by
  obtain ⟨scr, h1, h2, h3, h4, h5, h6⟩ := hX
  exact W.alen (n := Int32.ofNat L) hx hb ((hS.2.1 b hbl hbA).trans h1) h2 h5 rfl rfl hdg kk
/-- all 49 of such a row copied into a row of 49 -/
theorem xt_copy (hx : p.tables.exec = Jvm.exec) (hb : c.code = cc) (hml : c.maxLocals = ls.size) {own : String} {idx : Nat} (hown : s.vm.findClass own = some m.cls) (hl : (Cond.methodLink own idx arraycopyName).before args s = true) (hnat : (Cond.native arraycopyName).before args s = true) (hst : (Cond.static arraycopyName).before args s = true) (hin : (Cond.initialized "java/lang/System").before args s = true)
    (hK : va_K D cl tys s) (hP : va_P D cl ws H) (hD : va_D A ws) (hS : va_S A s.heap H locs) (hX : XT b 49 xs s s.heap) (hbl : b < s.heap.size) (hbA : ¬ A b) (q1 t1 : Nat) {c1 : ClassId} {f : Nat → Int32} (ha : ws[q1]? = some (a, .inl (c1, 49, .inl f))) (ht : tys[t1]? = some (c1, .int))
    (hR : 1 ≤ R.frames) (hR2 : (rest.map fun v => v.category).sum + (nativeFrameWords "java/lang/System" "arraycopy" 5 + 11) ≤ R.locals) (hdg : decode cc pc = .ok (.invokestatic idx, 3))
    (kk : ∀ (H1 : Heap) (locs1 : List Loc), va_P D cl (ws.set q1 (a, .inl (c1, 49, .inl (va_cpy xs f (0 : Int32).toNatClampNeg (0 : Int32).toNatClampNeg (49 : Int32).toNatClampNeg)))) H1 → va_D A (ws.set q1 (a, .inl (c1, 49, .inl (va_cpy xs f (0 : Int32).toNatClampNeg (0 : Int32).toNatClampNeg (49 : Int32).toNatClampNeg)))) → va_S A s.heap H1 locs1 → W p l e R s m args below meth c H1 locs1 cells slots Q (F0 m (pc + 3) ls rest)) : W p l e R s m args below meth c H locs cells slots Q (F0 m pc ls (.int 49 :: .int 0 :: .ref a :: .int 0 :: .ref b :: rest)) := by
  intro T hT X
  obtain ⟨scr, s1, ⟨s2, k0, hk0, m0, hkk0⟩, s3, s4, s5, s6⟩ := hX
  have hA : A a := hD.2 q1 _ ha
  have g0 : H[b]? = some scr := (hS.2.1 b hbl hbA).trans s1
  have g1 : H[a]? = some (vp_cell c1 (49, .inl f)) := hP q1 _ ha
  obtain ⟨_, k1, hk1, m1, hkk1⟩ := (hK.2 t1 _ ht).1 49 (fun j => .int (f j))
  have n0 : (0 : Int32).toInt = 0 := by decide
  have n9 : (49 : Int32).toInt = 49 := by decide
  have z9 : (49 : Int32).toNatClampNeg = 49 := by decide
  have z0 : (0 : Int32).toNatClampNeg = 0 := by decide
  obtain ⟨vm', X', step⟩ := X.arraycopy hx hown hl hnat hst hin (src := b) (dst := a) (cs := scr) (cd := vp_cell c1 (49, .inl f)) (srcPos := 0) (destPos := 0) (n := 49) (by rw [hT]; exact g0) (by rw [hT]; exact g1)
    s2 (fun _ h => by cases h) s3 (fun h => by cases h) hk0 hk1 hkk0 hkk1 (by simp [refKind]) (by decide) (by decide) (by decide)
    (by rw [n0, n9]; omega) (by rw [n0, n9]; show ¬ _ > ((arrV c1 49 (fun j => .int (f j))).slots.size : Int); rw [arrV_size]; omega)
    (fun _ _ i hi => by
      have e9 : scr.slots.getD ((0 : Int32).toNatClampNeg + i) .null = .int (xs ((0 : Int32).toNatClampNeg + i)) := by
        rw [Array.getD_eq_getD_getElem?, s6 _ (by rw [z0]; rw [z9] at hi; omega)]
        rfl
      exact ⟨by rw [e9]; rfl, by rw [e9]; exact trivial⟩)
    (g := F0 m pc ls (.int 49 :: .int 0 :: .ref a :: .int 0 :: .ref b :: rest)) rfl (by rw [hml]) (rest := rest) rfl (by rw [hb]; exact hdg) hR (by show 2 * 0 + _ + _ ≤ _; omega)
  generalize hw : va_cpy xs f (0 : Int32).toNatClampNeg (0 : Int32).toNatClampNeg (49 : Int32).toNatClampNeg = w at kk
  have e1 : copied scr (vp_cell c1 (49, .inl f)) 0 0 49 = vp_cell c1 (49, .inl w) := by rw [← hw]; exact va_copiedX (fun z => .int z) scr c1 xs f s6 (by decide)
  rw [e1] at X' step
  have hlt := (Array.getElem?_eq_some_iff.mp g1).1
  have hh : ((T.setVm vm').setCell a (vp_cell c1 (49, .inl w))).heap = H.setIfInBounds a (vp_cell c1 (49, .inl w)) := by rw [← hT]; rfl
  have oq : ∀ q : Nat, q ≠ a → (H.setIfInBounds a (vp_cell c1 (49, .inl w)))[q]? = H[q]? := fun q hq => by simp [Array.getElem?_setIfInBounds, Ne.symm hq]
  have hP1 : va_P D cl (ws.set q1 (a, .inl (c1, 49, .inl w))) (H.setIfInBounds a (vp_cell c1 (49, .inl w))) := hP.set hD ha (show (H.setIfInBounds a (vp_cell c1 (49, .inl w)))[a]? = some _ by simp [Array.getElem?_setIfInBounds, hlt]) oq
  obtain ⟨t, a1, b1⟩ := kk _ _ hP1 (hD.set ha) ⟨by simp; exact hS.1, fun q y1 y2 => (oq q (fun z => y2 (z ▸ hA))).trans (hS.2.1 q y1 y2), fun q hq => by
      rcases List.mem_append.mp hq with h | h
      · exact hS.2.2 q h
      · obtain ⟨z, _, hz⟩ := List.mem_map.mp h
        exact hz ▸ hA⟩ _ hh X'
  exact ⟨t, step t a1, b1⟩
end XTL
/-- the class's own two static rows -/
def fCO (k : Nat) : Int32 := if k = 0 then 0 else if k = 1 then 6 else if k = 2 then 42 else 48
def fPI (k : Nat) : Int32 := if k = 3 then 1 else if k = 10 then 1 else if k = 17 then 2 else if k = 21 then 1 else if k = 22 then 1 else if k = 23 then 2 else if k = 24 then 3 else if k = 25 then 2 else if k = 26 then 1 else if k = 27 then 1 else if k = 31 then 2 else if k = 38 then 1 else if k = 45 then 1 else 0
def OS (zc zp : Nat) : OX := fun A U H => (va_Z "HallGuards" "CORNERS" "[I" (.ref zc) A U H ∧ XT zc 4 fCO U H ∧ zc < H.size ∧ ¬ A zc) ∧ (va_Z "HallGuards" "PIECES_SET_UP" "[I" (.ref zp) A U H ∧ XT zp 49 fPI U H ∧ zp < H.size ∧ ¬ A zp)
theorem OS_ok (zc zp : Nat) : OK (OS zc zp) :=
  ⟨fun A u U H hv h => ⟨⟨h.1.1.moved hv, h.1.2.1.moved hv, h.1.2.2⟩, ⟨h.2.1.moved hv, h.2.2.1.moved hv, h.2.2.2⟩⟩,
   fun A U H H1 hq h => by
     have x1 := h.1.2.1.kept (hq zc h.1.2.2.1 h.1.2.2.2)
     have x2 := h.2.2.1.kept (hq zp h.2.2.2.1 h.2.2.2.2)
     exact ⟨⟨h.1.1.kept hq, x1, XT.lt x1, h.1.2.2.2⟩, ⟨h.2.1.kept hq, x2, XT.lt x2, h.2.2.2.2⟩⟩,
   fun A B U H hq h => ⟨⟨h.1.1.narrow hq, h.1.2.1, h.1.2.2.1, fun z => h.1.2.2.2 (hq _ z)⟩, ⟨h.2.1.narrow hq, h.2.2.1, h.2.2.2.1, fun z => h.2.2.2.2 (hq _ z)⟩⟩⟩
/-- cells that are read alone, and lie apart -/
def OP (g : GE) (pl : va_W) : OX := fun A _ H => va_P g.1 vwCl pl H ∧ ∀ (k : Nat) (q : Nat × va_E), pl[k]? = some q → ¬ A q.1
theorem OP_ok (g : GE) (pl : va_W) : OK (OP g pl) :=
  ⟨fun _ _ _ _ _ h => h, fun A U H H1 hq h => ⟨h.1.kept (fun k q hk => hq q.1 ((h.1 k q hk).lt) (h.2 k q hk)), h.2⟩, fun A B U H hq h => ⟨h.1, fun k q hk z => h.2 k q hk (hq _ z)⟩⟩
def BPO (g : GE) (cs : va_W) (O : OX) : State → Prop := fun U => BP g cs U ∧ O noA U U.heap
theorem BPO_blind {g : GE} {cs : va_W} {O : OX} {av : List Value} (hk : OK O) : FrameBlind (va_Pc av (BPO g cs O)) := fun a U g' mk h => ⟨h.1, ⟨EV.same (u := U) (U := U.calling g' mk a) rfl h.2.1.1, h.2.1.2⟩, hk.1 noA U (U.calling g' mk a) U.heap (Vm.Alike.refl _) h.2.2⟩
def BWO (g : GE) (cs : va_W) (sz : Nat) (O : OX) : State → Prop := fun U => BW g cs sz U ∧ O (va_A cs sz) U U.heap
theorem BWO_blind {g : GE} {cs : va_W} {sz : Nat} {O : OX} {av : List Value} (hk : OK O) : FrameBlind (va_Pc av (BWO g cs sz O)) := fun a U g' mk h => ⟨h.1, ⟨h.2.1.1, EV.same (u := U) (U := U.calling g' mk a) rfl h.2.1.2.1, h.2.1.2.2⟩, hk.1 (va_A cs sz) U (U.calling g' mk a) U.heap (Vm.Alike.refl _) h.2.2⟩
def PIO (l : Launch) (y : MethodName) (bytes : ByteArray) (maxL : Nat) (ret : Option FieldType) (fr lo : Nat) (g : GE) (cs : va_W) (O : OX) (As : List Value) (v : Int32) : Prop := Met l y (.code y bytes maxL ret :: TB) { frames := fr, cells := 0, slots := 0, locals := lo } (va_Pc As (BPO g cs O)) (qI v) 0 0 noF
def PJO (l : Launch) (y : MethodName) (bytes : ByteArray) (maxL : Nat) (ret : Option FieldType) (fr lo : Nat) (g : GE) (cs : va_W) (O : OX) (As : List Value) (v : Int64) : Prop := Met l y (.code y bytes maxL ret :: TB) { frames := fr, cells := 0, slots := 0, locals := lo } (va_Pc As (BPO g cs O)) (qJ v) 0 0 noF
def WMO (l : Launch) (y : MethodName) (bytes : ByteArray) (maxL : Nat) (ret : Option FieldType) (fr lo : Nat) (g : GE) (cs : va_W) (O : OX) (As : List Value) (o : Option Value) (cs' : va_W) : Prop := ∀ sz : Nat, Met l y (.code y bytes maxL ret :: TB) { frames := fr, cells := 0, slots := 0, locals := lo } (va_Pc As (BWO g cs sz O)) (qW g o cs' (va_A cs sz)) 0 0 (va_A cs sz)
theorem metPO_intro {l : Launch} {y : MethodName} {cc : ByteArray} {maxL fr lo : Nat} {ret : Option FieldType} {av : List Value} {g : GE} {cs : va_W} {O : OX} {Qc : QC}
    (hy : plainName y.cls = true) (hn : Nat.ble (lg_sl av).length maxL = true)
    (body : ∀ (p : Program) (e : Env) (R : Room) (s : State) (m : MethodId) (args : Array Value) (below : List Frame) (meth : Method) (c : Code) (Q : State → Prop), fr ≤ R.frames → lo ≤ R.locals → Q = MQ below Qc args s 0 0 noF → p.tables.exec = Jvm.exec → c.code = cc → c.maxLocals = maxL → meth.sig.returnType = ret → meth.locks = false → s.vm.findClass y.cls = some m.cls → (∀ w ∈ TB, w.before args s = true) → meth.name = y.name → EV g s → va_P g.1 vwCl cs s.heap → O noA s s.heap → ∀ ls : Array Slot, lv_has ls maxL (lv_args 0 av) → W p l e R s m args below meth c s.heap [] 0 0 Q (F0 m 0 ls [])) : Met l y (.code y cc maxL ret :: TB) { frames := fr, cells := 0, slots := 0, locals := lo } (va_Pc av (BPO g cs O)) Qc 0 0 noF :=
  met_intro hy hn fun p e s m below meth c hx hb hml hr hlocks hown hts hin hB ls hl => body p e _ s m _ below meth c _ (Nat.le_refl _) (Nat.le_refl _) rfl hx hb hml hr hlocks hown hts hin hB.1.1 hB.1.2 hB.2 ls hl
theorem metWO_intro {l : Launch} {y : MethodName} {cc : ByteArray} {maxL fr lo : Nat} {ret : Option FieldType} {av : List Value} {g : GE} {cs cs' : va_W} {O : OX} {o : Option Value}
    (hy : plainName y.cls = true) (hn : Nat.ble (lg_sl av).length maxL = true)
    (body : ∀ (p : Program) (e : Env) (R : Room) (s : State) (m : MethodId) (args : Array Value) (below : List Frame) (meth : Method) (c : Code) (Q : State → Prop) (A : Nat → Prop), fr ≤ R.frames → lo ≤ R.locals → Q = MQ below (qW g o cs' A) args s 0 0 A → p.tables.exec = Jvm.exec → c.code = cc → c.maxLocals = maxL → meth.sig.returnType = ret → meth.locks = false → s.vm.findClass y.cls = some m.cls → (∀ w ∈ TB, w.before args s = true) → meth.name = y.name → EV g s → (∀ q : Nat, s.heap.size ≤ q → A q) → O A s s.heap → ∀ (H : Heap) (locs : List Loc), va_P g.1 vwCl cs H → va_D A cs → va_S A s.heap H locs → ∀ ls : Array Slot, lv_has ls maxL (lv_args 0 av) → W p l e R s m args below meth c H locs 0 0 Q (F0 m 0 ls [])) : WMO l y cc maxL ret fr lo g cs O av o cs' := fun sz =>
  met_intro hy hn fun p e s m below meth c hx hb hml hr hlocks hown hts hin hB ls hl => by
    obtain ⟨⟨hsz, hE, hP, hD⟩, hO⟩ := hB
    subst hsz
    exact body p e _ s m _ below meth c _ _ (Nat.le_refl _) (Nat.le_refl _) rfl hx hb hml hr hlocks hown hts hin hE (fun q h => Or.inr h) hO s.heap [] hP hD.self va_S.rf ls hl
section BASE3
variable {p : Program} {l : Launch} {e : Env} {R : Room} {s : State} {m : MethodId} {args : Array Value} {below : List Frame} {meth : Method} {c : Code} {H H0 : Heap} {locs : List Loc} {cells slots : Nat} {Q : State → Prop}
variable {y : MethodName} {bytes cc : ByteArray} {maxL nL mc ms n idx pc fr lo : Nat} {ret : Option FieldType} {rm : Room} {B : State → Prop} {Qc : QC} {free : Addr → Prop} {own : String} {b : Addr} {As rest st0 : List Value} {ls : Array Slot} {g : GE} {cs cs' ws wr : va_W} {A A1 : Nat → Prop} {O : OX}
theorem pSO {v : Int32} (S : CallFix p m c cc nL s args TB own) (hE : EV g s) (hM : PIO l y bytes maxL ret fr lo g cs O As v) (hk : OK O) (hO : O A s s.heap) (hS : va_S A s.heap H locs) (cf : CF y bytes maxL ret n) (hst : Cond.static y ∈ TB) (hl : Cond.methodLink own idx y ∈ TB) (hR : fr + 1 ≤ R.frames ∧ 8 + (maxL + 11) + lo ≤ R.locals) (hP : va_P g.1 vwCl cs H) (hn : As.length = n) (hsize : ls.size = nL) (hstack : st0 = As.reverse ++ rest) (hW : (rest.map fun v => v.category).sum ≤ 8) (hdg : decode cc pc = .ok (.invokestatic idx, 3)) (hf : cells ≤ R.cells ∧ slots ≤ R.slots) {locs1 : List Loc} (kk : W p l e R s m args below meth c H locs1 cells slots Q (F0 m (pc + 3) ls (.int v :: rest))) : W p l e R s m args below meth c H locs1 cells slots Q (F0 m pc ls st0) :=
  rcI (runS_TB S hM rfl rfl cf hst hl hR (BPO_blind hk) (fun U hU hW => ⟨⟨hE.warm hW, by rw [hU]; exact hP⟩, by rw [hU]; exact hk.to hO hS hW.alike (fun _ z => z.elim)⟩) hn hsize hstack hW hdg hf) kk
theorem pSNO {host : String} {v : Int32} (S : CallFix p m c cc nL s args TB own) (hE : EV g s) (hM : PIO l y bytes maxL ret fr lo g cs O As v) (hk : OK O) (hO : O A s s.heap) (hS : va_S A s.heap H locs) (cf : CF y bytes maxL ret n) (hst : Cond.static y ∈ TB) (hl : Cond.methodLinkNest own idx y host ∈ TN) (hR : fr + 1 ≤ R.frames ∧ 8 + (maxL + 11) + lo ≤ R.locals) (hP : va_P g.1 vwCl cs H) (hn : As.length = n) (hsize : ls.size = nL) (hstack : st0 = As.reverse ++ rest) (hW : (rest.map fun v => v.category).sum ≤ 8) (hdg : decode cc pc = .ok (.invokestatic idx, 3)) (hf : cells ≤ R.cells ∧ slots ≤ R.slots) {locs1 : List Loc} (kk : W p l e R s m args below meth c H locs1 cells slots Q (F0 m (pc + 3) ls (.int v :: rest))) : W p l e R s m args below meth c H locs1 cells slots Q (F0 m pc ls st0) :=
  rcI (runSN_TB S hE hM rfl rfl cf hst hl hR (BPO_blind hk) (fun U hU hW => ⟨⟨hE.warm hW, by rw [hU]; exact hP⟩, by rw [hU]; exact hk.to hO hS hW.alike (fun _ z => z.elim)⟩) hn hsize hstack hW hdg hf) kk
theorem pVO {v : Int32} {ci q0 : Nat} {q : vw_C} {fs : List Value} (S : CallFix p m c cc nL s args TB own) (hE : EV g s) (hM : PIO l y bytes maxL ret fr lo g cs O (.ref b :: As) v) (hk : OK O) (hO : O A s s.heap) (hS : va_S A s.heap H locs) (cf : CF y bytes maxL ret n) (hin : Cond.instanceMethod y ∈ TB) (hse : Cond.selects y.cls y y ∈ TB) (hl : Cond.methodLink own idx y ∈ TB) (hR : fr + 1 ≤ R.frames ∧ 8 + (maxL + 11) + lo ≤ R.locals) (hP : va_P g.1 vwCl cs H) (hc : vwCl[ci]? = some q) (hq : y.cls = q.1) (he : cs[q0]? = some (b, .inr (ci, fs))) (hn : As.length = n) (hsize : ls.size = nL) (hstack : st0 = As.reverse ++ .ref b :: rest) (hW : (rest.map fun v => v.category).sum ≤ 8) (hdg : decode cc pc = .ok (.invokevirtual idx, 3)) (hf : cells ≤ R.cells ∧ slots ≤ R.slots) {locs1 : List Loc} (kk : W p l e R s m args below meth c H locs1 cells slots Q (F0 m (pc + 3) ls (.int v :: rest))) : W p l e R s m args below meth c H locs1 cells slots Q (F0 m pc ls st0) :=
  rcI (runV_TB S hM rfl rfl cf hin hse hl hR (BPO_blind hk) (by rw [hq]; exact recv_TB hE hP hc he) (fun U hU hW => ⟨⟨hE.warm hW, by rw [hU]; exact hP⟩, by rw [hU]; exact hk.to hO hS hW.alike (fun _ z => z.elim)⟩) hn hsize hstack hW hdg hf) kk
theorem pVJO {v : Int64} {ci q0 : Nat} {q : vw_C} {fs : List Value} (S : CallFix p m c cc nL s args TB own) (hE : EV g s) (hM : PJO l y bytes maxL ret fr lo g cs O (.ref b :: As) v) (hk : OK O) (hO : O A s s.heap) (hS : va_S A s.heap H locs) (cf : CF y bytes maxL ret n) (hin : Cond.instanceMethod y ∈ TB) (hse : Cond.selects y.cls y y ∈ TB) (hl : Cond.methodLink own idx y ∈ TB) (hR : fr + 1 ≤ R.frames ∧ 8 + (maxL + 11) + lo ≤ R.locals) (hP : va_P g.1 vwCl cs H) (hc : vwCl[ci]? = some q) (hq : y.cls = q.1) (he : cs[q0]? = some (b, .inr (ci, fs))) (hn : As.length = n) (hsize : ls.size = nL) (hstack : st0 = As.reverse ++ .ref b :: rest) (hW : (rest.map fun v => v.category).sum ≤ 8) (hdg : decode cc pc = .ok (.invokevirtual idx, 3)) (hf : cells ≤ R.cells ∧ slots ≤ R.slots) {locs1 : List Loc} (kk : W p l e R s m args below meth c H locs1 cells slots Q (F0 m (pc + 3) ls (.long v :: rest))) : W p l e R s m args below meth c H locs1 cells slots Q (F0 m pc ls st0) :=
  rcJ (runV_TB S hM rfl rfl cf hin hse hl hR (BPO_blind hk) (by rw [hq]; exact recv_TB hE hP hc he) (fun U hU hW => ⟨⟨hE.warm hW, by rw [hU]; exact hP⟩, by rw [hU]; exact hk.to hO hS hW.alike (fun _ z => z.elim)⟩) hn hsize hstack hW hdg hf) kk
theorem wSO {o : Option Value} (S : CallFix p m c cc nL s args TB own) (hE : EV g s) (hM : WMO l y bytes maxL ret fr lo g cs O As o cs') (hk : OK O) (hO : O A s s.heap) (cf : CF y bytes maxL ret n) (hst : Cond.static y ∈ TB) (hl : Cond.methodLink own idx y ∈ TB) (hR : fr + 1 ≤ R.frames ∧ 8 + (maxL + 11) + lo ≤ R.locals) (hP : va_P g.1 vwCl ws H) (hD : va_D A ws) (hS : va_S A s.heap H locs) (hA : ∀ q : Nat, s.heap.size ≤ q → A q) (isC isR : List Nat) (hC : isC.map (fun i => ws[i]?) = cs.map some) (hR2 : isR.map (fun i => ws[i]?) = wr.map some) (hn2 : va_nd isR = true ∧ va_nd isC = true) (hdis : ∀ i ∈ isR, i ∉ isC) (hn : As.length = n) (hsize : ls.size = nL) (hstack : st0 = As.reverse ++ rest) (hW : (rest.map fun v => v.category).sum ≤ 8) (hdg : decode cc pc = .ok (.invokestatic idx, 3)) (hf : cells ≤ R.cells ∧ slots ≤ R.slots)
    (kk : ∀ (H1 : Heap) (locs1 : List Loc), va_P g.1 vwCl (wr ++ cs') H1 → va_D A (wr ++ cs') → va_S A s.heap H1 locs1 → W p l e R s m args below meth c H1 locs1 cells slots Q (F0 m (pc + 3) ls (o.toList ++ rest))) : W p l e R s m args below meth c H locs cells slots Q (F0 m pc ls st0) :=
  rcW (runS_TB S (hM H.size) rfl rfl cf hst hl hR (BWO_blind hk) (fun U hU hW => ⟨⟨by rw [hU], hE.warm hW, by rw [hU]; exact sub_P hP hC, sub_D hD hn2.2 hC⟩, by rw [hU]; exact hk.to hO hS hW.alike (va_free hD hS hA isC hC)⟩) hn hsize hstack hW hdg hf) hP hD hS hA isC isR hC hR2 hn2.1 hdis kk
theorem wVO {o : Option Value} {ci q0 : Nat} {q : vw_C} {fs : List Value} (S : CallFix p m c cc nL s args TB own) (hE : EV g s) (hM : WMO l y bytes maxL ret fr lo g cs O (.ref b :: As) o cs') (hk : OK O) (hO : O A s s.heap) (cf : CF y bytes maxL ret n) (hin : Cond.instanceMethod y ∈ TB) (hse : Cond.selects y.cls y y ∈ TB) (hl : Cond.methodLink own idx y ∈ TB) (hR : fr + 1 ≤ R.frames ∧ 8 + (maxL + 11) + lo ≤ R.locals) (hP : va_P g.1 vwCl ws H) (hD : va_D A ws) (hS : va_S A s.heap H locs) (hA : ∀ q : Nat, s.heap.size ≤ q → A q) (isC isR : List Nat) (hC : isC.map (fun i => ws[i]?) = cs.map some) (hR2 : isR.map (fun i => ws[i]?) = wr.map some) (hn2 : va_nd isR = true ∧ va_nd isC = true) (hdis : ∀ i ∈ isR, i ∉ isC) (hc : vwCl[ci]? = some q) (hq : y.cls = q.1) (he : cs[q0]? = some (b, .inr (ci, fs))) (hn : As.length = n) (hsize : ls.size = nL) (hstack : st0 = As.reverse ++ .ref b :: rest) (hW : (rest.map fun v => v.category).sum ≤ 8) (hdg : decode cc pc = .ok (.invokevirtual idx, 3)) (hf : cells ≤ R.cells ∧ slots ≤ R.slots)
    (kk : ∀ (H1 : Heap) (locs1 : List Loc), va_P g.1 vwCl (wr ++ cs') H1 → va_D A (wr ++ cs') → va_S A s.heap H1 locs1 → W p l e R s m args below meth c H1 locs1 cells slots Q (F0 m (pc + 3) ls (o.toList ++ rest))) : W p l e R s m args below meth c H locs cells slots Q (F0 m pc ls st0) :=
  rcW (runV_TB S (hM H.size) rfl rfl cf hin hse hl hR (BWO_blind hk) (by rw [hq]; exact recv_TB hE (sub_P hP hC) hc he) (fun U hU hW => ⟨⟨by rw [hU], hE.warm hW, by rw [hU]; exact sub_P hP hC, sub_D hD hn2.2 hC⟩, by rw [hU]; exact hk.to hO hS hW.alike (va_free hD hS hA isC hC)⟩) hn hsize hstack hW hdg hf) hP hD hS hA isC isR hC hR2 hn2.1 hdis kk
theorem wVNO {host : String} {o : Option Value} {ci q0 : Nat} {q : vw_C} {fs : List Value} (S : CallFix p m c cc nL s args TB own) (hE : EV g s) (hM : WMO l y bytes maxL ret fr lo g cs O (.ref b :: As) o cs') (hk : OK O) (hO : O A s s.heap) (cf : CF y bytes maxL ret n) (hin : Cond.instanceMethod y ∈ TB) (hse : Cond.selects y.cls y y ∈ TB) (hl : Cond.methodLinkNest own idx y host ∈ TN) (hR : fr + 1 ≤ R.frames ∧ 8 + (maxL + 11) + lo ≤ R.locals) (hP : va_P g.1 vwCl ws H) (hD : va_D A ws) (hS : va_S A s.heap H locs) (hA : ∀ q : Nat, s.heap.size ≤ q → A q) (isC isR : List Nat) (hC : isC.map (fun i => ws[i]?) = cs.map some) (hR2 : isR.map (fun i => ws[i]?) = wr.map some) (hn2 : va_nd isR = true ∧ va_nd isC = true) (hdis : ∀ i ∈ isR, i ∉ isC) (hc : vwCl[ci]? = some q) (hq : y.cls = q.1) (he : cs[q0]? = some (b, .inr (ci, fs))) (hn : As.length = n) (hsize : ls.size = nL) (hstack : st0 = As.reverse ++ .ref b :: rest) (hW : (rest.map fun v => v.category).sum ≤ 8) (hdg : decode cc pc = .ok (.invokevirtual idx, 3)) (hf : cells ≤ R.cells ∧ slots ≤ R.slots)
    (kk : ∀ (H1 : Heap) (locs1 : List Loc), va_P g.1 vwCl (wr ++ cs') H1 → va_D A (wr ++ cs') → va_S A s.heap H1 locs1 → W p l e R s m args below meth c H1 locs1 cells slots Q (F0 m (pc + 3) ls (o.toList ++ rest))) : W p l e R s m args below meth c H locs cells slots Q (F0 m pc ls st0) :=
  rcW (runVN_TB S hE (hM H.size) rfl rfl cf hin hse hl hR (BWO_blind hk) (by rw [hq]; exact recv_TB hE (sub_P hP hC) hc he) (fun U hU hW => ⟨⟨by rw [hU], hE.warm hW, by rw [hU]; exact sub_P hP hC, sub_D hD hn2.2 hC⟩, by rw [hU]; exact hk.to hO hS hW.alike (va_free hD hS hA isC hC)⟩) hn hsize hstack hW hdg hf) hP hD hS hA isC isR hC hR2 hn2.1 hdis kk
end BASE3
/-! ===== doubles: answers that are one ===== -/
def n64b (r : UInt64) : Bool := decide (r &&& 0x7fffffffffffffff ≤ 0x7ff0000000000000)
theorem n64_e {r : UInt64} (h : n64b r = true) : vf_n64 r := by
  unfold vf_n64
  exact of_decide_eq_true h
def qD (v : UInt64) : QC := fun _ st o t => o = .returned (some (.double v)) ∧ t.heap = st.heap
def PD (l : Launch) (y : MethodName) (bytes : ByteArray) (maxL : Nat) (ret : Option FieldType) (fr lo : Nat) (g : GE) (cs : va_W) (As : List Value) (v : UInt64) : Prop := Met l y (.code y bytes maxL ret :: TB) { frames := fr, cells := 0, slots := 0, locals := lo } (va_Pc As (BP g cs)) (qD v) 0 0 noF
section BASE4
variable {p : Program} {l : Launch} {e : Env} {R : Room} {s : State} {m : MethodId} {args : Array Value} {below : List Frame} {meth : Method} {c : Code} {H H0 : Heap} {locs : List Loc} {cells slots : Nat} {Q : State → Prop}
variable {y : MethodName} {bytes cc : ByteArray} {maxL nL mc ms n idx pc fr lo : Nat} {ret : Option FieldType} {rm : Room} {B : State → Prop} {Qc : QC} {free : Addr → Prop} {own : String} {b : Addr} {As rest st0 : List Value} {ls : Array Slot} {g : GE} {cs cs' ws wr : va_W} {A A1 : Nat → Prop} {O : OX}
theorem rcD {v : UInt64} {a : Array Value} (hr : va_Run p l e R s m args below meth c H locs cells slots 0 0 (F0 m pc ls st0) rest (qD v a) noF) (kk : W p l e R s m args below meth c H locs cells slots Q (F0 m (pc + 3) ls (.double v :: rest))) : W p l e R s m args below meth c H locs cells slots Q (F0 m pc ls st0) := by
  intro T hT X
  obtain ⟨v', st₀, t, T', L, h0, X', hL, e1, e2, ⟨hv, hh⟩, st⟩ := hr T hT X
  cases hv
  have hL0 : L = [] := by
    cases L with
    | nil => rfl
    | cons q _ => exact (hL q List.mem_cons_self).elim
  subst hL0
  rw [List.append_nil] at X'
  obtain ⟨t2, a1, b1⟩ := kk T' (by rw [e1, hh, h0]) X'
  exact ⟨t2, st t2 a1, b1⟩
theorem rD {x v : UInt64} (hx : p.tables.exec = Jvm.exec) (hb : c.code = cc) (hr : meth.sig.returnType = some .double) (hlocks : meth.locks = false) (hv : x = v) (hdg : decode cc pc = .ok (.dreturn, 1)) : W p l e R s m args below meth c s.heap [] 0 0 (MQ below (qD v) args s 0 0 noF) (F0 m pc ls [.double x]) := by
  subst hv
  exact W.dret hx hb hr (fun t ht _ => ⟨rfl, ht⟩) (fun q h => by cases h) hdg hlocks
theorem rwD {v : UInt64} (hx : p.tables.exec = Jvm.exec) (hb : c.code = cc) (hr : meth.sig.returnType = some .double) (hlocks : meth.locks = false) (hP : va_P g.1 vwCl ws H) (hD : va_D A ws) (hS : va_S A s.heap H locs) (hdg : decode cc pc = .ok (.dreturn, 1)) : W p l e R s m args below meth c H locs 0 0 (MQ below (qW g (some (.double v)) ws A) args s 0 0 A) (F0 m pc ls [.double v]) :=
  W.dret hx hb hr (fun t ht _ => ⟨⟨rfl, by rw [ht]; exact hP, hD⟩, hS.F ht⟩) hS.2.2 hdg hlocks
theorem pVD {v : UInt64} {ci q0 : Nat} {q : vw_C} {fs : List Value} (S : CallFix p m c cc nL s args TB own) (hE : EV g s) (hM : PD l y bytes maxL ret fr lo g cs (.ref b :: As) v) (cf : CF y bytes maxL ret n) (hin : Cond.instanceMethod y ∈ TB) (hse : Cond.selects y.cls y y ∈ TB) (hl : Cond.methodLink own idx y ∈ TB) (hR : fr + 1 ≤ R.frames ∧ 8 + (maxL + 11) + lo ≤ R.locals) (hP : va_P g.1 vwCl cs H) (hc : vwCl[ci]? = some q) (hq : y.cls = q.1) (he : cs[q0]? = some (b, .inr (ci, fs))) (hn : As.length = n) (hsize : ls.size = nL) (hstack : st0 = As.reverse ++ .ref b :: rest) (hW : (rest.map fun v => v.category).sum ≤ 8) (hdg : decode cc pc = .ok (.invokevirtual idx, 3)) (hf : cells ≤ R.cells ∧ slots ≤ R.slots) (kk : W p l e R s m args below meth c H locs cells slots Q (F0 m (pc + 3) ls (.double v :: rest))) : W p l e R s m args below meth c H locs cells slots Q (F0 m pc ls st0) :=
  rcD (runV_TB S hM rfl rfl cf hin hse hl hR BP_blind (by rw [hq]; exact recv_TB hE hP hc he) (fun U hU hW => ⟨hE.warm hW, by rw [hU]; exact hP⟩) hn hsize hstack hW hdg hf) kk
end BASE4

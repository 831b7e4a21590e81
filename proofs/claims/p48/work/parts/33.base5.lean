/-! ===== methods that may throw, or make a position ===== -/
def exn (k : Nat) : String := if k = 1 then "java/lang/IndexOutOfBoundsException" else if k = 2 then "java/lang/IllegalArgumentException" else "java/lang/IllegalStateException"
/-- a position as a value: its two packs, the side to move, how often it was there -/
abbrev PC : Type := Int64 × Int64 × Int32 × Int32
def lenI : Nat → Int32
  | 0 => 1
  | n + 1 => lenI n + 1
def pcell (bef : Option Nat) (n : Nat) (x : PC) : va_E := .inr (5, [.long x.1, .long x.2.1, .int x.2.2.1, va_rf bef, .int (lenI n), .int x.2.2.2])
/-- the chain of positions from lat on lies in the heap, outside A -/
def OC (g : GE) : List PC → Option Nat → OX
  | [], lat => fun _ _ _ => lat = none
  | x :: t, lat => fun A U H => ∃ (a : Nat) (bef : Option Nat), lat = some a ∧ va_P g.1 vwCl [(a, pcell bef t.length x)] H ∧ ¬ A a ∧ OC g t bef A U H
theorem OC_ok (g : GE) : ∀ (ch : List PC) (lat : Option Nat), OK (OC g ch lat)
  | [], lat => ⟨fun _ _ _ _ _ h => h, fun _ _ _ _ _ h => h, fun _ _ _ _ _ h => h⟩
  | x :: t, lat => by
    refine ⟨?_, ?_, ?_⟩
    · rintro A u U H hv ⟨a, bef, h1, h2, h3, h4⟩
      exact ⟨a, bef, h1, h2, h3, (OC_ok g t bef).1 A u U H hv h4⟩
    · rintro A U H H1 hq ⟨a, bef, h1, h2, h3, h4⟩
      refine ⟨a, bef, h1, h2.kept (fun k q hk => ?_), h3, (OC_ok g t bef).2.1 A U H H1 hq h4⟩
      have hz : k < 1 := (List.getElem?_eq_some_iff.mp hk).1
      rw [show k = 0 by omega] at hk
      cases hk
      exact hq a ((h2 0 _ rfl).lt) h3
    · rintro A B U H hq ⟨a, bef, h1, h2, h3, h4⟩
      exact ⟨a, bef, h1, h2, fun z => h3 (hq _ z), (OC_ok g t bef).2.2 A B U H hq h4⟩
/-- what every throw reads of Throwable's statics -/
def OT : OX := fun A U H => vx_Zq Bundle.tN "UNASSIGNED_STACK" Bundle.steD A U H ∧ vx_Zq Bundle.tN "SUPPRESSED_SENTINEL" Bundle.listD A U H
theorem OT_ok : OK OT :=
  ⟨fun A u U H hv h => ⟨h.1.moved hv, h.2.moved hv⟩, fun A U H H1 hq h => ⟨h.1.kept hq, h.2.kept hq⟩, fun A B U H hq h => ⟨h.1.narrow hq, h.2.narrow hq⟩⟩
def OZ (g : GE) (zc zp : Nat) (ch : List PC) (lat : Option Nat) : OX := OAnd (OS zc zp) (OAnd OT (OC g ch lat))
theorem OZ_ok (g : GE) (zc zp : Nat) (ch : List PC) (lat : Option Nat) : OK (OZ g zc zp ch lat) := (OS_ok zc zp).and (OT_ok.and (OC_ok g ch lat))
def strs : List (Nat × String) := [(345, "no such square"), (88, "piece is not 0 to 3"), (103, "the piece cannot be put there now"), (347, "no such side"), (124, "no game can begin now"), (142, "the move is not possible now"), (148, "code is not 33 to 126"), (154, "the buffer is full"), (171, "the buffer does not tell moves"), (179, "a move of the buffer is not possible"), (349, "slot is out of range"), (190, "there is no snapshot in the slot"), (195, "no state is saved"), (351, "there is no king"), (209, "no game goes on"), (217, "no game was begun"), (353, "the piece could not be moved so"), (253, "the side has no such move"), (263, "no king can come to a corner"), (280, "the side has no move")]
def okFace : Cond → Bool
  | .declares _ => true
  | .castable _ _ => true
  | _ => false
theorem okFace_tab {w : Cond} (h : okFace w = true) : w.onTables = true := by
  cases w <;> first | rfl | (simp [okFace] at h)
theorem okFace_warm {w : Cond} (h2 : okFace w = true) {s U : State} (hW : s.WarmedH U.vm) (h1 : va_Nw w s) : va_Nw w U := by
  cases w <;> first | exact va_Nw.warmD hW h1 | exact va_Nw.warmC hW h1 | (simp [okFace] at h2)
def TF : List Cond := lw_tbl.filter okFace
def SR (U : State) : Prop := (∀ q ∈ strs, ∃ sa : Nat, vk_R "HallGuards" q.1 q.2 sa U) ∧ ∀ w ∈ TF, va_Nw w U
theorem SR.warm {s U : State} (hW : s.WarmedH U.vm) (h : SR s) : SR U := ⟨fun q hq => by
  obtain ⟨sa, h1⟩ := h.1 q hq
  exact ⟨sa, vk_R.warm hW h1⟩, fun w hw => okFace_warm (List.mem_filter.mp hw).2 hW (h.2 w hw)⟩
theorem SR.same {u U : State} (hv : U.vm = u.vm) (h : SR u) : SR U := ⟨fun q hq => by
  obtain ⟨sa, h1⟩ := h.1 q hq
  exact ⟨sa, vk_R.same hv h1⟩, fun w hw => va_Nw.same (okFace_tab (List.mem_filter.mp hw).2) hv.symm (h.2 w hw)⟩
def BX (g : GE) (cs : va_W) (sz : Nat) (O : OX) : State → Prop := fun U => BWO g cs sz O U ∧ SR U
theorem BX_blind {g : GE} {cs : va_W} {sz : Nat} {O : OX} {av : List Value} (hk : OK O) : FrameBlind (va_Pc av (BX g cs sz O)) := fun a U g' mk h =>
  ⟨h.1, (BWO_blind (av := av) hk a U g' mk ⟨h.1, h.2.1⟩).2, SR.same (u := U) (U := U.calling g' mk a) rfl h.2.2⟩
/-- the cells behind a method that may have made one -/
def XN (g : GE) (A : Nat → Prop) (cs' : Nat → va_W) (sz : Nat) (t : State) : Prop := ∃ na : Nat, sz ≤ na ∧ va_P g.1 vwCl (cs' na) t.heap ∧ va_D A (cs' na)
def qX (g : GE) (k : Nat) (o : Option Value) (cs' : Nat → va_W) (A : Nat → Prop) : QC := fun _ st oc t => (k = 0 ∧ oc = .returned o ∧ XN g A cs' st.heap.size t) ∧ va_F A st t
def xX (g : GE) (k : Nat) (cs' : Nat → va_W) (A : Nat → Prop) : String → State → State → Prop := fun E st t => (k ≠ 0 ∧ E = exn k ∧ XN g A cs' st.heap.size t) ∧ va_F A st t
def XM (l : Launch) (y : MethodName) (bytes : ByteArray) (maxL : Nat) (ret : Option FieldType) (fr lo mc ms : Nat) (g : GE) (cs : va_W) (O : OX) (As : List Value) (k : Nat) (o : Option Value) (cs' csx : Nat → va_W) : Prop := ∀ sz : Nat, vx_Met l y (.code y bytes maxL ret :: TB) { frames := fr, cells := mc, slots := ms, locals := lo } (va_Pc As (BX g cs sz O)) (qX g k o cs' (va_A cs sz)) (xX g k csx (va_A cs sz)) mc ms (va_A cs sz)
theorem metX_intro {l : Launch} {y : MethodName} {cc : ByteArray} {maxL fr lo mc ms : Nat} {ret : Option FieldType} {av : List Value} {g : GE} {cs : va_W} {cs' csx : Nat → va_W} {O : OX} {k : Nat} {o : Option Value}
    (hy : plainName y.cls = true) (hn : Nat.ble (lg_sl av).length maxL = true)
    (body : ∀ (p : Program) (e : Env) (R : Room) (s : State) (m : MethodId) (args : Array Value) (below : List Frame) (meth : Method) (c : Code) (Q : State → Prop) (A : Nat → Prop), fr ≤ R.frames → lo ≤ R.locals → mc ≤ R.cells → ms ≤ R.slots → Q = vx_MQ below (qX g k o cs' A) (xX g k csx A) args s mc ms A → p.tables.exec = Jvm.exec → c.code = cc → c.maxLocals = maxL → meth.sig.returnType = ret → meth.locks = false → (∀ x ∈ c.exceptionTable.toList, False) → s.vm.findClass y.cls = some m.cls → (∀ w ∈ TB, w.before args s = true) → meth.name = y.name → EV g s → SR s → (∀ q : Nat, s.heap.size ≤ q → A q) → O A s s.heap → ∀ (H : Heap) (locs : List Loc), va_P g.1 vwCl cs H → va_D A cs → va_S A s.heap H locs → ∀ ls : Array Slot, lv_has ls maxL (lv_args 0 av) → W p l e R s m args below meth c H locs 0 0 Q (F0 m 0 ls [])) : XM l y cc maxL ret fr lo mc ms g cs O av k o cs' csx := fun sz => by
  refine vx_ofW (cc := cc) (maxL := maxL) (ret := ret) hy rfl ?_
  intro p e s m args below meth c s₁ Bd hml hex hv
  obtain ⟨rfl, ⟨⟨hsz, hE, hP, hD⟩, hO⟩, hS⟩ := hv
  subst hsz
  have hts := atoms_spec (ws := .code y cc maxL ret :: TB) Bd.pre
  have hl := lv_entry av (n := maxL) (Nat.le_of_ble_eq_true hn)
  rw [lg_entry_eq]
  exact body p e _ s m _ below meth c _ _ (Nat.le_refl _) (Nat.le_refl _) (Nat.le_refl _) (Nat.le_refl _) rfl Bd.exec Bd.bytes hml Bd.returns Bd.notSynchronized hex (findClass_of_methodNamed Bd.named) (fun w hw => hts w (List.mem_cons_of_mem _ hw)) (name_of_methodNamed Bd.named Bd.method).1 hE hS (fun q h => Or.inr h) hO s.heap [] hP hD.self va_S.rf _ hl
section BASE6
variable {p : Program} {l : Launch} {e : Env} {R : Room} {s : State} {m : MethodId} {args : Array Value} {below : List Frame} {meth : Method} {c : Code} {H H0 : Heap} {locs : List Loc} {cells slots : Nat} {Q : State → Prop}
variable {y : MethodName} {bytes cc : ByteArray} {maxL nL mc ms mc1 ms1 n idx pc fr lo k : Nat} {ret : Option FieldType} {rm : Room} {B : State → Prop} {Qc : QC} {free : Addr → Prop} {own : String} {b : Addr} {As rest st0 : List Value} {ls : Array Slot} {g : GE} {cs ws wr : va_W} {cs' csx : Nat → va_W} {A A1 : Nat → Prop} {O : OX} {o : Option Value}
/-- behind a call that may throw, or make a cell -/
theorem rcX {a : Array Value} (hr : vx_Run p l e R s m args below meth c H locs cells slots mc ms (F0 m pc ls st0) rest (qX g k o cs' (va_A cs H.size) a) (xX g k csx (va_A cs H.size)) (va_A cs H.size)) (hP : va_P g.1 vwCl ws H) (hD : va_D A ws) (hS : va_S A H0 H locs) (hA : ∀ q : Nat, H0.size ≤ q → A q) (isC isR : List Nat) (hC : isC.map (fun i => ws[i]?) = cs.map some) (hR : isR.map (fun i => ws[i]?) = wr.map some) (hn : va_nd isR = true) (hdis : ∀ i ∈ isR, i ∉ isC)
    (kk : k = 0 → ∀ (na : Nat) (H1 : Heap) (locs1 : List Loc), H.size ≤ na → va_P g.1 vwCl (wr ++ cs' na) H1 → va_D A (wr ++ cs' na) → va_S A H0 H1 locs1 → W p l e R s m args below meth c H1 locs1 (cells + mc) (slots + ms) Q (F0 m (pc + 3) ls (o.toList ++ rest)))
    (kx : k ≠ 0 → ∀ (na : Nat) (q : Addr) (ce : Cell) (H1 : Heap) (locs1 : List Loc), H.size ≤ na → va_P g.1 vwCl (wr ++ csx na) H1 → va_D A (wr ++ csx na) → va_S A H0 H1 locs1 → H1[q]? = some ce → ce.vm = .none → s.vm.findClass (exn k) = some ce.cls → vx_W p l e R s m args below meth c H1 locs1 (cells + mc) (slots + ms) Q (F0 m pc ls rest) q) : W p l e R s m args below meth c H locs cells slots Q (F0 m pc ls st0) := by
  intro T hT X
  have hF := va_free (wc := cs) hD hS hA isC hC
  rcases hr T hT X with ⟨v', st₀, t, T', L, h0, X', hL, e1, e2, ⟨⟨hk0, hv, na, hna, hP1, hD1⟩, hz, hk⟩, st⟩ | ⟨q, st₀, t, T', L, E, ce, h0, X', hL, e1, e2, ⟨⟨hk0, hE, na, hna, hP1, hD1⟩, hz, hk⟩, hce, hcv, hcl, st⟩
  · cases hv
    rw [h0] at hz hk hna
    have hk1 : ∀ q : Nat, q < H.size → ¬ va_A cs H.size q → T'.heap[q]? = H[q]? := fun q h1 h2 => by rw [e1]; exact hk q h1 h2
    rw [← e1] at hP1
    obtain ⟨hP2, hD2⟩ := va_join (wr := wr) (w1 := cs' na) hP hD isC isR hC hR hn hdis hk1 hF hP1 hD1
    obtain ⟨t2, a1, b1⟩ := kk hk0 na T'.heap (locs ++ L) hna hP2 hD2 ⟨Nat.le_trans hS.1 (by rw [e1]; exact hz), fun q h1 h2 => by rw [hk1 q (Nat.lt_of_lt_of_le h1 hS.1) (fun z => h2 (hF q z))]; exact hS.2.1 q h1 h2, fun q hq => by
        rcases List.mem_append.mp hq with h | h
        · exact hS.2.2 q h
        · exact hF _ (hL q h)⟩ T' rfl X'
    exact ⟨t2, st t2 a1, b1⟩
  · subst hE
    rw [h0] at hz hk hna
    have hk1 : ∀ q : Nat, q < H.size → ¬ va_A cs H.size q → T'.heap[q]? = H[q]? := fun q h1 h2 => by rw [e1]; exact hk q h1 h2
    rw [← e1] at hP1
    obtain ⟨hP2, hD2⟩ := va_join (wr := wr) (w1 := csx na) hP hD isC isR hC hR hn hdis hk1 hF hP1 hD1
    obtain ⟨t2, a1, b1⟩ := kx hk0 na q ce T'.heap (locs ++ L) hna hP2 hD2 ⟨Nat.le_trans hS.1 (by rw [e1]; exact hz), fun q h1 h2 => by rw [hk1 q (Nat.lt_of_lt_of_le h1 hS.1) (fun z => h2 (hF q z))]; exact hS.2.1 q h1 h2, fun q hq => by
        rcases List.mem_append.mp hq with h | h
        · exact hS.2.2 q h
        · exact hF _ (hL q h)⟩ (by rw [e1]; exact hce) hcv hcl T' rfl X'
    exact ⟨t2, st.trans a1, b1⟩
theorem BX_to (hE : EV g s) (hR : SR s) (hk : OK O) (hO : O A s s.heap) (hP : va_P g.1 vwCl ws H) (hD : va_D A ws) (hS : va_S A s.heap H locs) (hA : ∀ q : Nat, s.heap.size ≤ q → A q) (isC : List Nat) (hC : isC.map (fun i => ws[i]?) = cs.map some) (hn : va_nd isC = true) {U : State} (hU : U.heap = H) (hW : s.WarmedH U.vm) : BX g cs H.size O U :=
  ⟨⟨⟨by rw [hU], hE.warm hW, by rw [hU]; exact sub_P hP hC, sub_D hD hn hC⟩, by rw [hU]; exact hk.to hO hS hW.alike (va_free hD hS hA isC hC)⟩, hR.warm hW⟩
theorem xS (S : CallFix p m c cc nL s args TB own) (hE : EV g s) (hR1 : SR s) (hM : XM l y bytes maxL ret fr lo mc ms g cs O As k o cs' csx) (hk : OK O) (hO : O A s s.heap) (cf : CF y bytes maxL ret n) (hst : Cond.static y ∈ TB) (hl : Cond.methodLink own idx y ∈ TB) (hR : fr + 1 ≤ R.frames ∧ 8 + (maxL + 11) + lo ≤ R.locals) (hP : va_P g.1 vwCl ws H) (hD : va_D A ws) (hS : va_S A s.heap H locs) (hA : ∀ q : Nat, s.heap.size ≤ q → A q) (isC isR : List Nat) (hC : isC.map (fun i => ws[i]?) = cs.map some) (hR2 : isR.map (fun i => ws[i]?) = wr.map some) (hn2 : va_nd isR = true ∧ va_nd isC = true) (hdis : ∀ i ∈ isR, i ∉ isC) (hn : As.length = n) (hsize : ls.size = nL) (hstack : st0 = As.reverse ++ rest) (hW : (rest.map fun v => v.category).sum ≤ 8) (hdg : decode cc pc = .ok (.invokestatic idx, 3)) (hf : cells + mc ≤ R.cells ∧ slots + ms ≤ R.slots)
    (kk : k = 0 → ∀ (na : Nat) (H1 : Heap) (locs1 : List Loc), H.size ≤ na → va_P g.1 vwCl (wr ++ cs' na) H1 → va_D A (wr ++ cs' na) → va_S A s.heap H1 locs1 → W p l e R s m args below meth c H1 locs1 (cells + mc) (slots + ms) Q (F0 m (pc + 3) ls (o.toList ++ rest)))
    (kx : k ≠ 0 → ∀ (na : Nat) (q : Addr) (ce : Cell) (H1 : Heap) (locs1 : List Loc), H.size ≤ na → va_P g.1 vwCl (wr ++ csx na) H1 → va_D A (wr ++ csx na) → va_S A s.heap H1 locs1 → H1[q]? = some ce → ce.vm = .none → s.vm.findClass (exn k) = some ce.cls → vx_W p l e R s m args below meth c H1 locs1 (cells + mc) (slots + ms) Q (F0 m pc ls rest) q) : W p l e R s m args below meth c H locs cells slots Q (F0 m pc ls st0) :=
  rcX (vx_runS S (hM H.size) ⟨callB_of n S.2.2.2.2 (goodTB cf.1) rfl rfl rfl (S.2.2.2.2 _ cf.2.1) (S.2.2.2.2 _ hl) cf.2.2 hR, S.2.2.2.2 _ hst⟩ ⟨BX_blind hk, fun U hU hW => ⟨rfl, BX_to hE hR1 hk hO hP hD hS hA isC hC hn2.2 hU hW⟩⟩ rfl hn hsize hstack (lv_room hW) hdg hf) hP hD hS hA isC isR hC hR2 hn2.1 hdis kk kx
theorem xV {ci q0 : Nat} {q : vw_C} {fs : List Value} (S : CallFix p m c cc nL s args TB own) (hE : EV g s) (hR1 : SR s) (hM : XM l y bytes maxL ret fr lo mc ms g cs O (.ref b :: As) k o cs' csx) (hk : OK O) (hO : O A s s.heap) (cf : CF y bytes maxL ret n) (hin : Cond.instanceMethod y ∈ TB) (hse : Cond.selects y.cls y y ∈ TB) (hl : Cond.methodLink own idx y ∈ TB) (hR : fr + 1 ≤ R.frames ∧ 8 + (maxL + 11) + lo ≤ R.locals) (hP : va_P g.1 vwCl ws H) (hD : va_D A ws) (hS : va_S A s.heap H locs) (hA : ∀ q : Nat, s.heap.size ≤ q → A q) (isC isR : List Nat) (hC : isC.map (fun i => ws[i]?) = cs.map some) (hR2 : isR.map (fun i => ws[i]?) = wr.map some) (hn2 : va_nd isR = true ∧ va_nd isC = true) (hdis : ∀ i ∈ isR, i ∉ isC) (hc : vwCl[ci]? = some q) (hq : y.cls = q.1) (he : cs[q0]? = some (b, .inr (ci, fs))) (hn : As.length = n) (hsize : ls.size = nL) (hstack : st0 = As.reverse ++ .ref b :: rest) (hW : (rest.map fun v => v.category).sum ≤ 8) (hdg : decode cc pc = .ok (.invokevirtual idx, 3)) (hf : cells + mc ≤ R.cells ∧ slots + ms ≤ R.slots)
    (kk : k = 0 → ∀ (na : Nat) (H1 : Heap) (locs1 : List Loc), H.size ≤ na → va_P g.1 vwCl (wr ++ cs' na) H1 → va_D A (wr ++ cs' na) → va_S A s.heap H1 locs1 → W p l e R s m args below meth c H1 locs1 (cells + mc) (slots + ms) Q (F0 m (pc + 3) ls (o.toList ++ rest)))
    (kx : k ≠ 0 → ∀ (na : Nat) (q : Addr) (ce : Cell) (H1 : Heap) (locs1 : List Loc), H.size ≤ na → va_P g.1 vwCl (wr ++ csx na) H1 → va_D A (wr ++ csx na) → va_S A s.heap H1 locs1 → H1[q]? = some ce → ce.vm = .none → s.vm.findClass (exn k) = some ce.cls → vx_W p l e R s m args below meth c H1 locs1 (cells + mc) (slots + ms) Q (F0 m pc ls rest) q) : W p l e R s m args below meth c H locs cells slots Q (F0 m pc ls st0) :=
  rcX (vx_runV S (hM H.size) ⟨callB_of n S.2.2.2.2 (goodTB cf.1) rfl rfl rfl (S.2.2.2.2 _ cf.2.1) (S.2.2.2.2 _ hl) cf.2.2 hR, S.2.2.2.2 _ hin, S.2.2.2.2 _ hse⟩ ⟨BX_blind hk, by rw [hq]; exact recv_TB hE (sub_P hP hC) hc he, fun U hU hW => ⟨rfl, BX_to hE hR1 hk hO hP hD hS hA isC hC hn2.2 hU hW⟩⟩ rfl hn hsize hstack (lv_room hW) hdg hf) hP hD hS hA isC isR hC hR2 hn2.1 hdis kk kx
/-- thrown on, out of a method without handlers -/
theorem xOut {na q : Nat} {ce : Cell} (hex : ∀ x ∈ c.exceptionTable.toList, False) (hlocks : meth.locks = false) (hk : k ≠ 0) (hna : s.heap.size ≤ na) (hP : va_P g.1 vwCl (csx na) H) (hD : va_D A (csx na)) (hS : va_S A s.heap H locs) (hce : H[q]? = some ce) (hcv : ce.vm = .none) (hcl : s.vm.findClass (exn k) = some ce.cls) (hc : cells ≤ mc) (hs : slots ≤ ms) : vx_W p l e R s m args below meth c H locs cells slots (vx_MQ below (qX g k o cs' A) (xX g k csx A) args s mc ms A) (F0 m pc ls rest) q :=
  vx_out (E := exn k) (fun x hx => (hex x hx).elim) hlocks hce hcv hcl (fun t ht _ => ⟨⟨hk, rfl, na, hna, by rw [ht]; exact hP, hD⟩, hS.F ht⟩) hS.2.2 hc hs
/-- the ends -/
theorem xrI {na : Nat} {v : Int32} (hx : p.tables.exec = Jvm.exec) (hb : c.code = cc) (hr : meth.sig.returnType = some .int) (hlocks : meth.locks = false) (hna : s.heap.size ≤ na) (hP : va_P g.1 vwCl (cs' na) H) (hD : va_D A (cs' na)) (hS : va_S A s.heap H locs) (hc : cells ≤ mc) (hs : slots ≤ ms) (hdg : decode cc pc = .ok (.ireturn, 1)) : W p l e R s m args below meth c H locs cells slots (vx_MQ below (qX g 0 (some (.int v)) cs' A) (xX g 0 csx A) args s mc ms A) (F0 m pc ls [.int v]) :=
  vx_ret (W.widen hc hs (W.iret hx hb hr (fun t ht _ => ⟨⟨rfl, rfl, na, hna, by rw [ht]; exact hP, hD⟩, hS.F ht⟩) hS.2.2 hdg hlocks))
theorem xrZ {na : Nat} {v : Int32} (hx : p.tables.exec = Jvm.exec) (hb : c.code = cc) (hr : meth.sig.returnType = some .boolean) (hlocks : meth.locks = false) (h01 : v = 0 ∨ v = 1) (hna : s.heap.size ≤ na) (hP : va_P g.1 vwCl (cs' na) H) (hD : va_D A (cs' na)) (hS : va_S A s.heap H locs) (hc : cells ≤ mc) (hs : slots ≤ ms) (hdg : decode cc pc = .ok (.ireturn, 1)) : W p l e R s m args below meth c H locs cells slots (vx_MQ below (qX g 0 (some (.int v)) cs' A) (xX g 0 csx A) args s mc ms A) (F0 m pc ls [.int v]) :=
  vx_ret (W.widen hc hs (W.zret hx hb hr (narrow_01 h01) (fun t ht _ => ⟨⟨rfl, rfl, na, hna, by rw [ht]; exact hP, hD⟩, hS.F ht⟩) hS.2.2 hdg hlocks))
theorem xrV {na : Nat} (hx : p.tables.exec = Jvm.exec) (hb : c.code = cc) (hr : meth.sig.returnType = none) (hlocks : meth.locks = false) (hna : s.heap.size ≤ na) (hP : va_P g.1 vwCl (cs' na) H) (hD : va_D A (cs' na)) (hS : va_S A s.heap H locs) (hc : cells ≤ mc) (hs : slots ≤ ms) (hdg : decode cc pc = .ok (.return_, 1)) : W p l e R s m args below meth c H locs cells slots (vx_MQ below (qX g 0 none cs' A) (xX g 0 csx A) args s mc ms A) (F0 m pc ls []) :=
  vx_ret (W.widen hc hs (W.vret hx hb hr (fun t ht _ => ⟨⟨rfl, rfl, na, hna, by rw [ht]; exact hP, hD⟩, hS.F ht⟩) hS.2.2 hdg hlocks))
theorem xrJ {na : Nat} {v : Int64} (hx : p.tables.exec = Jvm.exec) (hb : c.code = cc) (hr : meth.sig.returnType = some .long) (hlocks : meth.locks = false) (hna : s.heap.size ≤ na) (hP : va_P g.1 vwCl (cs' na) H) (hD : va_D A (cs' na)) (hS : va_S A s.heap H locs) (hc : cells ≤ mc) (hs : slots ≤ ms) (hdg : decode cc pc = .ok (.lreturn, 1)) : W p l e R s m args below meth c H locs cells slots (vx_MQ below (qX g 0 (some (.long v)) cs' A) (xX g 0 csx A) args s mc ms A) (F0 m pc ls [.long v]) :=
  vx_ret (W.widen hc hs (W.lret hx hb hr (fun t ht _ => ⟨⟨rfl, rfl, na, hna, by rw [ht]; exact hP, hD⟩, hS.F ht⟩) hS.2.2 hdg hlocks))
end BASE6

/-! ===== worlds with a row of positions behind them ===== -/
section BASE11
variable {p : Program} {l : Launch} {e : Env} {R : Room} {s : State} {m : MethodId} {args : Array Value} {below : List Frame} {meth : Method} {c : Code} {H H0 : Heap} {locs : List Loc} {cells slots : Nat} {Q : State → Prop}
variable {y : MethodName} {bytes cc : ByteArray} {maxL nL mc ms n idx pc fr lo k na nn : Nat} {ret : Option FieldType} {own host : String} {a b : Addr} {As rest st0 : List Value} {ls : Array Slot} {g : GE} {cs X wr pl : va_W} {cs' csx : Nat → va_W} {A A1 : Nat → Prop} {O : OX} {o : Option Value}
theorem freeQ (hD : va_D A (X ++ pl)) (hS : va_S A H0 H locs) (hA : ∀ q, H0.size ≤ q → A q) (isC : List Nat) (hn : va_nd isC = true) (hC : isC.map (fun i => X[i]?) = cs.map some) : ∀ q, va_A cs H.size q → A q := by
  rintro q (⟨i, e, hi⟩ | hz)
  · have h1 := hD.part isC hn hC
    exact h1.2 i _ (by rw [List.getElem?_append_left (List.getElem?_eq_some_iff.mp hi).1]; exact hi)
  · exact hA q (Nat.le_trans hS.1 hz)
theorem left_P (h : va_P g.1 vwCl (X ++ pl) H) : va_P g.1 vwCl X H := fun k q hk => h k q (by rw [List.getElem?_append_left (List.getElem?_eq_some_iff.mp hk).1]; exact hk)
theorem left_D (h : va_D A (X ++ pl)) : va_D A X := ⟨fun i j p q hi hj e => h.1 i j p q (by rw [List.getElem?_append_left (List.getElem?_eq_some_iff.mp hi).1]; exact hi) (by rw [List.getElem?_append_left (List.getElem?_eq_some_iff.mp hj).1]; exact hj) e, fun k q hk => h.2 k q (by rw [List.getElem?_append_left (List.getElem?_eq_some_iff.mp hk).1]; exact hk)⟩
/-- behind a call that writes -/
theorem rcWQ {cs1 : va_W} {a : Array Value} (hr : va_Run p l e R s m args below meth c H locs cells slots 0 0 (F0 m pc ls st0) rest (qW g o cs1 (va_A cs H.size) a) (va_A cs H.size)) (hP : va_P g.1 vwCl (X ++ pl) H) (hD : va_D A (X ++ pl)) (hS : va_S A H0 H locs) (hA : ∀ q : Nat, H0.size ≤ q → A q) (isC isR : List Nat) (hC : isC.map (fun i => X[i]?) = cs.map some) (hR : isR.map (fun i => X[i]?) = wr.map some) (hn : va_nd isR = true ∧ va_nd isC = true) (hdis : ∀ i ∈ isR, i ∉ isC)
    (kk : ∀ (H1 : Heap) (locs1 : List Loc), va_P g.1 vwCl ((wr ++ cs1) ++ pl) H1 → va_D A ((wr ++ cs1) ++ pl) → va_S A H0 H1 locs1 → W p l e R s m args below meth c H1 locs1 cells slots Q (F0 m (pc + 3) ls (o.toList ++ rest))) : W p l e R s m args below meth c H locs cells slots Q (F0 m pc ls st0) := by
  intro T hT Xs
  obtain ⟨v', st₀, t, T', L, h0, X', hL, e1, e2, ⟨⟨hv, hP1, hD1⟩, hz, hk⟩, st⟩ := hr T hT Xs
  cases hv
  rw [h0] at hz hk
  have hF := freeQ hD hS hA isC hn.2 hC
  have hk1 : ∀ q : Nat, q < H.size → ¬ va_A cs H.size q → T'.heap[q]? = H[q]? := fun q h1 h2 => by rw [e1]; exact hk q h1 h2
  rw [← e1] at hP1
  obtain ⟨hP2, hD2⟩ := va_joinQ (wr := wr) (w1 := cs1) hP hD isC isR hC hR hn.1 hdis hk1 hF hP1 hD1
  obtain ⟨t2, a1, b1⟩ := kk T'.heap (locs ++ L) hP2 hD2 ⟨Nat.le_trans hS.1 (by rw [e1]; exact hz), fun q h1 h2 => by rw [hk1 q (Nat.lt_of_lt_of_le h1 hS.1) (fun z => h2 (hF q z))]; exact hS.2.1 q h1 h2, fun q hq => by
      rcases List.mem_append.mp hq with h | h
      · exact hS.2.2 q h
      · exact hF _ (hL q h)⟩ T' rfl X'
  exact ⟨t2, st t2 a1, b1⟩
theorem wVQ {o1 : Option Value} {cs1 : va_W} {ci q0 : Nat} {q : vw_C} {fs : List Value} (S : CallFix p m c cc nL s args TB own) (hE : EV g s) (hM : WM l y bytes maxL ret fr lo g cs (.ref b :: As) o1 cs1) (cf : CF y bytes maxL ret n) (hin : Cond.instanceMethod y ∈ TB) (hse : Cond.selects y.cls y y ∈ TB) (hl : Cond.methodLink own idx y ∈ TB) (hR : fr + 1 ≤ R.frames ∧ 8 + (maxL + 11) + lo ≤ R.locals) (hP : va_P g.1 vwCl (X ++ pl) H) (hD : va_D A (X ++ pl)) (hS : va_S A H0 H locs) (hA : ∀ q : Nat, H0.size ≤ q → A q) (isC isR : List Nat) (hC : isC.map (fun i => X[i]?) = cs.map some) (hR2 : isR.map (fun i => X[i]?) = wr.map some) (hn2 : va_nd isR = true ∧ va_nd isC = true) (hdis : ∀ i ∈ isR, i ∉ isC) (hc : vwCl[ci]? = some q) (hq : y.cls = q.1) (he : cs[q0]? = some (b, .inr (ci, fs))) (hn : As.length = n) (hsize : ls.size = nL) (hstack : st0 = As.reverse ++ .ref b :: rest) (hW : (rest.map fun v => v.category).sum ≤ 8) (hdg : decode cc pc = .ok (.invokevirtual idx, 3)) (hf : cells ≤ R.cells ∧ slots ≤ R.slots)
    (kk : ∀ (H1 : Heap) (locs1 : List Loc), va_P g.1 vwCl ((wr ++ cs1) ++ pl) H1 → va_D A ((wr ++ cs1) ++ pl) → va_S A H0 H1 locs1 → W p l e R s m args below meth c H1 locs1 cells slots Q (F0 m (pc + 3) ls (o1.toList ++ rest))) : W p l e R s m args below meth c H locs cells slots Q (F0 m pc ls st0) :=
  rcWQ (runV_TB S (hM H.size) rfl rfl cf hin hse hl hR BW_blind (by rw [hq]; exact recv_TB hE (sub_P (left_P hP) hC) hc he) (fun U hU hW => ⟨by rw [hU], hE.warm hW, by rw [hU]; exact sub_P (left_P hP) hC, sub_D (left_D hD) hn2.2 hC⟩) hn hsize hstack hW hdg hf) hP hD hS hA isC isR hC hR2 hn2 hdis kk
/-- behind a call that may throw, or make a cell -/
theorem rcXQ {a : Array Value} (hr : vx_Run p l e R s m args below meth c H locs cells slots mc ms (F0 m pc ls st0) rest (qX g k o cs' (va_A cs H.size) a) (xX g k csx (va_A cs H.size)) (va_A cs H.size)) (hP : va_P g.1 vwCl (X ++ pl) H) (hD : va_D A (X ++ pl)) (hS : va_S A H0 H locs) (hA : ∀ q : Nat, H0.size ≤ q → A q) (isC isR : List Nat) (hC : isC.map (fun i => X[i]?) = cs.map some) (hR : isR.map (fun i => X[i]?) = wr.map some) (hn : va_nd isR = true ∧ va_nd isC = true) (hdis : ∀ i ∈ isR, i ∉ isC)
    (kk : k = 0 → ∀ (na : Nat) (H1 : Heap) (locs1 : List Loc), H.size ≤ na → va_P g.1 vwCl ((wr ++ cs' na) ++ pl) H1 → va_D A ((wr ++ cs' na) ++ pl) → va_S A H0 H1 locs1 → W p l e R s m args below meth c H1 locs1 (cells + mc) (slots + ms) Q (F0 m (pc + 3) ls (o.toList ++ rest)))
    (kx : k ≠ 0 → ∀ (na : Nat) (q : Addr) (ce : Cell) (H1 : Heap) (locs1 : List Loc), H.size ≤ na → va_P g.1 vwCl ((wr ++ csx na) ++ pl) H1 → va_D A ((wr ++ csx na) ++ pl) → va_S A H0 H1 locs1 → H1[q]? = some ce → ce.vm = .none → s.vm.findClass (exn k) = some ce.cls → vx_W p l e R s m args below meth c H1 locs1 (cells + mc) (slots + ms) Q (F0 m pc ls rest) q) : W p l e R s m args below meth c H locs cells slots Q (F0 m pc ls st0) := by
  intro T hT Xs
  have hF := freeQ hD hS hA isC hn.2 hC
  rcases hr T hT Xs with ⟨v', st₀, t, T', L, h0, X', hL, e1, e2, ⟨⟨hk0, hv, na, hna, hP1, hD1⟩, hz, hk⟩, st⟩ | ⟨q, st₀, t, T', L, E, ce, h0, X', hL, e1, e2, ⟨⟨hk0, hE, na, hna, hP1, hD1⟩, hz, hk⟩, hce, hcv, hcl, st⟩
  · cases hv
    rw [h0] at hz hk hna
    have hk1 : ∀ q : Nat, q < H.size → ¬ va_A cs H.size q → T'.heap[q]? = H[q]? := fun q h1 h2 => by rw [e1]; exact hk q h1 h2
    rw [← e1] at hP1
    obtain ⟨hP2, hD2⟩ := va_joinQ (wr := wr) (w1 := cs' na) hP hD isC isR hC hR hn.1 hdis hk1 hF hP1 hD1
    obtain ⟨t2, a1, b1⟩ := kk hk0 na T'.heap (locs ++ L) hna hP2 hD2 ⟨Nat.le_trans hS.1 (by rw [e1]; exact hz), fun q h1 h2 => by rw [hk1 q (Nat.lt_of_lt_of_le h1 hS.1) (fun z => h2 (hF q z))]; exact hS.2.1 q h1 h2, fun q hq => by
        rcases List.mem_append.mp hq with h | h
        · exact hS.2.2 q h
        · exact hF _ (hL q h)⟩ T' rfl X'
    exact ⟨t2, st t2 a1, b1⟩
  · subst hE
    rw [h0] at hz hk hna
    have hk1 : ∀ q : Nat, q < H.size → ¬ va_A cs H.size q → T'.heap[q]? = H[q]? := fun q h1 h2 => by rw [e1]; exact hk q h1 h2
    rw [← e1] at hP1
    obtain ⟨hP2, hD2⟩ := va_joinQ (wr := wr) (w1 := csx na) hP hD isC isR hC hR hn.1 hdis hk1 hF hP1 hD1
    obtain ⟨t2, a1, b1⟩ := kx hk0 na q ce T'.heap (locs ++ L) hna hP2 hD2 ⟨Nat.le_trans hS.1 (by rw [e1]; exact hz), fun q h1 h2 => by rw [hk1 q (Nat.lt_of_lt_of_le h1 hS.1) (fun z => h2 (hF q z))]; exact hS.2.1 q h1 h2, fun q hq => by
        rcases List.mem_append.mp hq with h | h
        · exact hS.2.2 q h
        · exact hF _ (hL q h)⟩ (by rw [e1]; exact hce) hcv hcl T' rfl X'
    exact ⟨t2, st.trans a1, b1⟩
/-- the same, the fact about what lies outside had in the heap as it is now -/
theorem xVQ {ci q0 : Nat} {q : vw_C} {fs : List Value} (S : CallFix p m c cc nL s args TB own) (hE : EV g s) (hR1 : SR s) (hM : XM l y bytes maxL ret fr lo mc ms g cs O (.ref b :: As) k o cs' csx) (hk : OK O) (hO : ∀ U : State, s.vm.Alike U.vm → O (va_A cs H.size) U H) (cf : CF y bytes maxL ret n) (hin : Cond.instanceMethod y ∈ TB) (hse : Cond.selects y.cls y y ∈ TB) (hl : Cond.methodLink own idx y ∈ TB) (hR : fr + 1 ≤ R.frames ∧ 8 + (maxL + 11) + lo ≤ R.locals) (hP : va_P g.1 vwCl (X ++ pl) H) (hD : va_D A (X ++ pl)) (hS : va_S A H0 H locs) (hA : ∀ q : Nat, H0.size ≤ q → A q) (isC isR : List Nat) (hC : isC.map (fun i => X[i]?) = cs.map some) (hR2 : isR.map (fun i => X[i]?) = wr.map some) (hn2 : va_nd isR = true ∧ va_nd isC = true) (hdis : ∀ i ∈ isR, i ∉ isC) (hc : vwCl[ci]? = some q) (hq : y.cls = q.1) (he : cs[q0]? = some (b, .inr (ci, fs))) (hn : As.length = n) (hsize : ls.size = nL) (hstack : st0 = As.reverse ++ .ref b :: rest) (hW : (rest.map fun v => v.category).sum ≤ 8) (hdg : decode cc pc = .ok (.invokevirtual idx, 3)) (hf : cells + mc ≤ R.cells ∧ slots + ms ≤ R.slots)
    (kk : k = 0 → ∀ (na : Nat) (H1 : Heap) (locs1 : List Loc), H.size ≤ na → va_P g.1 vwCl ((wr ++ cs' na) ++ pl) H1 → va_D A ((wr ++ cs' na) ++ pl) → va_S A H0 H1 locs1 → W p l e R s m args below meth c H1 locs1 (cells + mc) (slots + ms) Q (F0 m (pc + 3) ls (o.toList ++ rest)))
    (kx : k ≠ 0 → ∀ (na : Nat) (q : Addr) (ce : Cell) (H1 : Heap) (locs1 : List Loc), H.size ≤ na → va_P g.1 vwCl ((wr ++ csx na) ++ pl) H1 → va_D A ((wr ++ csx na) ++ pl) → va_S A H0 H1 locs1 → H1[q]? = some ce → ce.vm = .none → s.vm.findClass (exn k) = some ce.cls → vx_W p l e R s m args below meth c H1 locs1 (cells + mc) (slots + ms) Q (F0 m pc ls rest) q) : W p l e R s m args below meth c H locs cells slots Q (F0 m pc ls st0) :=
  rcXQ (vx_runV S (hM H.size) ⟨callB_of n S.2.2.2.2 (goodTB cf.1) rfl rfl rfl (S.2.2.2.2 _ cf.2.1) (S.2.2.2.2 _ hl) cf.2.2 hR, S.2.2.2.2 _ hin, S.2.2.2.2 _ hse⟩ ⟨BX_blind hk, by rw [hq]; exact recv_TB hE (sub_P (left_P hP) hC) hc he, fun U hU hW => ⟨rfl, ⟨⟨by rw [hU], hE.warm hW, by rw [hU]; exact sub_P (left_P hP) hC, sub_D (left_D hD) hn2.2 hC⟩, by rw [hU]; exact hO U hW.alike⟩, hR1.warm hW⟩⟩ rfl hn hsize hstack (lv_room hW) hdg hf) hP hD hS hA isC isR hC hR2 hn2 hdis kk kx
end BASE11
/-! ===== the positions that one call has made: the newest first ===== -/
def plC (la m : Nat) : List Nat → List PC → va_W
  | a :: as, x :: nl => (a, pcell (some (as.headD la)) (nl.length + m) x) :: plC la m as nl
  | _, _ => []
theorem OC_plC {g : GE} {ct : List PC} {cx : PC} {la : Nat} {B : Nat → Prop} {U : State} {H : Heap} (h0 : OC g (cx :: ct) (some la) B U H) : ∀ (nl : List PC) (as : List Nat), as.length = nl.length → (∀ q ∈ plC la (ct.length + 1) as nl, va_P g.1 vwCl [q] H ∧ ¬ B q.1) → OC g (nl ++ cx :: ct) (some (as.headD la)) B U H
  | [], as, hl, _ => by
    have : as = [] := List.eq_nil_of_length_eq_zero hl
    subst this
    exact h0
  | x :: nl, [], hl, _ => by cases hl
  | x :: nl, a :: as, hl, hq => by
    have h1 := hq (a, pcell (some (as.headD la)) (nl.length + (ct.length + 1)) x) (List.mem_cons_self)
    refine ⟨a, some (as.headD la), rfl, ?_, h1.2, OC_plC h0 nl as (Nat.succ.inj hl) (fun q h => hq q (List.mem_cons_of_mem _ h))⟩
    have e : (nl ++ cx :: ct).length = nl.length + (ct.length + 1) := by simp
    show va_P g.1 vwCl [(a, pcell _ (nl ++ cx :: ct).length x)] H
    rw [e]
    exact h1.1
/-- what is behind a call that may throw and makes positions -/
def XN2 (g : GE) (A : Nat → Prop) (nn : Nat) (cs' : List Nat → Option Nat → va_W) (sz : Nat) (t : State) : Prop := ∃ (as : List Nat) (tl : Option Nat), as.length = nn ∧ (∀ a ∈ as, sz ≤ a) ∧ va_P g.1 vwCl (cs' as tl) t.heap ∧ va_D A (cs' as tl)
def qX2 (g : GE) (k : Nat) (o : Option Value) (nn : Nat) (cs' : List Nat → Option Nat → va_W) (A : Nat → Prop) : QC := fun _ st oc t => (k = 0 ∧ oc = .returned o ∧ XN2 g A nn cs' st.heap.size t) ∧ va_F A st t
def xX2 (g : GE) (k : Nat) (nn : Nat) (cs' : List Nat → Option Nat → va_W) (A : Nat → Prop) : String → State → State → Prop := fun E st t => (k ≠ 0 ∧ E = exn k ∧ XN2 g A nn cs' st.heap.size t) ∧ va_F A st t
def XM2 (l : Launch) (y : MethodName) (bytes : ByteArray) (maxL : Nat) (ret : Option FieldType) (fr lo mc ms : Nat) (g : GE) (cs : va_W) (O : OX) (As : List Value) (k : Nat) (o : Option Value) (nn : Nat) (cs' csx : List Nat → Option Nat → va_W) : Prop := ∀ sz : Nat, vx_Met l y (.code y bytes maxL ret :: TB) { frames := fr, cells := mc, slots := ms, locals := lo } (va_Pc As (BX g cs sz O)) (qX2 g k o nn cs' (va_A cs sz)) (xX2 g k nn csx (va_A cs sz)) mc ms (va_A cs sz)
theorem metX2_intro {l : Launch} {y : MethodName} {cc : ByteArray} {maxL fr lo mc ms : Nat} {ret : Option FieldType} {av : List Value} {g : GE} {cs : va_W} {nn : Nat} {cs' csx : List Nat → Option Nat → va_W} {O : OX} {k : Nat} {o : Option Value}
    (hy : plainName y.cls = true) (hn : Nat.ble (lg_sl av).length maxL = true)
    (body : ∀ (p : Program) (e : Env) (R : Room) (s : State) (m : MethodId) (args : Array Value) (below : List Frame) (meth : Method) (c : Code) (Q : State → Prop) (A : Nat → Prop), fr ≤ R.frames → lo ≤ R.locals → mc ≤ R.cells → ms ≤ R.slots → Q = vx_MQ below (qX2 g k o nn cs' A) (xX2 g k nn csx A) args s mc ms A → p.tables.exec = Jvm.exec → c.code = cc → c.maxLocals = maxL → meth.sig.returnType = ret → meth.locks = false → (∀ x ∈ c.exceptionTable.toList, False) → s.vm.findClass y.cls = some m.cls → (∀ w ∈ TB, w.before args s = true) → meth.name = y.name → EV g s → SR s → (∀ q : Nat, s.heap.size ≤ q → A q) → O A s s.heap → ∀ (H : Heap) (locs : List Loc), va_P g.1 vwCl cs H → va_D A cs → va_S A s.heap H locs → ∀ ls : Array Slot, lv_has ls maxL (lv_args 0 av) → W p l e R s m args below meth c H locs 0 0 Q (F0 m 0 ls [])) : XM2 l y cc maxL ret fr lo mc ms g cs O av k o nn cs' csx := fun sz => by
  refine vx_ofW (cc := cc) (maxL := maxL) (ret := ret) hy rfl ?_
  intro p e s m args below meth c s₁ Bd hml hex hv
  obtain ⟨rfl, ⟨⟨hsz, hE, hP, hD⟩, hO⟩, hS⟩ := hv
  subst hsz
  have hts := atoms_spec (ws := .code y cc maxL ret :: TB) Bd.pre
  have hl := lv_entry av (n := maxL) (Nat.le_of_ble_eq_true hn)
  rw [lg_entry_eq]
  exact body p e _ s m _ below meth c _ _ (Nat.le_refl _) (Nat.le_refl _) (Nat.le_refl _) (Nat.le_refl _) rfl Bd.exec Bd.bytes hml Bd.returns Bd.notSynchronized hex (findClass_of_methodNamed Bd.named) (fun w hw => hts w (List.mem_cons_of_mem _ hw)) (name_of_methodNamed Bd.named Bd.method).1 hE hS (fun q h => Or.inr h) hO s.heap [] hP hD.self va_S.rf _ hl
section BASE12
variable {p : Program} {l : Launch} {e : Env} {R : Room} {s : State} {m : MethodId} {args : Array Value} {below : List Frame} {meth : Method} {c : Code} {H H0 : Heap} {locs : List Loc} {cells slots : Nat} {Q : State → Prop}
variable {y : MethodName} {bytes cc : ByteArray} {maxL nL mc ms n idx pc fr lo k nn : Nat} {ret : Option FieldType} {own : String} {b : Addr} {As rest st0 : List Value} {ls : Array Slot} {g : GE} {cs X wr pl : va_W} {cs' csx : List Nat → Option Nat → va_W} {A A1 : Nat → Prop} {O : OX} {o : Option Value}
theorem rcX2 {a : Array Value} (hr : vx_Run p l e R s m args below meth c H locs cells slots mc ms (F0 m pc ls st0) rest (qX2 g k o nn cs' (va_A cs H.size) a) (xX2 g k nn csx (va_A cs H.size)) (va_A cs H.size)) (hP : va_P g.1 vwCl (X ++ pl) H) (hD : va_D A (X ++ pl)) (hS : va_S A H0 H locs) (hA : ∀ q : Nat, H0.size ≤ q → A q) (isC isR : List Nat) (hC : isC.map (fun i => X[i]?) = cs.map some) (hR : isR.map (fun i => X[i]?) = wr.map some) (hn : va_nd isR = true ∧ va_nd isC = true) (hdis : ∀ i ∈ isR, i ∉ isC)
    (kk : k = 0 → ∀ (as : List Nat) (tl : Option Nat) (H1 : Heap) (locs1 : List Loc), as.length = nn → (∀ a ∈ as, H.size ≤ a) → va_P g.1 vwCl ((wr ++ cs' as tl) ++ pl) H1 → va_D A ((wr ++ cs' as tl) ++ pl) → va_S A H0 H1 locs1 → W p l e R s m args below meth c H1 locs1 (cells + mc) (slots + ms) Q (F0 m (pc + 3) ls (o.toList ++ rest)))
    (kx : k ≠ 0 → ∀ (as : List Nat) (tl : Option Nat) (q : Addr) (ce : Cell) (H1 : Heap) (locs1 : List Loc), as.length = nn → (∀ a ∈ as, H.size ≤ a) → va_P g.1 vwCl ((wr ++ csx as tl) ++ pl) H1 → va_D A ((wr ++ csx as tl) ++ pl) → va_S A H0 H1 locs1 → H1[q]? = some ce → ce.vm = .none → s.vm.findClass (exn k) = some ce.cls → vx_W p l e R s m args below meth c H1 locs1 (cells + mc) (slots + ms) Q (F0 m pc ls rest) q) : W p l e R s m args below meth c H locs cells slots Q (F0 m pc ls st0) := by
  intro T hT Xs
  have hF := freeQ hD hS hA isC hn.2 hC
  rcases hr T hT Xs with ⟨v', st₀, t, T', L, h0, X', hL, e1, e2, ⟨⟨hk0, hv, as, tl, has, hna, hP1, hD1⟩, hz, hk⟩, st⟩ | ⟨q, st₀, t, T', L, E, ce, h0, X', hL, e1, e2, ⟨⟨hk0, hE, as, tl, has, hna, hP1, hD1⟩, hz, hk⟩, hce, hcv, hcl, st⟩
  · cases hv
    rw [h0] at hz hk hna
    have hk1 : ∀ q : Nat, q < H.size → ¬ va_A cs H.size q → T'.heap[q]? = H[q]? := fun q h1 h2 => by rw [e1]; exact hk q h1 h2
    rw [← e1] at hP1
    obtain ⟨hP2, hD2⟩ := va_joinQ (wr := wr) (w1 := cs' as tl) hP hD isC isR hC hR hn.1 hdis hk1 hF hP1 hD1
    obtain ⟨t2, a1, b1⟩ := kk hk0 as tl T'.heap (locs ++ L) has hna hP2 hD2 ⟨Nat.le_trans hS.1 (by rw [e1]; exact hz), fun q h1 h2 => by rw [hk1 q (Nat.lt_of_lt_of_le h1 hS.1) (fun z => h2 (hF q z))]; exact hS.2.1 q h1 h2, fun q hq => by
        rcases List.mem_append.mp hq with h | h
        · exact hS.2.2 q h
        · exact hF _ (hL q h)⟩ T' rfl X'
    exact ⟨t2, st t2 a1, b1⟩
  · subst hE
    rw [h0] at hz hk hna
    have hk1 : ∀ q : Nat, q < H.size → ¬ va_A cs H.size q → T'.heap[q]? = H[q]? := fun q h1 h2 => by rw [e1]; exact hk q h1 h2
    rw [← e1] at hP1
    obtain ⟨hP2, hD2⟩ := va_joinQ (wr := wr) (w1 := csx as tl) hP hD isC isR hC hR hn.1 hdis hk1 hF hP1 hD1
    obtain ⟨t2, a1, b1⟩ := kx hk0 as tl q ce T'.heap (locs ++ L) has hna hP2 hD2 ⟨Nat.le_trans hS.1 (by rw [e1]; exact hz), fun q h1 h2 => by rw [hk1 q (Nat.lt_of_lt_of_le h1 hS.1) (fun z => h2 (hF q z))]; exact hS.2.1 q h1 h2, fun q hq => by
        rcases List.mem_append.mp hq with h | h
        · exact hS.2.2 q h
        · exact hF _ (hL q h)⟩ (by rw [e1]; exact hce) hcv hcl T' rfl X'
    exact ⟨t2, st.trans a1, b1⟩
theorem xV2 {ci q0 : Nat} {q : vw_C} {fs : List Value} (S : CallFix p m c cc nL s args TB own) (hE : EV g s) (hR1 : SR s) (hM : XM2 l y bytes maxL ret fr lo mc ms g cs O (.ref b :: As) k o nn cs' csx) (hk : OK O) (hO : O A s s.heap) (cf : CF y bytes maxL ret n) (hin : Cond.instanceMethod y ∈ TB) (hse : Cond.selects y.cls y y ∈ TB) (hl : Cond.methodLink own idx y ∈ TB) (hR : fr + 1 ≤ R.frames ∧ 8 + (maxL + 11) + lo ≤ R.locals) (hP : va_P g.1 vwCl (X ++ pl) H) (hD : va_D A (X ++ pl)) (hS : va_S A s.heap H locs) (hA : ∀ q : Nat, s.heap.size ≤ q → A q) (isC isR : List Nat) (hC : isC.map (fun i => X[i]?) = cs.map some) (hR2 : isR.map (fun i => X[i]?) = wr.map some) (hn2 : va_nd isR = true ∧ va_nd isC = true) (hdis : ∀ i ∈ isR, i ∉ isC) (hc : vwCl[ci]? = some q) (hq : y.cls = q.1) (he : cs[q0]? = some (b, .inr (ci, fs))) (hn : As.length = n) (hsize : ls.size = nL) (hstack : st0 = As.reverse ++ .ref b :: rest) (hW : (rest.map fun v => v.category).sum ≤ 8) (hdg : decode cc pc = .ok (.invokevirtual idx, 3)) (hf : cells + mc ≤ R.cells ∧ slots + ms ≤ R.slots)
    (kk : k = 0 → ∀ (as : List Nat) (tl : Option Nat) (H1 : Heap) (locs1 : List Loc), as.length = nn → (∀ a ∈ as, H.size ≤ a) → va_P g.1 vwCl ((wr ++ cs' as tl) ++ pl) H1 → va_D A ((wr ++ cs' as tl) ++ pl) → va_S A s.heap H1 locs1 → W p l e R s m args below meth c H1 locs1 (cells + mc) (slots + ms) Q (F0 m (pc + 3) ls (o.toList ++ rest)))
    (kx : k ≠ 0 → ∀ (as : List Nat) (tl : Option Nat) (q : Addr) (ce : Cell) (H1 : Heap) (locs1 : List Loc), as.length = nn → (∀ a ∈ as, H.size ≤ a) → va_P g.1 vwCl ((wr ++ csx as tl) ++ pl) H1 → va_D A ((wr ++ csx as tl) ++ pl) → va_S A s.heap H1 locs1 → H1[q]? = some ce → ce.vm = .none → s.vm.findClass (exn k) = some ce.cls → vx_W p l e R s m args below meth c H1 locs1 (cells + mc) (slots + ms) Q (F0 m pc ls rest) q) : W p l e R s m args below meth c H locs cells slots Q (F0 m pc ls st0) :=
  rcX2 (vx_runV S (hM H.size) ⟨callB_of n S.2.2.2.2 (goodTB cf.1) rfl rfl rfl (S.2.2.2.2 _ cf.2.1) (S.2.2.2.2 _ hl) cf.2.2 hR, S.2.2.2.2 _ hin, S.2.2.2.2 _ hse⟩ ⟨BX_blind hk, by rw [hq]; exact recv_TB hE (sub_P (left_P hP) hC) hc he, fun U hU hW => ⟨rfl, BX_to hE hR1 hk hO (left_P hP) (left_D hD) hS hA isC hC hn2.2 hU hW⟩⟩ rfl hn hsize hstack (lv_room hW) hdg hf) hP hD hS hA isC isR hC hR2 hn2 hdis kk kx
theorem xrI2 {v : Int32} (as : List Nat) (tl : Option Nat) (hx : p.tables.exec = Jvm.exec) (hb : c.code = cc) (hr : meth.sig.returnType = some .int) (hlocks : meth.locks = false) (has : as.length = nn) (hna : ∀ a ∈ as, s.heap.size ≤ a) (hP : va_P g.1 vwCl (cs' as tl) H) (hD : va_D A (cs' as tl)) (hS : va_S A s.heap H locs) (hc : cells ≤ mc) (hs : slots ≤ ms) (hdg : decode cc pc = .ok (.ireturn, 1)) : W p l e R s m args below meth c H locs cells slots (vx_MQ below (qX2 g 0 (some (.int v)) nn cs' A) (xX2 g 0 nn csx A) args s mc ms A) (F0 m pc ls [.int v]) :=
  vx_ret (W.widen hc hs (W.iret hx hb hr (fun t ht _ => ⟨⟨rfl, rfl, as, tl, has, hna, by rw [ht]; exact hP, hD⟩, hS.F ht⟩) hS.2.2 hdg hlocks))
theorem xrJ2 {v : Int64} (as : List Nat) (tl : Option Nat) (hx : p.tables.exec = Jvm.exec) (hb : c.code = cc) (hr : meth.sig.returnType = some .long) (hlocks : meth.locks = false) (has : as.length = nn) (hna : ∀ a ∈ as, s.heap.size ≤ a) (hP : va_P g.1 vwCl (cs' as tl) H) (hD : va_D A (cs' as tl)) (hS : va_S A s.heap H locs) (hc : cells ≤ mc) (hs : slots ≤ ms) (hdg : decode cc pc = .ok (.lreturn, 1)) : W p l e R s m args below meth c H locs cells slots (vx_MQ below (qX2 g 0 (some (.long v)) nn cs' A) (xX2 g 0 nn csx A) args s mc ms A) (F0 m pc ls [.long v]) :=
  vx_ret (W.widen hc hs (W.lret hx hb hr (fun t ht _ => ⟨⟨rfl, rfl, as, tl, has, hna, by rw [ht]; exact hP, hD⟩, hS.F ht⟩) hS.2.2 hdg hlocks))
theorem xOut2 (as : List Nat) (tl : Option Nat) {q : Nat} {ce : Cell} (hex : ∀ x ∈ c.exceptionTable.toList, False) (hlocks : meth.locks = false) (hk : k ≠ 0) (has : as.length = nn) (hna : ∀ a ∈ as, s.heap.size ≤ a) (hP : va_P g.1 vwCl (csx as tl) H) (hD : va_D A (csx as tl)) (hS : va_S A s.heap H locs) (hce : H[q]? = some ce) (hcv : ce.vm = .none) (hcl : s.vm.findClass (exn k) = some ce.cls) (hc : cells ≤ mc) (hs : slots ≤ ms) : vx_W p l e R s m args below meth c H locs cells slots (vx_MQ below (qX2 g k o nn cs' A) (xX2 g k nn csx A) args s mc ms A) (F0 m pc ls rest) q :=
  vx_out (E := exn k) (fun x hx => (hex x hx).elim) hlocks hce hcv hcl (fun t ht _ => ⟨⟨hk, rfl, as, tl, has, hna, by rw [ht]; exact hP, hD⟩, hS.F ht⟩) hS.2.2 hc hs
end BASE12
section BASE13
variable {p : Program} {l : Launch} {e : Env} {R : Room} {s : State} {m : MethodId} {args : Array Value} {below : List Frame} {meth : Method} {c : Code} {H H0 : Heap} {locs : List Loc} {cells slots : Nat} {Q : State → Prop}
variable {y : MethodName} {bytes cc : ByteArray} {maxL nL mc ms n idx pc fr lo k nn : Nat} {ret : Option FieldType} {own : String} {b : Addr} {As rest st0 : List Value} {ls : Array Slot} {g : GE} {cs X wr pl : va_W} {cs' csx c0 c1 : List Nat → Option Nat → va_W} {A A1 : Nat → Prop} {O : OX} {o : Option Value}
theorem xthr2 (as : List Nat) (tl : Option Nat) {q : Nat × String} (hq : q ∈ strs) {cls : String} {ik ic : Nat} (hkk : k ≠ 0) (hkc : cls = exn k) (aw : ∀ w ∈ Cond.classLink "HallGuards" ik cls :: Cond.initialized cls :: vx_atS "HallGuards" ic cls chN, w ∈ lw_tbl ∧ (goodWord w || okFace w) = true) (hcl : Bundle.fit cls = true)
    (hx : p.tables.exec = Jvm.exec) (hb : c.code = cc) (hl0 : l.stackTraces = false) (hml : c.maxLocals = nL) (hlocks : meth.locks = false) (hex : ∀ x ∈ c.exceptionTable.toList, False) (hown : s.vm.findClass "HallGuards" = some m.cls) (hts : ∀ w ∈ TB, w.before args s = true) (hSR : SR s) (hO : OT A s s.heap) (has : as.length = nn) (hna : ∀ a ∈ as, s.heap.size ≤ a) (hP : va_P g.1 vwCl (csx as tl) H) (hD : va_D A (csx as tl)) (hS : va_S A s.heap H locs) (hsize : ls.size = nL) (hrest : (rest.map fun v => v.category).sum ≤ 8)
    (hR : 6 ≤ R.frames ∧ 90 ≤ R.locals) (hf : cells + 1 ≤ R.cells ∧ slots + 6 ≤ R.slots) (hm : cells + 1 ≤ mc ∧ slots + 6 ≤ ms)
    (d0 : decode cc pc = .ok (.new ik, 3)) (d3 : decode cc (pc + 3) = .ok (.dup, 1)) (d4 : decode cc (pc + 4) = .ok (.ldc q.1, 2)) (d6 : decode cc (pc + 6) = .ok (.invokespecial ic, 3)) (d9 : decode cc (pc + 9) = .ok (.athrow, 1)) :
    W p l e R s m args below meth c H locs cells slots (vx_MQ below (qX2 g k o nn cs' A) (xX2 g k nn csx A) args s mc ms A) (F0 m pc ls rest) := by
  obtain ⟨sa, hstr⟩ := hSR.1 q hq
  have hgood : ∀ w ∈ Cond.classLink "HallGuards" ik cls :: Cond.initialized cls :: vx_atS "HallGuards" ic cls chN, vx_ot w = true := fun w hw => by
    have h9 := (aw w hw).2
    rw [Bool.or_eq_true] at h9
    unfold vx_ot
    rw [Bool.or_eq_true]
    rcases h9 with h9 | h9
    · exact Or.inr h9
    · exact Or.inl (okFace_tab h9)
  have hwd : ∀ w ∈ Cond.classLink "HallGuards" ik cls :: Cond.initialized cls :: vx_atS "HallGuards" ic cls chN, w.before args s = true := fun w hw => by
    have h9 := (aw w hw).2
    rw [Bool.or_eq_true] at h9
    rcases h9 with h9 | h9
    · exact hts w (List.mem_filter.mpr ⟨(aw w hw).1, h9⟩)
    · exact va_Nw.use (okFace_tab h9) (hSR.2 w (List.mem_filter.mpr ⟨(aw w hw).1, h9⟩))
  have hX : ∀ t : State, s.vm.Alike t.vm → H.size ≤ t.heap.size → (∀ q : Nat, q < H.size → t.heap[q]? = H[q]?) → xX2 g k nn csx A cls s t := fun t _ hz ho =>
    ⟨⟨hkk, hkc, as, tl, has, hna, hP.kept (fun k q hk => ho q.1 ((hP k q hk).lt)), hD⟩, Nat.le_trans hS.1 hz, fun q h1 h2 => (ho q (Nat.lt_of_lt_of_le h1 hS.1)).trans (hS.2.1 q h1 h2)⟩
  have hnames : ∀ n ∈ chN, Bundle.fit n = true := by decide +kernel
  exact vx_throwS hx hb hl0 hown hcl hnames (hwd _ List.mem_cons_self) (hwd _ (List.mem_cons_of_mem _ List.mem_cons_self)) hstr (fun w hw => hwd w (List.mem_cons_of_mem _ (List.mem_cons_of_mem _ hw))) hgood hO.1 hO.2 hS (hsize.trans hml.symm) d0 d3 d4 d6 d9 (fun x hx => (hex x hx).elim) (by show 2 + 3 < _; omega) (by show _ + (13 * (2 + 1) + 43) ≤ _; omega) hf.1 hf.2 hlocks hX hS.2.2 hm.1 hm.2
def LM2 (l : Launch) (y : MethodName) (bytes : ByteArray) (maxL : Nat) (hh : List (Nat × Nat × Nat × Nat)) (fr lo mc ms : Nat) (g : GE) (cs : va_W) (O : OX) (As : List Value) (k0 : Nat) (v : Int64) (nn : Nat) (c0 c1 : List Nat → Option Nat → va_W) : Prop := ∀ sz : Nat, vx_Met l y (.codeWith y bytes maxL (some .long) hh :: TB) { frames := fr, cells := mc, slots := ms, locals := lo } (va_Pc As (BL g cs sz O)) (qX2 g 0 (some (.long v)) nn (fun as tl => if k0 = 0 then c0 as tl else c1 as tl) (va_A cs sz)) (xX2 g 0 nn c1 (va_A cs sz)) mc ms (va_A cs sz)
theorem metL2_intro {hh : List (Nat × Nat × Nat × Nat)} {av : List Value} {k0 : Nat} {v : Int64}
    (hy : plainName y.cls = true) (hn : Nat.ble (lg_sl av).length maxL = true)
    (body : ∀ (p : Program) (e : Env) (R : Room) (s : State) (m : MethodId) (args : Array Value) (below : List Frame) (meth : Method) (c : Code) (Q : State → Prop) (A : Nat → Prop), fr ≤ R.frames → lo ≤ R.locals → mc ≤ R.cells → ms ≤ R.slots → Q = vx_MQ below (qX2 g 0 (some (.long v)) nn (fun as tl => if k0 = 0 then c0 as tl else c1 as tl) A) (xX2 g 0 nn c1 A) args s mc ms A → p.tables.exec = Jvm.exec → c.code = cc → c.maxLocals = maxL → meth.sig.returnType = some .long → meth.locks = false → c.exceptionTable.toList = tableOf hh → s.vm.findClass y.cls = some m.cls → (∀ w ∈ TB, w.before args s = true) → meth.name = y.name → EV g s → SR s → NC s → (∀ q : Nat, s.heap.size ≤ q → A q) → O A s s.heap → ∀ (H : Heap) (locs : List Loc), va_P g.1 vwCl cs H → va_D A cs → va_S A s.heap H locs → ∀ ls : Array Slot, lv_has ls maxL (lv_args 0 av) → W p l e R s m args below meth c H locs 0 0 Q (F0 m 0 ls [])) : LM2 l y cc maxL hh fr lo mc ms g cs O av k0 v nn c0 c1 := fun sz => by
  refine vx_ofWH (cc := cc) (maxL := maxL) (ret := some .long) (hh := hh) hy rfl ?_
  intro p e s m args below meth c s₁ Bd hml hv
  obtain ⟨rfl, ⟨⟨⟨hsz, hE, hP, hD⟩, hO⟩, hS⟩, hN⟩ := hv
  subst hsz
  have hts := atoms_spec (ws := .codeWith y cc maxL (some .long) hh :: TB) Bd.pre
  have htab := vx_table (x := y) Bd (hts _ List.mem_cons_self)
  have hl := lv_entry av (n := maxL) (Nat.le_of_ble_eq_true hn)
  rw [lg_entry_eq]
  exact body p e _ s m _ below meth c _ _ (Nat.le_refl _) (Nat.le_refl _) (Nat.le_refl _) (Nat.le_refl _) rfl Bd.exec Bd.bytes hml Bd.returns Bd.notSynchronized htab (findClass_of_methodNamed Bd.named) (fun w hw => hts w (List.mem_cons_of_mem _ hw)) (name_of_methodNamed Bd.named Bd.method).1 hE hS hN (fun q h => Or.inr h) hO s.heap [] hP hD.self va_S.rf _ hl
theorem xrD0 {v : Int64} {k0 : Nat} (hv : k0 = 0) (as : List Nat) (tl : Option Nat) (hx : p.tables.exec = Jvm.exec) (hb : c.code = cc) (hr : meth.sig.returnType = some .long) (hlocks : meth.locks = false) (has : as.length = nn) (hna : ∀ a ∈ as, s.heap.size ≤ a) (hP : va_P g.1 vwCl (c0 as tl) H) (hD : va_D A (c0 as tl)) (hS : va_S A s.heap H locs) (hc : cells ≤ mc) (hs : slots ≤ ms) (hdg : decode cc pc = .ok (.lreturn, 1)) : W p l e R s m args below meth c H locs cells slots (vx_MQ below (qX2 g 0 (some (.long v)) nn (fun as tl => if k0 = 0 then c0 as tl else c1 as tl) A) (xX2 g 0 nn c1 A) args s mc ms A) (F0 m pc ls [.long v]) :=
  xrJ2 as tl hx hb hr hlocks has hna (by rw [if_pos hv]; exact hP) (by rw [if_pos hv]; exact hD) hS hc hs hdg
theorem xrD1 {v : Int64} {k0 : Nat} (hv : ¬ k0 = 0) (as : List Nat) (tl : Option Nat) (hx : p.tables.exec = Jvm.exec) (hb : c.code = cc) (hr : meth.sig.returnType = some .long) (hlocks : meth.locks = false) (has : as.length = nn) (hna : ∀ a ∈ as, s.heap.size ≤ a) (hP : va_P g.1 vwCl (c1 as tl) H) (hD : va_D A (c1 as tl)) (hS : va_S A s.heap H locs) (hc : cells ≤ mc) (hs : slots ≤ ms) (hdg : decode cc pc = .ok (.lreturn, 1)) : W p l e R s m args below meth c H locs cells slots (vx_MQ below (qX2 g 0 (some (.long v)) nn (fun as tl => if k0 = 0 then c0 as tl else c1 as tl) A) (xX2 g 0 nn c1 A) args s mc ms A) (F0 m pc ls [.long v]) :=
  xrJ2 as tl hx hb hr hlocks has hna (by rw [if_neg hv]; exact hP) (by rw [if_neg hv]; exact hD) hS hc hs hdg
end BASE13

/-! ===== constructors ===== -/
def qC (g : GE) (n : Nat) (cs' : List Nat → va_W) (A : Nat → Prop) : QC := fun _ st oc t => (oc = .returned none ∧ ∃ w : List Nat, w.length = n ∧ va_P g.1 vwCl (cs' w) t.heap ∧ va_D A (cs' w)) ∧ va_F A st t
def xC : String → State → State → Prop := fun _ _ _ => False
def CM (l : Launch) (y : MethodName) (bytes : ByteArray) (maxL : Nat) (fr lo mc ms : Nat) (g : GE) (cs : va_W) (O : OX) (As : List Value) (n : Nat) (cs' : List Nat → va_W) : Prop := ∀ sz : Nat, vx_Met l y (.code y bytes maxL none :: TB) { frames := fr, cells := mc, slots := ms, locals := lo } (va_Pc As (BX g cs sz O)) (qC g n cs' (va_A cs sz)) xC mc ms (va_A cs sz)
def OAO : OX := fun _ U _ => va_AO "HallGuards$State" U
def O9 (g : GE) (zc zp : Nat) : OX := OAnd (OZ g zc zp [] none) OAO
theorem O9_ok (g : GE) (zc zp : Nat) : OK (O9 g zc zp) := (OZ_ok g zc zp [] none).and ⟨fun _ _ _ _ hv h => va_AO.moved hv h, fun _ _ _ _ _ h => h, fun _ _ _ _ _ h => h⟩
theorem metC_intro {l : Launch} {y : MethodName} {cc : ByteArray} {maxL fr lo mc ms n : Nat} {av : List Value} {g : GE} {cs : va_W} {cs' : List Nat → va_W} {O : OX}
    (hy : plainName y.cls = true) (hn : Nat.ble (lg_sl av).length maxL = true)
    (body : ∀ (p : Program) (e : Env) (R : Room) (s : State) (m : MethodId) (args : Array Value) (below : List Frame) (meth : Method) (c : Code) (Q : State → Prop) (A : Nat → Prop), fr ≤ R.frames → lo ≤ R.locals → mc ≤ R.cells → ms ≤ R.slots → Q = vx_MQ below (qC g n cs' A) xC args s mc ms A → p.tables.exec = Jvm.exec → c.code = cc → c.maxLocals = maxL → meth.sig.returnType = none → meth.locks = false → (∀ x ∈ c.exceptionTable.toList, False) → s.vm.findClass y.cls = some m.cls → (∀ w ∈ TB, w.before args s = true) → meth.name = y.name → EV g s → SR s → (∀ q : Nat, s.heap.size ≤ q → A q) → O A s s.heap → ∀ (H : Heap) (locs : List Loc), va_P g.1 vwCl cs H → va_D A cs → va_S A s.heap H locs → ∀ ls : Array Slot, lv_has ls maxL (lv_args 0 av) → W p l e R s m args below meth c H locs 0 0 Q (F0 m 0 ls [])) : CM l y cc maxL fr lo mc ms g cs O av n cs' := fun sz => by
  refine vx_ofW (cc := cc) (maxL := maxL) (ret := none) hy rfl ?_
  intro p e s m args below meth c s₁ Bd hml hex hv
  obtain ⟨rfl, ⟨⟨hsz, hE, hP, hD⟩, hO⟩, hS⟩ := hv
  subst hsz
  have hts := atoms_spec (ws := .code y cc maxL none :: TB) Bd.pre
  have hl := lv_entry av (n := maxL) (Nat.le_of_ble_eq_true hn)
  rw [lg_entry_eq]
  exact body p e _ s m _ below meth c _ _ (Nat.le_refl _) (Nat.le_refl _) (Nat.le_refl _) (Nat.le_refl _) rfl Bd.exec Bd.bytes hml Bd.returns Bd.notSynchronized hex (findClass_of_methodNamed Bd.named) (fun w hw => hts w (List.mem_cons_of_mem _ hw)) (name_of_methodNamed Bd.named Bd.method).1 hE hS (fun q h => Or.inr h) hO s.heap [] hP hD.self va_S.rf _ hl
theorem EV_I {g : GE} {s : State} {cA : ClassId} (hE : EV g s) (h : va_RA s cA .int) : cA = g.2.1 := Option.some.inj ((show s.vm.findClass ("[" ++ (FieldType.int).toString) = some cA from h).symm.trans (hE.1.2 0 _ rfl).2)
theorem EV_Z {g : GE} {s : State} {cA : ClassId} (hE : EV g s) (h : va_RA s cA .boolean) : cA = g.2.2.2.1 := Option.some.inj ((show s.vm.findClass ("[" ++ (FieldType.boolean).toString) = some cA from h).symm.trans (hE.1.2 2 _ rfl).2)
theorem EV_A {g : GE} {s : State} {cA : ClassId} (hE : EV g s) (h : va_RA s cA (.object "HallGuards$State")) : cA = g.2.2.2.2 := by
  obtain ⟨_, _, _, _, _, h1⟩ := h
  obtain ⟨_, _, _, _, _, h2⟩ := (hE.1.2 3 _ rfl).2
  exact Option.some.inj (h1.symm.trans h2)
section BASE10
variable {p : Program} {l : Launch} {e : Env} {R : Room} {s : State} {m : MethodId} {args : Array Value} {below : List Frame} {meth : Method} {c : Code} {H H0 : Heap} {locs : List Loc} {cells slots : Nat} {Q : State → Prop}
variable {y : MethodName} {bytes cc : ByteArray} {maxL nL mc ms n nw idx pc fr lo k na : Nat} {own host : String} {a b : Addr} {As rest st0 : List Value} {ls : Array Slot} {g : GE} {cs ws wr : va_W} {cs' : List Nat → va_W} {A A1 : Nat → Prop} {O : OX}
theorem newI {x : Int32} {N : Nat} (hx : p.tables.exec = Jvm.exec) (hb : c.code = cc) (hts : ∀ w ∈ TB, w.before args s = true) (harr : Cond.arrayClass .int ∈ TB) (hE : EV g s) (hP : va_P g.1 vwCl ws H) (hD : va_D A ws) (hS : va_S A H0 H locs) (hA : ∀ q, H0.size ≤ q → A q) (hn : ¬ x < 0) (hN : x.toNatClampNeg = N) (hby : N * 4 ≤ 536870912) (hf : cells + 1 ≤ R.cells ∧ slots + N ≤ R.slots) (hdg : decode cc pc = .ok (.newarray .int, 2))
    (kk : ∀ (q : Nat) (H1 : Heap), va_P g.1 vwCl (ws ++ [(q, .inl (g.2.1, N, .inl (fun _ => 0)))]) H1 → va_D A (ws ++ [(q, .inl (g.2.1, N, .inl (fun _ => 0)))]) → va_S A H0 H1 locs → W p l e R s m args below meth c H1 locs (cells + 1) (slots + N) Q (F0 m (pc + 2) ls (.ref q :: rest))) : W p l e R s m args below meth c H locs cells slots Q (F0 m pc ls (.int x :: rest)) :=
  va_newa (atype := .int) hx hb (hts _ harr) rfl hE.1 hP hD hS hA (N' := N) (a0 := (N, .inl (fun _ => 0))) (fun _ => rfl) hn hN hby hf.1 hf.2 hdg fun q cA H1 hK h1 h2 h3 => by
    have e1 := EV_I hE (hK.2 4 _ rfl).2
    subst e1
    exact kk q H1 h1 h2 h3
theorem newZ {x : Int32} {N : Nat} (hx : p.tables.exec = Jvm.exec) (hb : c.code = cc) (hts : ∀ w ∈ TB, w.before args s = true) (harr : Cond.arrayClass .boolean ∈ TB) (hE : EV g s) (hP : va_P g.1 vwCl ws H) (hD : va_D A ws) (hS : va_S A H0 H locs) (hA : ∀ q, H0.size ≤ q → A q) (hn : ¬ x < 0) (hN : x.toNatClampNeg = N) (hby : N * 1 ≤ 536870912) (hf : cells + 1 ≤ R.cells ∧ slots + N ≤ R.slots) (hdg : decode cc pc = .ok (.newarray .boolean, 2))
    (kk : ∀ (q : Nat) (H1 : Heap), va_P g.1 vwCl (ws ++ [(q, .inl (g.2.2.2.1, N, .inl (fun _ => 0)))]) H1 → va_D A (ws ++ [(q, .inl (g.2.2.2.1, N, .inl (fun _ => 0)))]) → va_S A H0 H1 locs → W p l e R s m args below meth c H1 locs (cells + 1) (slots + N) Q (F0 m (pc + 2) ls (.ref q :: rest))) : W p l e R s m args below meth c H locs cells slots Q (F0 m pc ls (.int x :: rest)) :=
  va_newa (atype := .boolean) hx hb (hts _ harr) rfl hE.1 hP hD hS hA (N' := N) (a0 := (N, .inl (fun _ => 0))) (fun _ => rfl) hn hN hby hf.1 hf.2 hdg fun q cA H1 hK h1 h2 h3 => by
    have e1 := EV_Z hE (hK.2 4 _ rfl).2
    subst e1
    exact kk q H1 h1 h2 h3
theorem newQ {x : Int32} {N : Nat} (hx : p.tables.exec = Jvm.exec) (hb : c.code = cc) (hts : ∀ w ∈ TB, w.before args s = true) (hown : s.vm.findClass own = some m.cls) (hcl : Cond.classLink own idx "HallGuards$State" ∈ TB) (hao : va_AO "HallGuards$State" s) (hE : EV g s) (hP : va_P g.1 vwCl ws H) (hD : va_D A ws) (hS : va_S A H0 H locs) (hA : ∀ q, H0.size ≤ q → A q) (hn : ¬ x < 0) (hN : x.toNatClampNeg = N) (hby : N * 4 ≤ 536870912) (hf : cells + 1 ≤ R.cells ∧ slots + N ≤ R.slots) (hdg : decode cc pc = .ok (.anewarray idx, 3))
    (kk : ∀ (q : Nat) (H1 : Heap), va_P g.1 vwCl (ws ++ [(q, .inl (g.2.2.2.2, N, .inr (.inr (.inr (.inr (fun _ => none))))))]) H1 → va_D A (ws ++ [(q, .inl (g.2.2.2.2, N, .inr (.inr (.inr (.inr (fun _ => none))))))]) → va_S A H0 H1 locs → W p l e R s m args below meth c H1 locs (cells + 1) (slots + N) Q (F0 m (pc + 3) ls (.ref q :: rest))) : W p l e R s m args below meth c H locs cells slots Q (F0 m pc ls (.int x :: rest)) :=
  va_newq hx hb hown (hts _ hcl) hao hE.1 hP hD hS hA hn hN hby hf.1 hf.2 hdg fun q cA H1 hK h1 h2 h3 => by
    have e1 := EV_A hE (hK.2 4 _ rfl).2
    subst e1
    exact kk q H1 h1 h2 h3
/-- a call of a constructor that makes cells -/
theorem rcC {a : Array Value} (hr : vx_Run p l e R s m args below meth c H locs cells slots mc ms (F0 m pc ls st0) rest (qC g nw cs' (va_A cs H.size) a) xC (va_A cs H.size)) (hP : va_P g.1 vwCl ws H) (hD : va_D A ws) (hS : va_S A H0 H locs) (hA : ∀ q : Nat, H0.size ≤ q → A q) (isC isR : List Nat) (hC : isC.map (fun i => ws[i]?) = cs.map some) (hR : isR.map (fun i => ws[i]?) = wr.map some) (hn : va_nd isR = true) (hdis : ∀ i ∈ isR, i ∉ isC)
    (kk : ∀ (w : List Nat) (H1 : Heap) (locs1 : List Loc), w.length = nw → va_P g.1 vwCl (wr ++ cs' w) H1 → va_D A (wr ++ cs' w) → va_S A H0 H1 locs1 → W p l e R s m args below meth c H1 locs1 (cells + mc) (slots + ms) Q (F0 m (pc + 3) ls rest)) : W p l e R s m args below meth c H locs cells slots Q (F0 m pc ls st0) := by
  intro T hT X
  have hF := va_free (wc := cs) hD hS hA isC hC
  rcases hr T hT X with ⟨v', st₀, t, T', L, h0, X', hL, e1, e2, ⟨⟨hv, w, hw, hP1, hD1⟩, hz, hk⟩, st⟩ | ⟨q, st₀, t, T', L, E, ce, h0, X', hL, e1, e2, hf, hce, hcv, hcl, st⟩
  · cases hv
    rw [h0] at hz hk
    have hk1 : ∀ q : Nat, q < H.size → ¬ va_A cs H.size q → T'.heap[q]? = H[q]? := fun q h1 h2 => by rw [e1]; exact hk q h1 h2
    rw [← e1] at hP1
    obtain ⟨hP2, hD2⟩ := va_join (wr := wr) (w1 := cs' w) hP hD isC isR hC hR hn hdis hk1 hF hP1 hD1
    obtain ⟨t2, a1, b1⟩ := kk w T'.heap (locs ++ L) hw hP2 hD2 ⟨Nat.le_trans hS.1 (by rw [e1]; exact hz), fun q h1 h2 => by rw [hk1 q (Nat.lt_of_lt_of_le h1 hS.1) (fun z => h2 (hF q z))]; exact hS.2.1 q h1 h2, fun q hq => by
        rcases List.mem_append.mp hq with h | h
        · exact hS.2.2 q h
        · exact hF _ (hL q h)⟩ T' rfl X'
    exact ⟨t2, st t2 a1, b1⟩
  · exact hf.elim
theorem cI (S : CallFix p m c cc nL s args TB own) (hE : EV g s) (hR1 : SR s) (hM : CM l y bytes maxL fr lo mc ms g cs O (.ref b :: As) nw cs') (hk : OK O) (hO : O A s s.heap) (cf : CF y bytes maxL none n) (hin : Cond.instanceMethod y ∈ TB) (hnm : y.name = "<init>") (hl : Cond.methodLink own idx y ∈ TB) (hR : fr + 1 ≤ R.frames ∧ 8 + (maxL + 11) + lo ≤ R.locals) (hP : va_P g.1 vwCl ws H) (hD : va_D A ws) (hS : va_S A s.heap H locs) (hA : ∀ q : Nat, s.heap.size ≤ q → A q) (isC isR : List Nat) (hC : isC.map (fun i => ws[i]?) = cs.map some) (hR2 : isR.map (fun i => ws[i]?) = wr.map some) (hn2 : va_nd isR = true ∧ va_nd isC = true) (hdis : ∀ i ∈ isR, i ∉ isC) (hn : As.length = n) (hsize : ls.size = nL) (hstack : st0 = As.reverse ++ .ref b :: rest) (hW : (rest.map fun v => v.category).sum ≤ 8) (hdg : decode cc pc = .ok (.invokespecial idx, 3)) (hf : cells + mc ≤ R.cells ∧ slots + ms ≤ R.slots)
    (kk : ∀ (w : List Nat) (H1 : Heap) (locs1 : List Loc), w.length = nw → va_P g.1 vwCl (wr ++ cs' w) H1 → va_D A (wr ++ cs' w) → va_S A s.heap H1 locs1 → W p l e R s m args below meth c H1 locs1 (cells + mc) (slots + ms) Q (F0 m (pc + 3) ls rest)) : W p l e R s m args below meth c H locs cells slots Q (F0 m pc ls st0) :=
  rcC (vx_runI S (hM H.size) ⟨callB_of n S.2.2.2.2 (goodTB cf.1) rfl rfl rfl (S.2.2.2.2 _ cf.2.1) (S.2.2.2.2 _ hl) cf.2.2 hR, hnm, S.2.2.2.2 _ hin⟩ ⟨BX_blind hk, fun U hU hW => ⟨rfl, BX_to hE hR1 hk hO hP hD hS hA isC hC hn2.2 hU hW⟩⟩ rfl hn hsize hstack (lv_room hW) hdg hf) hP hD hS hA isC isR hC hR2 hn2.1 hdis kk
theorem cIN (S : CallFix p m c cc nL s args TB own) (hE : EV g s) (hR1 : SR s) (hM : CM l y bytes maxL fr lo mc ms g cs O (.ref b :: As) nw cs') (hk : OK O) (hO : O A s s.heap) (cf : CF y bytes maxL none n) (hin : Cond.instanceMethod y ∈ TB) (hnm : y.name = "<init>") (hl : Cond.methodLinkNest own idx y host ∈ TN) (hR : fr + 1 ≤ R.frames ∧ 8 + (maxL + 11) + lo ≤ R.locals) (hP : va_P g.1 vwCl ws H) (hD : va_D A ws) (hS : va_S A s.heap H locs) (hA : ∀ q : Nat, s.heap.size ≤ q → A q) (isC isR : List Nat) (hC : isC.map (fun i => ws[i]?) = cs.map some) (hR2 : isR.map (fun i => ws[i]?) = wr.map some) (hn2 : va_nd isR = true ∧ va_nd isC = true) (hdis : ∀ i ∈ isR, i ∉ isC) (hn : As.length = n) (hsize : ls.size = nL) (hstack : st0 = As.reverse ++ .ref b :: rest) (hW : (rest.map fun v => v.category).sum ≤ 8) (hdg : decode cc pc = .ok (.invokespecial idx, 3)) (hf : cells + mc ≤ R.cells ∧ slots + ms ≤ R.slots)
    (kk : ∀ (w : List Nat) (H1 : Heap) (locs1 : List Loc), w.length = nw → va_P g.1 vwCl (wr ++ cs' w) H1 → va_D A (wr ++ cs' w) → va_S A s.heap H1 locs1 → W p l e R s m args below meth c H1 locs1 (cells + mc) (slots + ms) Q (F0 m (pc + 3) ls rest)) : W p l e R s m args below meth c H locs cells slots Q (F0 m pc ls st0) :=
  rcC (vx_runIN S (hM H.size) ⟨va_cnB n S.2.2.2.2 (goodTB cf.1) rfl rfl rfl (hE.2 _ hl) (S.2.2.2.2 _ cf.2.1) cf.2.2 hR, hnm, S.2.2.2.2 _ hin⟩ ⟨BX_blind hk, fun U hU hW => ⟨rfl, BX_to hE hR1 hk hO hP hD hS hA isC hC hn2.2 hU hW⟩⟩ rfl hn hsize hstack (lv_room hW) hdg hf) hP hD hS hA isC isR hC hR2 hn2.1 hdis kk
theorem xrC (w : List Nat) (hx : p.tables.exec = Jvm.exec) (hb : c.code = cc) (hr : meth.sig.returnType = none) (hlocks : meth.locks = false) (hw : w.length = nw) (hP : va_P g.1 vwCl (cs' w) H) (hD : va_D A (cs' w)) (hS : va_S A s.heap H locs) (hc : cells ≤ mc) (hs : slots ≤ ms) (hdg : decode cc pc = .ok (.return_, 1)) : W p l e R s m args below meth c H locs cells slots (vx_MQ below (qC g nw cs' A) xC args s mc ms A) (F0 m pc ls []) :=
  vx_ret (W.widen hc hs (W.vret hx hb hr (fun t ht _ => ⟨⟨rfl, w, hw, by rw [ht]; exact hP, hD⟩, hS.F ht⟩) hS.2.2 hdg hlocks))
theorem arrQ {cA : ClassId} {N j : Nat} {f f' : Nat → Option Nat} (hP : va_P g.1 vwCl ws H) (hj : ws[j]? = some (a, .inl (cA, N, .inr (.inr (.inr (.inr f)))))) (h : ∀ k, k < N → f k = f' k) : va_P g.1 vwCl (ws.set j (a, .inl (cA, N, .inr (.inr (.inr (.inr f')))))) H := by
  intro k q hk
  by_cases hjk : j = k
  · subst hjk
    have hlt : j < ws.length := (List.getElem?_eq_some_iff.mp hj).1
    rw [List.getElem?_set_self hlt] at hk
    cases hk
    have h1 : H[a]? = some (vp_cell cA (N, .inr (.inr (.inr (.inr f))))) := hP j _ hj
    show H[a]? = some (vp_cell cA (N, .inr (.inr (.inr (.inr f')))))
    rw [h1, vp_cell_q, vp_cell_q]
    unfold arrV
    have h2 : (Array.ofFn (n := N) fun j => va_rf (f j.val)) = Array.ofFn (n := N) fun j => va_rf (f' j.val) := by
      congr 1
      funext i
      rw [h i.val i.isLt]
    rw [h2]
  · rw [List.getElem?_set_ne hjk] at hk
    exact hP k q hk
end BASE10

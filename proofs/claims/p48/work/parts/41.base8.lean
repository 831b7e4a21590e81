/-! ===== the law's helpers: they catch what the class throws ===== -/
def NC (U : State) : Prop := va_Nc "java/lang/IllegalArgumentException" "java/lang/IndexOutOfBoundsException" U ∧ va_Nc "java/lang/IllegalStateException" "java/lang/IndexOutOfBoundsException" U ∧ va_Nc "java/lang/IllegalStateException" "java/lang/IllegalArgumentException" U
theorem NC.warm {s U : State} (hW : s.WarmedH U.vm) (h : NC s) : NC U := ⟨h.1.moved hW.alike, h.2.1.moved hW.alike, h.2.2.moved hW.alike⟩
theorem NC.same {u U : State} (hv : u.vm = U.vm) (h : NC u) : NC U := by
  have ha : u.vm.Alike U.vm := by rw [hv]; exact Vm.Alike.refl _
  exact ⟨h.1.moved ha, h.2.1.moved ha, h.2.2.moved ha⟩
def BL (g : GE) (cs : va_W) (sz : Nat) (O : OX) : State → Prop := fun U => BX g cs sz O U ∧ NC U
theorem BL_blind {g : GE} {cs : va_W} {sz : Nat} {O : OX} {av : List Value} (hk : OK O) : FrameBlind (va_Pc av (BL g cs sz O)) := fun a U g' mk h =>
  ⟨h.1, (BX_blind (av := av) hk a U g' mk ⟨h.1, h.2.1⟩).2, NC.same (u := U) (U := U.calling g' mk a) rfl h.2.2⟩
def LM (l : Launch) (y : MethodName) (bytes : ByteArray) (maxL : Nat) (hh : List (Nat × Nat × Nat × Nat)) (fr lo mc ms : Nat) (g : GE) (cs : va_W) (O : OX) (As : List Value) (o : Option Value) (cs' : Nat → va_W) : Prop := ∀ sz : Nat, vx_Met l y (.codeWith y bytes maxL (some .long) hh :: TB) { frames := fr, cells := mc, slots := ms, locals := lo } (va_Pc As (BL g cs sz O)) (qX g 0 o cs' (va_A cs sz)) (xX g 0 cs' (va_A cs sz)) mc ms (va_A cs sz)
theorem metL_intro {l : Launch} {y : MethodName} {cc : ByteArray} {maxL fr lo mc ms : Nat} {hh : List (Nat × Nat × Nat × Nat)} {av : List Value} {g : GE} {cs : va_W} {cs' : Nat → va_W} {O : OX} {o : Option Value}
    (hy : plainName y.cls = true) (hn : Nat.ble (lg_sl av).length maxL = true)
    (body : ∀ (p : Program) (e : Env) (R : Room) (s : State) (m : MethodId) (args : Array Value) (below : List Frame) (meth : Method) (c : Code) (Q : State → Prop) (A : Nat → Prop), fr ≤ R.frames → lo ≤ R.locals → mc ≤ R.cells → ms ≤ R.slots → Q = vx_MQ below (qX g 0 o cs' A) (xX g 0 cs' A) args s mc ms A → p.tables.exec = Jvm.exec → c.code = cc → c.maxLocals = maxL → meth.sig.returnType = some .long → meth.locks = false → c.exceptionTable.toList = tableOf hh → s.vm.findClass y.cls = some m.cls → (∀ w ∈ TB, w.before args s = true) → meth.name = y.name → EV g s → SR s → NC s → (∀ q : Nat, s.heap.size ≤ q → A q) → O A s s.heap → ∀ (H : Heap) (locs : List Loc), va_P g.1 vwCl cs H → va_D A cs → va_S A s.heap H locs → ∀ ls : Array Slot, lv_has ls maxL (lv_args 0 av) → W p l e R s m args below meth c H locs 0 0 Q (F0 m 0 ls [])) : LM l y cc maxL hh fr lo mc ms g cs O av o cs' := fun sz => by
  refine vx_ofWH (cc := cc) (maxL := maxL) (ret := some .long) (hh := hh) hy rfl ?_
  intro p e s m args below meth c s₁ Bd hml hv
  obtain ⟨rfl, ⟨⟨⟨hsz, hE, hP, hD⟩, hO⟩, hS⟩, hN⟩ := hv
  subst hsz
  have hts := atoms_spec (ws := .codeWith y cc maxL (some .long) hh :: TB) Bd.pre
  have htab := vx_table (x := y) Bd (hts _ List.mem_cons_self)
  have hl := lv_entry av (n := maxL) (Nat.le_of_ble_eq_true hn)
  rw [lg_entry_eq]
  exact body p e _ s m _ below meth c _ _ (Nat.le_refl _) (Nat.le_refl _) (Nat.le_refl _) (Nat.le_refl _) rfl Bd.exec Bd.bytes hml Bd.returns Bd.notSynchronized htab (findClass_of_methodNamed Bd.named) (fun w hw => hts w (List.mem_cons_of_mem _ hw)) (name_of_methodNamed Bd.named Bd.method).1 hE hS hN (fun q h => Or.inr h) hO s.heap [] hP hD.self va_S.rf _ hl
section BASE9
variable {p : Program} {l : Launch} {e : Env} {R : Room} {s : State} {m : MethodId} {args : Array Value} {below : List Frame} {meth : Method} {c : Code} {H H0 : Heap} {locs : List Loc} {cells slots : Nat} {Q : State → Prop}
variable {y : MethodName} {bytes cc : ByteArray} {maxL nL mc ms n idx pc fr lo k na : Nat} {own : String} {b : Addr} {As rest st0 : List Value} {ls : Array Slot} {g : GE} {cs ws wr : va_W} {cs' csx c0 c1 : Nat → va_W} {A A1 : Nat → Prop} {O : OX} {o : Option Value} {hh : List (Nat × Nat × Nat × Nat)}
theorem catK {q : Addr} {ce : Cell} (i : Nat) (x : ExceptionTableEntry) (kk : Nat) (htab : c.exceptionTable.toList = tableOf hh) (hi : (tableOf hh)[i]? = some x) (hown : s.vm.findClass "HallGuardsLaw" = some m.cls) (hpass : ∀ z ∈ (tableOf hh).take i, z.catchType ≠ 0 ∧ ∃ nm : String, (Cond.classLink "HallGuardsLaw" z.catchType nm).before args s = true ∧ va_Nc (exn kk) nm s) (hcov : covers x pc = true) (h0 : x.catchType ≠ 0) (hts : ∀ w ∈ TB, w.before args s = true) (hSR : SR s) (hlink : Cond.classLink "HallGuardsLaw" x.catchType (exn kk) ∈ TB) (hcast : Cond.castable (exn kk) (exn kk) ∈ TF) (hce : H[q]? = some ce) (hcv : ce.vm = .none) (hcl : s.vm.findClass (exn kk) = some ce.cls)
    (k9 : W p l e R s m args below meth c H locs cells slots Q (F0 m x.handlerPc ls [.ref q])) : vx_W p l e R s m args below meth c H locs cells slots Q (F0 m pc ls rest) q := by
  have hlt : i < (tableOf hh).length := (List.getElem?_eq_some_iff.mp hi).1
  have hx : (tableOf hh)[i] = x := (List.getElem?_eq_some_iff.mp hi).2
  refine vx_catch (E := exn kk) (name := exn kk) hown ((tableOf hh).take i) x ((tableOf hh).drop (i + 1)) ?_ (fun z hz => Or.inr (hpass z hz)) hcov h0 (hts _ hlink) (va_Nw.use (okFace_tab (List.mem_filter.mp hcast).2) (hSR.2 _ hcast)) hce hcv hcl k9
  rw [htab, ← hx, List.getElem_cons_drop, List.take_append_drop]
theorem xrC0 {v : Int64} {k0 : Nat} (hv : k0 = 0) (hx : p.tables.exec = Jvm.exec) (hb : c.code = cc) (hr : meth.sig.returnType = some .long) (hlocks : meth.locks = false) (hna : s.heap.size ≤ na) (hP : va_P g.1 vwCl (c0 na) H) (hD : va_D A (c0 na)) (hS : va_S A s.heap H locs) (hc : cells ≤ mc) (hs : slots ≤ ms) (hdg : decode cc pc = .ok (.lreturn, 1)) : W p l e R s m args below meth c H locs cells slots (vx_MQ below (qX g 0 (some (.long v)) (fun na => if k0 = 0 then c0 na else c1 na) A) (xX g 0 csx A) args s mc ms A) (F0 m pc ls [.long v]) :=
  xrJ (na := na) hx hb hr hlocks hna (by rw [if_pos hv]; exact hP) (by rw [if_pos hv]; exact hD) hS hc hs hdg
theorem xrC1 {v : Int64} {k0 : Nat} (hv : ¬ k0 = 0) (hx : p.tables.exec = Jvm.exec) (hb : c.code = cc) (hr : meth.sig.returnType = some .long) (hlocks : meth.locks = false) (hna : s.heap.size ≤ na) (hP : va_P g.1 vwCl (c1 na) H) (hD : va_D A (c1 na)) (hS : va_S A s.heap H locs) (hc : cells ≤ mc) (hs : slots ≤ ms) (hdg : decode cc pc = .ok (.lreturn, 1)) : W p l e R s m args below meth c H locs cells slots (vx_MQ below (qX g 0 (some (.long v)) (fun na => if k0 = 0 then c0 na else c1 na) A) (xX g 0 csx A) args s mc ms A) (F0 m pc ls [.long v]) :=
  xrJ (na := na) hx hb hr hlocks hna (by rw [if_neg hv]; exact hP) (by rw [if_neg hv]; exact hD) hS hc hs hdg
end BASE9

/-! ===== one list of words for all methods; contracts that read alone; the pieces of programs that are read off the bytecode ===== -/
def okNest : Cond → Bool
  | .fieldLinkNest .. => true
  | .methodLinkNest .. => true
  | _ => false
def TB : List Cond := lw_tbl.filter goodWord
def TN : List Cond := lw_tbl.filter okNest
theorem mTB {w : Cond} (i : Nat) (h : lw_tbl[i]? = some w) (hg : goodWord w = true) : w ∈ TB := List.mem_filter.mpr ⟨List.mem_of_getElem? h, hg⟩
theorem mTN {w : Cond} (i : Nat) (h : lw_tbl[i]? = some w) (hg : okNest w = true) : w ∈ TN := List.mem_filter.mpr ⟨List.mem_of_getElem? h, hg⟩
theorem TB_good {w : Cond} (hw : w ∈ TB) : (w.onTables && w.keeps) = true ∨ ∃ ty, w = .arrayClass ty := good_of_word (List.mem_filter.mp hw).2
theorem TB_in {w : Cond} (hw : w ∈ TB) : w ∈ lw_tbl := (List.mem_filter.mp hw).1
theorem goodTB {w : Cond} (h : w ∈ TB) : GoodIn TB (w :: TB) := by
  intro w' hw'
  rcases List.mem_cons.mp hw' with rfl | h'
  · exact ⟨h, TB_good h⟩
  · exact ⟨h', TB_good h'⟩
abbrev GE : Type := va_G × ClassId × ClassId × ClassId × ClassId
def tyL (g : GE) : List (ClassId × FieldType) := [(g.2.1, .int), (g.2.2.1, .int), (g.2.2.2.1, .boolean), (g.2.2.2.2, .object "HallGuards$State")]
def EV (g : GE) (U : State) : Prop := va_K g.1 vwCl (tyL g) U ∧ ∀ w ∈ TN, va_Nw w U
theorem okNest_tab {w : Cond} (h : okNest w = true) : w.onTables = true := by
  cases w <;> first | rfl | (simp [okNest] at h)
theorem okNest_warm {w : Cond} (h2 : okNest w = true) {s U : State} (hW : s.WarmedH U.vm) (h1 : va_Nw w s) : va_Nw w U := by
  cases w <;> first | exact va_Nw.warmF hW h1 | exact va_Nw.warmM hW h1 | (simp [okNest] at h2)
theorem EV.warm {g : GE} {s U : State} (hW : s.WarmedH U.vm) (h : EV g s) : EV g U :=
  ⟨va_K.moved hW.alike h.1, fun w hw => okNest_warm (List.mem_filter.mp hw).2 hW (h.2 w hw)⟩
theorem EV.same {g : GE} {u U : State} (hvm : u.vm = U.vm) (h : EV g u) : EV g U :=
  ⟨va_K.moved (by rw [hvm]; exact Vm.Alike.refl _) h.1, fun w hw => va_Nw.same (okNest_tab (List.mem_filter.mp hw).2) hvm (h.2 w hw)⟩
/-- a start: the tables, and cells -/
def BP (g : GE) (cs : va_W) : State → Prop := fun U => EV g U ∧ va_P g.1 vwCl cs U.heap
theorem BP_blind {g : GE} {cs : va_W} {av : List Value} : FrameBlind (va_Pc av (BP g cs)) := fun a U g' mk h => ⟨h.1, EV.same (u := U) (U := U.calling g' mk a) rfl h.2.1, h.2.2⟩
abbrev QC : Type := Array Value → State → Outcome → State → Prop
def qI (v : Int32) : QC := fun _ st o t => o = .returned (some (.int v)) ∧ t.heap = st.heap
def qJ (v : Int64) : QC := fun _ st o t => o = .returned (some (.long v)) ∧ t.heap = st.heap
def noF : Addr → Prop := fun _ => False
theorem met_intro {l : Launch} {y : MethodName} {cc : ByteArray} {maxL : Nat} {ret : Option FieldType} {rm : Room} {av : List Value} {B : State → Prop} {Qc : QC} {mc ms : Nat} {free : Addr → Prop}
    (hy : plainName y.cls = true) (hn : Nat.ble (lg_sl av).length maxL = true)
    (body : ∀ (p : Program) (e : Env) (s : State) (m : MethodId) (below : List Frame) (meth : Method) (c : Code), p.tables.exec = Jvm.exec → c.code = cc → c.maxLocals = maxL → meth.sig.returnType = ret → meth.locks = false → s.vm.findClass y.cls = some m.cls → (∀ w ∈ TB, w.before av.toArray s = true) → meth.name = y.name → B s → ∀ ls : Array Slot, lv_has ls maxL (lv_args 0 av) → W p l e rm s m av.toArray below meth c s.heap [] 0 0 (MQ below Qc av.toArray s mc ms free) (F0 m 0 ls [])) : Met l y (.code y cc maxL ret :: TB) rm (va_Pc av B) Qc mc ms free := by
  refine Met.ofW (cc := cc) (maxL := maxL) (ret := ret) hy rfl ?_
  intro p e s m args below meth c s₁ Bd hml hv
  obtain ⟨rfl, hB⟩ := hv
  have hts := atoms_spec (ws := .code y cc maxL ret :: TB) Bd.pre
  have hl := lv_entry av (n := maxL) (Nat.le_of_ble_eq_true hn)
  rw [lg_entry_eq]
  exact body p e s m below meth c Bd.exec Bd.bytes hml Bd.returns Bd.notSynchronized (findClass_of_methodNamed Bd.named) (fun w hw => hts w (List.mem_cons_of_mem _ hw)) (name_of_methodNamed Bd.named Bd.method).1 hB _ hl
/-- what every call of a method needs of the tables -/
def CF (y : MethodName) (bytes : ByteArray) (maxL : Nat) (ret : Option FieldType) (n : Nat) : Prop := Cond.code y bytes maxL ret ∈ TB ∧ Cond.initialized y.cls ∈ TB ∧ y.cls ≠ "java/lang/invoke/MethodHandle" ∧ y.cls ≠ "java/lang/invoke/VarHandle" ∧ (parseMethodDescriptor y.desc).map (fun d => d.parameters.length) = some n
section BASE
variable {p : Program} {l : Launch} {e : Env} {R : Room} {s : State} {m : MethodId} {args : Array Value} {below : List Frame} {meth : Method} {c : Code} {H : Heap} {locs : List Loc} {cells slots : Nat} {Q : State → Prop}
variable {y : MethodName} {bytes cc : ByteArray} {maxL nL mc ms n idx pc fr lo : Nat} {ret : Option FieldType} {rm : Room} {B : State → Prop} {Qc : QC} {free : Addr → Prop} {own : String} {b : Addr} {As rest st0 : List Value} {ls : Array Slot} {g : GE} {cs : va_W}
theorem runS_TB (S : CallFix p m c cc nL s args TB own) (hM : Met l y (.code y bytes maxL ret :: TB) rm (va_Pc As B) Qc mc ms free) (hrc : rm.cells = mc) (hrs : rm.slots = ms) (cf : CF y bytes maxL ret n) (hst : Cond.static y ∈ TB) (hl : Cond.methodLink own idx y ∈ TB)
    (hR : rm.frames + 1 ≤ R.frames ∧ 8 + (maxL + 11) + rm.locals ≤ R.locals) (hbl : FrameBlind (va_Pc As B)) (hpre : ∀ U : State, U.heap = H → s.WarmedH U.vm → B U) (hn : As.length = n) (hsize : ls.size = nL) (hstack : st0 = As.reverse ++ rest) (hW : (rest.map fun v => v.category).sum ≤ 8) (hdg : decode cc pc = .ok (.invokestatic idx, 3)) (hf : cells + mc ≤ R.cells ∧ slots + ms ≤ R.slots) :
    va_Run p l e R s m args below meth c H locs cells slots mc ms (F0 m pc ls st0) rest (Qc As.toArray) free :=
  va_runS S hM ⟨callB_of n S.2.2.2.2 (goodTB cf.1) rfl hrc hrs (S.2.2.2.2 _ cf.2.1) (S.2.2.2.2 _ hl) cf.2.2 hR, S.2.2.2.2 _ hst⟩ ⟨hbl, fun U h1 h2 => ⟨rfl, hpre U h1 h2⟩⟩ rfl hn hsize hstack (lv_room hW) hdg hf
theorem runSN_TB {host : String} (S : CallFix p m c cc nL s args TB own) (hE : EV g s) (hM : Met l y (.code y bytes maxL ret :: TB) rm (va_Pc As B) Qc mc ms free) (hrc : rm.cells = mc) (hrs : rm.slots = ms) (cf : CF y bytes maxL ret n) (hst : Cond.static y ∈ TB) (hl : Cond.methodLinkNest own idx y host ∈ TN)
    (hR : rm.frames + 1 ≤ R.frames ∧ 8 + (maxL + 11) + rm.locals ≤ R.locals) (hbl : FrameBlind (va_Pc As B)) (hpre : ∀ U : State, U.heap = H → s.WarmedH U.vm → B U) (hn : As.length = n) (hsize : ls.size = nL) (hstack : st0 = As.reverse ++ rest) (hW : (rest.map fun v => v.category).sum ≤ 8) (hdg : decode cc pc = .ok (.invokestatic idx, 3)) (hf : cells + mc ≤ R.cells ∧ slots + ms ≤ R.slots) :
    va_Run p l e R s m args below meth c H locs cells slots mc ms (F0 m pc ls st0) rest (Qc As.toArray) free :=
  va_runSN S hM ⟨va_cnB n S.2.2.2.2 (goodTB cf.1) rfl hrc hrs (hE.2 _ hl) (S.2.2.2.2 _ cf.2.1) cf.2.2 hR, S.2.2.2.2 _ hst, trivial⟩ ⟨hbl, fun U h1 h2 => ⟨rfl, hpre U h1 h2⟩⟩ rfl hn hsize hstack (lv_room hW) hdg hf
theorem recv_TB {ci q0 : Nat} {q : vw_C} {fs : List Value} {ws : va_W} (hE : EV g s) (hP : va_P g.1 vwCl ws H) (hc : vwCl[ci]? = some q) (he : ws[q0]? = some (b, .inr (ci, fs))) : ∃ cell : Cell, H[b]? = some cell ∧ cell.vm.isStatics = false ∧ s.vm.findClass q.1 = some cell.cls := va_recv hE.1 hP hc he
theorem runV_TB (S : CallFix p m c cc nL s args TB own) (hM : Met l y (.code y bytes maxL ret :: TB) rm (va_Pc (.ref b :: As) B) Qc mc ms free) (hrc : rm.cells = mc) (hrs : rm.slots = ms) (cf : CF y bytes maxL ret n) (hin : Cond.instanceMethod y ∈ TB) (hse : Cond.selects y.cls y y ∈ TB) (hl : Cond.methodLink own idx y ∈ TB)
    (hR : rm.frames + 1 ≤ R.frames ∧ 8 + (maxL + 11) + rm.locals ≤ R.locals) (hbl : FrameBlind (va_Pc (.ref b :: As) B)) (hrv : ∃ cell : Cell, H[b]? = some cell ∧ cell.vm.isStatics = false ∧ s.vm.findClass y.cls = some cell.cls) (hpre : ∀ U : State, U.heap = H → s.WarmedH U.vm → B U) (hn : As.length = n) (hsize : ls.size = nL) (hstack : st0 = As.reverse ++ .ref b :: rest) (hW : (rest.map fun v => v.category).sum ≤ 8) (hdg : decode cc pc = .ok (.invokevirtual idx, 3)) (hf : cells + mc ≤ R.cells ∧ slots + ms ≤ R.slots) :
    va_Run p l e R s m args below meth c H locs cells slots mc ms (F0 m pc ls st0) rest (Qc (Value.ref b :: As).toArray) free :=
  va_runV S hM ⟨callB_of n S.2.2.2.2 (goodTB cf.1) rfl hrc hrs (S.2.2.2.2 _ cf.2.1) (S.2.2.2.2 _ hl) cf.2.2 hR, S.2.2.2.2 _ hin, S.2.2.2.2 _ hse⟩ ⟨hbl, hrv, fun U h1 h2 => ⟨rfl, hpre U h1 h2⟩⟩ rfl hn hsize hstack (lv_room hW) hdg hf
theorem runVN_TB {host : String} (S : CallFix p m c cc nL s args TB own) (hE : EV g s) (hM : Met l y (.code y bytes maxL ret :: TB) rm (va_Pc (.ref b :: As) B) Qc mc ms free) (hrc : rm.cells = mc) (hrs : rm.slots = ms) (cf : CF y bytes maxL ret n) (hin : Cond.instanceMethod y ∈ TB) (hse : Cond.selects y.cls y y ∈ TB) (hl : Cond.methodLinkNest own idx y host ∈ TN)
    (hR : rm.frames + 1 ≤ R.frames ∧ 8 + (maxL + 11) + rm.locals ≤ R.locals) (hbl : FrameBlind (va_Pc (.ref b :: As) B)) (hrv : ∃ cell : Cell, H[b]? = some cell ∧ cell.vm.isStatics = false ∧ s.vm.findClass y.cls = some cell.cls) (hpre : ∀ U : State, U.heap = H → s.WarmedH U.vm → B U) (hn : As.length = n) (hsize : ls.size = nL) (hstack : st0 = As.reverse ++ .ref b :: rest) (hW : (rest.map fun v => v.category).sum ≤ 8) (hdg : decode cc pc = .ok (.invokevirtual idx, 3)) (hf : cells + mc ≤ R.cells ∧ slots + ms ≤ R.slots) :
    va_Run p l e R s m args below meth c H locs cells slots mc ms (F0 m pc ls st0) rest (Qc (Value.ref b :: As).toArray) free :=
  va_runVN S hM ⟨va_cnB n S.2.2.2.2 (goodTB cf.1) rfl hrc hrs (hE.2 _ hl) (S.2.2.2.2 _ cf.2.1) cf.2.2 hR, S.2.2.2.2 _ hin, S.2.2.2.2 _ hse⟩ ⟨hbl, hrv, fun U h1 h2 => ⟨rfl, hpre U h1 h2⟩⟩ rfl hn hsize hstack (lv_room hW) hdg hf
/-! behind a call that writes nothing -/
theorem rcI {v : Int32} {a : Array Value} (hr : va_Run p l e R s m args below meth c H locs cells slots 0 0 (F0 m pc ls st0) rest (qI v a) noF) (kk : W p l e R s m args below meth c H locs cells slots Q (F0 m (pc + 3) ls (.int v :: rest))) : W p l e R s m args below meth c H locs cells slots Q (F0 m pc ls st0) := by
  intro T hT X
  obtain ⟨v', st₀, t, T', L, h0, X', hL, e1, e2, ⟨hv, hh⟩, st⟩ := hr T hT X
  cases hv
  have hL0 : L = [] := by
    cases L with
    | nil => rfl
    | cons q _ => exact (hL q List.mem_cons_self).elim
  subst hL0
  rw [List.append_nil] at X'
  obtain ⟨t2, a1, b1⟩ := kk T' (by rw [e1, hh, h0]) X'
  exact ⟨t2, st t2 a1, b1⟩
theorem rcJ {v : Int64} {a : Array Value} (hr : va_Run p l e R s m args below meth c H locs cells slots 0 0 (F0 m pc ls st0) rest (qJ v a) noF) (kk : W p l e R s m args below meth c H locs cells slots Q (F0 m (pc + 3) ls (.long v :: rest))) : W p l e R s m args below meth c H locs cells slots Q (F0 m pc ls st0) := by
  intro T hT X
  obtain ⟨v', st₀, t, T', L, h0, X', hL, e1, e2, ⟨hv, hh⟩, st⟩ := hr T hT X
  cases hv
  have hL0 : L = [] := by
    cases L with
    | nil => rfl
    | cons q _ => exact (hL q List.mem_cons_self).elim
  subst hL0
  rw [List.append_nil] at X'
  obtain ⟨t2, a1, b1⟩ := kk T' (by rw [e1, hh, h0]) X'
  exact ⟨t2, st t2 a1, b1⟩
/-! ends that write nothing -/
theorem rI {x v : Int32} (hx : p.tables.exec = Jvm.exec) (hb : c.code = cc) (hr : meth.sig.returnType = some .int) (hlocks : meth.locks = false) (hv : x = v) (hdg : decode cc pc = .ok (.ireturn, 1)) : W p l e R s m args below meth c s.heap [] 0 0 (MQ below (qI v) args s 0 0 noF) (F0 m pc ls [.int x]) := by
  subst hv
  exact W.iret hx hb hr (fun t ht _ => ⟨rfl, ht⟩) (fun q h => by cases h) hdg hlocks
theorem narrow_01 {v : Int32} (h : v = 0 ∨ v = 1) : narrow .boolean (.int v) = .int v := by
  rcases h with rfl | rfl <;> rfl
theorem rZ {x v : Int32} (hx : p.tables.exec = Jvm.exec) (hb : c.code = cc) (hr : meth.sig.returnType = some .boolean) (hlocks : meth.locks = false) (h01 : x = 0 ∨ x = 1) (hv : x = v) (hdg : decode cc pc = .ok (.ireturn, 1)) : W p l e R s m args below meth c s.heap [] 0 0 (MQ below (qI v) args s 0 0 noF) (F0 m pc ls [.int x]) := by
  subst hv
  exact W.zret hx hb hr (narrow_01 h01) (fun t ht _ => ⟨rfl, ht⟩) (fun q h => by cases h) hdg hlocks
theorem rJ {x v : Int64} (hx : p.tables.exec = Jvm.exec) (hb : c.code = cc) (hr : meth.sig.returnType = some .long) (hlocks : meth.locks = false) (hv : x = v) (hdg : decode cc pc = .ok (.lreturn, 1)) : W p l e R s m args below meth c s.heap [] 0 0 (MQ below (qJ v) args s 0 0 noF) (F0 m pc ls [.long x]) := by
  subst hv
  exact W.lret hx hb hr (fun t ht _ => ⟨rfl, ht⟩) (fun q h => by cases h) hdg hlocks
theorem lv_eqi {x z : Int32} (h : x = z) (k : W p l e R s m args below meth c H locs cells slots Q (F0 m pc ls (.int x :: rest))) : W p l e R s m args below meth c H locs cells slots Q (F0 m pc ls (.int z :: rest)) := h ▸ k
theorem lv_eqj {x z : Int64} (h : x = z) (k : W p l e R s m args below meth c H locs cells slots Q (F0 m pc ls (.long x :: rest))) : W p l e R s m args below meth c H locs cells slots Q (F0 m pc ls (.long z :: rest)) := h ▸ k
/-! contracts that read alone -/
def PI (l : Launch) (y : MethodName) (bytes : ByteArray) (maxL : Nat) (ret : Option FieldType) (fr lo : Nat) (g : GE) (cs : va_W) (As : List Value) (v : Int32) : Prop := Met l y (.code y bytes maxL ret :: TB) { frames := fr, cells := 0, slots := 0, locals := lo } (va_Pc As (BP g cs)) (qI v) 0 0 noF
def PJ (l : Launch) (y : MethodName) (bytes : ByteArray) (maxL : Nat) (ret : Option FieldType) (fr lo : Nat) (g : GE) (cs : va_W) (As : List Value) (v : Int64) : Prop := Met l y (.code y bytes maxL ret :: TB) { frames := fr, cells := 0, slots := 0, locals := lo } (va_Pc As (BP g cs)) (qJ v) 0 0 noF
theorem pS {v : Int32} (S : CallFix p m c cc nL s args TB own) (hE : EV g s) (hM : PI l y bytes maxL ret fr lo g cs As v) (cf : CF y bytes maxL ret n) (hst : Cond.static y ∈ TB) (hl : Cond.methodLink own idx y ∈ TB) (hR : fr + 1 ≤ R.frames ∧ 8 + (maxL + 11) + lo ≤ R.locals) (hP : va_P g.1 vwCl cs H) (hn : As.length = n) (hsize : ls.size = nL) (hstack : st0 = As.reverse ++ rest) (hW : (rest.map fun v => v.category).sum ≤ 8) (hdg : decode cc pc = .ok (.invokestatic idx, 3)) (hf : cells ≤ R.cells ∧ slots ≤ R.slots) (kk : W p l e R s m args below meth c H locs cells slots Q (F0 m (pc + 3) ls (.int v :: rest))) : W p l e R s m args below meth c H locs cells slots Q (F0 m pc ls st0) :=
  rcI (runS_TB S hM rfl rfl cf hst hl hR BP_blind (fun U hU hW => ⟨hE.warm hW, by rw [hU]; exact hP⟩) hn hsize hstack hW hdg hf) kk
theorem pSN {host : String} {v : Int32} (S : CallFix p m c cc nL s args TB own) (hE : EV g s) (hM : PI l y bytes maxL ret fr lo g cs As v) (cf : CF y bytes maxL ret n) (hst : Cond.static y ∈ TB) (hl : Cond.methodLinkNest own idx y host ∈ TN) (hR : fr + 1 ≤ R.frames ∧ 8 + (maxL + 11) + lo ≤ R.locals) (hP : va_P g.1 vwCl cs H) (hn : As.length = n) (hsize : ls.size = nL) (hstack : st0 = As.reverse ++ rest) (hW : (rest.map fun v => v.category).sum ≤ 8) (hdg : decode cc pc = .ok (.invokestatic idx, 3)) (hf : cells ≤ R.cells ∧ slots ≤ R.slots) (kk : W p l e R s m args below meth c H locs cells slots Q (F0 m (pc + 3) ls (.int v :: rest))) : W p l e R s m args below meth c H locs cells slots Q (F0 m pc ls st0) :=
  rcI (runSN_TB S hE hM rfl rfl cf hst hl hR BP_blind (fun U hU hW => ⟨hE.warm hW, by rw [hU]; exact hP⟩) hn hsize hstack hW hdg hf) kk
theorem pV {v : Int32} {ci q0 : Nat} {q : vw_C} {fs : List Value} (S : CallFix p m c cc nL s args TB own) (hE : EV g s) (hM : PI l y bytes maxL ret fr lo g cs (.ref b :: As) v) (cf : CF y bytes maxL ret n) (hin : Cond.instanceMethod y ∈ TB) (hse : Cond.selects y.cls y y ∈ TB) (hl : Cond.methodLink own idx y ∈ TB) (hR : fr + 1 ≤ R.frames ∧ 8 + (maxL + 11) + lo ≤ R.locals) (hP : va_P g.1 vwCl cs H) (hc : vwCl[ci]? = some q) (hq : y.cls = q.1) (he : cs[q0]? = some (b, .inr (ci, fs))) (hn : As.length = n) (hsize : ls.size = nL) (hstack : st0 = As.reverse ++ .ref b :: rest) (hW : (rest.map fun v => v.category).sum ≤ 8) (hdg : decode cc pc = .ok (.invokevirtual idx, 3)) (hf : cells ≤ R.cells ∧ slots ≤ R.slots) (kk : W p l e R s m args below meth c H locs cells slots Q (F0 m (pc + 3) ls (.int v :: rest))) : W p l e R s m args below meth c H locs cells slots Q (F0 m pc ls st0) :=
  rcI (runV_TB S hM rfl rfl cf hin hse hl hR BP_blind (by rw [hq]; exact recv_TB hE hP hc he) (fun U hU hW => ⟨hE.warm hW, by rw [hU]; exact hP⟩) hn hsize hstack hW hdg hf) kk
theorem pVN {host : String} {v : Int32} {ci q0 : Nat} {q : vw_C} {fs : List Value} (S : CallFix p m c cc nL s args TB own) (hE : EV g s) (hM : PI l y bytes maxL ret fr lo g cs (.ref b :: As) v) (cf : CF y bytes maxL ret n) (hin : Cond.instanceMethod y ∈ TB) (hse : Cond.selects y.cls y y ∈ TB) (hl : Cond.methodLinkNest own idx y host ∈ TN) (hR : fr + 1 ≤ R.frames ∧ 8 + (maxL + 11) + lo ≤ R.locals) (hP : va_P g.1 vwCl cs H) (hc : vwCl[ci]? = some q) (hq : y.cls = q.1) (he : cs[q0]? = some (b, .inr (ci, fs))) (hn : As.length = n) (hsize : ls.size = nL) (hstack : st0 = As.reverse ++ .ref b :: rest) (hW : (rest.map fun v => v.category).sum ≤ 8) (hdg : decode cc pc = .ok (.invokevirtual idx, 3)) (hf : cells ≤ R.cells ∧ slots ≤ R.slots) (kk : W p l e R s m args below meth c H locs cells slots Q (F0 m (pc + 3) ls (.int v :: rest))) : W p l e R s m args below meth c H locs cells slots Q (F0 m pc ls st0) :=
  rcI (runVN_TB S hE hM rfl rfl cf hin hse hl hR BP_blind (by rw [hq]; exact recv_TB hE hP hc he) (fun U hU hW => ⟨hE.warm hW, by rw [hU]; exact hP⟩) hn hsize hstack hW hdg hf) kk
end BASE
/-! ===== programs: what is read off the bytecode ===== -/
def bnd {α β : Type} (x : α) (k : α → Option β) : Option β := k x
def grd {β : Type} (b : Bool) (k : Option β) : Option β := match b with | true => k | false => none
def jn {α β : Type} (x : α) (k : α → β) : β := k x
def lp {σ ρ : Type} (B : (σ → Option ρ) → σ → Option ρ) : Nat → σ → Option ρ
  | 0, _ => none
  | n + 1, s => B (lp B n) s
theorem bnd_e {α β : Type} {x : α} {k : α → Option β} {r : Option β} (h : bnd x k = r) : ∃ z : α, z = x ∧ k z = r := ⟨x, rfl, h⟩
theorem grd_e {β : Type} {b : Bool} {k : Option β} {r : β} (h : grd b k = some r) : b = true ∧ k = some r := by
  cases b with
  | true => exact ⟨rfl, h⟩
  | false => cases h
theorem jn_e {α β : Type} {x : α} {k : α → β} {r : β} (h : jn x k = r) : ∃ z : α, z = x ∧ k z = r := ⟨x, rfl, h⟩
theorem opt_e {α β : Type} {x : Option α} {k : α → Option β} {r : β} (h : x.bind k = some r) : ∃ z : α, x = some z ∧ k z = some r := by
  cases x with
  | none => cases h
  | some z => exact ⟨z, rfl, h⟩
theorem ite_t {c : Prop} [Decidable c] {β : Type} {a b r : β} (h : c) (e : (if c then a else b) = r) : a = r := by rw [if_pos h] at e; exact e
theorem ite_f {c : Prop} [Decidable c] {β : Type} {a b r : β} (h : ¬ c) (e : (if c then a else b) = r) : b = r := by rw [if_neg h] at e; exact e
theorem lp_i {σ ρ : Type} {B : (σ → Option ρ) → σ → Option ρ} {r : ρ} (P : σ → Prop) (hs : ∀ self : σ → Option ρ, (∀ s, self s = some r → P s) → ∀ s, B self s = some r → P s) : ∀ (n : Nat) (s : σ), lp B n s = some r → P s
  | 0, _, h => by cases h
  | n + 1, s, h => hs (lp B n) (fun s' h' => lp_i P hs n s' h') s h
theorem some_e {α : Type} {a b : α} (h : some a = some b) : a = b := Option.some.inj h
/-- an index in its row -/
def inB (i : Int32) (n : Nat) : Bool := !(decide (i < 0) || decide (n ≤ i.toNatClampNeg))
theorem inB_vp {i : Int32} {n : Nat} (h : inB i n = true) : vp_in i n := by
  simp only [inB, Bool.not_eq_true', Bool.or_eq_false_iff, decide_eq_false_iff_not] at h
  intro q
  rcases q with q | q
  · exact h.1 q
  · exact h.2 q
def is01 (i : Int32) : Bool := decide (i = 0) || decide (i = 1)
theorem is01_e {i : Int32} (h : is01 i = true) : i = 0 ∨ i = 1 := by
  simp only [is01, Bool.or_eq_true, decide_eq_true_eq] at h
  exact h

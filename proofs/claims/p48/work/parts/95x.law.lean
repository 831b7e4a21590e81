/-! ===== calls at the law's own level: what lies outside is kept ===== -/
def Fw (ws : va_W) : Nat → Prop := fun q => ∃ (k : Nat) (e : va_E), ws[k]? = some (q, e)
theorem OC_in {g : GE} {U : State} {H : Heap} {F : Nat → Prop} {cs : va_W} (hF : ∀ (k q : Nat) (e : va_E), cs[k]? = some (q, e) → F q) : ∀ (ch : List PC) (lat : Option Nat), OC g ch lat F U H → OC g ch lat (va_A cs H.size) U H
  | [], _, h => h
  | x :: t, lat, ⟨a, bef, h1, h2, h3, h4⟩ => ⟨a, bef, h1, h2, fun z => by
      rcases z with ⟨k, e, z⟩ | z
      · exact h3 (hF k a e z)
      · have := (h2 0 _ rfl).lt
        omega, OC_in hF t bef h4⟩
theorem OC_keep {g : GE} {U : State} {H H1 : Heap} {F : Nat → Prop} {cs : va_W} (hF : ∀ (k q : Nat) (e : va_E), cs[k]? = some (q, e) → F q) (hfr : ∀ q : Nat, q < H.size → ¬ va_A cs H.size q → H1[q]? = H[q]?) {ch : List PC} {lat : Option Nat} (h : OC g ch lat F U H) : OC g ch lat F U H1 :=
  (OC_ok g ch lat).2.1 F U H H1 (fun a ha hn => hfr a ha (fun z => by
    rcases z with ⟨k, e, z⟩ | z
    · exact hn (hF k a e z)
    · omega)) h
theorem OZ_law {g : GE} {s : State} {H : Heap} {locs : List Loc} {F A : Nat → Prop} {cs : va_W} {zc zp : Nat} (hOS : OS zc zp A s s.heap) (hOT : OT A s s.heap) (hS : va_S A s.heap H locs) (hfree : ∀ q, va_A cs H.size q → A q) (hF : ∀ (k q : Nat) (e : va_E), cs[k]? = some (q, e) → F q) {ch : List PC} {lat : Option Nat} (h : OC g ch lat F s H) : OZ g zc zp ch lat (va_A cs H.size) s H :=
  ⟨(OS_ok zc zp).to hOS hS (Vm.Alike.refl _) hfree, OT_ok.to hOT hS (Vm.Alike.refl _) hfree, OC_in hF ch lat h⟩
def CFW (y : MethodName) (bytes : ByteArray) (maxL : Nat) (hh : List (Nat × Nat × Nat × Nat)) (n : Nat) : Prop := Cond.codeWith y bytes maxL (some .long) hh ∈ TB ∧ Cond.initialized y.cls ∈ TB ∧ y.cls ≠ "java/lang/invoke/MethodHandle" ∧ y.cls ≠ "java/lang/invoke/VarHandle" ∧ (parseMethodDescriptor y.desc).map (fun d => d.parameters.length) = some n
section LAWC
variable {p : Program} {l : Launch} {e : Env} {R : Room} {s : State} {m : MethodId} {args : Array Value} {below : List Frame} {meth : Method} {c : Code} {H H0 : Heap} {locs : List Loc} {cells slots : Nat} {Q : State → Prop}
variable {y : MethodName} {bytes cc : ByteArray} {maxL nL mc ms n idx pc fr lo k nn : Nat} {ret : Option FieldType} {own : String} {b : Addr} {As rest st0 : List Value} {ls : Array Slot} {g : GE} {cs ws wr cs1 : va_W} {cs' : Nat → va_W} {c0 c1 : List Nat → Option Nat → va_W} {A : Nat → Prop} {O : OX} {o : Option Value} {hh : List (Nat × Nat × Nat × Nat)} {k9 : Nat} {v : Int64}
theorem rcWf {a : Array Value} (hr : va_Run p l e R s m args below meth c H locs cells slots 0 0 (F0 m pc ls st0) rest (qW g o cs1 (va_A cs H.size) a) (va_A cs H.size)) (hP : va_P g.1 vwCl ws H) (hD : va_D A ws) (hS : va_S A H0 H locs) (hA : ∀ q : Nat, H0.size ≤ q → A q) (isC isR : List Nat) (hC : isC.map (fun i => ws[i]?) = cs.map some) (hR : isR.map (fun i => ws[i]?) = wr.map some) (hn : va_nd isR = true) (hdis : ∀ i ∈ isR, i ∉ isC)
    (kk : ∀ (H1 : Heap) (locs1 : List Loc), va_P g.1 vwCl (wr ++ cs1) H1 → va_D A (wr ++ cs1) → va_S A H0 H1 locs1 → (∀ q : Nat, q < H.size → ¬ va_A cs H.size q → H1[q]? = H[q]?) → W p l e R s m args below meth c H1 locs1 cells slots Q (F0 m (pc + 3) ls (o.toList ++ rest))) : W p l e R s m args below meth c H locs cells slots Q (F0 m pc ls st0) := by
  intro T hT X
  obtain ⟨v', st₀, t, T', L, h0, X', hL, e1, e2, ⟨⟨hv, hP1, hD1⟩, hz, hk⟩, st⟩ := hr T hT X
  cases hv
  rw [h0] at hz hk
  have hF := va_free (wc := cs) hD hS hA isC hC
  have hk1 : ∀ q : Nat, q < H.size → ¬ va_A cs H.size q → T'.heap[q]? = H[q]? := fun q h1 h2 => by rw [e1]; exact hk q h1 h2
  rw [← e1] at hP1
  obtain ⟨hP2, hD2⟩ := va_join (wr := wr) (w1 := cs1) hP hD isC isR hC hR hn hdis hk1 hF hP1 hD1
  obtain ⟨t2, a1, b1⟩ := kk T'.heap (locs ++ L) hP2 hD2 ⟨Nat.le_trans hS.1 (by rw [e1]; exact hz), fun q h1 h2 => by rw [hk1 q (Nat.lt_of_lt_of_le h1 hS.1) (fun z => h2 (hF q z))]; exact hS.2.1 q h1 h2, fun q hq => by
      rcases List.mem_append.mp hq with h | h
      · exact hS.2.2 q h
      · exact hF _ (hL q h)⟩ hk1 T' rfl X'
  exact ⟨t2, st t2 a1, b1⟩
/-- a method that writes, and makes nothing -/
theorem lwV {ci q0 : Nat} {q : vw_C} {fs : List Value} (S : CallFix p m c cc nL s args TB own) (hE : EV g s) (hM : WM l y bytes maxL ret fr lo g cs (.ref b :: As) o cs1) (cf : CF y bytes maxL ret n) (hin : Cond.instanceMethod y ∈ TB) (hse : Cond.selects y.cls y y ∈ TB) (hl : Cond.methodLink own idx y ∈ TB) (hR : fr + 1 ≤ R.frames ∧ 8 + (maxL + 11) + lo ≤ R.locals) (hP : va_P g.1 vwCl ws H) (hD : va_D A ws) (hS : va_S A H0 H locs) (hA : ∀ q : Nat, H0.size ≤ q → A q) (isC isR : List Nat) (hC : isC.map (fun i => ws[i]?) = cs.map some) (hR2 : isR.map (fun i => ws[i]?) = wr.map some) (hn2 : va_nd isR = true ∧ va_nd isC = true) (hdis : ∀ i ∈ isR, i ∉ isC) (hc : vwCl[ci]? = some q) (hq : y.cls = q.1) (he : cs[q0]? = some (b, .inr (ci, fs))) (hn : As.length = n) (hsize : ls.size = nL) (hstack : st0 = As.reverse ++ .ref b :: rest) (hW : (rest.map fun v => v.category).sum ≤ 8) (hdg : decode cc pc = .ok (.invokevirtual idx, 3)) (hf : cells + 0 ≤ R.cells ∧ slots + 0 ≤ R.slots)
    (kk : ∀ (H1 : Heap) (locs1 : List Loc), va_P g.1 vwCl (wr ++ cs1) H1 → va_D A (wr ++ cs1) → va_S A H0 H1 locs1 → (∀ q : Nat, q < H.size → ¬ va_A cs H.size q → H1[q]? = H[q]?) → W p l e R s m args below meth c H1 locs1 cells slots Q (F0 m (pc + 3) ls (o.toList ++ rest))) : W p l e R s m args below meth c H locs cells slots Q (F0 m pc ls st0) :=
  rcWf (runV_TB S (hM H.size) rfl rfl cf hin hse hl hR BW_blind (by rw [hq]; exact recv_TB hE (sub_P hP hC) hc he) (fun U hU hW => ⟨by rw [hU], hE.warm hW, by rw [hU]; exact sub_P hP hC, sub_D hD hn2.2 hC⟩) hn hsize hstack hW hdg hf) hP hD hS hA isC isR hC hR2 hn2.1 hdis kk
/-- the same, with facts of what lies outside -/
theorem lwO {ci q0 : Nat} {q : vw_C} {fs : List Value} (S : CallFix p m c cc nL s args TB own) (hE : EV g s) (hM : WMO l y bytes maxL ret fr lo g cs O (.ref b :: As) o cs1) (hk : OK O) (hO : O (va_A cs H.size) s H) (cf : CF y bytes maxL ret n) (hin : Cond.instanceMethod y ∈ TB) (hse : Cond.selects y.cls y y ∈ TB) (hl : Cond.methodLink own idx y ∈ TB) (hR : fr + 1 ≤ R.frames ∧ 8 + (maxL + 11) + lo ≤ R.locals) (hP : va_P g.1 vwCl ws H) (hD : va_D A ws) (hS : va_S A H0 H locs) (hA : ∀ q : Nat, H0.size ≤ q → A q) (isC isR : List Nat) (hC : isC.map (fun i => ws[i]?) = cs.map some) (hR2 : isR.map (fun i => ws[i]?) = wr.map some) (hn2 : va_nd isR = true ∧ va_nd isC = true) (hdis : ∀ i ∈ isR, i ∉ isC) (hc : vwCl[ci]? = some q) (hq : y.cls = q.1) (he : cs[q0]? = some (b, .inr (ci, fs))) (hn : As.length = n) (hsize : ls.size = nL) (hstack : st0 = As.reverse ++ .ref b :: rest) (hW : (rest.map fun v => v.category).sum ≤ 8) (hdg : decode cc pc = .ok (.invokevirtual idx, 3)) (hf : cells + 0 ≤ R.cells ∧ slots + 0 ≤ R.slots)
    (kk : ∀ (H1 : Heap) (locs1 : List Loc), va_P g.1 vwCl (wr ++ cs1) H1 → va_D A (wr ++ cs1) → va_S A H0 H1 locs1 → (∀ q : Nat, q < H.size → ¬ va_A cs H.size q → H1[q]? = H[q]?) → W p l e R s m args below meth c H1 locs1 cells slots Q (F0 m (pc + 3) ls (o.toList ++ rest))) : W p l e R s m args below meth c H locs cells slots Q (F0 m pc ls st0) :=
  rcWf (runV_TB S (hM H.size) rfl rfl cf hin hse hl hR (BWO_blind hk) (by rw [hq]; exact recv_TB hE (sub_P hP hC) hc he) (fun U hU hW => ⟨⟨by rw [hU], hE.warm hW, by rw [hU]; exact sub_P hP hC, sub_D hD hn2.2 hC⟩, by rw [hU]; exact hk.1 _ s U H hW.alike hO⟩) hn hsize hstack hW hdg hf) hP hD hS hA isC isR hC hR2 hn2.1 hdis kk
theorem BX_law (hE : EV g s) (hR : SR s) (hk : OK O) (hO : O (va_A cs H.size) s H) (hP : va_P g.1 vwCl ws H) (hD : va_D A ws) (isC : List Nat) (hC : isC.map (fun i => ws[i]?) = cs.map some) (hn : va_nd isC = true) {U : State} (hU : U.heap = H) (hW : s.WarmedH U.vm) : BX g cs H.size O U :=
  ⟨⟨⟨by rw [hU], hE.warm hW, by rw [hU]; exact sub_P hP hC, sub_D hD hn hC⟩, by rw [hU]; exact hk.1 _ s U H hW.alike hO⟩, hR.warm hW⟩
theorem rcXf {a : Array Value} {csx : Nat → va_W} (hr : vx_Run p l e R s m args below meth c H locs cells slots mc ms (F0 m pc ls st0) rest (qX g 0 o cs' (va_A cs H.size) a) (xX g 0 csx (va_A cs H.size)) (va_A cs H.size)) (hP : va_P g.1 vwCl ws H) (hD : va_D A ws) (hS : va_S A H0 H locs) (hA : ∀ q : Nat, H0.size ≤ q → A q) (isC isR : List Nat) (hC : isC.map (fun i => ws[i]?) = cs.map some) (hR : isR.map (fun i => ws[i]?) = wr.map some) (hn : va_nd isR = true) (hdis : ∀ i ∈ isR, i ∉ isC)
    (kk : ∀ (na : Nat) (H1 : Heap) (locs1 : List Loc), H.size ≤ na → va_P g.1 vwCl (wr ++ cs' na) H1 → va_D A (wr ++ cs' na) → va_S A H0 H1 locs1 → (∀ q : Nat, q < H.size → ¬ va_A cs H.size q → H1[q]? = H[q]?) → W p l e R s m args below meth c H1 locs1 (cells + mc) (slots + ms) Q (F0 m (pc + 3) ls (o.toList ++ rest))) : W p l e R s m args below meth c H locs cells slots Q (F0 m pc ls st0) := by
  intro T hT X
  have hF := va_free (wc := cs) hD hS hA isC hC
  rcases hr T hT X with ⟨v', st₀, t, T', L, h0, X', hL, e1, e2, ⟨⟨hk0, hv, na, hna, hP1, hD1⟩, hz, hk⟩, st⟩ | ⟨q, st₀, t, T', L, E, ce, h0, X', hL, e1, e2, ⟨⟨hk0, _⟩, _⟩, _⟩
  · cases hv
    rw [h0] at hz hk hna
    have hk1 : ∀ q : Nat, q < H.size → ¬ va_A cs H.size q → T'.heap[q]? = H[q]? := fun q h1 h2 => by rw [e1]; exact hk q h1 h2
    rw [← e1] at hP1
    obtain ⟨hP2, hD2⟩ := va_join (wr := wr) (w1 := cs' na) hP hD isC isR hC hR hn hdis hk1 hF hP1 hD1
    obtain ⟨t2, a1, b1⟩ := kk na T'.heap (locs ++ L) hna hP2 hD2 ⟨Nat.le_trans hS.1 (by rw [e1]; exact hz), fun q h1 h2 => by rw [hk1 q (Nat.lt_of_lt_of_le h1 hS.1) (fun z => h2 (hF q z))]; exact hS.2.1 q h1 h2, fun q hq => by
        rcases List.mem_append.mp hq with h | h
        · exact hS.2.2 q h
        · exact hF _ (hL q h)⟩ hk1 T' rfl X'
    exact ⟨t2, st t2 a1, b1⟩
  · exact absurd rfl hk0
/-- a method that makes a position -/
theorem lwX {ci q0 : Nat} {q : vw_C} {fs : List Value} {csx : Nat → va_W} (S : CallFix p m c cc nL s args TB own) (hE : EV g s) (hR1 : SR s) (hM : XM l y bytes maxL ret fr lo mc ms g cs O (.ref b :: As) 0 o cs' csx) (hk : OK O) (hO : O (va_A cs H.size) s H) (cf : CF y bytes maxL ret n) (hin : Cond.instanceMethod y ∈ TB) (hse : Cond.selects y.cls y y ∈ TB) (hl : Cond.methodLink own idx y ∈ TB) (hR : fr + 1 ≤ R.frames ∧ 8 + (maxL + 11) + lo ≤ R.locals) (hP : va_P g.1 vwCl ws H) (hD : va_D A ws) (hS : va_S A H0 H locs) (hA : ∀ q : Nat, H0.size ≤ q → A q) (isC isR : List Nat) (hC : isC.map (fun i => ws[i]?) = cs.map some) (hR2 : isR.map (fun i => ws[i]?) = wr.map some) (hn2 : va_nd isR = true ∧ va_nd isC = true) (hdis : ∀ i ∈ isR, i ∉ isC) (hc : vwCl[ci]? = some q) (hq : y.cls = q.1) (he : cs[q0]? = some (b, .inr (ci, fs))) (hn : As.length = n) (hsize : ls.size = nL) (hstack : st0 = As.reverse ++ .ref b :: rest) (hW : (rest.map fun v => v.category).sum ≤ 8) (hdg : decode cc pc = .ok (.invokevirtual idx, 3)) (hf : cells + mc ≤ R.cells ∧ slots + ms ≤ R.slots)
    (kk : ∀ (na : Nat) (H1 : Heap) (locs1 : List Loc), H.size ≤ na → va_P g.1 vwCl (wr ++ cs' na) H1 → va_D A (wr ++ cs' na) → va_S A H0 H1 locs1 → (∀ q : Nat, q < H.size → ¬ va_A cs H.size q → H1[q]? = H[q]?) → W p l e R s m args below meth c H1 locs1 (cells + mc) (slots + ms) Q (F0 m (pc + 3) ls (o.toList ++ rest))) : W p l e R s m args below meth c H locs cells slots Q (F0 m pc ls st0) :=
  rcXf (vx_runV S (hM H.size) ⟨callB_of n S.2.2.2.2 (goodTB cf.1) rfl rfl rfl (S.2.2.2.2 _ cf.2.1) (S.2.2.2.2 _ hl) cf.2.2 hR, S.2.2.2.2 _ hin, S.2.2.2.2 _ hse⟩ ⟨BX_blind hk, by rw [hq]; exact recv_TB hE (sub_P hP hC) hc he, fun U hU hW => ⟨rfl, BX_law hE hR1 hk hO hP hD isC hC hn2.2 hU hW⟩⟩ rfl hn hsize hstack (lv_room hW) hdg hf) hP hD hS hA isC isR hC hR2 hn2.1 hdis kk
theorem cws_of (S : CallFix p m c cc nL s args TB own) (cf : CFW y bytes maxL hh n) (hst : Cond.static y ∈ TB) (hl : Cond.methodLink own idx y ∈ TB) (hR : fr + 1 ≤ R.frames ∧ 8 + (maxL + 11) + lo ≤ R.locals) : vx_CSW R s args own idx y bytes maxL (some .long) hh (.codeWith y bytes maxL (some .long) hh :: TB) { frames := fr, cells := mc, slots := ms, locals := lo } mc ms n :=
  ⟨⟨rfl, rfl, hR.1, hR.2, pay_in S.2.2.2.2 (goodTB cf.1), List.mem_cons_self⟩, S.2.2.2.2 _ cf.1, S.2.2.2.2 _ cf.2.1, ⟨cf.2.2.1, cf.2.2.2.1⟩, fun sig h => by
    have h2 := cf.2.2.2.2
    rw [h] at h2
    exact (Option.some.inj h2).symm, S.2.2.2.2 _ hl, S.2.2.2.2 _ hst⟩
/-- a helper of the law -/
theorem lwL (S : CallFix p m c cc nL s args TB own) (hE : EV g s) (hR1 : SR s) (hN : NC s) (hM : LM l y bytes maxL hh fr lo mc ms g cs O As o cs') (hk : OK O) (hO : O (va_A cs H.size) s H) (cf : CFW y bytes maxL hh n) (hst : Cond.static y ∈ TB) (hl : Cond.methodLink own idx y ∈ TB) (hR : fr + 1 ≤ R.frames ∧ 8 + (maxL + 11) + lo ≤ R.locals) (hP : va_P g.1 vwCl ws H) (hD : va_D A ws) (hS : va_S A H0 H locs) (hA : ∀ q : Nat, H0.size ≤ q → A q) (isC isR : List Nat) (hC : isC.map (fun i => ws[i]?) = cs.map some) (hR2 : isR.map (fun i => ws[i]?) = wr.map some) (hn2 : va_nd isR = true ∧ va_nd isC = true) (hdis : ∀ i ∈ isR, i ∉ isC) (hn : As.length = n) (hsize : ls.size = nL) (hstack : st0 = As.reverse ++ rest) (hW : (rest.map fun v => v.category).sum ≤ 8) (hdg : decode cc pc = .ok (.invokestatic idx, 3)) (hf : cells + mc ≤ R.cells ∧ slots + ms ≤ R.slots)
    (kk : ∀ (na : Nat) (H1 : Heap) (locs1 : List Loc), H.size ≤ na → va_P g.1 vwCl (wr ++ cs' na) H1 → va_D A (wr ++ cs' na) → va_S A H0 H1 locs1 → (∀ q : Nat, q < H.size → ¬ va_A cs H.size q → H1[q]? = H[q]?) → W p l e R s m args below meth c H1 locs1 (cells + mc) (slots + ms) Q (F0 m (pc + 3) ls (o.toList ++ rest))) : W p l e R s m args below meth c H locs cells slots Q (F0 m pc ls st0) :=
  rcXf (vx_runSX S (hM H.size) (cws_of S cf hst hl hR) ⟨BL_blind hk, fun U hU hW => ⟨rfl, BX_law hE hR1 hk hO hP hD isC hC hn2.2 hU hW, hN.warm hW⟩⟩ rfl hn hsize hstack (lv_room hW) hdg hf) hP hD hS hA isC isR hC hR2 hn2.1 hdis kk
/-- the helper that may make many -/
theorem lwL2 (S : CallFix p m c cc nL s args TB own) (hE : EV g s) (hR1 : SR s) (hN : NC s) (hM : LM2 l y bytes maxL hh fr lo mc ms g cs O As k9 v nn c0 c1) (hk : OK O) (hO : O (va_A cs H.size) s H) (cf : CFW y bytes maxL hh n) (hst : Cond.static y ∈ TB) (hl : Cond.methodLink own idx y ∈ TB) (hR : fr + 1 ≤ R.frames ∧ 8 + (maxL + 11) + lo ≤ R.locals) (hP : va_P g.1 vwCl ws H) (hD : va_D A ws) (hS : va_S A H0 H locs) (hA : ∀ q : Nat, H0.size ≤ q → A q) (isC isR : List Nat) (hC : isC.map (fun i => ws[i]?) = cs.map some) (hR2 : isR.map (fun i => ws[i]?) = wr.map some) (hn2 : va_nd isR = true ∧ va_nd isC = true) (hdis : ∀ i ∈ isR, i ∉ isC) (hn : As.length = n) (hsize : ls.size = nL) (hstack : st0 = As.reverse ++ rest) (hW : (rest.map fun v => v.category).sum ≤ 8) (hdg : decode cc pc = .ok (.invokestatic idx, 3)) (hf : cells + mc ≤ R.cells ∧ slots + ms ≤ R.slots)
    (kk : ∀ (as : List Nat) (tl : Option Nat) (H1 : Heap) (locs1 : List Loc), as.length = nn → (∀ a ∈ as, H.size ≤ a) → va_P g.1 vwCl (wr ++ (if k9 = 0 then c0 as tl else c1 as tl)) H1 → va_D A (wr ++ (if k9 = 0 then c0 as tl else c1 as tl)) → va_S A H0 H1 locs1 → (∀ q : Nat, q < H.size → ¬ va_A cs H.size q → H1[q]? = H[q]?) → W p l e R s m args below meth c H1 locs1 (cells + mc) (slots + ms) Q (F0 m (pc + 3) ls (.long v :: rest))) : W p l e R s m args below meth c H locs cells slots Q (F0 m pc ls st0) := by
  have hr : vx_Run p l e R s m args below meth c H locs cells slots mc ms (F0 m pc ls st0) rest (qX2 g 0 (some (.long v)) nn (fun as tl => if k9 = 0 then c0 as tl else c1 as tl) (va_A cs H.size) As.toArray) (xX2 g 0 nn c1 (va_A cs H.size)) (va_A cs H.size) := vx_runSX S (hM H.size) (cws_of S cf hst hl hR) ⟨BL_blind hk, fun U hU hW => ⟨rfl, BX_law hE hR1 hk hO hP hD isC hC hn2.2 hU hW, hN.warm hW⟩⟩ rfl hn hsize hstack (lv_room hW) hdg hf
  intro T hT X
  have hF := va_free (wc := cs) hD hS hA isC hC
  rcases hr T hT X with ⟨v', st₀, t, T', L, h0, X', hL, e1, e2, ⟨⟨hk0, hv, as, tl, has, hna, hP1, hD1⟩, hz, hk⟩, st⟩ | ⟨q, st₀, t, T', L, E, ce, h0, X', hL, e1, e2, ⟨⟨hk0, _⟩, _⟩, _⟩
  · cases hv
    rw [h0] at hz hk hna
    have hk1 : ∀ q : Nat, q < H.size → ¬ va_A cs H.size q → T'.heap[q]? = H[q]? := fun q h1 h2 => by rw [e1]; exact hk q h1 h2
    rw [← e1] at hP1
    obtain ⟨hP2, hD2⟩ := va_join (wr := wr) hP hD isC isR hC hR2 hn2.1 hdis hk1 hF hP1 hD1
    obtain ⟨t2, a1, b1⟩ := kk as tl T'.heap (locs ++ L) has hna hP2 hD2 ⟨Nat.le_trans hS.1 (by rw [e1]; exact hz), fun q h1 h2 => by rw [hk1 q (Nat.lt_of_lt_of_le h1 hS.1) (fun z => h2 (hF q z))]; exact hS.2.1 q h1 h2, fun q hq => by
        rcases List.mem_append.mp hq with h | h
        · exact hS.2.2 q h
        · exact hF _ (hL q h)⟩ hk1 T' rfl X'
    exact ⟨t2, st t2 a1, b1⟩
  · exact absurd rfl hk0
end LAWC

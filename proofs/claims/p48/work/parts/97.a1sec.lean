/-! ===== the law's own methods that ask objects ===== -/
theorem OC_any {g : GE} {A : Nat → Prop} {u U : State} {H : Heap} : ∀ (ch : List PC) (lat : Option Nat), OC g ch lat A u H → OC g ch lat A U H
  | [], _, h => h
  | x :: t, lat, ⟨a, bef, h1, h2, h3, h4⟩ => ⟨a, bef, h1, h2, h3, OC_any t bef h4⟩
theorem OB_any {g : GE} {aa : Nat → Nat} {F : Nat → Prop} {st : PS} {u U : State} {H : Heap} (h : OB g aa F st u H) : OB g aa F st U H := by
  obtain ⟨hF, hG, f, kk, sg, sd, mv, gm, lt, w1, w2, dg, t1, t2, am, fT, kkT, sgT, sdT, mvT, gmT, ltT, w1T, w2T, dgT, t1T, t2T, amT, so, sc, sx, skf, qx, tl, tf, cnt, mf, bk, bs, bf, rk, rs, rf, rn, rmf, kc, krf, kqf, hP, hR⟩ := h
  exact ⟨hF, hG, f, kk, sg, sd, mv, gm, lt, w1, w2, dg, t1, t2, am, fT, kkT, sgT, sdT, mvT, gmT, ltT, w1T, w2T, dgT, t1T, t2T, amT, so, sc, sx, skf, qx, tl, tf, cnt, mf, bk, bs, bf, rk, rs, rf, rn, rmf, kc, krf, kqf, hP, OR_K (fun h o z => OC_any (chP h) o z) hR⟩
theorem OB_weak {g : GE} {aa : Nat → Nat} {F F' : Nat → Prop} (hw : ∀ q, F q → F' q) {st : PS} {s : State} {H : Heap} (h : OB g aa F' st s H) : OB g aa F st s H := by
  obtain ⟨hF, hG, f, kk, sg, sd, mv, gm, lt, w1, w2, dg, t1, t2, am, fT, kkT, sgT, sdT, mvT, gmT, ltT, w1T, w2T, dgT, t1T, t2T, amT, so, sc, sx, skf, qx, tl, tf, cnt, mf, bk, bs, bf, rk, rs, rf, rn, rmf, kc, krf, kqf, hP, hR⟩ := h
  exact ⟨fun q z => hF q (hw q z), hG, f, kk, sg, sd, mv, gm, lt, w1, w2, dg, t1, t2, am, fT, kkT, sgT, sdT, mvT, gmT, ltT, w1T, w2T, dgT, t1T, t2T, amT, so, sc, sx, skf, qx, tl, tf, cnt, mf, bk, bs, bf, rk, rs, rf, rn, rmf, kc, krf, kqf, hP, OR_K (fun h o z => (OC_ok g (chP h) o).2.2 F' F s H hw z) hR⟩
theorem OB_GD {g : GE} {aa : Nat → Nat} {F : Nat → Prop} {st : PS} {s : State} {H : Heap} (h : OB g aa F st s H) : GD st := h.2.1
/-- a new cell beside an object -/
theorem OC_ext {g : GE} {F : Nat → Prop} {s : State} {H H1 : Heap} (ho : ∀ x, x < H.size → H1[x]? = H[x]?) : ∀ (ch : List PC) (lat : Option Nat), OC g ch lat F s H → OC g ch lat (fun q => F q ∨ q = H.size) s H1
  | [], _, h => h
  | x :: t, lat, ⟨a, bef, h1, h2, h3, h4⟩ => by
    have hlt : a < H.size := (h2 0 _ rfl).lt
    refine ⟨a, bef, h1, h2.kept (fun k q hk => ho q.1 ((h2 k q hk).lt)), fun z => ?_, OC_ext ho t bef h4⟩
    rcases z with z | z
    · exact h3 z
    · omega
theorem OB_ext {g : GE} {aa : Nat → Nat} {F : Nat → Prop} {st : PS} {s : State} {H H1 : Heap} (ho : ∀ x, x < H.size → H1[x]? = H[x]?) (hz : H.size < H1.size) (h : OB g aa F st s H) : OB g aa (fun q => F q ∨ q = H.size) st s H1 := by
  obtain ⟨hF, hG, f, kk, sg, sd, mv, gm, lt, w1, w2, dg, t1, t2, am, fT, kkT, sgT, sdT, mvT, gmT, ltT, w1T, w2T, dgT, t1T, t2T, amT, so, sc, sx, skf, qx, tl, tf, cnt, mf, bk, bs, bf, rk, rs, rf, rn, rmf, kc, krf, kqf, hP, hR⟩ := h
  refine ⟨fun q z => ?_, hG, f, kk, sg, sd, mv, gm, lt, w1, w2, dg, t1, t2, am, fT, kkT, sgT, sdT, mvT, gmT, ltT, w1T, w2T, dgT, t1T, t2T, amT, so, sc, sx, skf, qx, tl, tf, cnt, mf, bk, bs, bf, rk, rs, rf, rn, rmf, kc, krf, kqf, hP.kept (fun k q hk => ho q.1 ((hP k q hk).lt)), OR_K (fun h o z => OC_ext ho (chP h) o z) hR⟩
  rcases z with z | z
  · have := hF q z
    omega
  · omega
/-- another cell is written -/
theorem OB_put {g : GE} {aa : Nat → Nat} {F : Nat → Prop} {st : PS} {s : State} {H H1 : Heap} {b : Nat} (ho : ∀ x, x ≠ b → H1[x]? = H[x]?) (hb : F b) (hn : b ∉ AL aa) (hz : H.size ≤ H1.size) (h : OB g aa F st s H) : OB g aa F st s H1 := by
  obtain ⟨hF, hG, f, kk, sg, sd, mv, gm, lt, w1, w2, dg, t1, t2, am, fT, kkT, sgT, sdT, mvT, gmT, ltT, w1T, w2T, dgT, t1T, t2T, amT, so, sc, sx, skf, qx, tl, tf, cnt, mf, bk, bs, bf, rk, rs, rf, rn, rmf, kc, krf, kqf, hP, hR⟩ := h
  refine ⟨fun q z => Nat.lt_of_lt_of_le (hF q z) hz, hG, f, kk, sg, sd, mv, gm, lt, w1, w2, dg, t1, t2, am, fT, kkT, sgT, sdT, mvT, gmT, ltT, w1T, w2T, dgT, t1T, t2T, amT, so, sc, sx, skf, qx, tl, tf, cnt, mf, bk, bs, bf, rk, rs, rf, rn, rmf, kc, krf, kqf, hP.kept (fun k q hk => ho q.1 (fun e => ?_)), OR_K (fun h o z => (OC_ok g (chP h) o).2.1 F s H H1 (fun a _ hn => ho a (fun e => hn (e ▸ hb))) z) hR⟩
  obtain ⟨k1, k2⟩ := at_AL (aa := aa) rfl hk
  exact hn (AL_mem.mpr ⟨k, k1, by rw [← k2, e]⟩)
theorem arr_fr {g : GE} {aa : Nat → Nat} {b : Nat} {e : va_E} {H H1 : Heap} (hfr : FR aa H H1) (hn : b ∉ AL aa) (hP : va_P g.1 vwCl [(b, e)] H) : va_P g.1 vwCl [(b, e)] H1 := hP.kept (fun k q hk => by
  have hz : k < 1 := (List.getElem?_eq_some_iff.mp hk).1
  have hlt := (hP k q hk).lt
  rw [show k = 0 by omega] at hk
  cases hk
  exact hfr b hlt hn)
def A1 (aa : Nat → Nat) (sz : Nat) : Nat → Prop := fun q => q ∈ AL aa ∨ sz ≤ q
def BH (g : GE) (zc zp : Nat) (aa : Nat → Nat) (F : Nat → Prop) (st : PS) (sz : Nat) : State → Prop := fun U => U.heap.size = sz ∧ EV g U ∧ SR U ∧ NC U ∧ OS zc zp (A1 aa sz) U U.heap ∧ OT (A1 aa sz) U U.heap ∧ OA (A1 aa sz) F aa ∧ OB g aa F st U U.heap
theorem BH_blind {g : GE} {zc zp : Nat} {aa : Nat → Nat} {F : Nat → Prop} {st : PS} {sz : Nat} {av : List Value} : FrameBlind (va_Pc av (BH g zc zp aa F st sz)) := fun a U g' mk h =>
  ⟨h.1, h.2.1, EV.same (u := U) (U := U.calling g' mk a) rfl h.2.2.1, SR.same (u := U) (U := U.calling g' mk a) rfl h.2.2.2.1, NC.same (u := U) (U := U.calling g' mk a) rfl h.2.2.2.2.1, (OS_ok zc zp).1 (A1 aa sz) U (U.calling g' mk a) U.heap (Vm.Alike.refl _) h.2.2.2.2.2.1, OT_ok.1 (A1 aa sz) U (U.calling g' mk a) U.heap (Vm.Alike.refl _) h.2.2.2.2.2.2.1, h.2.2.2.2.2.2.2.1, OB_any h.2.2.2.2.2.2.2.2⟩
def qH (g : GE) (aa : Nat → Nat) (F : Nat → Prop) (st' : PS) (v : Value) (A : Nat → Prop) : QC := fun _ s0 oc t => (oc = .returned (some v) ∧ OB g aa F st' s0 t.heap) ∧ va_F A s0 t
def MH (l : Launch) (y : MethodName) (bytes : ByteArray) (maxL : Nat) (ret : Option FieldType) (fr lo mc ms : Nat) (g : GE) (zc zp : Nat) (aa : Nat → Nat) (As : List Value) (st st' : PS) (v : Value) : Prop := ∀ (sz : Nat) (F : Nat → Prop), Met l y (.code y bytes maxL ret :: TB) { frames := fr, cells := mc, slots := ms, locals := lo } (va_Pc As (BH g zc zp aa F st sz)) (qH g aa F st' v (A1 aa sz)) mc ms (A1 aa sz)
theorem metH_intro {l : Launch} {y : MethodName} {cc : ByteArray} {maxL fr lo mc ms : Nat} {ret : Option FieldType} {g : GE} {zc zp : Nat} {aa : Nat → Nat} {av : List Value} {st st' : PS} {v : Value} (hl0 : l.stackTraces = false) (hyc : y.cls = "HallGuardsLaw")
    (hy : plainName y.cls = true) (hn : Nat.ble (lg_sl av).length maxL = true)
    (body : ∀ (p : Program) (e : Env) (R : Room) (s : State) (m : MethodId) (args : Array Value) (below : List Frame) (meth : Method) (c : Code) (Q : State → Prop) (A F : Nat → Prop), fr ≤ R.frames → lo ≤ R.locals → mc ≤ R.cells → ms ≤ R.slots → Q = MQ below (qH g aa F st' v A) args s mc ms A → meth.sig.returnType = ret → meth.locks = false → CX p l s m args c cc maxL g zc zp A → OA A F aa → OB g aa F st s s.heap → ∀ ls : Array Slot, lv_has ls maxL (lv_args 0 av) → W p l e R s m args below meth c s.heap [] 0 0 Q (F0 m 0 ls [])) : MH l y cc maxL ret fr lo mc ms g zc zp aa av st st' v := fun sz F =>
  met_intro hy hn fun p e s m below meth c hx hb hml hr hlocks hown hts hin hB ls hl => by
    obtain ⟨hsz, hE, hSR, hNC, hOS, hOT, hOA, hOB⟩ := hB
    subst hsz
    rw [hyc] at hown
    exact body p e _ s m _ below meth c _ _ F (Nat.le_refl _) (Nat.le_refl _) (Nat.le_refl _) (Nat.le_refl _) rfl hr hlocks ⟨hx, hb, hml, hown, hts, hl0, hE, hSR, hNC, hOS, hOT, fun q h => Or.inr h⟩ hOA hOB ls hl
theorem lp_n {σ ρ : Type} {B : (σ → Option ρ) → σ → Option ρ} {r : ρ} (P : Nat → σ → Prop) (hs : ∀ (n : Nat) (self : σ → Option ρ), (∀ s, self s = some r → P n s) → ∀ s, B self s = some r → P (n + 1) s) : ∀ (n : Nat) (s : σ), lp B n s = some r → P n s
  | 0, _, h => by cases h
  | n + 1, s, h => hs n (lp B n) (fun s' h' => lp_n P hs n s' h') s h
section SEC
variable {p : Program} {l : Launch} {e : Env} {R : Room} {s : State} {m : MethodId} {args : Array Value} {below : List Frame} {meth : Method} {c : Code} {H H0 : Heap} {locs : List Loc} {cells slots : Nat} {Q : State → Prop}
variable {y : MethodName} {bytes cc : ByteArray} {maxL nL mc ms n idx pc fr lo N zc zp b : Nat} {ret : Option FieldType} {As rest st0 : List Value} {ls : Array Slot} {g : GE} {A F : Nat → Prop} {aa : Nat → Nat} {st st' : PS} {v : Value}
theorem rhZ {x : Int32} (hx : p.tables.exec = Jvm.exec) (hb : c.code = cc) (hr : meth.sig.returnType = some .boolean) (hlocks : meth.locks = false) (h01 : x = 0 ∨ x = 1) (hO : OB g aa F st' s H) (hS : va_S A s.heap H locs) (hc : cells ≤ mc ∧ slots ≤ ms) (hdg : decode cc pc = .ok (.ireturn, 1)) : W p l e R s m args below meth c H locs cells slots (MQ below (qH g aa F st' (.int x) A) args s mc ms A) (F0 m pc ls [.int x]) :=
  W.widen hc.1 hc.2 (W.zret hx hb hr (narrow_01 h01) (fun t ht _ => ⟨⟨rfl, by rw [ht]; exact OB_any hO⟩, hS.F ht⟩) hS.2.2 hdg hlocks)
theorem rhJ {x : Int64} (hx : p.tables.exec = Jvm.exec) (hb : c.code = cc) (hr : meth.sig.returnType = some .long) (hlocks : meth.locks = false) (hO : OB g aa F st' s H) (hS : va_S A s.heap H locs) (hc : cells ≤ mc ∧ slots ≤ ms) (hdg : decode cc pc = .ok (.lreturn, 1)) : W p l e R s m args below meth c H locs cells slots (MQ below (qH g aa F st' (.long x) A) args s mc ms A) (F0 m pc ls [.long x]) :=
  W.widen hc.1 hc.2 (W.lret hx hb hr (fun t ht _ => ⟨⟨rfl, by rw [ht]; exact OB_any hO⟩, hS.F ht⟩) hS.2.2 hdg hlocks)
theorem rcH {a : Array Value} (hr : va_Run p l e R s m args below meth c H locs cells slots mc ms (F0 m pc ls st0) rest (qH g aa F st' v (A1 aa H.size) a) (A1 aa H.size)) (hS : va_S A H0 H locs) (hAq : ∀ q, A1 aa H.size q → A q)
    (kk : ∀ (H1 : Heap) (locs1 : List Loc), OB g aa F st' s H1 → va_S A H0 H1 locs1 → FR aa H H1 → W p l e R s m args below meth c H1 locs1 (cells + mc) (slots + ms) Q (F0 m (pc + 3) ls (v :: rest))) : W p l e R s m args below meth c H locs cells slots Q (F0 m pc ls st0) := by
  intro T hT X
  obtain ⟨v', st₀, t, T', L, h0, X', hL, e1, e2, ⟨⟨hv, hO⟩, hz, hk⟩, st⟩ := hr T hT X
  cases hv
  rw [h0] at hz hk
  have hk1 : ∀ q : Nat, q < H.size → ¬ A1 aa H.size q → T'.heap[q]? = H[q]? := fun q h1 h2 => by rw [e1]; exact hk q h1 h2
  obtain ⟨t2, a1, b1⟩ := kk T'.heap (locs ++ L) (by rw [e1]; exact OB_any hO) ⟨Nat.le_trans hS.1 (by rw [e1]; exact hz), fun q h1 h2 => by rw [hk1 q (Nat.lt_of_lt_of_le h1 hS.1) (fun z => h2 (hAq q z))]; exact hS.2.1 q h1 h2, fun q hq => by
      rcases List.mem_append.mp hq with h | h
      · exact hS.2.2 q h
      · exact hAq _ (hL q h)⟩ (fun q h1 h2 => hk1 q h1 (fun z => by
      rcases z with z | z
      · exact h2 z
      · omega)) T' rfl X'
  exact ⟨t2, st t2 a1, b1⟩
theorem sH (C : CX p l s m args c cc nL g zc zp A) (hA : OA A F aa) (hO : OB g aa F st s H) (hS : va_S A s.heap H locs) (hM : MH l y bytes maxL ret fr lo mc ms g zc zp aa As st st' v) (cf : CF y bytes maxL ret n) (hst : Cond.static y ∈ TB) (hl : Cond.methodLink "HallGuardsLaw" idx y ∈ TB) (hR : fr + 1 ≤ R.frames ∧ 8 + (maxL + 11) + lo ≤ R.locals) (hn : As.length = n) (hsize : ls.size = nL) (hstack : st0 = As.reverse ++ rest) (hW : (rest.map fun v => v.category).sum ≤ 8) (hdg : decode cc pc = .ok (.invokestatic idx, 3)) (hf : cells + mc ≤ R.cells ∧ slots + ms ≤ R.slots)
    (kk : ∀ (H1 : Heap) (locs1 : List Loc), OB g aa F st' s H1 → va_S A s.heap H1 locs1 → FR aa H H1 → W p l e R s m args below meth c H1 locs1 (cells + mc) (slots + ms) Q (F0 m (pc + 3) ls (v :: rest))) : W p l e R s m args below meth c H locs cells slots Q (F0 m pc ls st0) := by
  obtain ⟨hx, hb, hml, hown, hts, hl0, hE, hSR, hNC, hOS, hOT, hAh⟩ := C
  have hAq : ∀ q, A1 aa H.size q → A q := fun q z => by
    rcases z with z | z
    · obtain ⟨i, hi, rfl⟩ := AL_mem.mp z
      exact (hA.2 i hi).1
    · exact hAh q (Nat.le_trans hS.1 z)
  exact rcH (runS_TB ⟨hx, hb, hml, hown, hts⟩ (hM H.size F) rfl rfl cf hst hl hR BH_blind (fun U hU hW => ⟨by rw [hU], hE.warm hW, hSR.warm hW, hNC.warm hW, by rw [hU]; exact (OS_ok zc zp).to hOS hS hW.alike hAq, by rw [hU]; exact OT_ok.to hOT hS hW.alike hAq, ⟨hA.1, fun i hi => ⟨Or.inl (AL_mem.mpr ⟨i, hi, rfl⟩), (hA.2 i hi).2⟩⟩, by rw [hU]; exact OB_any hO⟩) hn hsize hstack hW hdg hf) hS hAq kk
/-- arrays of the law's own -/
theorem newIF {x : Int32} (hx : p.tables.exec = Jvm.exec) (hb : c.code = cc) (hts : ∀ w ∈ TB, w.before args s = true) (harr : Cond.arrayClass .int ∈ TB) (hE : EV g s) (hS : va_S A H0 H locs) (hAh : ∀ q, H0.size ≤ q → A q) (hn : ¬ x < 0) (hN : x.toNatClampNeg = N) (hby : N * 4 ≤ 536870912) (hf : cells + 1 ≤ R.cells ∧ slots + N ≤ R.slots) (hdg : decode cc pc = .ok (.newarray .int, 2))
    (kk : ∀ (H1 : Heap), va_P g.1 vwCl [(H.size, .inl (g.2.1, N, .inl (fun _ => 0)))] H1 → va_D A [(H.size, .inl (g.2.1, N, .inl (fun _ => 0)))] → va_S A H0 H1 locs → (∀ x, x < H.size → H1[x]? = H[x]?) → W p l e R s m args below meth c H1 locs (cells + 1) (slots + N) Q (F0 m (pc + 2) ls (.ref H.size :: rest))) : W p l e R s m args below meth c H locs cells slots Q (F0 m pc ls (.int x :: rest)) := by
  refine va_newaK (atype := .int) hx hb (hts _ harr) rfl hdg rfl hn hN hby hf.1 hf.2 rfl fun H1 cA e1 z1 o1 hAr hNm => ?_
  have hcA := EV_I hE hNm
  subst hcA
  refine kk H1 (fun k x hx => ?_) ⟨fun i j p q hi hj _ => ?_, fun k q hk => ?_⟩ ⟨Nat.le_trans hS.1 (by omega), fun x h1 h2 => (o1 x (Nat.lt_of_lt_of_le h1 hS.1)).trans (hS.2.1 x h1 h2), hS.2.2⟩ o1
  · have hz : k < 1 := (List.getElem?_eq_some_iff.mp hx).1
    rw [show k = 0 by omega] at hx
    cases hx
    exact e1
  · have h1 : i < 1 := (List.getElem?_eq_some_iff.mp hi).1
    have h2 : j < 1 := (List.getElem?_eq_some_iff.mp hj).1
    omega
  · have hz : k < 1 := (List.getElem?_eq_some_iff.mp hk).1
    rw [show k = 0 by omega] at hk
    cases hk
    exact hAh _ hS.1
theorem iastF {f : Nat → Int32} (hx : p.tables.exec = Jvm.exec) (hb : c.code = cc) (hE : EV g s) (hP : va_P g.1 vwCl [(b, .inl (g.2.1, N, .inl f))] H) (hD : va_D A [(b, .inl (g.2.1, N, .inl f))]) (hS : va_S A H0 H locs) {i x : Int32} (hin : vp_in i N) (hdg : decode cc pc = .ok (.iastore, 1))
    (kk : ∀ (H1 : Heap) (locs1 : List Loc), va_P g.1 vwCl [(b, .inl (g.2.1, N, .inl (upd f i.toNatClampNeg x)))] H1 → va_D A [(b, .inl (g.2.1, N, .inl (upd f i.toNatClampNeg x)))] → va_S A H0 H1 locs1 → (∀ x, x ≠ b → H1[x]? = H[x]?) → H.size ≤ H1.size → W p l e R s m args below meth c H1 locs1 cells slots Q (F0 m (pc + 1) ls rest)) : W p l e R s m args below meth c H locs cells slots Q (F0 m pc ls (.int x :: .int i :: .ref b :: rest)) := by
  refine W.iast hx hb (hP 0 _ rfl) ((hE.1.2 0 _ rfl).1 N (fun j => .int (f j))) (fun q => by cases q) (by show ¬ (i < 0 ∨ (arrV _ _ _).slots.size ≤ _); rw [arrV_size]; exact hin) rfl rfl hdg fun H1 e z oq => ?_
  refine kk H1 _ (hP.set (p := 0) hD rfl ?_ oq) (hD.set (p := 0) rfl) (hS.put z oq (hD.2 0 _ rfl)) oq (Nat.le_of_eq z.symm)
  show H1[b]? = some (vp_cell _ _)
  rw [e]
  rw [vp_cell_i, vp_cell_i, arrV_store]
  congr 2
  funext q
  by_cases hq : q = i.toNatClampNeg
  · subst hq
    simp [updV, upd]
  · simp [updV, upd, hq]
end SEC

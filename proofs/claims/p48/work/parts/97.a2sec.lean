/-! ===== two objects at once; the script ===== -/
def A2 (ap aq : Nat → Nat) (sz : Nat) : Nat → Prop := fun q => q ∈ AL ap ∨ q ∈ AL aq ∨ sz ≤ q
def DS (ap aq : Nat → Nat) : Prop := ∀ i j, i < 49 → j < 49 → ap i ≠ aq j
def BH2 (g : GE) (zc zp : Nat) (ap aq : Nat → Nat) (F : Nat → Prop) (sp sq : PS) (sz : Nat) : State → Prop := fun U => U.heap.size = sz ∧ EV g U ∧ SR U ∧ NC U ∧ OS zc zp (A2 ap aq sz) U U.heap ∧ OT (A2 ap aq sz) U U.heap ∧ OA (A2 ap aq sz) F ap ∧ OA (A2 ap aq sz) F aq ∧ DS ap aq ∧ OB g ap F sp U U.heap ∧ OB g aq F sq U U.heap
theorem BH2_blind {g : GE} {zc zp : Nat} {ap aq : Nat → Nat} {F : Nat → Prop} {sp sq : PS} {sz : Nat} {av : List Value} : FrameBlind (va_Pc av (BH2 g zc zp ap aq F sp sq sz)) := fun a U g' mk h =>
  ⟨h.1, h.2.1, EV.same (u := U) (U := U.calling g' mk a) rfl h.2.2.1, SR.same (u := U) (U := U.calling g' mk a) rfl h.2.2.2.1, NC.same (u := U) (U := U.calling g' mk a) rfl h.2.2.2.2.1, (OS_ok zc zp).1 (A2 ap aq sz) U (U.calling g' mk a) U.heap (Vm.Alike.refl _) h.2.2.2.2.2.1, OT_ok.1 (A2 ap aq sz) U (U.calling g' mk a) U.heap (Vm.Alike.refl _) h.2.2.2.2.2.2.1, h.2.2.2.2.2.2.2.1, h.2.2.2.2.2.2.2.2.1, h.2.2.2.2.2.2.2.2.2.1, OB_any h.2.2.2.2.2.2.2.2.2.2.1, OB_any h.2.2.2.2.2.2.2.2.2.2.2⟩
def qH2 (g : GE) (ap aq : Nat → Nat) (F : Nat → Prop) (sp sq : PS) (v : Value) (A : Nat → Prop) : QC := fun _ s0 oc t => (oc = .returned (some v) ∧ OB g ap F sp s0 t.heap ∧ OB g aq F sq s0 t.heap) ∧ va_F A s0 t
def MH2 (l : Launch) (y : MethodName) (bytes : ByteArray) (maxL : Nat) (ret : Option FieldType) (fr lo mc ms : Nat) (g : GE) (zc zp : Nat) (ap aq : Nat → Nat) (As : List Value) (sp sq : PS) (v : Value) : Prop := ∀ (sz : Nat) (F : Nat → Prop), Met l y (.code y bytes maxL ret :: TB) { frames := fr, cells := mc, slots := ms, locals := lo } (va_Pc As (BH2 g zc zp ap aq F sp sq sz)) (qH2 g ap aq F sp sq v (A2 ap aq sz)) mc ms (A2 ap aq sz)
theorem metH2_intro {l : Launch} {y : MethodName} {cc : ByteArray} {maxL fr lo mc ms : Nat} {ret : Option FieldType} {g : GE} {zc zp : Nat} {ap aq : Nat → Nat} {av : List Value} {sp sq : PS} {v : Value} (hl0 : l.stackTraces = false) (hyc : y.cls = "HallGuardsLaw")
    (hy : plainName y.cls = true) (hn : Nat.ble (lg_sl av).length maxL = true)
    (body : ∀ (p : Program) (e : Env) (R : Room) (s : State) (m : MethodId) (args : Array Value) (below : List Frame) (meth : Method) (c : Code) (Q : State → Prop) (A F : Nat → Prop), fr ≤ R.frames → lo ≤ R.locals → mc ≤ R.cells → ms ≤ R.slots → Q = MQ below (qH2 g ap aq F sp sq v A) args s mc ms A → meth.sig.returnType = ret → meth.locks = false → CX p l s m args c cc maxL g zc zp A → OA A F ap → OA A F aq → DS ap aq → OB g ap F sp s s.heap → OB g aq F sq s s.heap → ∀ ls : Array Slot, lv_has ls maxL (lv_args 0 av) → W p l e R s m args below meth c s.heap [] 0 0 Q (F0 m 0 ls [])) : MH2 l y cc maxL ret fr lo mc ms g zc zp ap aq av sp sq v := fun sz F =>
  met_intro hy hn fun p e s m below meth c hx hb hml hr hlocks hown hts hin hB ls hl => by
    obtain ⟨hsz, hE, hSR, hNC, hOS, hOT, hOA, hOA2, hds, hOB, hOB2⟩ := hB
    subst hsz
    rw [hyc] at hown
    exact body p e _ s m _ below meth c _ _ F (Nat.le_refl _) (Nat.le_refl _) (Nat.le_refl _) (Nat.le_refl _) rfl hr hlocks ⟨hx, hb, hml, hown, hts, hl0, hE, hSR, hNC, hOS, hOT, fun q h => Or.inr (Or.inr h)⟩ hOA hOA2 hds hOB hOB2 ls hl
section SEC2
variable {p : Program} {l : Launch} {e : Env} {R : Room} {s : State} {m : MethodId} {args : Array Value} {below : List Frame} {meth : Method} {c : Code} {H H0 : Heap} {locs : List Loc} {cells slots : Nat} {Q : State → Prop}
variable {y : MethodName} {bytes cc : ByteArray} {maxL nL mc ms n idx pc fr lo N zc zp b L : Nat} {xs : Nat → Int32} {ret : Option FieldType} {As rest st0 : List Value} {ls : Array Slot} {g : GE} {A F : Nat → Prop} {ap aq : Nat → Nat} {sp sq : PS} {v : Value}
theorem rh2Z {x : Int32} (hx : p.tables.exec = Jvm.exec) (hb : c.code = cc) (hr : meth.sig.returnType = some .boolean) (hlocks : meth.locks = false) (h01 : x = 0 ∨ x = 1) (hO : OB g ap F sp s H) (hO2 : OB g aq F sq s H) (hS : va_S A s.heap H locs) (hc : cells ≤ mc ∧ slots ≤ ms) (hdg : decode cc pc = .ok (.ireturn, 1)) : W p l e R s m args below meth c H locs cells slots (MQ below (qH2 g ap aq F sp sq (.int x) A) args s mc ms A) (F0 m pc ls [.int x]) :=
  W.widen hc.1 hc.2 (W.zret hx hb hr (narrow_01 h01) (fun t ht _ => ⟨⟨rfl, by rw [ht]; exact OB_any hO, by rw [ht]; exact OB_any hO2⟩, hS.F ht⟩) hS.2.2 hdg hlocks)
theorem rcH2 {a : Array Value} (hr : va_Run p l e R s m args below meth c H locs cells slots mc ms (F0 m pc ls st0) rest (qH2 g ap aq F sp sq v (A2 ap aq H.size) a) (A2 ap aq H.size)) (hS : va_S A H0 H locs) (hAq : ∀ q, A2 ap aq H.size q → A q)
    (kk : ∀ (H1 : Heap) (locs1 : List Loc), OB g ap F sp s H1 → OB g aq F sq s H1 → va_S A H0 H1 locs1 → W p l e R s m args below meth c H1 locs1 (cells + mc) (slots + ms) Q (F0 m (pc + 3) ls (v :: rest))) : W p l e R s m args below meth c H locs cells slots Q (F0 m pc ls st0) := by
  intro T hT X
  obtain ⟨v', st₀, t, T', L, h0, X', hL, e1, e2, ⟨⟨hv, hO, hO2⟩, hz, hk⟩, st⟩ := hr T hT X
  cases hv
  rw [h0] at hz hk
  have hk1 : ∀ q : Nat, q < H.size → ¬ A2 ap aq H.size q → T'.heap[q]? = H[q]? := fun q h1 h2 => by rw [e1]; exact hk q h1 h2
  obtain ⟨t2, a1, b1⟩ := kk T'.heap (locs ++ L) (by rw [e1]; exact OB_any hO) (by rw [e1]; exact OB_any hO2) ⟨Nat.le_trans hS.1 (by rw [e1]; exact hz), fun q h1 h2 => by rw [hk1 q (Nat.lt_of_lt_of_le h1 hS.1) (fun z => h2 (hAq q z))]; exact hS.2.1 q h1 h2, fun q hq => by
      rcases List.mem_append.mp hq with h | h
      · exact hS.2.2 q h
      · exact hAq _ (hL q h)⟩ T' rfl X'
  exact ⟨t2, st t2 a1, b1⟩
theorem sH2 (C : CX p l s m args c cc nL g zc zp A) (hA : OA A F ap) (hA2 : OA A F aq) (hds : DS ap aq) (hO : OB g ap F sp s H) (hO2 : OB g aq F sq s H) (hS : va_S A s.heap H locs) (hM : MH2 l y bytes maxL ret fr lo mc ms g zc zp ap aq As sp sq v) (cf : CF y bytes maxL ret n) (hst : Cond.static y ∈ TB) (hl : Cond.methodLink "HallGuardsLaw" idx y ∈ TB) (hR : fr + 1 ≤ R.frames ∧ 8 + (maxL + 11) + lo ≤ R.locals) (hn : As.length = n) (hsize : ls.size = nL) (hstack : st0 = As.reverse ++ rest) (hW : (rest.map fun v => v.category).sum ≤ 8) (hdg : decode cc pc = .ok (.invokestatic idx, 3)) (hf : cells + mc ≤ R.cells ∧ slots + ms ≤ R.slots)
    (kk : ∀ (H1 : Heap) (locs1 : List Loc), OB g ap F sp s H1 → OB g aq F sq s H1 → va_S A s.heap H1 locs1 → W p l e R s m args below meth c H1 locs1 (cells + mc) (slots + ms) Q (F0 m (pc + 3) ls (v :: rest))) : W p l e R s m args below meth c H locs cells slots Q (F0 m pc ls st0) := by
  obtain ⟨hx, hb, hml, hown, hts, hl0, hE, hSR, hNC, hOS, hOT, hAh⟩ := C
  have hAq : ∀ q, A2 ap aq H.size q → A q := fun q z => by
    rcases z with z | z | z
    · obtain ⟨i, hi, rfl⟩ := AL_mem.mp z
      exact (hA.2 i hi).1
    · obtain ⟨i, hi, rfl⟩ := AL_mem.mp z
      exact (hA2.2 i hi).1
    · exact hAh q (Nat.le_trans hS.1 z)
  exact rcH2 (runS_TB ⟨hx, hb, hml, hown, hts⟩ (hM H.size F) rfl rfl cf hst hl hR BH2_blind (fun U hU hW => ⟨by rw [hU], hE.warm hW, hSR.warm hW, hNC.warm hW, by rw [hU]; exact (OS_ok zc zp).to hOS hS hW.alike hAq, by rw [hU]; exact OT_ok.to hOT hS hW.alike hAq, ⟨hA.1, fun i hi => ⟨Or.inl (AL_mem.mpr ⟨i, hi, rfl⟩), (hA.2 i hi).2⟩⟩, ⟨hA2.1, fun i hi => ⟨Or.inr (Or.inl (AL_mem.mpr ⟨i, hi, rfl⟩)), (hA2.2 i hi).2⟩⟩, hds, by rw [hU]; exact OB_any hO, by rw [hU]; exact OB_any hO2⟩) hn hsize hstack hW hdg hf) hS hAq kk
/-! the script -/
def o_draw (xs : Nat → Int32) (L : Nat) (k : Int32) : Int32 := (if k < Int32.ofNat L then xs k.toNatClampNeg else 15595267 * k + 11273) &&& 2147483647
def DR (b L : Nat) (xs : Nat → Int32) : State → Prop := fun U => va_X b L xs U U.heap
theorem DR_blind {av : List Value} : FrameBlind (va_Pc av (DR b L xs)) := fun a U g' mk h => ⟨h.1, va_X.moved (u := U) (U := U.calling g' mk a) (Vm.Alike.refl _) h.2⟩
theorem m_draw (l : Launch) (b L : Nat) (hL : L < 2 ^ 31) (xs : Nat → Int32) (k : Int32) (hk : ¬ k < 0) : Met l yL_draw (.code yL_draw cL_draw 2 (some .int) :: TB) { frames := 0, cells := 0, slots := 0, locals := 0 } (va_Pc [.ref b, .int k] (DR b L xs)) (qI (o_draw xs L k)) 0 0 noF := by
  refine met_intro (by decide) rfl fun p e s m below meth c hx hb hml hr hlocks hown hts hin hB ls hl => ?_
  have hX : va_X b L xs s s.heap := hB
  have hbl : b < s.heap.size := by
    obtain ⟨scr, h1, -⟩ := hX
    exact (Array.getElem?_eq_some_iff.mp h1).1
  have hS : va_S noF s.heap s.heap [] := va_S.rf
  have hbA : ¬ noF b := fun z => z
  have hown : s.vm.findClass "HallGuardsLaw" = some m.cls := hown
  have hl : lv_has ls 2 [(0, .ref b), (1, .int k)] := hl
  unfold o_draw
  refine lv_iload_n hx hb dL_draw_0 rfl (lv_at hl 1 rfl) ?_
  refine lv_aload_n hx hb dL_draw_1 rfl (lv_at hl 0 rfl) ?_
  refine va_slen hx hb hX hbl hbA hS dL_draw_2 ?_
  refine lv_icmp_ge (tgt := 12) hx hb dL_draw_3 (by decide) (fun h => ?_) (fun h => ?_)
  · rw [if_neg (by rw [Int32.not_lt]; exact h)]
    refine lv_ldc (v := 15595267) hx hb hown (hts _ ct_L_7) dL_draw_12 ?_
    refine lv_iload_n hx hb dL_draw_14 rfl (lv_at hl 1 rfl) ?_
    refine lv_imul hx hb dL_draw_15 ?_
    refine lv_sipush (v := 11273) hx hb dL_draw_16 (by decide) ?_
    refine lv_iadd hx hb dL_draw_19 ?_
    refine lv_ldc (v := 2147483647) hx hb hown (hts _ ct_L_8) dL_draw_20 ?_
    refine lv_iand hx hb dL_draw_22 ?_
    exact rI hx hb hr hlocks rfl dL_draw_23
  · have h : k < Int32.ofNat L := by rw [Int32.not_le] at h; exact h
    rw [if_pos h]
    refine lv_aload_n hx hb dL_draw_6 rfl (lv_at hl 0 rfl) ?_
    refine lv_iload_n hx hb dL_draw_7 rfl (lv_at hl 1 rfl) ?_
    refine va_sld hx hb hX hbl hbA hS (fun q => ?_) dL_draw_8 ?_
    · rcases q with q | q
      · exact hk q
      · obtain ⟨j, hj, ej⟩ := nI_of hk
        rw [ej, nI_clamp hj] at q
        rw [ej] at h
        have h := (nI_ltI hj hL).mp h
        omega
    · refine lv_goto (tgt := 20) hx hb dL_draw_9 (by decide) ?_
      refine lv_ldc (v := 2147483647) hx hb hown (hts _ ct_L_8) dL_draw_20 ?_
      refine lv_iand hx hb dL_draw_22 ?_
      exact rI hx hb hr hlocks rfl dL_draw_23
theorem hdraw {k : Int32} (C : CX p l s m args c cc nL g zc zp A) (hX : va_X b L xs s s.heap) (hL : L < 2 ^ 31) (hbA : ¬ A b) (hS : va_S A s.heap H locs) (hk : ¬ k < 0) (hl : Cond.methodLink "HallGuardsLaw" idx yL_draw ∈ TB) (hR : 1 ≤ R.frames ∧ 21 ≤ R.locals) (hsize : ls.size = nL) (hW : (rest.map fun v => v.category).sum ≤ 8) (hdg : decode cc pc = .ok (.invokestatic idx, 3)) (hf : cells ≤ R.cells ∧ slots ≤ R.slots)
    (kk : W p l e R s m args below meth c H locs cells slots Q (F0 m (pc + 3) ls (.int (o_draw xs L k) :: rest))) : W p l e R s m args below meth c H locs cells slots Q (F0 m pc ls (.int k :: .ref b :: rest)) := by
  obtain ⟨hx, hb, hml, hown, hts, hl0, hE, hSR, hNC, hOS, hOT, hAh⟩ := C
  have hbl : b < s.heap.size := by
    obtain ⟨scr, h1, -⟩ := hX
    exact (Array.getElem?_eq_some_iff.mp h1).1
  exact rcI (runS_TB (As := [.ref b, .int k]) (rest := rest) ⟨hx, hb, hml, hown, hts⟩ (m_draw l b L hL xs k hk) rfl rfl cf_L_draw st_L_draw hl hR DR_blind (fun U hU hW => by
    show va_X b L xs U U.heap
    rw [hU]
    exact (hX.kept (hS.2.1 b hbl hbA)).moved hW.alike) rfl hsize rfl hW hdg hf) kk
end SEC2

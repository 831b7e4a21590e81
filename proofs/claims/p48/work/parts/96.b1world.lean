/-! ===== one object: all its cells, in one order; what they hold, as a state ===== -/
def WS (g : GE) (aa : Nat → Nat) (f : Nat → Int32) (kk : Int32) (sg : Int32) (sd : Int32) (mv : Int32) (gm : Int32) (lt : Option Nat) (w1 : Int32) (w2 : Int32) (dg : Int32) (t1 : Int32) (t2 : Int32) (am : Int32) (fT : Nat → Int32) (kkT : Int32) (sgT : Int32) (sdT : Int32) (mvT : Int32) (gmT : Int32) (ltT : Option Nat) (w1T : Int32) (w2T : Int32) (dgT : Int32) (t1T : Int32) (t2T : Int32) (amT : Int32) (so : Int32) (sc : Int32) (sx : Nat → SV) (skf : Nat → Int32) (qx : Nat → SV) (tl : Int32) (tf : Nat → Int32) (cnt : Int32) (mf : Nat → Int32) (bk : Int32) (bs : Int32) (bf : Nat → Int32) (rk : Int32) (rs : Int32) (rf : Nat → Int32) (rn : Int32) (rmf : Nat → Int32) (kc : Int32) (krf : Nat → Int32) (kqf : Nat → Int32) : va_W := [((aa 0), .inr (8, [.ref (aa 1), .ref (aa 4), .ref (aa 7), .ref (aa 14), .ref (aa 15), .ref (aa 35), .ref (aa 37), .ref (aa 39), .ref (aa 46)])),
  ((aa 1), .inr (7, [.ref (aa 2), .int sd, .int mv, .int gm, va_rf lt, .int w1, .int w2, .int dg, .int t1, .int t2, .int am])),
  ((aa 2), .inr (1, [.ref (aa 3), .int kk, .int sg])),
  ((aa 3), .inl (g.2.1, 49, .inl f)),
  ((aa 4), .inr (7, [.ref (aa 5), .int sdT, .int mvT, .int gmT, va_rf ltT, .int w1T, .int w2T, .int dgT, .int t1T, .int t2T, .int amT])),
  ((aa 5), .inr (1, [.ref (aa 6), .int kkT, .int sgT])),
  ((aa 6), .inl (g.2.1, 49, .inl fT)),
  ((aa 7), .inl (g.2.2.2.2, 2, .inr (.inr (.inr (.inr (al [(aa 8), (aa 11)])))))),
  ((aa 8), .inr (7, [.ref (aa 9), .int ((qx 0).2.2.2.1), .int ((qx 0).2.2.2.2.1), .int ((qx 0).2.2.2.2.2.1), va_rf ((qx 0).2.2.2.2.2.2.1), .int ((qx 0).2.2.2.2.2.2.2.1), .int ((qx 0).2.2.2.2.2.2.2.2.1), .int ((qx 0).2.2.2.2.2.2.2.2.2.1), .int ((qx 0).2.2.2.2.2.2.2.2.2.2.1), .int ((qx 0).2.2.2.2.2.2.2.2.2.2.2.1), .int ((qx 0).2.2.2.2.2.2.2.2.2.2.2.2)])),
  ((aa 9), .inr (1, [.ref (aa 10), .int ((qx 0).2.1), .int ((qx 0).2.2.1)])),
  ((aa 10), .inl (g.2.1, 49, .inl ((qx 0).1))),
  ((aa 11), .inr (7, [.ref (aa 12), .int ((qx 1).2.2.2.1), .int ((qx 1).2.2.2.2.1), .int ((qx 1).2.2.2.2.2.1), va_rf ((qx 1).2.2.2.2.2.2.1), .int ((qx 1).2.2.2.2.2.2.2.1), .int ((qx 1).2.2.2.2.2.2.2.2.1), .int ((qx 1).2.2.2.2.2.2.2.2.2.1), .int ((qx 1).2.2.2.2.2.2.2.2.2.2.1), .int ((qx 1).2.2.2.2.2.2.2.2.2.2.2.1), .int ((qx 1).2.2.2.2.2.2.2.2.2.2.2.2)])),
  ((aa 12), .inr (1, [.ref (aa 13), .int ((qx 1).2.1), .int ((qx 1).2.2.1)])),
  ((aa 13), .inl (g.2.1, 49, .inl ((qx 1).1))),
  ((aa 14), .inl (g.2.2.2.1, 2, .inl skf)),
  ((aa 15), .inr (6, [.ref (aa 16), .int so, .int sc])),
  ((aa 16), .inl (g.2.2.2.2, 6, .inr (.inr (.inr (.inr (al [(aa 17), (aa 20), (aa 23), (aa 26), (aa 29), (aa 32)])))))),
  ((aa 17), .inr (7, [.ref (aa 18), .int ((sx 0).2.2.2.1), .int ((sx 0).2.2.2.2.1), .int ((sx 0).2.2.2.2.2.1), va_rf ((sx 0).2.2.2.2.2.2.1), .int ((sx 0).2.2.2.2.2.2.2.1), .int ((sx 0).2.2.2.2.2.2.2.2.1), .int ((sx 0).2.2.2.2.2.2.2.2.2.1), .int ((sx 0).2.2.2.2.2.2.2.2.2.2.1), .int ((sx 0).2.2.2.2.2.2.2.2.2.2.2.1), .int ((sx 0).2.2.2.2.2.2.2.2.2.2.2.2)])),
  ((aa 18), .inr (1, [.ref (aa 19), .int ((sx 0).2.1), .int ((sx 0).2.2.1)])),
  ((aa 19), .inl (g.2.1, 49, .inl ((sx 0).1))),
  ((aa 20), .inr (7, [.ref (aa 21), .int ((sx 1).2.2.2.1), .int ((sx 1).2.2.2.2.1), .int ((sx 1).2.2.2.2.2.1), va_rf ((sx 1).2.2.2.2.2.2.1), .int ((sx 1).2.2.2.2.2.2.2.1), .int ((sx 1).2.2.2.2.2.2.2.2.1), .int ((sx 1).2.2.2.2.2.2.2.2.2.1), .int ((sx 1).2.2.2.2.2.2.2.2.2.2.1), .int ((sx 1).2.2.2.2.2.2.2.2.2.2.2.1), .int ((sx 1).2.2.2.2.2.2.2.2.2.2.2.2)])),
  ((aa 21), .inr (1, [.ref (aa 22), .int ((sx 1).2.1), .int ((sx 1).2.2.1)])),
  ((aa 22), .inl (g.2.1, 49, .inl ((sx 1).1))),
  ((aa 23), .inr (7, [.ref (aa 24), .int ((sx 2).2.2.2.1), .int ((sx 2).2.2.2.2.1), .int ((sx 2).2.2.2.2.2.1), va_rf ((sx 2).2.2.2.2.2.2.1), .int ((sx 2).2.2.2.2.2.2.2.1), .int ((sx 2).2.2.2.2.2.2.2.2.1), .int ((sx 2).2.2.2.2.2.2.2.2.2.1), .int ((sx 2).2.2.2.2.2.2.2.2.2.2.1), .int ((sx 2).2.2.2.2.2.2.2.2.2.2.2.1), .int ((sx 2).2.2.2.2.2.2.2.2.2.2.2.2)])),
  ((aa 24), .inr (1, [.ref (aa 25), .int ((sx 2).2.1), .int ((sx 2).2.2.1)])),
  ((aa 25), .inl (g.2.1, 49, .inl ((sx 2).1))),
  ((aa 26), .inr (7, [.ref (aa 27), .int ((sx 3).2.2.2.1), .int ((sx 3).2.2.2.2.1), .int ((sx 3).2.2.2.2.2.1), va_rf ((sx 3).2.2.2.2.2.2.1), .int ((sx 3).2.2.2.2.2.2.2.1), .int ((sx 3).2.2.2.2.2.2.2.2.1), .int ((sx 3).2.2.2.2.2.2.2.2.2.1), .int ((sx 3).2.2.2.2.2.2.2.2.2.2.1), .int ((sx 3).2.2.2.2.2.2.2.2.2.2.2.1), .int ((sx 3).2.2.2.2.2.2.2.2.2.2.2.2)])),
  ((aa 27), .inr (1, [.ref (aa 28), .int ((sx 3).2.1), .int ((sx 3).2.2.1)])),
  ((aa 28), .inl (g.2.1, 49, .inl ((sx 3).1))),
  ((aa 29), .inr (7, [.ref (aa 30), .int ((sx 4).2.2.2.1), .int ((sx 4).2.2.2.2.1), .int ((sx 4).2.2.2.2.2.1), va_rf ((sx 4).2.2.2.2.2.2.1), .int ((sx 4).2.2.2.2.2.2.2.1), .int ((sx 4).2.2.2.2.2.2.2.2.1), .int ((sx 4).2.2.2.2.2.2.2.2.2.1), .int ((sx 4).2.2.2.2.2.2.2.2.2.2.1), .int ((sx 4).2.2.2.2.2.2.2.2.2.2.2.1), .int ((sx 4).2.2.2.2.2.2.2.2.2.2.2.2)])),
  ((aa 30), .inr (1, [.ref (aa 31), .int ((sx 4).2.1), .int ((sx 4).2.2.1)])),
  ((aa 31), .inl (g.2.1, 49, .inl ((sx 4).1))),
  ((aa 32), .inr (7, [.ref (aa 33), .int ((sx 5).2.2.2.1), .int ((sx 5).2.2.2.2.1), .int ((sx 5).2.2.2.2.2.1), va_rf ((sx 5).2.2.2.2.2.2.1), .int ((sx 5).2.2.2.2.2.2.2.1), .int ((sx 5).2.2.2.2.2.2.2.2.1), .int ((sx 5).2.2.2.2.2.2.2.2.2.1), .int ((sx 5).2.2.2.2.2.2.2.2.2.2.1), .int ((sx 5).2.2.2.2.2.2.2.2.2.2.2.1), .int ((sx 5).2.2.2.2.2.2.2.2.2.2.2.2)])),
  ((aa 33), .inr (1, [.ref (aa 34), .int ((sx 5).2.1), .int ((sx 5).2.2.1)])),
  ((aa 34), .inl (g.2.1, 49, .inl ((sx 5).1))),
  ((aa 35), .inr (4, [.ref (aa 36), .int tl])),
  ((aa 36), .inl (g.2.1, 60, .inl tf)),
  ((aa 37), .inr (3, [.ref (aa 38), .int cnt])),
  ((aa 38), .inl (g.2.1, 588, .inl mf)),
  ((aa 39), .inr (0, [.ref (aa 40), .ref (aa 42), .ref (aa 44)])),
  ((aa 40), .inr (1, [.ref (aa 41), .int bk, .int bs])),
  ((aa 41), .inl (g.2.1, 49, .inl bf)),
  ((aa 42), .inr (1, [.ref (aa 43), .int rk, .int rs])),
  ((aa 43), .inl (g.2.1, 49, .inl rf)),
  ((aa 44), .inr (3, [.ref (aa 45), .int rn])),
  ((aa 45), .inl (g.2.1, 588, .inl rmf)),
  ((aa 46), .inr (2, [.ref (aa 47), .ref (aa 48), .int kc])),
  ((aa 47), .inl (g.2.1, 49, .inl krf)),
  ((aa 48), .inl (g.2.1, 49, .inl kqf))]
def AL (aa : Nat → Nat) : List Nat := [aa 0, aa 1, aa 2, aa 3, aa 4, aa 5, aa 6, aa 7, aa 8, aa 9, aa 10, aa 11, aa 12, aa 13, aa 14, aa 15, aa 16, aa 17, aa 18, aa 19, aa 20, aa 21, aa 22, aa 23, aa 24, aa 25, aa 26, aa 27, aa 28, aa 29, aa 30, aa 31, aa 32, aa 33, aa 34, aa 35, aa 36, aa 37, aa 38, aa 39, aa 40, aa 41, aa 42, aa 43, aa 44, aa 45, aa 46, aa 47, aa 48]
def KF (g : GE) (F : Nat → Prop) (s : State) (H : Heap) : List HP → Option Nat → Prop := fun h o => OC g (chP h) o F s H
def OB (g : GE) (aa : Nat → Nat) (F : Nat → Prop) (st : PS) (s : State) (H : Heap) : Prop := (∀ q, F q → q < H.size) ∧ GD st ∧ ∃ (f : Nat → Int32) (kk : Int32) (sg : Int32) (sd : Int32) (mv : Int32) (gm : Int32) (lt : Option Nat) (w1 : Int32) (w2 : Int32) (dg : Int32) (t1 : Int32) (t2 : Int32) (am : Int32) (fT : Nat → Int32) (kkT : Int32) (sgT : Int32) (sdT : Int32) (mvT : Int32) (gmT : Int32) (ltT : Option Nat) (w1T : Int32) (w2T : Int32) (dgT : Int32) (t1T : Int32) (t2T : Int32) (amT : Int32) (so : Int32) (sc : Int32) (sx : Nat → SV) (skf : Nat → Int32) (qx : Nat → SV) (tl : Int32) (tf : Nat → Int32) (cnt : Int32) (mf : Nat → Int32) (bk : Int32) (bs : Int32) (bf : Nat → Int32) (rk : Int32) (rs : Int32) (rf : Nat → Int32) (rn : Int32) (rmf : Nat → Int32) (kc : Int32) (krf : Nat → Int32) (kqf : Nat → Int32), va_P g.1 vwCl (WS g aa f kk sg sd mv gm lt w1 w2 dg t1 t2 am fT kkT sgT sdT mvT gmT ltT w1T w2T dgT t1T t2T amT so sc sx skf qx tl tf cnt mf bk bs bf rk rs rf rn rmf kc krf kqf) H ∧ OR (KF g F s H) (f, kk, sg, sd, mv, gm, lt, w1, w2, dg, t1, t2, am) so sc sx skf qx tl tf st
def pk (ws : va_W) (is : List Nat) : va_W := is.filterMap (fun i => ws[i]?)
theorem pk_ok {ws : va_W} : ∀ (is : List Nat), is.all (fun i => decide (i < ws.length)) = true → is.map (fun i => ws[i]?) = (pk ws is).map some
  | [], _ => rfl
  | i :: is, h => by
    rw [List.all_cons, Bool.and_eq_true] at h
    have h1 := of_decide_eq_true h.1
    have h2 := pk_ok is h.2
    have h3 : ws[i]? = some ws[i] := List.getElem?_eq_getElem h1
    show ws[i]? :: _ = _
    rw [h2, h3]
    show _ = (List.filterMap (fun i => ws[i]?) (i :: is)).map some
    rw [List.filterMap_cons, h3]
    rfl
theorem F_of {ws cs : va_W} {al : List Nat} (hAL : ws.map (fun q => q.1) = al) (isC : List Nat) (hC : isC.map (fun i => ws[i]?) = cs.map some) : ∀ (k q : Nat) (e : va_E), cs[k]? = some (q, e) → q ∈ al := by
  intro k q e h
  have h1 : (cs.map some)[k]? = some (some (q, e)) := by rw [List.getElem?_map, h]; rfl
  rw [← hC, List.getElem?_map] at h1
  obtain ⟨i, _, h2⟩ := Option.map_eq_some_iff.mp h1
  rw [← hAL]
  exact List.mem_map.mpr ⟨(q, e), List.mem_of_getElem? h2, rfl⟩
def mg : List Bool → va_W → va_W → va_W
  | true :: ms, _ :: ws, c :: cs => c :: mg ms ws cs
  | false :: ms, w :: ws, cs => w :: mg ms ws cs
  | _, _, _ => []
theorem mg_mem : ∀ (ms : List Bool) (ws cs : va_W) (q : Nat × va_E), q ∈ mg ms ws cs → q ∈ cs ∨ ∃ k : Nat, ms[k]? = some false ∧ ws[k]? = some q
  | true :: ms, _ :: ws, c :: cs, q, h => by
    rcases List.mem_cons.mp h with h | h
    · exact Or.inl (h ▸ List.mem_cons_self)
    · rcases mg_mem ms ws cs q h with z | ⟨k, z1, z2⟩
      · exact Or.inl (List.mem_cons_of_mem _ z)
      · exact Or.inr ⟨k + 1, z1, z2⟩
  | false :: ms, w :: ws, cs, q, h => by
    have h : q ∈ w :: mg ms ws cs := by cases cs <;> exact h
    rcases List.mem_cons.mp h with h | h
    · exact Or.inr ⟨0, rfl, by rw [h]; rfl⟩
    · rcases mg_mem ms ws cs q h with z | ⟨k, z1, z2⟩
      · exact Or.inl z
      · exact Or.inr ⟨k + 1, z1, z2⟩
  | [], _, _, _, h => absurd h List.not_mem_nil
  | true :: _, [], _, _, h => absurd h List.not_mem_nil
  | false :: _, [], _, _, h => absurd h List.not_mem_nil
  | true :: _, _ :: _, [], _, h => absurd h List.not_mem_nil
theorem va_D_al {A : Nat → Prop} {ws ws' : va_W} (h : va_D A ws) (e : ws'.map (fun q => q.1) = ws.map (fun q => q.1)) : va_D A ws' := by
  have key : ∀ (k : Nat) (q : Nat × va_E), ws'[k]? = some q → ∃ q2, ws[k]? = some q2 ∧ q2.1 = q.1 := fun k q hk => by
    have h1 : (ws'.map (fun q => q.1))[k]? = some q.1 := by rw [List.getElem?_map, hk]; rfl
    rw [e, List.getElem?_map] at h1
    obtain ⟨q2, h2, h3⟩ := Option.map_eq_some_iff.mp h1
    exact ⟨q2, h2, h3⟩
  refine ⟨fun i j p q hi hj he => ?_, fun k q hk => ?_⟩
  · obtain ⟨p2, h1, h2⟩ := key i p hi
    obtain ⟨q2, h3, h4⟩ := key j q hj
    exact h.1 i j p2 q2 h1 h3 (by rw [h2, h4, he])
  · obtain ⟨q2, h1, h2⟩ := key k q hk
    rw [← h2]
    exact h.2 k q2 h1
theorem P_right {D : va_G} {cl : List vw_C} {wr c1 : va_W} {H : Heap} (hP : va_P D cl (wr ++ c1) H) : va_P D cl c1 H := by
  intro k q hk
  refine hP (wr.length + k) q ?_
  rw [List.getElem?_append_right (Nat.le_add_right _ _), Nat.add_sub_cancel_left]
  exact hk
theorem OC_pl {g : GE} {F : Nat → Prop} {U : State} {H : Heap} {ch : List PC} {la : Nat} : ∀ (as : List Nat) (nl : List PC), as.length = nl.length → (∀ a ∈ as, ¬ F a) → va_P g.1 vwCl (plC la ch.length as nl) H → OC g ch (some la) F U H → OC g (nl ++ ch) (some (as.headD la)) F U H
  | [], [], _, _, _, h => h
  | a :: as, x :: nl, hl, hF, hP, h => by
    have h1 := OC_pl as nl (Nat.succ.inj hl) (fun q hq => hF q (List.mem_cons_of_mem _ hq)) (fun k q hk => hP (k + 1) q hk) h
    refine ⟨a, some (as.headD la), rfl, ?_, hF a List.mem_cons_self, h1⟩
    have e9 : (nl.append ch).length = nl.length + ch.length := List.length_append
    rw [e9]
    exact fun k q hk => hP k q (by
      match k, hk with
      | 0, hk => exact hk
      | k + 1, hk => exact absurd hk (by simp))
  | [], _ :: _, hl, _, _, _ => absurd hl (by simp)
  | _ :: _, [], hl, _, _, _ => absurd hl (by simp)
def cmp49 (isC : List Nat) : List Nat := (List.range 49).filter (fun i => !(isC.contains i))
theorem cmp_lt (isC : List Nat) {n : Nat} (hn : n = 49) : (cmp49 isC).all (fun i => decide (i < n)) = true := by
  rw [List.all_eq_true]
  intro i hi
  have h := List.mem_range.mp (List.mem_filter.mp hi).1
  exact decide_eq_true (by omega)
theorem cmp_dis (isC : List Nat) : ∀ i ∈ cmp49 isC, i ∉ isC := by
  intro i hi h
  have h1 := (List.mem_filter.mp hi).2
  rw [List.contains_iff_mem.mpr h] at h1
  exact absurd h1 (by decide)
theorem upd_P {D : va_G} {cl : List vw_C} {ws cs1 : va_W} {H : Heap} (isC : List Nat) (mask : List Bool) (ord : List Nat) (hm : (List.range 49).map (fun i => isC.contains i) = mask) (hP : va_P D cl (pk ws (cmp49 isC) ++ cs1) H) : va_P D cl (mg mask ws (pk cs1 ord)) H := by
  have h1 : ∀ q ∈ pk ws (cmp49 isC) ++ cs1, va_at D cl q H := fun q hq => by
    obtain ⟨k, hk⟩ := List.getElem?_of_mem hq
    exact hP k q hk
  intro k q hk
  rcases mg_mem _ _ _ q (List.mem_of_getElem? hk) with z | ⟨k, z1, z2⟩
  · obtain ⟨i, _, hi⟩ := List.mem_filterMap.mp z
    exact h1 q (List.mem_append_right _ (List.mem_of_getElem? hi))
  · rw [← hm, List.getElem?_map] at z1
    obtain ⟨i, hi, hc⟩ := Option.map_eq_some_iff.mp z1
    have h2 := List.getElem?_eq_some_iff.mp hi
    obtain ⟨h3, h4⟩ := h2
    rw [List.getElem_range] at h4
    rw [List.length_range] at h3
    refine h1 q (List.mem_append_left _ (List.mem_filterMap.mpr ⟨k, List.mem_filter.mpr ⟨List.mem_range.mpr h3, ?_⟩, z2⟩))
    rw [h4, hc]
    rfl
/-! the surroundings of a call -/
def CX (p : Program) (l : Launch) (s : State) (m : MethodId) (args : Array Value) (c : Code) (cc : ByteArray) (nL : Nat) (g : GE) (zc zp : Nat) (A : Nat → Prop) : Prop := p.tables.exec = Jvm.exec ∧ c.code = cc ∧ c.maxLocals = nL ∧ s.vm.findClass "HallGuardsLaw" = some m.cls ∧ (∀ w ∈ TB, w.before args s = true) ∧ l.stackTraces = false ∧ EV g s ∧ SR s ∧ NC s ∧ OS zc zp A s s.heap ∧ OT A s s.heap ∧ ∀ q : Nat, s.heap.size ≤ q → A q
def OA (A F : Nat → Prop) (aa : Nat → Nat) : Prop := (∀ i j, i < 49 → j < 49 → aa i = aa j → i = j) ∧ ∀ i, i < 49 → A (aa i) ∧ F (aa i)
def FR (aa : Nat → Nat) (H H1 : Heap) : Prop := ∀ q : Nat, q < H.size → q ∉ AL aa → H1[q]? = H[q]?
theorem AL_map (aa : Nat → Nat) : AL aa = (List.range 49).map aa := rfl
theorem AL_mem {aa : Nat → Nat} {q : Nat} : q ∈ AL aa ↔ ∃ i, i < 49 ∧ aa i = q := by
  rw [AL_map, List.mem_map]
  exact ⟨fun ⟨i, h1, h2⟩ => ⟨i, List.mem_range.mp h1, h2⟩, fun ⟨i, h1, h2⟩ => ⟨i, List.mem_range.mpr h1, h2⟩⟩
theorem at_AL {aa : Nat → Nat} {ws : va_W} (h : ws.map (fun q => q.1) = AL aa) {k : Nat} {q : Nat × va_E} (hk : ws[k]? = some q) : k < 49 ∧ q.1 = aa k := by
  have h1 : (ws.map (fun q => q.1))[k]? = some q.1 := by rw [List.getElem?_map, hk]; rfl
  rw [h, AL_map, List.getElem?_map] at h1
  obtain ⟨i, h2, h3⟩ := Option.map_eq_some_iff.mp h1
  obtain ⟨h4, h5⟩ := List.getElem?_eq_some_iff.mp h2
  rw [List.length_range] at h4
  rw [List.getElem_range] at h5
  exact ⟨h4, by rw [← h3, ← h5]⟩
theorem D_of {A F : Nat → Prop} {aa : Nat → Nat} (hA : OA A F aa) {ws : va_W} (h : ws.map (fun q => q.1) = AL aa) : va_D A ws := by
  refine ⟨fun i j p q hi hj he => ?_, fun k q hk => ?_⟩
  · obtain ⟨a1, a2⟩ := at_AL h hi
    obtain ⟨b1, b2⟩ := at_AL h hj
    exact hA.1 i j a1 b1 (by rw [← a2, ← b2, he])
  · obtain ⟨a1, a2⟩ := at_AL h hk
    rw [a2]
    exact (hA.2 k a1).1
theorem AL_lt {g : GE} {aa : Nat → Nat} {ws : va_W} {H : Heap} (hAL : ws.map (fun q => q.1) = AL aa) (hP : va_P g.1 vwCl ws H) : ∀ q, q ∈ AL aa → q < H.size := by
  intro q h
  rw [← hAL] at h
  obtain ⟨w, h1, rfl⟩ := List.mem_map.mp h
  obtain ⟨k, h2⟩ := List.getElem?_of_mem h1
  exact (hP k w h2).lt
theorem FR_of {aa : Nat → Nat} {ws cs : va_W} {H H1 : Heap} (hAL : ws.map (fun q => q.1) = AL aa) (isC : List Nat) (hC : isC.map (fun i => ws[i]?) = cs.map some) (hfr : ∀ q : Nat, q < H.size → ¬ va_A cs H.size q → H1[q]? = H[q]?) : FR aa H H1 := fun q h1 h2 => hfr q h1 (fun z => by
  rcases z with ⟨k, e, z⟩ | z
  · exact h2 (F_of hAL isC hC k q e z)
  · omega)
theorem KF_fr {g : GE} {A F : Nat → Prop} {s : State} {aa : Nat → Nat} {H H1 : Heap} (hA : OA A F aa) (hfr : FR aa H H1) {h : List HP} {o : Option Nat} (z : KF g F s H h o) : KF g F s H1 h o :=
  (OC_ok g (chP h) o).2.1 F s H H1 (fun a ha hn => hfr a ha (fun q => by
    obtain ⟨i, hi, rfl⟩ := AL_mem.mp q
    exact hn (hA.2 i hi).2)) z
theorem F_fr {F : Nat → Prop} {aa : Nat → Nat} {H H1 : Heap} (hF : ∀ q, F q → q < H.size) (hfr : FR aa H H1) (h : ∀ q, q ∈ AL aa → q < H1.size) : ∀ q, F q → q < H1.size := by
  intro q hq
  by_cases e : q ∈ AL aa
  · exact h q e
  · have h1 := hF q hq
    have h2 := hfr q h1 e
    rw [Array.getElem?_eq_getElem h1] at h2
    exact (Array.getElem?_eq_some_iff.mp h2).1
theorem KF_nil {g : GE} {F : Nat → Prop} {s : State} {H : Heap} {o : Option Nat} (h : KF g F s H [] o) : o = none := h
theorem KF_cons {g : GE} {F : Nat → Prop} {s : State} {H : Heap} {p0 : HP} {tt : List HP} {o : Option Nat} (h : KF g F s H (p0 :: tt) o) : ∃ la, o = some la ∧ KF g F s H (p0 :: tt) (some la) := by
  obtain ⟨a, bef, rfl, h2⟩ := id h
  exact ⟨a, rfl, h⟩
theorem OR_lt {K : List HP → Option Nat → Prop} {f : Nat → Int32} {kk sg sn mv gm : Int32} {lt : Option Nat} {w1 w2 dg t1 t2 am so sc : Int32} {sx : Nat → SV} {skf : Nat → Int32} {qx : Nat → SV} {tl : Int32} {tf : Nat → Int32} {st : PS} (h : OR K (f, kk, sg, sn, mv, gm, lt, w1, w2, dg, t1, t2, am) so sc sx skf qx tl tf st) : K (aH st.1) lt := by
  obtain ⟨f0, hh, l, sl, t, tx, s, rfl, ag, hK, _⟩ := OR_e h
  exact hK
theorem OR_60 {K : List HP → Option Nat → Prop} {v : SV} {so sc : Int32} {sx : Nat → SV} {skf : Nat → Int32} {qx : Nat → SV} {tl : Int32} {tf : Nat → Int32} {st : PS} (h : OR K v so sc sx skf qx tl tf st) : st.2.2.2.1 ≤ 60 := h.2.2.2.2.1
theorem OS_lw {s : State} {zc zp : Nat} {H : Heap} {locs : List Loc} {A : Nat → Prop} {ws cs : va_W} (hOS : OS zc zp A s s.heap) (hS : va_S A s.heap H locs) (hD : va_D A ws) (hAh : ∀ q : Nat, s.heap.size ≤ q → A q) (isC : List Nat) (hC : isC.map (fun i => ws[i]?) = cs.map some) : OS zc zp (va_A cs H.size) s H :=
  (OS_ok zc zp).to hOS hS (Vm.Alike.refl _) (va_free hD hS hAh isC hC)
theorem OZ_lw {g : GE} {s : State} {A F : Nat → Prop} {aa : Nat → Nat} {zc zp : Nat} {H : Heap} {locs : List Loc} {ws cs : va_W} {h : List HP} {o : Option Nat} (hOS : OS zc zp A s s.heap) (hOT : OT A s s.heap) (hS : va_S A s.heap H locs) (hD : va_D A ws) (hAh : ∀ q : Nat, s.heap.size ≤ q → A q) (hA : OA A F aa) (isC : List Nat) (hC : isC.map (fun i => ws[i]?) = cs.map some) (hAL : ws.map (fun q => q.1) = AL aa) (hK : KF g F s H h o) : OZ g zc zp (chP h) o (va_A cs H.size) s H :=
  OZ_law hOS hOT hS (va_free hD hS hAh isC hC) (fun k q e z => by
    obtain ⟨i, hi, rfl⟩ := AL_mem.mp (F_of hAL isC hC k q e z)
    exact (hA.2 i hi).2) hK
/-- an object that a call doesn't touch -/
theorem OB_fr {g : GE} {A F : Nat → Prop} {aa bb : Nat → Nat} {st : PS} {s : State} {H H1 : Heap} (hA : OA A F aa) (hdis : ∀ i j, i < 49 → j < 49 → aa i ≠ bb j) (hfr : FR aa H H1) (hb : ∀ q, q ∈ AL aa → q < H1.size) (h : OB g bb F st s H) : OB g bb F st s H1 := by
  obtain ⟨hF, hG, f, kk, sg, sd, mv, gm, lt, w1, w2, dg, t1, t2, am, fT, kkT, sgT, sdT, mvT, gmT, ltT, w1T, w2T, dgT, t1T, t2T, amT, so, sc, sx, skf, qx, tl, tf, cnt, mf, bk, bs, bf, rk, rs, rf, rn, rmf, kc, krf, kqf, hP, hR⟩ := h
  refine ⟨F_fr hF hfr hb, hG, f, kk, sg, sd, mv, gm, lt, w1, w2, dg, t1, t2, am, fT, kkT, sgT, sdT, mvT, gmT, ltT, w1T, w2T, dgT, t1T, t2T, amT, so, sc, sx, skf, qx, tl, tf, cnt, mf, bk, bs, bf, rk, rs, rf, rn, rmf, kc, krf, kqf, ?_, OR_K (fun h o z => KF_fr hA hfr z) hR⟩
  exact hP.kept (fun k q hk => by
    obtain ⟨k1, k2⟩ := at_AL (aa := bb) rfl hk
    refine hfr q.1 ((hP k q hk).lt) (fun z => ?_)
    obtain ⟨i, hi, e⟩ := AL_mem.mp z
    exact hdis i k hi k1 (by rw [e, k2]))
theorem OB_lt {g : GE} {F : Nat → Prop} {aa : Nat → Nat} {st : PS} {s : State} {H : Heap} (h : OB g aa F st s H) : ∀ q, q ∈ AL aa → q < H.size := by
  obtain ⟨hF, hG, f, kk, sg, sd, mv, gm, lt, w1, w2, dg, t1, t2, am, fT, kkT, sgT, sdT, mvT, gmT, ltT, w1T, w2T, dgT, t1T, t2T, amT, so, sc, sx, skf, qx, tl, tf, cnt, mf, bk, bs, bf, rk, rs, rf, rn, rmf, kc, krf, kqf, hP, hR⟩ := h
  exact AL_lt rfl hP

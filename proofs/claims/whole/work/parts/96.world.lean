/-! ===== the world of the law: all cells, in one order ===== -/
def WS (g : GE) (aa : Nat → Nat) (f : Nat → Int32) (kk : Int32) (sg : Int32) (sd : Int32) (mv : Int32) (gm : Int32) (lt : Option Nat) (w1 : Int32) (w2 : Int32) (dg : Int32) (t1 : Int32) (t2 : Int32) (am : Int32) (fT : Nat → Int32) (kkT : Int32) (sgT : Int32) (sdT : Int32) (mvT : Int32) (gmT : Int32) (ltT : Option Nat) (w1T : Int32) (w2T : Int32) (dgT : Int32) (t1T : Int32) (t2T : Int32) (amT : Int32) (so : Int32) (sc : Int32) (sx : Nat → SV) (skf : Nat → Int32) (qx : Nat → SV) (tl : Int32) (tf : Nat → Int32) (cnt : Int32) (mf : Nat → Int32) (bk : Int32) (bs : Int32) (bf : Nat → Int32) (rk : Int32) (rs : Int32) (rf : Nat → Int32) (rn : Int32) (rmf : Nat → Int32) (kc : Int32) (krf : Nat → Int32) (kqf : Nat → Int32) (refu : Int32) (nst : Int32) (nn : Int32) (len : Int32) (pos : Int32) (gd : Int32) (ps : Int32) (sm : Int32) (fnow : Nat → Int32) (ftri : Nat → Int32) (frep : Nat → Int32) (fway : Nat → Int32) (fbook : Nat → Int32) (fkept : Nat → Int32) (fisk : Nat → Int32) (ffst : Nat → Int64) (flst : Nat → Int64) (fbef : Nat → Int32) (fmov : Nat → Int32) (ftext : Nat → Int32) (fo : Nat → Int64) : va_W := [((aa 0), .inr (8, [.ref (aa 1), .ref (aa 4), .ref (aa 7), .ref (aa 14), .ref (aa 15), .ref (aa 35), .ref (aa 37), .ref (aa 39), .ref (aa 46)])),
  ((aa 1), .inr (7, [.ref (aa 2), .int sd, .int mv, .int gm, va_rf lt, .int w1, .int w2, .int dg, .int t1, .int t2, .int am])),
  ((aa 2), .inr (1, [.ref (aa 3), .int kk, .int sg])),
  ((aa 3), .inl (g.2.1, 49, .inl f)),
  ((aa 4), .inr (7, [.ref (aa 5), .int sdT, .int mvT, .int gmT, va_rf ltT, .int w1T, .int w2T, .int dgT, .int t1T, .int t2T, .int amT])),
  ((aa 5), .inr (1, [.ref (aa 6), .int kkT, .int sgT])),
  ((aa 6), .inl (g.2.1, 49, .inl fT)),
  ((aa 7), .inl (g.2.2.2.2, 2, .inr (.inr (.inr (.inr (al [(aa 8), (aa 11)])))))),
  ((aa 8), .inr (7, [.ref (aa 9), .int ((qx 0).2.2.2.1), .int ((qx 0).2.2.2.2.1), .int ((qx 0).2.2.2.2.2.1), va_rf ((qx 0).2.2.2.2.2.2.1), .int ((qx 0).2.2.2.2.2.2.2.1), .int ((qx 0).2.2.2.2.2.2.2.2.1), .int ((qx 0).2.2.2.2.2.2.2.2.2.1), .int ((qx 0).2.2.2.2.2.2.2.2.2.2.1), .int ((qx 0).2.2.2.2.2.2.2.2.2.2.2.1), .int ((qx 0).2.2.2.2.2.2.2.2.2.2.2.2)])),
  ((aa 9), .inr (1, [.ref (aa 10), .int ((qx 0).2.1), .int ((qx 0).2.2.1)])),
  ((aa 10), .inl (g.2.1, 49, .inl ((qx 0).1))),
  ((aa 11), .inr (7, [.ref (aa 12), .int ((qx 1).2.2.2.1), .int ((qx 1).2.2.2.2.1), .int ((qx 1).2.2.2.2.2.1), va_rf ((qx 1).2.2.2.2.2.2.1), .int ((qx 1).2.2.2.2.2.2.2.1), .int ((qx 1).2.2.2.2.2.2.2.2.1), .int ((qx 1).2.2.2.2.2.2.2.2.2.1), .int ((qx 1).2.2.2.2.2.2.2.2.2.2.1), .int ((qx 1).2.2.2.2.2.2.2.2.2.2.2.1), .int ((qx 1).2.2.2.2.2.2.2.2.2.2.2.2)])),
  ((aa 12), .inr (1, [.ref (aa 13), .int ((qx 1).2.1), .int ((qx 1).2.2.1)])),
  ((aa 13), .inl (g.2.1, 49, .inl ((qx 1).1))),
  ((aa 14), .inl (g.2.2.2.1, 2, .inl skf)),
  ((aa 15), .inr (6, [.ref (aa 16), .int so, .int sc])),
  ((aa 16), .inl (g.2.2.2.2, 6, .inr (.inr (.inr (.inr (al [(aa 17), (aa 20), (aa 23), (aa 26), (aa 29), (aa 32)])))))),
  ((aa 17), .inr (7, [.ref (aa 18), .int ((sx 0).2.2.2.1), .int ((sx 0).2.2.2.2.1), .int ((sx 0).2.2.2.2.2.1), va_rf ((sx 0).2.2.2.2.2.2.1), .int ((sx 0).2.2.2.2.2.2.2.1), .int ((sx 0).2.2.2.2.2.2.2.2.1), .int ((sx 0).2.2.2.2.2.2.2.2.2.1), .int ((sx 0).2.2.2.2.2.2.2.2.2.2.1), .int ((sx 0).2.2.2.2.2.2.2.2.2.2.2.1), .int ((sx 0).2.2.2.2.2.2.2.2.2.2.2.2)])),
  ((aa 18), .inr (1, [.ref (aa 19), .int ((sx 0).2.1), .int ((sx 0).2.2.1)])),
  ((aa 19), .inl (g.2.1, 49, .inl ((sx 0).1))),
  ((aa 20), .inr (7, [.ref (aa 21), .int ((sx 1).2.2.2.1), .int ((sx 1).2.2.2.2.1), .int ((sx 1).2.2.2.2.2.1), va_rf ((sx 1).2.2.2.2.2.2.1), .int ((sx 1).2.2.2.2.2.2.2.1), .int ((sx 1).2.2.2.2.2.2.2.2.1), .int ((sx 1).2.2.2.2.2.2.2.2.2.1), .int ((sx 1).2.2.2.2.2.2.2.2.2.2.1), .int ((sx 1).2.2.2.2.2.2.2.2.2.2.2.1), .int ((sx 1).2.2.2.2.2.2.2.2.2.2.2.2)])),
  ((aa 21), .inr (1, [.ref (aa 22), .int ((sx 1).2.1), .int ((sx 1).2.2.1)])),
  ((aa 22), .inl (g.2.1, 49, .inl ((sx 1).1))),
  ((aa 23), .inr (7, [.ref (aa 24), .int ((sx 2).2.2.2.1), .int ((sx 2).2.2.2.2.1), .int ((sx 2).2.2.2.2.2.1), va_rf ((sx 2).2.2.2.2.2.2.1), .int ((sx 2).2.2.2.2.2.2.2.1), .int ((sx 2).2.2.2.2.2.2.2.2.1), .int ((sx 2).2.2.2.2.2.2.2.2.2.1), .int ((sx 2).2.2.2.2.2.2.2.2.2.2.1), .int ((sx 2).2.2.2.2.2.2.2.2.2.2.2.1), .int ((sx 2).2.2.2.2.2.2.2.2.2.2.2.2)])),
  ((aa 24), .inr (1, [.ref (aa 25), .int ((sx 2).2.1), .int ((sx 2).2.2.1)])),
  ((aa 25), .inl (g.2.1, 49, .inl ((sx 2).1))),
  ((aa 26), .inr (7, [.ref (aa 27), .int ((sx 3).2.2.2.1), .int ((sx 3).2.2.2.2.1), .int ((sx 3).2.2.2.2.2.1), va_rf ((sx 3).2.2.2.2.2.2.1), .int ((sx 3).2.2.2.2.2.2.2.1), .int ((sx 3).2.2.2.2.2.2.2.2.1), .int ((sx 3).2.2.2.2.2.2.2.2.2.1), .int ((sx 3).2.2.2.2.2.2.2.2.2.2.1), .int ((sx 3).2.2.2.2.2.2.2.2.2.2.2.1), .int ((sx 3).2.2.2.2.2.2.2.2.2.2.2.2)])),
  ((aa 27), .inr (1, [.ref (aa 28), .int ((sx 3).2.1), .int ((sx 3).2.2.1)])),
  ((aa 28), .inl (g.2.1, 49, .inl ((sx 3).1))),
  ((aa 29), .inr (7, [.ref (aa 30), .int ((sx 4).2.2.2.1), .int ((sx 4).2.2.2.2.1), .int ((sx 4).2.2.2.2.2.1), va_rf ((sx 4).2.2.2.2.2.2.1), .int ((sx 4).2.2.2.2.2.2.2.1), .int ((sx 4).2.2.2.2.2.2.2.2.1), .int ((sx 4).2.2.2.2.2.2.2.2.2.1), .int ((sx 4).2.2.2.2.2.2.2.2.2.2.1), .int ((sx 4).2.2.2.2.2.2.2.2.2.2.2.1), .int ((sx 4).2.2.2.2.2.2.2.2.2.2.2.2)])),
  ((aa 30), .inr (1, [.ref (aa 31), .int ((sx 4).2.1), .int ((sx 4).2.2.1)])),
  ((aa 31), .inl (g.2.1, 49, .inl ((sx 4).1))),
  ((aa 32), .inr (7, [.ref (aa 33), .int ((sx 5).2.2.2.1), .int ((sx 5).2.2.2.2.1), .int ((sx 5).2.2.2.2.2.1), va_rf ((sx 5).2.2.2.2.2.2.1), .int ((sx 5).2.2.2.2.2.2.2.1), .int ((sx 5).2.2.2.2.2.2.2.2.1), .int ((sx 5).2.2.2.2.2.2.2.2.2.1), .int ((sx 5).2.2.2.2.2.2.2.2.2.2.1), .int ((sx 5).2.2.2.2.2.2.2.2.2.2.2.1), .int ((sx 5).2.2.2.2.2.2.2.2.2.2.2.2)])),
  ((aa 33), .inr (1, [.ref (aa 34), .int ((sx 5).2.1), .int ((sx 5).2.2.1)])),
  ((aa 34), .inl (g.2.1, 49, .inl ((sx 5).1))),
  ((aa 35), .inr (4, [.ref (aa 36), .int tl])),
  ((aa 36), .inl (g.2.1, 60, .inl tf)),
  ((aa 37), .inr (3, [.ref (aa 38), .int cnt])),
  ((aa 38), .inl (g.2.1, 588, .inl mf)),
  ((aa 39), .inr (0, [.ref (aa 40), .ref (aa 42), .ref (aa 44)])),
  ((aa 40), .inr (1, [.ref (aa 41), .int bk, .int bs])),
  ((aa 41), .inl (g.2.1, 49, .inl bf)),
  ((aa 42), .inr (1, [.ref (aa 43), .int rk, .int rs])),
  ((aa 43), .inl (g.2.1, 49, .inl rf)),
  ((aa 44), .inr (3, [.ref (aa 45), .int rn])),
  ((aa 45), .inl (g.2.1, 588, .inl rmf)),
  ((aa 46), .inr (2, [.ref (aa 47), .ref (aa 48), .int kc])),
  ((aa 47), .inl (g.2.1, 49, .inl krf)),
  ((aa 48), .inl (g.2.1, 49, .inl kqf)),
  ((aa 49), .inr (9, [.int refu, .ref (aa 50), .ref (aa 51), .ref (aa 52), .ref (aa 53), .ref (aa 54), .int nst, .ref (aa 55), .ref (aa 56), .ref (aa 57), .ref (aa 58), .ref (aa 59), .ref (aa 60), .int nn, .ref (aa 61), .int len, .int pos, .int gd, .int ps, .int sm])),
  ((aa 50), .inl (g.2.1, 61, .inl fnow)),
  ((aa 51), .inl (g.2.1, 61, .inl ftri)),
  ((aa 52), .inl (g.2.1, 61, .inl frep)),
  ((aa 53), .inl (g.2.1, 49, .inl fway)),
  ((aa 54), .inl (g.2.1, 366, .inl fbook)),
  ((aa 55), .inl (g.2.1, 122, .inl fkept)),
  ((aa 56), .inl (g.2.2.2.1, 2, .inl fisk)),
  ((aa 57), .inl (g.2.2.1, 4096, .inr (.inl ffst))),
  ((aa 58), .inl (g.2.2.1, 4096, .inr (.inl flst))),
  ((aa 59), .inl (g.2.1, 4096, .inl fbef)),
  ((aa 60), .inl (g.2.1, 4096, .inl fmov)),
  ((aa 61), .inl (g.2.1, 60, .inl ftext)),
  ((aa 62), .inl (g.2.2.1, 1, .inr (.inl fo)))]
def AL (aa : Nat → Nat) : List Nat := [aa 0, aa 1, aa 2, aa 3, aa 4, aa 5, aa 6, aa 7, aa 8, aa 9, aa 10, aa 11, aa 12, aa 13, aa 14, aa 15, aa 16, aa 17, aa 18, aa 19, aa 20, aa 21, aa 22, aa 23, aa 24, aa 25, aa 26, aa 27, aa 28, aa 29, aa 30, aa 31, aa 32, aa 33, aa 34, aa 35, aa 36, aa 37, aa 38, aa 39, aa 40, aa 41, aa 42, aa 43, aa 44, aa 45, aa 46, aa 47, aa 48, aa 49, aa 50, aa 51, aa 52, aa 53, aa 54, aa 55, aa 56, aa 57, aa 58, aa 59, aa 60, aa 61, aa 62]
def KF (g : GE) (s : State) (aa : Nat → Nat) (H : Heap) : List HP → Option Nat → Prop := fun h o => OC g (chP h) o (fun q => q ∈ AL aa) s H
def LI (g : GE) (s : State) (aa : Nat → Nat) (N : Nat) (H : Heap) (locs : List Loc) : Prop := ∃ (hn : List HP) (f : Nat → Int32) (kk : Int32) (sg : Int32) (sd : Int32) (mv : Int32) (gm : Int32) (lt : Option Nat) (w1 : Int32) (w2 : Int32) (dg : Int32) (t1 : Int32) (t2 : Int32) (am : Int32) (fT : Nat → Int32) (kkT : Int32) (sgT : Int32) (sdT : Int32) (mvT : Int32) (gmT : Int32) (ltT : Option Nat) (w1T : Int32) (w2T : Int32) (dgT : Int32) (t1T : Int32) (t2T : Int32) (amT : Int32) (so : Int32) (sc : Int32) (sx : Nat → SV) (skf : Nat → Int32) (qx : Nat → SV) (tl : Int32) (tf : Nat → Int32) (cnt : Int32) (mf : Nat → Int32) (bk : Int32) (bs : Int32) (bf : Nat → Int32) (rk : Int32) (rs : Int32) (rf : Nat → Int32) (rn : Int32) (rmf : Nat → Int32) (kc : Int32) (krf : Nat → Int32) (kqf : Nat → Int32) (refu : Int32) (nst : Int32) (nn : Int32) (len : Int32) (pos : Int32) (gd : Int32) (ps : Int32) (sm : Int32) (fnow : Nat → Int32) (ftri : Nat → Int32) (frep : Nat → Int32) (fway : Nat → Int32) (fbook : Nat → Int32) (fkept : Nat → Int32) (fisk : Nat → Int32) (ffst : Nat → Int64) (flst : Nat → Int64) (fbef : Nat → Int32) (fmov : Nat → Int32) (ftext : Nat → Int32) (fo : Nat → Int64), va_P g.1 vwCl (WS g aa f kk sg sd mv gm lt w1 w2 dg t1 t2 am fT kkT sgT sdT mvT gmT ltT w1T w2T dgT t1T t2T amT so sc sx skf qx tl tf cnt mf bk bs bf rk rs rf rn rmf kc krf kqf refu nst nn len pos gd ps sm fnow ftri frep fway fbook fkept fisk ffst flst fbef fmov ftext fo) H ∧ va_D (fun q : Nat => s.heap.size ≤ q) (WS g aa f kk sg sd mv gm lt w1 w2 dg t1 t2 am fT kkT sgT sdT mvT gmT ltT w1T w2T dgT t1T t2T amT so sc sx skf qx tl tf cnt mf bk bs bf rk rs rf rn rmf kc krf kqf refu nst nn len pos gd ps sm fnow ftri frep fway fbook fkept fisk ffst flst fbef fmov ftext fo) ∧ va_S (fun q : Nat => s.heap.size ≤ q) s.heap H locs ∧ REL (KF g s aa H) N hn (f, kk, sg, sd, mv, gm, lt, w1, w2, dg, t1, t2, am) so sc sx skf qx tl tf nst nn len fnow fbook fkept fisk ffst flst fbef ftext
def LX (p : Program) (l : Launch) (s : State) (m : MethodId) (c : Code) (b L : Nat) (xs : Nat → Int32) (g : GE) (zc zp : Nat) : Prop := p.tables.exec = Jvm.exec ∧ c.code = cL_law ∧ c.maxLocals = 9 ∧ s.vm.findClass "HallGuardsLaw" = some m.cls ∧ (∀ w ∈ TB, w.before #[Value.ref b] s = true) ∧ l.stackTraces = false ∧ va_X b L xs s s.heap ∧ b < s.heap.size ∧ EV g s ∧ SR s ∧ NC s ∧ OS zc zp (fun q : Nat => s.heap.size ≤ q) s s.heap ∧ OT (fun q : Nat => s.heap.size ≤ q) s s.heap
theorem inB01 : vp_in 0 1 := by unfold vp_in; decide
theorem b64_0 {b : Int32} (_ : is01 b = true) (h : b = 0) : b.toInt64 = 0 := by rw [h]; rfl
theorem b64_1 {b : Int32} (h1 : is01 b = true) (h : ¬ b = 0) : b.toInt64 = 1 := by
  rcases (Bool.or_eq_true _ _).mp h1 with q | q
  · exact absurd (of_decide_eq_true q) h
  · rw [of_decide_eq_true q]; rfl
set_option maxRecDepth 100000 in
theorem mean_eq : ∀ n, n < 1177 → Op.cmpValue (FP.dcmp (FP.ddiv (FP.i2d (nI n)) 4611686018427387904) (FP.ddiv (FP.i2d (nI n)) 4611686018427387904)) CmpOp.l = 0 := by decide +kernel
theorem r_meanE {f : Nat → Int32} {kk sg sn mv gm w1 w2 dg t1 t2 am : Int32} {now : Nat → Int32} {h : List HP} (hr : RP f kk sg sn mv gm w1 w2 dg t1 t2 am now h) : ∃ v, fX8_meanMoves f = some v ∧ fX9_meanMoves now = some (v, 0) ∧ Op.cmpValue (FP.dcmp v v) CmpOp.l = 0 := by
  obtain ⟨v, h1, h2, _⟩ := r_meanMoves hr
  refine ⟨v, h1, h2, ?_⟩
  have m0 := mcN_le f 0
  have m1 := mcN_le f 1
  have h3 := f_meanMoves f
  rw [h1] at h3
  rw [Option.some.inj h3]
  exact mean_eq _ (by omega)
def pk (ws : va_W) (is : List Nat) : va_W := is.filterMap (fun i => ws[i]?)
theorem pk_ok {ws : va_W} : ∀ (is : List Nat), is.all (fun i => decide (i < ws.length)) = true → is.map (fun i => ws[i]?) = (pk ws is).map some
  | [], _ => rfl
  | i :: is, h => by
    rw [List.all_cons, Bool.and_eq_true] at h
    have h1 := of_decide_eq_true h.1
    have h2 := pk_ok is h.2
    have h3 : ws[i]? = some ws[i] := List.getElem?_eq_getElem h1
    show ws[i]? :: _ = _
    rw [h2, h3]
    show _ = (List.filterMap (fun i => ws[i]?) (i :: is)).map some
    rw [List.filterMap_cons, h3]
    rfl
theorem F_of {ws cs : va_W} {al : List Nat} (hAL : ws.map (fun q => q.1) = al) (isC : List Nat) (hC : isC.map (fun i => ws[i]?) = cs.map some) : ∀ (k q : Nat) (e : va_E), cs[k]? = some (q, e) → q ∈ al := by
  intro k q e h
  have h1 : (cs.map some)[k]? = some (some (q, e)) := by rw [List.getElem?_map, h]; rfl
  rw [← hC, List.getElem?_map] at h1
  obtain ⟨i, _, h2⟩ := Option.map_eq_some_iff.mp h1
  rw [← hAL]
  exact List.mem_map.mpr ⟨(q, e), List.mem_of_getElem? h2, rfl⟩
theorem KF_keep {g : GE} {s : State} {aa : Nat → Nat} {ws cs : va_W} {H H1 : Heap} (hAL : ws.map (fun q => q.1) = AL aa) (isC : List Nat) (hC : isC.map (fun i => ws[i]?) = cs.map some) (hfr : ∀ q : Nat, q < H.size → ¬ va_A cs H.size q → H1[q]? = H[q]?) : ∀ (h : List HP) (o : Option Nat), KF g s aa H h o → KF g s aa H1 h o :=
  fun _ _ z => OC_keep (F_of hAL isC hC) hfr z
theorem F_lt {g : GE} {aa : Nat → Nat} {ws : va_W} {H : Heap} (hAL : ws.map (fun q => q.1) = AL aa) (hP : va_P g.1 vwCl ws H) : ∀ q, q ∈ AL aa → q < H.size := by
  intro q h
  rw [← hAL] at h
  obtain ⟨w, h1, rfl⟩ := List.mem_map.mp h
  obtain ⟨k, h2⟩ := List.getElem?_of_mem h1
  exact (hP k w h2).lt
theorem OS_law {s : State} {zc zp : Nat} {H : Heap} {locs : List Loc} {ws cs : va_W} (hOS : OS zc zp (fun q : Nat => s.heap.size ≤ q) s s.heap) (hS : va_S (fun q : Nat => s.heap.size ≤ q) s.heap H locs) (hD : va_D (fun q : Nat => s.heap.size ≤ q) ws) (isC : List Nat) (hC : isC.map (fun i => ws[i]?) = cs.map some) : OS zc zp (va_A cs H.size) s H :=
  (OS_ok zc zp).to hOS hS (Vm.Alike.refl _) (va_free hD hS (fun _ h => h) isC hC)
theorem OZ_lw {g : GE} {s : State} {aa : Nat → Nat} {zc zp : Nat} {H : Heap} {locs : List Loc} {ws cs : va_W} {h : List HP} {o : Option Nat} (hOS : OS zc zp (fun q : Nat => s.heap.size ≤ q) s s.heap) (hOT : OT (fun q : Nat => s.heap.size ≤ q) s s.heap) (hS : va_S (fun q : Nat => s.heap.size ≤ q) s.heap H locs) (hD : va_D (fun q : Nat => s.heap.size ≤ q) ws) (isC : List Nat) (hC : isC.map (fun i => ws[i]?) = cs.map some) (hAL : ws.map (fun q => q.1) = AL aa) (hK : KF g s aa H h o) : OZ g zc zp (chP h) o (va_A cs H.size) s H :=
  OZ_law hOS hOT hS (va_free hD hS (fun _ h => h) isC hC) (F_of hAL isC hC) hK
theorem OC_pl {g : GE} {F : Nat → Prop} {U : State} {H : Heap} {ch : List PC} {la : Nat} : ∀ (as : List Nat) (nl : List PC), as.length = nl.length → (∀ a ∈ as, ¬ F a) → va_P g.1 vwCl (plC la ch.length as nl) H → OC g ch (some la) F U H → OC g (nl ++ ch) (some (as.headD la)) F U H
  | [], [], _, _, _, h => h
  | a :: as, x :: nl, hl, hF, hP, h => by
    have h1 := OC_pl as nl (Nat.succ.inj hl) (fun q hq => hF q (List.mem_cons_of_mem _ hq)) (fun k q hk => hP (k + 1) q hk) h
    refine ⟨a, some (as.headD la), rfl, ?_, hF a List.mem_cons_self, h1⟩
    have e9 : (nl.append ch).length = nl.length + ch.length := List.length_append
    rw [e9]
    exact fun k q hk => hP k q (by
      match k, hk with
      | 0, hk => exact hk
      | k + 1, hk => exact absurd hk (by simp))
  | [], _ :: _, hl, _, _, _ => absurd hl (by simp)
  | _ :: _, [], hl, _, _, _ => absurd hl (by simp)
theorem pl_of {g : GE} {wr c1 pl : va_W} {H : Heap} (hP : va_P g.1 vwCl (wr ++ (c1 ++ pl)) H) : va_P g.1 vwCl pl H := by
  intro k q hk
  refine hP (wr.length + (c1.length + k)) q ?_
  rw [List.getElem?_append_right (Nat.le_add_right _ _), Nat.add_sub_cancel_left, List.getElem?_append_right (Nat.le_add_right _ _), Nat.add_sub_cancel_left]
  exact hk
def cmp63 (isC : List Nat) : List Nat := (List.range 63).filter (fun i => !(isC.contains i))
def mg : List Bool → va_W → va_W → va_W
  | true :: ms, _ :: ws, c :: cs => c :: mg ms ws cs
  | false :: ms, w :: ws, cs => w :: mg ms ws cs
  | _, _, _ => []
theorem cmp_lt (isC : List Nat) {n : Nat} (hn : n = 63) : (cmp63 isC).all (fun i => decide (i < n)) = true := by
  rw [List.all_eq_true]
  intro i hi
  have h := List.mem_range.mp (List.mem_filter.mp hi).1
  exact decide_eq_true (by omega)
theorem cmp_dis (isC : List Nat) : ∀ i ∈ cmp63 isC, i ∉ isC := by
  intro i hi h
  have h1 := (List.mem_filter.mp hi).2
  rw [List.contains_iff_mem.mpr h] at h1
  exact absurd h1 (by decide)
theorem mg_mem : ∀ (ms : List Bool) (ws cs : va_W) (q : Nat × va_E), q ∈ mg ms ws cs → q ∈ cs ∨ ∃ k : Nat, ms[k]? = some false ∧ ws[k]? = some q
  | true :: ms, _ :: ws, c :: cs, q, h => by
    rcases List.mem_cons.mp h with h | h
    · exact Or.inl (h ▸ List.mem_cons_self)
    · rcases mg_mem ms ws cs q h with z | ⟨k, z1, z2⟩
      · exact Or.inl (List.mem_cons_of_mem _ z)
      · exact Or.inr ⟨k + 1, z1, z2⟩
  | false :: ms, w :: ws, cs, q, h => by
    have h : q ∈ w :: mg ms ws cs := by cases cs <;> exact h
    rcases List.mem_cons.mp h with h | h
    · exact Or.inr ⟨0, rfl, by rw [h]; rfl⟩
    · rcases mg_mem ms ws cs q h with z | ⟨k, z1, z2⟩
      · exact Or.inl z
      · exact Or.inr ⟨k + 1, z1, z2⟩
  | [], _, _, _, h => absurd h List.not_mem_nil
  | true :: _, [], _, _, h => absurd h List.not_mem_nil
  | false :: _, [], _, _, h => absurd h List.not_mem_nil
  | true :: _, _ :: _, [], _, h => absurd h List.not_mem_nil
theorem upd_P {D : va_G} {cl : List vw_C} {ws cs1 : va_W} {H : Heap} (isC : List Nat) (mask : List Bool) (ord : List Nat) (hm : (List.range 63).map (fun i => isC.contains i) = mask) (hP : va_P D cl (pk ws (cmp63 isC) ++ cs1) H) : va_P D cl (mg mask ws (pk cs1 ord)) H := by
  have h1 : ∀ q ∈ pk ws (cmp63 isC) ++ cs1, va_at D cl q H := fun q hq => by
    obtain ⟨k, hk⟩ := List.getElem?_of_mem hq
    exact hP k q hk
  intro k q hk
  rcases mg_mem _ _ _ q (List.mem_of_getElem? hk) with z | ⟨k, z1, z2⟩
  · obtain ⟨i, _, hi⟩ := List.mem_filterMap.mp z
    exact h1 q (List.mem_append_right _ (List.mem_of_getElem? hi))
  · rw [← hm, List.getElem?_map] at z1
    obtain ⟨i, hi, hc⟩ := Option.map_eq_some_iff.mp z1
    have h2 := List.getElem?_eq_some_iff.mp hi
    obtain ⟨h3, h4⟩ := h2
    rw [List.getElem_range] at h4
    rw [List.length_range] at h3
    refine h1 q (List.mem_append_left _ (List.mem_filterMap.mpr ⟨k, List.mem_filter.mpr ⟨List.mem_range.mpr h3, ?_⟩, z2⟩))
    rw [h4, hc]
    rfl
theorem va_D_al {A : Nat → Prop} {ws ws' : va_W} (h : va_D A ws) (e : ws'.map (fun q => q.1) = ws.map (fun q => q.1)) : va_D A ws' := by
  have key : ∀ (k : Nat) (q : Nat × va_E), ws'[k]? = some q → ∃ q2, ws[k]? = some q2 ∧ q2.1 = q.1 := fun k q hk => by
    have h1 : (ws'.map (fun q => q.1))[k]? = some q.1 := by rw [List.getElem?_map, hk]; rfl
    rw [e, List.getElem?_map] at h1
    obtain ⟨q2, h2, h3⟩ := Option.map_eq_some_iff.mp h1
    exact ⟨q2, h2, h3⟩
  refine ⟨fun i j p q hi hj he => ?_, fun k q hk => ?_⟩
  · obtain ⟨p2, h1, h2⟩ := key i p hi
    obtain ⟨q2, h3, h4⟩ := key j q hj
    exact h.1 i j p2 q2 h1 h3 (by rw [h2, h4, he])
  · obtain ⟨q2, h1, h2⟩ := key k q hk
    rw [← h2]
    exact h.2 k q2 h1
theorem P_right {D : va_G} {cl : List vw_C} {wr c1 : va_W} {H : Heap} (hP : va_P D cl (wr ++ c1) H) : va_P D cl c1 H := by
  intro k q hk
  refine hP (wr.length + k) q ?_
  rw [List.getElem?_append_right (Nat.le_add_right _ _), Nat.add_sub_cancel_left]
  exact hk
section JLAW
variable {p : Program} {l : Launch} {e : Env} {s : State} {m : MethodId} {below : List Frame} {meth : Method} {c : Code} {b L : Nat} {xs : Nat → Int32} {g : GE} {zc zp : Nat} {aa : Nat → Nat} {H : Heap} {locs : List Loc} {cells slots : Nat} {Q : State → Prop} {ls : Array Slot}
variable {y : MethodName} {bytes : ByteArray} {maxL mc ms n idx pc fr lo nn : Nat} {ret : Option FieldType} {bb : Addr} {As rest st0 : List Value} {cs ws cs1 : va_W} {cs' csx : Nat → va_W} {c0 c1 : List Nat → Option Nat → va_W} {O : OX} {o : Option Value} {hh : List (Nat × Nat × Nat × Nat)} {v : Int32}
theorem jV {ci q0 : Nat} {q : vw_C} {fs : List Value} (C : LX p l s m c b L xs g zc zp) (hM : WM l y bytes maxL ret fr lo g cs (.ref bb :: As) o cs1) (cf : CF y bytes maxL ret n) (hin : Cond.instanceMethod y ∈ TB) (hse : Cond.selects y.cls y y ∈ TB) (hl : Cond.methodLink "HallGuardsLaw" idx y ∈ TB) (hR : fr + 1 ≤ room_1.frames ∧ 8 + (maxL + 11) + lo ≤ room_1.locals) (hP : va_P g.1 vwCl ws H) (hD : va_D (fun q : Nat => s.heap.size ≤ q) ws) (hS : va_S (fun q : Nat => s.heap.size ≤ q) s.heap H locs) (isC : List Nat) (hC : isC.map (fun i => ws[i]?) = cs.map some) (hAL : ws.map (fun q => q.1) = AL aa) (mask : List Bool) (ord : List Nat) (hm : (List.range 63).map (fun i => isC.contains i) = mask) (hn2 : va_nd (cmp63 isC) = true ∧ va_nd isC = true) (hc : vwCl[ci]? = some q) (hq : y.cls = q.1) (he : cs[q0]? = some (bb, .inr (ci, fs))) (hn : As.length = n) (hsize : ls.size = 9) (hstack : st0 = As.reverse ++ .ref bb :: rest) (hW : (rest.map fun v => v.category).sum ≤ 8) (hdg : decode cL_law pc = .ok (.invokevirtual idx, 3)) (hf : cells + 0 ≤ room_1.cells ∧ slots + 0 ≤ room_1.slots)
    (kk : ∀ (H1 : Heap) (locs1 : List Loc), va_P g.1 vwCl (mg mask ws (pk cs1 ord)) H1 → va_S (fun q : Nat => s.heap.size ≤ q) s.heap H1 locs1 → (∀ (h : List HP) (o : Option Nat), KF g s aa H h o → KF g s aa H1 h o) → W p l e room_1 s m #[Value.ref b] below meth c H1 locs1 cells slots Q (F0 m (pc + 3) ls (o.toList ++ rest))) : W p l e room_1 s m #[Value.ref b] below meth c H locs cells slots Q (F0 m pc ls st0) := by
  obtain ⟨hx, hb, hml, hown, hts, hl0, hX, hbl, hE, hSR, hNC, hOS, hOT⟩ := C
  have h9 : ws.length = 63 := by rw [← List.length_map (f := fun q : Nat × va_E => q.1), hAL]; rfl
  exact lwV ⟨hx, hb, hml, hown, hts⟩ hE hM cf hin hse hl hR hP hD hS (fun _ h => h) isC (cmp63 isC) hC (pk_ok _ (cmp_lt isC h9)) hn2 (cmp_dis isC) hc hq he hn hsize hstack hW hdg hf (fun H1 locs1 a1 a2 a3 a4 => kk H1 locs1 (upd_P isC mask ord hm a1) a3 (KF_keep hAL isC hC a4))
theorem jO {ci q0 : Nat} {q : vw_C} {fs : List Value} (C : LX p l s m c b L xs g zc zp) (hM : WMO l y bytes maxL ret fr lo g cs O (.ref bb :: As) o cs1) (hk : OK O) (hO : O (va_A cs H.size) s H) (cf : CF y bytes maxL ret n) (hin : Cond.instanceMethod y ∈ TB) (hse : Cond.selects y.cls y y ∈ TB) (hl : Cond.methodLink "HallGuardsLaw" idx y ∈ TB) (hR : fr + 1 ≤ room_1.frames ∧ 8 + (maxL + 11) + lo ≤ room_1.locals) (hP : va_P g.1 vwCl ws H) (hD : va_D (fun q : Nat => s.heap.size ≤ q) ws) (hS : va_S (fun q : Nat => s.heap.size ≤ q) s.heap H locs) (isC : List Nat) (hC : isC.map (fun i => ws[i]?) = cs.map some) (hAL : ws.map (fun q => q.1) = AL aa) (mask : List Bool) (ord : List Nat) (hm : (List.range 63).map (fun i => isC.contains i) = mask) (hn2 : va_nd (cmp63 isC) = true ∧ va_nd isC = true) (hc : vwCl[ci]? = some q) (hq : y.cls = q.1) (he : cs[q0]? = some (bb, .inr (ci, fs))) (hn : As.length = n) (hsize : ls.size = 9) (hstack : st0 = As.reverse ++ .ref bb :: rest) (hW : (rest.map fun v => v.category).sum ≤ 8) (hdg : decode cL_law pc = .ok (.invokevirtual idx, 3)) (hf : cells + 0 ≤ room_1.cells ∧ slots + 0 ≤ room_1.slots)
    (kk : ∀ (H1 : Heap) (locs1 : List Loc), va_P g.1 vwCl (mg mask ws (pk cs1 ord)) H1 → va_S (fun q : Nat => s.heap.size ≤ q) s.heap H1 locs1 → (∀ (h : List HP) (o : Option Nat), KF g s aa H h o → KF g s aa H1 h o) → W p l e room_1 s m #[Value.ref b] below meth c H1 locs1 cells slots Q (F0 m (pc + 3) ls (o.toList ++ rest))) : W p l e room_1 s m #[Value.ref b] below meth c H locs cells slots Q (F0 m pc ls st0) := by
  obtain ⟨hx, hb, hml, hown, hts, hl0, hX, hbl, hE, hSR, hNC, hOS, hOT⟩ := C
  have h9 : ws.length = 63 := by rw [← List.length_map (f := fun q : Nat × va_E => q.1), hAL]; rfl
  exact lwO ⟨hx, hb, hml, hown, hts⟩ hE hM hk hO cf hin hse hl hR hP hD hS (fun _ h => h) isC (cmp63 isC) hC (pk_ok _ (cmp_lt isC h9)) hn2 (cmp_dis isC) hc hq he hn hsize hstack hW hdg hf (fun H1 locs1 a1 a2 a3 a4 => kk H1 locs1 (upd_P isC mask ord hm a1) a3 (KF_keep hAL isC hC a4))
theorem jX {ci q0 : Nat} {q : vw_C} {fs : List Value} (C : LX p l s m c b L xs g zc zp) (hM : XM l y bytes maxL ret fr lo mc ms g cs O (.ref bb :: As) 0 o cs' csx) (hk : OK O) (hO : O (va_A cs H.size) s H) (cf : CF y bytes maxL ret n) (hin : Cond.instanceMethod y ∈ TB) (hse : Cond.selects y.cls y y ∈ TB) (hl : Cond.methodLink "HallGuardsLaw" idx y ∈ TB) (hR : fr + 1 ≤ room_1.frames ∧ 8 + (maxL + 11) + lo ≤ room_1.locals) (hP : va_P g.1 vwCl ws H) (hD : va_D (fun q : Nat => s.heap.size ≤ q) ws) (hS : va_S (fun q : Nat => s.heap.size ≤ q) s.heap H locs) (isC : List Nat) (hC : isC.map (fun i => ws[i]?) = cs.map some) (hAL : ws.map (fun q => q.1) = AL aa) (mask : List Bool) (ord : List Nat) (hm : (List.range 63).map (fun i => isC.contains i) = mask) (hn2 : va_nd (cmp63 isC) = true ∧ va_nd isC = true) (hc : vwCl[ci]? = some q) (hq : y.cls = q.1) (he : cs[q0]? = some (bb, .inr (ci, fs))) (hn : As.length = n) (hsize : ls.size = 9) (hstack : st0 = As.reverse ++ .ref bb :: rest) (hW : (rest.map fun v => v.category).sum ≤ 8) (hdg : decode cL_law pc = .ok (.invokevirtual idx, 3)) (hf : cells + mc ≤ room_1.cells ∧ slots + ms ≤ room_1.slots)
    (kk : ∀ (na : Nat) (H1 : Heap) (locs1 : List Loc), ¬ na ∈ AL aa → va_P g.1 vwCl (mg mask ws (pk (cs' na) ord)) H1 → va_P g.1 vwCl (cs' na) H1 → va_S (fun q : Nat => s.heap.size ≤ q) s.heap H1 locs1 → (∀ (h : List HP) (o : Option Nat), KF g s aa H h o → KF g s aa H1 h o) → W p l e room_1 s m #[Value.ref b] below meth c H1 locs1 (cells + mc) (slots + ms) Q (F0 m (pc + 3) ls (o.toList ++ rest))) : W p l e room_1 s m #[Value.ref b] below meth c H locs cells slots Q (F0 m pc ls st0) := by
  obtain ⟨hx, hb, hml, hown, hts, hl0, hX, hbl, hE, hSR, hNC, hOS, hOT⟩ := C
  have h9 : ws.length = 63 := by rw [← List.length_map (f := fun q : Nat × va_E => q.1), hAL]; rfl
  exact lwX ⟨hx, hb, hml, hown, hts⟩ hE hSR hM hk hO cf hin hse hl hR hP hD hS (fun _ h => h) isC (cmp63 isC) hC (pk_ok _ (cmp_lt isC h9)) hn2 (cmp_dis isC) hc hq he hn hsize hstack hW hdg hf (fun na H1 locs1 a0 a1 a2 a3 a4 => kk na H1 locs1 (fun z => absurd (F_lt hAL hP na z) (Nat.not_lt.mpr a0)) (upd_P isC mask ord hm a1) (P_right a1) a3 (KF_keep hAL isC hC a4))
theorem jL (C : LX p l s m c b L xs g zc zp) (hM : LM l y bytes maxL hh fr lo mc ms g cs O As o cs') (hk : OK O) (hO : O (va_A cs H.size) s H) (cf : CFW y bytes maxL hh n) (hst : Cond.static y ∈ TB) (hl : Cond.methodLink "HallGuardsLaw" idx y ∈ TB) (hR : fr + 1 ≤ room_1.frames ∧ 8 + (maxL + 11) + lo ≤ room_1.locals) (hP : va_P g.1 vwCl ws H) (hD : va_D (fun q : Nat => s.heap.size ≤ q) ws) (hS : va_S (fun q : Nat => s.heap.size ≤ q) s.heap H locs) (isC : List Nat) (hC : isC.map (fun i => ws[i]?) = cs.map some) (hAL : ws.map (fun q => q.1) = AL aa) (mask : List Bool) (ord : List Nat) (hm : (List.range 63).map (fun i => isC.contains i) = mask) (hn2 : va_nd (cmp63 isC) = true ∧ va_nd isC = true) (hn : As.length = n) (hsize : ls.size = 9) (hstack : st0 = As.reverse ++ rest) (hW : (rest.map fun v => v.category).sum ≤ 8) (hdg : decode cL_law pc = .ok (.invokestatic idx, 3)) (hf : cells + mc ≤ room_1.cells ∧ slots + ms ≤ room_1.slots)
    (kk : ∀ (na : Nat) (H1 : Heap) (locs1 : List Loc), ¬ na ∈ AL aa → va_P g.1 vwCl (mg mask ws (pk (cs' na) ord)) H1 → va_P g.1 vwCl (cs' na) H1 → va_S (fun q : Nat => s.heap.size ≤ q) s.heap H1 locs1 → (∀ (h : List HP) (o : Option Nat), KF g s aa H h o → KF g s aa H1 h o) → W p l e room_1 s m #[Value.ref b] below meth c H1 locs1 (cells + mc) (slots + ms) Q (F0 m (pc + 3) ls (o.toList ++ rest))) : W p l e room_1 s m #[Value.ref b] below meth c H locs cells slots Q (F0 m pc ls st0) := by
  obtain ⟨hx, hb, hml, hown, hts, hl0, hX, hbl, hE, hSR, hNC, hOS, hOT⟩ := C
  have h9 : ws.length = 63 := by rw [← List.length_map (f := fun q : Nat × va_E => q.1), hAL]; rfl
  exact lwL ⟨hx, hb, hml, hown, hts⟩ hE hSR hNC hM hk hO cf hst hl hR hP hD hS (fun _ h => h) isC (cmp63 isC) hC (pk_ok _ (cmp_lt isC h9)) hn2 (cmp_dis isC) hn hsize hstack hW hdg hf (fun na H1 locs1 a0 a1 a2 a3 a4 => kk na H1 locs1 (fun z => absurd (F_lt hAL hP na z) (Nat.not_lt.mpr a0)) (upd_P isC mask ord hm a1) (P_right a1) a3 (KF_keep hAL isC hC a4))
theorem jL2 (C : LX p l s m c b L xs g zc zp) (hM : LM2 l y bytes maxL hh fr lo mc ms g cs O As v nn c0 c1) (hk : OK O) (hO : O (va_A cs H.size) s H) (cf : CFW y bytes maxL hh n) (hst : Cond.static y ∈ TB) (hl : Cond.methodLink "HallGuardsLaw" idx y ∈ TB) (hR : fr + 1 ≤ room_1.frames ∧ 8 + (maxL + 11) + lo ≤ room_1.locals) (hP : va_P g.1 vwCl ws H) (hD : va_D (fun q : Nat => s.heap.size ≤ q) ws) (hS : va_S (fun q : Nat => s.heap.size ≤ q) s.heap H locs) (isC : List Nat) (hC : isC.map (fun i => ws[i]?) = cs.map some) (hAL : ws.map (fun q => q.1) = AL aa) (mask : List Bool) (ord : List Nat) (hm : (List.range 63).map (fun i => isC.contains i) = mask) (hn2 : va_nd (cmp63 isC) = true ∧ va_nd isC = true) (hn : As.length = n) (hsize : ls.size = 9) (hstack : st0 = As.reverse ++ rest) (hW : (rest.map fun v => v.category).sum ≤ 8) (hdg : decode cL_law pc = .ok (.invokestatic idx, 3)) (hf : cells + mc ≤ room_1.cells ∧ slots + ms ≤ room_1.slots)
    (kk : ∀ (as : List Nat) (tl : Option Nat) (H1 : Heap) (locs1 : List Loc), as.length = nn → (∀ a ∈ as, ¬ a ∈ AL aa) → va_P g.1 vwCl (mg mask ws (pk (if v = 0 then c0 as tl else c1 as tl) ord)) H1 → va_P g.1 vwCl (if v = 0 then c0 as tl else c1 as tl) H1 → va_S (fun q : Nat => s.heap.size ≤ q) s.heap H1 locs1 → (∀ (h : List HP) (o : Option Nat), KF g s aa H h o → KF g s aa H1 h o) → W p l e room_1 s m #[Value.ref b] below meth c H1 locs1 (cells + mc) (slots + ms) Q (F0 m (pc + 3) ls (.int v :: rest))) : W p l e room_1 s m #[Value.ref b] below meth c H locs cells slots Q (F0 m pc ls st0) := by
  obtain ⟨hx, hb, hml, hown, hts, hl0, hX, hbl, hE, hSR, hNC, hOS, hOT⟩ := C
  have h9 : ws.length = 63 := by rw [← List.length_map (f := fun q : Nat × va_E => q.1), hAL]; rfl
  exact lwL2 ⟨hx, hb, hml, hown, hts⟩ hE hSR hNC hM hk hO cf hst hl hR hP hD hS (fun _ h => h) isC (cmp63 isC) hC (pk_ok _ (cmp_lt isC h9)) hn2 (cmp_dis isC) hn hsize hstack hW hdg hf (fun as tl H1 locs1 h1 a0 a1 a2 a3 a4 => kk as tl H1 locs1 h1 (fun a ha z => absurd (F_lt hAL hP a z) (Nat.not_lt.mpr (a0 a ha))) (upd_P isC mask ord hm a1) (P_right a1) a3 (KF_keep hAL isC hC a4))
end JLAW

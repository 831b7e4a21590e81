/-! ===== how the cells hold a state; calls that change it ===== -/
def IA (a : AS) : Prop := PB (aF a) ∧ UK (aF a) ∧ KO (aF a) ∧ a.2.1 = enc (kingN (aF a)) ∧ (∃ g, a.2.2.1 = b01 g) ∧ isD (aM a) ∧ (aS a = 0 ↔ aH a = []) ∧ (∀ q ∈ aH a, okP q) ∧ (aS a = 1 → Low (aH a) ∧ KIN (aF a))
theorem IA_e {f : Nat → Int32} {kk sg sn mv gm : Int32} {h : List HP} {w1 w2 dg t1 t2 am : Int32} (hi : IA (f, kk, sg, sn, mv, gm, h, w1, w2, dg, t1, t2, am)) : PB f ∧ UK f ∧ KO f ∧ kk = enc (kingN f) ∧ (∃ g, sg = b01 g) ∧ isD mv ∧ (sn = 0 ↔ h = []) ∧ (∀ q ∈ h, okP q) ∧ (sn = 1 → Low h ∧ KIN f) := hi
def GA (a : AS) : Prop := IA a ∧ (aH a).length ≤ 900
def GD (st : PS) : Prop := GA st.1 ∧ (∀ a ∈ st.2.1, GA a) ∧ ∀ j, j < 2 → ∀ a, st.2.2.1 j = some a → GA a
def CR (K : List HP → Option Nat → Prop) (v : SV) (a : AS) : Prop := ∃ f0 h, a = (f0, v.2.1, v.2.2.1, v.2.2.2.1, v.2.2.2.2.1, v.2.2.2.2.2.1, h, v.2.2.2.2.2.2.2) ∧ AG v.1 f0 ∧ K h v.2.2.2.2.2.2.1
theorem CR_cp {K : List HP → Option Nat → Prop} {v : SV} {a : AS} (h : CR K v a) (f' : Nat → Int32) (e : AG f' v.1) : CR K (f', v.2) a := by
  obtain ⟨f0, hh, e1, ag, hK⟩ := h
  exact ⟨f0, hh, e1, AG_trans e ag, hK⟩
theorem CR_K {K K' : List HP → Option Nat → Prop} (hK : ∀ h o, K h o → K' h o) {v : SV} {a : AS} (h : CR K v a) : CR K' v a := by
  obtain ⟨f0, hh, e1, ag, k⟩ := h
  exact ⟨f0, hh, e1, ag, hK _ _ k⟩
def SVR (K : List HP → Option Nat → Prop) (s : Nat) (sx : Nat → SV) (l : List AS) : Prop := ∀ k a, l[k]? = some a → CR K (sx ((s + k) % 6)) a
def SLR (K : List HP → Option Nat → Prop) (skf : Nat → Int32) (qx : Nat → SV) (sl : Nat → Option AS) : Prop := ∀ j, j < 2 → (sl j = none → skf j = 0) ∧ ∀ a, sl j = some a → skf j = 1 ∧ CR K (qx j) a
def OR (K : List HP → Option Nat → Prop) (v : SV) (so sc : Int32) (sx : Nat → SV) (skf : Nat → Int32) (qx : Nat → SV) (tl : Int32) (tf : Nat → Int32) (st : PS) : Prop := CR K v st.1 ∧ (∃ s, so = nI s ∧ s < 6 ∧ sc = nI st.2.1.length ∧ st.2.1.length ≤ 6 ∧ SVR K s sx st.2.1) ∧ SLR K skf qx st.2.2.1 ∧ tl = nI st.2.2.2.1 ∧ st.2.2.2.1 ≤ 60 ∧ ∀ i, i < st.2.2.2.1 → tf i = st.2.2.2.2 i
theorem OR_K {K K' : List HP → Option Nat → Prop} (hK : ∀ h o, K h o → K' h o) {v : SV} {so sc : Int32} {sx : Nat → SV} {skf : Nat → Int32} {qx : Nat → SV} {tl : Int32} {tf : Nat → Int32} {st : PS} (h : OR K v so sc sx skf qx tl tf st) : OR K' v so sc sx skf qx tl tf st := by
  obtain ⟨h1, ⟨s, a1, a2, a3, a4, a5⟩, h3, h4⟩ := h
  exact ⟨CR_K hK h1, ⟨s, a1, a2, a3, a4, fun k a e => CR_K hK (a5 k a e)⟩, fun j hj => ⟨(h3 j hj).1, fun a e => ⟨((h3 j hj).2 a e).1, CR_K hK ((h3 j hj).2 a e).2⟩⟩, h4⟩
theorem OR_e {K : List HP → Option Nat → Prop} {f : Nat → Int32} {kk sg sn mv gm : Int32} {lt : Option Nat} {w1 w2 dg t1 t2 am so sc : Int32} {sx : Nat → SV} {skf : Nat → Int32} {qx : Nat → SV} {tl : Int32} {tf : Nat → Int32} {st : PS} (h : OR K (f, kk, sg, sn, mv, gm, lt, w1, w2, dg, t1, t2, am) so sc sx skf qx tl tf st) : ∃ f0 hh l sl t tx s, st = ((f0, kk, sg, sn, mv, gm, hh, w1, w2, dg, t1, t2, am), l, sl, t, tx) ∧ AG f f0 ∧ K hh lt ∧ so = nI s ∧ s < 6 ∧ sc = nI l.length ∧ l.length ≤ 6 ∧ SVR K s sx l ∧ SLR K skf qx sl ∧ tl = nI t ∧ t ≤ 60 ∧ ∀ i, i < t → tf i = tx i := by
  obtain ⟨a, l, sl, t, tx⟩ := st
  obtain ⟨⟨f0, hh, e, ag, hK⟩, ⟨s, h1, h2, h3, h4, h5⟩, h6, h7, h8, h9⟩ := h
  have e : a = (f0, kk, sg, sn, mv, gm, hh, w1, w2, dg, t1, t2, am) := e
  subst e
  exact ⟨f0, hh, l, sl, t, tx, s, rfl, ag, hK, h1, h2, h3, h4, h5, h6, h7, h8, h9⟩
theorem OR_i {K : List HP → Option Nat → Prop} {f f0 : Nat → Int32} {kk sg sn mv gm : Int32} {lt : Option Nat} {hh : List HP} {w1 w2 dg t1 t2 am : Int32} {sx : Nat → SV} {skf : Nat → Int32} {qx : Nat → SV} {tf : Nat → Int32} {l : List AS} {sl : Nat → Option AS} {t s : Nat} {tx : Nat → Int32} (ag : AG f f0) (hK : K hh lt) (h2 : s < 6) (h4 : l.length ≤ 6) (h5 : SVR K s sx l) (h6 : SLR K skf qx sl) (h8 : t ≤ 60) (h9 : ∀ i, i < t → tf i = tx i) : OR K (f, kk, sg, sn, mv, gm, lt, w1, w2, dg, t1, t2, am) (nI s) (nI l.length) sx skf qx (nI t) tf ((f0, kk, sg, sn, mv, gm, hh, w1, w2, dg, t1, t2, am), l, sl, t, tx) :=
  ⟨⟨f0, hh, rfl, ag, hK⟩, ⟨s, rfl, h2, rfl, h4, h5⟩, h6, rfl, h8, h9⟩
theorem SVR_K {K K' : List HP → Option Nat → Prop} (hK : ∀ h o, K h o → K' h o) {s : Nat} {sx : Nat → SV} {l : List AS} (h : SVR K s sx l) : SVR K' s sx l := fun k a e => CR_K hK (h k a e)
theorem SLR_K {K K' : List HP → Option Nat → Prop} (hK : ∀ h o, K h o → K' h o) {skf : Nat → Int32} {qx : Nat → SV} {sl : Nat → Option AS} (h : SLR K skf qx sl) : SLR K' skf qx sl := fun j hj => ⟨(h j hj).1, fun a e => ⟨((h j hj).2 a e).1, CR_K hK ((h j hj).2 a e).2⟩⟩
/-! the saved states -/
def pushL (l : List AS) (a : AS) : List AS := (if l.length = 6 then l.tail else l) ++ [a]
theorem push_ok {K : List HP → Option Nat → Prop} {s : Nat} {sx : Nat → SV} {l : List AS} {f f0 : Nat → Int32} {kk sg sn mv gm : Int32} {lt : Option Nat} {h : List HP} {w1 w2 dg t1 t2 am : Int32} (hs : s < 6) (hl : l.length ≤ 6) (hB : SVR K s sx l) (ag : AG f f0) (hK : K h lt) (hg : ∃ g, sg = b01 g) : ∃ sx' s', fX6_push (nI s) (nI l.length) sn mv gm lt w1 w2 dg t1 t2 am kk sg f sx = some (sx', nI s', nI (pushL l (f0, kk, sg, sn, mv, gm, h, w1, w2, dg, t1, t2, am)).length) ∧ s' < 6 ∧ (pushL l (f0, kk, sg, sn, mv, gm, h, w1, w2, dg, t1, t2, am)).length ≤ 6 ∧ SVR K s' sx' (pushL l (f0, kk, sg, sn, mv, gm, h, w1, w2, dg, t1, t2, am)) := by
  obtain ⟨g, rfl⟩ := hg
  obtain ⟨sx', s', n2, fo, p1, p2, p3, p4, p5⟩ := f_push hs hl f kk g sn mv gm lt w1 w2 dg t1 t2 am sx
  have hx : (if l.length = 6 then l.tail else l).length = n2 := by
    rcases p3 with ⟨h1, h2, _⟩ | ⟨h1, h2, _⟩
    · rw [if_pos h1, List.length_tail]
      omega
    · rw [if_neg (by omega)]
      omega
  have hlen : ∀ a : AS, (pushL l a).length = n2 + 1 := by
    intro a
    unfold pushL
    rw [List.length_append, List.length_singleton, hx]
  refine ⟨sx', s', by rw [p1, hlen], p2, by rw [hlen]; omega, fun k b hk => ?_⟩
  have hkl : k < n2 + 1 := by
    rw [← hlen]
    exact (List.getElem?_eq_some_iff.mp hk).1
  unfold pushL at hk
  by_cases e : k = n2
  · subst e
    rw [List.getElem?_append_right (by omega), hx, Nat.sub_self] at hk
    have hb : (f0, kk, b01 g, sn, mv, gm, h, w1, w2, dg, t1, t2, am) = b := Option.some.inj hk
    rw [p4, ← hb]
    exact ⟨f0, h, rfl, AG_trans (AG_cpb f fo) ag, hK⟩
  · rw [List.getElem?_append_left (by omega)] at hk
    rcases p3 with ⟨h1, h2, h3⟩ | ⟨h1, h2, h3⟩
    · rw [if_pos h1, List.getElem?_tail] at hk
      rw [p5 _ (Nat.mod_lt _ (by decide)) (by omega)]
      have := hB (k + 1) b hk
      rw [show (s + (k + 1)) % 6 = (s' + k) % 6 by omega] at this
      exact this
    · rw [if_neg (by omega)] at hk
      rw [p5 _ (Nat.mod_lt _ (by decide)) (by omega)]
      have := hB k b hk
      rw [h3]
      exact this
theorem pushL_mem {l : List AS} {a b : AS} (h : b ∈ pushL l a) : b ∈ l ∨ b = a := by
  unfold pushL at h
  rcases List.mem_append.mp h with h | h
  · by_cases e : l.length = 6
    · rw [if_pos e] at h
      exact Or.inl (List.mem_of_mem_tail h)
    · rw [if_neg e] at h
      exact Or.inl h
  · exact Or.inr (List.mem_singleton.mp h)
def o_push (st : PS) (a : AS) : PS := (a, pushL st.2.1 st.1, st.2.2)
theorem GD_push {st : PS} {a : AS} (h : GD st) (ha : GA a) : GD (o_push st a) := by
  refine ⟨ha, fun b hb => ?_, h.2.2⟩
  rcases pushL_mem hb with q | q
  · exact h.2.1 b q
  · rw [q]
    exact h.1
/-! positions of like boards -/
theorem cpos_AG {b c : Nat → Int32} (h : AG b c) (d : Int32) : cpos b d = cpos c d := by
  unfold cpos
  rw [AG_pkF h 25 0 (by decide), AG_pkF h 24 25 (by decide)]
theorem lk_AG {b c : Nat → Int32} (h : AG b c) (d : Int32) : lk (b, d) = lk (c, d) := by
  funext q
  show decide (cpos q.1 q.2 = cpos b d) = decide (cpos q.1 q.2 = cpos c d)
  rw [cpos_AG h d]
theorem occ_AG {b c : Nat → Int32} (h : AG b c) (d : Int32) (t : List HP) : occ (b, d) t = occ (c, d) t := by
  unfold occ
  rw [lk_AG h d]
theorem newPC_AG {b c : Nat → Int32} (h : AG b c) (d : Int32) (t : List HP) : newPC (b, d) t = newPC (c, d) t := by
  unfold newPC
  rw [occ_AG h d t]
  show ((cpos b d).1, (cpos b d).2.1, (cpos b d).2.2, _) = ((cpos c d).1, (cpos c d).2.1, (cpos c d).2.2, _)
  rw [cpos_AG h d]
theorem AG_wonB {b c : Nat → Int32} (h : AG b c) {y : Nat} (hy : y < 49) (had : Bool) : wonB b y had = wonB c y had := by
  unfold wonB
  rw [AG_kingN h, h y hy, AG_mcN h]
/-! a state and a row of the reference: only to use what is known of them -/
def rowA (f : Nat → Int32) (sg sn mv gm w1 w2 dg t1 t2 am : Int32) (i : Nat) : Int32 := if i < 49 then f i else if i = 49 then mv else if i = 50 then sn else if i = 51 then (if sn = 0 then 0 else 1) else if i = 52 then sg else if i = 53 then gm else if i = 54 then am else if i = 55 then w1 else if i = 56 then w2 else if i = 57 then dg else if i = 58 then t1 else t2
theorem IA_RP {f : Nat → Int32} {kk sg sn mv gm : Int32} {h : List HP} {w1 w2 dg t1 t2 am : Int32} (hi : IA (f, kk, sg, sn, mv, gm, h, w1, w2, dg, t1, t2, am)) : RP f kk sg sn mv gm w1 w2 dg t1 t2 am (rowA f sg sn mv gm w1 w2 dg t1 t2 am) h := by
  obtain ⟨pb, uk, ko, hkk, hg, hdm, h0, hok, hrun⟩ := IA_e hi
  exact ⟨fun s hs => (if_pos hs).symm, pb, uk, ko, hkk, g01 hg, rfl, rfl, rfl, hdm, rfl, rfl, rfl, rfl, rfl, rfl, rfl, rfl, h0, hok, hrun⟩
theorem RP_IA {f : Nat → Int32} {kk sg sn mv gm : Int32} {h : List HP} {w1 w2 dg t1 t2 am : Int32} {row : Nat → Int32} (hr : RP f kk sg sn mv gm w1 w2 dg t1 t2 am row h) : IA (f, kk, sg, sn, mv, gm, h, w1, w2, dg, t1, t2, am) := by
  obtain ⟨ag, pb, uk, ko, hkk, hsg, h52, h50, h49, hdm, h51, h53, h54, h55, h56, h57, h58, h59, h0, hok, hrun⟩ := hr
  exact ⟨pb, uk, ko, hkk, ⟨_, hsg⟩, hdm, h0, hok, hrun⟩
/-- a game that begins -/
def stA (f : Nat → Int32) (a : AS) (d : Int32) : AS := (f, enc (kingN f), a.2.2.1, 1, d, 0, [(f, d)], a.2.2.2.2.2.2.2)
theorem stA_GA {a : AS} (ha : GA a) {f : Nat → Int32} {d : Int32} (hd : isD d) (pb : PB f) (uk : UK f) (ko : KO f) (hk : KIN f) : GA (stA f a d) := by
  obtain ⟨f0, kk, sg, sn, mv, gm, h, w1, w2, dg, t1, t2, am⟩ := a
  have hr := IA_RP ha.1
  have h1 := st_RP hr hd (row0 := fun i => if i < 49 then f i else rowA f0 sg sn mv gm w1 w2 dg t1 t2 am i) (f' := f) (fun s hs => (if_pos hs).symm) pb uk ko hk (fun i h1 h2 => if_neg (by omega)) (row4 := stt (fun i => if i < 49 then f i else rowA f0 sg sn mv gm w1 w2 dg t1 t2 am i) d) (fun i _ => rfl)
  exact ⟨RP_IA h1, by show (1 : Nat) ≤ 900; decide⟩
/-- a move -/
def mvT (f : Nat → Int32) (sg sn mv gm : Int32) (h : List HP) (w1 w2 dg t1 t2 am : Int32) (x y : Nat) : AS := (mov f (decide (sg = 1)) x y, enc (kingN (mov f (decide (sg = 1)) x y)), sg, (jdg sn mv w1 w2 dg (wonB (mov f (decide (sg = 1)) x y) y true) (1 + occ (mov f (decide (sg = 1)) x y, 1 - mv) h)).1, 1 - mv, gm + 1, (mov f (decide (sg = 1)) x y, 1 - mv) :: h, (jdg sn mv w1 w2 dg (wonB (mov f (decide (sg = 1)) x y) y true) (1 + occ (mov f (decide (sg = 1)) x y, 1 - mv) h)).2.1, (jdg sn mv w1 w2 dg (wonB (mov f (decide (sg = 1)) x y) y true) (1 + occ (mov f (decide (sg = 1)) x y, 1 - mv) h)).2.2.1, (jdg sn mv w1 w2 dg (wonB (mov f (decide (sg = 1)) x y) y true) (1 + occ (mov f (decide (sg = 1)) x y, 1 - mv) h)).2.2.2, (if mv = 0 then t1 else t1 + nI (takN f (decide (sg = 1)) x y)), (if mv = 0 then t2 + nI (takN f (decide (sg = 1)) x y) else t2), am + 1)
def mvA (a : AS) (x y : Nat) : AS := mvT (aF a) a.2.2.1 (aS a) (aM a) (aN a) (aH a) (aW1 a) (aW2 a) (aDg a) (aT1 a) (aT2 a) (aAm a) x y
def alA (a : AS) (x y : Nat) : Bool := alB (aS a) (aM a) (aF a) x y
theorem alB_e {sn mv : Int32} {f : Nat → Int32} {x y : Nat} (h : alB sn mv f x y = true) : sn = 1 ∧ sd (f x) = mv ∧ reason f x y = 0 := by
  unfold alB at h
  rw [Bool.and_eq_true, Bool.and_eq_true, decide_eq_true_eq, decide_eq_true_eq, decide_eq_true_eq] at h
  exact ⟨h.1.1, h.1.2, h.2⟩
theorem mvA_IA {a : AS} (ha : IA a) {x y : Nat} (hx : x < 49) (hy : y < 49) (hal : alA a x y = true) : IA (mvA a x y) := by
  obtain ⟨f, kk, sg, sn, mv, gm, h, w1, w2, dg, t1, t2, am⟩ := a
  obtain ⟨e1, e2, e3⟩ := alB_e hal
  have e1 : sn = 1 := e1
  have e2 : sd (f x) = mv := e2
  have e3 : reason f x y = 0 := e3
  subst e1
  have hr := IA_RP ha
  exact RP_IA (gm_RP hr hx hy e2 e3 (row4 := gmR (rowA f sg 1 mv gm w1 w2 dg t1 t2 am) x y mv) (fun i _ => rfl))
/-! the class makes a move, of a board like that of the state -/
theorem mm_AG (la : Nat) {f f0 : Nat → Int32} (ag : AG f f0) {sg sn mv gm w1 w2 dg t1 t2 am : Int32} (hm : isD mv) (hb : PB f0) (hu : UK f0) (hg : ∃ g, sg = b01 g) {x y : Nat} (hx : x < 49) (hy : y < 49) (hr : reason f0 x y = 0) {cx : PC} {ct : List PC} {t : List HP} (hc : cx :: ct = chP t) (hl : t.length < 1000) : ∃ f', AG f' (mov f0 (decide (sg = 1)) x y) ∧ fX7_makeMove la sn mv gm w1 w2 dg t1 t2 am (enc (kingN f0)) sg f cx ct (nI x) (nI y) = some (nI (takN f0 (decide (sg = 1)) x y), f', enc (kingN (mov f0 (decide (sg = 1)) x y)), (jdg sn mv w1 w2 dg (wonB (mov f0 (decide (sg = 1)) x y) y true) (1 + occ (mov f0 (decide (sg = 1)) x y, 1 - mv) t)).1, 1 - mv, gm + 1, (jdg sn mv w1 w2 dg (wonB (mov f0 (decide (sg = 1)) x y) y true) (1 + occ (mov f0 (decide (sg = 1)) x y, 1 - mv) t)).2.1, (jdg sn mv w1 w2 dg (wonB (mov f0 (decide (sg = 1)) x y) y true) (1 + occ (mov f0 (decide (sg = 1)) x y, 1 - mv) t)).2.2.1, (jdg sn mv w1 w2 dg (wonB (mov f0 (decide (sg = 1)) x y) y true) (1 + occ (mov f0 (decide (sg = 1)) x y, 1 - mv) t)).2.2.2, (if mv = 0 then t1 else t1 + nI (takN f0 (decide (sg = 1)) x y)), (if mv = 0 then t2 + nI (takN f0 (decide (sg = 1)) x y) else t2), am + 1, newPC (mov f0 (decide (sg = 1)) x y, 1 - mv) t) := by
  have hsg := g01 hg
  have hmv : MV f x y := reason_MV hx hy (by rw [AG_rsn ag hx hy]; exact hr)
  have e := f_makeMove la (sd := sn) (mv := mv) (gm := gm) (w1 := w1) (w2 := w2) (dg := dg) (t1 := t1) (t2 := t2) (am := am) hm (AG_PB (AG_symm ag) hb) (AG_UK (AG_symm ag) hu) (g := decide (sg = 1)) hmv hc hl
  have agm := AG_mov ag hx hy (decide (sg = 1))
  refine ⟨mov f (decide (sg = 1)) x y, agm, ?_⟩
  rw [← hsg, AG_kingN ag, AG_takN ag hx hy, AG_kingN agm, AG_wonB agm hy, occ_AG agm, newPC_AG agm] at e
  exact e
/-! ===== the calls ===== -/
def o_setUp (st : PS) : Int32 × PS := (nI (piN fPI), o_push st (stA fPI st.1 0))
theorem fPI_KIN : KIN fPI := ⟨24, set_king, by decide⟩
theorem g_setUp {st : PS} (h : GD st) : GD (o_setUp st).2 := GD_push h (stA_GA h.1 (Or.inl rfl) set_PB set_UK set_KO fPI_KIN)
section OPS
variable {K : List HP → Option Nat → Prop} {f : Nat → Int32} {kk sg sn mv gm : Int32} {lt : Option Nat} {w1 w2 dg t1 t2 am so sc : Int32} {sx : Nat → SV} {skf : Nat → Int32} {qx : Nat → SV} {tl : Int32} {tf : Nat → Int32} {st : PS}
theorem c_setUp (hR : OR K (f, kk, sg, sn, mv, gm, lt, w1, w2, dg, t1, t2, am) so sc sx skf qx tl tf st) (hG : GD st) : ∃ f' kk' sx' so' sc', fX8_setUp sn mv gm lt w1 w2 dg t1 t2 am kk sg f so sc sx = some ((o_setUp st).1, f', kk', 1, 0, 0, sx', so', sc', newPC (fPI, 0) []) ∧ ∀ (K' : List HP → Option Nat → Prop) (o : Option Nat), (∀ h o, K h o → K' h o) → K' [(fPI, 0)] o → OR K' (f', kk', sg, 1, 0, 0, o, w1, w2, dg, t1, t2, am) so' sc' sx' skf qx tl tf (o_setUp st).2 := by
  obtain ⟨f0, hh, l, sl, t, tx, s, rfl, ag, hK, rfl, hs, rfl, hl, hB, hS, rfl, ht, htx⟩ := OR_e hR
  obtain ⟨pb, uk, ko, hkk, hg, hdm, h0, hok, hrun⟩ := IA_e hG.1.1
  obtain ⟨sx', s', p1, p2, p3, p4⟩ := push_ok (f0 := f0) (kk := kk) (sn := sn) (mv := mv) (gm := gm) (w1 := w1) (w2 := w2) (dg := dg) (t1 := t1) (t2 := t2) (am := am) hs hl hB ag hK hg
  obtain ⟨f', agf, hpl⟩ := f_placeAll f
  refine ⟨f', 24, sx', nI s', nI (pushL l (f0, kk, sg, sn, mv, gm, hh, w1, w2, dg, t1, t2, am)).length, ?_, fun K' o hK' hq => ?_⟩
  · unfold fX8_setUp fX7_beginSetUp
    rw [p1, Option.bind_some, hpl, Option.bind_some, f_begin, Option.bind_some, Option.bind_some, f_countAll, Option.bind_some, newPC_AG agf, AG_piN agf]
    rfl
  · have e24 : (24 : Int32) = enc (kingN fPI) := by
      rw [set_king]
      rfl
    rw [e24]
    exact OR_i agf hq p2 p3 (SVR_K hK' p4) (SLR_K hK' hS) ht htx
end OPS
def clA (a : AS) : AS := (fun _ => 0, -1, a.2.2.1, 0, 0, 0, [], a.2.2.2.2.2.2.2)
def o_clearBoard (st : PS) : Int32 × PS := (nI (piN (aF st.1)), o_push st (clA st.1))
theorem cl_king : kingN (fun _ => (0 : Int32)) = none := king_no (fun s hs => by decide)
theorem clA_GA {a : AS} (ha : GA a) : GA (clA a) := by
  refine ⟨⟨fun s hs => Or.inl rfl, fun s hs u hu h3 _ => absurd (show (0 : Int32) = 3 from h3) (by decide), fun s hs _ => Or.inl rfl, ?_, ha.1.2.2.2.2.1, Or.inl rfl, ⟨fun _ => rfl, fun _ => rfl⟩, fun q hq => (nomatch hq), fun e => absurd (show (0 : Int32) = 1 from e) (by decide)⟩, Nat.zero_le _⟩
  show (-1 : Int32) = enc (kingN (fun _ => (0 : Int32)))
  rw [cl_king]
  rfl
theorem g_clearBoard {st : PS} (h : GD st) : GD (o_clearBoard st).2 := GD_push h (clA_GA h.1)
section OPS
variable {K : List HP → Option Nat → Prop} {f : Nat → Int32} {kk sg sn mv gm : Int32} {lt : Option Nat} {w1 w2 dg t1 t2 am so sc : Int32} {sx : Nat → SV} {skf : Nat → Int32} {qx : Nat → SV} {tl : Int32} {tf : Nat → Int32} {st : PS}
theorem c_clearBoard (hR : OR K (f, kk, sg, sn, mv, gm, lt, w1, w2, dg, t1, t2, am) so sc sx skf qx tl tf st) (hG : GD st) (hK0 : K [] none) : ∃ f' sx' so' sc', fX8_clearBoard sn mv gm lt w1 w2 dg t1 t2 am kk sg f so sc sx = some ((o_clearBoard st).1, f', -1, 0, 0, 0, none, sx', so', sc') ∧ OR K (f', -1, sg, 0, 0, 0, none, w1, w2, dg, t1, t2, am) so' sc' sx' skf qx tl tf (o_clearBoard st).2 := by
  obtain ⟨f0, hh, l, sl, t, tx, s, rfl, ag, hK, rfl, hs, rfl, hl, hB, hS, rfl, ht, htx⟩ := OR_e hR
  obtain ⟨pb, uk, ko, hkk, hg, hdm, h0, hok, hrun⟩ := IA_e hG.1.1
  obtain ⟨sx', s', p1, p2, p3, p4⟩ := push_ok (f0 := f0) (kk := kk) (sn := sn) (mv := mv) (gm := gm) (w1 := w1) (w2 := w2) (dg := dg) (t1 := t1) (t2 := t2) (am := am) hs hl hB ag hK hg
  refine ⟨(fun k => if k < 49 then 0 else f k), sx', nI s', _, ?_, OR_i (fun i hi => if_pos hi) hK0 p2 p3 p4 hS ht htx⟩
  unfold fX8_clearBoard fX7_endAndClear fX1_removeAll
  rw [p1, Option.bind_some, f_countAll, Option.bind_some, f_fill, AG_piN ag]
  rfl
end OPS
def o_turnStrong (st : PS) : Int32 × PS := (b01 (!aG st.1), o_push st (aF st.1, st.1.2.1, b01 (!aG st.1), st.1.2.2.2))
theorem g_turnStrong {st : PS} (h : GD st) : GD (o_turnStrong st).2 := by
  refine GD_push h ⟨?_, h.1.2⟩
  obtain ⟨a1, a2, a3, a4, a5, a6, a7, a8, a9⟩ := h.1.1
  exact ⟨a1, a2, a3, a4, ⟨_, rfl⟩, a6, a7, a8, a9⟩
section OPS
variable {K : List HP → Option Nat → Prop} {f : Nat → Int32} {kk sg sn mv gm : Int32} {lt : Option Nat} {w1 w2 dg t1 t2 am so sc : Int32} {sx : Nat → SV} {skf : Nat → Int32} {qx : Nat → SV} {tl : Int32} {tf : Nat → Int32} {st : PS}
theorem c_turnStrong (hR : OR K (f, kk, sg, sn, mv, gm, lt, w1, w2, dg, t1, t2, am) so sc sx skf qx tl tf st) (hG : GD st) : ∃ sx' so' sc', fX8_turnStrong sn mv gm lt w1 w2 dg t1 t2 am kk sg f so sc sx = some ((o_turnStrong st).1, (o_turnStrong st).1, sx', so', sc') ∧ OR K (f, kk, (o_turnStrong st).1, sn, mv, gm, lt, w1, w2, dg, t1, t2, am) so' sc' sx' skf qx tl tf (o_turnStrong st).2 := by
  obtain ⟨f0, hh, l, sl, t, tx, s, rfl, ag, hK, rfl, hs, rfl, hl, hB, hS, rfl, ht, htx⟩ := OR_e hR
  obtain ⟨pb, uk, ko, hkk, hg, hdm, h0, hok, hrun⟩ := IA_e hG.1.1
  obtain ⟨sx', s', p1, p2, p3, p4⟩ := push_ok (f0 := f0) (kk := kk) (sn := sn) (mv := mv) (gm := gm) (w1 := w1) (w2 := w2) (dg := dg) (t1 := t1) (t2 := t2) (am := am) hs hl hB ag hK hg
  refine ⟨sx', nI s', _, ?_, OR_i ag hK p2 p3 p4 hS ht htx⟩
  unfold fX8_turnStrong o_turnStrong aG
  rw [p1, Option.bind_some]
  obtain ⟨g, rfl⟩ := hg
  cases g <;> rfl
end OPS
def putA (a : AS) (s : Nat) (p : Int32) : AS := (upd (aF a) s p, enc (kingN (upd (aF a) s p)), a.2.2)
def o_put (st : PS) (a1 a2 p : Int32) : Int64 × PS := if cellB a1 a2 then (if inC p 0 3 then (if decide (aS st.1 = 0) && alP (aF st.1) p (cellN a1 a2) then ((aF st.1 (cellN a1 a2)).toInt64, o_push st (putA st.1 (cellN a1 a2) p)) else (XS, st)) else (XA, st)) else (XI, st)
theorem alP_k {f : Nat → Int32} {p : Int32} {s : Nat} (h : alP f p s = true) : p = 3 → kingN f = none ∨ kingN f = some s := fun e => by
  unfold alP at h
  rw [if_pos e, Bool.or_eq_true, decide_eq_true_eq, decide_eq_true_eq] at h
  exact h
theorem putA_GA {a : AS} (ha : GA a) {s : Nat} (hs : s < 49) {p : Int32} (hp : inC p 0 3 = true) (h : (decide (aS a = 0) && alP (aF a) p s) = true) : GA (putA a s p) := by
  obtain ⟨⟨pb, uk, ko, hkk, hg, hdm, h0, hok, hrun⟩, hlen⟩ := ha
  rw [Bool.and_eq_true, decide_eq_true_eq] at h
  obtain ⟨hs0, hal⟩ := h
  refine ⟨⟨fun i hi => ?_, UK.put uk (alP_k hal), fun i hi he => ?_, rfl, hg, hdm, h0, hok, fun e => ?_⟩, hlen⟩
  · show upd (aF a) s p i = 0 ∨ upd (aF a) s p i = 1 ∨ upd (aF a) s p i = 2 ∨ upd (aF a) s p i = 3
    unfold upd
    split
    · exact inC_3 hp
    · exact pb i hi
  · show upd (aF a) s p i = 0 ∨ upd (aF a) s p i = 3
    unfold upd
    by_cases e : i = s
    · rw [if_pos e]
      by_cases e3 : p = 3
      · exact Or.inr e3
      · unfold alP at hal
        rw [if_neg e3, Bool.or_eq_true, decide_eq_true_eq] at hal
        rcases hal with h | h
        · exact Or.inl h
        · unfold rst at h
          rw [decide_eq_false e3, ← e, he] at h
          exact absurd h (by decide)
    · rw [if_neg e]
      exact ko i hi he
  · have e : aS a = 1 := e
    rw [hs0] at e
    exact absurd e (by decide)
theorem cellN_lt {a1 a2 : Int32} (h : cellB a1 a2 = true) : cellN a1 a2 < 49 := by
  rcases cellC2 a1 a2 with ⟨hb, hc, s, hs, e, e2⟩ | ⟨hb, hc⟩
  · rw [e2]
    exact hs
  · rw [h] at hb
    cases hb
theorem g_put {st : PS} (h : GD st) (a1 a2 p : Int32) : GD (o_put st a1 a2 p).2 := by
  unfold o_put
  split
  · split
    · split
      · exact GD_push h (putA_GA h.1 (cellN_lt (by assumption)) (by assumption) (by assumption))
      · exact h
    · exact h
  · exact h
section OPS
variable {K : List HP → Option Nat → Prop} {f : Nat → Int32} {kk sg sn mv gm : Int32} {lt : Option Nat} {w1 w2 dg t1 t2 am so sc : Int32} {sx : Nat → SV} {skf : Nat → Int32} {qx : Nat → SV} {tl : Int32} {tf : Nat → Int32} {st : PS}
theorem c_put (hR : OR K (f, kk, sg, sn, mv, gm, lt, w1, w2, dg, t1, t2, am) so sc sx skf qx tl tf st) (hG : GD st) (a1 a2 a3 : Int32) : ∃ k f' kk' sx' so' sc', fL_put sn mv gm lt w1 w2 dg t1 t2 am kk sg f so sc sx a1 a2 a3 = some (k, (o_put st a1 a2 a3).1, f', kk', sx', so', sc') ∧ OR K (f', kk', sg, sn, mv, gm, lt, w1, w2, dg, t1, t2, am) so' sc' sx' skf qx tl tf (o_put st a1 a2 a3).2 := by
  have hR0 := hR
  obtain ⟨f0, hh, l, sl, t, tx, s, rfl, ag, hK, rfl, hs, rfl, hl, hB, hS, rfl, ht, htx⟩ := OR_e hR
  obtain ⟨pb, uk, ko, hkk, hg, hdm, h0, hok, hrun⟩ := IA_e hG.1.1
  unfold o_put fL_put fX8_put
  rw [f_needSquare]
  rcases cellC2 a1 a2 with ⟨hb, hc, z9, hz9, es, e2⟩ | ⟨hb, hc⟩
  · rw [hb, hc, if_pos (show true = true from rfl), e2, es]
    cases h3 : inC a3 0 3 with
    | false =>
      refine ⟨2, f, kk, sx, nI s, nI l.length, ?_, hR0⟩
      rw [Option.bind_some, if_pos (show true = true from rfl), if_pos rfl]
      simp only [jn_eq, i32_le (a := a3) (b := 3)]
      unfold inC at h3
      by_cases e1 : a3 < 0
      · rw [if_pos e1]
        rfl
      · rw [decide_eq_false e1] at h3
        by_cases e2 : 3 < a3
        · rw [if_neg e1, if_neg (fun q => q e2)]
          rfl
        · rw [decide_eq_false e2] at h3
          exact absurd h3 (by decide)
    | true =>
      have hp := inC_3 h3
      have g1 : ¬ a3 < 0 := by rcases hp with e | e | e | e <;> rw [e] <;> decide
      have g2 : a3 ≤ 3 := by rcases hp with e | e | e | e <;> rw [e] <;> decide
      rw [if_pos (show true = true from rfl)]
      have ekf : kk = enc (kingN f) := by
        rw [AG_kingN ag]
        exact hkk
      have eal : alP f a3 z9 = alP f0 a3 z9 := AG_alP ag a3 z9
      cases hcan : (decide (sn = 0) && alP f0 a3 z9) with
      | true =>
        have hcan2 := hcan
        rw [Bool.and_eq_true, decide_eq_true_eq] at hcan2
        obtain ⟨hs0, hal⟩ := hcan2
        have hk3 : a3 = 3 → kingN f = none ∨ kingN f = some z9 := by
          rw [← eal] at hal
          exact alP_k hal
        obtain ⟨sx', s', p1, p2, p3, p4⟩ := push_ok (f0 := f0) (kk := kk) (sn := sn) (mv := mv) (gm := gm) (w1 := w1) (w2 := w2) (dg := dg) (t1 := t1) (t2 := t2) (am := am) hs hl hB ag hK hg
        have hif : (if decide (aS (f0, kk, sg, sn, mv, gm, hh, w1, w2, dg, t1, t2, am) = 0) && alP (aF (f0, kk, sg, sn, mv, gm, hh, w1, w2, dg, t1, t2, am)) a3 z9 then ((aF (f0, kk, sg, sn, mv, gm, hh, w1, w2, dg, t1, t2, am) z9).toInt64, o_push ((f0, kk, sg, sn, mv, gm, hh, w1, w2, dg, t1, t2, am), l, sl, t, tx) (putA (f0, kk, sg, sn, mv, gm, hh, w1, w2, dg, t1, t2, am) z9 a3)) else (XS, ((f0, kk, sg, sn, mv, gm, hh, w1, w2, dg, t1, t2, am), l, sl, t, tx))) = ((f0 z9).toInt64, o_push ((f0, kk, sg, sn, mv, gm, hh, w1, w2, dg, t1, t2, am), l, sl, t, tx) (putA (f0, kk, sg, sn, mv, gm, hh, w1, w2, dg, t1, t2, am) z9 a3)) := if_pos hcan
        rw [hif]
        refine ⟨0, upd f z9 a3, enc (kingN (upd f0 z9 a3)), sx', nI s', _, ?_, OR_i (AG_upd ag z9 a3) hK p2 p3 p4 hS ht htx⟩
        rw [Option.bind_some, if_pos (show true = true from rfl), if_pos rfl]
        simp only [jn_eq]
        rw [if_neg g1, if_pos g2, if_pos hs0, ekf, f_allows8 f a3 hz9, eal, hal, Option.bind_some]
        rw [if_neg (show ¬ b01 true = 0 by decide), ← ekf, p1, Option.bind_some, f_at hz9, Option.bind_some, ekf, f_set (AG_UK (AG_symm ag) uk) hz9 hk3, ag z9 hz9, AG_kingN (AG_upd ag z9 a3)]
        rfl
      | false =>
        have hif : (if decide (aS (f0, kk, sg, sn, mv, gm, hh, w1, w2, dg, t1, t2, am) = 0) && alP (aF (f0, kk, sg, sn, mv, gm, hh, w1, w2, dg, t1, t2, am)) a3 z9 then ((aF (f0, kk, sg, sn, mv, gm, hh, w1, w2, dg, t1, t2, am) z9).toInt64, o_push ((f0, kk, sg, sn, mv, gm, hh, w1, w2, dg, t1, t2, am), l, sl, t, tx) (putA (f0, kk, sg, sn, mv, gm, hh, w1, w2, dg, t1, t2, am) z9 a3)) else (XS, ((f0, kk, sg, sn, mv, gm, hh, w1, w2, dg, t1, t2, am), l, sl, t, tx))) = (XS, ((f0, kk, sg, sn, mv, gm, hh, w1, w2, dg, t1, t2, am), l, sl, t, tx)) := if_neg (fun q => by
          have q : (decide (sn = 0) && alP f0 a3 z9) = true := q
          rw [hcan] at q
          cases q)
        rw [hif]
        refine ⟨3, f, kk, sx, nI s, nI l.length, ?_, hR0⟩
        rw [Option.bind_some, if_pos (show true = true from rfl), if_pos rfl]
        simp only [jn_eq]
        rw [if_neg g1, if_pos g2]
        by_cases hs0 : sn = 0
        · rw [decide_eq_true hs0, Bool.true_and] at hcan
          rw [if_pos hs0, ekf, f_allows8 f a3 hz9, eal, hcan]
          rfl
        · rw [if_neg hs0]
          rfl
  · refine ⟨1, f, kk, sx, nI s, nI l.length, ?_, ?_⟩
    · rw [hb, hc]
      rfl
    · rw [hb]
      exact hR0
end OPS
def canS (a : AS) : Bool := decide (aS a = 0) && (match kingN (aF a) with
  | none => false
  | some k => !isCo k)
def o_start (st : PS) (d : Int32) : Int64 × PS := if inC d 0 1 then (if canS st.1 then ((nI (mcN (aF st.1) d)).toInt64, o_push st (stA (aF st.1) st.1 d)) else (XS, st)) else (XI, st)
theorem canS_KIN {a : AS} (h : canS a = true) : aS a = 0 ∧ KIN (aF a) := by
  unfold canS at h
  rw [Bool.and_eq_true, decide_eq_true_eq] at h
  refine ⟨h.1, ?_⟩
  have h2 := h.2
  cases e : kingN (aF a) with
  | none =>
    rw [e] at h2
    cases h2
  | some k =>
    rw [e] at h2
    have h2 : (!isCo k) = true := h2
    rw [Bool.not_eq_true'] at h2
    exact ⟨k, e, h2⟩
theorem side_D {d : Int32} (h : inC d 0 1 = true) : isD d := by
  rcases sideC d with ⟨_, q⟩ | q
  · exact q
  · rw [h] at q
    cases q
theorem g_start {st : PS} (h : GD st) (d : Int32) : GD (o_start st d).2 := by
  unfold o_start
  split
  · split
    · have hh := canS_KIN (by assumption)
      exact GD_push h (stA_GA h.1 (side_D (by assumption)) h.1.1.1 h.1.1.2.1 h.1.1.2.2.1 hh.2)
    · exact h
  · exact h
section OPS
variable {K : List HP → Option Nat → Prop} {f : Nat → Int32} {kk sg sn mv gm : Int32} {lt : Option Nat} {w1 w2 dg t1 t2 am so sc : Int32} {sx : Nat → SV} {skf : Nat → Int32} {qx : Nat → SV} {tl : Int32} {tf : Nat → Int32} {st : PS}
theorem c_start (hR : OR K (f, kk, sg, sn, mv, gm, lt, w1, w2, dg, t1, t2, am) so sc sx skf qx tl tf st) (hG : GD st) (a1 : Int32) : ∃ k sn' mv' gm' sx' so' sc' pc, fL_start sn mv gm lt w1 w2 dg t1 t2 am kk sg f so sc sx a1 = some (k, (o_start st a1).1, sn', mv', gm', sx', so', sc', pc) ∧ ((k = 0 ∧ ∃ p, pc = newPC p [] ∧ ∀ (K' : List HP → Option Nat → Prop) (o : Option Nat), (∀ h o, K h o → K' h o) → K' [p] o → OR K' (f, kk, sg, sn', mv', gm', o, w1, w2, dg, t1, t2, am) so' sc' sx' skf qx tl tf (o_start st a1).2) ∨ (k ≠ 0 ∧ OR K (f, kk, sg, sn', mv', gm', lt, w1, w2, dg, t1, t2, am) so' sc' sx' skf qx tl tf (o_start st a1).2)) := by
  have hR0 := hR
  obtain ⟨f0, hh, l, sl, t, tx, s, rfl, ag, hK, rfl, hs, rfl, hl, hB, hS, rfl, ht, htx⟩ := OR_e hR
  obtain ⟨pb, uk, ko, hkk, hg, hdm, h0, hok, hrun⟩ := IA_e hG.1.1
  have ekf : kk = enc (kingN f) := by
    rw [AG_kingN ag]
    exact hkk
  unfold o_start
  cases hside : inC a1 0 1 with
  | true =>
    rw [if_pos (show true = true from rfl)]
    cases hcan : canS ((f0, kk, sg, sn, mv, gm, hh, w1, w2, dg, t1, t2, am), l, sl, t, tx).1 with
    | true =>
      obtain ⟨hs0, kg, hk1, hk2⟩ := canS_KIN hcan
      have hs0 : sn = 0 := hs0
      have hk1 : kingN f0 = some kg := hk1
      have hkl := king_lt _ hk1
      obtain ⟨sx', s', p1, p2, p3, p4⟩ := push_ok (f0 := f0) (kk := kk) (sn := sn) (mv := mv) (gm := gm) (w1 := w1) (w2 := w2) (dg := dg) (t1 := t1) (t2 := t2) (am := am) hs hl hB ag hK hg
      rw [if_pos (show true = true from rfl)]
      refine ⟨0, 1, a1, 0, sx', nI s', nI (pushL l (f0, kk, sg, sn, mv, gm, hh, w1, w2, dg, t1, t2, am)).length, newPC (f0, a1) [], ?_, Or.inl ⟨rfl, (f0, a1), rfl, fun K' o hK' hq => ?_⟩⟩
      · unfold fL_start fX8_start
        rw [f_needSide, hside]
        show ((if sn = 0 then if kk < 0 then _ else _ else _) : Option (Nat × Int32 × Int32 × Int32 × Int32 × (Nat → SV) × Int32 × Int32 × PC)).bind _ = _
        rw [if_pos hs0, if_neg (by rw [hkk, hk1]; exact nlt0 (by omega)), show kk = nI kg from by rw [hkk, hk1]; rfl, f_isCorner8 kg hkl, hk2, Option.bind_some]
        rw [if_pos (show b01 false = 0 from rfl), ← show kk = nI kg from by rw [hkk, hk1]; rfl, p1, Option.bind_some, f_begin, Option.bind_some, f_countMoves, newPC_AG ag, AG_mcN ag]
        rfl
      · have := OR_i (K := K') (f := f) (f0 := f0) (kk := enc (kingN f0)) (sg := sg) (sn := 1) (mv := a1) (gm := 0) (lt := o) (hh := [(f0, a1)]) (w1 := w1) (w2 := w2) (dg := dg) (t1 := t1) (t2 := t2) (am := am) (sl := sl) (t := t) (tx := tx) (tf := tf) (skf := skf) (qx := qx) ag hq p2 p3 (SVR_K hK' p4) (SLR_K hK' hS) ht htx
        rw [← hkk] at this
        rw [hkk]
        rw [hkk] at this
        exact this
    | false =>
      rw [if_neg (show ¬ false = true by decide)]
      refine ⟨3, sn, mv, gm, sx, nI s, nI l.length, (0, 0, 0, 0), ?_, Or.inr ⟨by decide, hR0⟩⟩
      unfold fL_start fX8_start
      rw [f_needSide, hside]
      show ((if sn = 0 then if kk < 0 then _ else _ else _) : Option (Nat × Int32 × Int32 × Int32 × Int32 × (Nat → SV) × Int32 × Int32 × PC)).bind _ = _
      by_cases hs0 : sn = 0
      · rw [if_pos hs0]
        cases hk1 : kingN f0 with
        | none =>
          rw [hkk, hk1]
          rfl
        | some kg =>
          have hkl := king_lt _ hk1
          have hk2 : isCo kg = true := by
            cases q : isCo kg with
            | true => rfl
            | false =>
              have : canS ((f0, kk, sg, sn, mv, gm, hh, w1, w2, dg, t1, t2, am), l, sl, t, tx).1 = true := by
                show (decide (sn = 0) && (match kingN f0 with
                  | none => false
                  | some k => !isCo k)) = true
                rw [decide_eq_true hs0, hk1]
                show (!isCo kg) = true
                rw [q]
                rfl
              rw [hcan] at this
              cases this
          rw [hkk, hk1, if_neg (by rw [show enc (some kg) = nI kg from rfl]; exact nlt0 (by omega)), show enc (some kg) = nI kg from rfl, f_isCorner8 kg hkl, hk2]
          rfl
      · rw [if_neg hs0]
        rfl
  | false =>
    rw [if_neg (show ¬ false = true by decide)]
    refine ⟨1, sn, mv, gm, sx, nI s, nI l.length, (0, 0, 0, 0), ?_, Or.inr ⟨by decide, hR0⟩⟩
    unfold fL_start fX8_start
    rw [f_needSide, hside]
    rfl
end OPS
def o_move (st : PS) (a1 a2 : Int32) : Option (Int64 × PS) := if (aH st.1).length < 900 then some (if sqB a1 a2 then (if alA st.1 (iN a1) (iN a2) then ((nI (takN (aF st.1) (aG st.1) (iN a1) (iN a2))).toInt64, o_push st (mvA st.1 (iN a1) (iN a2))) else (XS, st)) else (XI, st)) else none
theorem sq_lt {a1 a2 : Int32} (h : sqB a1 a2 = true) : iN a1 < 49 ∧ iN a2 < 49 := by
  rcases sqsC2 a1 a2 with ⟨hb, hc, x, y, hx, hy, e1, e2, e3, e4⟩ | ⟨hb, hc⟩
  · exact ⟨by omega, by omega⟩
  · rw [h] at hb
    cases hb
theorem g_move {st : PS} (h : GD st) {a1 a2 : Int32} {r : Int64 × PS} (e : o_move st a1 a2 = some r) : GD r.2 := by
  unfold o_move at e
  split at e
  · rename_i hlen
    rw [← Option.some.inj e]
    split
    · rename_i hq
      split
      · rename_i hal
        exact GD_push h ⟨mvA_IA h.1.1 (sq_lt hq).1 (sq_lt hq).2 hal, hlen⟩
      · exact h
    · exact h
  · cases e
section OPS
variable {K : List HP → Option Nat → Prop} {f : Nat → Int32} {kk sg sn mv gm : Int32} {lt : Option Nat} {w1 w2 dg t1 t2 am so sc : Int32} {sx : Nat → SV} {skf : Nat → Int32} {qx : Nat → SV} {tl : Int32} {tf : Nat → Int32} {st : PS}
theorem c_moveN (hR : OR K (f, kk, sg, sn, mv, gm, lt, w1, w2, dg, t1, t2, am) so sc sx skf qx tl tf st) (hG : GD st) (h1 : aH st.1 = []) (a1 a2 : Int32) {r : Int64 × PS} (hr : o_move st a1 a2 = some r) : ∃ k, fL_moveN sn mv gm w1 w2 dg t1 t2 am kk sg f so sc sx a1 a2 = some (k, r.1, sx, so, sc) ∧ r.2 = st := by
  obtain ⟨f0, hh, l, sl, t, tx, s, rfl, ag, hK, rfl, hs, rfl, hl, hB, hS, rfl, ht, htx⟩ := OR_e hR
  obtain ⟨pb, uk, ko, hkk, hg, hdm, h0, hok, hrun⟩ := IA_e hG.1.1
  have hs0 : sn = 0 := h0.mpr h1
  unfold o_move at hr
  split at hr
  · have hr := Option.some.inj hr
    have hf : ∀ b : Nat → Int32, ∀ x y, alB sn mv b x y = false := fun b x y => by
      unfold alB
      rw [hs0]
      rfl
    have ha : ∀ x y, alA ((f0, kk, sg, sn, mv, gm, hh, w1, w2, dg, t1, t2, am), l, sl, t, tx).1 x y = false := fun x y => hf f0 x y
    unfold fL_moveN fX8_moveN
    rw [f_needSquares]
    rcases sqsC2 a1 a2 with ⟨hb, hc, x, y, hx, hy, e1, e2, e3, e4⟩ | ⟨hb, hc⟩
    · rw [hb, if_pos (show true = true from rfl), ha, if_neg (show ¬ false = true by decide)] at hr
      refine ⟨3, ?_, by rw [← hr]⟩
      rw [hc, e1, e2, ← hr]
      show ((fX7_allowsMove sn mv f (nI x) (nI y)).bind _).bind _ = _
      rw [f_allowsMove sn mv hx hy, hf]
      rfl
    · rw [hb, if_neg (show ¬ false = true by decide)] at hr
      refine ⟨1, ?_, by rw [← hr]⟩
      rw [hc, ← hr]
      rfl
  · cases hr
theorem c_moveS {p : HP} {tt : List HP} {la : Nat} (hR : OR K (f, kk, sg, sn, mv, gm, some la, w1, w2, dg, t1, t2, am) so sc sx skf qx tl tf st) (hG : GD st) (h1 : aH st.1 = p :: tt) (a1 a2 : Int32) {r : Int64 × PS} (hr : o_move st a1 a2 = some r) : ∃ k f' kk' sn' mv' gm' w1' w2' dg' t1' t2' am' sx' so' sc' pc, fL_moveS la sn mv gm w1 w2 dg t1 t2 am kk sg f so sc sx (newPC p tt) (chP tt) a1 a2 = some (k, r.1, f', kk', sn', mv', gm', w1', w2', dg', t1', t2', am', sx', so', sc', pc) ∧ ((k = 0 ∧ ∃ p', pc = newPC p' (p :: tt) ∧ ∀ (K' : List HP → Option Nat → Prop) (o : Option Nat), (∀ h o, K h o → K' h o) → K' (p' :: p :: tt) o → OR K' (f', kk', sg, sn', mv', gm', o, w1', w2', dg', t1', t2', am') so' sc' sx' skf qx tl tf r.2) ∨ (k ≠ 0 ∧ OR K (f', kk', sg, sn', mv', gm', some la, w1', w2', dg', t1', t2', am') so' sc' sx' skf qx tl tf r.2)) := by
  have hR0 := hR
  obtain ⟨f0, hh, l, sl, t, tx, s, rfl, ag, hK, rfl, hs, rfl, hl, hB, hS, rfl, ht, htx⟩ := OR_e hR
  obtain ⟨pb, uk, ko, hkk, hg, hdm, h0, hok, hrun⟩ := IA_e hG.1.1
  have h1 : hh = p :: tt := h1
  subst h1
  unfold o_move at hr
  split at hr
  · rename_i hlen
    have hlen : (p :: tt).length < 900 := hlen
    have hr := Option.some.inj hr
    rcases sqsC2 a1 a2 with ⟨hb, hc, x, y, hx, hy, e1, e2, e3, e4⟩ | ⟨hb, hc⟩
    · rw [hb, if_pos (show true = true from rfl), e3, e4] at hr
      cases hal : alA ((f0, kk, sg, sn, mv, gm, p :: tt, w1, w2, dg, t1, t2, am), l, sl, t, tx).1 x y with
      | false =>
        rw [hal, if_neg (show ¬ false = true by decide)] at hr
        have hal : alB sn mv f0 x y = false := hal
        refine ⟨3, f, kk, sn, mv, gm, w1, w2, dg, t1, t2, am, sx, nI s, nI l.length, (0, 0, 0, 0), ?_, Or.inr ⟨by decide, by rw [← hr]; exact hR0⟩⟩
        unfold fL_moveS fX8_moveS
        rw [f_needSquares, hc, e1, e2, ← hr]
        show ((fX7_allowsMove sn mv f (nI x) (nI y)).bind _).bind _ = _
        rw [f_allowsMove sn mv hx hy, show alB sn mv f x y = false from by unfold alB at hal ⊢; rw [ag x hx, AG_rsn ag hx hy]; exact hal]
        rfl
      | true =>
        rw [hal, if_pos (show true = true from rfl)] at hr
        have hal : alB sn mv f0 x y = true := hal
        obtain ⟨q1, q2, q3⟩ := alB_e hal
        obtain ⟨sx', s', p1, p2, p3, p4⟩ := push_ok (f0 := f0) (kk := kk) (sn := sn) (mv := mv) (gm := gm) (w1 := w1) (w2 := w2) (dg := dg) (t1 := t1) (t2 := t2) (am := am) hs hl hB ag hK hg
        obtain ⟨f', agf, hmk⟩ := mm_AG la (sn := sn) (mv := mv) (gm := gm) (w1 := w1) (w2 := w2) (dg := dg) (t1 := t1) (t2 := t2) (am := am) ag hdm pb uk hg hx hy q3 (cx := newPC p tt) (ct := chP tt) (t := p :: tt) (chP_cons p tt).symm (by omega)
        rw [← hkk] at hmk
        refine ⟨0, f', (mvA (f0, kk, sg, sn, mv, gm, p :: tt, w1, w2, dg, t1, t2, am) x y).2.1, (mvA (f0, kk, sg, sn, mv, gm, p :: tt, w1, w2, dg, t1, t2, am) x y).2.2.2.1, (mvA (f0, kk, sg, sn, mv, gm, p :: tt, w1, w2, dg, t1, t2, am) x y).2.2.2.2.1, (mvA (f0, kk, sg, sn, mv, gm, p :: tt, w1, w2, dg, t1, t2, am) x y).2.2.2.2.2.1, (mvA (f0, kk, sg, sn, mv, gm, p :: tt, w1, w2, dg, t1, t2, am) x y).2.2.2.2.2.2.2.1, (mvA (f0, kk, sg, sn, mv, gm, p :: tt, w1, w2, dg, t1, t2, am) x y).2.2.2.2.2.2.2.2.1, (mvA (f0, kk, sg, sn, mv, gm, p :: tt, w1, w2, dg, t1, t2, am) x y).2.2.2.2.2.2.2.2.2.1, (mvA (f0, kk, sg, sn, mv, gm, p :: tt, w1, w2, dg, t1, t2, am) x y).2.2.2.2.2.2.2.2.2.2.1, (mvA (f0, kk, sg, sn, mv, gm, p :: tt, w1, w2, dg, t1, t2, am) x y).2.2.2.2.2.2.2.2.2.2.2.1, (mvA (f0, kk, sg, sn, mv, gm, p :: tt, w1, w2, dg, t1, t2, am) x y).2.2.2.2.2.2.2.2.2.2.2.2, sx', nI s', nI (pushL l (f0, kk, sg, sn, mv, gm, p :: tt, w1, w2, dg, t1, t2, am)).length, newPC (mov f0 (decide (sg = 1)) x y, 1 - mv) (p :: tt), ?_, Or.inl ⟨rfl, (mov f0 (decide (sg = 1)) x y, 1 - mv), rfl, fun K' o hK' hq => ?_⟩⟩
        rotate_left 1
        · rw [← hr]
          exact OR_i agf hq p2 p3 (SVR_K hK' p4) (SLR_K hK' hS) ht htx
        · unfold fL_moveS fX8_moveS
          rw [f_needSquares, hc, e1, e2, ← hr]
          show ((fX7_allowsMove sn mv f (nI x) (nI y)).bind _).bind _ = _
          rw [f_allowsMove sn mv hx hy, show alB sn mv f x y = true from by unfold alB at hal ⊢; rw [ag x hx, AG_rsn ag hx hy]; exact hal, Option.bind_some]
          rw [if_neg (show ¬ b01 true = 0 by decide), p1, Option.bind_some, hmk]
          rfl
    · rw [hb, if_neg (show ¬ false = true by decide)] at hr
      refine ⟨1, f, kk, sn, mv, gm, w1, w2, dg, t1, t2, am, sx, nI s, nI l.length, (0, 0, 0, 0), ?_, Or.inr ⟨by decide, by rw [← hr]; exact hR0⟩⟩
      unfold fL_moveS fX8_moveS
      rw [f_needSquares, hc, ← hr]
      rfl
  · cases hr
end OPS

/-! ===== saved states ===== -/
theorem mod6 : ∀ i, i < 13 → nI i - nI i / 6 * 6 = nI (i % 6) := by decide +kernel
theorem mul61 : ∀ j, j < 7 → 61 * nI j = nI (61 * j) := by decide +kernel
theorem nI_p {n : Nat} (h : n + 1 < 2 ^ 31) : nI (n + 1) - 1 = nI n := by
  rw [← nI_1]
  exact Int32.add_sub_cancel _ _
theorem if6 {β : Type} {j : Nat} (hj : j < 6) (x : Nat → β) (n : β) : (if nI j = 0 then x 0 else if nI j = 1 then x 1 else if nI j = 2 then x 2 else if nI j = 3 then x 3 else if nI j = 4 then x 4 else if nI j = 5 then x 5 else n) = x j := by
  rcases (by omega : j = 0 ∨ j = 1 ∨ j = 2 ∨ j = 3 ∨ j = 4 ∨ j = 5) with h | h | h | h | h | h <;> subst h <;> rfl
def setJ (sx : Nat → SV) (j : Nat) (v : SV) : Nat → SV := match j with
  | 0 => s6 v (sx 1) (sx 2) (sx 3) (sx 4) (sx 5)
  | 1 => s6 (sx 0) v (sx 2) (sx 3) (sx 4) (sx 5)
  | 2 => s6 (sx 0) (sx 1) v (sx 3) (sx 4) (sx 5)
  | 3 => s6 (sx 0) (sx 1) (sx 2) v (sx 4) (sx 5)
  | 4 => s6 (sx 0) (sx 1) (sx 2) (sx 3) v (sx 5)
  | _ => s6 (sx 0) (sx 1) (sx 2) (sx 3) (sx 4) v
theorem setJ_eq (sx : Nat → SV) {j : Nat} (hj : j < 6) (v : SV) : setJ sx j v j = v := by
  rcases (by omega : j = 0 ∨ j = 1 ∨ j = 2 ∨ j = 3 ∨ j = 4 ∨ j = 5) with h | h | h | h | h | h <;> subst h <;> rfl
theorem setJ_ne (sx : Nat → SV) {i j : Nat} (hi : i < 6) (hj : j < 6) (h : i ≠ j) (v : SV) : setJ sx j v i = sx i := by
  rcases (by omega : j = 0 ∨ j = 1 ∨ j = 2 ∨ j = 3 ∨ j = 4 ∨ j = 5) with e | e | e | e | e | e <;> subst e <;> rcases (by omega : i = 0 ∨ i = 1 ∨ i = 2 ∨ i = 3 ∨ i = 4 ∨ i = 5) with e | e | e | e | e | e <;> subst e <;> first | rfl | exact absurd rfl h
theorem f_cF (f0 : Nat → Int32) (sn mv gm : Int32) (lt : Option Nat) (w1 w2 dg t1 t2 am kk : Int32) (g : Bool) (f : Nat → Int32) : fX7_copyFrom f0 sn mv gm lt w1 w2 dg t1 t2 am kk (b01 g) f = some (cpb f f0, kk, b01 g, sn, mv, gm, lt, w1, w2, dg, t1, t2, am) := by
  unfold fX7_copyFrom
  rw [f_copyFrom, Option.bind_some]
theorem f_push {so n : Nat} (hs : so < 6) (hn : n ≤ 6) (f : Nat → Int32) (kk : Int32) (g : Bool) (sn mv gm : Int32) (lt : Option Nat) (w1 w2 dg t1 t2 am : Int32) (sx : Nat → SV) : ∃ sx' so2 n2 f0, fX6_push (nI so) (nI n) sn mv gm lt w1 w2 dg t1 t2 am kk (b01 g) f sx = some (sx', nI so2, nI (n2 + 1)) ∧ so2 < 6 ∧ ((n = 6 ∧ n2 = 5 ∧ so2 = (so + 1) % 6) ∨ (n < 6 ∧ n2 = n ∧ so2 = so)) ∧ sx' ((so2 + n2) % 6) = (cpb f f0, kk, b01 g, sn, mv, gm, lt, w1, w2, dg, t1, t2, am) ∧ ∀ i, i < 6 → i ≠ (so2 + n2) % 6 → sx' i = sx i := by
  have key : ∀ (so2 n2 : Nat), so2 < 6 → n2 ≤ 5 → ∃ sx' f0, (grd (inB ((nI so2 + nI n2) - (nI so2 + nI n2) / 6 * 6) 6) (if ((nI so2 + nI n2) - (nI so2 + nI n2) / 6 * 6) = 0 then ((fX7_copyFrom ((sx 0).1) sn mv gm lt w1 w2 dg t1 t2 am kk (b01 g) f).bind (fun r_6 => some ((setJ sx 0 r_6), nI so2, nI n2 + 1))) else (if ((nI so2 + nI n2) - (nI so2 + nI n2) / 6 * 6) = 1 then ((fX7_copyFrom ((sx 1).1) sn mv gm lt w1 w2 dg t1 t2 am kk (b01 g) f).bind (fun r_6 => some ((setJ sx 1 r_6), nI so2, nI n2 + 1))) else (if ((nI so2 + nI n2) - (nI so2 + nI n2) / 6 * 6) = 2 then ((fX7_copyFrom ((sx 2).1) sn mv gm lt w1 w2 dg t1 t2 am kk (b01 g) f).bind (fun r_6 => some ((setJ sx 2 r_6), nI so2, nI n2 + 1))) else (if ((nI so2 + nI n2) - (nI so2 + nI n2) / 6 * 6) = 3 then ((fX7_copyFrom ((sx 3).1) sn mv gm lt w1 w2 dg t1 t2 am kk (b01 g) f).bind (fun r_6 => some ((setJ sx 3 r_6), nI so2, nI n2 + 1))) else (if ((nI so2 + nI n2) - (nI so2 + nI n2) / 6 * 6) = 4 then ((fX7_copyFrom ((sx 4).1) sn mv gm lt w1 w2 dg t1 t2 am kk (b01 g) f).bind (fun r_6 => some ((setJ sx 4 r_6), nI so2, nI n2 + 1))) else (if ((nI so2 + nI n2) - (nI so2 + nI n2) / 6 * 6) = 5 then ((fX7_copyFrom ((sx 5).1) sn mv gm lt w1 w2 dg t1 t2 am kk (b01 g) f).bind (fun r_6 => some ((setJ sx 5 r_6), nI so2, nI n2 + 1))) else (none)))))))) = some (sx', nI so2, nI (n2 + 1)) ∧ sx' ((so2 + n2) % 6) = (cpb f f0, kk, b01 g, sn, mv, gm, lt, w1, w2, dg, t1, t2, am) ∧ ∀ i, i < 6 → i ≠ (so2 + n2) % 6 → sx' i = sx i := by
    intro so2 n2 h1 h2
    have hj : (so2 + n2) % 6 < 6 := Nat.mod_lt _ (by decide)
    refine ⟨setJ sx ((so2 + n2) % 6) (cpb f (sx ((so2 + n2) % 6)).1, kk, b01 g, sn, mv, gm, lt, w1, w2, dg, t1, t2, am), (sx ((so2 + n2) % 6)).1, ?_, setJ_eq sx hj _, fun i hi h => setJ_ne sx hi hj h _⟩
    rw [nI_add, mod6 _ (by omega), inB_t hj (by decide), grd_t, nI_1]
    refine (if6 hj (fun j => (fX7_copyFrom ((sx j).1) sn mv gm lt w1 w2 dg t1 t2 am kk (b01 g) f).bind (fun r_6 => some ((setJ sx j r_6), nI so2, nI (n2 + 1)))) none).trans ?_
    rw [f_cF, Option.bind_some]
  unfold fX6_push
  simp only [jn_eq]
  by_cases e : n = 6
  · subst e
    obtain ⟨sx', f0, h1, h2, h3⟩ := key ((so + 1) % 6) 5 (Nat.mod_lt _ (by decide)) (by decide)
    refine ⟨sx', (so + 1) % 6, 5, f0, ?_, Nat.mod_lt _ (by decide), Or.inl ⟨rfl, rfl, rfl⟩, h2, h3⟩
    rw [if_pos (by decide), nI_1, mod6 _ (by omega), show nI 6 - 1 = nI 5 from by decide]
    exact h1
  · obtain ⟨sx', f0, h1, h2, h3⟩ := key so n hs (by omega)
    refine ⟨sx', so, n, f0, ?_, hs, Or.inr ⟨by omega, rfl, rfl⟩, h2, h3⟩
    rw [if_neg (by rw [show (6 : Int32) = nI 6 from rfl, nI_inj (by omega) (by decide)]; exact e)]
    exact h1
/-! the saved states and the slots, related -/
def BKR (K : List HP → Option Nat → Prop) (F L : Nat → Int64) (B : Nat → Int32) (C : List Nat) (M n so : Nat) (sx : Nat → SV) (hb : Nat → List HP) (book : Nat → Int32) : Prop := ∀ k, k < n → RS K F L B C M (sx ((so + k) % 6)) (fun i => book (61 * k + i)) (hb k)
def KPR (K : List HP → Option Nat → Prop) (F L : Nat → Int64) (B : Nat → Int32) (C : List Nat) (M : Nat) (qx : Nat → SV) (hq : Nat → List HP) (isk kept : Nat → Int32) : Prop := ∀ k, k < 2 → isk k ≠ 0 → RS K F L B C M (qx k) (fun i => kept (61 * k + i)) (hq k)
theorem RS_cp {K : List HP → Option Nat → Prop} {F L : Nat → Int64} {B : Nat → Int32} {C : List Nat} {M : Nat} {v : SV} {row row' : Nat → Int32} {h : List HP} (hr : RS K F L B C M v row h) (f' : Nat → Int32) (e : AG f' v.1) (er : ∀ i, i < 61 → row' i = row i) : RS K F L B C M (f', v.2) row' h :=
  ⟨RP_row (fun i hi => er i (by omega)) (RP_AG e hr.1), by rw [er 60 (by decide)]; exact hr.2.1, hr.2.2⟩
theorem RP_sg {f : Nat → Int32} {kk sg sn mv gm w1 w2 dg t1 t2 am : Int32} {row : Nat → Int32} {h : List HP} (hr : RP f kk sg sn mv gm w1 w2 dg t1 t2 am row h) : sg = b01 (decide (row 52 = 1)) := hr.2.2.2.2.2.1
/-! a head of any state is a live chain -/
theorem RS_HC {K : List HP → Option Nat → Prop} {F L : Nat → Int64} {B : Nat → Int32} {C : List Nat} {M : Nat} {v : SV} {row : Nat → Int32} {h : List HP} (hM : M < 4000) (hr : RS K F L B C M v row h) : HC F L B C (row 60) := ⟨h, Nat.lt_of_le_of_lt hr.2.2.2 hM, hr.2.1⟩
theorem hds {K : List HP → Option Nat → Prop} {F L : Nat → Int64} {B : Nat → Int32} {C : List Nat} {M n so : Nat} {sx qx : Nat → SV} {hb hq : Nat → List HP} {book isk kept : Nat → Int32} (hM : M < 4000) (hB : BKR K F L B C M n so sx hb book) (hK : KPR K F L B C M qx hq isk kept) {ks : List Int32} (hk : ∀ k ∈ ks, HC F L B C k) : ∀ k, HDS ks n book isk kept k → HC F L B C k := by
  rintro k (h | ⟨j, hj, rfl⟩ | ⟨j, hj, h0, rfl⟩)
  · exact hk k h
  · exact RS_HC hM (hB j hj)
  · exact RS_HC hM (hK j hj h0)
theorem HC_m1 {F L : Nat → Int64} {B : Nat → Int32} {C : List Nat} : HC F L B C (-1) := ⟨[], by decide, rfl⟩
theorem NT_BK {K K' : List HP → Option Nat → Prop} {F L F' L' : Nat → Int64} {B B' : Nat → Int32} {D : List Nat} {M M' n so nn n0 : Nat} {sx : Nat → SV} {hb : Nat → List HP} {book book' isk kept kept' : Nat → Int32} {ks : List Int32} {a1 : Int32} {rk : Int32 → Int32} {mD : List Nat → List Nat} {rp : Int64 × Int64} (hN : NTc ks a1 n book isk kept F L B nn rk mD F' L' B' n0 book' kept' rp) (hD : LV B D nn) (hK : ∀ h o, K h o → K' h o) (hM : M ≤ M') (hB : BKR K F L B D M n so sx hb book) : BKR K' F' L' B' (mD D) M' n so sx hb book' := by
  intro k hk
  have e := hN.2.2.1 k hk
  refine RS_to (hB k hk) hK hM (fun i hi => ?_) ?_
  · show book' (61 * k + i) = book (61 * k + i)
    rw [e i (by omega), if_neg (by omega)]
  · show ND F' L' B' _ (book' (61 * k + 60)) _
    rw [e 60 (by omega), if_pos rfl]
    exact (hN.2.2.2.2 D hD).2.2.1 _ _ (Or.inr (Or.inl ⟨k, hk, rfl⟩)) (hB k hk).2.1
theorem NT_KP {K K' : List HP → Option Nat → Prop} {F L F' L' : Nat → Int64} {B B' : Nat → Int32} {D : List Nat} {M M' n nn n0 : Nat} {qx : Nat → SV} {hq : Nat → List HP} {book book' isk kept kept' : Nat → Int32} {ks : List Int32} {a1 : Int32} {rk : Int32 → Int32} {mD : List Nat → List Nat} {rp : Int64 × Int64} (hN : NTc ks a1 n book isk kept F L B nn rk mD F' L' B' n0 book' kept' rp) (hD : LV B D nn) (hK : ∀ h o, K h o → K' h o) (hM : M ≤ M') (hB : KPR K F L B D M qx hq isk kept) : KPR K' F' L' B' (mD D) M' qx hq isk kept' := by
  intro k hk h0
  have e := hN.2.2.2.1 k hk h0
  refine RS_to (hB k hk h0) hK hM (fun i hi => ?_) ?_
  · show kept' (61 * k + i) = kept (61 * k + i)
    rw [e i (by omega), if_neg (by omega)]
  · show ND F' L' B' _ (kept' (61 * k + 60)) _
    rw [e 60 (by omega), if_pos rfl]
    exact (hN.2.2.2.2 D hD).2.2.1 _ _ (Or.inr (Or.inr ⟨k, hk, h0, rfl⟩)) (hB k hk h0).2.1
theorem RS_sub {K K' : List HP → Option Nat → Prop} {F L : Nat → Int64} {B : Nat → Int32} {C D : List Nat} {M M' : Nat} {v : SV} {row : Nat → Int32} {h : List HP} (hr : RS K F L B C M v row h) (hK : ∀ h o, K h o → K' h o) (hM : M ≤ M') (hs : ∀ i ∈ C, i ∈ D) : RS K' F L B D M' v row h := ⟨hr.1, ND_sub hs hr.2.1, hK _ _ hr.2.2.1, Nat.le_trans hr.2.2.2 hM⟩
theorem BK_sub {K K' : List HP → Option Nat → Prop} {F L : Nat → Int64} {B : Nat → Int32} {C D : List Nat} {M M' n so : Nat} {sx : Nat → SV} {hb : Nat → List HP} {book : Nat → Int32} (hB : BKR K F L B C M n so sx hb book) (hK : ∀ h o, K h o → K' h o) (hM : M ≤ M') (hs : ∀ i ∈ C, i ∈ D) : BKR K' F L B D M' n so sx hb book := fun k hk => RS_sub (hB k hk) hK hM hs
theorem KP_sub {K K' : List HP → Option Nat → Prop} {F L : Nat → Int64} {B : Nat → Int32} {C D : List Nat} {M M' : Nat} {qx : Nat → SV} {hq : Nat → List HP} {isk kept : Nat → Int32} (hB : KPR K F L B C M qx hq isk kept) (hK : ∀ h o, K h o → K' h o) (hM : M ≤ M') (hs : ∀ i ∈ C, i ∈ D) : KPR K' F L B D M' qx hq isk kept := fun k hk h0 => RS_sub (hB k hk h0) hK hM hs

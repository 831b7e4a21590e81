/-! ===== saved states ===== -/
theorem mod6 : ∀ i, i < 13 → nI i - nI i / 6 * 6 = nI (i % 6) := by decide +kernel
theorem mul61 : ∀ j, j < 7 → 61 * nI j = nI (61 * j) := by decide +kernel
theorem nI_p {n : Nat} (h : n + 1 < 2 ^ 31) : nI (n + 1) - 1 = nI n := by
  rw [← nI_1]
  exact Int32.add_sub_cancel _ _
theorem if6 {β : Type} {j : Nat} (hj : j < 6) (x : Nat → β) (n : β) : (if nI j = 0 then x 0 else if nI j = 1 then x 1 else if nI j = 2 then x 2 else if nI j = 3 then x 3 else if nI j = 4 then x 4 else if nI j = 5 then x 5 else n) = x j := by
  rcases (by omega : j = 0 ∨ j = 1 ∨ j = 2 ∨ j = 3 ∨ j = 4 ∨ j = 5) with h | h | h | h | h | h <;> subst h <;> rfl
def setJ (sx : Nat → SV) (j : Nat) (v : SV) : Nat → SV := match j with
  | 0 => s6 v (sx 1) (sx 2) (sx 3) (sx 4) (sx 5)
  | 1 => s6 (sx 0) v (sx 2) (sx 3) (sx 4) (sx 5)
  | 2 => s6 (sx 0) (sx 1) v (sx 3) (sx 4) (sx 5)
  | 3 => s6 (sx 0) (sx 1) (sx 2) v (sx 4) (sx 5)
  | 4 => s6 (sx 0) (sx 1) (sx 2) (sx 3) v (sx 5)
  | _ => s6 (sx 0) (sx 1) (sx 2) (sx 3) (sx 4) v
theorem setJ_eq (sx : Nat → SV) {j : Nat} (hj : j < 6) (v : SV) : setJ sx j v j = v := by
  rcases (by omega : j = 0 ∨ j = 1 ∨ j = 2 ∨ j = 3 ∨ j = 4 ∨ j = 5) with h | h | h | h | h | h <;> subst h <;> rfl
theorem setJ_ne (sx : Nat → SV) {i j : Nat} (hi : i < 6) (hj : j < 6) (h : i ≠ j) (v : SV) : setJ sx j v i = sx i := by
  rcases (by omega : j = 0 ∨ j = 1 ∨ j = 2 ∨ j = 3 ∨ j = 4 ∨ j = 5) with e | e | e | e | e | e <;> subst e <;> rcases (by omega : i = 0 ∨ i = 1 ∨ i = 2 ∨ i = 3 ∨ i = 4 ∨ i = 5) with e | e | e | e | e | e <;> subst e <;> first | rfl | exact absurd rfl h
theorem f_cF (f0 : Nat → Int32) (sn mv gm : Int32) (lt : Option Nat) (w1 w2 dg t1 t2 am kk : Int32) (g : Bool) (f : Nat → Int32) : fX7_copyFrom f0 sn mv gm lt w1 w2 dg t1 t2 am kk (b01 g) f = some (cpb f f0, kk, b01 g, sn, mv, gm, lt, w1, w2, dg, t1, t2, am) := by
  unfold fX7_copyFrom
  rw [f_copyFrom, Option.bind_some]
theorem f_push {so n : Nat} (hs : so < 6) (hn : n ≤ 6) (f : Nat → Int32) (kk : Int32) (g : Bool) (sn mv gm : Int32) (lt : Option Nat) (w1 w2 dg t1 t2 am : Int32) (sx : Nat → SV) : ∃ sx' so2 n2 f0, fX6_push (nI so) (nI n) sn mv gm lt w1 w2 dg t1 t2 am kk (b01 g) f sx = some (sx', nI so2, nI (n2 + 1)) ∧ so2 < 6 ∧ ((n = 6 ∧ n2 = 5 ∧ so2 = (so + 1) % 6) ∨ (n < 6 ∧ n2 = n ∧ so2 = so)) ∧ sx' ((so2 + n2) % 6) = (cpb f f0, kk, b01 g, sn, mv, gm, lt, w1, w2, dg, t1, t2, am) ∧ ∀ i, i < 6 → i ≠ (so2 + n2) % 6 → sx' i = sx i := by
  have key : ∀ (so2 n2 : Nat), so2 < 6 → n2 ≤ 5 → ∃ sx' f0, (grd (inB ((nI so2 + nI n2) - (nI so2 + nI n2) / 6 * 6) 6) (if ((nI so2 + nI n2) - (nI so2 + nI n2) / 6 * 6) = 0 then ((fX7_copyFrom ((sx 0).1) sn mv gm lt w1 w2 dg t1 t2 am kk (b01 g) f).bind (fun r_6 => some ((setJ sx 0 r_6), nI so2, nI n2 + 1))) else (if ((nI so2 + nI n2) - (nI so2 + nI n2) / 6 * 6) = 1 then ((fX7_copyFrom ((sx 1).1) sn mv gm lt w1 w2 dg t1 t2 am kk (b01 g) f).bind (fun r_6 => some ((setJ sx 1 r_6), nI so2, nI n2 + 1))) else (if ((nI so2 + nI n2) - (nI so2 + nI n2) / 6 * 6) = 2 then ((fX7_copyFrom ((sx 2).1) sn mv gm lt w1 w2 dg t1 t2 am kk (b01 g) f).bind (fun r_6 => some ((setJ sx 2 r_6), nI so2, nI n2 + 1))) else (if ((nI so2 + nI n2) - (nI so2 + nI n2) / 6 * 6) = 3 then ((fX7_copyFrom ((sx 3).1) sn mv gm lt w1 w2 dg t1 t2 am kk (b01 g) f).bind (fun r_6 => some ((setJ sx 3 r_6), nI so2, nI n2 + 1))) else (if ((nI so2 + nI n2) - (nI so2 + nI n2) / 6 * 6) = 4 then ((fX7_copyFrom ((sx 4).1) sn mv gm lt w1 w2 dg t1 t2 am kk (b01 g) f).bind (fun r_6 => some ((setJ sx 4 r_6), nI so2, nI n2 + 1))) else (if ((nI so2 + nI n2) - (nI so2 + nI n2) / 6 * 6) = 5 then ((fX7_copyFrom ((sx 5).1) sn mv gm lt w1 w2 dg t1 t2 am kk (b01 g) f).bind (fun r_6 => some ((setJ sx 5 r_6), nI so2, nI n2 + 1))) else (none)))))))) = some (sx', nI so2, nI (n2 + 1)) ∧ sx' ((so2 + n2) % 6) = (cpb f f0, kk, b01 g, sn, mv, gm, lt, w1, w2, dg, t1, t2, am) ∧ ∀ i, i < 6 → i ≠ (so2 + n2) % 6 → sx' i = sx i := by
    intro so2 n2 h1 h2
    have hj : (so2 + n2) % 6 < 6 := Nat.mod_lt _ (by decide)
    refine ⟨setJ sx ((so2 + n2) % 6) (cpb f (sx ((so2 + n2) % 6)).1, kk, b01 g, sn, mv, gm, lt, w1, w2, dg, t1, t2, am), (sx ((so2 + n2) % 6)).1, ?_, setJ_eq sx hj _, fun i hi h => setJ_ne sx hi hj h _⟩
    rw [nI_add, mod6 _ (by omega), inB_t hj (by decide), grd_t, nI_1]
    refine (if6 hj (fun j => (fX7_copyFrom ((sx j).1) sn mv gm lt w1 w2 dg t1 t2 am kk (b01 g) f).bind (fun r_6 => some ((setJ sx j r_6), nI so2, nI (n2 + 1)))) none).trans ?_
    rw [f_cF, Option.bind_some]
  unfold fX6_push
  simp only [jn_eq]
  by_cases e : n = 6
  · subst e
    obtain ⟨sx', f0, h1, h2, h3⟩ := key ((so + 1) % 6) 5 (Nat.mod_lt _ (by decide)) (by decide)
    refine ⟨sx', (so + 1) % 6, 5, f0, ?_, Nat.mod_lt _ (by decide), Or.inl ⟨rfl, rfl, rfl⟩, h2, h3⟩
    rw [if_pos (by decide), nI_1, mod6 _ (by omega), show nI 6 - 1 = nI 5 from by decide]
    exact h1
  · obtain ⟨sx', f0, h1, h2, h3⟩ := key so n hs (by omega)
    refine ⟨sx', so, n, f0, ?_, hs, Or.inr ⟨by omega, rfl, rfl⟩, h2, h3⟩
    rw [if_neg (by rw [show (6 : Int32) = nI 6 from rfl, nI_inj (by omega) (by decide)]; exact e)]
    exact h1
theorem f_save51 {n2 : Nat} (hn : n2 ≤ 5) (now bk : Nat → Int32) : fX9_save_L51 now 400 0 bk (nI n2) = some (fun i => if 61 * n2 ≤ i ∧ i < 61 * n2 + 61 then now (i - 61 * n2) else bk i, nI (n2 + 1)) := by
  have h : fX9_save_L51 now 400 (nI 0) (fun i => if 61 * n2 ≤ i ∧ i < 61 * n2 + 0 then now (i - 61 * n2) else bk i) (nI n2) = some (fun i => if 61 * n2 ≤ i ∧ i < 61 * n2 + 61 then now (i - 61 * n2) else bk i, nI (n2 + 1)) := by
    refine lp_for (B := fun (zf : Int32 × (Nat → Int32) × Int32 → Option ((Nat → Int32) × Int32)) z => fX9_save_L51_B now (fun a b c => zf (a, b, c)) z.1 z.2.1 z.2.2) (fun k => (nI k, (fun i => if 61 * n2 ≤ i ∧ i < 61 * n2 + k then now (i - 61 * n2) else bk i), nI n2)) 61 (fun k hk self => ?_) (fun self => ?_) (by omega)
    · show fX9_save_L51_B now _ (nI k) _ (nI n2) = _
      unfold fX9_save_L51_B
      rw [if_neg (nle (c := 61) hk (by decide)), inB_t (i := k) (by omega) (by decide), grd_t, mul61 n2 (by omega), nI_add, inB_t (i := 61 * n2 + k) (by omega) (by decide), grd_t, nI_clamp (n := k) (by omega), nI_clamp (n := 61 * n2 + k) (by omega), nI_1]
      show self (nI (k + 1), _, nI n2) = self (nI (k + 1), _, nI n2)
      rw [show upd (fun i => if 61 * n2 ≤ i ∧ i < 61 * n2 + k then now (i - 61 * n2) else bk i) (61 * n2 + k) (now k) = (fun i => if 61 * n2 ≤ i ∧ i < 61 * n2 + (k + 1) then now (i - 61 * n2) else bk i) from by
        funext i
        unfold upd
        show (if i = 61 * n2 + k then now k else if 61 * n2 ≤ i ∧ i < 61 * n2 + k then now (i - 61 * n2) else bk i) = if 61 * n2 ≤ i ∧ i < 61 * n2 + (k + 1) then now (i - 61 * n2) else bk i
        by_cases e : i = 61 * n2 + k
        · rw [if_pos e, if_pos (by omega), show i - 61 * n2 = k by omega]
        · by_cases e2 : 61 * n2 ≤ i ∧ i < 61 * n2 + k
          · rw [if_neg e, if_pos e2, if_pos (by omega)]
          · rw [if_neg e, if_neg e2, if_neg (by omega)]]
    · show fX9_save_L51_B now _ (nI 61) _ (nI n2) = _
      unfold fX9_save_L51_B
      rw [if_pos (by decide), nI_1]
  rw [show (fun i => if 61 * n2 ≤ i ∧ i < 61 * n2 + 0 then now (i - 61 * n2) else bk i) = bk from by
    funext i
    exact if_neg (by omega)] at h
  exact h
theorem f_save {n : Nat} (hn : n ≤ 6) (now book : Nat → Int32) : ∃ book' n2, fX9_save (nI n) now book = some (book', nI (n2 + 1)) ∧ ((n = 6 ∧ n2 = 5 ∧ ∀ k, k < 5 → ∀ i, i < 61 → book' (61 * k + i) = book (61 * (k + 1) + i)) ∨ (n < 6 ∧ n2 = n ∧ ∀ k, k < n → ∀ i, i < 61 → book' (61 * k + i) = book (61 * k + i))) ∧ ∀ i, i < 61 → book' (61 * n2 + i) = now i := by
  unfold fX9_save
  simp only [jn_eq]
  by_cases e : n = 6
  · subst e
    refine ⟨fun i => if 61 * 5 ≤ i ∧ i < 61 * 5 + 61 then now (i - 61 * 5) else (if i < 305 then book (61 + i) else book i), 5, ?_, Or.inl ⟨rfl, rfl, fun k hk i hi => ?_⟩, fun i hi => ?_⟩
    · rw [if_pos (by decide)]
      have h : fX9_save_L11 (fun wb wn => fX9_save_L51 now 400 0 wb wn) 400 (nI 0) (fun i => if i < 0 then book (61 + i) else book i) (nI 6) = some (fun i => if 61 * 5 ≤ i ∧ i < 61 * 5 + 61 then now (i - 61 * 5) else (if i < 305 then book (61 + i) else book i), nI (5 + 1)) := by
        refine lp_for (B := fun (zf : Int32 × (Nat → Int32) × Int32 → Option ((Nat → Int32) × Int32)) z => fX9_save_L11_B (fun wb wn => fX9_save_L51 now 400 0 wb wn) (fun a b c => zf (a, b, c)) z.1 z.2.1 z.2.2) (fun k => (nI k, (fun i => if i < k then book (61 + i) else book i), nI 6)) 305 (fun k hk self => ?_) (fun self => ?_) (by omega)
        · show fX9_save_L11_B _ _ (nI k) _ (nI 6) = _
          unfold fX9_save_L11_B
          rw [if_neg (nle (c := 305) hk (by decide)), show (61 : Int32) = nI 61 from rfl, nI_add, inB_t (i := 61 + k) (by omega) (by decide), grd_t, inB_t (i := k) (by omega) (by decide), grd_t, nI_clamp (n := k) (by omega), nI_clamp (n := 61 + k) (by omega), nI_1]
          show self (nI (k + 1), _, nI 6) = self (nI (k + 1), _, nI 6)
          rw [show upd (fun i => if i < k then book (61 + i) else book i) k (if 61 + k < k then book (61 + (61 + k)) else book (61 + k)) = (fun i => if i < k + 1 then book (61 + i) else book i) from by
            funext i
            unfold upd
            show (if i = k then (if 61 + k < k then book (61 + (61 + k)) else book (61 + k)) else if i < k then book (61 + i) else book i) = if i < k + 1 then book (61 + i) else book i
            by_cases e : i = k
            · rw [if_pos e, if_pos (show i < k + 1 by omega), if_neg (show ¬ 61 + k < k by omega), e]
            · by_cases e2 : i < k
              · rw [if_neg e, if_pos e2, if_pos (by omega)]
              · rw [if_neg e, if_neg e2, if_neg (by omega)]]
        · show fX9_save_L11_B _ _ (nI 305) _ (nI 6) = _
          unfold fX9_save_L11_B
          rw [if_pos (by decide), show nI 6 - 1 = nI 5 from by decide]
          exact f_save51 (by decide) now _
      exact h
    · show (if 61 * 5 ≤ 61 * k + i ∧ 61 * k + i < 61 * 5 + 61 then now (61 * k + i - 61 * 5) else (if 61 * k + i < 305 then book (61 + (61 * k + i)) else book (61 * k + i))) = _
      rw [if_neg (by omega), if_pos (by omega)]
      exact congrArg book (by omega)
    · show (if 61 * 5 ≤ 61 * 5 + i ∧ 61 * 5 + i < 61 * 5 + 61 then now (61 * 5 + i - 61 * 5) else _) = _
      rw [if_pos (by omega)]
      exact congrArg now (by omega)
  · refine ⟨fun i => if 61 * n ≤ i ∧ i < 61 * n + 61 then now (i - 61 * n) else book i, n, ?_, Or.inr ⟨by omega, rfl, fun k hk i hi => ?_⟩, fun i hi => ?_⟩
    · rw [if_neg (by rw [show (6 : Int32) = nI 6 from rfl, nI_inj (by omega) (by decide)]; exact e)]
      exact f_save51 (by omega) now book
    · show (if 61 * n ≤ 61 * k + i ∧ 61 * k + i < 61 * n + 61 then now (61 * k + i - 61 * n) else book (61 * k + i)) = _
      rw [if_neg (by omega)]
    · show (if 61 * n ≤ 61 * n + i ∧ 61 * n + i < 61 * n + 61 then now (61 * n + i - 61 * n) else _) = _
      rw [if_pos (by omega)]
      exact congrArg now (by omega)
/-! the saved states and the slots, related -/
def BKR (K : List HP → Option Nat → Prop) (F L : Nat → Int64) (B : Nat → Int32) (C : List Nat) (M n so : Nat) (sx : Nat → SV) (hb : Nat → List HP) (book : Nat → Int32) : Prop := ∀ k, k < n → RS K F L B C M (sx ((so + k) % 6)) (fun i => book (61 * k + i)) (hb k)
def KPR (K : List HP → Option Nat → Prop) (F L : Nat → Int64) (B : Nat → Int32) (C : List Nat) (M : Nat) (qx : Nat → SV) (hq : Nat → List HP) (isk kept : Nat → Int32) : Prop := ∀ k, k < 2 → isk k ≠ 0 → RS K F L B C M (qx k) (fun i => kept (61 * k + i)) (hq k)
theorem RS_cp {K : List HP → Option Nat → Prop} {F L : Nat → Int64} {B : Nat → Int32} {C : List Nat} {M : Nat} {v : SV} {row row' : Nat → Int32} {h : List HP} (hr : RS K F L B C M v row h) (f' : Nat → Int32) (e : AG f' v.1) (er : ∀ i, i < 61 → row' i = row i) : RS K F L B C M (f', v.2) row' h :=
  ⟨RP_row (fun i hi => er i (by omega)) (RP_AG e hr.1), by rw [er 60 (by decide)]; exact hr.2.1, hr.2.2⟩
theorem RP_sg {f : Nat → Int32} {kk sg sn mv gm w1 w2 dg t1 t2 am : Int32} {row : Nat → Int32} {h : List HP} (hr : RP f kk sg sn mv gm w1 w2 dg t1 t2 am row h) : sg = b01 (decide (row 52 = 1)) := hr.2.2.2.2.2.1
theorem save_ok {K : List HP → Option Nat → Prop} {F L : Nat → Int64} {B : Nat → Int32} {C : List Nat} {M n so : Nat} {sx : Nat → SV} {hb : Nat → List HP} {book now : Nat → Int32} {h : List HP} {f : Nat → Int32} {kk sg sn mv gm : Int32} {lt : Option Nat} {w1 w2 dg t1 t2 am : Int32} (hs : so < 6) (hn : n ≤ 6) (hB : BKR K F L B C M n so sx hb book) (hr : RS K F L B C M (f, kk, sg, sn, mv, gm, lt, w1, w2, dg, t1, t2, am) now h) : ∃ sx' so2 n2 book' hb', fX6_push (nI so) (nI n) sn mv gm lt w1 w2 dg t1 t2 am kk sg f sx = some (sx', nI so2, nI n2) ∧ fX9_save (nI n) now book = some (book', nI n2) ∧ so2 < 6 ∧ n2 ≤ 6 ∧ BKR K F L B C M n2 so2 sx' hb' book' := by
  have hg := RP_sg hr.1
  have hg : sg = b01 (decide (now 52 = 1)) := hg
  subst hg
  obtain ⟨sx', so2, n2, f0, p1, p2, p3, p4, p5⟩ := f_push hs hn f kk (decide (now 52 = 1)) sn mv gm lt w1 w2 dg t1 t2 am sx
  obtain ⟨book', n3, s1, s2, s3⟩ := f_save hn now book
  have e : n3 = n2 := by omega
  subst e
  refine ⟨sx', so2, n3 + 1, book', fun k => if k = n3 then h else if n = 6 then hb (k + 1) else hb k, p1, s1, p2, by omega, fun k hk => ?_⟩
  show RS K F L B C M (sx' ((so2 + k) % 6)) (fun i => book' (61 * k + i)) (if k = n3 then h else if n = 6 then hb (k + 1) else hb k)
  by_cases ek : k = n3
  · subst ek
    rw [if_pos rfl, p4]
    exact RS_cp hr (cpb f f0) (AG_cpb f f0) s3
  · rw [if_neg ek, p5 _ (Nat.mod_lt _ (by decide)) (by omega)]
    rcases s2 with ⟨a1, a2, a3⟩ | ⟨a1, a2, a3⟩
    · rw [if_pos a1]
      have hx := hB (k + 1) (by omega)
      rw [show (so2 + k) % 6 = (so + (k + 1)) % 6 by omega]
      exact RS_cp hx (sx ((so + (k + 1)) % 6)).1 (AG_rfl _) (fun i hi => a3 k (by omega) i hi)
    · rw [if_neg (by omega)]
      have hx := hB k (by omega)
      rw [show (so2 + k) % 6 = (so + k) % 6 by omega]
      exact RS_cp hx (sx ((so + k) % 6)).1 (AG_rfl _) (fun i hi => a3 k (by omega) i hi)
/-! a head of any state is a live chain -/
theorem RS_HC {K : List HP → Option Nat → Prop} {F L : Nat → Int64} {B : Nat → Int32} {C : List Nat} {M : Nat} {v : SV} {row : Nat → Int32} {h : List HP} (hM : M < 4000) (hr : RS K F L B C M v row h) : HC F L B C (row 60) := ⟨h, Nat.lt_of_le_of_lt hr.2.2.2 hM, hr.2.1⟩
theorem hds {K : List HP → Option Nat → Prop} {F L : Nat → Int64} {B : Nat → Int32} {C : List Nat} {M n so : Nat} {sx qx : Nat → SV} {hb hq : Nat → List HP} {book isk kept : Nat → Int32} (hM : M < 4000) (hB : BKR K F L B C M n so sx hb book) (hK : KPR K F L B C M qx hq isk kept) {ks : List Int32} (hk : ∀ k ∈ ks, HC F L B C k) : ∀ k, HDS ks n book isk kept k → HC F L B C k := by
  rintro k (h | ⟨j, hj, rfl⟩ | ⟨j, hj, h0, rfl⟩)
  · exact hk k h
  · exact RS_HC hM (hB j hj)
  · exact RS_HC hM (hK j hj h0)
theorem HC_m1 {F L : Nat → Int64} {B : Nat → Int32} {C : List Nat} : HC F L B C (-1) := ⟨[], by decide, rfl⟩
theorem NT_BK {K K' : List HP → Option Nat → Prop} {F L F' L' : Nat → Int64} {B B' : Nat → Int32} {D : List Nat} {M M' n so nn n0 : Nat} {sx : Nat → SV} {hb : Nat → List HP} {book book' isk kept kept' : Nat → Int32} {ks : List Int32} {a1 : Int32} {rk : Int32 → Int32} {mD : List Nat → List Nat} {rp : Int64 × Int64} (hN : NTc ks a1 n book isk kept F L B nn rk mD F' L' B' n0 book' kept' rp) (hD : LV B D nn) (hK : ∀ h o, K h o → K' h o) (hM : M ≤ M') (hB : BKR K F L B D M n so sx hb book) : BKR K' F' L' B' (mD D) M' n so sx hb book' := by
  intro k hk
  have e := hN.2.2.1 k hk
  refine RS_to (hB k hk) hK hM (fun i hi => ?_) ?_
  · show book' (61 * k + i) = book (61 * k + i)
    rw [e i (by omega), if_neg (by omega)]
  · show ND F' L' B' _ (book' (61 * k + 60)) _
    rw [e 60 (by omega), if_pos rfl]
    exact (hN.2.2.2.2 D hD).2.2.1 _ _ (Or.inr (Or.inl ⟨k, hk, rfl⟩)) (hB k hk).2.1
theorem NT_KP {K K' : List HP → Option Nat → Prop} {F L F' L' : Nat → Int64} {B B' : Nat → Int32} {D : List Nat} {M M' n nn n0 : Nat} {qx : Nat → SV} {hq : Nat → List HP} {book book' isk kept kept' : Nat → Int32} {ks : List Int32} {a1 : Int32} {rk : Int32 → Int32} {mD : List Nat → List Nat} {rp : Int64 × Int64} (hN : NTc ks a1 n book isk kept F L B nn rk mD F' L' B' n0 book' kept' rp) (hD : LV B D nn) (hK : ∀ h o, K h o → K' h o) (hM : M ≤ M') (hB : KPR K F L B D M qx hq isk kept) : KPR K' F' L' B' (mD D) M' qx hq isk kept' := by
  intro k hk h0
  have e := hN.2.2.2.1 k hk h0
  refine RS_to (hB k hk h0) hK hM (fun i hi => ?_) ?_
  · show kept' (61 * k + i) = kept (61 * k + i)
    rw [e i (by omega), if_neg (by omega)]
  · show ND F' L' B' _ (kept' (61 * k + 60)) _
    rw [e 60 (by omega), if_pos rfl]
    exact (hN.2.2.2.2 D hD).2.2.1 _ _ (Or.inr (Or.inr ⟨k, hk, h0, rfl⟩)) (hB k hk h0).2.1
theorem RS_sub {K K' : List HP → Option Nat → Prop} {F L : Nat → Int64} {B : Nat → Int32} {C D : List Nat} {M M' : Nat} {v : SV} {row : Nat → Int32} {h : List HP} (hr : RS K F L B C M v row h) (hK : ∀ h o, K h o → K' h o) (hM : M ≤ M') (hs : ∀ i ∈ C, i ∈ D) : RS K' F L B D M' v row h := ⟨hr.1, ND_sub hs hr.2.1, hK _ _ hr.2.2.1, Nat.le_trans hr.2.2.2 hM⟩
theorem BK_sub {K K' : List HP → Option Nat → Prop} {F L : Nat → Int64} {B : Nat → Int32} {C D : List Nat} {M M' n so : Nat} {sx : Nat → SV} {hb : Nat → List HP} {book : Nat → Int32} (hB : BKR K F L B C M n so sx hb book) (hK : ∀ h o, K h o → K' h o) (hM : M ≤ M') (hs : ∀ i ∈ C, i ∈ D) : BKR K' F L B D M' n so sx hb book := fun k hk => RS_sub (hB k hk) hK hM hs
theorem KP_sub {K K' : List HP → Option Nat → Prop} {F L : Nat → Int64} {B : Nat → Int32} {C D : List Nat} {M M' : Nat} {qx : Nat → SV} {hq : Nat → List HP} {isk kept : Nat → Int32} (hB : KPR K F L B C M qx hq isk kept) (hK : ∀ h o, K h o → K' h o) (hM : M ≤ M') (hs : ∀ i ∈ C, i ∈ D) : KPR K' F L B D M' qx hq isk kept := fun k hk h0 => RS_sub (hB k hk h0) hK hM hs

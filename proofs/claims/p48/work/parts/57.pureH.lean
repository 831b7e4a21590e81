/-! ===== pure part H: boards that agree; who has won ===== -/
def AG (b c : Nat → Int32) : Prop := ∀ s, s < 49 → b s = c s
theorem AG_symm {b c : Nat → Int32} (h : AG b c) : AG c b := fun s hs => (h s hs).symm
theorem AG_trans {b c d : Nat → Int32} (h : AG b c) (h2 : AG c d) : AG b d := fun s hs => (h s hs).trans (h2 s hs)
theorem AG_rfl (b : Nat → Int32) : AG b b := fun _ _ => rfl
theorem AG_PB {b c : Nat → Int32} (h : AG b c) (hb : PB b) : PB c := fun s hs => by rw [← h s hs]; exact hb s hs
theorem AG_UK {b c : Nat → Int32} (h : AG b c) (hb : UK b) : UK c := fun s hs t ht h1 h2 => hb s hs t ht ((h s hs).trans h1) ((h t ht).trans h2)
theorem tw_congr {p q : Nat → Bool} : ∀ (l : List Nat), (∀ t ∈ l, p t = q t) → l.takeWhile p = l.takeWhile q
  | [], _ => rfl
  | t :: l, h => by
    have h1 := h t List.mem_cons_self
    have h2 := tw_congr l (fun s hs => h s (List.mem_cons_of_mem _ hs))
    rw [List.takeWhile_cons, List.takeWhile_cons, h1, h2]
theorem all_congr {p q : Nat → Bool} : ∀ (l : List Nat), (∀ t ∈ l, p t = q t) → l.all p = l.all q
  | [], _ => rfl
  | t :: l, h => by
    have h1 := h t List.mem_cons_self
    have h2 := all_congr l (fun s hs => h s (List.mem_cons_of_mem _ hs))
    rw [List.all_cons, List.all_cons, h1, h2]
theorem AG_fre {b c : Nat → Int32} (h : AG b c) {s w : Nat} (hs : s < 49) (hw : w < 4) : fre b s w = fre c s w := tw_congr _ (fun t ht => by rw [h t (ray_lt s hs w hw t ht)])
theorem AG_goN {b c : Nat → Int32} (h : AG b c) {s : Nat} (hs : s < 49) : goN b s = goN c s := by
  unfold goN gl
  rw [h s hs, AG_fre h hs (by decide : 0 < 4), AG_fre h hs (by decide : 1 < 4), AG_fre h hs (by decide : 2 < 4), AG_fre h hs (by decide : 3 < 4)]
theorem AG_mcN {b c : Nat → Int32} (h : AG b c) (d : Int32) : mcN b d = mcN c d := sumN_congr (fun s hs => by rw [h s hs, AG_goN h hs])
theorem AG_cpN {b c : Nat → Int32} (h : AG b c) (d : Int32) : cpN b d = cpN c d := sumN_congr (fun s hs => by rw [h s hs])
theorem AG_piN {b c : Nat → Int32} (h : AG b c) : piN b = piN c := sumN_congr (fun s hs => by rw [h s hs])
theorem AG_host {b c : Nat → Int32} (h : AG b c) {s : Nat} (hs : s < 49) (d : Int32) : host b s d = host c s d := by
  unfold host
  rw [h s hs]
theorem AG_hostN {b c : Nat → Int32} (h : AG b c) {k w : Nat} (hk : k < 49) (hw : w < 4) : hostN b (nx k w) = hostN c (nx k w) := by
  cases e : nx k w with
  | none => rfl
  | some t =>
    rw [hostN_s, hostN_s, AG_host h (nx_lt k hk w hw t e)]
theorem AG_prN {b c : Nat → Int32} (h : AG b c) {k : Nat} (hk : k < 49) : prN b k = prN c k := by
  unfold prN
  rw [AG_hostN h hk (by decide : 0 < 4), AG_hostN h hk (by decide : 1 < 4), AG_hostN h hk (by decide : 2 < 4), AG_hostN h hk (by decide : 3 < 4)]
theorem AG_shutB {b c : Nat → Int32} (h : AG b c) {k : Nat} (hk : k < 49) : shutB b k = shutB c k := by
  unfold shutB
  rw [AG_prN h hk]
theorem AG_caught {b c : Nat → Int32} (h : AG b c) {y w : Nat} (hy : y < 49) (hw : w < 4) (g : Bool) (m : Int32) : caught b g m y w = caught c g m y w := by
  unfold caught
  cases e : nx y w with
  | none => rfl
  | some t =>
    have ht := nx_lt y hy w hw t e
    dsimp only
    cases e2 : nx t w with
    | none =>
      show (!decide (b t = 0) && !decide (sd (b t) = m) && (if decide (b t = 3) && (g || nearT t) then shutB b t else false)) = (!decide (c t = 0) && !decide (sd (c t) = m) && (if decide (c t = 3) && (g || nearT t) then shutB c t else false))
      rw [h t ht, AG_shutB h ht]
    | some q =>
      show (!decide (b t = 0) && !decide (sd (b t) = m) && (if decide (b t = 3) && (g || nearT t) then shutB b t else host b q (sd (b t)))) = (!decide (c t = 0) && !decide (sd (c t) = m) && (if decide (c t = 3) && (g || nearT t) then shutB c t else host c q (sd (c t))))
      rw [h t ht, AG_shutB h ht, AG_host h (nx_lt t ht w hw q e2)]
theorem AG_reason {b c : Nat → Int32} (h : AG b c) {x y : Nat} (hx : x < 49) (hl : ∀ t ∈ segOf x y, t < 49) : reason b x y = reason c x y := by
  unfold reason
  rw [h x hx, all_congr _ (fun t ht => by rw [h t (hl t ht)])]
theorem seg_lt : ∀ a, a < 49 → ∀ b, b < 49 → ∀ t ∈ segOf a b, t < 49 := by decide +kernel
theorem find_congr {p q : Nat → Bool} : ∀ (l : List Nat), (∀ t ∈ l, p t = q t) → l.find? p = l.find? q
  | [], _ => rfl
  | t :: l, h => by
    have h1 := h t List.mem_cons_self
    have h2 := find_congr l (fun s hs => h s (List.mem_cons_of_mem _ hs))
    rw [List.find?_cons, List.find?_cons, h1, h2]
theorem AG_kingN {b c : Nat → Int32} (h : AG b c) : kingN b = kingN c := find_congr _ (fun t ht => by rw [h t (List.mem_range.mp ht)])
theorem AG_mvB {b c : Nat → Int32} (h : AG b c) {x y : Nat} (hx : x < 49) : AG (mvB b x y) (mvB c x y) := by
  intro s hs
  unfold mvB upd
  rw [h s hs, h x hx]
theorem inG_congr {c d : Nat → Bool} (h : ∀ w, w < 4 → c w = d w) (y s : Nat) : inG c y s = inG d y s := by
  unfold inG
  rw [h 0 (by decide), h 1 (by decide), h 2 (by decide), h 3 (by decide)]
theorem nT_congr {c d : Nat → Bool} (h : ∀ w, w < 4 → c w = d w) : nT c = nT d := by
  unfold nT
  rw [h 0 (by decide), h 1 (by decide), h 2 (by decide), h 3 (by decide)]
theorem AG_tkB {b c : Nat → Int32} (h : AG b c) {p q : Nat → Bool} (hp : ∀ w, w < 4 → p w = q w) (y : Nat) : AG (tkB b p y) (tkB c q y) := by
  intro s hs
  unfold tkB
  rw [h s hs, inG_congr hp]
/-- the board after a move -/
def mov (b : Nat → Int32) (g : Bool) (x y : Nat) : Nat → Int32 := tkB (mvB b x y) (caught (mvB b x y) g (sd (b x)) y) y
/-- how many it takes -/
def takN (b : Nat → Int32) (g : Bool) (x y : Nat) : Nat := nT (caught (mvB b x y) g (sd (b x)) y)
/-- does it win -/
def winB (b : Nat → Int32) (g : Bool) (x y : Nat) : Bool := (decide (b x = 3) && isCo y) || (decide (kingN b ≠ none) && decide (kingN (mov b g x y) = none)) || decide (mcN (mov b g x y) (1 - sd (b x)) = 0)
theorem nT_le (c : Nat → Bool) : nT c ≤ 4 := by
  unfold nT
  have h := fun k => Bool.toNat_le (c k)
  have h0 := h 0
  have h1 := h 1
  have h2 := h 2
  have h3 := h 3
  omega
theorem takN_le (b : Nat → Int32) (g : Bool) (x y : Nat) : takN b g x y ≤ 4 := nT_le _
theorem AG_mov {b c : Nat → Int32} (h : AG b c) {x y : Nat} (hx : x < 49) (hy : y < 49) (g : Bool) : AG (mov b g x y) (mov c g x y) := by
  unfold mov
  refine AG_tkB (AG_mvB h hx) (fun w hw => ?_) y
  rw [AG_caught (AG_mvB h hx) hy hw, h x hx]
theorem AG_takN {b c : Nat → Int32} (h : AG b c) {x y : Nat} (hx : x < 49) (hy : y < 49) (g : Bool) : takN b g x y = takN c g x y := by
  unfold takN
  refine nT_congr (fun w hw => ?_)
  rw [AG_caught (AG_mvB h hx) hy hw, h x hx]
theorem AG_winB {b c : Nat → Int32} (h : AG b c) {x y : Nat} (hx : x < 49) (hy : y < 49) (g : Bool) : winB b g x y = winB c g x y := by
  unfold winB
  rw [AG_kingN h, AG_kingN (AG_mov h hx hy g), AG_mcN (AG_mov h hx hy g), h x hx]
theorem nx_ne : ∀ y, y < 49 → ∀ w, w < 4 → nx y w ≠ some y := by decide +kernel
theorem mov_y {b : Nat → Int32} {g : Bool} {x y : Nat} (h : MV b x y) : mov b g x y y = b x := by
  obtain ⟨hx, hy, hxy, h0, h1⟩ := h
  have hn : inG (caught (mvB b x y) g (sd (b x)) y) y y = false := by
    cases e : inG (caught (mvB b x y) g (sd (b x)) y) y y with
    | false => rfl
    | true =>
      obtain ⟨w, hw, _, h3⟩ := inG_some e
      exact absurd h3 (nx_ne y hy w hw)
  unfold mov tkB
  rw [hn]
  unfold mvB upd
  rw [if_neg (by decide), if_neg (fun e => hxy e.symm), if_pos rfl]
theorem mov_PB {b : Nat → Int32} (hb : PB b) {g : Bool} {x y : Nat} (hx : x < 49) : PB (mov b g x y) := (hb.mv hx).tk
theorem tk_UK {b : Nat → Int32} (hu : UK b) (c : Nat → Bool) (y : Nat) : UK (tkB b c y) := by
  intro s hs t ht h1 h2
  unfold tkB at h1 h2
  split at h1
  · exact absurd h1 (by decide)
  · split at h2
    · exact absurd h2 (by decide)
    · exact hu s hs t ht h1 h2
theorem mov_UK {b : Nat → Int32} (hu : UK b) {g : Bool} {x y : Nat} (h : MV b x y) : UK (mov b g x y) := tk_UK (mv_UK hu h) _ _
/-- the king is not taken by his own -/
theorem king_kept {b : Nat → Int32} {g : Bool} {x y : Nat} (h : MV b x y) (h1 : sd (b x) = 1) (hk : kingN b ≠ none) : kingN (mov b g x y) ≠ none := by
  obtain ⟨k, hk⟩ := Option.ne_none_iff_exists'.mp hk
  obtain ⟨hk1, hk2⟩ := king_some hk
  obtain ⟨hx, hy, hxy, h0, hz⟩ := h
  intro hn
  by_cases e : k = x
  · have h5 := mov_y (g := g) ⟨hx, hy, hxy, h0, hz⟩
    exact king_none hn y hy (by rw [h5, ← e]; exact hk2)
  · refine king_none hn k hk1 ?_
    have hky : k ≠ y := fun e2 => by
      rw [e2, hz] at hk2
      exact absurd hk2 (by decide)
    have hm : mvB b x y k = 3 := by
      unfold mvB upd
      rw [if_neg e, if_neg hky]
      exact hk2
    have hg : inG (caught (mvB b x y) g (sd (b x)) y) y k = false := by
      cases e : inG (caught (mvB b x y) g (sd (b x)) y) y k with
      | false => rfl
      | true =>
        obtain ⟨w, hw, h2, h3⟩ := inG_some e
        obtain ⟨t, h4, _, h6⟩ := caught_some h2
        rw [h3] at h4
        rw [← Option.some.inj h4, hm, h1] at h6
        exact absurd rfl h6
    unfold mov tkB
    rw [hg]
    exact hm
theorem enc_none {o : Option Nat} (ho : ∀ t, o = some t → t < 49) : (enc o = -1) = (o = none) := by
  cases o with
  | none => exact eq_true rfl |>.trans (eq_true rfl).symm
  | some t =>
    have := ho t rfl
    show (nI t = -1) = _
    rw [nI_m1 (by omega)]
    simp
theorem enc_neg {o : Option Nat} (ho : ∀ t, o = some t → t < 49) : (0 ≤ enc o) = (o ≠ none) := by
  cases o with
  | none => 
    rw [eq_iff_iff]
    exact ⟨fun h => absurd h (by decide), fun h => absurd rfl h⟩
  | some t =>
    have := ho t rfl
    show ((0 : Int32) ≤ nI t) = _
    rw [eq_iff_iff]
    exact ⟨fun _ => nofun, fun _ => ple (c := 0) (by omega) (by omega)⟩
theorem enc_lt0 {o : Option Nat} (ho : ∀ t, o = some t → t < 49) : (enc o < 0) = (o = none) := by
  cases o with
  | none => 
    rw [eq_iff_iff]
    exact ⟨fun h => rfl, fun h => (by decide : (-1 : Int32) < 0)⟩
  | some t =>
    have := ho t rfl
    show (nI t < (0 : Int32)) = _
    rw [eq_iff_iff]
    exact ⟨fun h => absurd h (nlt0 (by omega)), nofun⟩
theorem nI_z {n : Nat} (h : n < 2 ^ 31) : (nI n = 0) = (n = 0) := nI_inj h (by decide)
/-- has the move to y won (the class) -/
def wonB (f : Nat → Int32) (y : Nat) (had : Bool) : Bool := (had && decide (kingN f = none)) || (decide (f y = 3) && isCo y) || decide (mcN f (1 - sd (f y)) = 0)
theorem f_isWonBy {f : Nat → Int32} {y : Nat} (hy : y < 49) (had : Bool) : fX1_isWonBy (enc (kingN f)) f (nI y) (b01 had) = some (b01 (wonB f y had)) := by
  have hm := mcN_le f (1 - sd (f y))
  have hs : (fX8_sideOf (f y)).bind (fun (r_4 : Int32) => (fX1_hasMove f (1 - r_4)).bind (fun (r_5 : Int32) => if r_5 = 0 then (some 1) else (some (0 : Int32)))) = some (b01 (decide (mcN f (1 - sd (f y)) = 0))) := by
    rw [f_side8, Option.bind_some, f_hasMove, Option.bind_some, ite_b01]
    by_cases h : mcN f (1 - sd (f y)) = 0
    · simp [h, b01]
    · simp [h, b01]
  unfold fX1_isWonBy wonB
  rw [f_at hy, Option.bind_some]
  simp only [jn_eq, enc_neg king_lt]
  rw [hs, f_isCorner8 y hy, Option.bind_some]
  simp only [ite_b01]
  cases had with
  | false =>
    by_cases e : f y = 3
    · cases e2 : isCo y <;> simp [e, b01_t]
    · simp [e]
  | true =>
    by_cases e3 : kingN f = none
    · simp [e3, b01_t]
    · by_cases e : f y = 3
      · cases e2 : isCo y <;> simp [e, e3, b01_t]
      · simp [e, e3]
/-! ===== a move in a game, and its start (the reference) ===== -/
theorem rpos_AG {b c : Nat → Int32} (h : AG b c) (d : Int32) : rpos b d = rpos c d := by
  unfold rpos
  rw [AG_pkF h 31 0 (by decide), AG_pkF h 18 31 (by decide)]
theorem gmE_m1 {row : Nat → Int32} {n : Nat} (h : n = 3) : gmE row (-1) n = upd (upd row 50 4) 57 (row 57 + 1) := by
  unfold gmE
  rw [if_pos rfl, if_pos h]
theorem gmE_m2 {row : Nat → Int32} {n : Nat} (h : n ≠ 3) : gmE row (-1) n = row := by
  unfold gmE
  rw [if_pos rfl, if_neg h]
theorem gm_60 {row : Nat → Int32} {x y : Nat} {mv : Int32} (hx : x < 49) (hy : y < 49) : gmR row x y mv 60 = row 60 := by
  rw [gmR_ot (by decide), st_hi hx hy (by decide), if_neg (by omega)]
theorem gm_rp {f row : Nat → Int32} {x y : Nat} {mv : Int32} (ag : AG f row) (hx : x < 49) (hy : y < 49) : rpos (gmR row x y mv) (gmR row x y mv 49) = rpos (mov f (decide (row 52 = 1)) x y) (1 - mv) := by
  have e : gmR row x y mv 49 = 1 - mv := upd_eq
  rw [e]
  refine rpos_AG (fun s hs => ?_) _
  rw [gmR_ot ⟨by omega, by omega, by omega⟩, AG_st s hs]
  exact AG_mov (AG_symm ag) hx hy _ s hs
theorem gm_w {f : Nat → Int32} {g : Bool} {x y : Nat} {mv : Int32} (hd : isD mv) (hu : UK f) (hm : MV f x y) (hs : sd (f x) = mv) (hk : KIN f) : wb (mov f g x y) mv = -1 ∨ wb (mov f g x y) mv = 0 ∨ wb (mov f g x y) mv = 1 := by
  rw [won_wb hu hm hs hk]
  cases wonB (mov f g x y) y true with
  | true =>
    rw [if_pos rfl]
    exact Or.inr hd
  | false => exact Or.inl rfl
/-! a game begins -/
def stt (row : Nat → Int32) (d : Int32) : Nat → Int32 := upd (upd (upd (upd row 49 d) 50 1) 51 1) 53 0
theorem stt_ot {row : Nat → Int32} {d : Int32} {k : Nat} (h : k ≠ 49 ∧ k ≠ 50 ∧ k ≠ 51 ∧ k ≠ 53) : stt row d k = row k := by
  unfold stt
  rw [upd_ne h.2.2.2, upd_ne h.2.2.1, upd_ne h.2.1, upd_ne h.1]
theorem st_RP {f : Nat → Int32} {kk sg sn mv gm w1 w2 dg t1 t2 am : Int32} {row : Nat → Int32} {h : List HP} (hr : RP f kk sg sn mv gm w1 w2 dg t1 t2 am row h) {f' row0 row4 : Nat → Int32} {d : Int32} (hd : isD d) (ag : AG f' row0) (pb : PB f') (uk : UK f') (ko : KO f') (hk : KIN f') (e0 : ∀ i, 49 ≤ i → i < 60 → row0 i = row i) (h4 : ∀ i, i ≠ 60 → row4 i = stt row0 d i) : RP f' (enc (kingN f')) sg 1 d 0 w1 w2 dg t1 t2 am row4 [(f', d)] := by
  obtain ⟨_, _, _, _, _, hsg, h52, h50, h49, hdm, h51, h53, h54, h55, h56, h57, h58, h59, h0, hok, hrun⟩ := hr
  have q : ∀ i, 49 ≤ i → i < 60 → i ≠ 49 → i ≠ 50 → i ≠ 51 → i ≠ 53 → row4 i = row i := fun i a b c1 c2 c3 c4 => by
    rw [h4 i (by omega), stt_ot ⟨c1, c2, c3, c4⟩, e0 i a b]
  have q52 := q 52 (by decide) (by decide) (by decide) (by decide) (by decide) (by decide)
  refine ⟨fun s hs => ?_, pb, uk, ko, rfl, ?_, q52.trans h52, h4 50 (by decide), h4 49 (by decide), hd, h4 51 (by decide), h4 53 (by decide), (q 54 (by decide) (by decide) (by decide) (by decide) (by decide) (by decide)).trans h54, (q 55 (by decide) (by decide) (by decide) (by decide) (by decide) (by decide)).trans h55, (q 56 (by decide) (by decide) (by decide) (by decide) (by decide) (by decide)).trans h56, (q 57 (by decide) (by decide) (by decide) (by decide) (by decide) (by decide)).trans h57, (q 58 (by decide) (by decide) (by decide) (by decide) (by decide) (by decide)).trans h58, (q 59 (by decide) (by decide) (by decide) (by decide) (by decide) (by decide)).trans h59, ⟨fun e => absurd e (by decide), fun e => nomatch e⟩, fun p hp => ?_, fun _ => ⟨⟨Nat.zero_le _, trivial⟩, hk⟩⟩
  · rw [h4 s (by omega), stt_ot ⟨by omega, by omega, by omega, by omega⟩]
    exact ag s hs
  · rw [q52]
    exact hsg
  · rcases List.mem_cons.mp hp with rfl | hp
    · exact ⟨pb, hd⟩
    · cases hp

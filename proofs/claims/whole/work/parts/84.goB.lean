/-! ===== a move in a game, and its start (the reference) ===== -/
theorem rpos_AG {b c : Nat → Int32} (h : AG b c) (d : Int32) : rpos b d = rpos c d := by
  unfold rpos
  rw [AG_pkF h 31 0 (by decide), AG_pkF h 18 31 (by decide)]
theorem gmE_m1 {row : Nat → Int32} {n : Nat} (h : n = 3) : gmE row (-1) n = upd (upd row 50 4) 57 (row 57 + 1) := by
  unfold gmE
  rw [if_pos rfl, if_pos h]
theorem gmE_m2 {row : Nat → Int32} {n : Nat} (h : n ≠ 3) : gmE row (-1) n = row := by
  unfold gmE
  rw [if_pos rfl, if_neg h]
theorem gm_60 {row : Nat → Int32} {x y : Nat} {mv : Int32} (hx : x < 49) (hy : y < 49) : gmR row x y mv 60 = row 60 := by
  rw [gmR_ot (by decide), st_hi hx hy (by decide), if_neg (by omega)]
theorem gm_rp {f row : Nat → Int32} {x y : Nat} {mv : Int32} (ag : AG f row) (hx : x < 49) (hy : y < 49) : rpos (gmR row x y mv) (gmR row x y mv 49) = rpos (mov f (decide (row 52 = 1)) x y) (1 - mv) := by
  have e : gmR row x y mv 49 = 1 - mv := upd_eq
  rw [e]
  refine rpos_AG (fun s hs => ?_) _
  rw [gmR_ot ⟨by omega, by omega, by omega⟩, AG_st s hs]
  exact AG_mov (AG_symm ag) hx hy _ s hs
theorem gm_w {f : Nat → Int32} {g : Bool} {x y : Nat} {mv : Int32} (hd : isD mv) (hu : UK f) (hm : MV f x y) (hs : sd (f x) = mv) (hk : KIN f) : wb (mov f g x y) mv = -1 ∨ wb (mov f g x y) mv = 0 ∨ wb (mov f g x y) mv = 1 := by
  rw [won_wb hu hm hs hk]
  cases wonB (mov f g x y) y true with
  | true =>
    rw [if_pos rfl]
    exact Or.inr hd
  | false => exact Or.inl rfl
set_option maxHeartbeats 4000000 in
theorem f_goMoveT {f : Nat → Int32} {kk sg mv gm w1 w2 dg t1 t2 am : Int32} {tri : Nat → Int32} {h : List HP} (hr : RP f kk sg 1 mv gm w1 w2 dg t1 t2 am tri h) {x y : Nat} (hx : x < 49) (hy : y < 49) (hs : sd (f x) = mv) (hre : reason f x y = 0) {nst nn : Nat} (hn : nst ≤ 6) (hnn : nn ≤ 4096) {F L : Nat → Int64} {B : Nat → Int32} {C : List Nat} (hC : LV B C nn) (hcl : C.length < 4000) {now book kept isk : Nat → Int32} (M : Nat → Int32) (hd : ∀ k, HDS [tri 60, now 60] nst book isk kept k → HC F L B C k) (hnd : ND F L B (fun i => i ∈ C) (tri 60) h) (hl : h.length < 3999) : ∃ rk mD F' L' B' M' now' book' kept' n0 tri4, NTc [tri 60, now 60] (tri 60) nst book isk kept F L B nn rk mD F' L' B' n0 book' kept' (rpos (mov f (decide (tri 52 = 1)) x y) (1 - mv)) ∧ (∀ i, now' i = if i = 60 then rk (now 60) else now i) ∧ (tri4 60 = nI n0 ∧ ∀ i, i ≠ 60 → tri4 i = gmR tri x y mv i) ∧ fX9_goMoveT (nI nst) (nI nn) now book kept isk F L B M tri (nI x) (nI y) = some (nI (takN f (decide (tri 52 = 1)) x y), now', book', kept', F', L', B', M', nI (n0 + 1), gmE tri4 (wb (mov f (decide (tri 52 = 1)) x y) mv) (1 + occ (mov f (decide (tri 52 = 1)) x y, 1 - mv) h)) := by
  have hr0 := hr
  obtain ⟨ag, pb, uk, ko, rfl, hsg, h52, h50, h49, hdm, h51, h53, h54, h55, h56, h57, h58, h59, h0, hok, hrun⟩ := hr
  obtain ⟨hlow, hkin⟩ := hrun rfl
  have hm : MV f x y := reason_MV hx hy hre
  have pbt : PB tri := AG_PB ag pb
  have agm : AG (stR tri x y) (mov f (decide (tri 52 = 1)) x y) := AG_trans AG_st (AG_mov (AG_symm ag) hx hy _)
  have hw := gm_w (g := decide (tri 52 = 1)) hdm uk hm hs hkin
  have hwr : fX9_wonBy (stR tri x y) mv = some (wb (mov f (decide (tri 52 = 1)) x y) mv) := by
    rw [f_wonBy9 (AG_PB (AG_symm agm) (mov_PB pb hx)), AG_wb agm]
  have hst : fX9_step tri (nI x) (nI y) = some (nI (takN f (decide (tri 52 = 1)) x y), stR tri x y) := by
    rw [f_step pbt hx hy hm.2.2.1 (by rw [← ag x hx]; exact hm.2.2.2.1)]
    exact congrArg (fun z => some (nI z, stR tri x y)) (AG_takN ag hx hy _).symm
  have e60 := gm_60 (row := tri) (mv := mv) hx hy
  obtain ⟨rk, mD, F', L', B', M', now', book', kept', n0, tri4, hN, hnow, h4, he⟩ := f_noteT hn hnn hC (by omega) (now := now) (book := book) (kept := kept) (isk := isk) (tri := gmR tri x y mv) M hd
  rw [gm_rp ag hx hy] at hN
  refine ⟨rk, mD, F', L', B', M', now', book', kept', n0, tri4, hN, hnow, h4, ?_⟩
  have hnew := ((hN.2.2.2.2 C hC).2.2.2 (mov f (decide (tri 52 = 1)) x y, 1 - mv) h rfl hnd)
  have hsee : fX9_seen F' L' B' tri4 = some (nI (1 + occ (mov f (decide (tri 52 = 1)) x y, 1 - mv) h)) := by
    refine f_seen (C := fun i => i ∈ n0 :: mD C) (fun i hi => ?_) (fun q hq => ?_) (by omega) (by rw [h4.1]; exact hnew.2)
    · have := (hnew.1 i hi).1
      have := hN.1.1
      omega
    · rcases List.mem_cons.mp hq with rfl | hq
      · exact ⟨mov_PB pb hx, isD_opp hdm⟩
      · exact hok q hq
  have hocc := Low_occ (mov f (decide (tri 52 = 1)) x y, 1 - mv) h hlow
  unfold fX9_goMoveT
  simp only [show inB 49 61 = true from rfl, show inB 53 61 = true from rfl, show inB 54 61 = true from rfl, show inB 60 61 = true from rfl, show inB 50 61 = true from rfl, show inB 57 61 = true from rfl, show (49 : Int32).toNatClampNeg = 49 from rfl, show (53 : Int32).toNatClampNeg = 53 from rfl, show (54 : Int32).toNatClampNeg = 54 from rfl, show (60 : Int32).toNatClampNeg = 60 from rfl, show (50 : Int32).toNatClampNeg = 50 from rfl, show (57 : Int32).toNatClampNeg = 57 from rfl, jn_eq, grd_t, bnd_eq, h49, hst, Option.bind_some, hwr]
  have e54 : ∀ v, (upd (stR tri x y) 53 v) 54 = stR tri x y 54 := fun v => upd_ne (by decide)
  have e5 : ∀ v, (upd tri4 50 v) 57 = tri4 57 := fun v => upd_ne (by decide)
  simp only [e54]
  rw [show upd (upd (upd (stR tri x y) 53 (stR tri x y 53 + 1)) 54 (stR tri x y 54 + 1)) 49 (1 - mv) = gmR tri x y mv from rfl, e60, he, Option.bind_some]
  rcases hw with hw | hw | hw
  · rw [hw, if_pos rfl, hsee, Option.bind_some]
    by_cases e3 : 1 + occ (mov f (decide (tri 52 = 1)) x y, 1 - mv) h = 3
    · rw [if_pos (by rw [e3]; rfl), gmE_m1 e3, e5]
    · rw [if_neg (by rw [show (3 : Int32) = nI 3 from rfl, nI_inj (by omega) (by decide)]; exact e3), gmE_m2 e3]
  · rw [hw, if_neg (by decide)]
    rfl
  · rw [hw, if_neg (by decide)]
    rfl
set_option maxHeartbeats 4000000 in
theorem f_goMoveN {f : Nat → Int32} {kk sg mv gm w1 w2 dg t1 t2 am : Int32} {now : Nat → Int32} {h : List HP} (hr : RP f kk sg 1 mv gm w1 w2 dg t1 t2 am now h) {x y : Nat} (hx : x < 49) (hy : y < 49) (hs : sd (f x) = mv) (hre : reason f x y = 0) {nst nn : Nat} (hn : nst ≤ 6) (hnn : nn ≤ 4096) {F L : Nat → Int64} {B : Nat → Int32} {C : List Nat} (hC : LV B C nn) (hcl : C.length < 4000) {book kept isk : Nat → Int32} (M : Nat → Int32) (hd : ∀ k, HDS [now 60] nst book isk kept k → HC F L B C k) (hnd : ND F L B (fun i => i ∈ C) (now 60) h) (hl : h.length < 3999) : ∃ rk mD F' L' B' M' book' kept' n0 now4, NTc [now 60] (now 60) nst book isk kept F L B nn rk mD F' L' B' n0 book' kept' (rpos (mov f (decide (now 52 = 1)) x y) (1 - mv)) ∧ (now4 60 = nI n0 ∧ ∀ i, i ≠ 60 → now4 i = gmR now x y mv i) ∧ fX9_goMoveN (nI nst) (nI nn) now book kept isk F L B M (nI x) (nI y) = some (nI (takN f (decide (now 52 = 1)) x y), gmE now4 (wb (mov f (decide (now 52 = 1)) x y) mv) (1 + occ (mov f (decide (now 52 = 1)) x y, 1 - mv) h), book', kept', F', L', B', M', nI (n0 + 1)) := by
  have hr0 := hr
  obtain ⟨ag, pb, uk, ko, rfl, hsg, h52, h50, h49, hdm, h51, h53, h54, h55, h56, h57, h58, h59, h0, hok, hrun⟩ := hr
  obtain ⟨hlow, hkin⟩ := hrun rfl
  have hm : MV f x y := reason_MV hx hy hre
  have pbt : PB now := AG_PB ag pb
  have agm : AG (stR now x y) (mov f (decide (now 52 = 1)) x y) := AG_trans AG_st (AG_mov (AG_symm ag) hx hy _)
  have hw := gm_w (g := decide (now 52 = 1)) hdm uk hm hs hkin
  have hwr : fX9_wonBy (stR now x y) mv = some (wb (mov f (decide (now 52 = 1)) x y) mv) := by
    rw [f_wonBy9 (AG_PB (AG_symm agm) (mov_PB pb hx)), AG_wb agm]
  have hst : fX9_step now (nI x) (nI y) = some (nI (takN f (decide (now 52 = 1)) x y), stR now x y) := by
    rw [f_step pbt hx hy hm.2.2.1 (by rw [← ag x hx]; exact hm.2.2.2.1)]
    exact congrArg (fun z => some (nI z, stR now x y)) (AG_takN ag hx hy _).symm
  have e60 := gm_60 (row := now) (mv := mv) hx hy
  obtain ⟨rk, mD, F', L', B', M', now4, book', kept', n0, hN, h4, he⟩ := f_noteN hn hnn hC (by omega) (now := gmR now x y mv) (book := book) (kept := kept) (isk := isk) M hd
  rw [gm_rp ag hx hy] at hN
  refine ⟨rk, mD, F', L', B', M', book', kept', n0, now4, hN, h4, ?_⟩
  have hnew := ((hN.2.2.2.2 C hC).2.2.2 (mov f (decide (now 52 = 1)) x y, 1 - mv) h rfl hnd)
  have hsee : fX9_seen F' L' B' now4 = some (nI (1 + occ (mov f (decide (now 52 = 1)) x y, 1 - mv) h)) := by
    refine f_seen (C := fun i => i ∈ n0 :: mD C) (fun i hi => ?_) (fun q hq => ?_) (by omega) (by rw [h4.1]; exact hnew.2)
    · have := (hnew.1 i hi).1
      have := hN.1.1
      omega
    · rcases List.mem_cons.mp hq with rfl | hq
      · exact ⟨mov_PB pb hx, isD_opp hdm⟩
      · exact hok q hq
  have hocc := Low_occ (mov f (decide (now 52 = 1)) x y, 1 - mv) h hlow
  unfold fX9_goMoveN
  simp only [show inB 49 61 = true from rfl, show inB 53 61 = true from rfl, show inB 54 61 = true from rfl, show inB 60 61 = true from rfl, show inB 50 61 = true from rfl, show inB 57 61 = true from rfl, show (49 : Int32).toNatClampNeg = 49 from rfl, show (53 : Int32).toNatClampNeg = 53 from rfl, show (54 : Int32).toNatClampNeg = 54 from rfl, show (60 : Int32).toNatClampNeg = 60 from rfl, show (50 : Int32).toNatClampNeg = 50 from rfl, show (57 : Int32).toNatClampNeg = 57 from rfl, jn_eq, grd_t, bnd_eq, h49, hst, Option.bind_some, hwr]
  have e54 : ∀ v, (upd (stR now x y) 53 v) 54 = stR now x y 54 := fun v => upd_ne (by decide)
  have e5 : ∀ v, (upd now4 50 v) 57 = now4 57 := fun v => upd_ne (by decide)
  simp only [e54]
  rw [show upd (upd (upd (stR now x y) 53 (stR now x y 53 + 1)) 54 (stR now x y 54 + 1)) 49 (1 - mv) = gmR now x y mv from rfl, e60, he, Option.bind_some]
  rcases hw with hw | hw | hw
  · rw [hw, if_pos rfl, hsee, Option.bind_some]
    by_cases e3 : 1 + occ (mov f (decide (now 52 = 1)) x y, 1 - mv) h = 3
    · rw [if_pos (by rw [e3]; rfl), gmE_m1 e3, e5]
    · rw [if_neg (by rw [show (3 : Int32) = nI 3 from rfl, nI_inj (by omega) (by decide)]; exact e3), gmE_m2 e3]
  · rw [hw, if_neg (by decide)]
    rfl
  · rw [hw, if_neg (by decide)]
    rfl
/-! a game begins -/
def stt (row : Nat → Int32) (d : Int32) : Nat → Int32 := upd (upd (upd (upd row 49 d) 50 1) 51 1) 53 0
theorem stt_ot {row : Nat → Int32} {d : Int32} {k : Nat} (h : k ≠ 49 ∧ k ≠ 50 ∧ k ≠ 51 ∧ k ≠ 53) : stt row d k = row k := by
  unfold stt
  rw [upd_ne h.2.2.2, upd_ne h.2.2.1, upd_ne h.2.1, upd_ne h.1]
theorem f_goStart {now : Nat → Int32} (hp : PB now) (d : Int32) {nst nn : Nat} (hn : nst ≤ 6) (hnn : nn ≤ 4096) {F L : Nat → Int64} {B : Nat → Int32} {C : List Nat} (hC : LV B C nn) (hcl : C.length < 4000) {book kept isk : Nat → Int32} (M : Nat → Int32) (hd : ∀ k, HDS [-1] nst book isk kept k → HC F L B C k) : ∃ rk mD F' L' B' M' book' kept' n0 now4, NTc [-1] (-1) nst book isk kept F L B nn rk mD F' L' B' n0 book' kept' (rpos now d) ∧ (now4 60 = nI n0 ∧ ∀ i, i ≠ 60 → now4 i = stt now d i) ∧ fX9_goStart (nI nst) (nI nn) now book kept isk F L B M d = some (nI (mcN now d), now4, book', kept', F', L', B', M', nI (n0 + 1)) := by
  have ag : AG (stt now d) now := fun s hs => stt_ot ⟨by omega, by omega, by omega, by omega⟩
  obtain ⟨rk, mD, F', L', B', M', now4, book', kept', n0, hN, h4, he⟩ := f_noteN hn hnn hC (by omega) (now := stt now d) (book := book) (kept := kept) (isk := isk) M hd
  rw [show stt now d 49 = d by
    unfold stt
    rw [upd_ne (by decide), upd_ne (by decide), upd_ne (by decide), upd_eq], rpos_AG ag] at hN
  refine ⟨rk, mD, F', L', B', M', book', kept', n0, now4, hN, h4, ?_⟩
  have ag4 : AG now4 now := fun s hs => (h4.2 s (by omega)).trans (ag s hs)
  unfold fX9_goStart
  rw [show inB 49 61 = true from rfl, show inB 50 61 = true from rfl, show inB 51 61 = true from rfl, show inB 53 61 = true from rfl, grd_t, grd_t, grd_t, grd_t]
  show (fX9_noteN (nI nst) (nI nn) (stt now d) book kept isk F L B M (-1)).bind _ = _
  rw [he, Option.bind_some, f_moveCount _ (AG_PB (AG_symm ag4) hp).pos, Option.bind_some, AG_mcN ag4]
theorem st_RP {f : Nat → Int32} {kk sg sn mv gm w1 w2 dg t1 t2 am : Int32} {row : Nat → Int32} {h : List HP} (hr : RP f kk sg sn mv gm w1 w2 dg t1 t2 am row h) {f' row0 row4 : Nat → Int32} {d : Int32} (hd : isD d) (ag : AG f' row0) (pb : PB f') (uk : UK f') (ko : KO f') (hk : KIN f') (e0 : ∀ i, 49 ≤ i → i < 60 → row0 i = row i) (h4 : ∀ i, i ≠ 60 → row4 i = stt row0 d i) : RP f' (enc (kingN f')) sg 1 d 0 w1 w2 dg t1 t2 am row4 [(f', d)] := by
  obtain ⟨_, _, _, _, _, hsg, h52, h50, h49, hdm, h51, h53, h54, h55, h56, h57, h58, h59, h0, hok, hrun⟩ := hr
  have q : ∀ i, 49 ≤ i → i < 60 → i ≠ 49 → i ≠ 50 → i ≠ 51 → i ≠ 53 → row4 i = row i := fun i a b c1 c2 c3 c4 => by
    rw [h4 i (by omega), stt_ot ⟨c1, c2, c3, c4⟩, e0 i a b]
  have q52 := q 52 (by decide) (by decide) (by decide) (by decide) (by decide) (by decide)
  refine ⟨fun s hs => ?_, pb, uk, ko, rfl, ?_, q52.trans h52, h4 50 (by decide), h4 49 (by decide), hd, h4 51 (by decide), h4 53 (by decide), (q 54 (by decide) (by decide) (by decide) (by decide) (by decide) (by decide)).trans h54, (q 55 (by decide) (by decide) (by decide) (by decide) (by decide) (by decide)).trans h55, (q 56 (by decide) (by decide) (by decide) (by decide) (by decide) (by decide)).trans h56, (q 57 (by decide) (by decide) (by decide) (by decide) (by decide) (by decide)).trans h57, (q 58 (by decide) (by decide) (by decide) (by decide) (by decide) (by decide)).trans h58, (q 59 (by decide) (by decide) (by decide) (by decide) (by decide) (by decide)).trans h59, ⟨fun e => absurd e (by decide), fun e => nomatch e⟩, fun p hp => ?_, fun _ => ⟨⟨Nat.zero_le _, trivial⟩, hk⟩⟩
  · rw [h4 s (by omega), stt_ot ⟨by omega, by omega, by omega, by omega⟩]
    exact ag s hs
  · rw [q52]
    exact hsg
  · rcases List.mem_cons.mp hp with rfl | hp
    · exact ⟨pb, hd⟩
    · cases hp

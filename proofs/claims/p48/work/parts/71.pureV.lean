/-! ===== pure part V: the class makes a move in a game ===== -/
theorem lenI_eq : ∀ n : Nat, lenI n = nI (n + 1)
  | 0 => rfl
  | n + 1 => by
    show lenI n + 1 = _
    rw [lenI_eq n, nI_1]
def newPC (p : HP) (t : List HP) : PC := ((cpos p.1 p.2).1, (cpos p.1 p.2).2.1, (cpos p.1 p.2).2.2, nI (1 + occ p t))
theorem chP_cons (p : HP) (t : List HP) : chP (p :: t) = newPC p t :: chP t := rfl
theorem f_pack1 (f : Nat → Int32) : fX5_pack f 0 25 = some (pkF f 25 0 0) := f_pack f (a := 0) (n := 25) (by decide)
theorem f_pack2 (f : Nat → Int32) : fX5_pack f 25 49 = some (pkF f 24 25 0) := f_pack f (a := 25) (n := 24) (by decide)
theorem f_begin (f : Nat → Int32) (d : Int32) : fX7_begin f d = some (1, d, 0, newPC (f, d) []) := by
  unfold fX7_begin fX5_initN
  rw [f_pack1, Option.bind_some, f_pack2, Option.bind_some]
  rfl
theorem f_initS (la : Nat) (f : Nat → Int32) {cx : PC} {ct : List PC} {d : Int32} {t : List HP} (h : cx :: ct = chP t) (hl : t.length < 1000) : fX5_initS la f cx ct d = some ((cpos f d).1, (cpos f d).2.1, d, some la, lenI (ct.length + 1), nI (1 + occ (f, d) t)) := by
  have hlen : ct.length + 1 = t.length := by
    have := congrArg List.length h
    rw [chP_len] at this
    exact this
  have ho := occ_le (f, d) t
  have ht := tin_occ (f, d) t
  unfold fX5_initS fX5_timesIn
  rw [f_pack1, Option.bind_some, f_pack2, Option.bind_some, lenI_eq, h, chP_len, decide_eq_true (show ¬ (1000 : Int32) ≤ nI (ct.length + 1) from nle (c := 1000) (by omega) (by decide)), grd_t, decide_eq_true (by omega), grd_t, Option.bind_some, nI_1, lenI_eq, show tin (chP t) (pkF f 25 0 0) (pkF f 24 25 0) d = nI (occ (f, d) t) from ht]
  show some (_, _, _, _, _, nI 1 + nI (occ (f, d) t)) = _
  rw [nI_add]
  rfl
/-- how a game stands after a move -/
def jdg (sd mv w1 w2 dg : Int32) (won : Bool) (seen : Nat) : Int32 × Int32 × Int32 × Int32 := if won then (if mv = 0 then (2, w1 + 1, w2, dg) else (3, w1, w2 + 1, dg)) else if seen < 3 then (sd, w1, w2, dg) else (4, w1, w2, dg + 1)
theorem f_judge {sd mv w1 w2 dg : Int32} (hm : isD mv) {f : Nat → Int32} {y : Nat} (hy : y < 49) {p : HP} {t : List HP} (hl : t.length < 1000) : fX7_judge sd (1 - mv) w1 w2 dg (enc (kingN f)) f (newPC p t) (nI y) = some (jdg sd mv w1 w2 dg (wonB f y true) (1 + occ p t)) := by
  have ho := occ_le p t
  unfold fX7_judge jdg
  rw [show fX1_isWonBy (enc (kingN f)) f (nI y) 1 = some (b01 (wonB f y true)) from f_isWonBy hy true, Option.bind_some]
  simp only [ite_b01]
  have e3 : (nI (1 + occ p t) < (3 : Int32)) = (1 + occ p t < 3) := propext (nI_ltI (b := 3) (by omega) (by decide))
  cases wonB f y true with
  | true =>
    rcases hm with h | h <;> rw [h] <;> rfl
  | false =>
    simp only [Bool.false_eq_true, if_false]
    show (fX7_timesThereS (newPC p t)).bind _ = _
    unfold fX7_timesThereS newPC
    rw [Option.bind_some]
    simp only [e3]
    split <;> rfl
theorem f_makeMove (la : Nat) {sd mv gm w1 w2 dg t1 t2 am : Int32} (hm : isD mv) {f : Nat → Int32} (hb : PB f) (hu : UK f) {g : Bool} {x y : Nat} (h : MV f x y) {cx : PC} {ct : List PC} {t : List HP} (hc : cx :: ct = chP t) (hl : t.length < 1000) : fX7_makeMove la sd mv gm w1 w2 dg t1 t2 am (enc (kingN f)) (b01 g) f cx ct (nI x) (nI y) = some (nI (takN f g x y), mov f g x y, enc (kingN (mov f g x y)), (jdg sd mv w1 w2 dg (wonB (mov f g x y) y true) (1 + occ (mov f g x y, 1 - mv) t)).1, 1 - mv, gm + 1, (jdg sd mv w1 w2 dg (wonB (mov f g x y) y true) (1 + occ (mov f g x y, 1 - mv) t)).2.1, (jdg sd mv w1 w2 dg (wonB (mov f g x y) y true) (1 + occ (mov f g x y, 1 - mv) t)).2.2.1, (jdg sd mv w1 w2 dg (wonB (mov f g x y) y true) (1 + occ (mov f g x y, 1 - mv) t)).2.2.2, (if mv = 0 then t1 else t1 + nI (takN f g x y)), (if mv = 0 then t2 + nI (takN f g x y) else t2), am + 1, newPC (mov f g x y, 1 - mv) t) := by
  have hco : fX1_carryOut (enc (kingN f)) (b01 g) f (nI x) (nI y) = some (nI (takN f g x y), mov f g x y, enc (kingN (mov f g x y))) := f_carryOut hb hu h
  have hj := fun w1 w2 dg => f_judge (sd := sd) (w1 := w1) (w2 := w2) (dg := dg) hm (f := mov f g x y) h.2.1 (p := (mov f g x y, 1 - mv)) (t := t) hl
  unfold newPC at hj
  unfold fX7_makeMove
  rw [hco, Option.bind_some]
  simp only [jn_eq, f_initS la (mov f g x y) (d := 1 - mv) hc hl, Option.bind_some, and_self, decide_true, grd_t]
  have hj2 : ∀ w1 w2 dg, fX7_judge sd (1 - mv) w1 w2 dg (enc (kingN (mov f g x y))) (mov f g x y) ((cpos (mov f g x y) (1 - mv)).1, (cpos (mov f g x y) (1 - mv)).2.1, 1 - mv, nI (1 + occ (mov f g x y, 1 - mv) t)) (nI y) = some (jdg sd mv w1 w2 dg (wonB (mov f g x y) y true) (1 + occ (mov f g x y, 1 - mv) t)) := hj
  simp only [hj2, Option.bind_some]
  by_cases e : mv = 0
  · rw [if_pos e, if_pos e, if_pos e]
    rfl
  · rw [if_neg e, if_neg e, if_neg e]
    rfl

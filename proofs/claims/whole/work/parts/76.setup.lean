/-! ===== the reference sets up ===== -/
theorem f_goSetUp (nst nn : Int32) (row book kept isk : Nat → Int32) (F L : Nat → Int64) (B M : Nat → Int32) : fX9_goSetUp nst nn row book kept isk F L B M = (fX9_goStart nst nn (su4 row) book kept isk F L B M 0).bind (fun r => (fX9_piecesIn r.2.1).bind (fun r_24 => some (r_24, r.2.1, r.2.2.1, r.2.2.2.1, r.2.2.2.2.1, r.2.2.2.2.2.1, r.2.2.2.2.2.2.1, r.2.2.2.2.2.2.2.1, r.2.2.2.2.2.2.2.2))) := by
  have inner : fX9_goSetUp_L25 nst isk 64 0 (su0 row) book kept F L B M nn = (fX9_goStart nst nn (su4 row) book kept isk F L B M 0).bind (fun r => (fX9_piecesIn r.2.1).bind (fun r_24 => some (r_24, r.2.1, r.2.2.1, r.2.2.2.1, r.2.2.2.2.1, r.2.2.2.2.2.1, r.2.2.2.2.2.2.1, r.2.2.2.2.2.2.2.1, r.2.2.2.2.2.2.2.2))) := by
    have s_S : ∀ n v (row book kept : Nat → Int32) (F L : Nat → Int64) (B M : Nat → Int32) nn, fX9_goSetUp_L25 nst isk (n + 1) v row book kept F L B M nn = fX9_goSetUp_L25_B nst isk (fX9_goSetUp_L25 nst isk n) v row book kept F L B M nn := fun _ _ _ _ _ _ _ _ _ _ => rfl
    have n0 : fX9_next 24 0 = some 17 ∧ fX9_next 17 0 = some 10 ∧ fX9_next 10 0 = some 3 := by decide +kernel
    have n1 : fX9_next 24 1 = some 25 ∧ fX9_next 25 1 = some 26 ∧ fX9_next 26 1 = some 27 := by decide +kernel
    have n2 : fX9_next 24 2 = some 31 ∧ fX9_next 31 2 = some 38 ∧ fX9_next 38 2 = some 45 := by decide +kernel
    have n3 : fX9_next 24 3 = some 23 ∧ fX9_next 23 3 = some 22 ∧ fX9_next 22 3 = some 21 := by decide +kernel
    have step0 : ∀ self, fX9_goSetUp_L25_B nst isk self 0 (su0 row) book kept F L B M nn = self 1 (su1 row) book kept F L B M nn := fun self => by
      unfold fX9_goSetUp_L25_B
      rw [if_neg (by decide), n0.1, Option.bind_some, n0.2.1, Option.bind_some, n0.2.2]
      rfl
    have step1 : ∀ self, fX9_goSetUp_L25_B nst isk self 1 (su1 row) book kept F L B M nn = self 2 (su2 row) book kept F L B M nn := fun self => by
      unfold fX9_goSetUp_L25_B
      rw [if_neg (by decide), n1.1, Option.bind_some, n1.2.1, Option.bind_some, n1.2.2]
      rfl
    have step2 : ∀ self, fX9_goSetUp_L25_B nst isk self 2 (su2 row) book kept F L B M nn = self 3 (su3 row) book kept F L B M nn := fun self => by
      unfold fX9_goSetUp_L25_B
      rw [if_neg (by decide), n2.1, Option.bind_some, n2.2.1, Option.bind_some, n2.2.2]
      rfl
    have step3 : ∀ self, fX9_goSetUp_L25_B nst isk self 3 (su3 row) book kept F L B M nn = self 4 (su4 row) book kept F L B M nn := fun self => by
      unfold fX9_goSetUp_L25_B
      rw [if_neg (by decide), n3.1, Option.bind_some, n3.2.1, Option.bind_some, n3.2.2]
      rfl
    rw [s_S, step0, s_S, step1, s_S, step2, s_S, step3, s_S]
    unfold fX9_goSetUp_L25_B
    rw [if_pos (by decide)]
  rw [← inner]
  have h := lp_for (n := 64) (B := fun (zf : Int32 × (Nat → Int32) × (Nat → Int32) × (Nat → Int32) × (Nat → Int64) × (Nat → Int64) × (Nat → Int32) × (Nat → Int32) × Int32 → Option (Int32 × (Nat → Int32) × (Nat → Int32) × (Nat → Int32) × (Nat → Int64) × (Nat → Int64) × (Nat → Int32) × (Nat → Int32) × Int32)) z => fX9_goSetUp_L2_B nst isk (fun v a b c d e f g h => zf (v, a, b, c, d, e, f, g, h)) z.1 z.2.1 z.2.2.1 z.2.2.2.1 z.2.2.2.2.1 z.2.2.2.2.2.1 z.2.2.2.2.2.2.1 z.2.2.2.2.2.2.2.1 z.2.2.2.2.2.2.2.2) (fun i => (nI i, (fun k => if k < i then 0 else row k), book, kept, F, L, B, M, nn)) 49 (res := fX9_goSetUp_L25 nst isk 64 0 (su0 row) book kept F L B M nn) (fun i hi self => ?_) (fun self => rfl) (by omega)
  · exact h
  · show fX9_goSetUp_L2_B nst isk _ (nI i) _ book kept F L B M nn = _
    unfold fX9_goSetUp_L2_B
    rw [if_neg (nle (c := 49) hi (by decide)), inB_t (by omega) (by decide), grd_t, nI_clamp (by omega), nI_1]
    congr 3
    funext k
    unfold upd
    show (if k = i then 0 else if k < i then 0 else row k) = if k < i + 1 then 0 else row k
    by_cases e : k = i
    · rw [if_pos e, if_pos (by omega)]
    · by_cases e2 : k < i
      · rw [if_neg e, if_pos e2, if_pos (by omega)]
      · rw [if_neg e, if_neg e2, if_neg (by omega)]

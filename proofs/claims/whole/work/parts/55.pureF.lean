/-! ===== pure part F, second: the reference's step ===== -/
def gone (c : Nat → Bool) (y : Nat) : Nat → Int64
  | 0 => 0
  | i + 1 => gone c y i ||| bt (c i) (enc (nx y i))
theorem gone_4 (c : Nat → Bool) (y : Nat) : gone c y 4 = goneG y (c 0) (c 1) (c 2) (c 3) := rfl
theorem caught_some {b : Nat → Int32} {g : Bool} {m : Int32} {y w : Nat} (h : caught b g m y w = true) : ∃ t, nx y w = some t ∧ b t ≠ 0 ∧ sd (b t) ≠ m := by
  unfold caught at h
  cases hn : nx y w with
  | none => rw [hn] at h; cases h
  | some t =>
    rw [hn] at h
    simp only [Bool.and_eq_true, Bool.not_eq_true', decide_eq_false_iff_not] at h
    exact ⟨t, rfl, h.1.1, h.1.2⟩
theorem gone_count {b : Nat → Int32} {g : Bool} {m : Int32} {y : Nat} (hy : y < 49) : sumN (fun s => if inG (caught b g m y) y s then 1 else 0) 49 = nT (caught b g m y) := by
  refine gone_sum y hy _ _ _ _ ?_
  have q : ∀ w, (caught b g m y w && (nx y w).isNone) = false := by
    intro w
    cases hc : caught b g m y w with
    | false => rfl
    | true =>
      obtain ⟨t, ht, -⟩ := caught_some hc
      rw [ht]
      rfl
  rw [q, q, q, q]
  rfl
theorem inG_some {c : Nat → Bool} {y s : Nat} (h : inG c y s = true) : ∃ w, w < 4 ∧ c w = true ∧ nx y w = some s := by
  unfold inG at h
  simp only [Bool.or_eq_true, Bool.and_eq_true, beq_iff_eq] at h
  rcases h with ((h | h) | h) | h
  · exact ⟨0, by decide, h⟩
  · exact ⟨1, by decide, h⟩
  · exact ⟨2, by decide, h⟩
  · exact ⟨3, by decide, h⟩
theorem inG_of {c : Nat → Bool} {y s w : Nat} (hw : w < 4) (h1 : c w = true) (h2 : nx y w = some s) : inG c y s = true := by
  unfold inG
  rcases (by omega : w = 0 ∨ w = 1 ∨ w = 2 ∨ w = 3) with rfl | rfl | rfl | rfl <;> rw [h1, h2] <;> simp
theorem PB.mv {b : Nat → Int32} (h : PB b) {x y : Nat} (hx : x < 49) : PB (mvB b x y) := by
  intro s hs
  unfold mvB upd
  split
  · exact Or.inl rfl
  split
  · exact h x hx
  · exact h s hs
theorem PB.tk {b : Nat → Int32} (h : PB b) {c : Nat → Bool} {y : Nat} : PB (tkB b c y) := by
  intro s hs
  unfold tkB
  split
  · exact Or.inl rfl
  · exact h s hs
theorem sd_D {p : Int32} (h : p ≠ 0) : isD (sd p) := by
  unfold sd
  rw [if_neg h]
  split
  · exact Or.inl rfl
  · exact Or.inr rfl
/-- the reference's row behind the move: the board, and the count of what was taken -/
def stR (row : Nat → Int32) (x y : Nat) : Nat → Int32 :=
  let b := mvB row x y
  let c := caught b (decide (row 52 = 1)) (sd (row x)) y
  fun k => if inG c y k then 0 else if k = 58 ∧ sd (row x) = 1 ∨ k = 59 ∧ sd (row x) = 0 then row k + nI (nT c) else b k
def stN (row : Nat → Int32) (x y : Nat) : Nat := nT (caught (mvB row x y) (decide (row 52 = 1)) (sd (row x)) y)
theorem or_z (v : Int64) : v ||| 0 = v := by
  apply Int64.toBitVec_inj.mp
  rw [Int64.toBitVec_or]
  simp
theorem step_ways {row : Nat → Int32} (hb : PB row) {x y : Nat} (hx : x < 49) (hy : y < 49) {self : Int64 → Int32 → Option (Int32 × (Nat → Int32))} {i : Nat} (hi : i < 4) (v : Int64) : fX9_step_L26_B row (nI x) (nI y) (sd (row x)) self v (nI i) = self (v ||| bt (caught (mvB row x y) (decide (row 52 = 1)) (sd (row x)) y i) (enc (nx y i))) (nI (i + 1)) := by
  have hm : PB (mvB row x y) := hb.mv hx
  have e52 : mvB row x y 52 = row 52 := by
    unfold mvB upd
    rw [if_neg (by omega), if_neg (by omega)]
  unfold fX9_step_L26_B
  rw [if_neg (nle (c := 4) hi (by decide)), f_next y hy i hi, Option.bind_some]
  rw [nI_clamp (n := x) (by omega), nI_clamp (n := y) (by omega)]
  rw [show upd (upd row y (row x)) x 0 = mvB row x y from rfl]
  rw [nI_1]
  unfold caught
  cases hn : nx y i with
  | none =>
    simp only [jn_eq]
    rw [if_pos (show enc none = -1 from rfl), if_pos (by decide)]
    show _ = self (v ||| 0) (nI (i + 1))
    rw [or_z]
  | some t =>
    have ht := nx_lt y hy i hi t hn
    rw [show enc (some t) = nI t from rfl]
    simp only [jn_eq]
    rw [if_neg (show ¬ nI t = -1 by rw [nI_m1 (by omega)]; exact id), inB_t (n := 61) (by omega) (by decide), grd_t, nI_clamp (n := t) (by omega)]
    by_cases h0 : mvB row x y t = 0
    · rw [h0, if_pos (by decide)]
      show _ = self (v ||| 0) (nI (i + 1))
      rw [or_z]
    rw [if_neg (fun q => h0 (Int32.le_antisymm q (hm.pos t ht))), f_side9, Option.bind_some]
    by_cases h1 : sd (mvB row x y t) = sd (row x)
    · rw [if_pos h1, decide_eq_true h1, Bool.not_true, Bool.and_false, Bool.false_and]
      show _ = self (v ||| 0) (nI (i + 1))
      rw [or_z]
    rw [if_neg h1, decide_eq_false h0, decide_eq_false h1, f_next t ht i hi, Option.bind_some]
    have KX : ∀ (c : Prop) [Decidable c] (two : Bool), (c ↔ two = false) → (if mvB row x y t = 3 then (fX9_isStrongAt (mvB row x y) (nI t)).bind fun r => if r = 0 then (if c then self (v ||| 0) (nI (i + 1)) else self (v ||| (1 : Int64) <<< ((nI t).toInt64 &&& 63)) (nI (i + 1))) else (fX9_isShut (mvB row x y) (nI t)).bind fun t22 => if t22 = 0 then self (v ||| 0) (nI (i + 1)) else self (v ||| (1 : Int64) <<< ((nI t).toInt64 &&& 63)) (nI (i + 1)) else (if c then self (v ||| 0) (nI (i + 1)) else self (v ||| (1 : Int64) <<< ((nI t).toInt64 &&& 63)) (nI (i + 1)))) = self (v ||| bt (if decide (mvB row x y t = 3) && (decide (row 52 = 1) || nearT t) then shutB (mvB row x y) t else two) (nI t)) (nI (i + 1)) := by
      intro c _ two hc
      have K2 : (if c then self (v ||| 0) (nI (i + 1)) else self (v ||| (1 : Int64) <<< ((nI t).toInt64 &&& 63)) (nI (i + 1))) = self (v ||| bt two (nI t)) (nI (i + 1)) := by
        cases two with
        | false => rw [if_pos (hc.mpr rfl)]; rfl
        | true => rw [if_neg (fun q => absurd (hc.mp q) (by decide))]; rfl
      by_cases h3 : mvB row x y t = 3
      · rw [if_pos h3, f_isStrongAt ht, Option.bind_some, ite_b01, e52, decide_eq_true h3, Bool.true_and]
        cases (decide (row 52 = 1) || nearT t) with
        | false => exact K2
        | true =>
          rw [if_pos rfl, if_pos rfl, f_isShut hm ht, Option.bind_some, ite_b01]
          cases shutB (mvB row x y) t <;> rfl
      · rw [if_neg h3, decide_eq_false h3, Bool.false_and]
        exact K2
    rw [Bool.not_false, Bool.true_and, Bool.true_and]
    cases hq : nx t i with
    | none =>
      rw [if_pos (show enc none = -1 from rfl)]
      exact KX True false ⟨fun _ => rfl, fun _ => trivial⟩
    | some q =>
      have hq9 := nx_lt t ht i hi q hq
      rw [if_neg (show ¬ enc (some q) = -1 by show ¬ nI q = -1; rw [nI_m1 (by omega)]; exact id), Option.bind_some, show enc (some q) = nI q from rfl, f_hostile hm hq9, Option.bind_some, ite_b01]
      show _ = self (v ||| bt (if decide (mvB row x y t = 3) && (decide (row 52 = 1) || nearT t) then shutB (mvB row x y) t else host (mvB row x y) q (sd (mvB row x y t))) (nI t)) (nI (i + 1))
      cases host (mvB row x y) q (sd (mvB row x y t)) with
      | true => exact KX ((1 : Int32) = 0) true ⟨fun h => absurd h (by decide), fun h => nomatch h⟩
      | false => exact KX True false ⟨fun _ => rfl, fun _ => trivial⟩
theorem f_step {row : Nat → Int32} (hb : PB row) {x y : Nat} (hx : x < 49) (hy : y < 49) (hxy : x ≠ y) (h0 : row x ≠ 0) : fX9_step row (nI x) (nI y) = some (nI (stN row x y), stR row x y) := by
  have hm : PB (mvB row x y) := hb.mv hx
  unfold fX9_step
  rw [inB_t (i := x) (n := 61) (by omega) (by decide), inB_t (i := y) (n := 61) (by omega) (by decide)]
  simp only [grd_t]
  rw [nI_clamp (n := x) (by omega), nI_clamp (n := y) (by omega), f_side9, Option.bind_some]
  have ey : upd (upd row y (row x)) x 0 y = row x := by
    unfold upd
    rw [if_neg (fun e => hxy e.symm), if_pos rfl]
  rw [ey]
  unfold fX9_step_L26
  obtain ⟨c, hc⟩ : ∃ c, c = caught (mvB row x y) (decide (row 52 = 1)) (sd (row x)) y := ⟨_, rfl⟩
  refine lp_for (B := fun (zf : Int64 × Int32 → Option (Int32 × (Nat → Int32))) z => fX9_step_L26_B row (nI x) (nI y) (sd (row x)) (fun v4 v7 => zf (v4, v7)) z.1 z.2) (fun i => (gone c y i, nI i)) 4 (fun i hi self => ?_) (fun self => ?_) (by omega)
  · show fX9_step_L26_B row (nI x) (nI y) (sd (row x)) _ (gone c y i) (nI i) = _
    rw [step_ways hb hx hy hi, ← hc]
    rfl
  · show fX9_step_L26_B row (nI x) (nI y) (sd (row x)) _ (gone c y 4) (nI 4) = _
    unfold fX9_step_L26_B
    rw [if_pos (by decide), nI_clamp (n := x) (by omega), nI_clamp (n := y) (by omega)]
    rw [show upd (upd row y (row x)) x 0 = mvB row x y from rfl]
    -- the squares in order
    have hsum : sumN (fun s => if inG c y s then 1 else 0) 49 = nT c := by rw [hc]; exact gone_count hy
    have hG : ∀ s, s < 49 → inG c y s = true → mvB row x y s ≠ 0 ∧ sd (mvB row x y s) ≠ sd (row x) := by
      intro s hs h
      obtain ⟨w, hw, h1, h2⟩ := inG_some h
      rw [hc] at h1
      obtain ⟨t, ht, h3⟩ := caught_some h1
      rw [h2] at ht
      cases ht
      exact h3
    obtain ⟨R, hR⟩ : ∃ R : Nat → Nat → Int32, R = fun i k => if k < i ∧ inG c y k then 0 else if k = 58 ∧ sd (row x) = 1 ∨ k = 59 ∧ sd (row x) = 0 then row k + nI (sumN (fun s => if inG c y s then 1 else 0) i) else mvB row x y k := ⟨_, rfl⟩
    have hR0 : R 0 = mvB row x y := by
      rw [hR]
      funext k
      show (if k < 0 ∧ inG c y k = true then (0 : Int32) else if k = 58 ∧ sd (row x) = 1 ∨ k = 59 ∧ sd (row x) = 0 then row k + 0 else mvB row x y k) = mvB row x y k
      rw [if_neg (fun q => absurd q.1 (Nat.not_lt_zero _))]
      split
      · rename_i q
        rw [Int32.add_zero]
        unfold mvB upd
        rw [if_neg (by omega), if_neg (by omega)]
      · rfl
    have hR49 : R 49 = stR row x y := by
      rw [hR]
      funext k
      unfold stR
      simp only [← hc, hsum]
      by_cases q : inG c y k = true
      · obtain ⟨w, hw, -, h2⟩ := inG_some q
        rw [if_pos ⟨nx_lt y hy w hw k h2, q⟩, if_pos q]
      · rw [if_neg (fun z => q z.2), if_neg q]
    have hD := sd_D h0
    unfold fX9_step_L161
    rw [← hR0]
    refine lp_for (B := fun (zf : Int32 × Int32 × (Nat → Int32) → Option (Int32 × (Nat → Int32))) z => fX9_step_L161_B (gone c y 4) (fun v6 v7 w => zf (v6, v7, w)) z.1 z.2.1 z.2.2) (fun i => (nI (sumN (fun s => if inG c y s then 1 else 0) i), nI i, R i)) 49 (fun i hi self => ?_) (fun self => ?_) (by omega)
    · show fX9_step_L161_B (gone c y 4) _ (nI _) (nI i) (R i) = self (nI (sumN _ i + (if inG c y i then 1 else 0)), nI (i + 1), R (i + 1))
      unfold fX9_step_L161_B
      rw [if_neg (nle (c := 49) hi (by decide)), nI_clamp (n := i) (by omega)]
      have hbits := gone_bits y hy (c 0) (c 1) (c 2) (c 3) i hi
      rw [← gone_4] at hbits
      have hbits : decide (lg_cmp ((gone c y 4 >>> ((nI i).toInt64 &&& 63)) &&& 1) 1 = 0) = inG c y i := hbits
      have hRi : R i i = mvB row x y i := by
        rw [hR]
        show (if i < i ∧ _ then _ else if _ then _ else _) = _
        rw [if_neg (fun q => absurd q.1 (Nat.lt_irrefl _)), if_neg (by omega)]
      by_cases hg : inG c y i = true
      · rw [hg] at hbits
        rw [if_pos (of_decide_eq_true hbits), if_pos hg, inB_t (n := 61) (by omega) (by decide), hRi, f_side9]
        have h2 := hG i hi hg
        have hd2 := sd_D h2.1
        -- the other side
        have key : ∀ q : Nat, (58 + sd (mvB row x y i)) = nI q → q = 58 ∧ sd (row x) = 1 ∨ q = 59 ∧ sd (row x) = 0 → upd (upd (R i) q (R i q + 1)) i 0 = R (i + 1) := by
          intro q _ hq
          rw [hR]
          funext k
          unfold upd
          by_cases hki : k = i
          · subst hki
            rw [if_pos rfl]
            show _ = if k < k + 1 ∧ inG c y k = true then 0 else _
            rw [if_pos ⟨by omega, hg⟩]
          · rw [if_neg hki]
            by_cases hkq : k = q
            · subst hkq
              rw [if_pos rfl]
              show (if k < i ∧ inG c y k = true then (0 : Int32) else if k = 58 ∧ sd (row x) = 1 ∨ k = 59 ∧ sd (row x) = 0 then row k + nI (sumN (fun s => if inG c y s then 1 else 0) i) else mvB row x y k) + 1 = if k < i + 1 ∧ inG c y k = true then (0 : Int32) else if k = 58 ∧ sd (row x) = 1 ∨ k = 59 ∧ sd (row x) = 0 then row k + nI (sumN (fun s => if inG c y s then 1 else 0) i + (if inG c y i = true then 1 else 0)) else mvB row x y k
              rw [if_neg (by omega), if_pos hq, if_neg (by omega), if_pos hq, if_pos hg, Int32.add_assoc, nI_1]
            · rw [if_neg hkq]
              show (if k < i ∧ inG c y k = true then (0 : Int32) else if k = 58 ∧ sd (row x) = 1 ∨ k = 59 ∧ sd (row x) = 0 then row k + nI (sumN (fun s => if inG c y s then 1 else 0) i) else mvB row x y k) = if k < i + 1 ∧ inG c y k = true then (0 : Int32) else if k = 58 ∧ sd (row x) = 1 ∨ k = 59 ∧ sd (row x) = 0 then row k + nI (sumN (fun s => if inG c y s then 1 else 0) i + (if inG c y i = true then 1 else 0)) else mvB row x y k
              have e1 : (k < i + 1 ∧ inG c y k = true) = (k < i ∧ inG c y k = true) := by
                rw [eq_iff_iff]
                constructor
                · rintro ⟨h1, h2⟩
                  exact ⟨by omega, h2⟩
                · rintro ⟨h1, h2⟩
                  exact ⟨by omega, h2⟩
              simp only [e1]
              have e2 : ¬ (k = 58 ∧ sd (row x) = 1 ∨ k = 59 ∧ sd (row x) = 0) := by
                rintro (⟨h1, h2⟩ | ⟨h1, h2⟩)
                · rcases hq with ⟨h3, h4⟩ | ⟨h3, h4⟩
                  · omega
                  · rw [h2] at h4
                    exact absurd h4 (by decide)
                · rcases hq with ⟨h3, h4⟩ | ⟨h3, h4⟩
                  · rw [h2] at h4
                    exact absurd h4 (by decide)
                  · omega
              rw [if_neg e2, if_neg e2]
        rcases hd2 with hd2 | hd2
        · have hq1 : sd (row x) = 1 := by
            rcases hD with h | h
            · exact absurd (hd2.trans h.symm) h2.2
            · exact h
          rw [hd2]
          simp only [Option.bind_some, grd_t]
          rw [show (58 : Int32) + 0 = nI 58 from rfl, inB_t (i := 58) (by decide) (by decide), nI_clamp (n := 58) (by decide)]
          simp only [grd_t]
          rw [key 58 (by rw [hd2]; rfl) (Or.inl ⟨rfl, hq1⟩), nI_1, nI_1]
        · have hq1 : sd (row x) = 0 := by
            rcases hD with h | h
            · exact h
            · exact absurd (hd2.trans h.symm) h2.2
          rw [hd2]
          simp only [Option.bind_some, grd_t]
          rw [show (58 : Int32) + 1 = nI 59 from rfl, inB_t (i := 59) (by decide) (by decide), nI_clamp (n := 59) (by decide)]
          simp only [grd_t]
          rw [key 59 (by rw [hd2]; rfl) (Or.inr ⟨rfl, hq1⟩), nI_1, nI_1]
      · have hg2 : inG c y i = false := by simpa using hg
        rw [hg2] at hbits
        rw [if_neg (of_decide_eq_false hbits), if_neg hg, nI_1]
        have e1 : R (i + 1) = R i := by
          rw [hR]
          funext k
          have e1 : (k < i + 1 ∧ inG c y k = true) = (k < i ∧ inG c y k = true) := by
            rw [eq_iff_iff]
            constructor
            · rintro ⟨h1, h2⟩
              refine ⟨?_, h2⟩
              rcases (by omega : k < i ∨ k = i) with h | h
              · exact h
              · rw [h] at h2
                exact absurd h2 hg
            · rintro ⟨h1, h2⟩
              exact ⟨by omega, h2⟩
          have e2 : sumN (fun s => if inG c y s then 1 else 0) (i + 1) = sumN (fun s => if inG c y s then 1 else 0) i := by
            show sumN _ i + (if inG c y i = true then 1 else 0) = _
            rw [if_neg hg]
            rfl
          simp only [e1, e2]
        rw [e1]
        rfl
    · show fX9_step_L161_B (gone c y 4) _ (nI _) (nI 49) (R 49) = _
      unfold fX9_step_L161_B
      rw [if_pos (by decide), hsum, hR49]
      unfold stN
      rw [← hc]

/-! ===== pure part K: the moves' numbers, what wins ===== -/
theorem seg_end : ∀ x, x < 49 → ∀ y, y < 49 → (wayOf x y).isSome = true → (segOf x y).contains y = true := by decide +kernel
theorem way_ne {x y : Nat} (h : (wayOf x y).isSome = true) : x ≠ y := fun e => by
  unfold wayOf at h
  rw [if_pos e] at h
  exact absurd h (by decide)
theorem reason_MV {b : Nat → Int32} {x y : Nat} (hx : x < 49) (hy : y < 49) (h : reason b x y = 0) : MV b x y := by
  have ha := reason_al h
  have h0 : b x ≠ 0 := fun e => by
    unfold reason at h
    rw [if_pos e] at h
    exact absurd h (by decide)
  refine ⟨hx, hy, way_ne ha, h0, ?_⟩
  obtain ⟨w, hw⟩ := Option.isSome_iff_exists.mp ha
  have h1 := reason_w h0 hw
  rw [decide_eq_true h] at h1
  have h2 := (Bool.and_eq_true _ _ ▸ h1.symm : (segOf x y).all (fun t => decide (b t = 0)) = true ∧ rst (b x) y = true)
  have h3 := List.all_eq_true.mp h2.1 y (List.contains_iff_mem.mp (seg_end x hx y hy ha))
  exact of_decide_eq_true h3
theorem tlF_mem {b : Nat → Int32} {x c : Nat} : ∀ n y, c ∈ tlF b x n y → c < y + n ∧ reason b x c = 0
  | 0, y, h => by cases h
  | n + 1, y, h => by
    unfold tlF at h
    split at h
    · rename_i e
      rcases List.mem_cons.mp h with h | h
      · subst h
        exact ⟨by omega, e⟩
      · have := tlF_mem n (y + 1) h
        exact ⟨by omega, this.2⟩
    · have := tlF_mem n (y + 1) h
      exact ⟨by omega, this.2⟩
theorem mlF_mem {b : Nat → Int32} {d : Int32} {c : Nat} : ∀ n x, c ∈ mlF b d n x → ∃ x' y, c = 49 * x' + y ∧ x' < x + n ∧ y < 49 ∧ sd (b x') = d ∧ reason b x' y = 0
  | 0, x, h => by cases h
  | n + 1, x, h => by
    unfold mlF at h
    rcases List.mem_append.mp h with h | h
    · split at h
      · rename_i e
        obtain ⟨y, hy, rfl⟩ := List.mem_map.mp h
        have := tlF_mem 49 0 hy
        exact ⟨x, y, rfl, by omega, by omega, e, this.2⟩
      · cases h
    · obtain ⟨x', y, h1, h2, h3⟩ := mlF_mem n (x + 1) h
      exact ⟨x', y, h1, by omega, h3⟩
theorem LMv_mem {b : Nat → Int32} {d : Int32} {c : Nat} (h : c ∈ LMv b d) : c / 49 < 49 ∧ c % 49 < 49 ∧ c = 49 * (c / 49) + c % 49 ∧ sd (b (c / 49)) = d ∧ reason b (c / 49) (c % 49) = 0 := by
  obtain ⟨x, y, rfl, hx, hy, h1, h2⟩ := mlF_mem 49 0 h
  have e1 : (49 * x + y) / 49 = x := by omega
  have e2 : (49 * x + y) % 49 = y := by omega
  rw [e1, e2]
  exact ⟨by omega, hy, rfl, h1, h2⟩
theorem LMv_lt {b : Nat → Int32} {d : Int32} {c : Nat} (h : c ∈ LMv b d) : c < 2401 := by
  have := LMv_mem h
  omega
theorem AG_tlF {b c : Nat → Int32} (h : AG b c) {x : Nat} (hx : x < 49) : ∀ n y, y + n ≤ 49 → tlF b x n y = tlF c x n y
  | 0, _, _ => rfl
  | n + 1, y, hy => by
    unfold tlF
    rw [AG_tlF h hx n (y + 1) (by omega), AG_reason h hx (seg_lt x hx y (by omega))]
theorem AG_mlF {b c : Nat → Int32} (h : AG b c) (d : Int32) : ∀ n x, x + n ≤ 49 → mlF b d n x = mlF c d n x
  | 0, _, _ => rfl
  | n + 1, x, hx => by
    unfold mlF
    rw [AG_mlF h d n (x + 1) (by omega), AG_tlF h (by omega) 49 0 (by omega), h x (by omega)]
theorem AG_LMv {b c : Nat → Int32} (h : AG b c) (d : Int32) : LMv b d = LMv c d := AG_mlF h d 49 0 (by omega)
/-- how many of the listed moves win -/
def wnL (b : Nat → Int32) (g : Bool) (l : List Nat) : Nat := (l.filter (fun c => winB b g (c / 49) (c % 49))).length
def WN (b : Nat → Int32) (g : Bool) (d : Int32) : Nat := wnL b g (LMv b d)
theorem AG_WN {b c : Nat → Int32} (h : AG b c) (g : Bool) (d : Int32) : WN b g d = WN c g d := by
  unfold WN wnL
  rw [AG_LMv h d]
  congr 1
  refine List.filter_congr (fun x hx => ?_)
  have := LMv_mem hx
  exact AG_winB h this.1 this.2.1 g
theorem WN_le {b : Nat → Int32} {g : Bool} {d : Int32} (hd : isD d) : WN b g d ≤ 588 := Nat.le_trans (List.length_filter_le _ _) (by rw [LMv_len hd]; exact mcN_le b d)
theorem wnL_cons (b : Nat → Int32) (g : Bool) (c : Nat) (l : List Nat) : wnL b g (c :: l) = (if winB b g (c / 49) (c % 49) then 1 else 0) + wnL b g l := by
  unfold wnL
  rw [List.filter_cons]
  split
  · rw [List.length_cons]; omega
  · omega
theorem wnL_app (b : Nat → Int32) (g : Bool) (l m : List Nat) : wnL b g (l ++ m) = wnL b g l + wnL b g m := by
  unfold wnL
  rw [List.filter_append, List.length_append]
theorem f_codeAt {mf : Nat → Int32} {l : List Nat} {i : Nat} (hl : l.length ≤ 588) (hi : i < l.length) : fX3_codeAt (nI l.length) (ap mf 0 l) (nI i) = some (nI l[i]) := by
  unfold fX3_codeAt
  rw [if_neg (nlt0 (by omega)), if_pos (nI_lt hi (by omega)), inB_t (by omega) (by decide), grd_t, nI_clamp (by omega)]
  have := ap_at l mf 0 i hi
  rw [Nat.zero_add] at this
  rw [this]
theorem div49 : ∀ c, c < 2401 → nI c / 49 = nI (c / 49) := by decide +kernel
theorem mod49 : ∀ c, c < 2401 → nI c - nI c / 49 * 49 = nI (c % 49) := by decide +kernel
def cpb (f2 f : Nat → Int32) : Nat → Int32 := va_cpy f2 f (0 : Int32).toNatClampNeg (0 : Int32).toNatClampNeg (49 : Int32).toNatClampNeg
theorem AG_cpb (f2 f : Nat → Int32) : AG (cpb f2 f) f2 := by
  intro s hs
  unfold cpb va_cpy
  have h1 : (0 : Int32).toNatClampNeg = 0 := rfl
  have h2 : (49 : Int32).toNatClampNeg = 49 := rfl
  rw [h1, h2, if_pos ⟨Nat.zero_le _, by omega⟩]
  congr 1
  omega
theorem f_copyFrom (f : Nat → Int32) (k : Int32) (g : Bool) (f2 : Nat → Int32) : fX1_copyFrom f k (b01 g) f2 = some (cpb f2 f, k, b01 g) := by
  unfold fX1_copyFrom
  rw [is01_b01, grd_t]
  rfl
/-- a move made on a copy of the board -/
theorem f_carryC (bf : Nat → Int32) {f : Nat → Int32} (hb : PB f) (hu : UK f) {g : Bool} {x y : Nat} (h : MV f x y) : fX1_carryOut (enc (kingN f)) (b01 g) (cpb f bf) (nI x) (nI y) = some (nI (takN f g x y), mov (cpb f bf) g x y, enc (kingN (mov f g x y))) := by
  have ag := AG_cpb f bf
  obtain ⟨hx, hy, hxy, h0, h1⟩ := h
  have h2 : MV (cpb f bf) x y := ⟨hx, hy, hxy, by rw [ag x hx]; exact h0, by rw [ag y hy]; exact h1⟩
  have h3 : fX1_carryOut (enc (kingN (cpb f bf))) (b01 g) (cpb f bf) (nI x) (nI y) = some (nI (takN (cpb f bf) g x y), mov (cpb f bf) g x y, enc (kingN (mov (cpb f bf) g x y))) := f_carryOut (AG_PB (AG_symm ag) hb) (AG_UK (AG_symm ag) hu) h2
  rw [AG_kingN ag, AG_takN ag hx hy, AG_kingN (AG_mov ag hx hy g)] at h3
  exact h3
theorem f_takes (bf : Nat → Int32) {f : Nat → Int32} (hb : PB f) (hu : UK f) {g : Bool} {x y : Nat} (h : MV f x y) : fX0_takes bf (enc (kingN f)) (b01 g) f (nI x) (nI y) = some (nI (takN f g x y), mov (cpb f bf) g x y, enc (kingN (mov f g x y)), b01 g) := by
  unfold fX0_takes
  rw [f_copyFrom, Option.bind_some]
  simp only
  rw [f_carryC bf hb hu h, Option.bind_some]
theorem won_win {b c : Nat → Int32} {g : Bool} {x y : Nat} (h : MV b x y) (ag : AG c (mov b g x y)) : wonB c y (decide (kingN b ≠ none)) = winB b g x y := by
  unfold wonB winB
  rw [AG_kingN ag, AG_mcN ag, ag y h.2.1, mov_y h, Bool.or_assoc, Bool.or_assoc, ← Bool.or_assoc, Bool.or_comm (_ && _), Bool.or_assoc]
theorem had_eq {o : Option Nat} (ho : ∀ t, o = some t → t < 49) {β : Type} (k : Int32 → β) : (if enc o < 0 then k 0 else k 1) = k (b01 (decide (o ≠ none))) := by
  simp only [enc_lt0 ho]
  by_cases h : o = none
  · simp [h, b01]
  · simp [h, b01]
theorem f_isWinning (rf : Nat → Int32) {f : Nat → Int32} (hb : PB f) (hu : UK f) {g : Bool} {x y : Nat} (h : MV f x y) : fX0_isWinning rf (enc (kingN f)) (b01 g) f (nI x) (nI y) = some (b01 (winB f g x y), mov (cpb f rf) g x y, enc (kingN (mov f g x y)), b01 g) := by
  have agm := AG_mov (AG_cpb f rf) h.1 h.2.1 g
  unfold fX0_isWinning
  rw [f_copyFrom, Option.bind_some]
  simp only [jn_eq]
  rw [f_carryC rf hb hu h, Option.bind_some]
  simp only
  rw [had_eq king_lt (fun t_3 : Int32 => (fX1_isWonBy (enc (kingN (mov f g x y))) (mov (cpb f rf) g x y) (nI y) t_3).bind (fun (r_5 : Int32) => grd (is01 r_5) (some (r_5, mov (cpb f rf) g x y, enc (kingN (mov f g x y)), b01 g))))]
  have hw := f_isWonBy (f := mov (cpb f rf) g x y) h.2.1 (decide (kingN f ≠ none))
  rw [AG_kingN agm, won_win h agm] at hw
  rw [hw, Option.bind_some, is01_b01, grd_t]
theorem f_countWinning (rk rs : Int32) (rf rmf : Nat → Int32) {f : Nat → Int32} (hb : PB f) (hu : UK f) (g : Bool) {d : Int32} (hd : isD d) : ∃ rf' rk' rs', fX0_countWinning rk rs rf rmf (enc (kingN f)) (b01 g) f d = some (nI (WN f g d), rf', rk', rs', ap rmf 0 (LMv f d), nI (LMv f d).length) := by
  have hlen := LMv_len (b := f) hd
  have hle := mcN_le f d
  have key : ∀ (n i : Nat), i + n = (LMv f d).length → ∀ (acc : Nat) (rf : Nat → Int32) (rk rs : Int32), ∃ rf' rk' rs', Runs (fun (zf : Int32 × Int32 × (Nat → Int32) × Int32 × Int32 × (Nat → Int32) × Int32 → Option (Int32 × (Nat → Int32) × Int32 × Int32 × (Nat → Int32) × Int32)) z => fX0_countWinning_L14_B (enc (kingN f)) (b01 g) f (fun v3_2 v4_3 wrf_4 wrk_5 wrs_6 wrmf_7 wrn_8 => zf (v3_2, v4_3, wrf_4, wrk_5, wrs_6, wrmf_7, wrn_8)) z.1 z.2.1 z.2.2.1 z.2.2.2.1 z.2.2.2.2.1 z.2.2.2.2.2.1 z.2.2.2.2.2.2) (n + 1) (nI acc, nI i, rf, rk, rs, ap rmf 0 (LMv f d), nI (LMv f d).length) (some (nI (acc + wnL f g ((LMv f d).drop i)), rf', rk', rs', ap rmf 0 (LMv f d), nI (LMv f d).length)) := by
    intro n
    induction n with
    | zero =>
      intro i hi acc rf rk rs
      refine ⟨rf, rk, rs, Runs.stop (fun self => ?_)⟩
      show fX0_countWinning_L14_B _ _ _ _ (nI acc) (nI i) rf rk rs (ap rmf 0 (LMv f d)) (nI (LMv f d).length) = _
      unfold fX0_countWinning_L14_B
      rw [if_pos ((nI_leI (by omega) (by omega)).mpr (by omega)), List.drop_eq_nil_of_le (by omega)]
      rfl
    | succ n ih =>
      intro i hi acc rf rk rs
      have hi2 : i < (LMv f d).length := by omega
      have hmem := LMv_mem (List.getElem_mem hi2)
      have hlt := LMv_lt (List.getElem_mem hi2)
      have hmv := reason_MV hmem.1 hmem.2.1 hmem.2.2.2.2
      obtain ⟨rf', rk', rs', hr⟩ := ih (i + 1) (by omega) (acc + (if winB f g ((LMv f d)[i] / 49) ((LMv f d)[i] % 49) then 1 else 0)) (mov (cpb f rf) g ((LMv f d)[i] / 49) ((LMv f d)[i] % 49)) (enc (kingN (mov f g ((LMv f d)[i] / 49) ((LMv f d)[i] % 49)))) (b01 g)
      refine ⟨rf', rk', rs', ?_⟩
      rw [List.drop_eq_getElem_cons hi2, wnL_cons, ← Nat.add_assoc]
      refine Runs.step (fun self => ?_) hr
      show fX0_countWinning_L14_B _ _ _ _ (nI acc) (nI i) rf rk rs (ap rmf 0 (LMv f d)) (nI (LMv f d).length) = _
      unfold fX0_countWinning_L14_B
      rw [if_neg (fun e => by have := (nI_leI (by omega) (by omega)).mp e; omega), f_codeAt (by omega) hi2, Option.bind_some, mod49 _ hlt, div49 _ hlt, f_isWinning rf hb hu hmv, Option.bind_some]
      simp only [ite_b01]
      split
      · rw [nI_1, nI_1]
      · rw [nI_1]
        rfl
  unfold fX0_countWinning
  rw [f_listMoves rmf hd, Option.bind_some]
  obtain ⟨rf', rk', rs', hr⟩ := key (LMv f d).length 0 (by omega) 0 rf rk rs
  refine ⟨rf', rk', rs', ?_⟩
  have := hr 600 (by omega)
  rw [Nat.zero_add, List.drop_zero] at this
  exact this

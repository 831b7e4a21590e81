/-- a trial's own numbers: the squares, the king, standing, mover, its moves, wins, draws, taken, all moves -/
abbrev TC : Type := (Nat → Int32) × Int32 × Int32 × Int32 × Int32 × Int32 × Int32 × Int32 × Int32 × Int32 × Int32
set_option maxRecDepth 100000 in
set_option maxHeartbeats 4000000 in
/-- the address of the latest position is not in what a move makes -/
theorem makeMove_la (la la2 : Nat) (sd mv gm w1 w2 dg t1 t2 am kk sg : Int32) (f : Nat → Int32) (cx : PC) (ct : List PC) (a1 a2 : Int32) : fX7_makeMove la sd mv gm w1 w2 dg t1 t2 am kk sg f cx ct a1 a2 = fX7_makeMove la2 sd mv gm w1 w2 dg t1 t2 am kk sg f cx ct a1 a2 := by
  have h : ∀ (f : Nat → Int32) (q : Int32) {β : Type} (k : Int64 × Int64 × Int32 × (Option Nat) × Int32 × Int32 → Option β) (k2 : Int64 × Int64 × Int32 × (Option Nat) × Int32 × Int32 → Option β), (∀ x1 x2 x3 x5 x6, k (x1, x2, x3, some la, x5, x6) = k2 (x1, x2, x3, some la2, x5, x6)) → (fX5_initS la f cx ct q).bind k = (fX5_initS la2 f cx ct q).bind k2 := by
    intro f q β k k2 hk
    unfold fX5_initS
    cases fX5_pack f 0 25 with
    | none => simp only [Option.bind_none]
    | some x1 =>
      cases fX5_pack f 25 49 with
      | none => simp only [Option.bind_some, Option.bind_none]
      | some x2 =>
        simp only [Option.bind_some]
        unfold grd
        cases decide (¬ (1000 ≤ (lenI ct.length))) with
        | false => simp only [Option.bind_none]
        | true =>
          simp only
          cases fX5_timesIn (cx :: ct) x1 x2 q with
          | none => simp only [Option.bind_none]
          | some x3 => simp only [Option.bind_some]; exact hk _ _ _ _ _
  unfold fX7_makeMove
  cases fX1_carryOut kk sg f a1 a2 with
  | none => simp only [Option.bind_none]
  | some r1 =>
    simp only [Option.bind_some]
    unfold jn
    by_cases hm : mv = 0
    · simp only [if_pos hm]
      exact h _ _ _ _ (fun x1 x2 x3 x5 x6 => by simp only [true_and])
    · simp only [if_neg hm]
      exact h _ _ _ _ (fun x1 x2 x3 x5 x6 => by simp only [true_and])
/-- the moves of the text on the trial, its chain of positions with it -/
def fX8_playOnTrialS_B (sgT tl : Int32) (tf : Nat → Int32) (self : Int32 → Int32 → TC → List PC → Option (Int32 × TC × List PC)) (tk pt : Int32) (u : TC) (ch : List PC) : Option (Int32 × TC × List PC) :=
  (fX4_parts tl).bind fun n => if n ≤ pt then some (tk, u, ch) else (fX4_squareAt tl tf (5 * pt)).bind fun a => (fX4_squareAt tl tf ((5 * pt) + 2)).bind fun b => (fX7_allowsMove u.2.2.1 u.2.2.2.1 u.1 a b).bind fun q => if q = 0 then some ((-1), u, ch) else match ch with
    | [] => none
    | c :: t => (fX7_makeMove 0 u.2.2.1 u.2.2.2.1 u.2.2.2.2.1 u.2.2.2.2.2.1 u.2.2.2.2.2.2.1 u.2.2.2.2.2.2.2.1 u.2.2.2.2.2.2.2.2.1 u.2.2.2.2.2.2.2.2.2.1 u.2.2.2.2.2.2.2.2.2.2 u.2.1 sgT u.1 c t a b).bind fun r => self (tk + r.1) (pt + 1) (r.2.1, r.2.2.1, r.2.2.2.1, r.2.2.2.2.1, r.2.2.2.2.2.1, r.2.2.2.2.2.2.1, r.2.2.2.2.2.2.2.1, r.2.2.2.2.2.2.2.2.1, r.2.2.2.2.2.2.2.2.2.1, r.2.2.2.2.2.2.2.2.2.2.1, r.2.2.2.2.2.2.2.2.2.2.2.1) (r.2.2.2.2.2.2.2.2.2.2.2.2 :: c :: t)
def fX8_playOnTrialS_L (sgT tl : Int32) (tf : Nat → Int32) (n : Nat) (tk pt : Int32) (u : TC) (ch : List PC) : Option (Int32 × TC × List PC) :=
  lp (fun zf z => fX8_playOnTrialS_B sgT tl tf (fun tk pt u ch => zf (tk, pt, u, ch)) z.1 z.2.1 z.2.2.1 z.2.2.2) n (tk, pt, u, ch)
/-- what the text's moves bring: taken (-1: not possible), the trial's numbers, the new positions -/
def fX8_playOnTrialS (sdT mvT gmT w1T w2T dgT t1T t2T amT kkT sgT : Int32) (fT : Nat → Int32) (tl : Int32) (tf : Nat → Int32) (cx : PC) (ct : List PC) : Option (Int32 × TC × List PC) :=
  (fX8_playOnTrialS_L sgT tl tf 14 0 0 (fT, kkT, sdT, mvT, gmT, w1T, w2T, dgT, t1T, t2T, amT) (cx :: ct)).bind fun r => some (r.1, r.2.1, r.2.2.take (r.2.2.length - (ct.length + 1)))
abbrev trW (g : GE) (hg tr tb tca mt tc st sa sk sv ml ad kw la : Nat) (sgT tl : Int32) (tf : Nat → Int32) (u : TC) : va_W := [(hg, .inr (8, [.ref st, .ref tr, .ref sa, .ref sk, .ref sv, .ref mt, .ref ml, .ref ad, .ref kw])), (mt, .inr (4, [.ref tc, .int tl])), (tc, .inl (g.2.1, 60, .inl tf)), (tr, .inr (7, [.ref tb, .int u.2.2.1, .int u.2.2.2.1, .int u.2.2.2.2.1, .ref la, .int u.2.2.2.2.2.1, .int u.2.2.2.2.2.2.1, .int u.2.2.2.2.2.2.2.1, .int u.2.2.2.2.2.2.2.2.1, .int u.2.2.2.2.2.2.2.2.2.1, .int u.2.2.2.2.2.2.2.2.2.2])), (tb, .inr (1, [.ref tca, .int u.2.1, .int sgT])), (tca, .inl (g.2.1, 49, .inl u.1))]
theorem plC_cons {la m a : Nat} {as : List Nat} {x : PC} {nl : List PC} : plC la m (a :: as) (x :: nl) = (a, pcell (some (as.headD la)) (nl.length + m) x) :: plC la m as nl := rfl
set_option maxRecDepth 100000 in
set_option maxHeartbeats 4000000 in
theorem mX8_playOnTrialS (l : Launch) (hl0 : l.stackTraces = false) (g : GE) (hg tr tb tca la mt tc st sa sk sv ml ad kw zc zp : Nat) (sdT mvT gmT w1T w2T dgT t1T t2T amT kkT sgT : Int32) (fT : Nat → Int32) (tl : Int32) (tf : Nat → Int32) (cx : PC) (ct : List PC) (r : Int32 × TC × List PC) (hyp : fX8_playOnTrialS sdT mvT gmT w1T w2T dgT t1T t2T amT kkT sgT fT tl tf cx ct = some r) : XM2 l yX8_playOnTrial cX8_playOnTrial 5 (some .int) 6 140 14 84 g (trW g hg tr tb tca mt tc st sa sk sv ml ad kw la sgT tl tf (fT, kkT, sdT, mvT, gmT, w1T, w2T, dgT, t1T, t2T, amT)) (OZ g zc zp (cx :: ct) (some la)) [.ref hg] 0 (some (.int r.1)) r.2.2.length (fun as _ => trW g hg tr tb tca mt tc st sa sk sv ml ad kw (as.headD la) sgT tl tf r.2.1 ++ plC la (ct.length + 1) as r.2.2) (fun as _ => trW g hg tr tb tca mt tc st sa sk sv ml ad kw (as.headD la) sgT tl tf r.2.1 ++ plC la (ct.length + 1) as r.2.2) := by
  refine metX2_intro (by decide) rfl ?_
  intro p e R s m args below meth c Q A hRf hRl hRc hRs hQ hx hb hml hr hlocks hex hown hts hin hE hSR hA hO H locs hP hD hS ls hl
  have hown : s.vm.findClass "HallGuards" = some m.cls := hown
  have hl : lv_has ls 5 [(0, .ref hg)] := hl
  unfold fX8_playOnTrialS at hyp
  obtain ⟨r9, hr9, hyp⟩ := opt_e hyp
  have hyp := some_e hyp
  subst hQ
  refine lv_iconst (v := 0) hx hb dX8_playOnTrial_0 (by decide) ?_
  refine lv_istore_n (lv' := [(1, .int 0), (0, .ref hg)]) hx hb dX8_playOnTrial_1 rfl hl (by decide) rfl (fun ls hl => ?_)
  refine lv_iconst (v := 0) hx hb dX8_playOnTrial_2 (by decide) ?_
  refine lv_istore_n (lv' := [(2, .int 0), (1, .int 0), (0, .ref hg)]) hx hb dX8_playOnTrial_3 rfl hl (by decide) rfl (fun ls hl => ?_)
  -- the loop: with the positions made so far
  suffices K : ∀ (n : Nat) (tk pt : Int32) (u : TC) (nl : List PC) (as : List Nat) (k : Nat), n + k = 14 → as.length = nl.length → nl.length = k → (∀ a ∈ as, s.heap.size ≤ a) → fX8_playOnTrialS_L sgT tl tf n tk pt u (nl ++ cx :: ct) = some r9 → ∀ (H : Heap) (locs : List Loc), va_P g.1 vwCl (trW g hg tr tb tca mt tc st sa sk sv ml ad kw (as.headD la) sgT tl tf u ++ plC la (ct.length + 1) as nl) H → va_D A (trW g hg tr tb tca mt tc st sa sk sv ml ad kw (as.headD la) sgT tl tf u ++ plC la (ct.length + 1) as nl) → va_S A s.heap H locs → ∀ ls : Array Slot, lv_has ls 5 [(0, .ref hg), (1, .int tk), (2, .int pt)] → W p l e R s m args below meth c H locs k (6 * k) (vx_MQ below (qX2 g 0 (some (.int r.1)) r.2.2.length (fun as _ => trW g hg tr tb tca mt tc st sa sk sv ml ad kw (as.headD la) sgT tl tf r.2.1 ++ plC la (ct.length + 1) as r.2.2) A) (xX2 g 0 r.2.2.length (fun as _ => trW g hg tr tb tca mt tc st sa sk sv ml ad kw (as.headD la) sgT tl tf r.2.1 ++ plC la (ct.length + 1) as r.2.2) A) args s 14 84 A) (F0 m 4 ls []) by
    have hP0 : va_P g.1 vwCl (trW g hg tr tb tca mt tc st sa sk sv ml ad kw (([] : List Nat).headD la) sgT tl tf (fT, kkT, sdT, mvT, gmT, w1T, w2T, dgT, t1T, t2T, amT) ++ plC la (ct.length + 1) [] []) H := hP
    have hD0 : va_D A (trW g hg tr tb tca mt tc st sa sk sv ml ad kw (([] : List Nat).headD la) sgT tl tf (fT, kkT, sdT, mvT, gmT, w1T, w2T, dgT, t1T, t2T, amT) ++ plC la (ct.length + 1) [] []) := hD
    exact K 14 0 0 (fT, kkT, sdT, mvT, gmT, w1T, w2T, dgT, t1T, t2T, amT) [] [] 0 rfl rfl rfl (fun a h => nomatch h) hr9 H locs hP0 hD0 hS ls (lv_sub hl [2, 1, 0] rfl)
  intro n
  induction n with
  | zero => intro tk pt u nl as k h1 h2 h3 h4 h5; cases h5
  | succ n ih =>
    intro tk pt u nl as k hk has hnk hfr hyp2 H locs hP hD hS ls hl
    -- an end with the loop's numbers is the method's end
    have hend : ∀ (v : Int32), some (v, u, nl ++ cx :: ct) = some r9 → r = (v, u, nl) := by
      intro v h
      have h9 := some_e h
      rw [← hyp, ← h9]
      have e1 : (nl ++ cx :: ct).length - (ct.length + 1) = nl.length := by simp
      show (v, u, (nl ++ cx :: ct).take ((nl ++ cx :: ct).length - (ct.length + 1))) = (v, u, nl)
      rw [e1, List.take_left]
    have hyp2 : fX8_playOnTrialS_B sgT tl tf (fun tk pt u ch => fX8_playOnTrialS_L sgT tl tf n tk pt u ch) tk pt u (nl ++ cx :: ct) = some r9 := hyp2
    unfold fX8_playOnTrialS_B at hyp2
    have hcR : k ≤ R.cells ∧ 6 * k ≤ R.slots := by omega
    refine lv_iload_n hx hb dX8_playOnTrial_4 rfl (lv_at hl 2 rfl) ?_
    refine lv_aload_n hx hb dX8_playOnTrial_5 rfl (lv_at hl 0 rfl) ?_
    refine gf_X8_37 hx hb hts hown hE hP 0 rfl rfl dX8_playOnTrial_6 ?_
    obtain ⟨r_4, hr_4, hyp2⟩ := opt_e hyp2
    refine pV (As := []) (rest := [.int pt]) ⟨hx, hb, hml, hown, hts⟩ hE (mX4_parts l g mt tc tl r_4 hr_4) cf_X4_parts im_X4_parts se_X4_parts ml_X8_181 ⟨Nat.le_trans (Nat.le_of_ble_eq_true rfl) hRf, Nat.le_trans (Nat.le_of_ble_eq_true rfl) hRl⟩ (hP.sub (ws' := [(mt, .inr (4, [.ref tc, .int tl]))]) [1] rfl) (ci := 4) (q0 := 0) rfl rfl rfl rfl hl.1 rfl (Nat.le_of_ble_eq_true rfl) dX8_playOnTrial_9 hcR ?_
    refine lv_icmp_ge (tgt := 74) hx hb dX8_playOnTrial_12 (by decide) (fun h_5 => ?_) (fun h_5 => ?_)
    · replace hyp2 := ite_t h_5 hyp2
      have h8 := hend tk hyp2
      subst h8
      refine lv_iload_n hx hb dX8_playOnTrial_74 rfl (lv_at hl 1 rfl) ?_
      exact xrI2 as none hx hb hr hlocks has hfr hP hD hS (by omega) (by omega) dX8_playOnTrial_75
    replace hyp2 := ite_f h_5 hyp2
    refine lv_aload_n hx hb dX8_playOnTrial_15 rfl (lv_at hl 0 rfl) ?_
    refine gf_X8_37 hx hb hts hown hE hP 0 rfl rfl dX8_playOnTrial_16 ?_
    refine lv_iconst (v := 5) hx hb dX8_playOnTrial_19 (by decide) ?_
    refine lv_iload_n hx hb dX8_playOnTrial_20 rfl (lv_at hl 2 rfl) ?_
    refine lv_imul hx hb dX8_playOnTrial_21 ?_
    obtain ⟨r_6, hr_6, hyp2⟩ := opt_e hyp2
    refine pV (As := [.int (5 * pt)]) (rest := []) ⟨hx, hb, hml, hown, hts⟩ hE (mX4_squareAt l g mt tc tl tf (5 * pt) r_6 hr_6) cf_X4_squareAt im_X4_squareAt se_X4_squareAt ml_X8_184 ⟨Nat.le_trans (Nat.le_of_ble_eq_true rfl) hRf, Nat.le_trans (Nat.le_of_ble_eq_true rfl) hRl⟩ (hP.sub (ws' := [(mt, .inr (4, [.ref tc, .int tl])), (tc, .inl (g.2.1, 60, .inl tf))]) [1, 2] rfl) (ci := 4) (q0 := 0) rfl rfl rfl rfl hl.1 rfl (Nat.le_of_ble_eq_true rfl) dX8_playOnTrial_22 hcR ?_
    refine lv_istore_n (lv' := [(3, .int r_6), (0, .ref hg), (1, .int tk), (2, .int pt)]) hx hb dX8_playOnTrial_25 rfl hl (by decide) rfl (fun ls hl => ?_)
    refine lv_aload_n hx hb dX8_playOnTrial_26 rfl (lv_at hl 1 rfl) ?_
    refine gf_X8_37 hx hb hts hown hE hP 0 rfl rfl dX8_playOnTrial_27 ?_
    refine lv_iconst (v := 5) hx hb dX8_playOnTrial_30 (by decide) ?_
    refine lv_iload_n hx hb dX8_playOnTrial_31 rfl (lv_at hl 3 rfl) ?_
    refine lv_imul hx hb dX8_playOnTrial_32 ?_
    refine lv_iconst (v := 2) hx hb dX8_playOnTrial_33 (by decide) ?_
    refine lv_iadd hx hb dX8_playOnTrial_34 ?_
    obtain ⟨r_7, hr_7, hyp2⟩ := opt_e hyp2
    refine pV (As := [.int ((5 * pt) + 2)]) (rest := []) ⟨hx, hb, hml, hown, hts⟩ hE (mX4_squareAt l g mt tc tl tf ((5 * pt) + 2) r_7 hr_7) cf_X4_squareAt im_X4_squareAt se_X4_squareAt ml_X8_184 ⟨Nat.le_trans (Nat.le_of_ble_eq_true rfl) hRf, Nat.le_trans (Nat.le_of_ble_eq_true rfl) hRl⟩ (hP.sub (ws' := [(mt, .inr (4, [.ref tc, .int tl])), (tc, .inl (g.2.1, 60, .inl tf))]) [1, 2] rfl) (ci := 4) (q0 := 0) rfl rfl rfl rfl hl.1 rfl (Nat.le_of_ble_eq_true rfl) dX8_playOnTrial_35 hcR ?_
    refine lv_istore (lv' := [(4, .int r_7), (3, .int r_6), (0, .ref hg), (1, .int tk), (2, .int pt)]) hx hb dX8_playOnTrial_38 hl (by decide) rfl (fun ls hl => ?_)
    refine lv_aload_n hx hb dX8_playOnTrial_40 rfl (lv_at hl 2 rfl) ?_
    refine gf_X8_16 hx hb hts hown hE hP 0 rfl rfl dX8_playOnTrial_41 ?_
    refine lv_iload_n hx hb dX8_playOnTrial_44 rfl (lv_at hl 1 rfl) ?_
    refine lv_iload hx hb dX8_playOnTrial_45 (lv_at hl 0 rfl) ?_
    obtain ⟨r_8, hr_8, hyp2⟩ := opt_e hyp2
    refine pV (As := [.int r_6, .int r_7]) (rest := []) ⟨hx, hb, hml, hown, hts⟩ hE (mX7_allowsMove l g tr tb tca u.2.2.1 u.2.2.2.1 u.2.2.2.2.1 (some (as.headD la)) u.2.2.2.2.2.1 u.2.2.2.2.2.2.1 u.2.2.2.2.2.2.2.1 u.2.2.2.2.2.2.2.2.1 u.2.2.2.2.2.2.2.2.2.1 u.2.2.2.2.2.2.2.2.2.2 u.2.1 sgT u.1 r_6 r_7 r_8 hr_8) cf_X7_allowsMove im_X7_allowsMove se_X7_allowsMove ml_X8_139 ⟨Nat.le_trans (Nat.le_of_ble_eq_true rfl) hRf, Nat.le_trans (Nat.le_of_ble_eq_true rfl) hRl⟩ (hP.sub [3, 4, 5] rfl) (ci := 7) (q0 := 0) rfl rfl rfl rfl hl.1 rfl (Nat.le_of_ble_eq_true rfl) dX8_playOnTrial_47 hcR ?_
    refine lv_if_ne (tgt := 55) hx hb dX8_playOnTrial_50 (by decide) (fun h_9 => ?_) (fun h_9 => ?_)
    · replace hyp2 := ite_f h_9 hyp2
      refine lv_iload_n hx hb dX8_playOnTrial_55 rfl (lv_at hl 3 rfl) ?_
      refine lv_aload_n hx hb dX8_playOnTrial_56 rfl (lv_at hl 2 rfl) ?_
      refine gf_X8_16 hx hb hts hown hE hP 0 rfl rfl dX8_playOnTrial_57 ?_
      refine lv_iload_n hx hb dX8_playOnTrial_60 rfl (lv_at hl 1 rfl) ?_
      refine lv_iload hx hb dX8_playOnTrial_61 (lv_at hl 0 rfl) ?_
      -- the chain's head, from the positions made or the old chain
      obtain ⟨c0, t0, hct⟩ : ∃ c0 t0, nl ++ cx :: ct = c0 :: t0 := by
        cases nl with
        | nil => exact ⟨_, _, rfl⟩
        | cons x nl => exact ⟨_, _, rfl⟩
      have htl : t0.length + 1 = nl.length + (ct.length + 1) := by
        have := congrArg List.length hct
        simp at this
        omega
      rw [hct] at hyp2
      simp only at hyp2
      obtain ⟨r_9, hr_9, hyp2⟩ := opt_e hyp2
      rw [makeMove_la 0 (as.headD la)] at hr_9
      have hC3 : [3, 4, 5].map (fun i => (trW g hg tr tb tca mt tc st sa sk sv ml ad kw (as.headD la) sgT tl tf u)[i]?) = [(tr, .inr (7, [.ref tb, .int u.2.2.1, .int u.2.2.2.1, .int u.2.2.2.2.1, .ref (as.headD la), .int u.2.2.2.2.2.1, .int u.2.2.2.2.2.2.1, .int u.2.2.2.2.2.2.2.1, .int u.2.2.2.2.2.2.2.2.1, .int u.2.2.2.2.2.2.2.2.2.1, .int u.2.2.2.2.2.2.2.2.2.2])), (tb, .inr (1, [.ref tca, .int u.2.1, .int sgT])), (tca, .inl (g.2.1, 49, .inl u.1))].map some := rfl
      have hF := freeQ hD hS hA [3, 4, 5] (by decide) hC3
      have hO9 : ∀ U : State, s.vm.Alike U.vm → OZ g zc zp (c0 :: t0) (some (as.headD la)) (va_A [(tr, .inr (7, [.ref tb, .int u.2.2.1, .int u.2.2.2.1, .int u.2.2.2.2.1, .ref (as.headD la), .int u.2.2.2.2.2.1, .int u.2.2.2.2.2.2.1, .int u.2.2.2.2.2.2.2.1, .int u.2.2.2.2.2.2.2.2.1, .int u.2.2.2.2.2.2.2.2.2.1, .int u.2.2.2.2.2.2.2.2.2.2])), (tb, .inr (1, [.ref tca, .int u.2.1, .int sgT])), (tca, .inl (g.2.1, 49, .inl u.1))] H.size) U H := by
        intro U hv
        have h1 := (OZ_ok g zc zp (cx :: ct) (some la)).to hO hS hv hF
        refine ⟨h1.1, h1.2.1, ?_⟩
        rw [← hct]
        refine OC_plC h1.2.2 nl as has (fun q hq => ?_)
        obtain ⟨j, hj⟩ := List.getElem?_of_mem hq
        have hj2 : (trW g hg tr tb tca mt tc st sa sk sv ml ad kw (as.headD la) sgT tl tf u ++ plC la (ct.length + 1) as nl)[6 + j]? = some q := by
          rw [List.getElem?_append_right (by show 6 ≤ 6 + j; omega)]
          rw [← hj]
          congr 1
          show 6 + j - 6 = j
          omega
        refine ⟨fun k2 q2 hk2 => ?_, ?_⟩
        · have hz : k2 < 1 := (List.getElem?_eq_some_iff.mp hk2).1
          rw [show k2 = 0 by omega] at hk2
          cases hk2
          exact hP _ _ hj2
        · rintro (⟨i, e9, hi⟩ | hz)
          · have hi3 : i < 3 := (List.getElem?_eq_some_iff.mp hi).1
            have hi4 : (trW g hg tr tb tca mt tc st sa sk sv ml ad kw (as.headD la) sgT tl tf u ++ plC la (ct.length + 1) as nl)[3 + i]? = some (q.1, e9) := by
              rw [List.getElem?_append_left (by show 3 + i < 6; omega)]
              rw [← hi]
              rcases (by omega : i = 0 ∨ i = 1 ∨ i = 2) with rfl | rfl | rfl <;> rfl
            have := hD.1 _ _ _ _ hi4 hj2 rfl
            omega
          · exact absurd ((hP _ _ hj2).lt) (Nat.not_lt.mpr hz)
      have hz9 := hS.1
      refine xVQ (As := [.int r_6, .int r_7]) (rest := [.int tk]) ⟨hx, hb, hml, hown, hts⟩ hE hSR (mX7_makeMove l hl0 g tr tb tca (as.headD la) zc zp u.2.2.1 u.2.2.2.1 u.2.2.2.2.1 u.2.2.2.2.2.1 u.2.2.2.2.2.2.1 u.2.2.2.2.2.2.2.1 u.2.2.2.2.2.2.2.2.1 u.2.2.2.2.2.2.2.2.2.1 u.2.2.2.2.2.2.2.2.2.2 u.2.1 sgT u.1 c0 t0 r_6 r_7 r_9 hr_9) (OZ_ok g zc zp _ _) hO9 cf_X7_makeMove im_X7_makeMove se_X7_makeMove ml_X8_144 ⟨Nat.le_trans (Nat.le_of_ble_eq_true rfl) hRf, Nat.le_trans (Nat.le_of_ble_eq_true rfl) hRl⟩ hP hD hS hA [3, 4, 5] [0, 1, 2] hC3 (wr := [(hg, .inr (8, [.ref st, .ref tr, .ref sa, .ref sk, .ref sv, .ref mt, .ref ml, .ref ad, .ref kw])), (mt, .inr (4, [.ref tc, .int tl])), (tc, .inl (g.2.1, 60, .inl tf))]) rfl ⟨by decide, by decide⟩ (by decide) (ci := 7) (q0 := 0) rfl rfl rfl rfl hl.1 rfl (Nat.le_of_ble_eq_true rfl) dX8_playOnTrial_63 (show k + 1 ≤ R.cells ∧ 6 * k + 6 ≤ R.slots by omega) (fun _ na H locs hna hP hD hS => ?_) (fun hk0 na9 q9 ce9 H locs hna9 hP hD hS hce hcv hcl => absurd rfl hk0)
      replace hna : s.heap.size ≤ na := Nat.le_trans hz9 hna
      refine lv_iadd hx hb dX8_playOnTrial_66 ?_
      refine lv_istore_n (lv' := [(1, .int (tk + r_9.1)), (4, .int r_7), (3, .int r_6), (0, .ref hg), (2, .int pt)]) hx hb dX8_playOnTrial_67 rfl hl (by decide) rfl (fun ls hl => ?_)
      refine lv_iinc (v := pt + 1) (lv' := [(2, .int (pt + 1)), (1, .int (tk + r_9.1)), (4, .int r_7), (3, .int r_6), (0, .ref hg)]) hx hb dX8_playOnTrial_68 hl (k := 4) rfl rfl (by decide) rfl (fun ls hl => ?_)
      refine lv_goto (tgt := 4) hx hb dX8_playOnTrial_71 (by decide) ?_
      rw [htl] at hP hD
      have e6 : 6 * k + 6 = 6 * (k + 1) := by omega
      rw [e6]
      rw [← hct] at hyp2
      exact ih (tk + r_9.1) (pt + 1) (r_9.2.1, r_9.2.2.1, r_9.2.2.2.1, r_9.2.2.2.2.1, r_9.2.2.2.2.2.1, r_9.2.2.2.2.2.2.1, r_9.2.2.2.2.2.2.2.1, r_9.2.2.2.2.2.2.2.2.1, r_9.2.2.2.2.2.2.2.2.2.1, r_9.2.2.2.2.2.2.2.2.2.2.1, r_9.2.2.2.2.2.2.2.2.2.2.2.1) (r_9.2.2.2.2.2.2.2.2.2.2.2.2 :: nl) (na :: as) (k + 1) (by omega) (by show as.length + 1 = nl.length + 1; omega) (by show nl.length + 1 = k + 1; omega) (fun a ha => by
        rcases List.mem_cons.mp ha with rfl | ha
        · exact hna
        · exact hfr a ha) hyp2 H locs hP hD hS ls (lv_sub hl [4, 1, 0] rfl)
    · replace hyp2 := ite_t h_9 hyp2
      have h8 := hend (-1) hyp2
      subst h8
      refine lv_iconst (v := (-1)) hx hb dX8_playOnTrial_53 (by decide) ?_
      exact xrI2 as none hx hb hr hlocks has hfr hP hD hS (by omega) (by omega) dX8_playOnTrial_54

/-! ===== the law's game: both objects answer alike, turn by turn ===== -/
theorem alike_ok (st : PS) : fL_alike st st = some 1 := by
  unfold fL_alike
  rw [if_pos (show lg_cmp (v_digest st) (v_digest st) = 0 by rw [lg_eq]), if_pos rfl]
def pu : Nat → List AS → AS → List AS
  | 0, l, _ => l
  | j + 1, l, A => pushL (pu j l A) A
theorem six (l : List AS) (hl : l.length ≤ 6) (A : AS) : pu 6 l A = [A, A, A, A, A, A] := by
  have step : ∀ j, j ≤ 6 → ∃ l', pu j l A = l' ++ List.replicate j A ∧ (pu j l A).length ≤ 6 := by
    intro j
    induction j with
    | zero => exact fun _ => ⟨l, (List.append_nil l).symm, hl⟩
    | succ j ih =>
      intro hj
      obtain ⟨l', e, hlen⟩ := ih (by omega)
      have hlen2 : (pushL (pu j l A) A).length ≤ 6 := pushL_len hlen A
      obtain ⟨l2, e2, _, _⟩ := push_app l' (List.replicate j A) (by rw [List.length_replicate]; omega) A
      refine ⟨l2, ?_, hlen2⟩
      show pushL (pu j l A) A = _
      rw [e, e2, List.append_assoc, List.replicate_succ']
  obtain ⟨l', e, hlen⟩ := step 6 (Nat.le_refl 6)
  rw [e, List.length_append, List.length_replicate] at hlen
  have h0 : l' = [] := List.eq_nil_of_length_eq_zero (by omega)
  rw [e, h0]
  rfl
theorem back_loop {A : AS} {l l' : List AS} (hl : l.length ≤ 6) (hl' : l'.length ≤ 6) {S : (Nat → Option AS) × Nat × (Nat → Int32)} (hS : S.1 (iN 1) = some A) (J : Int32 → PS → PS → Option Int32) : fL_law_L185 J 7 1 0 (A, l, S) (A, l', S) = J 1 (A, [A, A, A, A, A, A], S) (A, [A, A, A, A, A, A], S) := by
  unfold fL_law_L185
  have h0 : ((1 : Int32), (0 : Int32), ((A, l, S) : PS), ((A, l', S) : PS)) = (fun j => ((1 : Int32), nI j, ((A, pu j l A, S) : PS), ((A, pu j l' A, S) : PS))) 0 := rfl
  rw [h0]
  refine lp_for (fun j => ((1 : Int32), nI j, ((A, pu j l A, S) : PS), ((A, pu j l' A, S) : PS))) 6 (fun j hj self => ?_) (fun self => ?_) (by decide)
  · show fL_law_L185_B J (fun v3_60 v7_61 zp_63 zq_64 => self (v3_60, v7_61, zp_63, zq_64)) 1 (nI j) (A, pu j l A, S) (A, pu j l' A, S) = self (1, nI (j + 1), (A, pushL (pu j l A) A, S), (A, pushL (pu j l' A) A, S))
    have n6 : ((6 : Int32) ≤ nI j) = False := eq_false (nle hj (by decide))
    have i10 : ((1 : Int32) = 0) = False := eq_false (by decide)
    have g1 := gb_is (B := A) (l := pu j l A) hS
    have g2 := gb_is (B := A) (l := pu j l' A) hS
    have l00 : (lg_cmp 0 0 = 0) = True := eq_true (by decide)
    have hj1 := nI_1 j
    unfold fL_law_L185_B
    simp only [↓jn_p, ↓bnd_p, ↓reduceIte, n6, i10, g1, g2, l00, hj1]
  · show fL_law_L185_B J (fun v3_60 v7_61 zp_63 zq_64 => self (v3_60, v7_61, zp_63, zq_64)) 1 (nI 6) (A, pu 6 l A, S) (A, pu 6 l' A, S) = _
    unfold fL_law_L185_B
    rw [if_pos (show (6 : Int32) ≤ nI 6 by decide), six l hl A, six l' hl' A]
theorem tw_pos : ∀ i, i < 41 → ¬ (2 * nI i) < 0 ∧ ¬ ((2 * nI i) + 1) < 0 := by decide +kernel
set_option maxRecDepth 100000 in
set_option maxHeartbeats 8000000 in
theorem law_step {xs : Nat → Int32} {L : Nat} {i : Nat} (hi : i < 40) {st : PS} (h : INV (12 * i) st) : ∃ z, INV (12 * (i + 1)) z ∧ ∀ self : Int32 → Int32 → PS → PS → Option Int32, fL_law_L49_B xs L self 1 (nI i) st st = self 1 (nI (i + 1)) z z := by
  rw [show 12 * (i + 1) = 12 * i + 12 by omega]
  obtain ⟨r, er, hr⟩ := i_act (by omega) h (o_draw xs L (2 * nI i)) (o_draw xs L ((2 * nI i) + 1))
  obtain ⟨w1, w2⟩ := tw_pos i (by omega)
  have g1 : decide (¬ (2 * nI i) < 0) = true := decide_eq_true w1
  have g2 : decide (¬ ((2 * nI i) + 1) < 0) = true := decide_eq_true w2
  have hd : ¬ o_draw xs L ((2 * nI i) + 1) < 0 := and_pos _
  have er0 := errors_ok (by omega) hr
  have ke := kept_ok hr (by omega) hd
  obtain ⟨l', m1, n1, fo⟩ := follows_ok hr (by omega) hd
  have hk : o_keep r.2 1 = (0, (r.2.1, r.2.2.1, updS r.2.2.2.1 (iN 1) r.2.1, r.2.2.2.2)) := by
    unfold o_keep
    rw [if_pos (show inC 1 0 1 = true by decide)]
  have hik := i_keep hr 1
  rw [hk] at hik
  have hS : (updS r.2.2.2.1 (iN 1) r.2.1, r.2.2.2.2).1 (iN 1) = some r.2.1 := by
    show updS r.2.2.2.1 (iN 1) r.2.1 (iN 1) = some r.2.1
    unfold updS
    rw [if_pos rfl]
  have bl := fun J => back_loop (A := r.2.1) (l := r.2.2.1) (l' := l') hr.2.2.2.1 n1 hS J
  have i10 : ((1 : Int32) = 0) = False := eq_false (by decide)
  have n40 : ((40 : Int32) ≤ nI i) = False := eq_false (nle hi (by decide))
  have rr : (lg_cmp r.1 r.1 = 0) = True := by
    rw [lg_eq]
    exact eq_true rfl
  have l00 : (lg_cmp 0 0 = 0) = True := eq_true (by decide)
  have hi1 := nI_1 i
  have key : ∀ z : PS, (∀ self : Int32 → Int32 → PS → PS → Option Int32, fL_law_L49_B xs L self 1 (nI i) st st = if 0 < nI i - nI i / 10 * 10 then self 1 (nI (i + 1)) z z else (fL_alike z z).bind (fun r_52 => if r_52 = 0 then self 0 (nI (i + 1)) z z else self 1 (nI (i + 1)) z z)) → ∀ self : Int32 → Int32 → PS → PS → Option Int32, fL_law_L49_B xs L self 1 (nI i) st st = self 1 (nI (i + 1)) z z := fun z hz self => by
    rw [hz self]
    split
    · rfl
    · rw [alike_ok, Option.bind_some, if_neg (show ¬ (1 : Int32) = 0 by decide)]
  by_cases q13 : nI i - nI i / 13 * 13 = 12
  · have q13' : (nI i - nI i / 13 * 13 = 12) = True := eq_true q13
    refine ⟨(r.2.1, [r.2.1, r.2.1, r.2.1, r.2.1, r.2.1, r.2.1], updS r.2.2.2.1 (iN 1) r.2.1, r.2.2.2.2), ⟨hr.1, fun b hb => ?_, hik.2.2.1, Nat.le_of_ble_eq_true rfl, hr.2.2.2.2⟩, key _ (fun self => ?_)⟩
    · have hb : b = r.2.1 := by simpa using hb
      rw [hb]
      exact hr.1
    · unfold fL_law_L49_B
      by_cases q8 : nI i - nI i / 8 * 8 = 3
      · have q8' : (nI i - nI i / 8 * 8 = 3) = True := eq_true q8
        simp only [↓jn_p, ↓bnd_p, ↓reduceIte, ↓bind_p, grd_t, g1, g2, er, er0, ke, fo, hk, bl, i10, n40, rr, l00, hi1, q13', q8']
      · have q8' : (nI i - nI i / 8 * 8 = 3) = False := eq_false q8
        simp only [↓jn_p, ↓bnd_p, ↓reduceIte, ↓bind_p, grd_t, g1, g2, er, er0, ke, fo, hk, bl, i10, n40, rr, l00, hi1, q13', q8']
  · have q13' : (nI i - nI i / 13 * 13 = 12) = False := eq_false q13
    refine ⟨r.2, hr, key _ (fun self => ?_)⟩
    unfold fL_law_L49_B
    by_cases q8 : nI i - nI i / 8 * 8 = 3
    · have q8' : (nI i - nI i / 8 * 8 = 3) = True := eq_true q8
      simp only [↓jn_p, ↓bnd_p, ↓reduceIte, ↓bind_p, grd_t, g1, g2, er, er0, ke, fo, hk, bl, i10, n40, rr, l00, hi1, q13', q8']
    · have q8' : (nI i - nI i / 8 * 8 = 3) = False := eq_false q8
      simp only [↓jn_p, ↓bnd_p, ↓reduceIte, ↓bind_p, grd_t, g1, g2, er, er0, ke, fo, hk, bl, i10, n40, rr, l00, hi1, q13', q8']
theorem law_end {xs : Nat → Int32} {L : Nat} (st : PS) (self : Int32 → Int32 → PS → PS → Option Int32) : fL_law_L49_B xs L self 1 (nI 40) st st = some 1 := by
  unfold fL_law_L49_B
  rw [jn_eq, if_pos (show (40 : Int32) ≤ nI 40 by decide), if_neg (show ¬ (1 : Int32) = 0 by decide), alike_ok, Option.bind_some, if_neg (show ¬ (1 : Int32) = 0 by decide)]
theorem law_run {xs : Nat → Int32} {L : Nat} : ∀ (e i : Nat) (st : PS), i + e = 40 → INV (12 * i) st → ∀ n, e < n → lp (fun zf z => fL_law_L49_B xs L (fun v3_8 v4_9 zp_11 zq_12 => zf (v3_8, v4_9, zp_11, zq_12)) z.1 z.2.1 z.2.2.1 z.2.2.2) n (1, nI i, st, st) = some 1 := by
  intro e
  induction e with
  | zero =>
    intro i st hi h n hn
    obtain ⟨n, rfl⟩ : ∃ k, n = k + 1 := ⟨n - 1, by omega⟩
    obtain rfl : i = 40 := by omega
    rw [lp_S2]
    exact law_end st _
  | succ e ih =>
    intro i st hi h n hn
    obtain ⟨n, rfl⟩ : ∃ k, n = k + 1 := ⟨n - 1, by omega⟩
    obtain ⟨z, hz, e1⟩ := law_step (xs := xs) (L := L) (by omega) h
    rw [lp_S2]
    exact (e1 _).trans (ih (i + 1) z (by omega) hz n (by omega))
set_option maxRecDepth 100000 in
set_option maxHeartbeats 8000000 in
theorem law_ok (xs : Nat → Int32) (L : Nat) {st : PS} (h : INV 0 st) : fL_law xs L st st = some 1 := by
  have i10 : ((1 : Int32) = 0) = False := eq_false (by decide)
  have e1 := errors_ok (by decide) h
  have e2 := kept_ok (a1 := 7) h (by decide) (by decide)
  have e3 : fL_law_L49 xs L 41 1 0 st st = some 1 := law_run 40 0 st (by decide) h 41 (by decide)
  unfold fL_law
  simp only [↓jn_p, ↓reduceIte, alike_ok, ↓bind_p, i10, e1, e2, e3]
/-! where the game begins -/
def gst0 : PS := ((fPI, 24, 0, 1, 0, 0, [(fPI, 0)], 0, 0, 0, 0, 0, 0), [], fun _ => none, 0, fun _ => 0)
theorem st0_IA : IA gst0.1 := by
  refine ⟨set_PB, set_UK, set_KO, ?_, ⟨false, rfl⟩, Or.inl rfl, ⟨fun e => absurd (show (1 : Int32) = 0 from e) (by decide), fun e => absurd (show [(fPI, (0 : Int32))] = [] from e) (List.cons_ne_nil _ _)⟩, fun q hq => ?_, fun _ => ⟨?_, fPI_KIN⟩⟩
  · show (24 : Int32) = enc (kingN fPI)
    rw [set_king]
    rfl
  · have hq : q ∈ [(fPI, (0 : Int32))] := hq
    rw [List.mem_singleton.mp hq]
    exact ⟨set_PB, Or.inl rfl⟩
  · exact ⟨Nat.zero_le 1, trivial⟩
theorem st0_INV : INV 0 gst0 := by
  refine ⟨⟨st0_IA, Nat.le_refl _, ⟨1, by decide, rfl⟩, fun p t e => ?_, fun e => absurd (show (1 : Int32) = 4 from e) (by decide), ⟨0, 0, rfl, rfl, Nat.le_refl _, Nat.le_refl _⟩, ⟨0, rfl, Nat.le_refl _⟩, ⟨0, rfl, Nat.le_refl _⟩, ⟨0, rfl, Nat.le_refl _⟩, ⟨0, rfl, Nat.le_refl _⟩⟩, fun a ha => absurd (show a ∈ ([] : List AS) from ha) List.not_mem_nil, fun j _ a e => absurd (show (none : Option AS) = some a from e) nofun, Nat.zero_le _, Nat.zero_le _⟩
  have e : [(fPI, (0 : Int32))] = p :: t := e
  cases e
  exact Nat.zero_le 2

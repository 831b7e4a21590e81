/-! ===== the reference reads the text ===== -/
def okF (tf : Nat → Int32) (n : Nat) : Prop := ∀ i, i < n → fitB (tf i) (i % 5) = true
theorem erF_ok {tf : Nat → Int32} : ∀ (m i p : Nat), i ≤ p → p ≤ i + m → (∀ j, i ≤ j → j < p → fitB (tf j) (j % 5) = true) → (p < i + m → fitB (tf p) (p % 5) = false) → erF tf m i = p
  | 0, i, p, h1, h2, _, _ => by
    have : i = p := by omega
    exact this
  | m + 1, i, p, h1, h2, h3, h4 => by
    unfold erF
    by_cases e : i = p
    · subst e
      rw [h4 (by omega), if_neg (by decide)]
    · rw [h3 i (Nat.le_refl _) (by omega), if_pos rfl]
      exact erF_ok m (i + 1) p (by omega) (by omega) (fun j a b => h3 j (by omega) b) (fun q => h4 (by omega))
theorem erN_ok {tf : Nat → Int32} {len p : Nat} (h : okF tf p) (hp : p ≤ len) (h4 : p < len → fitB (tf p) (p % 5) = false) : erN tf len = p := erF_ok len 0 p (Nat.zero_le _) (by omega) (fun j _ hj => h j hj) (fun q => h4 (by omega))
/-- the reading has stopped at p -/
def bad (tf : Nat → Int32) (len p : Nat) : Prop := p ≤ len ∧ erN tf len = p ∧ tellB tf len = false
theorem bad_of {tf : Nat → Int32} {len p : Nat} (h : okF tf p) (hp : p ≤ len) (h4 : p < len → fitB (tf p) (p % 5) = false) (h5 : p = len → len % 5 ≠ 4) : bad tf len p := by
  have e := erN_ok h hp h4
  refine ⟨hp, e, ?_⟩
  unfold tellB
  rw [e]
  by_cases q : p = len
  · rw [decide_eq_false (h5 q)]
    rfl
  · rw [decide_eq_false q, Bool.and_false]
theorem tell_of {tf : Nat → Int32} {len : Nat} (h : okF tf len) (h4 : len % 5 = 4) : tellB tf len = true := by
  unfold tellB
  rw [erN_ok h (Nat.le_refl _) (fun q => absurd q (by omega)), decide_eq_true h4, decide_eq_true rfl]
  rfl
theorem tell_ok {tf : Nat → Int32} {len : Nat} (h : tellB tf len = true) : len % 5 = 4 ∧ okF tf len := by
  unfold tellB at h
  rw [Bool.and_eq_true, decide_eq_true_eq, decide_eq_true_eq] at h
  refine ⟨h.1, ?_⟩
  have key : ∀ (m i : Nat), erF tf m i = i + m → ∀ j, i ≤ j → j < i + m → fitB (tf j) (j % 5) = true := by
    intro m
    induction m with
    | zero => intro i _ j a b; omega
    | succ m ih =>
      intro i hi j a b
      unfold erF at hi
      by_cases e : fitB (tf i) (i % 5) = true
      · rw [if_pos e] at hi
        by_cases e2 : j = i
        · rw [e2]; exact e
        · exact ih (i + 1) (by omega) j (by omega) (by omega)
      · rw [if_neg e] at hi
        omega
  exact fun i hi => key len 0 (by rw [Nat.zero_add]; exact h.2) i (Nat.zero_le _) (by omega)
theorem okF_S {tf : Nat → Int32} {p : Nat} (h : okF tf p) (h2 : fitB (tf p) (p % 5) = true) : okF tf (p + 1) := by
  intro i hi
  by_cases e : i = p
  · rw [e]; exact h2
  · exact h i (by omega)
def tkS (tf : Nat → Int32) (len pos : Nat) : Bool := decide (pos < len) && fitB (tf pos) (pos % 5)
theorem inC_m1 {lo hi : Int32} (h : (-1 : Int32) < lo) : inC (-1) lo hi = false := by
  unfold inC
  rw [decide_eq_true h]
  rfl
theorem tk_in {tf : Nat → Int32} {len pos : Nat} {lo hi : Int32} (hlo : (-1 : Int32) < lo) (hf : inC (tf pos) lo hi = fitB (tf pos) (pos % 5)) : inC (hereN tf len pos) lo hi = tkS tf len pos := by
  unfold hereN tkS
  by_cases e : len ≤ pos
  · rw [if_pos e, inC_m1 hlo, decide_eq_false (by omega)]
    rfl
  · rw [if_neg e, decide_eq_true (by omega), hf]
    rfl
theorem fit_a (c : Int32) {m : Nat} (h : m = 0 ∨ m = 2) : inC c 97 103 = fitB c m := by
  unfold fitB
  rw [if_pos h]
  rfl
theorem fit_1 (c : Int32) {m : Nat} (h : m = 1 ∨ m = 3) : inC c 49 55 = fitB c m := by
  unfold fitB
  rw [if_neg (by omega), if_pos h]
  rfl
theorem fit_s (c : Int32) : inC c 59 59 = fitB c 4 := by
  unfold fitB inC
  rw [if_neg (by omega), if_neg (by omega)]
  by_cases e : c = 59
  · subst e
    rfl
  · rw [decide_eq_false e]
    by_cases e1 : c < 59
    · rw [decide_eq_true e1]
      rfl
    · have e2 : (59 : Int32) < c := by
        rw [Int32.lt_iff_toInt_lt] at e1 ⊢
        have : c.toInt ≠ (59 : Int32).toInt := fun q => e (Int32.toInt_inj.mp q)
        omega
      rw [decide_eq_true e2, Bool.not_true, Bool.and_false]
theorem f_tk {tf : Nat → Int32} {len pos : Nat} (hl : len ≤ 60) (hp : pos ≤ len) (gd : Bool) {lo hi : Int32} (hlo : (-1 : Int32) < lo) (hf : inC (tf pos) lo hi = fitB (tf pos) (pos % 5)) : fX9_take (nI len) (nI pos) (b01 gd) tf lo hi = some (if gd && tkS tf len pos then tf pos - lo else 0, b01 (gd && tkS tf len pos), nI (pos + (if gd && tkS tf len pos then 1 else 0))) := by
  rw [f_take tf hl hp, tk_in hlo hf]
  congr 2
  by_cases e : (gd && tkS tf len pos) = true
  · rw [if_pos e, if_pos e]
    rw [Bool.and_eq_true] at e
    have := e.2
    unfold tkS at this
    rw [Bool.and_eq_true, decide_eq_true_eq] at this
    unfold hereN
    rw [if_neg (by omega)]
  · rw [if_neg e, if_neg e]
theorem tk_yes {tf : Nat → Int32} {len pos : Nat} (hl : len ≤ 60) {lo hi : Int32} (hlo : (-1 : Int32) < lo) (hf : inC (tf pos) lo hi = fitB (tf pos) (pos % 5)) (h1 : pos < len) (h2 : fitB (tf pos) (pos % 5) = true) : fX9_take (nI len) (nI pos) 1 tf lo hi = some (tf pos - lo, 1, nI (pos + 1)) := by
  have e : tkS tf len pos = true := by
    unfold tkS
    rw [decide_eq_true h1, h2]
    rfl
  have := f_tk hl (by omega) true hlo hf
  rw [e] at this
  exact this
theorem tk_no {tf : Nat → Int32} {len pos : Nat} (hl : len ≤ 60) {lo hi : Int32} (hlo : (-1 : Int32) < lo) (hf : inC (tf pos) lo hi = fitB (tf pos) (pos % 5)) (hp : pos ≤ len) (h2 : ¬ (pos < len ∧ fitB (tf pos) (pos % 5) = true)) : fX9_take (nI len) (nI pos) 1 tf lo hi = some (0, 0, nI pos) := by
  have e : tkS tf len pos = false := by
    cases q : tkS tf len pos with
    | false => rfl
    | true =>
      unfold tkS at q
      rw [Bool.and_eq_true, decide_eq_true_eq] at q
      exact absurd q h2
  have := f_tk hl hp true hlo hf
  rw [e] at this
  exact this
theorem tk_off {tf : Nat → Int32} {len pos : Nat} (hl : len ≤ 60) {lo hi : Int32} (hp : pos ≤ len) : fX9_take (nI len) (nI pos) 0 tf lo hi = some (0, 0, nI pos) := f_take tf hl hp false lo hi
/-- four signs -/
theorem four {tf : Nat → Int32} {len pos : Nat} (hl : len ≤ 60) (hp : pos ≤ len) (hok : okF tf pos) (h5 : pos % 5 = 0) : ∃ r1 r2 r3 r4 : Int32 × Int32 × Int32, fX9_take (nI len) (nI pos) 1 tf 97 103 = some r1 ∧ fX9_take (nI len) r1.2.2 r1.2.1 tf 49 55 = some r2 ∧ fX9_take (nI len) r2.2.2 r2.2.1 tf 97 103 = some r3 ∧ fX9_take (nI len) r3.2.2 r3.2.1 tf 49 55 = some r4 ∧ ((r4.2.1 = 1 ∧ r4.2.2 = nI (pos + 4) ∧ pos + 4 ≤ len ∧ okF tf (pos + 4) ∧ r1.1 = tf pos - 97 ∧ r2.1 = tf (pos + 1) - 49 ∧ r3.1 = tf (pos + 2) - 97 ∧ r4.1 = tf (pos + 3) - 49) ∨ (r4.2.1 = 0 ∧ ∃ q, r4.2.2 = nI q ∧ bad tf len q)) := by
  have m0 : inC (tf pos) 97 103 = fitB (tf pos) (pos % 5) := fit_a _ (by omega)
  have m1 : inC (tf (pos + 1)) 49 55 = fitB (tf (pos + 1)) ((pos + 1) % 5) := fit_1 _ (by omega)
  have m2 : inC (tf (pos + 2)) 97 103 = fitB (tf (pos + 2)) ((pos + 2) % 5) := fit_a _ (by omega)
  have m3 : inC (tf (pos + 3)) 49 55 = fitB (tf (pos + 3)) ((pos + 3) % 5) := fit_1 _ (by omega)
  have no : ∀ q, okF tf q → q ≤ len → q % 5 < 4 → ¬ (q < len ∧ fitB (tf q) (q % 5) = true) → bad tf len q := fun q h1 h2 h3 h4 => bad_of h1 h2 (fun a => by
    cases e : fitB (tf q) (q % 5) with
    | false => rfl
    | true => exact absurd ⟨a, e⟩ h4) (fun a => by omega)
  by_cases e0 : pos < len ∧ fitB (tf pos) (pos % 5) = true
  · have k1 := okF_S hok e0.2
    have t0 := tk_yes hl (by decide : (-1 : Int32) < 97) m0 e0.1 e0.2
    by_cases e1 : pos + 1 < len ∧ fitB (tf (pos + 1)) ((pos + 1) % 5) = true
    · have k2 := okF_S k1 e1.2
      have t1 := tk_yes hl (by decide : (-1 : Int32) < 49) m1 e1.1 e1.2
      by_cases e2 : pos + 2 < len ∧ fitB (tf (pos + 2)) ((pos + 2) % 5) = true
      · have k3 := okF_S k2 e2.2
        have t2 := tk_yes hl (by decide : (-1 : Int32) < 97) m2 e2.1 e2.2
        by_cases e3 : pos + 3 < len ∧ fitB (tf (pos + 3)) ((pos + 3) % 5) = true
        · have t3 := tk_yes hl (by decide : (-1 : Int32) < 49) m3 e3.1 e3.2
          exact ⟨_, _, _, _, t0, t1, t2, t3, Or.inl ⟨rfl, rfl, by omega, okF_S k3 e3.2, rfl, rfl, rfl, rfl⟩⟩
        · have t3 := tk_no hl (by decide : (-1 : Int32) < 49) m3 (by omega) e3
          exact ⟨_, _, _, _, t0, t1, t2, t3, Or.inr ⟨rfl, _, rfl, no _ k3 (by omega) (by omega) e3⟩⟩
      · have t2 := tk_no hl (by decide : (-1 : Int32) < 97) m2 (by omega) e2
        exact ⟨_, _, _, _, t0, t1, t2, tk_off hl (by omega), Or.inr ⟨rfl, _, rfl, no _ k2 (by omega) (by omega) e2⟩⟩
    · have t1 := tk_no hl (by decide : (-1 : Int32) < 49) m1 (by omega) e1
      exact ⟨_, _, _, _, t0, t1, tk_off hl (by omega), tk_off hl (by omega), Or.inr ⟨rfl, _, rfl, no _ k1 (by omega) (by omega) e1⟩⟩
  · have t0 := tk_no hl (by decide : (-1 : Int32) < 97) m0 hp e0
    exact ⟨_, _, _, _, t0, tk_off hl hp, tk_off hl hp, tk_off hl hp, Or.inr ⟨rfl, _, rfl, no _ hok hp (by omega) e0⟩⟩
/-- a part, read without a move -/
theorem rp_0 {tf : Nat → Int32} {len pos : Nat} (hl : len ≤ 60) (hp : pos ≤ len) (hok : okF tf pos) (h5 : pos % 5 = 0) (nst nn sm : Int32) (now book kept isk : Nat → Int32) (F L : Nat → Int64) (B M tri : Nat → Int32) : ∃ gd q, fX9_readPart nst nn (nI len) (nI pos) 1 0 sm now book kept isk F L B M tri tf = some (now, book, kept, F, L, B, M, nn, tri, gd, nI q, 0, sm) ∧ ((gd = 1 ∧ q = pos + 4 ∧ q ≤ len ∧ okF tf q) ∨ (gd = 0 ∧ bad tf len q)) := by
  obtain ⟨r1, r2, r3, r4, t1, t2, t3, t4, h⟩ := four hl hp hok h5
  unfold fX9_readPart
  rw [t1, Option.bind_some, t2, Option.bind_some, t3, Option.bind_some, t4, Option.bind_some]
  rcases h with ⟨a1, a2, a3, a4, _⟩ | ⟨a1, q, a2, a3⟩
  · refine ⟨1, pos + 4, ?_, Or.inl ⟨rfl, rfl, a3, a4⟩⟩
    rw [a1, a2, if_neg (by decide), if_pos rfl]
  · refine ⟨0, q, ?_, Or.inr ⟨rfl, a3⟩⟩
    rw [a1, a2, if_pos rfl]
theorem ra_S (nst len : Int32) (isk tf : Nat → Int32) (N : Nat) (now book kept : Nat → Int32) (F L : Nat → Int64) (B M : Nat → Int32) (nn : Int32) (tri : Nat → Int32) (gd pos ps sm : Int32) : fX9_readAll_L35 nst len isk tf (N + 1) now book kept F L B M nn tri gd pos ps sm = fX9_readAll_L35_B nst len isk tf (fX9_readAll_L35 nst len isk tf N) now book kept F L B M nn tri gd pos ps sm := rfl
theorem ra_bad {tf : Nat → Int32} {len q : Nat} (nst nn ps sm : Int32) (now book kept isk : Nat → Int32) (F L : Nat → Int64) (B M tri : Nat → Int32) {N : Nat} (hN : 1 ≤ N) : fX9_readAll_L35 nst (nI len) isk tf N now book kept F L B M nn tri 0 (nI q) ps sm = some (now, book, kept, F, L, B, M, nn, tri, 0, nI q, ps, sm) := by
  obtain ⟨K, rfl⟩ : ∃ K, N = K + 1 := ⟨N - 1, by omega⟩
  rw [ra_S]
  unfold fX9_readAll_L35_B
  rw [if_pos rfl]
/-- the rest, read without a move -/
theorem ra_0 {tf : Nat → Int32} {len : Nat} (hl : len ≤ 60) (nst nn sm : Int32) (now book kept isk : Nat → Int32) (F L : Nat → Int64) (B M tri : Nat → Int32) : ∀ (d pos : Nat), len ≤ pos + 5 * d → pos ≤ len → okF tf pos → pos % 5 = 4 → ∃ gd q, (∀ N, d + 2 ≤ N → fX9_readAll_L35 nst (nI len) isk tf N now book kept F L B M nn tri 1 (nI pos) 0 sm = some (now, book, kept, F, L, B, M, nn, tri, gd, nI q, 0, sm)) ∧ ((gd = 1 ∧ tellB tf len = true) ∨ (gd = 0 ∧ bad tf len q))
  | d, pos, hd, hp, hok, h5 => by
    by_cases e : pos = len
    · subst e
      refine ⟨1, pos, fun N hN => ?_, Or.inl ⟨rfl, tell_of hok h5⟩⟩
      obtain ⟨K, rfl⟩ : ∃ K, N = K + 1 := ⟨N - 1, by omega⟩
      rw [ra_S]
      unfold fX9_readAll_L35_B
      rw [if_neg (by decide), if_pos (nI_le (Nat.le_refl _) (by omega))]
    · have hs : inC (tf pos) 59 59 = fitB (tf pos) (pos % 5) := by rw [h5]; exact fit_s _
      by_cases e0 : fitB (tf pos) (pos % 5) = true
      · have t0 := tk_yes hl (by decide : (-1 : Int32) < 59) hs (by omega) e0
        obtain ⟨gd, q, h1, h2⟩ := rp_0 hl (by omega : pos + 1 ≤ len) (okF_S hok e0) (by omega) nst nn sm now book kept isk F L B M tri
        match d, hd with
        | 0, hd => omega
        | d + 1, hd =>
        rcases h2 with ⟨rfl, rfl, a1, a2⟩ | ⟨rfl, a1⟩
        · obtain ⟨gd2, q2, b1, b2⟩ := ra_0 hl nst nn sm now book kept isk F L B M tri d (pos + 1 + 4) (by omega) a1 a2 (by omega)
          refine ⟨gd2, q2, fun N hN => ?_, b2⟩
          obtain ⟨K, rfl⟩ : ∃ K, N = K + 1 := ⟨N - 1, by omega⟩
          rw [ra_S]
          unfold fX9_readAll_L35_B
          rw [if_neg (by decide), if_neg (nI_ge (by omega) (by omega)), t0, Option.bind_some]
          show (if (1 : Int32) = 0 then _ else (fX9_readPart nst nn (nI len) (nI (pos + 1)) 1 0 sm now book kept isk F L B M tri tf).bind _) = _
          rw [if_neg (by decide), h1, Option.bind_some]
          exact b1 K (by omega)
        · refine ⟨0, q, fun N hN => ?_, Or.inr ⟨rfl, a1⟩⟩
          obtain ⟨K, rfl⟩ : ∃ K, N = K + 1 := ⟨N - 1, by omega⟩
          rw [ra_S]
          unfold fX9_readAll_L35_B
          rw [if_neg (by decide), if_neg (nI_ge (by omega) (by omega)), t0, Option.bind_some]
          show (if (1 : Int32) = 0 then _ else (fX9_readPart nst nn (nI len) (nI (pos + 1)) 1 0 sm now book kept isk F L B M tri tf).bind _) = _
          rw [if_neg (by decide), h1, Option.bind_some]
          exact ra_bad nst nn 0 sm now book kept isk F L B M tri (by omega)
      · have t0 := tk_no hl (by decide : (-1 : Int32) < 59) hs hp (fun a => e0 a.2)
        refine ⟨0, pos, fun N hN => ?_, Or.inr ⟨rfl, bad_of hok hp (fun _ => by
          cases q : fitB (tf pos) (pos % 5) with
          | false => rfl
          | true => exact absurd q e0) (fun a => absurd a e)⟩⟩
        obtain ⟨K, rfl⟩ : ∃ K, N = K + 1 := ⟨N - 1, by omega⟩
        rw [ra_S]
        unfold fX9_readAll_L35_B
        rw [if_neg (by decide), if_neg (nI_ge (by omega) (by omega)), t0, Option.bind_some]
        show (if (0 : Int32) = 0 then fX9_readAll_L35 nst (nI len) isk tf K now book kept F L B M nn tri 0 (nI pos) 0 sm else _) = _
        rw [if_pos rfl]
        exact ra_bad nst nn 0 sm now book kept isk F L B M tri (by omega)
/-- the text, read without a move: good, or the first place that does not fit -/
theorem f_readAll0 {tf : Nat → Int32} {len : Nat} (hl : len ≤ 60) (nst nn : Int32) (now book kept isk : Nat → Int32) (F L : Nat → Int64) (B M tri : Nat → Int32) : ∃ gd q, fX9_readAll nst nn (nI len) now book kept isk F L B M tri tf 0 = some (now, book, kept, F, L, B, M, nn, cpy now tri, gd, nI q, 0, 0) ∧ ((gd = 1 ∧ tellB tf len = true) ∨ (gd = 0 ∧ bad tf len q)) := by
  obtain ⟨gd, q, h1, h2⟩ := rp_0 (tf := tf) (pos := 0) hl (Nat.zero_le _) (fun i hi => absurd hi (by omega)) rfl nst nn 0 now book kept isk F L B M (cpy now tri)
  unfold fX9_readAll
  rw [show is01 0 = true from rfl, grd_t, f_copy', Option.bind_some]
  rw [show fX9_readPart nst nn (nI len) 0 1 0 0 now book kept isk F L B M (cpy now tri) tf = fX9_readPart nst nn (nI len) (nI 0) 1 0 0 now book kept isk F L B M (cpy now tri) tf from rfl, h1, Option.bind_some]
  rcases h2 with ⟨rfl, rfl, a1, a2⟩ | ⟨rfl, a1⟩
  · obtain ⟨gd2, q2, b1, b2⟩ := ra_0 hl nst nn 0 now book kept isk F L B M (cpy now tri) 12 (0 + 4) (by omega) a1 a2 rfl
    exact ⟨gd2, q2, b1 64 (by omega), b2⟩
  · exact ⟨0, q, ra_bad nst nn 0 0 now book kept isk F L B M (cpy now tri) (by omega), Or.inr ⟨rfl, a1⟩⟩

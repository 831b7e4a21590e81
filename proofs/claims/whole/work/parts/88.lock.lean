/-! ===== the whole text, on both sides ===== -/
theorem pt_S (sg tl : Int32) (tf : Nat → Int32) (N : Nat) (tk pt : Int32) (u : TC) (ch : List PC) : fX8_playOnTrialS_L sg tl tf (N + 1) tk pt u ch = fX8_playOnTrialS_B sg tl tf (fX8_playOnTrialS_L sg tl tf N) tk pt u ch := rfl
/-- behind the moves: all were possible, or one was not -/
def FIN (sg : Int32) (h hB : List HP) (u : TC) (tri : Nat → Int32) (F L : Nat → Int64) (B : Nat → Int32) (nn : Nat) (Cb Ct : List Nat) (ok : Bool) (tkr : Int32) (sm c0 d : Nat) : Prop := (∃ nl, h = nl ++ hB ∧ nl.length ≤ d) ∧ ((ok = true ∧ tkr = nI sm ∧ sm ≤ 48 ∧ TE sg u h tri F L B nn Ct ∧ (∀ i ∈ Cb, i ∈ Ct) ∧ Ct.length ≤ c0 + d) ∨ (ok = false ∧ tkr = -1))
theorem lock {K : List HP → Option Nat → Prop} {M n so : Nat} {sx : Nat → SV} {hb : Nat → List HP} {qx : Nat → SV} {hq : Nat → List HP} {isk : Nat → Int32} {v : SV} {hn : List HP} {sg : Int32} (hn6 : n ≤ 6) (hM : M < 2000) {tf tf2 : Nat → Int32} {len : Nat} (hl : len ≤ 60) (htf : ∀ i, i < len → tf i = tf2 i) (hok : okF tf len) (h5 : len % 5 = 4) : ∀ (d k : Nat), 1 ≤ k → 5 * (k + d) = len + 1 → ∀ (now book kept : Nat → Int32) (F L : Nat → Int64) (B Mv : Nat → Int32) (nn : Nat) (Cb Ct : List Nat) (u : TC) (h : List HP) (tri : Nat → Int32) (sm : Nat), EN K M n so sx hb qx hq isk v hn now book kept F L B nn Cb → TE sg u h tri F L B nn Ct → (∀ i ∈ Cb, i ∈ Ct) → Ct.length + d < 2900 → h.length + d < 999 → sm ≤ 4 * k → ∃ now' book' kept' F' L' B' M' nn' tri' q ps sm' tkr u' h' Cb' Ct' ok, (∀ N, d + 2 ≤ N → fX9_readAll_L35 (nI n) (nI len) isk tf2 N now book kept F L B Mv (nI nn) tri 1 (nI (5 * k - 1)) 1 (nI sm) = some (now', book', kept', F', L', B', M', nI nn', tri', 1, nI q, ps, nI sm')) ∧ (ps = b01 ok) ∧ (∀ N, d + 1 ≤ N → fX8_playOnTrialS_L sg (nI len) tf N (nI sm) (nI k) u (chP h) = some (tkr, u', chP h')) ∧ EN K M n so sx hb qx hq isk v hn now' book' kept' F' L' B' nn' Cb' ∧ Cb'.length ≤ Cb.length ∧ FIN sg h' h u' tri' F' L' B' nn' Cb' Ct' ok tkr sm' Ct.length d
  | 0, k, hk, hkd, now, book, kept, F, L, B, Mv, nn, Cb, Ct, u, h, tri, sm, hE, hT, hsub, hCt, hh, hsm => by
    refine ⟨now, book, kept, F, L, B, Mv, nn, tri, 5 * k - 1, 1, sm, nI sm, u, h, Cb, Ct, true, fun N hN => ?_, rfl, fun N hN => ?_, hE, Nat.le_refl _, ⟨[], rfl, Nat.le_refl _⟩, Or.inl ⟨rfl, rfl, by omega, hT, hsub, by omega⟩⟩
    · obtain ⟨J, rfl⟩ : ∃ J, N = J + 1 := ⟨N - 1, by omega⟩
      rw [ra_S]
      unfold fX9_readAll_L35_B
      rw [if_neg (by decide), if_pos (nI_le (by omega) (by omega))]
    · obtain ⟨J, rfl⟩ : ∃ J, N = J + 1 := ⟨N - 1, by omega⟩
      rw [pt_S]
      unfold fX8_playOnTrialS_B fX4_parts
      rw [nI_1, show nI (len + 1) / 5 = nI ((len + 1) / 5) by
        have : ∀ m, m < 62 → nI m / 5 = nI (m / 5) := by decide +kernel
        exact this _ (by omega), Option.bind_some, if_pos (nI_le (by omega) (by omega))]
  | d + 1, k, hk, hkd, now, book, kept, F, L, B, Mv, nn, Cb, Ct, u, h, tri, sm, hE, hT, hsub, hCt, hh, hsm => by
    have hok2 : okF tf2 len := fun i hi => by rw [← htf i hi]; exact hok i hi
    have ht2 : tellB tf2 len = true := tell_of hok2 h5
    have hs : inC (tf2 (5 * k - 1)) 59 59 = fitB (tf2 (5 * k - 1)) ((5 * k - 1) % 5) := by
      rw [show (5 * k - 1) % 5 = 4 by omega]
      exact fit_s _
    have t0 := tk_yes hl (by decide : (-1 : Int32) < 59) hs (by omega) (hok2 _ (by omega))
    rw [show 5 * k - 1 + 1 = 5 * k by omega] at t0
    have hstep : ∀ (J : Nat), fX9_readAll_L35 (nI n) (nI len) isk tf2 (J + 1) now book kept F L B Mv (nI nn) tri 1 (nI (5 * k - 1)) 1 (nI sm) = (fX9_readPart (nI n) (nI nn) (nI len) (nI (5 * k)) 1 1 (nI sm) now book kept isk F L B Mv tri tf2).bind (fun r_21 => fX9_readAll_L35 (nI n) (nI len) isk tf2 J r_21.1 r_21.2.1 r_21.2.2.1 r_21.2.2.2.1 r_21.2.2.2.2.1 r_21.2.2.2.2.2.1 r_21.2.2.2.2.2.2.1 r_21.2.2.2.2.2.2.2.1 r_21.2.2.2.2.2.2.2.2.1 r_21.2.2.2.2.2.2.2.2.2.1 r_21.2.2.2.2.2.2.2.2.2.2.1 r_21.2.2.2.2.2.2.2.2.2.2.2.1 r_21.2.2.2.2.2.2.2.2.2.2.2.2) := fun J => by
      rw [ra_S]
      unfold fX9_readAll_L35_B
      rw [if_neg (by decide), if_neg (nI_ge (by omega) (by omega)), t0, Option.bind_some]
      exact if_neg (show ¬ (1 : Int32) = 0 by decide)
    rcases rp_1 hE hT hsub hn6 (by omega) (by omega) (by omega) hl htf hok h5 (k := k) (by omega) Mv sm with ⟨p1, p2⟩ | ⟨now', book', kept', F', L', B', M', nn', tri', Cb', Ct', u', tak, q, p1, p2, p3, p4, p5, p6, p7, p8⟩
    · obtain ⟨gd, q, b1, b2⟩ := ra_0 (tf := tf2) hl (nI n) (nI nn) (nI sm) now book kept isk F L B Mv tri d (5 * k + 4) (by omega) (by omega) (fun i hi => hok2 i (by omega)) (by omega)
      have hgd : gd = 1 := by
        rcases b2 with ⟨e, _⟩ | ⟨_, _, _, e⟩
        · exact e
        · rw [ht2] at e
          exact absurd e (by decide)
      subst hgd
      refine ⟨now, book, kept, F, L, B, Mv, nn, tri, q, 0, sm, -1, u, h, Cb, Ct, false, fun N hN => ?_, rfl, fun N hN => ?_, hE, Nat.le_refl _, ⟨[], rfl, Nat.zero_le _⟩, Or.inr ⟨rfl, rfl⟩⟩
      · obtain ⟨J, rfl⟩ : ∃ J, N = J + 1 := ⟨N - 1, by omega⟩
        rw [hstep, p1, Option.bind_some]
        exact b1 J (by omega)
      · obtain ⟨J, rfl⟩ : ∃ J, N = J + 1 := ⟨N - 1, by omega⟩
        rw [pt_S]
        exact p2 _
    · obtain ⟨now2, book2, kept2, F2, L2, B2, M2, nn2, tri2, q2, ps, sm', tkr, u2, h2, Cb2, Ct2, ok, c1, c2, c3, c4, c5, ⟨nl, c6, c7⟩, c8⟩ := lock hn6 hM hl htf hok h5 d (k + 1) (by omega) (by omega) now' book' kept' F' L' B' M' nn' Cb' Ct' u' (q :: h) tri' (sm + tak) p3 p4 p5 (by omega) (by rw [List.length_cons]; omega) (by omega)
      refine ⟨now2, book2, kept2, F2, L2, B2, M2, nn2, tri2, q2, ps, sm', tkr, u2, h2, Cb2, Ct2, ok, fun N hN => ?_, c2, fun N hN => ?_, c4, by omega, ⟨nl ++ [q], by rw [c6, List.append_assoc]; rfl, by rw [List.length_append]; exact Nat.succ_le_succ c7⟩, ?_⟩
      · obtain ⟨J, rfl⟩ : ∃ J, N = J + 1 := ⟨N - 1, by omega⟩
        rw [hstep, p1, Option.bind_some]
        have := c1 J (by omega)
        rw [show 5 * (k + 1) - 1 = 5 * k + 4 by omega] at this
        exact this
      · obtain ⟨J, rfl⟩ : ∃ J, N = J + 1 := ⟨N - 1, by omega⟩
        rw [pt_S, p2]
        exact c3 J (by omega)
      · rcases c8 with ⟨e1, e2, e3, e4, e5, e6⟩ | e
        · exact Or.inl ⟨e1, e2, e3, e4, e5, by omega⟩
        · exact Or.inr e
/-- the text with its moves, from its first sign on -/
theorem lock0 {K : List HP → Option Nat → Prop} {M n so : Nat} {sx : Nat → SV} {hb : Nat → List HP} {qx : Nat → SV} {hq : Nat → List HP} {isk : Nat → Int32} {v : SV} {hn : List HP} {sg : Int32} (hn6 : n ≤ 6) (hM : M < 2000) {tf tf2 : Nat → Int32} {len : Nat} (hl : len ≤ 60) (htf : ∀ i, i < len → tf i = tf2 i) (ht : tellB tf len = true) {now book kept : Nat → Int32} {F L : Nat → Int64} {B : Nat → Int32} (Mv : Nat → Int32) {nn : Nat} {C : List Nat} {u : TC} {h : List HP} {tri : Nat → Int32} (hE : EN K M n so sx hb qx hq isk v hn now book kept F L B nn C) (hT : TE sg u h (cpy now tri) F L B nn C) (hC : C.length < 2000) (hh : h.length < 900) : ∃ now' book' kept' F' L' B' M' nn' tri' q ps sm' tkr u' h' Cb' Ct' ok, fX9_readAll (nI n) (nI nn) (nI len) now book kept isk F L B Mv tri tf2 1 = some (now', book', kept', F', L', B', M', nI nn', tri', 1, nI q, ps, nI sm') ∧ (ps = b01 ok) ∧ fX8_playOnTrialS_L sg (nI len) tf 14 0 0 u (chP h) = some (tkr, u', chP h') ∧ EN K M n so sx hb qx hq isk v hn now' book' kept' F' L' B' nn' Cb' ∧ Cb'.length ≤ C.length ∧ FIN sg h' h u' tri' F' L' B' nn' Cb' Ct' ok tkr sm' C.length ((len + 1) / 5) := by
  obtain ⟨h5, hok⟩ := tell_ok ht
  have hok2 : okF tf2 len := fun i hi => by rw [← htf i hi]; exact hok i hi
  have ht2 : tellB tf2 len = true := tell_of hok2 h5
  unfold fX9_readAll
  rw [show is01 1 = true from rfl, grd_t, f_copy', Option.bind_some]
  rcases rp_1 hE hT (fun _ x => x) hn6 (by omega) (by omega) (by omega) hl htf hok h5 (k := 0) (by omega) Mv 0 with ⟨p1, p2⟩ | ⟨now', book', kept', F', L', B', M', nn', tri', Cb', Ct', u', tak, q, p1, p2, p3, p4, p5, p6, p7, p8⟩
  · obtain ⟨gd, q, b1, b2⟩ := ra_0 (tf := tf2) hl (nI n) (nI nn) (nI 0) now book kept isk F L B Mv (cpy now tri) 12 4 (by omega) (by omega) (fun i hi => hok2 i (by omega)) rfl
    have hgd : gd = 1 := by
      rcases b2 with ⟨e, _⟩ | ⟨_, _, _, e⟩
      · exact e
      · rw [ht2] at e
        exact absurd e (by decide)
    subst hgd
    refine ⟨now, book, kept, F, L, B, Mv, nn, cpy now tri, q, 0, 0, -1, u, h, C, C, false, ?_, rfl, p2 _, hE, Nat.le_refl _, ⟨[], rfl, Nat.zero_le _⟩, Or.inr ⟨rfl, rfl⟩⟩
    show (fX9_readPart (nI n) (nI nn) (nI len) (nI (5 * 0)) 1 1 (nI 0) now book kept isk F L B Mv (cpy now tri) tf2).bind _ = _
    rw [p1, Option.bind_some]
    exact b1 64 (by omega)
  · have hd : 5 * (1 + ((len + 1) / 5 - 1)) = len + 1 := by omega
    obtain ⟨now2, book2, kept2, F2, L2, B2, M2, nn2, tri2, q2, ps, sm', tkr, u2, h2, Cb2, Ct2, ok, c1, c2, c3, c4, c5, ⟨nl, c6, c7⟩, c8⟩ := lock hn6 hM hl htf hok h5 ((len + 1) / 5 - 1) 1 (by omega) hd now' book' kept' F' L' B' M' nn' Cb' Ct' u' (q :: h) tri' (0 + tak) p3 p4 p5 (by omega) (by rw [List.length_cons]; omega) (by omega)
    refine ⟨now2, book2, kept2, F2, L2, B2, M2, nn2, tri2, q2, ps, sm', tkr, u2, h2, Cb2, Ct2, ok, ?_, c2, (p2 _).trans (c3 13 (by omega)), c4, by omega, ⟨nl ++ [q], by rw [c6, List.append_assoc]; rfl, by rw [List.length_append, List.length_singleton]; omega⟩, ?_⟩
    · show (fX9_readPart (nI n) (nI nn) (nI len) (nI (5 * 0)) 1 1 (nI 0) now book kept isk F L B Mv (cpy now tri) tf2).bind _ = _
      rw [p1, Option.bind_some]
      exact c1 64 (by omega)
    · rcases c8 with ⟨e1, e2, e3, e4, e5, e6⟩ | e
      · exact Or.inl ⟨e1, e2, e3, e4, e5, by omega⟩
      · exact Or.inr e

/-! ===== the two objects at their birth agree ===== -/
theorem REL_init (sx qx : Nat → SV) (tf text : Nat → Int32) : ∃ f' t9 now' book' kept' F' L' B' M' nn' p, fX8_init = some (f', 24, 1, 0, 0, newPC p []) ∧ fX9_init = some (t9, now', book', kept', F', L', B', M', nn') ∧ ∀ (K' : List HP → Option Nat → Prop) (o : Option Nat), K' [p] o → REL K' 1 [p] (f', 24, 0, 1, 0, 0, o, 0, 0, 0, 0, 0, 0) 0 0 sx (fun _ => 0) qx 0 tf 0 nn' 0 now' book' kept' (fun _ => 0) F' L' B' text := by
  have hB2 : BKR (fun _ _ => False) (fun _ => 0) (fun _ => 0) (fun _ => 0) [] 0 0 0 sx (fun _ => []) (fun _ => 0) := fun k hk => absurd hk (Nat.not_lt_zero _)
  have hKP : KPR (fun _ _ => False) (fun _ => 0) (fun _ => 0) (fun _ => 0) [] 0 qx (fun _ => []) (fun _ => 0) (fun _ => 0) := fun k hk h => absurd rfl h
  have hLV : LV (fun _ => 0) [] 0 := fun i hi => absurd hi List.not_mem_nil
  have kn : kingN (fun _ => (0 : Int32)) = none := king_no (fun s hs => by decide)
  have hr : RP (fun _ => 0) (-1) 0 0 0 0 0 0 0 0 0 0 (fun _ => 0) [] := by
    refine ⟨fun s hs => rfl, fun s hs => Or.inl rfl, fun s hs u hu h3 _ => absurd (show (0 : Int32) = 3 from h3) (by decide), fun s hs _ => Or.inl rfl, by rw [kn]; rfl, by decide, rfl, rfl, rfl, Or.inl rfl, rfl, rfl, rfl, rfl, rfl, rfl, rfl, rfl, ⟨fun _ => rfl, fun _ => rfl⟩, fun q hq => (nomatch hq), fun e => absurd (show (0 : Int32) = 1 from e) (by decide)⟩
  obtain ⟨f', ag, hpl⟩ := f_placeAll (fun _ => 0)
  have pb' : PB f' := AG_PB (AG_symm ag) set_PB
  have uk' : UK f' := AG_UK (AG_symm ag) set_UK
  have ko' : KO f' := AG_KO (AG_symm ag) set_KO
  have ek : kingN f' = some 24 := by rw [AG_kingN ag]; exact set_king
  have ags : AG f' (su4 (fun _ => 0)) := AG_trans ag (AG_symm (su_lo (fun _ => 0)))
  have pbs : PB (su4 (fun _ => 0)) := AG_PB ags pb'
  obtain ⟨rk, mD, F', L', B', M', book2, kept2, n0, now4, hNT, h4, he⟩ := f_goStart pbs 0 (nst := 0) (by decide) (nn := 0) (by decide) hLV (by decide) (book := fun _ => 0) (kept := fun _ => 0) (isk := fun _ => 0) (fun _ => 0) (hds (by decide) hB2 hKP (fun k hk => by
    simp only [List.mem_cons, List.not_mem_nil, or_false] at hk
    rw [hk]
    exact HC_m1))
  have he : fX9_goStart 0 0 (su4 (fun _ => 0)) (fun _ => 0) (fun _ => 0) (fun _ => 0) (fun _ => 0) (fun _ => 0) (fun _ => 0) (fun _ => 0) 0 = _ := he
  have ag4 : AG f' now4 := fun s hs => (ags s hs).trans ((h4.2 s (by omega)).trans (stt_ot ⟨by omega, by omega, by omega, by omega⟩)).symm
  have hRP := st_RP hr (Or.inl rfl) ags pb' uk' ko' ⟨24, ek, by decide⟩ (fun i hi _ => su_hi (fun _ => 0) hi) h4.2
  refine ⟨f', nI (piN now4), now4, book2, kept2, F', L', B', M', nI (n0 + 1), (f', 0), ?_, ?_, fun K' o hq => ?_⟩
  · unfold fX8_init fX7_beginSetUp
    rw [hpl, Option.bind_some, f_begin]
    rfl
  · unfold fX9_init
    rw [f_goSetUp, he, Option.bind_some, f_piecesIn _ (AG_PB ag4 pb').pos, Option.bind_some]
    rfl
  · have e24 : (24 : Int32) = enc (kingN f') := by rw [ek]; rfl
    rw [← e24] at hRP
    exact REL_new (M := 0) (N := 0) (so2 := 0) (n2 := 0) (t := 0) (skf := fun _ => 0) (isk := fun _ => 0) hNT hLV (fun _ _ z => z.elim) hB2 hKP (q := (f', 0)) (h := []) (rpos_AG (AG_symm ags) 0) rfl hRP h4.1 hq (Nat.zero_le _) (Nat.le_refl _) (by decide) (by decide) (fun _ _ => rfl) (by decide) (fun i hi => absurd hi (Nat.not_lt_zero _)) (Nat.le_refl _)

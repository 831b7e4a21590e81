def fX5_pack_L5_B (f : Nat → Int32) (a2 : Int32) (self_3 : Int64 → Int32 → Option Int64) (v3_1 : Int64) (v5_2 : Int32) : Option Int64 :=
  if a2 ≤ v5_2 then (some v3_1) else ((fX1_at f v5_2).bind (fun (r_5 : Int32) => bnd ((v3_1 <<< ((2 : Int32).toInt64 &&& 63)) ||| r_5.toInt64) (fun (v3_6 : Int64) => self_3 v3_6 (v5_2 + 1))))
def fX5_pack_L5 (f : Nat → Int32) (a2 : Int32) (n : Nat) (v3_1 : Int64) (v5_2 : Int32) : Option Int64 := lp (fun zf z => fX5_pack_L5_B f a2 (fun v3_1 v5_2 => zf (v3_1, v5_2)) z.1 z.2) n (v3_1, v5_2)
def fX5_pack (f : Nat → Int32) (a1 : Int32) (a2 : Int32) : Option Int64 :=
  fX5_pack_L5 f a2 64 0 a1
set_option maxRecDepth 100000 in
set_option maxHeartbeats 4000000 in
theorem mX5_pack (l : Launch) (g : GE) (b ca : Nat) (kk : Int32) (sg : Int32) (f : Nat → Int32) (a1 : Int32) (a2 : Int32) (r : Int64) (hyp : fX5_pack f a1 a2 = some r) : PJ l yX5_pack cX5_pack 6 (some .long) 1 21 g [(b, .inr (1, [.ref ca, .int kk, .int sg])), (ca, .inl (g.2.1, 49, .inl f))] [.ref b, .int a1, .int a2] r := by
  refine metP_intro (by decide) rfl ?_
  intro p e R s m args below meth c Q hRf hRl hQ hx hb hml hr hlocks hown hts hin hE hP ls hl
  have hown : s.vm.findClass "HallGuards$Position" = some m.cls := hown
  have hl : lv_has ls 6 [(0, .ref b), (1, .int a1), (2, .int a2)] := hl
  unfold fX5_pack at hyp
  refine lv_lconst (v := 0) hx hb dX5_pack_0 (by decide) ?_
  refine lv_lstore_n (lv' := [(3, .long 0), (0, .ref b), (1, .int a1), (2, .int a2)]) hx hb dX5_pack_1 rfl hl (by decide) rfl (fun ls hl => ?_)
  refine lv_iload_n hx hb dX5_pack_2 rfl (lv_at hl 2 rfl) ?_
  refine lv_istore (lv' := [(5, .int a1), (3, .long 0), (0, .ref b), (1, .int a1), (2, .int a2)]) hx hb dX5_pack_3 hl (by decide) rfl (fun ls hl => ?_)
  refine lp_i (r := r) (fun z : Int64 × Int32 => ∀ (ls : Array Slot), lv_has ls 6 [(0, .ref b), (2, .int a2), (3, .long z.1), (5, .int z.2)] → W p l e R s m args below meth c s.heap [] 0 0 Q (F0 m 5 ls [])) ?_ 64 (0, a1) hyp ls (lv_sub hl [2, 4, 1, 0] rfl)
  intro self_3T ihself_3T z hyp ls hl
  obtain ⟨v3_1, v5_2⟩ := z
  obtain ⟨self_3, eself_3⟩ : ∃ f9 : Int64 → Int32 → Option Int64, f9 = fun v3_1 v5_2 => self_3T (v3_1, v5_2) := ⟨_, rfl⟩
  have ihself_3 := fun (v3_1 : Int64) (v5_2 : Int32) (h9 : self_3 v3_1 v5_2 = some r) => ihself_3T (v3_1, v5_2) (by rw [eself_3] at h9; exact h9)
  replace hyp : fX5_pack_L5_B f a2 self_3 v3_1 v5_2 = some r := by rw [eself_3]; exact hyp
  have hl : lv_has ls 6 [(0, .ref b), (2, .int a2), (3, .long v3_1), (5, .int v5_2)] := hl
  show W p l e R s m args below meth c s.heap [] 0 0 Q (F0 m 5 ls [])
  unfold fX5_pack_L5_B at hyp
  refine lv_iload hx hb dX5_pack_5 (lv_at hl 3 rfl) ?_
  refine lv_iload_n hx hb dX5_pack_7 rfl (lv_at hl 1 rfl) ?_
  refine lv_icmp_ge (tgt := 29) hx hb dX5_pack_8 (by decide) (fun h_4 => ?_) (fun h_4 => ?_)
  · replace hyp := ite_t h_4 hyp
    refine lv_lload_n hx hb dX5_pack_29 rfl (lv_at hl 2 rfl) ?_
    subst hQ
    exact rJ hx hb hr hlocks (some_e hyp) dX5_pack_30
  · replace hyp := ite_f h_4 hyp
    refine lv_lload_n hx hb dX5_pack_11 rfl (lv_at hl 2 rfl) ?_
    refine lv_iconst (v := 2) hx hb dX5_pack_12 (by decide) ?_
    refine lv_lshl hx hb dX5_pack_13 rfl ?_
    refine lv_aload_n hx hb dX5_pack_14 rfl (lv_at hl 0 rfl) ?_
    refine lv_iload hx hb dX5_pack_15 (lv_at hl 3 rfl) ?_
    obtain ⟨r_5, hr_5, hyp⟩ := opt_e hyp
    refine pV (As := [.int v5_2]) (rest := [.long (v3_1 <<< ((2 : Int32).toInt64 &&& 63))]) ⟨hx, hb, hml, hown, hts⟩ hE (mX1_at l g b ca kk sg f v5_2 r_5 hr_5) cf_X1_at im_X1_at se_X1_at ml_X5_40 ⟨Nat.le_trans (Nat.le_of_ble_eq_true rfl) hRf, Nat.le_trans (Nat.le_of_ble_eq_true rfl) hRl⟩ (hP.sub (ws' := [(b, .inr (1, [.ref ca, .int kk, .int sg])), (ca, .inl (g.2.1, 49, .inl f))]) [0, 1] rfl) (ci := 1) (q0 := 0) rfl rfl rfl rfl hl.1 rfl (Nat.le_of_ble_eq_true rfl) dX5_pack_17 ⟨Nat.zero_le _, Nat.zero_le _⟩ ?_
    refine lv_i2l hx hb dX5_pack_20 rfl ?_
    refine lv_lor hx hb dX5_pack_21 ?_
    obtain ⟨v3_6, ev3_6, hyp⟩ := bnd_e hyp
    refine lv_eqj ev3_6 ?_
    refine lv_lstore_n (lv' := [(3, .long v3_6), (0, .ref b), (2, .int a2), (5, .int v5_2)]) hx hb dX5_pack_22 rfl hl (by decide) rfl (fun ls hl => ?_)
    refine lv_iinc (v := v5_2 + 1) (lv' := [(5, .int (v5_2 + 1)), (3, .long v3_6), (0, .ref b), (2, .int a2)]) hx hb dX5_pack_23 hl (k := 3) rfl rfl (by decide) rfl (fun ls hl => ?_)
    refine lv_goto (tgt := 5) hx hb dX5_pack_26 (by decide) ?_
    exact ihself_3 v3_6 (v5_2 + 1) hyp ls (lv_sub hl [2, 3, 1, 0] rfl)

def fX5_initN (f : Nat → Int32) (a1 : Int32) : Option (Int64 × Int64 × Int32 × (Option Nat) × Int32 × Int32) :=
  (fX5_pack f 0 25).bind (fun (r_1 : Int64) => (fX5_pack f 25 49).bind (fun (r_2 : Int64) => (fX5_timesIn ([]) r_1 r_2 a1).bind (fun (r_3 : Int32) => some (r_1, r_2, a1, none, 1, 1 + r_3))))
set_option maxRecDepth 100000 in
set_option maxHeartbeats 4000000 in
theorem mX5_initN (l : Launch) (g : GE) (pq b ca : Nat) (p1 : Int64) (p2 : Int64) (ps : Int32) (pb : Option Nat) (pl : Int32) (pn : Int32) (kk : Int32) (sg : Int32) (f : Nat → Int32) (a1 : Int32) (r : Int64 × Int64 × Int32 × (Option Nat) × Int32 × Int32) (hyp : fX5_initN f a1 = some r) : WMO l yX5_init cX5_init 4 none 2 46 g [(pq, .inr (5, [.long p1, .long p2, .int ps, va_rf pb, .int pl, .int pn])), (b, .inr (1, [.ref ca, .int kk, .int sg])), (ca, .inl (g.2.1, 49, .inl f))] (OC g [] none) [.ref pq, .ref b, .int a1, .null] none [(pq, .inr (5, [.long r.1, .long r.2.1, .int r.2.2.1, va_rf r.2.2.2.1, .int r.2.2.2.2.1, .int r.2.2.2.2.2])), (b, .inr (1, [.ref ca, .int kk, .int sg])), (ca, .inl (g.2.1, 49, .inl f))] := by
  refine metWO_intro (by decide) rfl ?_
  intro p e R s m args below meth c Q A hRf hRl hQ hx hb hml hr hlocks hown hts hin hE hA hO H locs hP hD hS ls hl
  have hin : meth.name = "<init>" := hin
  have hown : s.vm.findClass "HallGuards$Position" = some m.cls := hown
  have hl : lv_has ls 4 [(0, .ref pq), (1, .ref b), (2, .int a1), (3, .null)] := hl
  unfold fX5_initN at hyp
  refine lv_aload_n hx hb dX5_init_0 rfl (lv_at hl 0 rfl) ?_
  refine W.objInit hx hb hown (hts _ ml_X5_3) (hts _ im_obj) (hts _ co_obj) rfl (hl.1.trans hml.symm) rfl dX5_init_1 (Nat.le_trans (Nat.le_of_ble_eq_true rfl) hRf) (Nat.le_trans (Nat.le_of_ble_eq_true rfl) hRl) ?_
  show W p l e R s m args below meth c H locs 0 0 Q (F0 m 4 ls [])
  refine lv_aload_n hx hb dX5_init_4 rfl (lv_at hl 0 rfl) ?_
  refine lv_aload_n hx hb dX5_init_5 rfl (lv_at hl 1 rfl) ?_
  refine lv_iconst (v := 0) hx hb dX5_init_6 (by decide) ?_
  refine lv_bipush (v := 25) hx hb dX5_init_7 (by decide) ?_
  obtain ⟨r_1, hr_1, hyp⟩ := opt_e hyp
  refine pSJ (As := [.ref b, .int 0, .int 25]) (rest := [.ref pq]) ⟨hx, hb, hml, hown, hts⟩ hE (mX5_pack l g b ca kk sg f 0 25 r_1 hr_1) cf_X5_pack st_X5_pack ml_X5_11 ⟨Nat.le_trans (Nat.le_of_ble_eq_true rfl) hRf, Nat.le_trans (Nat.le_of_ble_eq_true rfl) hRl⟩ (hP.sub (ws' := [(b, .inr (1, [.ref ca, .int kk, .int sg])), (ca, .inl (g.2.1, 49, .inl f))]) [1, 2] rfl) rfl hl.1 rfl (Nat.le_of_ble_eq_true rfl) dX5_init_9 ⟨Nat.zero_le _, Nat.zero_le _⟩ ?_
  refine pf_X5_15 hx hb hts hown hin hE hP hD hS 0 rfl rfl dX5_init_12 (fun H locs hP hD hS => ?_)
  have hP : va_P g.1 vwCl [(pq, .inr (5, [.long r_1, .long p2, .int ps, va_rf pb, .int pl, .int pn])), (b, .inr (1, [.ref ca, .int kk, .int sg])), (ca, .inl (g.2.1, 49, .inl f))] H := hP
  have hD : va_D A [(pq, .inr (5, [.long r_1, .long p2, .int ps, va_rf pb, .int pl, .int pn])), (b, .inr (1, [.ref ca, .int kk, .int sg])), (ca, .inl (g.2.1, 49, .inl f))] := hD
  refine lv_aload_n hx hb dX5_init_15 rfl (lv_at hl 0 rfl) ?_
  refine lv_aload_n hx hb dX5_init_16 rfl (lv_at hl 1 rfl) ?_
  refine lv_bipush (v := 25) hx hb dX5_init_17 (by decide) ?_
  refine lv_bipush (v := 49) hx hb dX5_init_19 (by decide) ?_
  obtain ⟨r_2, hr_2, hyp⟩ := opt_e hyp
  refine pSJ (As := [.ref b, .int 25, .int 49]) (rest := [.ref pq]) ⟨hx, hb, hml, hown, hts⟩ hE (mX5_pack l g b ca kk sg f 25 49 r_2 hr_2) cf_X5_pack st_X5_pack ml_X5_11 ⟨Nat.le_trans (Nat.le_of_ble_eq_true rfl) hRf, Nat.le_trans (Nat.le_of_ble_eq_true rfl) hRl⟩ (hP.sub (ws' := [(b, .inr (1, [.ref ca, .int kk, .int sg])), (ca, .inl (g.2.1, 49, .inl f))]) [1, 2] rfl) rfl hl.1 rfl (Nat.le_of_ble_eq_true rfl) dX5_init_21 ⟨Nat.zero_le _, Nat.zero_le _⟩ ?_
  refine pf_X5_19 hx hb hts hown hin hE hP hD hS 0 rfl rfl dX5_init_24 (fun H locs hP hD hS => ?_)
  have hP : va_P g.1 vwCl [(pq, .inr (5, [.long r_1, .long r_2, .int ps, va_rf pb, .int pl, .int pn])), (b, .inr (1, [.ref ca, .int kk, .int sg])), (ca, .inl (g.2.1, 49, .inl f))] H := hP
  have hD : va_D A [(pq, .inr (5, [.long r_1, .long r_2, .int ps, va_rf pb, .int pl, .int pn])), (b, .inr (1, [.ref ca, .int kk, .int sg])), (ca, .inl (g.2.1, 49, .inl f))] := hD
  refine lv_aload_n hx hb dX5_init_27 rfl (lv_at hl 0 rfl) ?_
  refine lv_iload_n hx hb dX5_init_28 rfl (lv_at hl 2 rfl) ?_
  refine pf_X5_22 hx hb hts hown hin hE hP hD hS 0 rfl rfl dX5_init_29 (fun H locs hP hD hS => ?_)
  have hP : va_P g.1 vwCl [(pq, .inr (5, [.long r_1, .long r_2, .int a1, va_rf pb, .int pl, .int pn])), (b, .inr (1, [.ref ca, .int kk, .int sg])), (ca, .inl (g.2.1, 49, .inl f))] H := hP
  have hD : va_D A [(pq, .inr (5, [.long r_1, .long r_2, .int a1, va_rf pb, .int pl, .int pn])), (b, .inr (1, [.ref ca, .int kk, .int sg])), (ca, .inl (g.2.1, 49, .inl f))] := hD
  refine lv_aload_n hx hb dX5_init_32 rfl (lv_at hl 0 rfl) ?_
  refine lv_aload_nN hx hb dX5_init_33 rfl (lv_at hl 3 rfl) ?_
  refine lv_ifnullN (tgt := 51) hx hb dX5_init_34 (by decide) ?_
  refine lv_null hx hb dX5_init_51 ?_
  refine pf_X5_29 hx hb hts hown hin hE hP hD hS 0 rfl rfl rfl rfl dX5_init_52 (fun H locs hP hD hS => ?_)
  have hP : va_P g.1 vwCl [(pq, .inr (5, [.long r_1, .long r_2, .int a1, .null, .int pl, .int pn])), (b, .inr (1, [.ref ca, .int kk, .int sg])), (ca, .inl (g.2.1, 49, .inl f))] H := hP
  have hD : va_D A [(pq, .inr (5, [.long r_1, .long r_2, .int a1, .null, .int pl, .int pn])), (b, .inr (1, [.ref ca, .int kk, .int sg])), (ca, .inl (g.2.1, 49, .inl f))] := hD
  refine lv_aload_n hx hb dX5_init_55 rfl (lv_at hl 0 rfl) ?_
  refine lv_aload_n hx hb dX5_init_56 rfl (lv_at hl 0 rfl) ?_
  refine gf_X5_29 hx hb hts hown hE hP 0 rfl rfl dX5_init_57 ?_
  refine lv_ifnonnullN hx hb dX5_init_60 ?_
  refine lv_iconst (v := 1) hx hb dX5_init_63 (by decide) ?_
  refine lv_goto (tgt := 76) hx hb dX5_init_64 (by decide) ?_
  refine pf_X5_26 hx hb hts hown hin hE hP hD hS 0 rfl rfl dX5_init_76 (fun H locs hP hD hS => ?_)
  have hP : va_P g.1 vwCl [(pq, .inr (5, [.long r_1, .long r_2, .int a1, .null, .int 1, .int pn])), (b, .inr (1, [.ref ca, .int kk, .int sg])), (ca, .inl (g.2.1, 49, .inl f))] H := hP
  have hD : va_D A [(pq, .inr (5, [.long r_1, .long r_2, .int a1, .null, .int 1, .int pn])), (b, .inr (1, [.ref ca, .int kk, .int sg])), (ca, .inl (g.2.1, 49, .inl f))] := hD
  refine lv_aload_n hx hb dX5_init_79 rfl (lv_at hl 0 rfl) ?_
  refine lv_iconst (v := 1) hx hb dX5_init_80 (by decide) ?_
  refine lv_aload_n hx hb dX5_init_81 rfl (lv_at hl 0 rfl) ?_
  refine gf_X5_29 hx hb hts hown hE hP 0 rfl rfl dX5_init_82 ?_
  refine lv_aload_n hx hb dX5_init_85 rfl (lv_at hl 0 rfl) ?_
  refine gf_X5_15 hx hb hts hown hE hP 0 rfl rfl dX5_init_86 ?_
  refine lv_aload_n hx hb dX5_init_89 rfl (lv_at hl 0 rfl) ?_
  refine gf_X5_19 hx hb hts hown hE hP 0 rfl rfl dX5_init_90 ?_
  refine lv_iload_n hx hb dX5_init_93 rfl (lv_at hl 2 rfl) ?_
  obtain ⟨r_3, hr_3, hyp⟩ := opt_e hyp
  refine pSO (As := [.null, .long r_1, .long r_2, .int a1]) (rest := [.int 1, .ref pq]) ⟨hx, hb, hml, hown, hts⟩ hE (mX5_timesIn l g ([]) none r_1 r_2 a1 r_3 hr_3) (OC_ok g _ _) OC_nil hS cf_X5_timesIn st_X5_timesIn ml_X5_33 ⟨Nat.le_trans (Nat.le_of_ble_eq_true rfl) hRf, Nat.le_trans (Nat.le_of_ble_eq_true rfl) hRl⟩ (va_P_nil) rfl hl.1 rfl (Nat.le_of_ble_eq_true rfl) dX5_init_94 ⟨Nat.zero_le _, Nat.zero_le _⟩ ?_
  refine lv_iadd hx hb dX5_init_97 ?_
  refine pf_X5_37 hx hb hts hown hin hE hP hD hS 0 rfl rfl dX5_init_98 (fun H locs hP hD hS => ?_)
  have hP : va_P g.1 vwCl [(pq, .inr (5, [.long r_1, .long r_2, .int a1, .null, .int 1, .int (1 + r_3)])), (b, .inr (1, [.ref ca, .int kk, .int sg])), (ca, .inl (g.2.1, 49, .inl f))] H := hP
  have hD : va_D A [(pq, .inr (5, [.long r_1, .long r_2, .int a1, .null, .int 1, .int (1 + r_3)])), (b, .inr (1, [.ref ca, .int kk, .int sg])), (ca, .inl (g.2.1, 49, .inl f))] := hD
  have hyp := some_e hyp
  subst hyp
  subst hQ
  exact rwV hx hb hr hlocks  hP hD hS dX5_init_101

def fX5_initS (la : Nat) (f : Nat → Int32) (cx : PC) (ct : List PC) (a1 : Int32) : Option (Int64 × Int64 × Int32 × (Option Nat) × Int32 × Int32) :=
  (fX5_pack f 0 25).bind (fun (r_1 : Int64) => (fX5_pack f 25 49).bind (fun (r_2 : Int64) => grd (decide (¬ (1000 ≤ (lenI ct.length)))) ((fX5_timesIn (cx :: ct) r_1 r_2 a1).bind (fun (r_3 : Int32) => some (r_1, r_2, a1, (some la), (lenI ct.length) + 1, 1 + r_3)))))
set_option maxRecDepth 100000 in
set_option maxHeartbeats 4000000 in
theorem mX5_initS (l : Launch) (g : GE) (pq b ca la : Nat) (p1 : Int64) (p2 : Int64) (ps : Int32) (pb : Option Nat) (pl : Int32) (pn : Int32) (kk : Int32) (sg : Int32) (f : Nat → Int32) (cx : PC) (ct : List PC) (a1 : Int32) (r : Int64 × Int64 × Int32 × (Option Nat) × Int32 × Int32) (hyp : fX5_initS la f cx ct a1 = some r) : WMO l yX5_init cX5_init 4 none 2 46 g [(pq, .inr (5, [.long p1, .long p2, .int ps, va_rf pb, .int pl, .int pn])), (b, .inr (1, [.ref ca, .int kk, .int sg])), (ca, .inl (g.2.1, 49, .inl f))] (OC g (cx :: ct) (some la)) [.ref pq, .ref b, .int a1, .ref la] none [(pq, .inr (5, [.long r.1, .long r.2.1, .int r.2.2.1, va_rf r.2.2.2.1, .int r.2.2.2.2.1, .int r.2.2.2.2.2])), (b, .inr (1, [.ref ca, .int kk, .int sg])), (ca, .inl (g.2.1, 49, .inl f))] := by
  refine metWO_intro (by decide) rfl ?_
  intro p e R s m args below meth c Q A hRf hRl hQ hx hb hml hr hlocks hown hts hin hE hA hO H locs hP hD hS ls hl
  obtain ⟨eb, hC⟩ := OC_head hO
  have hin : meth.name = "<init>" := hin
  have hown : s.vm.findClass "HallGuards$Position" = some m.cls := hown
  have hl : lv_has ls 4 [(0, .ref pq), (1, .ref b), (2, .int a1), (3, .ref la)] := hl
  unfold fX5_initS at hyp
  refine lv_aload_n hx hb dX5_init_0 rfl (lv_at hl 0 rfl) ?_
  refine W.objInit hx hb hown (hts _ ml_X5_3) (hts _ im_obj) (hts _ co_obj) rfl (hl.1.trans hml.symm) rfl dX5_init_1 (Nat.le_trans (Nat.le_of_ble_eq_true rfl) hRf) (Nat.le_trans (Nat.le_of_ble_eq_true rfl) hRl) ?_
  show W p l e R s m args below meth c H locs 0 0 Q (F0 m 4 ls [])
  refine lv_aload_n hx hb dX5_init_4 rfl (lv_at hl 0 rfl) ?_
  refine lv_aload_n hx hb dX5_init_5 rfl (lv_at hl 1 rfl) ?_
  refine lv_iconst (v := 0) hx hb dX5_init_6 (by decide) ?_
  refine lv_bipush (v := 25) hx hb dX5_init_7 (by decide) ?_
  obtain ⟨r_1, hr_1, hyp⟩ := opt_e hyp
  refine pSJ (As := [.ref b, .int 0, .int 25]) (rest := [.ref pq]) ⟨hx, hb, hml, hown, hts⟩ hE (mX5_pack l g b ca kk sg f 0 25 r_1 hr_1) cf_X5_pack st_X5_pack ml_X5_11 ⟨Nat.le_trans (Nat.le_of_ble_eq_true rfl) hRf, Nat.le_trans (Nat.le_of_ble_eq_true rfl) hRl⟩ (hP.sub (ws' := [(b, .inr (1, [.ref ca, .int kk, .int sg])), (ca, .inl (g.2.1, 49, .inl f))]) [1, 2] rfl) rfl hl.1 rfl (Nat.le_of_ble_eq_true rfl) dX5_init_9 ⟨Nat.zero_le _, Nat.zero_le _⟩ ?_
  refine pf_X5_15 hx hb hts hown hin hE hP hD hS 0 rfl rfl dX5_init_12 (fun H locs hP hD hS => ?_)
  have hP : va_P g.1 vwCl [(pq, .inr (5, [.long r_1, .long p2, .int ps, va_rf pb, .int pl, .int pn])), (b, .inr (1, [.ref ca, .int kk, .int sg])), (ca, .inl (g.2.1, 49, .inl f))] H := hP
  have hD : va_D A [(pq, .inr (5, [.long r_1, .long p2, .int ps, va_rf pb, .int pl, .int pn])), (b, .inr (1, [.ref ca, .int kk, .int sg])), (ca, .inl (g.2.1, 49, .inl f))] := hD
  refine lv_aload_n hx hb dX5_init_15 rfl (lv_at hl 0 rfl) ?_
  refine lv_aload_n hx hb dX5_init_16 rfl (lv_at hl 1 rfl) ?_
  refine lv_bipush (v := 25) hx hb dX5_init_17 (by decide) ?_
  refine lv_bipush (v := 49) hx hb dX5_init_19 (by decide) ?_
  obtain ⟨r_2, hr_2, hyp⟩ := opt_e hyp
  refine pSJ (As := [.ref b, .int 25, .int 49]) (rest := [.ref pq]) ⟨hx, hb, hml, hown, hts⟩ hE (mX5_pack l g b ca kk sg f 25 49 r_2 hr_2) cf_X5_pack st_X5_pack ml_X5_11 ⟨Nat.le_trans (Nat.le_of_ble_eq_true rfl) hRf, Nat.le_trans (Nat.le_of_ble_eq_true rfl) hRl⟩ (hP.sub (ws' := [(b, .inr (1, [.ref ca, .int kk, .int sg])), (ca, .inl (g.2.1, 49, .inl f))]) [1, 2] rfl) rfl hl.1 rfl (Nat.le_of_ble_eq_true rfl) dX5_init_21 ⟨Nat.zero_le _, Nat.zero_le _⟩ ?_
  refine pf_X5_19 hx hb hts hown hin hE hP hD hS 0 rfl rfl dX5_init_24 (fun H locs hP hD hS => ?_)
  have hP : va_P g.1 vwCl [(pq, .inr (5, [.long r_1, .long r_2, .int ps, va_rf pb, .int pl, .int pn])), (b, .inr (1, [.ref ca, .int kk, .int sg])), (ca, .inl (g.2.1, 49, .inl f))] H := hP
  have hD : va_D A [(pq, .inr (5, [.long r_1, .long r_2, .int ps, va_rf pb, .int pl, .int pn])), (b, .inr (1, [.ref ca, .int kk, .int sg])), (ca, .inl (g.2.1, 49, .inl f))] := hD
  refine lv_aload_n hx hb dX5_init_27 rfl (lv_at hl 0 rfl) ?_
  refine lv_iload_n hx hb dX5_init_28 rfl (lv_at hl 2 rfl) ?_
  refine pf_X5_22 hx hb hts hown hin hE hP hD hS 0 rfl rfl dX5_init_29 (fun H locs hP hD hS => ?_)
  have hP : va_P g.1 vwCl [(pq, .inr (5, [.long r_1, .long r_2, .int a1, va_rf pb, .int pl, .int pn])), (b, .inr (1, [.ref ca, .int kk, .int sg])), (ca, .inl (g.2.1, 49, .inl f))] H := hP
  have hD : va_D A [(pq, .inr (5, [.long r_1, .long r_2, .int a1, va_rf pb, .int pl, .int pn])), (b, .inr (1, [.ref ca, .int kk, .int sg])), (ca, .inl (g.2.1, 49, .inl f))] := hD
  refine lv_aload_n hx hb dX5_init_32 rfl (lv_at hl 0 rfl) ?_
  refine lv_aload_n hx hb dX5_init_33 rfl (lv_at hl 3 rfl) ?_
  refine lv_ifnull hx hb dX5_init_34 ?_
  refine lv_aload_n hx hb dX5_init_37 rfl (lv_at hl 3 rfl) ?_
  refine gf_X5_26 hx hb hts hown hE (hC _ _ hS) 0 rfl rfl dX5_init_38 ?_
  refine lv_sipush (v := 1000) hx hb dX5_init_41 (by decide) ?_
  obtain ⟨hi, hyp⟩ := grd_e hyp
  replace hi := of_decide_eq_true hi
  refine lv_icmp_ge (tgt := 51) hx hb dX5_init_44 (by decide) (fun h9 => ?_) (fun h9 => ?_)
  · exact absurd h9 hi
  refine lv_aload_n hx hb dX5_init_47 rfl (lv_at hl 3 rfl) ?_
  refine lv_goto (tgt := 52) hx hb dX5_init_48 (by decide) ?_
  refine pf_X5_29 hx hb hts hown hin hE hP hD hS 0 rfl rfl rfl rfl dX5_init_52 (fun H locs hP hD hS => ?_)
  have hP : va_P g.1 vwCl [(pq, .inr (5, [.long r_1, .long r_2, .int a1, .ref la, .int pl, .int pn])), (b, .inr (1, [.ref ca, .int kk, .int sg])), (ca, .inl (g.2.1, 49, .inl f))] H := hP
  have hD : va_D A [(pq, .inr (5, [.long r_1, .long r_2, .int a1, .ref la, .int pl, .int pn])), (b, .inr (1, [.ref ca, .int kk, .int sg])), (ca, .inl (g.2.1, 49, .inl f))] := hD
  refine lv_aload_n hx hb dX5_init_55 rfl (lv_at hl 0 rfl) ?_
  refine lv_aload_n hx hb dX5_init_56 rfl (lv_at hl 0 rfl) ?_
  refine gf_X5_29 hx hb hts hown hE hP 0 rfl rfl dX5_init_57 ?_
  refine lv_ifnonnull (tgt := 67) hx hb dX5_init_60 (by decide) ?_
  refine lv_aload_n hx hb dX5_init_67 rfl (lv_at hl 0 rfl) ?_
  refine gf_X5_29 hx hb hts hown hE hP 0 rfl rfl dX5_init_68 ?_
  refine gf_X5_26 hx hb hts hown hE (hC _ _ hS) 0 rfl rfl dX5_init_71 ?_
  refine lv_iconst (v := 1) hx hb dX5_init_74 (by decide) ?_
  refine lv_iadd hx hb dX5_init_75 ?_
  refine pf_X5_26 hx hb hts hown hin hE hP hD hS 0 rfl rfl dX5_init_76 (fun H locs hP hD hS => ?_)
  have hP : va_P g.1 vwCl [(pq, .inr (5, [.long r_1, .long r_2, .int a1, .ref la, .int ((lenI ct.length) + 1), .int pn])), (b, .inr (1, [.ref ca, .int kk, .int sg])), (ca, .inl (g.2.1, 49, .inl f))] H := hP
  have hD : va_D A [(pq, .inr (5, [.long r_1, .long r_2, .int a1, .ref la, .int ((lenI ct.length) + 1), .int pn])), (b, .inr (1, [.ref ca, .int kk, .int sg])), (ca, .inl (g.2.1, 49, .inl f))] := hD
  refine lv_aload_n hx hb dX5_init_79 rfl (lv_at hl 0 rfl) ?_
  refine lv_iconst (v := 1) hx hb dX5_init_80 (by decide) ?_
  refine lv_aload_n hx hb dX5_init_81 rfl (lv_at hl 0 rfl) ?_
  refine gf_X5_29 hx hb hts hown hE hP 0 rfl rfl dX5_init_82 ?_
  refine lv_aload_n hx hb dX5_init_85 rfl (lv_at hl 0 rfl) ?_
  refine gf_X5_15 hx hb hts hown hE hP 0 rfl rfl dX5_init_86 ?_
  refine lv_aload_n hx hb dX5_init_89 rfl (lv_at hl 0 rfl) ?_
  refine gf_X5_19 hx hb hts hown hE hP 0 rfl rfl dX5_init_90 ?_
  refine lv_iload_n hx hb dX5_init_93 rfl (lv_at hl 2 rfl) ?_
  obtain ⟨r_3, hr_3, hyp⟩ := opt_e hyp
  refine pSO (As := [.ref la, .long r_1, .long r_2, .int a1]) (rest := [.int 1, .ref pq]) ⟨hx, hb, hml, hown, hts⟩ hE (mX5_timesIn l g (cx :: ct) (some la) r_1 r_2 a1 r_3 hr_3) (OC_ok g _ _) hO hS cf_X5_timesIn st_X5_timesIn ml_X5_33 ⟨Nat.le_trans (Nat.le_of_ble_eq_true rfl) hRf, Nat.le_trans (Nat.le_of_ble_eq_true rfl) hRl⟩ (va_P_nil) rfl hl.1 rfl (Nat.le_of_ble_eq_true rfl) dX5_init_94 ⟨Nat.zero_le _, Nat.zero_le _⟩ ?_
  refine lv_iadd hx hb dX5_init_97 ?_
  refine pf_X5_37 hx hb hts hown hin hE hP hD hS 0 rfl rfl dX5_init_98 (fun H locs hP hD hS => ?_)
  have hP : va_P g.1 vwCl [(pq, .inr (5, [.long r_1, .long r_2, .int a1, .ref la, .int ((lenI ct.length) + 1), .int (1 + r_3)])), (b, .inr (1, [.ref ca, .int kk, .int sg])), (ca, .inl (g.2.1, 49, .inl f))] H := hP
  have hD : va_D A [(pq, .inr (5, [.long r_1, .long r_2, .int a1, .ref la, .int ((lenI ct.length) + 1), .int (1 + r_3)])), (b, .inr (1, [.ref ca, .int kk, .int sg])), (ca, .inl (g.2.1, 49, .inl f))] := hD
  have hyp := some_e hyp
  subst hyp
  subst hQ
  exact rwV hx hb hr hlocks  hP hD hS dX5_init_101

def fX7_timesThereN : Option Int32 :=
  some 0
set_option maxRecDepth 100000 in
set_option maxHeartbeats 4000000 in
theorem mX7_timesThereN (l : Launch) (g : GE) (st b : Nat) (sd : Int32) (mv : Int32) (gm : Int32) (w1 : Int32) (w2 : Int32) (dg : Int32) (t1 : Int32) (t2 : Int32) (am : Int32) (r : Int32) (hyp : fX7_timesThereN = some r) : PI l yX7_timesThere cX7_timesThere 1 (some .int) 0 0 g [(st, .inr (7, [.ref b, .int sd, .int mv, .int gm, .null, .int w1, .int w2, .int dg, .int t1, .int t2, .int am]))] [.ref st] r := by
  refine metP_intro (by decide) rfl ?_
  intro p e R s m args below meth c Q hRf hRl hQ hx hb hml hr hlocks hown hts hin hE hP ls hl
  have hown : s.vm.findClass "HallGuards$State" = some m.cls := hown
  have hl : lv_has ls 1 [(0, .ref st)] := hl
  unfold fX7_timesThereN at hyp
  refine lv_aload_n hx hb dX7_timesThere_0 rfl (lv_at hl 0 rfl) ?_
  refine gf_X7_32 hx hb hts hown hE hP 0 rfl rfl dX7_timesThere_1 ?_
  refine lv_ifnonnullN hx hb dX7_timesThere_4 ?_
  refine lv_iconst (v := 0) hx hb dX7_timesThere_7 (by decide) ?_
  refine lv_goto (tgt := 18) hx hb dX7_timesThere_8 (by decide) ?_
  subst hQ
  exact rI hx hb hr hlocks (some_e hyp) dX7_timesThere_18

def fX7_timesThereS (cx : PC) : Option Int32 :=
  some (cx.2.2.2)
set_option maxRecDepth 100000 in
set_option maxHeartbeats 4000000 in
theorem mX7_timesThereS (l : Launch) (g : GE) (st b la : Nat) (sd : Int32) (mv : Int32) (gm : Int32) (w1 : Int32) (w2 : Int32) (dg : Int32) (t1 : Int32) (t2 : Int32) (am : Int32) (cx : PC) (ct : List PC) (r : Int32) (hyp : fX7_timesThereS cx = some r) : WMO l yX7_timesThere cX7_timesThere 1 (some .int) 0 0 g [(st, .inr (7, [.ref b, .int sd, .int mv, .int gm, .ref la, .int w1, .int w2, .int dg, .int t1, .int t2, .int am]))] (OC g (cx :: ct) (some la)) [.ref st] (some (.int r)) [(st, .inr (7, [.ref b, .int sd, .int mv, .int gm, .ref la, .int w1, .int w2, .int dg, .int t1, .int t2, .int am]))] := by
  refine metWO_intro (by decide) rfl ?_
  intro p e R s m args below meth c Q A hRf hRl hQ hx hb hml hr hlocks hown hts hin hE hA hO H locs hP hD hS ls hl
  obtain ⟨eb, hC⟩ := OC_head hO
  have hown : s.vm.findClass "HallGuards$State" = some m.cls := hown
  have hl : lv_has ls 1 [(0, .ref st)] := hl
  unfold fX7_timesThereS at hyp
  refine lv_aload_n hx hb dX7_timesThere_0 rfl (lv_at hl 0 rfl) ?_
  refine gf_X7_32 hx hb hts hown hE hP 0 rfl rfl dX7_timesThere_1 ?_
  refine lv_ifnonnull (tgt := 11) hx hb dX7_timesThere_4 (by decide) ?_
  refine lv_aload_n hx hb dX7_timesThere_11 rfl (lv_at hl 0 rfl) ?_
  refine gf_X7_32 hx hb hts hown hE hP 0 rfl rfl dX7_timesThere_12 ?_
  refine gf_X7_69 hx hb hts hown hE (hC _ _ hS) 0 rfl rfl dX7_timesThere_15 ?_
  have hyp := some_e hyp
  subst hyp
  subst hQ
  exact rwI hx hb hr hlocks  hP hD hS dX7_timesThere_18

def fX7_judge (sd : Int32) (mv : Int32) (w1 : Int32) (w2 : Int32) (dg : Int32) (kk : Int32) (f : Nat → Int32) (cx : PC) (a1 : Int32) : Option (Int32 × Int32 × Int32 × Int32) :=
  (fX1_isWonBy kk f a1 1).bind (fun (r_1 : Int32) => if r_1 = 0 then ((fX7_timesThereS cx).bind (fun (r_3 : Int32) => if r_3 < 3 then (some (sd, w1, w2, dg)) else (some (4, w1, w2, dg + 1)))) else (if (1 - mv) = 0 then (some (2 + (1 - mv), w1 + 1, w2, dg)) else (some (2 + (1 - mv), w1, w2 + 1, dg))))
set_option maxRecDepth 100000 in
set_option maxHeartbeats 4000000 in
theorem mX7_judge (l : Launch) (g : GE) (st b ca la : Nat) (sd : Int32) (mv : Int32) (gm : Int32) (w1 : Int32) (w2 : Int32) (dg : Int32) (t1 : Int32) (t2 : Int32) (am : Int32) (kk : Int32) (sg : Int32) (f : Nat → Int32) (cx : PC) (ct : List PC) (a1 : Int32) (r : Int32 × Int32 × Int32 × Int32) (hyp : fX7_judge sd mv w1 w2 dg kk f cx a1 = some r) : WMO l yX7_judge cX7_judge 3 none 4 92 g [(st, .inr (7, [.ref b, .int sd, .int mv, .int gm, .ref la, .int w1, .int w2, .int dg, .int t1, .int t2, .int am])), (b, .inr (1, [.ref ca, .int kk, .int sg])), (ca, .inl (g.2.1, 49, .inl f))] (OC g (cx :: ct) (some la)) [.ref st, .int a1] none [(st, .inr (7, [.ref b, .int r.1, .int mv, .int gm, .ref la, .int r.2.1, .int r.2.2.1, .int r.2.2.2, .int t1, .int t2, .int am])), (b, .inr (1, [.ref ca, .int kk, .int sg])), (ca, .inl (g.2.1, 49, .inl f))] := by
  refine metWO_intro (by decide) rfl ?_
  intro p e R s m args below meth c Q A hRf hRl hQ hx hb hml hr hlocks hown hts hin hE hA hO H locs hP hD hS ls hl
  obtain ⟨eb, hC⟩ := OC_head hO
  have hown : s.vm.findClass "HallGuards$State" = some m.cls := hown
  have hl : lv_has ls 3 [(0, .ref st), (1, .int a1)] := hl
  unfold fX7_judge at hyp
  refine lv_aload_n hx hb dX7_judge_0 rfl (lv_at hl 0 rfl) ?_
  refine gf_X7_12 hx hb hts hown hE hP 0 rfl rfl dX7_judge_1 ?_
  refine lv_iload_n hx hb dX7_judge_4 rfl (lv_at hl 1 rfl) ?_
  refine lv_iconst (v := 1) hx hb dX7_judge_5 (by decide) ?_
  obtain ⟨r_1, hr_1, hyp⟩ := opt_e hyp
  refine pV (As := [.int a1, .int 1]) (rest := []) ⟨hx, hb, hml, hown, hts⟩ hE (mX1_isWonBy l g b ca kk sg f a1 1 r_1 hr_1) cf_X1_isWonBy im_X1_isWonBy se_X1_isWonBy ml_X7_89 ⟨Nat.le_trans (Nat.le_of_ble_eq_true rfl) hRf, Nat.le_trans (Nat.le_of_ble_eq_true rfl) hRl⟩ (hP.sub (ws' := [(b, .inr (1, [.ref ca, .int kk, .int sg])), (ca, .inl (g.2.1, 49, .inl f))]) [1, 2] rfl) (ci := 1) (q0 := 0) rfl rfl rfl rfl hl.1 rfl (Nat.le_of_ble_eq_true rfl) dX7_judge_6 ⟨Nat.zero_le _, Nat.zero_le _⟩ ?_
  refine lv_if_eq (tgt := 56) hx hb dX7_judge_9 (by decide) (fun h_2 => ?_) (fun h_2 => ?_)
  · replace hyp := ite_t h_2 hyp
    refine lv_aload_n hx hb dX7_judge_56 rfl (lv_at hl 0 rfl) ?_
    obtain ⟨r_3, hr_3, hyp⟩ := opt_e hyp
    refine wVO (As := []) (rest := []) ⟨hx, hb, hml, hown, hts⟩ hE (mX7_timesThereS l g st b la sd mv gm w1 w2 dg t1 t2 am cx ct r_3 hr_3) (OC_ok g _ _) hO cf_X7_timesThere im_X7_timesThere se_X7_timesThere ml_X7_93 ⟨Nat.le_trans (Nat.le_of_ble_eq_true rfl) hRf, Nat.le_trans (Nat.le_of_ble_eq_true rfl) hRl⟩ hP hD hS hA [0] [1, 2] rfl (wr := [(b, .inr (1, [.ref ca, .int kk, .int sg])), (ca, .inl (g.2.1, 49, .inl f))]) rfl ⟨by decide, by decide⟩ (by decide) (ci := 7) (q0 := 0) rfl rfl rfl rfl hl.1 rfl (Nat.le_of_ble_eq_true rfl) dX7_judge_57 ⟨Nat.zero_le _, Nat.zero_le _⟩ (fun H locs hP hD hS => ?_)
    have hP : va_P g.1 vwCl [(b, .inr (1, [.ref ca, .int kk, .int sg])), (ca, .inl (g.2.1, 49, .inl f)), (st, .inr (7, [.ref b, .int sd, .int mv, .int gm, .ref la, .int w1, .int w2, .int dg, .int t1, .int t2, .int am]))] H := hP
    have hD : va_D A [(b, .inr (1, [.ref ca, .int kk, .int sg])), (ca, .inl (g.2.1, 49, .inl f)), (st, .inr (7, [.ref b, .int sd, .int mv, .int gm, .ref la, .int w1, .int w2, .int dg, .int t1, .int t2, .int am]))] := hD
    refine lv_iconst (v := 3) hx hb dX7_judge_60 (by decide) ?_
    refine lv_icmp_lt (tgt := 79) hx hb dX7_judge_61 (by decide) (fun h_4 => ?_) (fun h_4 => ?_)
    · replace hyp := ite_t h_4 hyp
      have hP : va_P g.1 vwCl [(st, .inr (7, [.ref b, .int sd, .int mv, .int gm, .ref la, .int w1, .int w2, .int dg, .int t1, .int t2, .int am])), (b, .inr (1, [.ref ca, .int kk, .int sg])), (ca, .inl (g.2.1, 49, .inl f))] H := hP.sub [2, 0, 1] rfl
      have hD : va_D A [(st, .inr (7, [.ref b, .int sd, .int mv, .int gm, .ref la, .int w1, .int w2, .int dg, .int t1, .int t2, .int am])), (b, .inr (1, [.ref ca, .int kk, .int sg])), (ca, .inl (g.2.1, 49, .inl f))] := hD.sub [2, 0, 1] (by decide) rfl
      have hyp := some_e hyp
      subst hyp
      subst hQ
      exact rwV hx hb hr hlocks  hP hD hS dX7_judge_79
    · replace hyp := ite_f h_4 hyp
      refine lv_aload_n hx hb dX7_judge_64 rfl (lv_at hl 0 rfl) ?_
      refine lv_iconst (v := 4) hx hb dX7_judge_65 (by decide) ?_
      refine pf_X7_22 hx hb hts hown hE hP hD hS 2 rfl rfl dX7_judge_66 (fun H locs hP hD hS => ?_)
      have hP : va_P g.1 vwCl [(b, .inr (1, [.ref ca, .int kk, .int sg])), (ca, .inl (g.2.1, 49, .inl f)), (st, .inr (7, [.ref b, .int 4, .int mv, .int gm, .ref la, .int w1, .int w2, .int dg, .int t1, .int t2, .int am]))] H := hP
      have hD : va_D A [(b, .inr (1, [.ref ca, .int kk, .int sg])), (ca, .inl (g.2.1, 49, .inl f)), (st, .inr (7, [.ref b, .int 4, .int mv, .int gm, .ref la, .int w1, .int w2, .int dg, .int t1, .int t2, .int am]))] := hD
      refine lv_aload_n hx hb dX7_judge_69 rfl (lv_at hl 0 rfl) ?_
      refine lv_dup hx hb dX7_judge_70 rfl ?_
      refine gf_X7_42 hx hb hts hown hE hP 2 rfl rfl dX7_judge_71 ?_
      refine lv_iconst (v := 1) hx hb dX7_judge_74 (by decide) ?_
      refine lv_iadd hx hb dX7_judge_75 ?_
      refine pf_X7_42 hx hb hts hown hE hP hD hS 2 rfl rfl dX7_judge_76 (fun H locs hP hD hS => ?_)
      have hP : va_P g.1 vwCl [(b, .inr (1, [.ref ca, .int kk, .int sg])), (ca, .inl (g.2.1, 49, .inl f)), (st, .inr (7, [.ref b, .int 4, .int mv, .int gm, .ref la, .int w1, .int w2, .int (dg + 1), .int t1, .int t2, .int am]))] H := hP
      have hD : va_D A [(b, .inr (1, [.ref ca, .int kk, .int sg])), (ca, .inl (g.2.1, 49, .inl f)), (st, .inr (7, [.ref b, .int 4, .int mv, .int gm, .ref la, .int w1, .int w2, .int (dg + 1), .int t1, .int t2, .int am]))] := hD
      have hP : va_P g.1 vwCl [(st, .inr (7, [.ref b, .int 4, .int mv, .int gm, .ref la, .int w1, .int w2, .int (dg + 1), .int t1, .int t2, .int am])), (b, .inr (1, [.ref ca, .int kk, .int sg])), (ca, .inl (g.2.1, 49, .inl f))] H := hP.sub [2, 0, 1] rfl
      have hD : va_D A [(st, .inr (7, [.ref b, .int 4, .int mv, .int gm, .ref la, .int w1, .int w2, .int (dg + 1), .int t1, .int t2, .int am])), (b, .inr (1, [.ref ca, .int kk, .int sg])), (ca, .inl (g.2.1, 49, .inl f))] := hD.sub [2, 0, 1] (by decide) rfl
      have hyp := some_e hyp
      subst hyp
      subst hQ
      exact rwV hx hb hr hlocks  hP hD hS dX7_judge_79
  · replace hyp := ite_f h_2 hyp
    refine lv_iconst (v := 1) hx hb dX7_judge_12 (by decide) ?_
    refine lv_aload_n hx hb dX7_judge_13 rfl (lv_at hl 0 rfl) ?_
    refine gf_X7_26 hx hb hts hown hE hP 0 rfl rfl dX7_judge_14 ?_
    refine lv_isub hx hb dX7_judge_17 ?_
    refine lv_istore_n (lv' := [(2, .int (1 - mv)), (0, .ref st), (1, .int a1)]) hx hb dX7_judge_18 rfl hl (by decide) rfl (fun ls hl => ?_)
    refine lv_aload_n hx hb dX7_judge_19 rfl (lv_at hl 1 rfl) ?_
    refine lv_iconst (v := 2) hx hb dX7_judge_20 (by decide) ?_
    refine lv_iload_n hx hb dX7_judge_21 rfl (lv_at hl 0 rfl) ?_
    refine lv_iadd hx hb dX7_judge_22 ?_
    refine pf_X7_22 hx hb hts hown hE hP hD hS 0 rfl rfl dX7_judge_23 (fun H locs hP hD hS => ?_)
    have hP : va_P g.1 vwCl [(st, .inr (7, [.ref b, .int (2 + (1 - mv)), .int mv, .int gm, .ref la, .int w1, .int w2, .int dg, .int t1, .int t2, .int am])), (b, .inr (1, [.ref ca, .int kk, .int sg])), (ca, .inl (g.2.1, 49, .inl f))] H := hP
    have hD : va_D A [(st, .inr (7, [.ref b, .int (2 + (1 - mv)), .int mv, .int gm, .ref la, .int w1, .int w2, .int dg, .int t1, .int t2, .int am])), (b, .inr (1, [.ref ca, .int kk, .int sg])), (ca, .inl (g.2.1, 49, .inl f))] := hD
    refine lv_iload_n hx hb dX7_judge_26 rfl (lv_at hl 0 rfl) ?_
    refine lv_if_ne (tgt := 43) hx hb dX7_judge_27 (by decide) (fun h_5 => ?_) (fun h_5 => ?_)
    · replace hyp := ite_f h_5 hyp
      refine lv_aload_n hx hb dX7_judge_43 rfl (lv_at hl 1 rfl) ?_
      refine lv_dup hx hb dX7_judge_44 rfl ?_
      refine gf_X7_39 hx hb hts hown hE hP 0 rfl rfl dX7_judge_45 ?_
      refine lv_iconst (v := 1) hx hb dX7_judge_48 (by decide) ?_
      refine lv_iadd hx hb dX7_judge_49 ?_
      refine pf_X7_39 hx hb hts hown hE hP hD hS 0 rfl rfl dX7_judge_50 (fun H locs hP hD hS => ?_)
      have hP : va_P g.1 vwCl [(st, .inr (7, [.ref b, .int (2 + (1 - mv)), .int mv, .int gm, .ref la, .int w1, .int (w2 + 1), .int dg, .int t1, .int t2, .int am])), (b, .inr (1, [.ref ca, .int kk, .int sg])), (ca, .inl (g.2.1, 49, .inl f))] H := hP
      have hD : va_D A [(st, .inr (7, [.ref b, .int (2 + (1 - mv)), .int mv, .int gm, .ref la, .int w1, .int (w2 + 1), .int dg, .int t1, .int t2, .int am])), (b, .inr (1, [.ref ca, .int kk, .int sg])), (ca, .inl (g.2.1, 49, .inl f))] := hD
      refine lv_goto (tgt := 79) hx hb dX7_judge_53 (by decide) ?_
      have hyp := some_e hyp
      subst hyp
      subst hQ
      exact rwV hx hb hr hlocks  hP hD hS dX7_judge_79
    · replace hyp := ite_t h_5 hyp
      refine lv_aload_n hx hb dX7_judge_30 rfl (lv_at hl 1 rfl) ?_
      refine lv_dup hx hb dX7_judge_31 rfl ?_
      refine gf_X7_36 hx hb hts hown hE hP 0 rfl rfl dX7_judge_32 ?_
      refine lv_iconst (v := 1) hx hb dX7_judge_35 (by decide) ?_
      refine lv_iadd hx hb dX7_judge_36 ?_
      refine pf_X7_36 hx hb hts hown hE hP hD hS 0 rfl rfl dX7_judge_37 (fun H locs hP hD hS => ?_)
      have hP : va_P g.1 vwCl [(st, .inr (7, [.ref b, .int (2 + (1 - mv)), .int mv, .int gm, .ref la, .int (w1 + 1), .int w2, .int dg, .int t1, .int t2, .int am])), (b, .inr (1, [.ref ca, .int kk, .int sg])), (ca, .inl (g.2.1, 49, .inl f))] H := hP
      have hD : va_D A [(st, .inr (7, [.ref b, .int (2 + (1 - mv)), .int mv, .int gm, .ref la, .int (w1 + 1), .int w2, .int dg, .int t1, .int t2, .int am])), (b, .inr (1, [.ref ca, .int kk, .int sg])), (ca, .inl (g.2.1, 49, .inl f))] := hD
      refine lv_goto (tgt := 53) hx hb dX7_judge_40 (by decide) ?_
      refine lv_goto (tgt := 79) hx hb dX7_judge_53 (by decide) ?_
      have hyp := some_e hyp
      subst hyp
      subst hQ
      exact rwV hx hb hr hlocks  hP hD hS dX7_judge_79

def fX7_begin (f : Nat → Int32) (a1 : Int32) : Option (Int32 × Int32 × Int32 × PC) :=
  (fX5_initN f a1).bind (fun (r_2 : Int64 × Int64 × Int32 × (Option Nat) × Int32 × Int32) => grd (decide (r_2.2.2.2.1 = none ∧ r_2.2.2.2.2.1 = lenI 0)) (some (1, a1, 0, (r_2.1, r_2.2.1, r_2.2.2.1, r_2.2.2.2.2.2))))
set_option maxRecDepth 100000 in
set_option maxHeartbeats 4000000 in
theorem mX7_begin (l : Launch) (hl0 : l.stackTraces = false) (g : GE) (st b ca zc zp : Nat) (sd : Int32) (mv : Int32) (gm : Int32) (lt : Option Nat) (w1 : Int32) (w2 : Int32) (dg : Int32) (t1 : Int32) (t2 : Int32) (am : Int32) (kk : Int32) (sg : Int32) (f : Nat → Int32) (a1 : Int32) (r : Int32 × Int32 × Int32 × PC) (hyp : fX7_begin f a1 = some r) : XM l yX7_begin cX7_begin 2 none 3 69 1 6 g [(st, .inr (7, [.ref b, .int sd, .int mv, .int gm, va_rf lt, .int w1, .int w2, .int dg, .int t1, .int t2, .int am])), (b, .inr (1, [.ref ca, .int kk, .int sg])), (ca, .inl (g.2.1, 49, .inl f))] (OZ g zc zp [] none) [.ref st, .int a1] 0 none (fun na => [(st, .inr (7, [.ref b, .int r.1, .int r.2.1, .int r.2.2.1, .ref na, .int w1, .int w2, .int dg, .int t1, .int t2, .int am])), (b, .inr (1, [.ref ca, .int kk, .int sg])), (ca, .inl (g.2.1, 49, .inl f)), (na, pcell none 0 r.2.2.2)]) (fun _ => [(st, .inr (7, [.ref b, .int r.1, .int r.2.1, .int r.2.2.1, va_rf lt, .int w1, .int w2, .int dg, .int t1, .int t2, .int am])), (b, .inr (1, [.ref ca, .int kk, .int sg])), (ca, .inl (g.2.1, 49, .inl f))]) := by
  refine metX_intro (by decide) rfl ?_
  intro p e R s m args below meth c Q A hRf hRl hRc hRs hQ hx hb hml hr hlocks hex hown hts hin hE hSR hA hO H locs hP hD hS ls hl
  have hown : s.vm.findClass "HallGuards$State" = some m.cls := hown
  have hl : lv_has ls 2 [(0, .ref st), (1, .int a1)] := hl
  unfold fX7_begin at hyp
  refine lv_aload_n hx hb dX7_begin_0 rfl (lv_at hl 0 rfl) ?_
  refine lv_iconst (v := 1) hx hb dX7_begin_1 (by decide) ?_
  refine pf_X7_22 hx hb hts hown hE hP hD hS 0 rfl rfl dX7_begin_2 (fun H locs hP hD hS => ?_)
  have hP : va_P g.1 vwCl [(st, .inr (7, [.ref b, .int 1, .int mv, .int gm, va_rf lt, .int w1, .int w2, .int dg, .int t1, .int t2, .int am])), (b, .inr (1, [.ref ca, .int kk, .int sg])), (ca, .inl (g.2.1, 49, .inl f))] H := hP
  have hD : va_D A [(st, .inr (7, [.ref b, .int 1, .int mv, .int gm, va_rf lt, .int w1, .int w2, .int dg, .int t1, .int t2, .int am])), (b, .inr (1, [.ref ca, .int kk, .int sg])), (ca, .inl (g.2.1, 49, .inl f))] := hD
  refine lv_aload_n hx hb dX7_begin_5 rfl (lv_at hl 0 rfl) ?_
  refine lv_iload_n hx hb dX7_begin_6 rfl (lv_at hl 1 rfl) ?_
  refine pf_X7_26 hx hb hts hown hE hP hD hS 0 rfl rfl dX7_begin_7 (fun H locs hP hD hS => ?_)
  have hP : va_P g.1 vwCl [(st, .inr (7, [.ref b, .int 1, .int a1, .int gm, va_rf lt, .int w1, .int w2, .int dg, .int t1, .int t2, .int am])), (b, .inr (1, [.ref ca, .int kk, .int sg])), (ca, .inl (g.2.1, 49, .inl f))] H := hP
  have hD : va_D A [(st, .inr (7, [.ref b, .int 1, .int a1, .int gm, va_rf lt, .int w1, .int w2, .int dg, .int t1, .int t2, .int am])), (b, .inr (1, [.ref ca, .int kk, .int sg])), (ca, .inl (g.2.1, 49, .inl f))] := hD
  refine lv_aload_n hx hb dX7_begin_10 rfl (lv_at hl 0 rfl) ?_
  refine lv_iconst (v := 0) hx hb dX7_begin_11 (by decide) ?_
  refine pf_X7_29 hx hb hts hown hE hP hD hS 0 rfl rfl dX7_begin_12 (fun H locs hP hD hS => ?_)
  have hP : va_P g.1 vwCl [(st, .inr (7, [.ref b, .int 1, .int a1, .int 0, va_rf lt, .int w1, .int w2, .int dg, .int t1, .int t2, .int am])), (b, .inr (1, [.ref ca, .int kk, .int sg])), (ca, .inl (g.2.1, 49, .inl f))] H := hP
  have hD : va_D A [(st, .inr (7, [.ref b, .int 1, .int a1, .int 0, va_rf lt, .int w1, .int w2, .int dg, .int t1, .int t2, .int am])), (b, .inr (1, [.ref ca, .int kk, .int sg])), (ca, .inl (g.2.1, 49, .inl f))] := hD
  refine lv_aload_n hx hb dX7_begin_15 rfl (lv_at hl 0 rfl) ?_
  refine newP hx hb hts hown cl_X7_64 inX5 ins_X5 ini_X5 hE hP hD hS hA ⟨Nat.le_trans (Nat.le_of_ble_eq_true rfl) hRc, Nat.le_trans (Nat.le_of_ble_eq_true rfl) hRs⟩ dX7_begin_16 (fun na_1 H hna_1 hP hD hS => ?_)
  have hP : va_P g.1 vwCl [(st, .inr (7, [.ref b, .int 1, .int a1, .int 0, va_rf lt, .int w1, .int w2, .int dg, .int t1, .int t2, .int am])), (b, .inr (1, [.ref ca, .int kk, .int sg])), (ca, .inl (g.2.1, 49, .inl f)), (na_1, .inr (5, [.long 0, .long 0, .int 0, .null, .int 0, .int 0]))] H := hP
  have hD : va_D A [(st, .inr (7, [.ref b, .int 1, .int a1, .int 0, va_rf lt, .int w1, .int w2, .int dg, .int t1, .int t2, .int am])), (b, .inr (1, [.ref ca, .int kk, .int sg])), (ca, .inl (g.2.1, 49, .inl f)), (na_1, .inr (5, [.long 0, .long 0, .int 0, .null, .int 0, .int 0]))] := hD
  refine lv_dup hx hb dX7_begin_19 rfl ?_
  refine lv_aload_n hx hb dX7_begin_20 rfl (lv_at hl 0 rfl) ?_
  refine gf_X7_12 hx hb hts hown hE hP 0 rfl rfl dX7_begin_21 ?_
  refine lv_iload_n hx hb dX7_begin_24 rfl (lv_at hl 1 rfl) ?_
  refine lv_null hx hb dX7_begin_25 ?_
  obtain ⟨r_2, hr_2, hyp⟩ := opt_e hyp
  refine wIO (As := [.ref b, .int a1, .null]) (rest := [.ref na_1, .ref st]) ⟨hx, hb, hml, hown, hts⟩ hE (mX5_initN l g na_1 b ca 0 0 0 none 0 0 kk sg f a1 r_2 hr_2) (OC_ok g _ _) OC_nil cf_X5_init im_X5_init rfl ml_X7_66 ⟨Nat.le_trans (Nat.le_of_ble_eq_true rfl) hRf, Nat.le_trans (Nat.le_of_ble_eq_true rfl) hRl⟩ hP hD hS hA [3, 1, 2] [0] rfl (wr := [(st, .inr (7, [.ref b, .int 1, .int a1, .int 0, va_rf lt, .int w1, .int w2, .int dg, .int t1, .int t2, .int am]))]) rfl ⟨by decide, by decide⟩ (by decide) rfl hl.1 rfl (Nat.le_of_ble_eq_true rfl) dX7_begin_26 ⟨Nat.le_trans (Nat.le_of_ble_eq_true rfl) hRc, Nat.le_trans (Nat.le_of_ble_eq_true rfl) hRs⟩ (fun H locs hP hD hS => ?_)
  have hP : va_P g.1 vwCl [(st, .inr (7, [.ref b, .int 1, .int a1, .int 0, va_rf lt, .int w1, .int w2, .int dg, .int t1, .int t2, .int am])), (na_1, .inr (5, [.long r_2.1, .long r_2.2.1, .int r_2.2.2.1, va_rf r_2.2.2.2.1, .int r_2.2.2.2.2.1, .int r_2.2.2.2.2.2])), (b, .inr (1, [.ref ca, .int kk, .int sg])), (ca, .inl (g.2.1, 49, .inl f))] H := hP
  have hD : va_D A [(st, .inr (7, [.ref b, .int 1, .int a1, .int 0, va_rf lt, .int w1, .int w2, .int dg, .int t1, .int t2, .int am])), (na_1, .inr (5, [.long r_2.1, .long r_2.2.1, .int r_2.2.2.1, va_rf r_2.2.2.2.1, .int r_2.2.2.2.2.1, .int r_2.2.2.2.2.2])), (b, .inr (1, [.ref ca, .int kk, .int sg])), (ca, .inl (g.2.1, 49, .inl f))] := hD
  obtain ⟨hi, hyp⟩ := grd_e hyp
  rw [pcell_eq (of_decide_eq_true hi)] at hP hD
  have hP : va_P g.1 vwCl [(st, .inr (7, [.ref b, .int 1, .int a1, .int 0, va_rf lt, .int w1, .int w2, .int dg, .int t1, .int t2, .int am])), (na_1, pcell none 0 (r_2.1, r_2.2.1, r_2.2.2.1, r_2.2.2.2.2.2)), (b, .inr (1, [.ref ca, .int kk, .int sg])), (ca, .inl (g.2.1, 49, .inl f))] H := hP
  have hD : va_D A [(st, .inr (7, [.ref b, .int 1, .int a1, .int 0, va_rf lt, .int w1, .int w2, .int dg, .int t1, .int t2, .int am])), (na_1, pcell none 0 (r_2.1, r_2.2.1, r_2.2.2.1, r_2.2.2.2.2.2)), (b, .inr (1, [.ref ca, .int kk, .int sg])), (ca, .inl (g.2.1, 49, .inl f))] := hD
  refine pf_X7_32 hx hb hts hown hE hP hD hS 0 rfl rfl rfl rfl dX7_begin_29 (fun H locs hP hD hS => ?_)
  have hP : va_P g.1 vwCl [(st, .inr (7, [.ref b, .int 1, .int a1, .int 0, .ref na_1, .int w1, .int w2, .int dg, .int t1, .int t2, .int am])), (na_1, pcell none 0 (r_2.1, r_2.2.1, r_2.2.2.1, r_2.2.2.2.2.2)), (b, .inr (1, [.ref ca, .int kk, .int sg])), (ca, .inl (g.2.1, 49, .inl f))] H := hP
  have hD : va_D A [(st, .inr (7, [.ref b, .int 1, .int a1, .int 0, .ref na_1, .int w1, .int w2, .int dg, .int t1, .int t2, .int am])), (na_1, pcell none 0 (r_2.1, r_2.2.1, r_2.2.2.1, r_2.2.2.2.2.2)), (b, .inr (1, [.ref ca, .int kk, .int sg])), (ca, .inl (g.2.1, 49, .inl f))] := hD
  have hP : va_P g.1 vwCl [(st, .inr (7, [.ref b, .int 1, .int a1, .int 0, .ref na_1, .int w1, .int w2, .int dg, .int t1, .int t2, .int am])), (b, .inr (1, [.ref ca, .int kk, .int sg])), (ca, .inl (g.2.1, 49, .inl f)), (na_1, pcell none 0 (r_2.1, r_2.2.1, r_2.2.2.1, r_2.2.2.2.2.2))] H := hP.sub [0, 2, 3, 1] rfl
  have hD : va_D A [(st, .inr (7, [.ref b, .int 1, .int a1, .int 0, .ref na_1, .int w1, .int w2, .int dg, .int t1, .int t2, .int am])), (b, .inr (1, [.ref ca, .int kk, .int sg])), (ca, .inl (g.2.1, 49, .inl f)), (na_1, pcell none 0 (r_2.1, r_2.2.1, r_2.2.2.1, r_2.2.2.2.2.2))] := hD.sub [0, 2, 3, 1] (by decide) rfl
  have hyp := some_e hyp
  subst hyp
  subst hQ
  exact xrV (na := na_1) hx hb hr hlocks hna_1 hP hD hS (Nat.le_of_ble_eq_true rfl) (Nat.le_of_ble_eq_true rfl) dX7_begin_32

def fX7_makeMove (la : Nat) (sd : Int32) (mv : Int32) (gm : Int32) (w1 : Int32) (w2 : Int32) (dg : Int32) (t1 : Int32) (t2 : Int32) (am : Int32) (kk : Int32) (sg : Int32) (f : Nat → Int32) (cx : PC) (ct : List PC) (a1 : Int32) (a2 : Int32) : Option (Int32 × (Nat → Int32) × Int32 × Int32 × Int32 × Int32 × Int32 × Int32 × Int32 × Int32 × Int32 × Int32 × PC) :=
  (fX1_carryOut kk sg f a1 a2).bind (fun (r_1 : Int32 × (Nat → Int32) × Int32) => jn (fun (wf_2 : Nat → Int32) (wkk_3 : Int32) (wsd_4 : Int32) (wmv_5 : Int32) (wgm_6 : Int32) (ww1_7 : Int32) (ww2_8 : Int32) (wdg_9 : Int32) (wt1_10 : Int32) (wt2_11 : Int32) (wam_12 : Int32) => (fX5_initS la wf_2 cx ct (1 - wmv_5)).bind (fun (r_15 : Int64 × Int64 × Int32 × (Option Nat) × Int32 × Int32) => grd (decide (r_15.2.2.2.1 = (some la) ∧ r_15.2.2.2.2.1 = lenI (ct.length + 1))) ((fX7_judge wsd_4 (1 - wmv_5) ww1_7 ww2_8 wdg_9 wkk_3 wf_2 (r_15.1, r_15.2.1, r_15.2.2.1, r_15.2.2.2.2.2) a2).bind (fun (r_16 : Int32 × Int32 × Int32 × Int32) => some (r_1.1, wf_2, wkk_3, r_16.1, 1 - wmv_5, wgm_6 + 1, r_16.2.1, r_16.2.2.1, r_16.2.2.2, wt1_10, wt2_11, wam_12 + 1, (r_15.1, r_15.2.1, r_15.2.2.1, r_15.2.2.2.2.2)))))) (fun J_13 => if mv = 0 then (J_13 r_1.2.1 r_1.2.2 sd mv gm w1 w2 dg t1 (t2 + r_1.1) am) else (J_13 r_1.2.1 r_1.2.2 sd mv gm w1 w2 dg (t1 + r_1.1) t2 am)))
set_option maxRecDepth 100000 in
set_option maxHeartbeats 4000000 in
theorem mX7_makeMove (l : Launch) (hl0 : l.stackTraces = false) (g : GE) (st b ca la zc zp : Nat) (sd : Int32) (mv : Int32) (gm : Int32) (w1 : Int32) (w2 : Int32) (dg : Int32) (t1 : Int32) (t2 : Int32) (am : Int32) (kk : Int32) (sg : Int32) (f : Nat → Int32) (cx : PC) (ct : List PC) (a1 : Int32) (a2 : Int32) (r : Int32 × (Nat → Int32) × Int32 × Int32 × Int32 × Int32 × Int32 × Int32 × Int32 × Int32 × Int32 × Int32 × PC) (hyp : fX7_makeMove la sd mv gm w1 w2 dg t1 t2 am kk sg f cx ct a1 a2 = some r) : XM l yX7_makeMove cX7_makeMove 4 (some .int) 5 114 1 6 g [(st, .inr (7, [.ref b, .int sd, .int mv, .int gm, .ref la, .int w1, .int w2, .int dg, .int t1, .int t2, .int am])), (b, .inr (1, [.ref ca, .int kk, .int sg])), (ca, .inl (g.2.1, 49, .inl f))] (OZ g zc zp (cx :: ct) (some la)) [.ref st, .int a1, .int a2] 0 (some (.int r.1)) (fun na => [(st, .inr (7, [.ref b, .int r.2.2.2.1, .int r.2.2.2.2.1, .int r.2.2.2.2.2.1, .ref na, .int r.2.2.2.2.2.2.1, .int r.2.2.2.2.2.2.2.1, .int r.2.2.2.2.2.2.2.2.1, .int r.2.2.2.2.2.2.2.2.2.1, .int r.2.2.2.2.2.2.2.2.2.2.1, .int r.2.2.2.2.2.2.2.2.2.2.2.1])), (b, .inr (1, [.ref ca, .int r.2.2.1, .int sg])), (ca, .inl (g.2.1, 49, .inl r.2.1)), (na, pcell (some la) (ct.length + 1) r.2.2.2.2.2.2.2.2.2.2.2.2)]) (fun _ => [(st, .inr (7, [.ref b, .int r.2.2.2.1, .int r.2.2.2.2.1, .int r.2.2.2.2.2.1, .ref la, .int r.2.2.2.2.2.2.1, .int r.2.2.2.2.2.2.2.1, .int r.2.2.2.2.2.2.2.2.1, .int r.2.2.2.2.2.2.2.2.2.1, .int r.2.2.2.2.2.2.2.2.2.2.1, .int r.2.2.2.2.2.2.2.2.2.2.2.1])), (b, .inr (1, [.ref ca, .int r.2.2.1, .int sg])), (ca, .inl (g.2.1, 49, .inl r.2.1))]) := by
  refine metX_intro (by decide) rfl ?_
  intro p e R s m args below meth c Q A hRf hRl hRc hRs hQ hx hb hml hr hlocks hex hown hts hin hE hSR hA hO H locs hP hD hS ls hl
  obtain ⟨eb, hC⟩ := OC_head hO.2.2
  have hown : s.vm.findClass "HallGuards$State" = some m.cls := hown
  have hl : lv_has ls 4 [(0, .ref st), (1, .int a1), (2, .int a2)] := hl
  unfold fX7_makeMove at hyp
  refine lv_aload_n hx hb dX7_makeMove_0 rfl (lv_at hl 0 rfl) ?_
  refine gf_X7_12 hx hb hts hown hE hP 0 rfl rfl dX7_makeMove_1 ?_
  refine lv_iload_n hx hb dX7_makeMove_4 rfl (lv_at hl 1 rfl) ?_
  refine lv_iload_n hx hb dX7_makeMove_5 rfl (lv_at hl 2 rfl) ?_
  obtain ⟨r_1, hr_1, hyp⟩ := opt_e hyp
  refine wV (As := [.int a1, .int a2]) (rest := []) ⟨hx, hb, hml, hown, hts⟩ hE (mX1_carryOut l g b ca kk sg f a1 a2 r_1 hr_1) cf_X1_carryOut im_X1_carryOut se_X1_carryOut ml_X7_83 ⟨Nat.le_trans (Nat.le_of_ble_eq_true rfl) hRf, Nat.le_trans (Nat.le_of_ble_eq_true rfl) hRl⟩ hP hD hS hA [1, 2] [0] rfl (wr := [(st, .inr (7, [.ref b, .int sd, .int mv, .int gm, .ref la, .int w1, .int w2, .int dg, .int t1, .int t2, .int am]))]) rfl ⟨by decide, by decide⟩ (by decide) (ci := 1) (q0 := 0) rfl rfl rfl rfl hl.1 rfl (Nat.le_of_ble_eq_true rfl) dX7_makeMove_6 ⟨Nat.le_trans (Nat.le_of_ble_eq_true rfl) hRc, Nat.le_trans (Nat.le_of_ble_eq_true rfl) hRs⟩ (fun H locs hP hD hS => ?_)
  have hP : va_P g.1 vwCl [(st, .inr (7, [.ref b, .int sd, .int mv, .int gm, .ref la, .int w1, .int w2, .int dg, .int t1, .int t2, .int am])), (b, .inr (1, [.ref ca, .int r_1.2.2, .int sg])), (ca, .inl (g.2.1, 49, .inl r_1.2.1))] H := hP
  have hD : va_D A [(st, .inr (7, [.ref b, .int sd, .int mv, .int gm, .ref la, .int w1, .int w2, .int dg, .int t1, .int t2, .int am])), (b, .inr (1, [.ref ca, .int r_1.2.2, .int sg])), (ca, .inl (g.2.1, 49, .inl r_1.2.1))] := hD
  refine lv_istore_n (lv' := [(3, .int r_1.1), (0, .ref st), (1, .int a1), (2, .int a2)]) hx hb dX7_makeMove_9 rfl hl (by decide) rfl (fun ls hl => ?_)
  refine lv_aload_n hx hb dX7_makeMove_10 rfl (lv_at hl 1 rfl) ?_
  refine gf_X7_26 hx hb hts hown hE hP 0 rfl rfl dX7_makeMove_11 ?_
  obtain ⟨J_13, eJ_13, hyp⟩ := jn_e hyp
  have kJ_13 : ∀ (wf_2 : Nat → Int32) (wkk_3 : Int32) (wsd_4 : Int32) (wmv_5 : Int32) (wgm_6 : Int32) (ww1_7 : Int32) (ww2_8 : Int32) (wdg_9 : Int32) (wt1_10 : Int32) (wt2_11 : Int32) (wam_12 : Int32) (H : Heap) (locs : List Loc) (ls : Array Slot), J_13 wf_2 wkk_3 wsd_4 wmv_5 wgm_6 ww1_7 ww2_8 wdg_9 wt1_10 wt2_11 wam_12 = some r → lv_has ls 4 [(0, .ref st), (2, .int a2), (3, .int r_1.1)] → va_P g.1 vwCl [(st, .inr (7, [.ref b, .int wsd_4, .int wmv_5, .int wgm_6, .ref la, .int ww1_7, .int ww2_8, .int wdg_9, .int wt1_10, .int wt2_11, .int wam_12])), (b, .inr (1, [.ref ca, .int wkk_3, .int sg])), (ca, .inl (g.2.1, 49, .inl wf_2))] H → va_D A [(st, .inr (7, [.ref b, .int wsd_4, .int wmv_5, .int wgm_6, .ref la, .int ww1_7, .int ww2_8, .int wdg_9, .int wt1_10, .int wt2_11, .int wam_12])), (b, .inr (1, [.ref ca, .int wkk_3, .int sg])), (ca, .inl (g.2.1, 49, .inl wf_2))] → va_S A s.heap H locs → W p l e R s m args below meth c H locs 0 0 Q (F0 m 40 ls []) := by
    intro wf_2 wkk_3 wsd_4 wmv_5 wgm_6 ww1_7 ww2_8 wdg_9 wt1_10 wt2_11 wam_12 H locs  ls hyp hl hP hD hS
    replace hyp := (congrFun (congrFun (congrFun (congrFun (congrFun (congrFun (congrFun (congrFun (congrFun (congrFun (congrFun (eJ_13) wf_2) wkk_3) wsd_4) wmv_5) wgm_6) ww1_7) ww2_8) wdg_9) wt1_10) wt2_11) wam_12).symm.trans hyp
    refine lv_aload_n hx hb dX7_makeMove_40 rfl (lv_at hl 0 rfl) ?_
    refine lv_dup hx hb dX7_makeMove_41 rfl ?_
    refine gf_X7_29 hx hb hts hown hE hP 0 rfl rfl dX7_makeMove_42 ?_
    refine lv_iconst (v := 1) hx hb dX7_makeMove_45 (by decide) ?_
    refine lv_iadd hx hb dX7_makeMove_46 ?_
    refine pf_X7_29 hx hb hts hown hE hP hD hS 0 rfl rfl dX7_makeMove_47 (fun H locs hP hD hS => ?_)
    have hP : va_P g.1 vwCl [(st, .inr (7, [.ref b, .int wsd_4, .int wmv_5, .int (wgm_6 + 1), .ref la, .int ww1_7, .int ww2_8, .int wdg_9, .int wt1_10, .int wt2_11, .int wam_12])), (b, .inr (1, [.ref ca, .int wkk_3, .int sg])), (ca, .inl (g.2.1, 49, .inl wf_2))] H := hP
    have hD : va_D A [(st, .inr (7, [.ref b, .int wsd_4, .int wmv_5, .int (wgm_6 + 1), .ref la, .int ww1_7, .int ww2_8, .int wdg_9, .int wt1_10, .int wt2_11, .int wam_12])), (b, .inr (1, [.ref ca, .int wkk_3, .int sg])), (ca, .inl (g.2.1, 49, .inl wf_2))] := hD
    refine lv_aload_n hx hb dX7_makeMove_50 rfl (lv_at hl 0 rfl) ?_
    refine lv_dup hx hb dX7_makeMove_51 rfl ?_
    refine gf_X7_51 hx hb hts hown hE hP 0 rfl rfl dX7_makeMove_52 ?_
    refine lv_iconst (v := 1) hx hb dX7_makeMove_55 (by decide) ?_
    refine lv_iadd hx hb dX7_makeMove_56 ?_
    refine pf_X7_51 hx hb hts hown hE hP hD hS 0 rfl rfl dX7_makeMove_57 (fun H locs hP hD hS => ?_)
    have hP : va_P g.1 vwCl [(st, .inr (7, [.ref b, .int wsd_4, .int wmv_5, .int (wgm_6 + 1), .ref la, .int ww1_7, .int ww2_8, .int wdg_9, .int wt1_10, .int wt2_11, .int (wam_12 + 1)])), (b, .inr (1, [.ref ca, .int wkk_3, .int sg])), (ca, .inl (g.2.1, 49, .inl wf_2))] H := hP
    have hD : va_D A [(st, .inr (7, [.ref b, .int wsd_4, .int wmv_5, .int (wgm_6 + 1), .ref la, .int ww1_7, .int ww2_8, .int wdg_9, .int wt1_10, .int wt2_11, .int (wam_12 + 1)])), (b, .inr (1, [.ref ca, .int wkk_3, .int sg])), (ca, .inl (g.2.1, 49, .inl wf_2))] := hD
    refine lv_aload_n hx hb dX7_makeMove_60 rfl (lv_at hl 0 rfl) ?_
    refine lv_iconst (v := 1) hx hb dX7_makeMove_61 (by decide) ?_
    refine lv_aload_n hx hb dX7_makeMove_62 rfl (lv_at hl 0 rfl) ?_
    refine gf_X7_26 hx hb hts hown hE hP 0 rfl rfl dX7_makeMove_63 ?_
    refine lv_isub hx hb dX7_makeMove_66 ?_
    refine pf_X7_26 hx hb hts hown hE hP hD hS 0 rfl rfl dX7_makeMove_67 (fun H locs hP hD hS => ?_)
    have hP : va_P g.1 vwCl [(st, .inr (7, [.ref b, .int wsd_4, .int (1 - wmv_5), .int (wgm_6 + 1), .ref la, .int ww1_7, .int ww2_8, .int wdg_9, .int wt1_10, .int wt2_11, .int (wam_12 + 1)])), (b, .inr (1, [.ref ca, .int wkk_3, .int sg])), (ca, .inl (g.2.1, 49, .inl wf_2))] H := hP
    have hD : va_D A [(st, .inr (7, [.ref b, .int wsd_4, .int (1 - wmv_5), .int (wgm_6 + 1), .ref la, .int ww1_7, .int ww2_8, .int wdg_9, .int wt1_10, .int wt2_11, .int (wam_12 + 1)])), (b, .inr (1, [.ref ca, .int wkk_3, .int sg])), (ca, .inl (g.2.1, 49, .inl wf_2))] := hD
    refine lv_aload_n hx hb dX7_makeMove_70 rfl (lv_at hl 0 rfl) ?_
    refine newP hx hb hts hown cl_X7_64 inX5 ins_X5 ini_X5 hE hP hD hS hA ⟨Nat.le_trans (Nat.le_of_ble_eq_true rfl) hRc, Nat.le_trans (Nat.le_of_ble_eq_true rfl) hRs⟩ dX7_makeMove_71 (fun na_14 H hna_14 hP hD hS => ?_)
    have hP : va_P g.1 vwCl [(st, .inr (7, [.ref b, .int wsd_4, .int (1 - wmv_5), .int (wgm_6 + 1), .ref la, .int ww1_7, .int ww2_8, .int wdg_9, .int wt1_10, .int wt2_11, .int (wam_12 + 1)])), (b, .inr (1, [.ref ca, .int wkk_3, .int sg])), (ca, .inl (g.2.1, 49, .inl wf_2)), (na_14, .inr (5, [.long 0, .long 0, .int 0, .null, .int 0, .int 0]))] H := hP
    have hD : va_D A [(st, .inr (7, [.ref b, .int wsd_4, .int (1 - wmv_5), .int (wgm_6 + 1), .ref la, .int ww1_7, .int ww2_8, .int wdg_9, .int wt1_10, .int wt2_11, .int (wam_12 + 1)])), (b, .inr (1, [.ref ca, .int wkk_3, .int sg])), (ca, .inl (g.2.1, 49, .inl wf_2)), (na_14, .inr (5, [.long 0, .long 0, .int 0, .null, .int 0, .int 0]))] := hD
    refine lv_dup hx hb dX7_makeMove_74 rfl ?_
    refine lv_aload_n hx hb dX7_makeMove_75 rfl (lv_at hl 0 rfl) ?_
    refine gf_X7_12 hx hb hts hown hE hP 0 rfl rfl dX7_makeMove_76 ?_
    refine lv_aload_n hx hb dX7_makeMove_79 rfl (lv_at hl 0 rfl) ?_
    refine gf_X7_26 hx hb hts hown hE hP 0 rfl rfl dX7_makeMove_80 ?_
    refine lv_aload_n hx hb dX7_makeMove_83 rfl (lv_at hl 0 rfl) ?_
    refine gf_X7_32 hx hb hts hown hE hP 0 rfl rfl dX7_makeMove_84 ?_
    obtain ⟨r_15, hr_15, hyp⟩ := opt_e hyp
    refine wIO (As := [.ref b, .int (1 - wmv_5), .ref la]) (rest := [.ref na_14, .ref st]) ⟨hx, hb, hml, hown, hts⟩ hE (mX5_initS l g na_14 b ca la 0 0 0 none 0 0 wkk_3 sg wf_2 cx ct (1 - wmv_5) r_15 hr_15) (OC_ok g _ _) hO.2.2 cf_X5_init im_X5_init rfl ml_X7_66 ⟨Nat.le_trans (Nat.le_of_ble_eq_true rfl) hRf, Nat.le_trans (Nat.le_of_ble_eq_true rfl) hRl⟩ hP hD hS hA [3, 1, 2] [0] rfl (wr := [(st, .inr (7, [.ref b, .int wsd_4, .int (1 - wmv_5), .int (wgm_6 + 1), .ref la, .int ww1_7, .int ww2_8, .int wdg_9, .int wt1_10, .int wt2_11, .int (wam_12 + 1)]))]) rfl ⟨by decide, by decide⟩ (by decide) rfl hl.1 rfl (Nat.le_of_ble_eq_true rfl) dX7_makeMove_87 ⟨Nat.le_trans (Nat.le_of_ble_eq_true rfl) hRc, Nat.le_trans (Nat.le_of_ble_eq_true rfl) hRs⟩ (fun H locs hP hD hS => ?_)
    have hP : va_P g.1 vwCl [(st, .inr (7, [.ref b, .int wsd_4, .int (1 - wmv_5), .int (wgm_6 + 1), .ref la, .int ww1_7, .int ww2_8, .int wdg_9, .int wt1_10, .int wt2_11, .int (wam_12 + 1)])), (na_14, .inr (5, [.long r_15.1, .long r_15.2.1, .int r_15.2.2.1, va_rf r_15.2.2.2.1, .int r_15.2.2.2.2.1, .int r_15.2.2.2.2.2])), (b, .inr (1, [.ref ca, .int wkk_3, .int sg])), (ca, .inl (g.2.1, 49, .inl wf_2))] H := hP
    have hD : va_D A [(st, .inr (7, [.ref b, .int wsd_4, .int (1 - wmv_5), .int (wgm_6 + 1), .ref la, .int ww1_7, .int ww2_8, .int wdg_9, .int wt1_10, .int wt2_11, .int (wam_12 + 1)])), (na_14, .inr (5, [.long r_15.1, .long r_15.2.1, .int r_15.2.2.1, va_rf r_15.2.2.2.1, .int r_15.2.2.2.2.1, .int r_15.2.2.2.2.2])), (b, .inr (1, [.ref ca, .int wkk_3, .int sg])), (ca, .inl (g.2.1, 49, .inl wf_2))] := hD
    obtain ⟨hi, hyp⟩ := grd_e hyp
    rw [pcell_eq (of_decide_eq_true hi)] at hP hD
    have hP : va_P g.1 vwCl [(st, .inr (7, [.ref b, .int wsd_4, .int (1 - wmv_5), .int (wgm_6 + 1), .ref la, .int ww1_7, .int ww2_8, .int wdg_9, .int wt1_10, .int wt2_11, .int (wam_12 + 1)])), (na_14, pcell (some la) (ct.length + 1) (r_15.1, r_15.2.1, r_15.2.2.1, r_15.2.2.2.2.2)), (b, .inr (1, [.ref ca, .int wkk_3, .int sg])), (ca, .inl (g.2.1, 49, .inl wf_2))] H := hP
    have hD : va_D A [(st, .inr (7, [.ref b, .int wsd_4, .int (1 - wmv_5), .int (wgm_6 + 1), .ref la, .int ww1_7, .int ww2_8, .int wdg_9, .int wt1_10, .int wt2_11, .int (wam_12 + 1)])), (na_14, pcell (some la) (ct.length + 1) (r_15.1, r_15.2.1, r_15.2.2.1, r_15.2.2.2.2.2)), (b, .inr (1, [.ref ca, .int wkk_3, .int sg])), (ca, .inl (g.2.1, 49, .inl wf_2))] := hD
    refine pf_X7_32 hx hb hts hown hE hP hD hS 0 rfl rfl rfl rfl dX7_makeMove_90 (fun H locs hP hD hS => ?_)
    have hP : va_P g.1 vwCl [(st, .inr (7, [.ref b, .int wsd_4, .int (1 - wmv_5), .int (wgm_6 + 1), .ref na_14, .int ww1_7, .int ww2_8, .int wdg_9, .int wt1_10, .int wt2_11, .int (wam_12 + 1)])), (na_14, pcell (some la) (ct.length + 1) (r_15.1, r_15.2.1, r_15.2.2.1, r_15.2.2.2.2.2)), (b, .inr (1, [.ref ca, .int wkk_3, .int sg])), (ca, .inl (g.2.1, 49, .inl wf_2))] H := hP
    have hD : va_D A [(st, .inr (7, [.ref b, .int wsd_4, .int (1 - wmv_5), .int (wgm_6 + 1), .ref na_14, .int ww1_7, .int ww2_8, .int wdg_9, .int wt1_10, .int wt2_11, .int (wam_12 + 1)])), (na_14, pcell (some la) (ct.length + 1) (r_15.1, r_15.2.1, r_15.2.2.1, r_15.2.2.2.2.2)), (b, .inr (1, [.ref ca, .int wkk_3, .int sg])), (ca, .inl (g.2.1, 49, .inl wf_2))] := hD
    refine lv_aload_n hx hb dX7_makeMove_93 rfl (lv_at hl 0 rfl) ?_
    refine lv_iload_n hx hb dX7_makeMove_94 rfl (lv_at hl 1 rfl) ?_
    obtain ⟨r_16, hr_16, hyp⟩ := opt_e hyp
    refine wVH (As := [.int a2]) (rest := []) ⟨hx, hb, hml, hown, hts⟩ hE (mX7_judge l g st b ca na_14 wsd_4 (1 - wmv_5) (wgm_6 + 1) ww1_7 ww2_8 wdg_9 wt1_10 wt2_11 (wam_12 + 1) wkk_3 sg wf_2 (r_15.1, r_15.2.1, r_15.2.2.1, r_15.2.2.2.2.2) (cx :: ct) a2 r_16 hr_16) (OC_ok g _ _) (fun U hv => OC_push hO.2.2 hP hD hS hA 1 rfl [0, 2, 3] rfl (by decide) hv) cf_X7_judge im_X7_judge se_X7_judge ml_X7_86 ⟨Nat.le_trans (Nat.le_of_ble_eq_true rfl) hRf, Nat.le_trans (Nat.le_of_ble_eq_true rfl) hRl⟩ hP hD hS hA [0, 2, 3] [1] rfl (wr := [(na_14, pcell (some la) (ct.length + 1) (r_15.1, r_15.2.1, r_15.2.2.1, r_15.2.2.2.2.2))]) rfl ⟨by decide, by decide⟩ (by decide) (ci := 7) (q0 := 0) rfl rfl rfl rfl hl.1 rfl (Nat.le_of_ble_eq_true rfl) dX7_makeMove_95 ⟨Nat.le_trans (Nat.le_of_ble_eq_true rfl) hRc, Nat.le_trans (Nat.le_of_ble_eq_true rfl) hRs⟩ (fun H locs hP hD hS => ?_)
    have hP : va_P g.1 vwCl [(na_14, pcell (some la) (ct.length + 1) (r_15.1, r_15.2.1, r_15.2.2.1, r_15.2.2.2.2.2)), (st, .inr (7, [.ref b, .int r_16.1, .int (1 - wmv_5), .int (wgm_6 + 1), .ref na_14, .int r_16.2.1, .int r_16.2.2.1, .int r_16.2.2.2, .int wt1_10, .int wt2_11, .int (wam_12 + 1)])), (b, .inr (1, [.ref ca, .int wkk_3, .int sg])), (ca, .inl (g.2.1, 49, .inl wf_2))] H := hP
    have hD : va_D A [(na_14, pcell (some la) (ct.length + 1) (r_15.1, r_15.2.1, r_15.2.2.1, r_15.2.2.2.2.2)), (st, .inr (7, [.ref b, .int r_16.1, .int (1 - wmv_5), .int (wgm_6 + 1), .ref na_14, .int r_16.2.1, .int r_16.2.2.1, .int r_16.2.2.2, .int wt1_10, .int wt2_11, .int (wam_12 + 1)])), (b, .inr (1, [.ref ca, .int wkk_3, .int sg])), (ca, .inl (g.2.1, 49, .inl wf_2))] := hD
    refine lv_iload_n hx hb dX7_makeMove_98 rfl (lv_at hl 2 rfl) ?_
    have hP : va_P g.1 vwCl [(st, .inr (7, [.ref b, .int r_16.1, .int (1 - wmv_5), .int (wgm_6 + 1), .ref na_14, .int r_16.2.1, .int r_16.2.2.1, .int r_16.2.2.2, .int wt1_10, .int wt2_11, .int (wam_12 + 1)])), (b, .inr (1, [.ref ca, .int wkk_3, .int sg])), (ca, .inl (g.2.1, 49, .inl wf_2)), (na_14, pcell (some la) (ct.length + 1) (r_15.1, r_15.2.1, r_15.2.2.1, r_15.2.2.2.2.2))] H := hP.sub [1, 2, 3, 0] rfl
    have hD : va_D A [(st, .inr (7, [.ref b, .int r_16.1, .int (1 - wmv_5), .int (wgm_6 + 1), .ref na_14, .int r_16.2.1, .int r_16.2.2.1, .int r_16.2.2.2, .int wt1_10, .int wt2_11, .int (wam_12 + 1)])), (b, .inr (1, [.ref ca, .int wkk_3, .int sg])), (ca, .inl (g.2.1, 49, .inl wf_2)), (na_14, pcell (some la) (ct.length + 1) (r_15.1, r_15.2.1, r_15.2.2.1, r_15.2.2.2.2.2))] := hD.sub [1, 2, 3, 0] (by decide) rfl
    have hyp := some_e hyp
    subst hyp
    subst hQ
    exact xrI (na := na_14) hx hb hr hlocks hna_14 hP hD hS (Nat.le_of_ble_eq_true rfl) (Nat.le_of_ble_eq_true rfl) dX7_makeMove_99
  refine lv_if_ne (tgt := 30) hx hb dX7_makeMove_14 (by decide) (fun h_17 => ?_) (fun h_17 => ?_)
  · replace hyp := ite_f h_17 hyp
    refine lv_aload_n hx hb dX7_makeMove_30 rfl (lv_at hl 1 rfl) ?_
    refine lv_dup hx hb dX7_makeMove_31 rfl ?_
    refine gf_X7_45 hx hb hts hown hE hP 0 rfl rfl dX7_makeMove_32 ?_
    refine lv_iload_n hx hb dX7_makeMove_35 rfl (lv_at hl 0 rfl) ?_
    refine lv_iadd hx hb dX7_makeMove_36 ?_
    refine pf_X7_45 hx hb hts hown hE hP hD hS 0 rfl rfl dX7_makeMove_37 (fun H locs hP hD hS => ?_)
    have hP : va_P g.1 vwCl [(st, .inr (7, [.ref b, .int sd, .int mv, .int gm, .ref la, .int w1, .int w2, .int dg, .int (t1 + r_1.1), .int t2, .int am])), (b, .inr (1, [.ref ca, .int r_1.2.2, .int sg])), (ca, .inl (g.2.1, 49, .inl r_1.2.1))] H := hP
    have hD : va_D A [(st, .inr (7, [.ref b, .int sd, .int mv, .int gm, .ref la, .int w1, .int w2, .int dg, .int (t1 + r_1.1), .int t2, .int am])), (b, .inr (1, [.ref ca, .int r_1.2.2, .int sg])), (ca, .inl (g.2.1, 49, .inl r_1.2.1))] := hD
    exact kJ_13 r_1.2.1 r_1.2.2 sd mv gm w1 w2 dg (t1 + r_1.1) t2 am H locs ls hyp (lv_sub hl [1, 3, 0] rfl) hP hD hS
  · replace hyp := ite_t h_17 hyp
    refine lv_aload_n hx hb dX7_makeMove_17 rfl (lv_at hl 1 rfl) ?_
    refine lv_dup hx hb dX7_makeMove_18 rfl ?_
    refine gf_X7_48 hx hb hts hown hE hP 0 rfl rfl dX7_makeMove_19 ?_
    refine lv_iload_n hx hb dX7_makeMove_22 rfl (lv_at hl 0 rfl) ?_
    refine lv_iadd hx hb dX7_makeMove_23 ?_
    refine pf_X7_48 hx hb hts hown hE hP hD hS 0 rfl rfl dX7_makeMove_24 (fun H locs hP hD hS => ?_)
    have hP : va_P g.1 vwCl [(st, .inr (7, [.ref b, .int sd, .int mv, .int gm, .ref la, .int w1, .int w2, .int dg, .int t1, .int (t2 + r_1.1), .int am])), (b, .inr (1, [.ref ca, .int r_1.2.2, .int sg])), (ca, .inl (g.2.1, 49, .inl r_1.2.1))] H := hP
    have hD : va_D A [(st, .inr (7, [.ref b, .int sd, .int mv, .int gm, .ref la, .int w1, .int w2, .int dg, .int t1, .int (t2 + r_1.1), .int am])), (b, .inr (1, [.ref ca, .int r_1.2.2, .int sg])), (ca, .inl (g.2.1, 49, .inl r_1.2.1))] := hD
    refine lv_goto (tgt := 40) hx hb dX7_makeMove_27 (by decide) ?_
    exact kJ_13 r_1.2.1 r_1.2.2 sd mv gm w1 w2 dg t1 (t2 + r_1.1) am H locs ls hyp (lv_sub hl [1, 3, 0] rfl) hP hD hS

def fX7_beginSetUp (f : Nat → Int32) : Option ((Nat → Int32) × Int32 × Int32 × Int32 × Int32 × PC) :=
  (fX1_placeAll f).bind (fun (r_1 : (Nat → Int32) × Int32) => (fX7_begin r_1.1 0).bind (fun (r_2 : Int32 × Int32 × Int32 × PC) => some (r_1.1, r_1.2, r_2.1, r_2.2.1, r_2.2.2.1, r_2.2.2.2)))
set_option maxRecDepth 100000 in
set_option maxHeartbeats 4000000 in
theorem mX7_beginSetUp (l : Launch) (hl0 : l.stackTraces = false) (g : GE) (st b ca zc zp : Nat) (sd : Int32) (mv : Int32) (gm : Int32) (lt : Option Nat) (w1 : Int32) (w2 : Int32) (dg : Int32) (t1 : Int32) (t2 : Int32) (am : Int32) (kk : Int32) (sg : Int32) (f : Nat → Int32) (r : (Nat → Int32) × Int32 × Int32 × Int32 × Int32 × PC) (hyp : fX7_beginSetUp f = some r) : XM l yX7_beginSetUp cX7_beginSetUp 1 none 4 90 1 6 g [(st, .inr (7, [.ref b, .int sd, .int mv, .int gm, va_rf lt, .int w1, .int w2, .int dg, .int t1, .int t2, .int am])), (b, .inr (1, [.ref ca, .int kk, .int sg])), (ca, .inl (g.2.1, 49, .inl f))] (OZ g zc zp [] none) [.ref st] 0 none (fun na => [(st, .inr (7, [.ref b, .int r.2.2.1, .int r.2.2.2.1, .int r.2.2.2.2.1, .ref na, .int w1, .int w2, .int dg, .int t1, .int t2, .int am])), (b, .inr (1, [.ref ca, .int r.2.1, .int sg])), (ca, .inl (g.2.1, 49, .inl r.1)), (na, pcell none 0 r.2.2.2.2.2)]) (fun _ => [(st, .inr (7, [.ref b, .int r.2.2.1, .int r.2.2.2.1, .int r.2.2.2.2.1, va_rf lt, .int w1, .int w2, .int dg, .int t1, .int t2, .int am])), (b, .inr (1, [.ref ca, .int r.2.1, .int sg])), (ca, .inl (g.2.1, 49, .inl r.1))]) := by
  refine metX_intro (by decide) rfl ?_
  intro p e R s m args below meth c Q A hRf hRl hRc hRs hQ hx hb hml hr hlocks hex hown hts hin hE hSR hA hO H locs hP hD hS ls hl
  have hown : s.vm.findClass "HallGuards$State" = some m.cls := hown
  have hl : lv_has ls 1 [(0, .ref st)] := hl
  unfold fX7_beginSetUp at hyp
  refine lv_aload_n hx hb dX7_beginSetUp_0 rfl (lv_at hl 0 rfl) ?_
  refine gf_X7_12 hx hb hts hown hE hP 0 rfl rfl dX7_beginSetUp_1 ?_
  obtain ⟨r_1, hr_1, hyp⟩ := opt_e hyp
  refine wVO (As := []) (rest := []) ⟨hx, hb, hml, hown, hts⟩ hE (mX1_placeAll l g b ca zc zp kk sg f r_1 hr_1) (OS_ok zc zp) hO.1 cf_X1_placeAll im_X1_placeAll se_X1_placeAll ml_X7_54 ⟨Nat.le_trans (Nat.le_of_ble_eq_true rfl) hRf, Nat.le_trans (Nat.le_of_ble_eq_true rfl) hRl⟩ hP hD hS hA [1, 2] [0] rfl (wr := [(st, .inr (7, [.ref b, .int sd, .int mv, .int gm, va_rf lt, .int w1, .int w2, .int dg, .int t1, .int t2, .int am]))]) rfl ⟨by decide, by decide⟩ (by decide) (ci := 1) (q0 := 0) rfl rfl rfl rfl hl.1 rfl (Nat.le_of_ble_eq_true rfl) dX7_beginSetUp_4 ⟨Nat.le_trans (Nat.le_of_ble_eq_true rfl) hRc, Nat.le_trans (Nat.le_of_ble_eq_true rfl) hRs⟩ (fun H locs hP hD hS => ?_)
  have hP : va_P g.1 vwCl [(st, .inr (7, [.ref b, .int sd, .int mv, .int gm, va_rf lt, .int w1, .int w2, .int dg, .int t1, .int t2, .int am])), (b, .inr (1, [.ref ca, .int r_1.2, .int sg])), (ca, .inl (g.2.1, 49, .inl r_1.1))] H := hP
  have hD : va_D A [(st, .inr (7, [.ref b, .int sd, .int mv, .int gm, va_rf lt, .int w1, .int w2, .int dg, .int t1, .int t2, .int am])), (b, .inr (1, [.ref ca, .int r_1.2, .int sg])), (ca, .inl (g.2.1, 49, .inl r_1.1))] := hD
  refine lv_aload_n hx hb dX7_beginSetUp_7 rfl (lv_at hl 0 rfl) ?_
  refine lv_iconst (v := 0) hx hb dX7_beginSetUp_8 (by decide) ?_
  obtain ⟨r_2, hr_2, hyp⟩ := opt_e hyp
  have hz9 := hS.1
  refine xV (As := [.int 0]) (rest := []) ⟨hx, hb, hml, hown, hts⟩ hE hSR (mX7_begin l hl0 g st b ca zc zp sd mv gm lt w1 w2 dg t1 t2 am r_1.2 sg r_1.1 0 r_2 hr_2) (OZ_ok g zc zp _ _) hO cf_X7_begin im_X7_begin se_X7_begin ml_X7_57 ⟨Nat.le_trans (Nat.le_of_ble_eq_true rfl) hRf, Nat.le_trans (Nat.le_of_ble_eq_true rfl) hRl⟩ hP hD hS hA [0, 1, 2] [] rfl (wr := []) rfl ⟨by decide, by decide⟩ (by decide) (ci := 7) (q0 := 0) rfl rfl rfl rfl hl.1 rfl (Nat.le_of_ble_eq_true rfl) dX7_beginSetUp_9 ⟨Nat.le_trans (Nat.le_of_ble_eq_true rfl) hRc, Nat.le_trans (Nat.le_of_ble_eq_true rfl) hRs⟩ (fun hk0 na_3 H locs hna_3 hP hD hS => ?_) (fun hk0 na9 q9 ce9 H locs hna9 hP hD hS hce hcv hcl => ?_)
  rotate_left 1
  · exact absurd rfl hk0
  replace hna_3 : s.heap.size ≤ na_3 := Nat.le_trans hz9 hna_3
  have hP : va_P g.1 vwCl [(st, .inr (7, [.ref b, .int r_2.1, .int r_2.2.1, .int r_2.2.2.1, .ref na_3, .int w1, .int w2, .int dg, .int t1, .int t2, .int am])), (b, .inr (1, [.ref ca, .int r_1.2, .int sg])), (ca, .inl (g.2.1, 49, .inl r_1.1)), (na_3, pcell none 0 r_2.2.2.2)] H := hP
  have hD : va_D A [(st, .inr (7, [.ref b, .int r_2.1, .int r_2.2.1, .int r_2.2.2.1, .ref na_3, .int w1, .int w2, .int dg, .int t1, .int t2, .int am])), (b, .inr (1, [.ref ca, .int r_1.2, .int sg])), (ca, .inl (g.2.1, 49, .inl r_1.1)), (na_3, pcell none 0 r_2.2.2.2)] := hD
  have hyp := some_e hyp
  subst hyp
  subst hQ
  exact xrV (na := na_3) hx hb hr hlocks hna_3 hP hD hS (Nat.le_of_ble_eq_true rfl) (Nat.le_of_ble_eq_true rfl) dX7_beginSetUp_12

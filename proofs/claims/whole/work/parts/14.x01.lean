theorem qyX8_child : qY yX8_child RX8 cX8_child 7 (some .int) 3 := ⟨⟨kw_957, kw_958, kw_1, kw_959⟩, rfl, by decide, by decide, by decide +kernel⟩
def fX8_child_68 (F : Nat) (t0 : Int32) (σ : qS) : Option (Int32 × Nat × qS) :=
  some (t0, 0, σ)
def fX8_child (F : Nat) (p1 : Int32) (p2 : Int32) (p3 : Int32) (σ : qS) : Option (Int32 × Nat × qS) :=
  bnd3 (fX8_known F p1 σ) (fun i2 s1 => if 0 ≤ p3 then (bnd3 (fX8_wake F i2 s1) (fun _ s4 => gnl i2 (s4.2 0 0) (nm (s4.2 2 i2) fun i5 => (gnl i5 3 (gnl i2 (s4.2 0 0) (nm (s4.1 50 i2 1) fun v6 => (gnl i5 6 (bnd2 (fX7_readingRefused F i5 p2 v6 s4) fun v8 s7 => (if 0 ≤ v8 then (gnl i5 6 (bnd2 (fX7_childAt F i5 p2 p3 s7) fun v11 s10 => (fX8_child_68 F v11 s10))) else (fX8_child_68 F v8 s7))))))))) (fun e s => some (0, e, s))) else (some (0, 1, s1))) (fun e s => some (0, e, s))
set_option maxRecDepth 100000 in
set_option maxHeartbeats 4000000 in
theorem wX8_child (l : Launch) (hst : l.stackTraces = false) (D : va_G) (Y : Nat → ClassId) (ad : qAd) (B0 F : Nat) (p1 : Int32) (p2 : Int32) (p3 : Int32) (σ : qS) : qXi l yX8_child cX8_child 7 (some .int) 8 132 2 12 B0 D (cL Y) (qT Y) ad [.ref (ad 0 0), .int p1, .int p2, .int p3] σ (fX8_child F p1 p2 p3 σ) := by
  refine q_oxi hst (by decide) (Nat.le_of_ble_eq_true rfl) ⟨by decide, by decide⟩ "Leasehall" rfl (fun p e s m below meth c A Q r0 S0 hf hw hG hAB hret hHx hthr ls hl => ?_)
  replace hl : lv_has ls 7 [(0, .ref (ad 0 0)), (1, .int p1), (2, .int p2), (3, .int p3)] := hl
  unfold fX8_child at hf
  have b68 : ∀ (t0 : Int32) (σ : qS), fX8_child_68 F t0 σ = some r0 → qAt p l e (qRx 8 132 2 12) s m ([.ref (ad 0 0), .int p1, .int p2, .int p3] : List Value).toArray below meth c Q D (cL Y) (qT Y) A ad 7 2 12 68 [] [.int t0] σ := by
    clear hf hw hl ls
    intro t0 σ hf H locs ls hw hl
    unfold fX8_child_68 at hf
    exact hret dX8_child_68 hw hf
  refine lv_aload_n S0.1 S0.2.1 dX8_child_0 rfl (lv_at hl 0 rfl) ?_
  refine lv_iload_n S0.1 S0.2.1 dX8_child_1 rfl (lv_at hl 1 rfl) ?_
  refine q_xcallr S0 hG hAB hw (As := [.int p1]) (rest := []) (wX8_known l hst D Y ad B0 F p1 σ) qyX8_known kw_599 ⟨Nat.le_of_ble_eq_true rfl, Nat.le_of_ble_eq_true rfl⟩ dC_0 rfl rfl rfl rfl hl.1 (Nat.le_of_ble_eq_true rfl) dX8_child_2 ⟨Nat.le_of_ble_eq_true rfl, Nat.le_of_ble_eq_true rfl⟩ rfl hf (fun ex ce q9 s9 H locs hw hf hne hce hcv hcl => hHx hw hf hne hce hcv hcl (Nat.le_of_ble_eq_true rfl) (Nat.le_of_ble_eq_true rfl)) (fun i2 s1 H locs hw hf => ?_)
  refine lv_astore (lv' := [(4, .ref (ad 50 i2)), (0, .ref (ad 0 0)), (1, .int p1), (2, .int p2), (3, .int p3)]) S0.1 S0.2.1 dX8_child_5 hl (by decide) rfl (fun ls hl => ?_)
  refine lv_iload_n S0.1 S0.2.1 dX8_child_7 rfl (lv_at hl 4 rfl) ?_
  refine lv_if_ge (tgt := 22) S0.1 S0.2.1 dX8_child_8 (by decide) (fun c3 => ?_) (fun c3 => ?_)
  · replace hf := q_pos c3 hf
    refine lv_aload_n S0.1 S0.2.1 dX8_child_22 rfl (lv_at hl 1 rfl) ?_
    refine lv_aload S0.1 S0.2.1 dX8_child_23 (lv_at hl 0 rfl) ?_
    refine q_xcallv S0 hG hAB hw (As := [.ref (ad 50 i2)]) (rest := []) (wX8_wake l hst D Y ad B0 F i2 s1) qyX8_wake kw_682 ⟨Nat.le_of_ble_eq_true rfl, Nat.le_of_ble_eq_true rfl⟩ dC_0 rfl rfl rfl rfl hl.1 (Nat.le_of_ble_eq_true rfl) dX8_child_25 ⟨Nat.le_of_ble_eq_true rfl, Nat.le_of_ble_eq_true rfl⟩ rfl hf (fun ex ce q9 s9 H locs hw hf hne hce hcv hcl => hHx hw hf hne hce hcv hcl (Nat.le_of_ble_eq_true rfl) (Nat.le_of_ble_eq_true rfl)) (fun _ s4 H locs hw hf => ?_)
    refine lv_aload S0.1 S0.2.1 dX8_child_28 (lv_at hl 0 rfl) ?_
    obtain ⟨hd, hf⟩ := gnl_some hf
    refine gX6_server S0 hw hd kw_483 dX8_child_30 hf (fun i5 hf => ?_)
    obtain ⟨hd, hf⟩ := gnl_some hf
    refine gX5_tree S0 hw hd kw_211 dX8_child_33 ?_
    refine lv_astore (lv' := [(5, .ref (ad 30 i5)), (4, .ref (ad 50 i2)), (0, .ref (ad 0 0)), (1, .int p1), (2, .int p2), (3, .int p3)]) S0.1 S0.2.1 dX8_child_36 hl (by decide) rfl (fun ls hl => ?_)
    refine lv_aload S0.1 S0.2.1 dX8_child_38 (lv_at hl 0 rfl) ?_
    refine lv_iload_n S0.1 S0.2.1 dX8_child_40 rfl (lv_at hl 4 rfl) ?_
    refine lv_aload S0.1 S0.2.1 dX8_child_41 (lv_at hl 1 rfl) ?_
    obtain ⟨hd, hf⟩ := gnl_some hf
    refine gX6_person S0 hw hd kw_471 dX8_child_43 hf (fun v6 hf => ?_)
    obtain ⟨hd, hf⟩ := gnl_some hf
    refine q_calli (k := 30) (i := i5) S0 hw (As := [.int p2, .int v6]) (rest := []) (wX7_readingRefused l D Y ad F i5 p2 v6 s4) qyX7_readingRefused kw_855 ⟨Nat.le_of_ble_eq_true rfl, Nat.le_of_ble_eq_true rfl⟩ hd rfl rfl rfl rfl hl.1 (Nat.le_of_ble_eq_true rfl) dX8_child_46 ⟨Nat.le_of_ble_eq_true rfl, Nat.le_of_ble_eq_true rfl⟩ rfl hf (fun v8 s7 H locs hw hf => ?_)
    refine lv_istore (lv' := [(6, .int v8), (5, .ref (ad 30 i5)), (4, .ref (ad 50 i2)), (0, .ref (ad 0 0)), (1, .int p1), (2, .int p2), (3, .int p3)]) S0.1 S0.2.1 dX8_child_49 hl (by decide) rfl (fun ls hl => ?_)
    refine lv_iload S0.1 S0.2.1 dX8_child_51 (lv_at hl 0 rfl) ?_
    refine lv_if_ge (tgt := 61) S0.1 S0.2.1 dX8_child_53 (by decide) (fun c9 => ?_) (fun c9 => ?_)
    · replace hf := q_pos c9 hf
      refine lv_aload S0.1 S0.2.1 dX8_child_61 (lv_at hl 1 rfl) ?_
      refine lv_iload_n S0.1 S0.2.1 dX8_child_63 rfl (lv_at hl 5 rfl) ?_
      refine lv_iload_n S0.1 S0.2.1 dX8_child_64 rfl (lv_at hl 6 rfl) ?_
      obtain ⟨hd, hf⟩ := gnl_some hf
      refine q_calli (k := 30) (i := i5) S0 hw (As := [.int p2, .int p3]) (rest := []) (wX7_childAt l D Y ad F i5 p2 p3 s7) qyX7_childAt kw_960 ⟨Nat.le_of_ble_eq_true rfl, Nat.le_of_ble_eq_true rfl⟩ hd rfl rfl rfl rfl hl.1 (Nat.le_of_ble_eq_true rfl) dX8_child_65 ⟨Nat.le_of_ble_eq_true rfl, Nat.le_of_ble_eq_true rfl⟩ rfl hf (fun v11 s10 H locs hw hf => ?_)
      exact b68 v11 s10 hf _ _ _ hw (lv_sub hl [] rfl)
    · replace hf := q_neg c9 hf
      refine lv_iload S0.1 S0.2.1 dX8_child_56 (lv_at hl 0 rfl) ?_
      refine lv_goto (tgt := 68) S0.1 S0.2.1 dX8_child_58 (by decide) ?_
      exact b68 v8 s7 hf _ _ _ hw (lv_sub hl [] rfl)
  · replace hf := q_neg c3 hf
    exact hthr qt1_262 (by decide) hw hf ⟨dX8_child_11, dX8_child_14, Or.inr ⟨dX8_child_15, dX8_child_18, dX8_child_21⟩⟩ hl.1 (Nat.le_of_ble_eq_true rfl) ⟨Nat.le_of_ble_eq_true rfl, Nat.le_of_ble_eq_true rfl⟩
theorem qyX8_want : qY yX8_want RX8 cX8_want 5 (some .int) 3 := ⟨⟨kw_1038, kw_1039, kw_1, kw_1040⟩, rfl, by decide, by decide, by decide +kernel⟩
def fX8_want_44 (F : Nat) (x1 : Int32) (rx4 : Nat) (rt0 : Nat) (t1 : Int32) (t2 : Int32) (t3 : Int32) (σ : qS) : Option (Int32 × Nat × qS) :=
  gnl rt0 (1 + 6 * σ.2 0 0) (bnd (fX0_toMake F rt0 t1 t2 t3 1 σ) fun s8 => (nm (qI s8 56 0 6 x1) fun s9 => (bnd2 (fX8_submit F rx4 0 s9) fun v11 s10 => (some (v11, 0, s10)))))
def fX8_want (F : Nat) (p1 : Int32) (p2 : Int32) (p3 : Int32) (σ : qS) : Option (Int32 × Nat × qS) :=
  bnd3 (fX8_known F p1 σ) (fun i2 s1 => bnd3 (fX8_mustLive F i2 s1) (fun _ s3 => bnd3 (fX8_mustNotGather F i2 s3) (fun _ s4 => nm (s4.1 0 0 14) fun v5 => (gnl i2 (s4.2 0 0) (nm (qI s4 50 i2 9 v5) fun s6 => (if p3 = 0 then (fX8_want_44 F p1 i2 0 p2 1000 0 s6) else (fX8_want_44 F p1 i2 0 p2 1000 1 s6))))) (fun e s => some (0, e, s))) (fun e s => some (0, e, s))) (fun e s => some (0, e, s))
set_option maxRecDepth 100000 in
set_option maxHeartbeats 4000000 in
theorem wX8_want (l : Launch) (hst : l.stackTraces = false) (D : va_G) (Y : Nat → ClassId) (ad : qAd) (B0 F : Nat) (p1 : Int32) (p2 : Int32) (p3 : Int32) (σ : qS) : qXi l yX8_want cX8_want 5 (some .int) 7 162 3 18 B0 D (cL Y) (qT Y) ad [.ref (ad 0 0), .int p1, .int p2, .int p3] σ (fX8_want F p1 p2 p3 σ) := by
  refine q_oxi hst (by decide) (Nat.le_of_ble_eq_true rfl) ⟨by decide, by decide⟩ "Leasehall" rfl (fun p e s m below meth c A Q r0 S0 hf hw hG hAB hret hHx hthr ls hl => ?_)
  replace hl : lv_has ls 5 [(0, .ref (ad 0 0)), (1, .int p1), (2, .int p2), (3, .int p3)] := hl
  unfold fX8_want at hf
  have b44 : ∀ (x1 : Int32) (rx4 : Nat) (rt0 : Nat) (t1 : Int32) (t2 : Int32) (t3 : Int32) (σ : qS), fX8_want_44 F x1 rx4 rt0 t1 t2 t3 σ = some r0 → qAt p l e (qRx 7 162 3 18) s m ([.ref (ad 0 0), .int p1, .int p2, .int p3] : List Value).toArray below meth c Q D (cL Y) (qT Y) A ad 5 3 18 44 [(0, .ref (ad 0 0)), (1, .int x1), (4, .ref (ad 50 rx4))] [.int t3, .int t2, .int t1, .ref (ad 56 rt0)] σ := by
    clear hf hw hl ls
    intro x1 rx4 rt0 t1 t2 t3 σ hf H locs ls hw hl
    unfold fX8_want_44 at hf
    refine lv_iconst (v := 1) S0.1 S0.2.1 dX8_want_44 (by decide) ?_
    obtain ⟨hd, hf⟩ := gnl_some hf
    refine q_callv (k := 56) (i := rt0) S0 hw (As := [.int t1, .int t2, .int t3, .int 1]) (rest := []) (wX0_toMake l D Y ad F rt0 t1 t2 t3 1 σ) qyX0_toMake kw_790 ⟨Nat.le_of_ble_eq_true rfl, Nat.le_of_ble_eq_true rfl⟩ hd rfl rfl rfl rfl hl.1 (Nat.le_of_ble_eq_true rfl) dX8_want_45 ⟨Nat.le_of_ble_eq_true rfl, Nat.le_of_ble_eq_true rfl⟩ rfl hf (fun s8 H locs hw hf => ?_)
    refine lv_aload_n S0.1 S0.2.1 dX8_want_48 rfl (lv_at hl 0 rfl) ?_
    refine gX8_loneAct S0 hw kw_236 dX8_want_49 ?_
    refine lv_iload_n S0.1 S0.2.1 dX8_want_52 rfl (lv_at hl 1 rfl) ?_
    refine pX0_holder S0 hw dC56 kw_189 dX8_want_53 hf (fun s9 H locs hw hf => ?_)
    refine lv_aload_n S0.1 S0.2.1 dX8_want_56 rfl (lv_at hl 0 rfl) ?_
    refine lv_aload S0.1 S0.2.1 dX8_want_57 (lv_at hl 2 rfl) ?_
    refine lv_aload_n S0.1 S0.2.1 dX8_want_59 rfl (lv_at hl 0 rfl) ?_
    refine gX8_loneAct S0 hw kw_236 dX8_want_60 ?_
    refine q_calli S0 hw (As := [.ref (ad 50 rx4), .ref (ad 56 0)]) (rest := []) (wX8_submit l D Y ad F rx4 0 s9) qyX8_submit kw_798 ⟨Nat.le_of_ble_eq_true rfl, Nat.le_of_ble_eq_true rfl⟩ dC_0 rfl rfl rfl rfl hl.1 (Nat.le_of_ble_eq_true rfl) dX8_want_63 ⟨Nat.le_of_ble_eq_true rfl, Nat.le_of_ble_eq_true rfl⟩ rfl hf (fun v11 s10 H locs hw hf => ?_)
    exact hret dX8_want_66 hw hf
  refine lv_aload_n S0.1 S0.2.1 dX8_want_0 rfl (lv_at hl 0 rfl) ?_
  refine lv_iload_n S0.1 S0.2.1 dX8_want_1 rfl (lv_at hl 1 rfl) ?_
  refine q_xcallr S0 hG hAB hw (As := [.int p1]) (rest := []) (wX8_known l hst D Y ad B0 F p1 σ) qyX8_known kw_599 ⟨Nat.le_of_ble_eq_true rfl, Nat.le_of_ble_eq_true rfl⟩ dC_0 rfl rfl rfl rfl hl.1 (Nat.le_of_ble_eq_true rfl) dX8_want_2 ⟨Nat.le_of_ble_eq_true rfl, Nat.le_of_ble_eq_true rfl⟩ rfl hf (fun ex ce q9 s9 H locs hw hf hne hce hcv hcl => hHx hw hf hne hce hcv hcl (Nat.le_of_ble_eq_true rfl) (Nat.le_of_ble_eq_true rfl)) (fun i2 s1 H locs hw hf => ?_)
  refine lv_astore (lv' := [(4, .ref (ad 50 i2)), (0, .ref (ad 0 0)), (1, .int p1), (2, .int p2), (3, .int p3)]) S0.1 S0.2.1 dX8_want_5 hl (by decide) rfl (fun ls hl => ?_)
  refine lv_aload_n S0.1 S0.2.1 dX8_want_7 rfl (lv_at hl 1 rfl) ?_
  refine lv_aload S0.1 S0.2.1 dX8_want_8 (lv_at hl 0 rfl) ?_
  refine q_xcallv S0 hG hAB hw (As := [.ref (ad 50 i2)]) (rest := []) (wX8_mustLive l hst D Y ad B0 F i2 s1) qyX8_mustLive kw_618 ⟨Nat.le_of_ble_eq_true rfl, Nat.le_of_ble_eq_true rfl⟩ dC_0 rfl rfl rfl rfl hl.1 (Nat.le_of_ble_eq_true rfl) dX8_want_10 ⟨Nat.le_of_ble_eq_true rfl, Nat.le_of_ble_eq_true rfl⟩ rfl hf (fun ex ce q9 s9 H locs hw hf hne hce hcv hcl => hHx hw hf hne hce hcv hcl (Nat.le_of_ble_eq_true rfl) (Nat.le_of_ble_eq_true rfl)) (fun _ s3 H locs hw hf => ?_)
  refine lv_aload S0.1 S0.2.1 dX8_want_13 (lv_at hl 0 rfl) ?_
  refine q_xscallv S0 hG hAB hw (As := [.ref (ad 50 i2)]) (rest := []) (wX8_mustNotGather l hst D Y ad B0 F i2 s3) qsX8_mustNotGather kw_914 ⟨Nat.le_of_ble_eq_true rfl, Nat.le_of_ble_eq_true rfl⟩ rfl hl.1 (Nat.le_of_ble_eq_true rfl) dX8_want_15 ⟨Nat.le_of_ble_eq_true rfl, Nat.le_of_ble_eq_true rfl⟩ rfl hf (fun ex ce q9 s9 H locs hw hf hne hce hcv hcl => hHx hw hf hne hce hcv hcl (Nat.le_of_ble_eq_true rfl) (Nat.le_of_ble_eq_true rfl)) (fun _ s4 H locs hw hf => ?_)
  refine lv_aload S0.1 S0.2.1 dX8_want_18 (lv_at hl 0 rfl) ?_
  refine lv_aload_n S0.1 S0.2.1 dX8_want_20 rfl (lv_at hl 1 rfl) ?_
  refine gX8_now S0 hw kw_241 dX8_want_21 hf (fun v5 hf => ?_)
  obtain ⟨hd, hf⟩ := gnl_some hf
  refine pX6_last S0 hw hd kw_485 dX8_want_24 hf (fun s6 H locs hw hf => ?_)
  refine lv_aload_n S0.1 S0.2.1 dX8_want_27 rfl (lv_at hl 1 rfl) ?_
  refine gX8_loneAct S0 hw kw_236 dX8_want_28 ?_
  refine lv_iload_n S0.1 S0.2.1 dX8_want_31 rfl (lv_at hl 3 rfl) ?_
  refine lv_sipush (v := 1000) S0.1 S0.2.1 dX8_want_32 (by decide) ?_
  refine lv_iload_n S0.1 S0.2.1 dX8_want_35 rfl (lv_at hl 4 rfl) ?_
  refine lv_if_eq (tgt := 43) S0.1 S0.2.1 dX8_want_36 (by decide) (fun c7 => ?_) (fun c7 => ?_)
  · replace hf := q_pos c7 hf
    refine lv_iconst (v := 0) S0.1 S0.2.1 dX8_want_43 (by decide) ?_
    exact b44 p1 i2 0 p2 1000 0 s6 hf _ _ _ hw (lv_sub hl [1, 2, 0] rfl)
  · replace hf := q_neg c7 hf
    refine lv_iconst (v := 1) S0.1 S0.2.1 dX8_want_39 (by decide) ?_
    refine lv_goto (tgt := 44) S0.1 S0.2.1 dX8_want_40 (by decide) ?_
    exact b44 p1 i2 0 p2 1000 1 s6 hf _ _ _ hw (lv_sub hl [1, 2, 0] rfl)
theorem qyX8_has : qY yX8_has RX8 cX8_has 5 (some .int) 2 := ⟨⟨kw_1045, kw_1046, kw_1, kw_1047⟩, rfl, by decide, by decide, by decide +kernel⟩
def fX8_has_40 (F : Nat) (x4 : Int32) (rt1 : Nat) (t2 : Int32) (t3 : Int32) (σ : qS) : Option (Int32 × Nat × qS) :=
  bnd (fX8_believe F rt1 t2 t3 σ) fun s8 => (some (x4, 0, s8))
def fX8_has (F : Nat) (p1 : Int32) (p2 : Int32) (σ : qS) : Option (Int32 × Nat × qS) :=
  bnd3 (fX8_known F p1 σ) (fun i2 s1 => bnd3 (fX8_wake F i2 s1) (fun _ s3 => gnl i2 (s3.2 0 0) (nm (s3.2 2 i2) fun i4 => (gnl i4 3 (gnl i4 6 (bnd2 (fX7_fenceOf F i4 p1 p2 s3) fun v6 s5 => (if v6 = (-100) then (fX8_has_40 F v6 i2 p2 0 s5) else (fX8_has_40 F v6 i2 p2 1 s5))))))) (fun e s => some (0, e, s))) (fun e s => some (0, e, s))
set_option maxRecDepth 100000 in
set_option maxHeartbeats 4000000 in
theorem wX8_has (l : Launch) (hst : l.stackTraces = false) (D : va_G) (Y : Nat → ClassId) (ad : qAd) (B0 F : Nat) (p1 : Int32) (p2 : Int32) (σ : qS) : qXi l yX8_has cX8_has 5 (some .int) 8 132 2 12 B0 D (cL Y) (qT Y) ad [.ref (ad 0 0), .int p1, .int p2] σ (fX8_has F p1 p2 σ) := by
  refine q_oxi hst (by decide) (Nat.le_of_ble_eq_true rfl) ⟨by decide, by decide⟩ "Leasehall" rfl (fun p e s m below meth c A Q r0 S0 hf hw hG hAB hret hHx hthr ls hl => ?_)
  replace hl : lv_has ls 5 [(0, .ref (ad 0 0)), (1, .int p1), (2, .int p2)] := hl
  unfold fX8_has at hf
  have b40 : ∀ (x4 : Int32) (rt1 : Nat) (t2 : Int32) (t3 : Int32) (σ : qS), fX8_has_40 F x4 rt1 t2 t3 σ = some r0 → qAt p l e (qRx 8 132 2 12) s m ([.ref (ad 0 0), .int p1, .int p2] : List Value).toArray below meth c Q D (cL Y) (qT Y) A ad 5 2 12 40 [(4, .int x4)] [.int t3, .int t2, .ref (ad 50 rt1), .ref (ad 0 0)] σ := by
    clear hf hw hl ls
    intro x4 rt1 t2 t3 σ hf H locs ls hw hl
    unfold fX8_has_40 at hf
    refine q_callv S0 hw (As := [.ref (ad 50 rt1), .int t2, .int t3]) (rest := []) (wX8_believe l D Y ad F rt1 t2 t3 σ) qyX8_believe kw_626 ⟨Nat.le_of_ble_eq_true rfl, Nat.le_of_ble_eq_true rfl⟩ dC_0 rfl rfl rfl rfl hl.1 (Nat.le_of_ble_eq_true rfl) dX8_has_40 ⟨Nat.le_of_ble_eq_true rfl, Nat.le_of_ble_eq_true rfl⟩ rfl hf (fun s8 H locs hw hf => ?_)
    refine lv_iload S0.1 S0.2.1 dX8_has_43 (lv_at hl 0 rfl) ?_
    exact hret dX8_has_45 hw hf
  refine lv_aload_n S0.1 S0.2.1 dX8_has_0 rfl (lv_at hl 0 rfl) ?_
  refine lv_iload_n S0.1 S0.2.1 dX8_has_1 rfl (lv_at hl 1 rfl) ?_
  refine q_xcallr S0 hG hAB hw (As := [.int p1]) (rest := []) (wX8_known l hst D Y ad B0 F p1 σ) qyX8_known kw_599 ⟨Nat.le_of_ble_eq_true rfl, Nat.le_of_ble_eq_true rfl⟩ dC_0 rfl rfl rfl rfl hl.1 (Nat.le_of_ble_eq_true rfl) dX8_has_2 ⟨Nat.le_of_ble_eq_true rfl, Nat.le_of_ble_eq_true rfl⟩ rfl hf (fun ex ce q9 s9 H locs hw hf hne hce hcv hcl => hHx hw hf hne hce hcv hcl (Nat.le_of_ble_eq_true rfl) (Nat.le_of_ble_eq_true rfl)) (fun i2 s1 H locs hw hf => ?_)
  refine lv_astore_n (lv' := [(3, .ref (ad 50 i2)), (0, .ref (ad 0 0)), (1, .int p1), (2, .int p2)]) S0.1 S0.2.1 dX8_has_5 rfl hl (by decide) rfl (fun ls hl => ?_)
  refine lv_aload_n S0.1 S0.2.1 dX8_has_6 rfl (lv_at hl 1 rfl) ?_
  refine lv_aload_n S0.1 S0.2.1 dX8_has_7 rfl (lv_at hl 0 rfl) ?_
  refine q_xcallv S0 hG hAB hw (As := [.ref (ad 50 i2)]) (rest := []) (wX8_wake l hst D Y ad B0 F i2 s1) qyX8_wake kw_682 ⟨Nat.le_of_ble_eq_true rfl, Nat.le_of_ble_eq_true rfl⟩ dC_0 rfl rfl rfl rfl hl.1 (Nat.le_of_ble_eq_true rfl) dX8_has_8 ⟨Nat.le_of_ble_eq_true rfl, Nat.le_of_ble_eq_true rfl⟩ rfl hf (fun ex ce q9 s9 H locs hw hf hne hce hcv hcl => hHx hw hf hne hce hcv hcl (Nat.le_of_ble_eq_true rfl) (Nat.le_of_ble_eq_true rfl)) (fun _ s3 H locs hw hf => ?_)
  refine lv_aload_n S0.1 S0.2.1 dX8_has_11 rfl (lv_at hl 0 rfl) ?_
  obtain ⟨hd, hf⟩ := gnl_some hf
  refine gX6_server S0 hw hd kw_483 dX8_has_12 hf (fun i4 hf => ?_)
  obtain ⟨hd, hf⟩ := gnl_some hf
  refine gX5_tree S0 hw hd kw_211 dX8_has_15 ?_
  refine lv_iload_n S0.1 S0.2.1 dX8_has_18 rfl (lv_at hl 2 rfl) ?_
  refine lv_iload_n S0.1 S0.2.1 dX8_has_19 rfl (lv_at hl 3 rfl) ?_
  obtain ⟨hd, hf⟩ := gnl_some hf
  refine q_calli (k := 30) (i := i4) S0 hw (As := [.int p1, .int p2]) (rest := []) (wX7_fenceOf l D Y ad F i4 p1 p2 s3) qyX7_fenceOf kw_1048 ⟨Nat.le_of_ble_eq_true rfl, Nat.le_of_ble_eq_true rfl⟩ hd rfl rfl rfl rfl hl.1 (Nat.le_of_ble_eq_true rfl) dX8_has_20 ⟨Nat.le_of_ble_eq_true rfl, Nat.le_of_ble_eq_true rfl⟩ rfl hf (fun v6 s5 H locs hw hf => ?_)
  refine lv_istore (lv' := [(4, .int v6), (3, .ref (ad 50 i2)), (0, .ref (ad 0 0)), (1, .int p1), (2, .int p2)]) S0.1 S0.2.1 dX8_has_23 hl (by decide) rfl (fun ls hl => ?_)
  refine lv_aload_n S0.1 S0.2.1 dX8_has_25 rfl (lv_at hl 2 rfl) ?_
  refine lv_aload_n S0.1 S0.2.1 dX8_has_26 rfl (lv_at hl 1 rfl) ?_
  refine lv_iload_n S0.1 S0.2.1 dX8_has_27 rfl (lv_at hl 4 rfl) ?_
  refine lv_iload S0.1 S0.2.1 dX8_has_28 (lv_at hl 0 rfl) ?_
  refine lv_bipush (v := (-100)) S0.1 S0.2.1 dX8_has_30 (by decide) ?_
  refine lv_icmp_eq (tgt := 39) S0.1 S0.2.1 dX8_has_32 (by decide) (fun c7 => ?_) (fun c7 => ?_)
  · replace hf := q_pos c7 hf
    refine lv_iconst (v := 0) S0.1 S0.2.1 dX8_has_39 (by decide) ?_
    exact b40 v6 i2 p2 0 s5 hf _ _ _ hw (lv_sub hl [0] rfl)
  · replace hf := q_neg c7 hf
    refine lv_iconst (v := 1) S0.1 S0.2.1 dX8_has_35 (by decide) ?_
    refine lv_goto (tgt := 40) S0.1 S0.2.1 dX8_has_36 (by decide) ?_
    exact b40 v6 i2 p2 1 s5 hf _ _ _ hw (lv_sub hl [0] rfl)
theorem qyX8_giveUp : qY yX8_giveUp RX8 cX8_giveUp 6 (some .int) 2 := ⟨⟨kw_1064, kw_1065, kw_1, kw_1066⟩, rfl, by decide, by decide, by decide +kernel⟩
def fX8_giveUp (F : Nat) (p1 : Int32) (p2 : Int32) (σ : qS) : Option (Int32 × Nat × qS) :=
  bnd3 (fX8_known F p1 σ) (fun i2 s1 => bnd3 (fX8_wake F i2 s1) (fun _ s3 => bnd (fX8_believe F i2 p2 0 s3) fun s4 => (bnd2 (fX7_firstOf F 0 p1 p2 s4) fun v6 s5 => (if v6 = (-100) then (some (0, 0, s5)) else (bnd2 (fX8_letGo F v6 s5) fun v9 s8 => (bnd (fX8_commit F s8) fun s10 => (gnl i2 (s10.2 0 0) (nm (s10.2 2 i2) fun i11 => (nm (s10.1 0 0 15) fun v12 => (bnd2 (fX8_catchUp F i11 v12 s10) fun v14 s13 => (some (v9, 0, s13))))))))))) (fun e s => some (0, e, s))) (fun e s => some (0, e, s))
set_option maxRecDepth 100000 in
set_option maxHeartbeats 4000000 in
theorem wX8_giveUp (l : Launch) (hst : l.stackTraces = false) (D : va_G) (Y : Nat → ClassId) (ad : qAd) (B0 F : Nat) (p1 : Int32) (p2 : Int32) (σ : qS) : qXi l yX8_giveUp cX8_giveUp 6 (some .int) 8 132 2 12 B0 D (cL Y) (qT Y) ad [.ref (ad 0 0), .int p1, .int p2] σ (fX8_giveUp F p1 p2 σ) := by
  refine q_oxi hst (by decide) (Nat.le_of_ble_eq_true rfl) ⟨by decide, by decide⟩ "Leasehall" rfl (fun p e s m below meth c A Q r0 S0 hf hw hG hAB hret hHx hthr ls hl => ?_)
  replace hl : lv_has ls 6 [(0, .ref (ad 0 0)), (1, .int p1), (2, .int p2)] := hl
  unfold fX8_giveUp at hf
  refine lv_aload_n S0.1 S0.2.1 dX8_giveUp_0 rfl (lv_at hl 0 rfl) ?_
  refine lv_iload_n S0.1 S0.2.1 dX8_giveUp_1 rfl (lv_at hl 1 rfl) ?_
  refine q_xcallr S0 hG hAB hw (As := [.int p1]) (rest := []) (wX8_known l hst D Y ad B0 F p1 σ) qyX8_known kw_599 ⟨Nat.le_of_ble_eq_true rfl, Nat.le_of_ble_eq_true rfl⟩ dC_0 rfl rfl rfl rfl hl.1 (Nat.le_of_ble_eq_true rfl) dX8_giveUp_2 ⟨Nat.le_of_ble_eq_true rfl, Nat.le_of_ble_eq_true rfl⟩ rfl hf (fun ex ce q9 s9 H locs hw hf hne hce hcv hcl => hHx hw hf hne hce hcv hcl (Nat.le_of_ble_eq_true rfl) (Nat.le_of_ble_eq_true rfl)) (fun i2 s1 H locs hw hf => ?_)
  refine lv_astore_n (lv' := [(3, .ref (ad 50 i2)), (0, .ref (ad 0 0)), (1, .int p1), (2, .int p2)]) S0.1 S0.2.1 dX8_giveUp_5 rfl hl (by decide) rfl (fun ls hl => ?_)
  refine lv_aload_n S0.1 S0.2.1 dX8_giveUp_6 rfl (lv_at hl 1 rfl) ?_
  refine lv_aload_n S0.1 S0.2.1 dX8_giveUp_7 rfl (lv_at hl 0 rfl) ?_
  refine q_xcallv S0 hG hAB hw (As := [.ref (ad 50 i2)]) (rest := []) (wX8_wake l hst D Y ad B0 F i2 s1) qyX8_wake kw_682 ⟨Nat.le_of_ble_eq_true rfl, Nat.le_of_ble_eq_true rfl⟩ dC_0 rfl rfl rfl rfl hl.1 (Nat.le_of_ble_eq_true rfl) dX8_giveUp_8 ⟨Nat.le_of_ble_eq_true rfl, Nat.le_of_ble_eq_true rfl⟩ rfl hf (fun ex ce q9 s9 H locs hw hf hne hce hcv hcl => hHx hw hf hne hce hcv hcl (Nat.le_of_ble_eq_true rfl) (Nat.le_of_ble_eq_true rfl)) (fun _ s3 H locs hw hf => ?_)
  refine lv_aload_n S0.1 S0.2.1 dX8_giveUp_11 rfl (lv_at hl 1 rfl) ?_
  refine lv_aload_n S0.1 S0.2.1 dX8_giveUp_12 rfl (lv_at hl 0 rfl) ?_
  refine lv_iload_n S0.1 S0.2.1 dX8_giveUp_13 rfl (lv_at hl 3 rfl) ?_
  refine lv_iconst (v := 0) S0.1 S0.2.1 dX8_giveUp_14 (by decide) ?_
  refine q_callv S0 hw (As := [.ref (ad 50 i2), .int p2, .int 0]) (rest := []) (wX8_believe l D Y ad F i2 p2 0 s3) qyX8_believe kw_626 ⟨Nat.le_of_ble_eq_true rfl, Nat.le_of_ble_eq_true rfl⟩ dC_0 rfl rfl rfl rfl hl.1 (Nat.le_of_ble_eq_true rfl) dX8_giveUp_15 ⟨Nat.le_of_ble_eq_true rfl, Nat.le_of_ble_eq_true rfl⟩ rfl hf (fun s4 H locs hw hf => ?_)
  refine lv_aload_n S0.1 S0.2.1 dX8_giveUp_18 rfl (lv_at hl 1 rfl) ?_
  refine gX8_truth S0 hw kw_229 dX8_giveUp_19 ?_
  refine lv_iload_n S0.1 S0.2.1 dX8_giveUp_22 rfl (lv_at hl 2 rfl) ?_
  refine lv_iload_n S0.1 S0.2.1 dX8_giveUp_23 rfl (lv_at hl 3 rfl) ?_
  refine q_calli (k := 30) (i := 0) S0 hw (As := [.int p1, .int p2]) (rest := []) (wX7_firstOf l D Y ad F 0 p1 p2 s4) qyX7_firstOf kw_1067 ⟨Nat.le_of_ble_eq_true rfl, Nat.le_of_ble_eq_true rfl⟩ (show 0 < 6 by decide) rfl rfl rfl rfl hl.1 (Nat.le_of_ble_eq_true rfl) dX8_giveUp_24 ⟨Nat.le_of_ble_eq_true rfl, Nat.le_of_ble_eq_true rfl⟩ rfl hf (fun v6 s5 H locs hw hf => ?_)
  refine lv_istore (lv' := [(4, .int v6), (3, .ref (ad 50 i2)), (0, .ref (ad 0 0)), (1, .int p1), (2, .int p2)]) S0.1 S0.2.1 dX8_giveUp_27 hl (by decide) rfl (fun ls hl => ?_)
  refine lv_iload S0.1 S0.2.1 dX8_giveUp_29 (lv_at hl 0 rfl) ?_
  refine lv_bipush (v := (-100)) S0.1 S0.2.1 dX8_giveUp_31 (by decide) ?_
  refine lv_icmp_ne (tgt := 38) S0.1 S0.2.1 dX8_giveUp_33 (by decide) (fun c7 => ?_) (fun c7 => ?_)
  · replace hf := q_neg c7 hf
    refine lv_aload_n S0.1 S0.2.1 dX8_giveUp_38 rfl (lv_at hl 2 rfl) ?_
    refine lv_iload S0.1 S0.2.1 dX8_giveUp_39 (lv_at hl 0 rfl) ?_
    refine q_calli S0 hw (As := [.int v6]) (rest := []) (wX8_letGo l D Y ad F v6 s5) qyX8_letGo kw_639 ⟨Nat.le_of_ble_eq_true rfl, Nat.le_of_ble_eq_true rfl⟩ dC_0 rfl rfl rfl rfl hl.1 (Nat.le_of_ble_eq_true rfl) dX8_giveUp_41 ⟨Nat.le_of_ble_eq_true rfl, Nat.le_of_ble_eq_true rfl⟩ rfl hf (fun v9 s8 H locs hw hf => ?_)
    refine lv_istore (lv' := [(5, .int v9), (4, .int v6), (3, .ref (ad 50 i2)), (0, .ref (ad 0 0)), (1, .int p1), (2, .int p2)]) S0.1 S0.2.1 dX8_giveUp_44 hl (by decide) rfl (fun ls hl => ?_)
    refine lv_aload_n S0.1 S0.2.1 dX8_giveUp_46 rfl (lv_at hl 3 rfl) ?_
    refine q_callv S0 hw (As := []) (rest := []) (wX8_commit l D Y ad F s8) qyX8_commit kw_671 ⟨Nat.le_of_ble_eq_true rfl, Nat.le_of_ble_eq_true rfl⟩ dC_0 rfl rfl rfl rfl hl.1 (Nat.le_of_ble_eq_true rfl) dX8_giveUp_47 ⟨Nat.le_of_ble_eq_true rfl, Nat.le_of_ble_eq_true rfl⟩ rfl hf (fun s10 H locs hw hf => ?_)
    refine lv_aload_n S0.1 S0.2.1 dX8_giveUp_50 rfl (lv_at hl 3 rfl) ?_
    refine lv_aload_n S0.1 S0.2.1 dX8_giveUp_51 rfl (lv_at hl 2 rfl) ?_
    obtain ⟨hd, hf⟩ := gnl_some hf
    refine gX6_server S0 hw hd kw_483 dX8_giveUp_52 hf (fun i11 hf => ?_)
    refine lv_aload_n S0.1 S0.2.1 dX8_giveUp_55 rfl (lv_at hl 3 rfl) ?_
    refine gX8_lastChange S0 hw kw_242 dX8_giveUp_56 hf (fun v12 hf => ?_)
    refine q_calli S0 hw (As := [.ref (ad 8 i11), .int v12]) (rest := []) (wX8_catchUp l D Y ad F i11 v12 s10) qyX8_catchUp kw_700 ⟨Nat.le_of_ble_eq_true rfl, Nat.le_of_ble_eq_true rfl⟩ dC_0 rfl rfl rfl rfl hl.1 (Nat.le_of_ble_eq_true rfl) dX8_giveUp_59 ⟨Nat.le_of_ble_eq_true rfl, Nat.le_of_ble_eq_true rfl⟩ rfl hf (fun v14 s13 H locs hw hf => ?_)
    refine lv_pop S0.1 S0.2.1 dX8_giveUp_62 rfl ?_
    refine lv_iload S0.1 S0.2.1 dX8_giveUp_63 (lv_at hl 0 rfl) ?_
    exact hret dX8_giveUp_65 hw hf
  · replace hf := q_pos c7 hf
    refine lv_iconst (v := 0) S0.1 S0.2.1 dX8_giveUp_36 (by decide) ?_
    exact hret dX8_giveUp_37 hw hf
theorem qyX8_isOpen : qY yX8_isOpen RX8 cX8_isOpen 5 (some .boolean) 3 := ⟨⟨kw_1072, kw_1073, kw_1, kw_1074⟩, rfl, by decide, by decide, by decide +kernel⟩
def fX8_isOpen_55 (F : Nat) (t0 : Int32) (σ : qS) : Option (Int32 × Nat × qS) :=
  gbl t0 (some (t0, 0, σ))
def fX8_isOpen (F : Nat) (p1 : Int32) (p2 : Int32) (p3 : Int32) (σ : qS) : Option (Int32 × Nat × qS) :=
  bnd3 (fX8_known F p1 σ) (fun i2 s1 => bnd2 (fX8_isWithin F p3 1 80 s1) fun v4 s3 => (if v4 = 0 then (some (0, 2, s3)) else (bnd3 (fX8_wake F i2 s3) (fun _ s6 => gnl i2 (s6.2 0 0) (nm (s6.2 2 i2) fun i7 => (gnl i7 3 (gnl i7 6 (bnd2 (fX7_childrenOf F i7 p2 s6) fun v9 s8 => (if v9 < p3 then (fX8_isOpen_55 F 0 s8) else (fX8_isOpen_55 F 1 s8))))))) (fun e s => some (0, e, s))))) (fun e s => some (0, e, s))
set_option maxRecDepth 100000 in
set_option maxHeartbeats 4000000 in
theorem wX8_isOpen (l : Launch) (hst : l.stackTraces = false) (D : va_G) (Y : Nat → ClassId) (ad : qAd) (B0 F : Nat) (p1 : Int32) (p2 : Int32) (p3 : Int32) (σ : qS) : qXi l yX8_isOpen cX8_isOpen 5 (some .boolean) 8 132 2 12 B0 D (cL Y) (qT Y) ad [.ref (ad 0 0), .int p1, .int p2, .int p3] σ (fX8_isOpen F p1 p2 p3 σ) := by
  refine q_oxz hst (by decide) (Nat.le_of_ble_eq_true rfl) ⟨by decide, by decide⟩ "Leasehall" rfl (fun p e s m below meth c A Q r0 S0 hf hw hG hAB hret hHx hthr ls hl => ?_)
  replace hl : lv_has ls 5 [(0, .ref (ad 0 0)), (1, .int p1), (2, .int p2), (3, .int p3)] := hl
  unfold fX8_isOpen at hf
  have b55 : ∀ (t0 : Int32) (σ : qS), fX8_isOpen_55 F t0 σ = some r0 → qAt p l e (qRx 8 132 2 12) s m ([.ref (ad 0 0), .int p1, .int p2, .int p3] : List Value).toArray below meth c Q D (cL Y) (qT Y) A ad 5 2 12 55 [] [.int t0] σ := by
    clear hf hw hl ls
    intro t0 σ hf H locs ls hw hl
    unfold fX8_isOpen_55 at hf
    exact hret dX8_isOpen_55 hw hf
  refine lv_aload_n S0.1 S0.2.1 dX8_isOpen_0 rfl (lv_at hl 0 rfl) ?_
  refine lv_iload_n S0.1 S0.2.1 dX8_isOpen_1 rfl (lv_at hl 1 rfl) ?_
  refine q_xcallr S0 hG hAB hw (As := [.int p1]) (rest := []) (wX8_known l hst D Y ad B0 F p1 σ) qyX8_known kw_599 ⟨Nat.le_of_ble_eq_true rfl, Nat.le_of_ble_eq_true rfl⟩ dC_0 rfl rfl rfl rfl hl.1 (Nat.le_of_ble_eq_true rfl) dX8_isOpen_2 ⟨Nat.le_of_ble_eq_true rfl, Nat.le_of_ble_eq_true rfl⟩ rfl hf (fun ex ce q9 s9 H locs hw hf hne hce hcv hcl => hHx hw hf hne hce hcv hcl (Nat.le_of_ble_eq_true rfl) (Nat.le_of_ble_eq_true rfl)) (fun i2 s1 H locs hw hf => ?_)
  refine lv_astore (lv' := [(4, .ref (ad 50 i2)), (0, .ref (ad 0 0)), (1, .int p1), (2, .int p2), (3, .int p3)]) S0.1 S0.2.1 dX8_isOpen_5 hl (by decide) rfl (fun ls hl => ?_)
  refine lv_iload_n S0.1 S0.2.1 dX8_isOpen_7 rfl (lv_at hl 4 rfl) ?_
  refine lv_iconst (v := 1) S0.1 S0.2.1 dX8_isOpen_8 (by decide) ?_
  refine lv_bipush (v := 80) S0.1 S0.2.1 dX8_isOpen_9 (by decide) ?_
  refine q_scalli S0 hw (As := [.int p3, .int 1, .int 80]) (rest := []) (wX8_isWithin l D Y ad F p3 1 80 s1) qsX8_isWithin kw_296 ⟨Nat.le_of_ble_eq_true rfl, Nat.le_of_ble_eq_true rfl⟩ rfl hl.1 (Nat.le_of_ble_eq_true rfl) dX8_isOpen_11 ⟨Nat.le_of_ble_eq_true rfl, Nat.le_of_ble_eq_true rfl⟩ rfl hf (fun v4 s3 H locs hw hf => ?_)
  refine lv_if_ne (tgt := 28) S0.1 S0.2.1 dX8_isOpen_14 (by decide) (fun c5 => ?_) (fun c5 => ?_)
  · replace hf := q_neg c5 hf
    refine lv_aload_n S0.1 S0.2.1 dX8_isOpen_28 rfl (lv_at hl 1 rfl) ?_
    refine lv_aload S0.1 S0.2.1 dX8_isOpen_29 (lv_at hl 0 rfl) ?_
    refine q_xcallv S0 hG hAB hw (As := [.ref (ad 50 i2)]) (rest := []) (wX8_wake l hst D Y ad B0 F i2 s3) qyX8_wake kw_682 ⟨Nat.le_of_ble_eq_true rfl, Nat.le_of_ble_eq_true rfl⟩ dC_0 rfl rfl rfl rfl hl.1 (Nat.le_of_ble_eq_true rfl) dX8_isOpen_31 ⟨Nat.le_of_ble_eq_true rfl, Nat.le_of_ble_eq_true rfl⟩ rfl hf (fun ex ce q9 s9 H locs hw hf hne hce hcv hcl => hHx hw hf hne hce hcv hcl (Nat.le_of_ble_eq_true rfl) (Nat.le_of_ble_eq_true rfl)) (fun _ s6 H locs hw hf => ?_)
    refine lv_aload S0.1 S0.2.1 dX8_isOpen_34 (lv_at hl 0 rfl) ?_
    obtain ⟨hd, hf⟩ := gnl_some hf
    refine gX6_server S0 hw hd kw_483 dX8_isOpen_36 hf (fun i7 hf => ?_)
    obtain ⟨hd, hf⟩ := gnl_some hf
    refine gX5_tree S0 hw hd kw_211 dX8_isOpen_39 ?_
    refine lv_iload_n S0.1 S0.2.1 dX8_isOpen_42 rfl (lv_at hl 3 rfl) ?_
    obtain ⟨hd, hf⟩ := gnl_some hf
    refine q_calli (k := 30) (i := i7) S0 hw (As := [.int p2]) (rest := []) (wX7_childrenOf l D Y ad F i7 p2 s6) qyX7_childrenOf kw_663 ⟨Nat.le_of_ble_eq_true rfl, Nat.le_of_ble_eq_true rfl⟩ hd rfl rfl rfl rfl hl.1 (Nat.le_of_ble_eq_true rfl) dX8_isOpen_43 ⟨Nat.le_of_ble_eq_true rfl, Nat.le_of_ble_eq_true rfl⟩ rfl hf (fun v9 s8 H locs hw hf => ?_)
    refine lv_iload_n S0.1 S0.2.1 dX8_isOpen_46 rfl (lv_at hl 4 rfl) ?_
    refine lv_icmp_lt (tgt := 54) S0.1 S0.2.1 dX8_isOpen_47 (by decide) (fun c10 => ?_) (fun c10 => ?_)
    · replace hf := q_pos c10 hf
      refine lv_iconst (v := 0) S0.1 S0.2.1 dX8_isOpen_54 (by decide) ?_
      exact b55 0 s8 hf _ _ _ hw (lv_sub hl [] rfl)
    · replace hf := q_neg c10 hf
      refine lv_iconst (v := 1) S0.1 S0.2.1 dX8_isOpen_50 (by decide) ?_
      refine lv_goto (tgt := 55) S0.1 S0.2.1 dX8_isOpen_51 (by decide) ?_
      exact b55 1 s8 hf _ _ _ hw (lv_sub hl [] rfl)
  · replace hf := q_pos c5 hf
    exact hthr qt2_329 (by decide) hw hf ⟨dX8_isOpen_17, dX8_isOpen_20, Or.inr ⟨dX8_isOpen_21, dX8_isOpen_24, dX8_isOpen_27⟩⟩ hl.1 (Nat.le_of_ble_eq_true rfl) ⟨Nat.le_of_ble_eq_true rfl, Nat.le_of_ble_eq_true rfl⟩
theorem qyX8_takeFirst : qY yX8_takeFirst RX8 cX8_takeFirst 7 (some .int) 2 := ⟨⟨kw_1080, kw_1081, kw_1, kw_1082⟩, rfl, by decide, by decide, by decide +kernel⟩
def fX8_takeFirst_126 (F : Nat) (t0 : Int32) (σ : qS) : Option (Int32 × Nat × qS) :=
  some (t0, 0, σ)
def fX8_takeFirst (F : Nat) (p1 : Int32) (p2 : Int32) (σ : qS) : Option (Int32 × Nat × qS) :=
  bnd3 (fX8_known F p1 σ) (fun i2 s1 => bnd3 (fX8_mustLive F i2 s1) (fun _ s3 => bnd3 (fX8_mustNotGather F i2 s3) (fun _ s4 => nm (s4.1 0 0 14) fun v5 => (gnl i2 (s4.2 0 0) (nm (qI s4 50 i2 9 v5) fun s6 => (bnd2 (fX7_holds F 0 p2 s6) fun v8 s7 => (if v8 = 0 then (some ((-1), 0, s7)) else (gnl i2 (s7.2 0 0) (nm (s7.1 50 i2 1) fun v10 => (bnd2 (fX7_mayWrite F 0 p2 v10 s7) fun v12 s11 => (if v12 = 0 then (some ((-2), 0, s11)) else (bnd2 (fX7_firstWithoutChildren F 0 p2 s11) fun v15 s14 => (bnd2 (fX7_holds F 0 v15 s14) fun v17 s16 => (if v17 = 0 then (some ((-100), 0, s16)) else (ldi 80 (s16.1 32 0) v15 fun v19 => (bnd (fX0_toDo F 0 2 v15 0 ((-1)) s16) fun s20 => (bnd2 (fX8_submit F i2 0 s20) fun v22 s21 => (if 0 ≤ v22 then (fX8_takeFirst_126 F v19 s21) else (fX8_takeFirst_126 F v22 s21))))))))))))))))) (fun e s => some (0, e, s))) (fun e s => some (0, e, s))) (fun e s => some (0, e, s))
set_option maxRecDepth 100000 in
set_option maxHeartbeats 4000000 in
theorem wX8_takeFirst (l : Launch) (hst : l.stackTraces = false) (D : va_G) (Y : Nat → ClassId) (ad : qAd) (B0 F : Nat) (p1 : Int32) (p2 : Int32) (σ : qS) : qXi l yX8_takeFirst cX8_takeFirst 7 (some .int) 7 162 3 18 B0 D (cL Y) (qT Y) ad [.ref (ad 0 0), .int p1, .int p2] σ (fX8_takeFirst F p1 p2 σ) := by
  refine q_oxi hst (by decide) (Nat.le_of_ble_eq_true rfl) ⟨by decide, by decide⟩ "Leasehall" rfl (fun p e s m below meth c A Q r0 S0 hf hw hG hAB hret hHx hthr ls hl => ?_)
  replace hl : lv_has ls 7 [(0, .ref (ad 0 0)), (1, .int p1), (2, .int p2)] := hl
  unfold fX8_takeFirst at hf
  have b126 : ∀ (t0 : Int32) (σ : qS), fX8_takeFirst_126 F t0 σ = some r0 → qAt p l e (qRx 7 162 3 18) s m ([.ref (ad 0 0), .int p1, .int p2] : List Value).toArray below meth c Q D (cL Y) (qT Y) A ad 7 3 18 126 [] [.int t0] σ := by
    clear hf hw hl ls
    intro t0 σ hf H locs ls hw hl
    unfold fX8_takeFirst_126 at hf
    exact hret dX8_takeFirst_126 hw hf
  refine lv_aload_n S0.1 S0.2.1 dX8_takeFirst_0 rfl (lv_at hl 0 rfl) ?_
  refine lv_iload_n S0.1 S0.2.1 dX8_takeFirst_1 rfl (lv_at hl 1 rfl) ?_
  refine q_xcallr S0 hG hAB hw (As := [.int p1]) (rest := []) (wX8_known l hst D Y ad B0 F p1 σ) qyX8_known kw_599 ⟨Nat.le_of_ble_eq_true rfl, Nat.le_of_ble_eq_true rfl⟩ dC_0 rfl rfl rfl rfl hl.1 (Nat.le_of_ble_eq_true rfl) dX8_takeFirst_2 ⟨Nat.le_of_ble_eq_true rfl, Nat.le_of_ble_eq_true rfl⟩ rfl hf (fun ex ce q9 s9 H locs hw hf hne hce hcv hcl => hHx hw hf hne hce hcv hcl (Nat.le_of_ble_eq_true rfl) (Nat.le_of_ble_eq_true rfl)) (fun i2 s1 H locs hw hf => ?_)
  refine lv_astore_n (lv' := [(3, .ref (ad 50 i2)), (0, .ref (ad 0 0)), (1, .int p1), (2, .int p2)]) S0.1 S0.2.1 dX8_takeFirst_5 rfl hl (by decide) rfl (fun ls hl => ?_)
  refine lv_aload_n S0.1 S0.2.1 dX8_takeFirst_6 rfl (lv_at hl 1 rfl) ?_
  refine lv_aload_n S0.1 S0.2.1 dX8_takeFirst_7 rfl (lv_at hl 0 rfl) ?_
  refine q_xcallv S0 hG hAB hw (As := [.ref (ad 50 i2)]) (rest := []) (wX8_mustLive l hst D Y ad B0 F i2 s1) qyX8_mustLive kw_618 ⟨Nat.le_of_ble_eq_true rfl, Nat.le_of_ble_eq_true rfl⟩ dC_0 rfl rfl rfl rfl hl.1 (Nat.le_of_ble_eq_true rfl) dX8_takeFirst_8 ⟨Nat.le_of_ble_eq_true rfl, Nat.le_of_ble_eq_true rfl⟩ rfl hf (fun ex ce q9 s9 H locs hw hf hne hce hcv hcl => hHx hw hf hne hce hcv hcl (Nat.le_of_ble_eq_true rfl) (Nat.le_of_ble_eq_true rfl)) (fun _ s3 H locs hw hf => ?_)
  refine lv_aload_n S0.1 S0.2.1 dX8_takeFirst_11 rfl (lv_at hl 0 rfl) ?_
  refine q_xscallv S0 hG hAB hw (As := [.ref (ad 50 i2)]) (rest := []) (wX8_mustNotGather l hst D Y ad B0 F i2 s3) qsX8_mustNotGather kw_914 ⟨Nat.le_of_ble_eq_true rfl, Nat.le_of_ble_eq_true rfl⟩ rfl hl.1 (Nat.le_of_ble_eq_true rfl) dX8_takeFirst_12 ⟨Nat.le_of_ble_eq_true rfl, Nat.le_of_ble_eq_true rfl⟩ rfl hf (fun ex ce q9 s9 H locs hw hf hne hce hcv hcl => hHx hw hf hne hce hcv hcl (Nat.le_of_ble_eq_true rfl) (Nat.le_of_ble_eq_true rfl)) (fun _ s4 H locs hw hf => ?_)
  refine lv_aload_n S0.1 S0.2.1 dX8_takeFirst_15 rfl (lv_at hl 0 rfl) ?_
  refine lv_aload_n S0.1 S0.2.1 dX8_takeFirst_16 rfl (lv_at hl 1 rfl) ?_
  refine gX8_now S0 hw kw_241 dX8_takeFirst_17 hf (fun v5 hf => ?_)
  obtain ⟨hd, hf⟩ := gnl_some hf
  refine pX6_last S0 hw hd kw_485 dX8_takeFirst_20 hf (fun s6 H locs hw hf => ?_)
  refine lv_aload_n S0.1 S0.2.1 dX8_takeFirst_23 rfl (lv_at hl 1 rfl) ?_
  refine gX8_truth S0 hw kw_229 dX8_takeFirst_24 ?_
  refine lv_iload_n S0.1 S0.2.1 dX8_takeFirst_27 rfl (lv_at hl 3 rfl) ?_
  refine q_calli (k := 30) (i := 0) S0 hw (As := [.int p2]) (rest := []) (wX7_holds l D Y ad F 0 p2 s6) qyX7_holds kw_814 ⟨Nat.le_of_ble_eq_true rfl, Nat.le_of_ble_eq_true rfl⟩ (show 0 < 6 by decide) rfl rfl rfl rfl hl.1 (Nat.le_of_ble_eq_true rfl) dX8_takeFirst_28 ⟨Nat.le_of_ble_eq_true rfl, Nat.le_of_ble_eq_true rfl⟩ rfl hf (fun v8 s7 H locs hw hf => ?_)
  refine lv_if_ne (tgt := 36) S0.1 S0.2.1 dX8_takeFirst_31 (by decide) (fun c9 => ?_) (fun c9 => ?_)
  · replace hf := q_neg c9 hf
    refine lv_aload_n S0.1 S0.2.1 dX8_takeFirst_36 rfl (lv_at hl 1 rfl) ?_
    refine gX8_truth S0 hw kw_229 dX8_takeFirst_37 ?_
    refine lv_iload_n S0.1 S0.2.1 dX8_takeFirst_40 rfl (lv_at hl 3 rfl) ?_
    refine lv_aload_n S0.1 S0.2.1 dX8_takeFirst_41 rfl (lv_at hl 0 rfl) ?_
    obtain ⟨hd, hf⟩ := gnl_some hf
    refine gX6_person S0 hw hd kw_471 dX8_takeFirst_42 hf (fun v10 hf => ?_)
    refine q_calli (k := 30) (i := 0) S0 hw (As := [.int p2, .int v10]) (rest := []) (wX7_mayWrite l D Y ad F 0 p2 v10 s7) qyX7_mayWrite kw_818 ⟨Nat.le_of_ble_eq_true rfl, Nat.le_of_ble_eq_true rfl⟩ (show 0 < 6 by decide) rfl rfl rfl rfl hl.1 (Nat.le_of_ble_eq_true rfl) dX8_takeFirst_45 ⟨Nat.le_of_ble_eq_true rfl, Nat.le_of_ble_eq_true rfl⟩ rfl hf (fun v12 s11 H locs hw hf => ?_)
    refine lv_if_ne (tgt := 54) S0.1 S0.2.1 dX8_takeFirst_48 (by decide) (fun c13 => ?_) (fun c13 => ?_)
    · replace hf := q_neg c13 hf
      refine lv_aload_n S0.1 S0.2.1 dX8_takeFirst_54 rfl (lv_at hl 1 rfl) ?_
      refine gX8_truth S0 hw kw_229 dX8_takeFirst_55 ?_
      refine lv_iload_n S0.1 S0.2.1 dX8_takeFirst_58 rfl (lv_at hl 3 rfl) ?_
      refine q_calli (k := 30) (i := 0) S0 hw (As := [.int p2]) (rest := []) (wX7_firstWithoutChildren l D Y ad F 0 p2 s11) qyX7_firstWithoutChildren kw_1083 ⟨Nat.le_of_ble_eq_true rfl, Nat.le_of_ble_eq_true rfl⟩ (show 0 < 6 by decide) rfl rfl rfl rfl hl.1 (Nat.le_of_ble_eq_true rfl) dX8_takeFirst_59 ⟨Nat.le_of_ble_eq_true rfl, Nat.le_of_ble_eq_true rfl⟩ rfl hf (fun v15 s14 H locs hw hf => ?_)
      refine lv_istore (lv' := [(4, .int v15), (3, .ref (ad 50 i2)), (0, .ref (ad 0 0)), (1, .int p1), (2, .int p2)]) S0.1 S0.2.1 dX8_takeFirst_62 hl (by decide) rfl (fun ls hl => ?_)
      refine lv_aload_n S0.1 S0.2.1 dX8_takeFirst_64 rfl (lv_at hl 2 rfl) ?_
      refine gX8_truth S0 hw kw_229 dX8_takeFirst_65 ?_
      refine lv_iload S0.1 S0.2.1 dX8_takeFirst_68 (lv_at hl 0 rfl) ?_
      refine q_calli (k := 30) (i := 0) S0 hw (As := [.int v15]) (rest := []) (wX7_holds l D Y ad F 0 v15 s14) qyX7_holds kw_814 ⟨Nat.le_of_ble_eq_true rfl, Nat.le_of_ble_eq_true rfl⟩ (show 0 < 6 by decide) rfl rfl rfl rfl hl.1 (Nat.le_of_ble_eq_true rfl) dX8_takeFirst_70 ⟨Nat.le_of_ble_eq_true rfl, Nat.le_of_ble_eq_true rfl⟩ rfl hf (fun v17 s16 H locs hw hf => ?_)
      refine lv_if_ne (tgt := 79) S0.1 S0.2.1 dX8_takeFirst_73 (by decide) (fun c18 => ?_) (fun c18 => ?_)
      · replace hf := q_neg c18 hf
        refine lv_aload_n S0.1 S0.2.1 dX8_takeFirst_79 rfl (lv_at hl 2 rfl) ?_
        refine gX8_truth S0 hw kw_229 dX8_takeFirst_80 ?_
        refine gX7_value S0 hw (show 0 < 6 by decide) kw_82 dX8_takeFirst_83 ?_
        refine lv_iload S0.1 S0.2.1 dX8_takeFirst_86 (lv_at hl 0 rfl) ?_
        refine q_iald (k := 32) (i := 0) S0 hw (show 0 < 6 by decide) (t0 := 0) rfl rfl dX8_takeFirst_88 hf (fun v19 hf => ?_)
        refine lv_istore (lv' := [(5, .int v19), (4, .int v15), (3, .ref (ad 50 i2)), (0, .ref (ad 0 0)), (1, .int p1), (2, .int p2)]) S0.1 S0.2.1 dX8_takeFirst_89 hl (by decide) rfl (fun ls hl => ?_)
        refine lv_aload_n S0.1 S0.2.1 dX8_takeFirst_91 rfl (lv_at hl 3 rfl) ?_
        refine gX8_loneAct S0 hw kw_236 dX8_takeFirst_92 ?_
        refine lv_iconst (v := 2) S0.1 S0.2.1 dX8_takeFirst_95 (by decide) ?_
        refine lv_iload S0.1 S0.2.1 dX8_takeFirst_96 (lv_at hl 1 rfl) ?_
        refine lv_iconst (v := 0) S0.1 S0.2.1 dX8_takeFirst_98 (by decide) ?_
        refine lv_iconst (v := (-1)) S0.1 S0.2.1 dX8_takeFirst_99 (by decide) ?_
        refine q_callv (k := 56) (i := 0) S0 hw (As := [.int 2, .int v15, .int 0, .int ((-1))]) (rest := []) (wX0_toDo l D Y ad F 0 2 v15 0 ((-1)) s16) qyX0_toDo kw_884 ⟨Nat.le_of_ble_eq_true rfl, Nat.le_of_ble_eq_true rfl⟩ dC56 rfl rfl rfl rfl hl.1 (Nat.le_of_ble_eq_true rfl) dX8_takeFirst_100 ⟨Nat.le_of_ble_eq_true rfl, Nat.le_of_ble_eq_true rfl⟩ rfl hf (fun s20 H locs hw hf => ?_)
        refine lv_aload_n S0.1 S0.2.1 dX8_takeFirst_103 rfl (lv_at hl 3 rfl) ?_
        refine lv_aload_n S0.1 S0.2.1 dX8_takeFirst_104 rfl (lv_at hl 2 rfl) ?_
        refine lv_aload_n S0.1 S0.2.1 dX8_takeFirst_105 rfl (lv_at hl 3 rfl) ?_
        refine gX8_loneAct S0 hw kw_236 dX8_takeFirst_106 ?_
        refine q_calli S0 hw (As := [.ref (ad 50 i2), .ref (ad 56 0)]) (rest := []) (wX8_submit l D Y ad F i2 0 s20) qyX8_submit kw_798 ⟨Nat.le_of_ble_eq_true rfl, Nat.le_of_ble_eq_true rfl⟩ dC_0 rfl rfl rfl rfl hl.1 (Nat.le_of_ble_eq_true rfl) dX8_takeFirst_109 ⟨Nat.le_of_ble_eq_true rfl, Nat.le_of_ble_eq_true rfl⟩ rfl hf (fun v22 s21 H locs hw hf => ?_)
        refine lv_istore (lv' := [(6, .int v22), (5, .int v19), (4, .int v15), (3, .ref (ad 50 i2)), (0, .ref (ad 0 0)), (1, .int p1), (2, .int p2)]) S0.1 S0.2.1 dX8_takeFirst_112 hl (by decide) rfl (fun ls hl => ?_)
        refine lv_iload S0.1 S0.2.1 dX8_takeFirst_114 (lv_at hl 0 rfl) ?_
        refine lv_if_ge (tgt := 124) S0.1 S0.2.1 dX8_takeFirst_116 (by decide) (fun c23 => ?_) (fun c23 => ?_)
        · replace hf := q_pos c23 hf
          refine lv_iload S0.1 S0.2.1 dX8_takeFirst_124 (lv_at hl 1 rfl) ?_
          exact b126 v19 s21 hf _ _ _ hw (lv_sub hl [] rfl)
        · replace hf := q_neg c23 hf
          refine lv_iload S0.1 S0.2.1 dX8_takeFirst_119 (lv_at hl 0 rfl) ?_
          refine lv_goto (tgt := 126) S0.1 S0.2.1 dX8_takeFirst_121 (by decide) ?_
          exact b126 v22 s21 hf _ _ _ hw (lv_sub hl [] rfl)
      · replace hf := q_pos c18 hf
        refine lv_bipush (v := (-100)) S0.1 S0.2.1 dX8_takeFirst_76 (by decide) ?_
        exact hret dX8_takeFirst_78 hw hf
    · replace hf := q_pos c13 hf
      refine lv_bipush (v := (-2)) S0.1 S0.2.1 dX8_takeFirst_51 (by decide) ?_
      exact hret dX8_takeFirst_53 hw hf
  · replace hf := q_pos c9 hf
    refine lv_iconst (v := (-1)) S0.1 S0.2.1 dX8_takeFirst_34 (by decide) ?_
    exact hret dX8_takeFirst_35 hw hf
theorem qyX8_store : qY yX8_store RX8 cX8_store 3 (some .boolean) 2 := ⟨⟨kw_1091, kw_1092, kw_1, kw_1093⟩, rfl, by decide, by decide, by decide +kernel⟩
def fX8_store (F : Nat) (p1 : Int32) (p2 : Int32) (σ : qS) : Option (Int32 × Nat × qS) :=
  bnd2 (fX8_isWithin F p1 0 10000 σ) fun v2 s1 => (if v2 = 0 then (some (0, 2, s1)) else (nm (s1.1 0 0 18) fun v4 => (if v4 ≤ p1 then (nm (qI s1 0 0 18 p1) fun s6 => (nm (qI s6 0 0 19 p2) fun s7 => (gbl 1 (some (1, 0, s7))))) else (gbl 0 (some (0, 0, s1))))))
set_option maxRecDepth 100000 in
set_option maxHeartbeats 4000000 in
theorem wX8_store (l : Launch) (hst : l.stackTraces = false) (D : va_G) (Y : Nat → ClassId) (ad : qAd) (B0 F : Nat) (p1 : Int32) (p2 : Int32) (σ : qS) : qXi l yX8_store cX8_store 3 (some .boolean) 6 90 1 6 B0 D (cL Y) (qT Y) ad [.ref (ad 0 0), .int p1, .int p2] σ (fX8_store F p1 p2 σ) := by
  refine q_oxz hst (by decide) (Nat.le_of_ble_eq_true rfl) ⟨by decide, by decide⟩ "Leasehall" rfl (fun p e s m below meth c A Q r0 S0 hf hw hG hAB hret hHx hthr ls hl => ?_)
  replace hl : lv_has ls 3 [(0, .ref (ad 0 0)), (1, .int p1), (2, .int p2)] := hl
  unfold fX8_store at hf
  refine lv_iload_n S0.1 S0.2.1 dX8_store_0 rfl (lv_at hl 1 rfl) ?_
  refine lv_iconst (v := 0) S0.1 S0.2.1 dX8_store_1 (by decide) ?_
  refine lv_sipush (v := 10000) S0.1 S0.2.1 dX8_store_2 (by decide) ?_
  refine q_scalli S0 hw (As := [.int p1, .int 0, .int 10000]) (rest := []) (wX8_isWithin l D Y ad F p1 0 10000 σ) qsX8_isWithin kw_296 ⟨Nat.le_of_ble_eq_true rfl, Nat.le_of_ble_eq_true rfl⟩ rfl hl.1 (Nat.le_of_ble_eq_true rfl) dX8_store_5 ⟨Nat.le_of_ble_eq_true rfl, Nat.le_of_ble_eq_true rfl⟩ rfl hf (fun v2 s1 H locs hw hf => ?_)
  refine lv_if_ne (tgt := 22) S0.1 S0.2.1 dX8_store_8 (by decide) (fun c3 => ?_) (fun c3 => ?_)
  · replace hf := q_neg c3 hf
    refine lv_iload_n S0.1 S0.2.1 dX8_store_22 rfl (lv_at hl 1 rfl) ?_
    refine lv_aload_n S0.1 S0.2.1 dX8_store_23 rfl (lv_at hl 0 rfl) ?_
    refine gX8_greatestFence S0 hw kw_245 dX8_store_24 hf (fun v4 hf => ?_)
    refine lv_icmp_ge (tgt := 32) S0.1 S0.2.1 dX8_store_27 (by decide) (fun c5 => ?_) (fun c5 => ?_)
    · replace hf := q_pos c5 hf
      refine lv_aload_n S0.1 S0.2.1 dX8_store_32 rfl (lv_at hl 0 rfl) ?_
      refine lv_iload_n S0.1 S0.2.1 dX8_store_33 rfl (lv_at hl 1 rfl) ?_
      refine pX8_greatestFence S0 hw kw_245 dX8_store_34 hf (fun s6 H locs hw hf => ?_)
      refine lv_aload_n S0.1 S0.2.1 dX8_store_37 rfl (lv_at hl 0 rfl) ?_
      refine lv_iload_n S0.1 S0.2.1 dX8_store_38 rfl (lv_at hl 2 rfl) ?_
      refine pX8_storedNumber S0 hw kw_246 dX8_store_39 hf (fun s7 H locs hw hf => ?_)
      refine lv_iconst (v := 1) S0.1 S0.2.1 dX8_store_42 (by decide) ?_
      refine W.widen (k := 1) (n := 6) (by decide) (by decide) ?_
      exact hret dX8_store_43 hw hf
    · replace hf := q_neg c5 hf
      refine lv_iconst (v := 0) S0.1 S0.2.1 dX8_store_30 (by decide) ?_
      refine W.widen (k := 1) (n := 6) (by decide) (by decide) ?_
      exact hret dX8_store_31 hw hf
  · replace hf := q_pos c3 hf
    exact hthr qt2_344 (by decide) hw hf ⟨dX8_store_11, dX8_store_14, Or.inr ⟨dX8_store_15, dX8_store_18, dX8_store_21⟩⟩ hl.1 (Nat.le_of_ble_eq_true rfl) ⟨Nat.le_of_ble_eq_true rfl, Nat.le_of_ble_eq_true rfl⟩
theorem qyX8_mustBeChange : qY yX8_mustBeChange RX8 cX8_mustBeChange 2 none 1 := ⟨⟨kw_1104, kp_37, kw_1, kw_1105⟩, rfl, by decide, by decide, by decide +kernel⟩
def fX8_mustBeChange (F : Nat) (p1 : Int32) (σ : qS) : Option (Int32 × Nat × qS) :=
  nm (σ.1 0 0 15) fun v1 => (bnd2 (fX8_isWithin F p1 0 v1 σ) fun v3 s2 => (if v3 = 0 then (some (0, 2, s2)) else (some (0, 0, s2))))
set_option maxRecDepth 100000 in
set_option maxHeartbeats 4000000 in
theorem wX8_mustBeChange (l : Launch) (hst : l.stackTraces = false) (D : va_G) (Y : Nat → ClassId) (ad : qAd) (B0 F : Nat) (p1 : Int32) (σ : qS) : qXv l yX8_mustBeChange cX8_mustBeChange 2 none 6 90 1 6 B0 D (cL Y) (qT Y) ad [.ref (ad 0 0), .int p1] σ (fX8_mustBeChange F p1 σ) := by
  refine q_oxv hst (by decide) (Nat.le_of_ble_eq_true rfl) ⟨by decide, by decide⟩ "Leasehall" rfl (fun p e s m below meth c A Q r0 S0 hf hw hG hAB hret hHx hthr ls hl => ?_)
  replace hl : lv_has ls 2 [(0, .ref (ad 0 0)), (1, .int p1)] := hl
  unfold fX8_mustBeChange at hf
  refine lv_iload_n S0.1 S0.2.1 dX8_mustBeChange_0 rfl (lv_at hl 1 rfl) ?_
  refine lv_iconst (v := 0) S0.1 S0.2.1 dX8_mustBeChange_1 (by decide) ?_
  refine lv_aload_n S0.1 S0.2.1 dX8_mustBeChange_2 rfl (lv_at hl 0 rfl) ?_
  refine gX8_lastChange S0 hw kw_242 dX8_mustBeChange_3 hf (fun v1 hf => ?_)
  refine q_scalli S0 hw (As := [.int p1, .int 0, .int v1]) (rest := []) (wX8_isWithin l D Y ad F p1 0 v1 σ) qsX8_isWithin kw_296 ⟨Nat.le_of_ble_eq_true rfl, Nat.le_of_ble_eq_true rfl⟩ rfl hl.1 (Nat.le_of_ble_eq_true rfl) dX8_mustBeChange_6 ⟨Nat.le_of_ble_eq_true rfl, Nat.le_of_ble_eq_true rfl⟩ rfl hf (fun v3 s2 H locs hw hf => ?_)
  refine lv_if_ne (tgt := 23) S0.1 S0.2.1 dX8_mustBeChange_9 (by decide) (fun c4 => ?_) (fun c4 => ?_)
  · replace hf := q_neg c4 hf
    refine W.widen (k := 1) (n := 6) (by decide) (by decide) ?_
    exact hret dX8_mustBeChange_23 hw hf
  · replace hf := q_pos c4 hf
    exact hthr qt2_408 (by decide) hw hf ⟨dX8_mustBeChange_12, dX8_mustBeChange_15, Or.inr ⟨dX8_mustBeChange_16, dX8_mustBeChange_19, dX8_mustBeChange_22⟩⟩ hl.1 (Nat.le_of_ble_eq_true rfl) ⟨Nat.le_of_ble_eq_true rfl, Nat.le_of_ble_eq_true rfl⟩
theorem qyX8_mustBeKept : qY yX8_mustBeKept RX8 cX8_mustBeKept 2 none 1 := ⟨⟨kw_1109, kp_38, kw_1, kw_1110⟩, rfl, by decide, by decide, by decide +kernel⟩
def fX8_mustBeKept (F : Nat) (p1 : Int32) (σ : qS) : Option (Int32 × Nat × qS) :=
  nm (σ.1 0 0 16) fun v1 => (if v1 ≤ p1 then (some (0, 0, σ)) else (some (0, 3, σ)))
set_option maxRecDepth 100000 in
set_option maxHeartbeats 4000000 in
theorem wX8_mustBeKept (l : Launch) (hst : l.stackTraces = false) (D : va_G) (Y : Nat → ClassId) (ad : qAd) (B0 F : Nat) (p1 : Int32) (σ : qS) : qXv l yX8_mustBeKept cX8_mustBeKept 2 none 6 90 1 6 B0 D (cL Y) (qT Y) ad [.ref (ad 0 0), .int p1] σ (fX8_mustBeKept F p1 σ) := by
  refine q_oxv hst (by decide) (Nat.le_of_ble_eq_true rfl) ⟨by decide, by decide⟩ "Leasehall" rfl (fun p e s m below meth c A Q r0 S0 hf hw hG hAB hret hHx hthr ls hl => ?_)
  replace hl : lv_has ls 2 [(0, .ref (ad 0 0)), (1, .int p1)] := hl
  unfold fX8_mustBeKept at hf
  refine lv_iload_n S0.1 S0.2.1 dX8_mustBeKept_0 rfl (lv_at hl 1 rfl) ?_
  refine lv_aload_n S0.1 S0.2.1 dX8_mustBeKept_1 rfl (lv_at hl 0 rfl) ?_
  refine gX8_compacted S0 hw kw_243 dX8_mustBeKept_2 hf (fun v1 hf => ?_)
  refine lv_icmp_ge (tgt := 19) S0.1 S0.2.1 dX8_mustBeKept_5 (by decide) (fun c2 => ?_) (fun c2 => ?_)
  · replace hf := q_pos c2 hf
    refine W.widen (k := 1) (n := 6) (by decide) (by decide) ?_
    exact hret dX8_mustBeKept_19 hw hf
  · replace hf := q_neg c2 hf
    exact hthr qt3_410 (by decide) hw hf ⟨dX8_mustBeKept_8, dX8_mustBeKept_11, Or.inr ⟨dX8_mustBeKept_12, dX8_mustBeKept_15, dX8_mustBeKept_18⟩⟩ hl.1 (Nat.le_of_ble_eq_true rfl) ⟨Nat.le_of_ble_eq_true rfl, Nat.le_of_ble_eq_true rfl⟩
theorem qyX8_valueAt : qY yX8_valueAt RX8 cX8_valueAt 5 (some .int) 2 := ⟨⟨kw_1099, kw_1100, kw_1, kw_1101⟩, rfl, by decide, by decide, by decide +kernel⟩
def fX8_valueAt_141 (F : Nat) (x3 : Int32) (σ : qS) : Option (Int32 × Nat × qS) :=
  some (x3, 0, σ)
def fX8_valueAt_135 (F : Nat) (k53 : Int32 → Int32 → Int32 → Int32 → qS → Option (Int32 × Nat × qS)) (x1 : Int32) (x2 : Int32) (x3 : Int32) (x4 : Int32) (σ : qS) : Option (Int32 × Nat × qS) :=
  nm (x4 + 1) fun v14 => (k53 x1 x2 x3 v14 σ)
def fX8_valueAt_134 (F : Nat) (k53 : Int32 → Int32 → Int32 → Int32 → qS → Option (Int32 × Nat × qS)) (x1 : Int32) (x2 : Int32) (x4 : Int32) (t0 : Int32) (σ : qS) : Option (Int32 × Nat × qS) :=
  fX8_valueAt_135 F k53 x1 x2 t0 x4 σ
def fX8_valueAt_53 (F : Nat) : Nat → Int32 → Int32 → Int32 → Int32 → qS → Option (Int32 × Nat × qS)
  | 0, _, _, _, _, _ => none
  | n + 1, x1, x2, x3, x4, σ =>
  nm (σ.1 9 0 4) fun v8 => (if v8 ≤ x4 then (fX8_valueAt_141 F x3 σ) else (ldi 1024 (σ.1 10 0) x4 fun v10 => (if x2 < v10 then (fX8_valueAt_141 F x3 σ) else (ldi 1024 (σ.1 12 0) x4 fun v12 => (if v12 = x1 then (bnd2 (fX3_tells F x4 σ) fun v16 s15 => (if v16 = 0 then (fX8_valueAt_135 F (fX8_valueAt_53 F n) x1 x2 x3 x4 s15) else (ldi 1024 (s15.1 11 0) x4 fun v18 => (if v18 = 2 then (fX8_valueAt_134 F (fX8_valueAt_53 F n) x1 x2 x4 ((-100)) s15) else (ldi 1024 (s15.1 13 0) x4 fun v20 => (fX8_valueAt_134 F (fX8_valueAt_53 F n) x1 x2 x4 v20 s15)))))) else (fX8_valueAt_135 F (fX8_valueAt_53 F n) x1 x2 x3 x4 σ))))))
def fX8_valueAt_49 (F : Nat) (x1 : Int32) (x2 : Int32) (t0 : Int32) (σ : qS) : Option (Int32 × Nat × qS) :=
  fX8_valueAt_53 F F x1 x2 t0 0 σ
def fX8_valueAt (F : Nat) (p1 : Int32) (p2 : Int32) (σ : qS) : Option (Int32 × Nat × qS) :=
  bnd3 (fX8_mustBeChange F p2 σ) (fun _ s1 => bnd3 (fX8_mustBeKept F p2 s1) (fun _ s2 => bnd2 (fX8_isWithin F p1 0 79 s2) fun v4 s3 => (if v4 = 0 then (some ((-100), 0, s3)) else (ldi 80 (s3.1 31 4) p1 fun v6 => (if v6 = 0 then (fX8_valueAt_49 F p1 p2 ((-100)) s3) else (ldi 80 (s3.1 32 4) p1 fun v21 => (fX8_valueAt_49 F p1 p2 v21 s3)))))) (fun e s => some (0, e, s))) (fun e s => some (0, e, s))
set_option maxRecDepth 100000 in
set_option maxHeartbeats 4000000 in
theorem wX8_valueAt (l : Launch) (hst : l.stackTraces = false) (D : va_G) (Y : Nat → ClassId) (ad : qAd) (B0 F : Nat) (p1 : Int32) (p2 : Int32) (σ : qS) : qXi l yX8_valueAt cX8_valueAt 5 (some .int) 7 111 2 12 B0 D (cL Y) (qT Y) ad [.ref (ad 0 0), .int p1, .int p2] σ (fX8_valueAt F p1 p2 σ) := by
  refine q_oxi hst (by decide) (Nat.le_of_ble_eq_true rfl) ⟨by decide, by decide⟩ "Leasehall" rfl (fun p e s m below meth c A Q r0 S0 hf hw hG hAB hret hHx hthr ls hl => ?_)
  replace hl : lv_has ls 5 [(0, .ref (ad 0 0)), (1, .int p1), (2, .int p2)] := hl
  unfold fX8_valueAt at hf
  have b141 : ∀ (x3 : Int32) (σ : qS), fX8_valueAt_141 F x3 σ = some r0 → qAt p l e (qRx 7 111 2 12) s m ([.ref (ad 0 0), .int p1, .int p2] : List Value).toArray below meth c Q D (cL Y) (qT Y) A ad 5 2 12 141 [(3, .int x3)] [] σ := by
    clear hf hw hl ls
    intro x3 σ hf H locs ls hw hl
    unfold fX8_valueAt_141 at hf
    refine lv_iload_n S0.1 S0.2.1 dX8_valueAt_141 rfl (lv_at hl 0 rfl) ?_
    exact hret dX8_valueAt_142 hw hf
  have b135 : ∀ (k53 : Int32 → Int32 → Int32 → Int32 → qS → Option (Int32 × Nat × qS)) (hk53 : ∀ (x1 : Int32) (x2 : Int32) (x3 : Int32) (x4 : Int32) (σ : qS), k53 x1 x2 x3 x4 σ = some r0 → qAt p l e (qRx 7 111 2 12) s m ([.ref (ad 0 0), .int p1, .int p2] : List Value).toArray below meth c Q D (cL Y) (qT Y) A ad 5 2 12 53 [(0, .ref (ad 0 0)), (1, .int x1), (2, .int x2), (3, .int x3), (4, .int x4)] [] σ) (x1 : Int32) (x2 : Int32) (x3 : Int32) (x4 : Int32) (σ : qS), fX8_valueAt_135 F k53 x1 x2 x3 x4 σ = some r0 → qAt p l e (qRx 7 111 2 12) s m ([.ref (ad 0 0), .int p1, .int p2] : List Value).toArray below meth c Q D (cL Y) (qT Y) A ad 5 2 12 135 [(0, .ref (ad 0 0)), (1, .int x1), (2, .int x2), (3, .int x3), (4, .int x4)] [] σ := by
    clear hf hw hl ls
    intro k53 hk53
    intro x1 x2 x3 x4 σ hf H locs ls hw hl
    unfold fX8_valueAt_135 at hf
    refine q_iinc S0 (v0 := 1) dX8_valueAt_135 hl (k := 4) rfl (by decide) (by decide) rfl hf (fun v14 ls hl hf => ?_)
    refine lv_goto (tgt := 53) S0.1 S0.2.1 dX8_valueAt_138 (by decide) ?_
    exact hk53 x1 x2 x3 v14 σ hf _ _ _ hw (lv_sub hl [1, 2, 3, 4, 0] rfl)
  have b134 : ∀ (k53 : Int32 → Int32 → Int32 → Int32 → qS → Option (Int32 × Nat × qS)) (hk53 : ∀ (x1 : Int32) (x2 : Int32) (x3 : Int32) (x4 : Int32) (σ : qS), k53 x1 x2 x3 x4 σ = some r0 → qAt p l e (qRx 7 111 2 12) s m ([.ref (ad 0 0), .int p1, .int p2] : List Value).toArray below meth c Q D (cL Y) (qT Y) A ad 5 2 12 53 [(0, .ref (ad 0 0)), (1, .int x1), (2, .int x2), (3, .int x3), (4, .int x4)] [] σ) (x1 : Int32) (x2 : Int32) (x4 : Int32) (t0 : Int32) (σ : qS), fX8_valueAt_134 F k53 x1 x2 x4 t0 σ = some r0 → qAt p l e (qRx 7 111 2 12) s m ([.ref (ad 0 0), .int p1, .int p2] : List Value).toArray below meth c Q D (cL Y) (qT Y) A ad 5 2 12 134 [(0, .ref (ad 0 0)), (1, .int x1), (2, .int x2), (4, .int x4)] [.int t0] σ := by
    clear hf hw hl ls
    intro k53 hk53
    intro x1 x2 x4 t0 σ hf H locs ls hw hl
    unfold fX8_valueAt_134 at hf
    refine lv_istore_n (lv' := [(3, .int t0), (0, .ref (ad 0 0)), (1, .int x1), (2, .int x2), (4, .int x4)]) S0.1 S0.2.1 dX8_valueAt_134 rfl hl (by decide) rfl (fun ls hl => ?_)
    exact b135 k53 hk53 x1 x2 t0 x4 σ hf _ _ _ hw (lv_sub hl [1, 2, 3, 0, 4] rfl)
  have b53 : ∀ (n : Nat) (x1 : Int32) (x2 : Int32) (x3 : Int32) (x4 : Int32) (σ : qS), fX8_valueAt_53 F n x1 x2 x3 x4 σ = some r0 → qAt p l e (qRx 7 111 2 12) s m ([.ref (ad 0 0), .int p1, .int p2] : List Value).toArray below meth c Q D (cL Y) (qT Y) A ad 5 2 12 53 [(0, .ref (ad 0 0)), (1, .int x1), (2, .int x2), (3, .int x3), (4, .int x4)] [] σ := by
    clear hf hw hl ls
    intro n
    induction n with
    | zero => intro x1 x2 x3 x4 σ hf; exact absurd hf (by rw [fX8_valueAt_53]; exact nofun)
    | succ n hk53 =>
      intro x1 x2 x3 x4 σ hf H locs ls hw hl
      rw [fX8_valueAt_53] at hf
      refine lv_iload S0.1 S0.2.1 dX8_valueAt_53 (lv_at hl 4 rfl) ?_
      refine lv_aload_n S0.1 S0.2.1 dX8_valueAt_55 rfl (lv_at hl 0 rfl) ?_
      refine gX8_log S0 hw kw_232 dX8_valueAt_56 ?_
      refine gX3_size S0 hw kw_130 dX8_valueAt_59 hf (fun v8 hf => ?_)
      refine lv_icmp_ge (tgt := 141) S0.1 S0.2.1 dX8_valueAt_62 (by decide) (fun c9 => ?_) (fun c9 => ?_)
      · replace hf := q_pos c9 hf
        exact b141 x3 σ hf _ _ _ hw (lv_sub hl [3] rfl)
      · replace hf := q_neg c9 hf
        refine lv_aload_n S0.1 S0.2.1 dX8_valueAt_65 rfl (lv_at hl 0 rfl) ?_
        refine gX8_log S0 hw kw_232 dX8_valueAt_66 ?_
        refine gX3_change S0 hw kw_122 dX8_valueAt_69 ?_
        refine lv_iload S0.1 S0.2.1 dX8_valueAt_72 (lv_at hl 4 rfl) ?_
        refine q_iald S0 hw dC_10 (t0 := 0) rfl rfl dX8_valueAt_74 hf (fun v10 hf => ?_)
        refine lv_iload_n S0.1 S0.2.1 dX8_valueAt_75 rfl (lv_at hl 2 rfl) ?_
        refine lv_icmp_gt (tgt := 141) S0.1 S0.2.1 dX8_valueAt_76 (by decide) (fun c11 => ?_) (fun c11 => ?_)
        · replace hf := q_pos c11 hf
          exact b141 x3 σ hf _ _ _ hw (lv_sub hl [3] rfl)
        · replace hf := q_neg c11 hf
          refine lv_aload_n S0.1 S0.2.1 dX8_valueAt_79 rfl (lv_at hl 0 rfl) ?_
          refine gX8_log S0 hw kw_232 dX8_valueAt_80 ?_
          refine gX3_node S0 hw kw_126 dX8_valueAt_83 ?_
          refine lv_iload S0.1 S0.2.1 dX8_valueAt_86 (lv_at hl 4 rfl) ?_
          refine q_iald S0 hw dC_12 (t0 := 0) rfl rfl dX8_valueAt_88 hf (fun v12 hf => ?_)
          refine lv_iload_n S0.1 S0.2.1 dX8_valueAt_89 rfl (lv_at hl 1 rfl) ?_
          refine lv_icmp_ne (tgt := 135) S0.1 S0.2.1 dX8_valueAt_90 (by decide) (fun c13 => ?_) (fun c13 => ?_)
          · replace hf := q_neg c13 hf
            exact b135 (fX8_valueAt_53 F n) hk53 x1 x2 x3 x4 σ hf _ _ _ hw (lv_sub hl [0, 1, 2, 3, 4] rfl)
          · replace hf := q_pos c13 hf
            refine lv_aload_n S0.1 S0.2.1 dX8_valueAt_93 rfl (lv_at hl 0 rfl) ?_
            refine gX8_log S0 hw kw_232 dX8_valueAt_94 ?_
            refine lv_iload S0.1 S0.2.1 dX8_valueAt_97 (lv_at hl 4 rfl) ?_
            refine q_calli S0 hw (As := [.int x4]) (rest := []) (wX3_tells l D Y ad F x4 σ) qyX3_tells kw_983 ⟨Nat.le_of_ble_eq_true rfl, Nat.le_of_ble_eq_true rfl⟩ dC_9 rfl rfl rfl rfl hl.1 (Nat.le_of_ble_eq_true rfl) dX8_valueAt_99 ⟨Nat.le_of_ble_eq_true rfl, Nat.le_of_ble_eq_true rfl⟩ rfl hf (fun v16 s15 H locs hw hf => ?_)
            refine lv_if_eq (tgt := 135) S0.1 S0.2.1 dX8_valueAt_102 (by decide) (fun c17 => ?_) (fun c17 => ?_)
            · replace hf := q_pos c17 hf
              exact b135 (fX8_valueAt_53 F n) hk53 x1 x2 x3 x4 s15 hf _ _ _ hw (lv_sub hl [0, 1, 2, 3, 4] rfl)
            · replace hf := q_neg c17 hf
              refine lv_aload_n S0.1 S0.2.1 dX8_valueAt_105 rfl (lv_at hl 0 rfl) ?_
              refine gX8_log S0 hw kw_232 dX8_valueAt_106 ?_
              refine gX3_kind S0 hw kw_124 dX8_valueAt_109 ?_
              refine lv_iload S0.1 S0.2.1 dX8_valueAt_112 (lv_at hl 4 rfl) ?_
              refine q_iald S0 hw dC_11 (t0 := 0) rfl rfl dX8_valueAt_114 hf (fun v18 hf => ?_)
              refine lv_iconst (v := 2) S0.1 S0.2.1 dX8_valueAt_115 (by decide) ?_
              refine lv_icmp_ne (tgt := 124) S0.1 S0.2.1 dX8_valueAt_116 (by decide) (fun c19 => ?_) (fun c19 => ?_)
              · replace hf := q_neg c19 hf
                refine lv_aload_n S0.1 S0.2.1 dX8_valueAt_124 rfl (lv_at hl 0 rfl) ?_
                refine gX8_log S0 hw kw_232 dX8_valueAt_125 ?_
                refine gX3_number S0 hw kw_128 dX8_valueAt_128 ?_
                refine lv_iload S0.1 S0.2.1 dX8_valueAt_131 (lv_at hl 4 rfl) ?_
                refine q_iald S0 hw dC_13 (t0 := 0) rfl rfl dX8_valueAt_133 hf (fun v20 hf => ?_)
                exact b134 (fX8_valueAt_53 F n) hk53 x1 x2 x4 v20 s15 hf _ _ _ hw (lv_sub hl [0, 1, 2, 4] rfl)
              · replace hf := q_pos c19 hf
                refine lv_bipush (v := (-100)) S0.1 S0.2.1 dX8_valueAt_119 (by decide) ?_
                refine lv_goto (tgt := 134) S0.1 S0.2.1 dX8_valueAt_121 (by decide) ?_
                exact b134 (fX8_valueAt_53 F n) hk53 x1 x2 x4 ((-100)) s15 hf _ _ _ hw (lv_sub hl [0, 1, 2, 4] rfl)
  have b49 : ∀ (x1 : Int32) (x2 : Int32) (t0 : Int32) (σ : qS), fX8_valueAt_49 F x1 x2 t0 σ = some r0 → qAt p l e (qRx 7 111 2 12) s m ([.ref (ad 0 0), .int p1, .int p2] : List Value).toArray below meth c Q D (cL Y) (qT Y) A ad 5 2 12 49 [(0, .ref (ad 0 0)), (1, .int x1), (2, .int x2)] [.int t0] σ := by
    clear hf hw hl ls
    intro x1 x2 t0 σ hf H locs ls hw hl
    unfold fX8_valueAt_49 at hf
    refine lv_istore_n (lv' := [(3, .int t0), (0, .ref (ad 0 0)), (1, .int x1), (2, .int x2)]) S0.1 S0.2.1 dX8_valueAt_49 rfl hl (by decide) rfl (fun ls hl => ?_)
    refine lv_iconst (v := 0) S0.1 S0.2.1 dX8_valueAt_50 (by decide) ?_
    refine lv_istore (lv' := [(4, .int 0), (3, .int t0), (0, .ref (ad 0 0)), (1, .int x1), (2, .int x2)]) S0.1 S0.2.1 dX8_valueAt_51 hl (by decide) rfl (fun ls hl => ?_)
    exact b53 F x1 x2 t0 0 σ hf _ _ _ hw (lv_sub hl [2, 3, 4, 1, 0] rfl)
  refine lv_aload_n S0.1 S0.2.1 dX8_valueAt_0 rfl (lv_at hl 0 rfl) ?_
  refine lv_iload_n S0.1 S0.2.1 dX8_valueAt_1 rfl (lv_at hl 2 rfl) ?_
  refine q_xcallv S0 hG hAB hw (As := [.int p2]) (rest := []) (wX8_mustBeChange l hst D Y ad B0 F p2 σ) qyX8_mustBeChange kw_1102 ⟨Nat.le_of_ble_eq_true rfl, Nat.le_of_ble_eq_true rfl⟩ dC_0 rfl rfl rfl rfl hl.1 (Nat.le_of_ble_eq_true rfl) dX8_valueAt_2 ⟨Nat.le_of_ble_eq_true rfl, Nat.le_of_ble_eq_true rfl⟩ rfl hf (fun ex ce q9 s9 H locs hw hf hne hce hcv hcl => hHx hw hf hne hce hcv hcl (Nat.le_of_ble_eq_true rfl) (Nat.le_of_ble_eq_true rfl)) (fun _ s1 H locs hw hf => ?_)
  refine lv_aload_n S0.1 S0.2.1 dX8_valueAt_5 rfl (lv_at hl 0 rfl) ?_
  refine lv_iload_n S0.1 S0.2.1 dX8_valueAt_6 rfl (lv_at hl 2 rfl) ?_
  refine q_xcallv S0 hG hAB hw (As := [.int p2]) (rest := []) (wX8_mustBeKept l hst D Y ad B0 F p2 s1) qyX8_mustBeKept kw_1107 ⟨Nat.le_of_ble_eq_true rfl, Nat.le_of_ble_eq_true rfl⟩ dC_0 rfl rfl rfl rfl hl.1 (Nat.le_of_ble_eq_true rfl) dX8_valueAt_7 ⟨Nat.le_of_ble_eq_true rfl, Nat.le_of_ble_eq_true rfl⟩ rfl hf (fun ex ce q9 s9 H locs hw hf hne hce hcv hcl => hHx hw hf hne hce hcv hcl (Nat.le_of_ble_eq_true rfl) (Nat.le_of_ble_eq_true rfl)) (fun _ s2 H locs hw hf => ?_)
  refine lv_iload_n S0.1 S0.2.1 dX8_valueAt_10 rfl (lv_at hl 1 rfl) ?_
  refine lv_iconst (v := 0) S0.1 S0.2.1 dX8_valueAt_11 (by decide) ?_
  refine lv_bipush (v := 79) S0.1 S0.2.1 dX8_valueAt_12 (by decide) ?_
  refine q_scalli S0 hw (As := [.int p1, .int 0, .int 79]) (rest := []) (wX8_isWithin l D Y ad F p1 0 79 s2) qsX8_isWithin kw_296 ⟨Nat.le_of_ble_eq_true rfl, Nat.le_of_ble_eq_true rfl⟩ rfl hl.1 (Nat.le_of_ble_eq_true rfl) dX8_valueAt_14 ⟨Nat.le_of_ble_eq_true rfl, Nat.le_of_ble_eq_true rfl⟩ rfl hf (fun v4 s3 H locs hw hf => ?_)
  refine lv_if_ne (tgt := 23) S0.1 S0.2.1 dX8_valueAt_17 (by decide) (fun c5 => ?_) (fun c5 => ?_)
  · replace hf := q_neg c5 hf
    refine lv_aload_n S0.1 S0.2.1 dX8_valueAt_23 rfl (lv_at hl 0 rfl) ?_
    refine gX8_oldest S0 hw kw_231 dX8_valueAt_24 ?_
    refine gX7_here S0 hw (show 4 < 6 by decide) kw_80 dX8_valueAt_27 ?_
    refine lv_iload_n S0.1 S0.2.1 dX8_valueAt_30 rfl (lv_at hl 1 rfl) ?_
    refine q_zald (k := 31) (i := 4) S0 hw (show 4 < 6 by decide) (t0 := 1) rfl rfl dX8_valueAt_31 hf (fun v6 hf => ?_)
    refine lv_if_eq (tgt := 47) S0.1 S0.2.1 dX8_valueAt_32 (by decide) (fun c7 => ?_) (fun c7 => ?_)
    · replace hf := q_pos c7 hf
      refine lv_bipush (v := (-100)) S0.1 S0.2.1 dX8_valueAt_47 (by decide) ?_
      exact b49 p1 p2 ((-100)) s3 hf _ _ _ hw (lv_sub hl [0, 1, 2] rfl)
    · replace hf := q_neg c7 hf
      refine lv_aload_n S0.1 S0.2.1 dX8_valueAt_35 rfl (lv_at hl 0 rfl) ?_
      refine gX8_oldest S0 hw kw_231 dX8_valueAt_36 ?_
      refine gX7_value S0 hw (show 4 < 6 by decide) kw_82 dX8_valueAt_39 ?_
      refine lv_iload_n S0.1 S0.2.1 dX8_valueAt_42 rfl (lv_at hl 1 rfl) ?_
      refine q_iald (k := 32) (i := 4) S0 hw (show 4 < 6 by decide) (t0 := 0) rfl rfl dX8_valueAt_43 hf (fun v21 hf => ?_)
      refine lv_goto (tgt := 49) S0.1 S0.2.1 dX8_valueAt_44 (by decide) ?_
      exact b49 p1 p2 v21 s3 hf _ _ _ hw (lv_sub hl [0, 1, 2] rfl)
  · replace hf := q_pos c5 hf
    refine lv_bipush (v := (-100)) S0.1 S0.2.1 dX8_valueAt_20 (by decide) ?_
    exact hret dX8_valueAt_22 hw hf
theorem qyX8_changedAt : qY yX8_changedAt RX8 cX8_changedAt 7 (some .int) 3 := ⟨⟨kw_1116, kw_1117, kw_1, kw_1118⟩, rfl, by decide, by decide, by decide +kernel⟩
def fX8_changedAt_111 (F : Nat) (k34 : Int32 → Int32 → Int32 → Int32 → Int32 → qS → Option (Int32 × Nat × qS)) (x1 : Int32) (x3 : Int32) (x4 : Int32) (x5 : Int32) (x6 : Int32) (σ : qS) : Option (Int32 × Nat × qS) :=
  nm (x6 + 1) fun v8 => (k34 x1 x3 x4 x5 v8 σ)
def fX8_changedAt_34 (F : Nat) : Nat → Int32 → Int32 → Int32 → Int32 → Int32 → qS → Option (Int32 × Nat × qS)
  | 0, _, _, _, _, _, _ => none
  | n + 1, x1, x3, x4, x5, x6, σ =>
  nm (σ.1 9 0 4) fun v4 => (if v4 ≤ x6 then (some ((-100), 0, σ)) else (ldi 1024 (σ.1 12 0) x6 fun v6 => (if v6 = x1 then (bnd2 (fX3_tells F x6 σ) fun v10 s9 => (if v10 = 0 then (fX8_changedAt_111 F (fX8_changedAt_34 F n) x1 x3 x4 x5 x6 s9) else (ldi 1024 (s9.1 10 0) x6 fun v12 => (if v12 ≤ x5 then (fX8_changedAt_111 F (fX8_changedAt_34 F n) x1 x3 x4 x5 x6 s9) else (ldi 1024 (s9.1 10 0) x6 fun v14 => (nm (x4 + 1) fun v15 => (if v15 = x3 then (some (v14, 0, s9)) else (fX8_changedAt_111 F (fX8_changedAt_34 F n) x1 x3 v15 v14 x6 s9)))))))) else (fX8_changedAt_111 F (fX8_changedAt_34 F n) x1 x3 x4 x5 x6 σ))))
def fX8_changedAt (F : Nat) (p1 : Int32) (p2 : Int32) (p3 : Int32) (σ : qS) : Option (Int32 × Nat × qS) :=
  if 0 ≤ p3 then (bnd3 (fX8_mustBeChange F p2 σ) (fun _ s2 => bnd3 (fX8_mustBeKept F p2 s2) (fun _ s3 => fX8_changedAt_34 F F p1 p3 ((-1)) p2 0 s3) (fun e s => some (0, e, s))) (fun e s => some (0, e, s))) else (some (0, 1, σ))
set_option maxRecDepth 100000 in
set_option maxHeartbeats 4000000 in
theorem wX8_changedAt (l : Launch) (hst : l.stackTraces = false) (D : va_G) (Y : Nat → ClassId) (ad : qAd) (B0 F : Nat) (p1 : Int32) (p2 : Int32) (p3 : Int32) (σ : qS) : qXi l yX8_changedAt cX8_changedAt 7 (some .int) 7 111 2 12 B0 D (cL Y) (qT Y) ad [.ref (ad 0 0), .int p1, .int p2, .int p3] σ (fX8_changedAt F p1 p2 p3 σ) := by
  refine q_oxi hst (by decide) (Nat.le_of_ble_eq_true rfl) ⟨by decide, by decide⟩ "Leasehall" rfl (fun p e s m below meth c A Q r0 S0 hf hw hG hAB hret hHx hthr ls hl => ?_)
  replace hl : lv_has ls 7 [(0, .ref (ad 0 0)), (1, .int p1), (2, .int p2), (3, .int p3)] := hl
  unfold fX8_changedAt at hf
  have b111 : ∀ (k34 : Int32 → Int32 → Int32 → Int32 → Int32 → qS → Option (Int32 × Nat × qS)) (hk34 : ∀ (x1 : Int32) (x3 : Int32) (x4 : Int32) (x5 : Int32) (x6 : Int32) (σ : qS), k34 x1 x3 x4 x5 x6 σ = some r0 → qAt p l e (qRx 7 111 2 12) s m ([.ref (ad 0 0), .int p1, .int p2, .int p3] : List Value).toArray below meth c Q D (cL Y) (qT Y) A ad 7 2 12 34 [(0, .ref (ad 0 0)), (1, .int x1), (3, .int x3), (4, .int x4), (5, .int x5), (6, .int x6)] [] σ) (x1 : Int32) (x3 : Int32) (x4 : Int32) (x5 : Int32) (x6 : Int32) (σ : qS), fX8_changedAt_111 F k34 x1 x3 x4 x5 x6 σ = some r0 → qAt p l e (qRx 7 111 2 12) s m ([.ref (ad 0 0), .int p1, .int p2, .int p3] : List Value).toArray below meth c Q D (cL Y) (qT Y) A ad 7 2 12 111 [(0, .ref (ad 0 0)), (1, .int x1), (3, .int x3), (4, .int x4), (5, .int x5), (6, .int x6)] [] σ := by
    clear hf hw hl ls
    intro k34 hk34
    intro x1 x3 x4 x5 x6 σ hf H locs ls hw hl
    unfold fX8_changedAt_111 at hf
    refine q_iinc S0 (v0 := 1) dX8_changedAt_111 hl (k := 5) rfl (by decide) (by decide) rfl hf (fun v8 ls hl hf => ?_)
    refine lv_goto (tgt := 34) S0.1 S0.2.1 dX8_changedAt_114 (by decide) ?_
    exact hk34 x1 x3 x4 x5 v8 σ hf _ _ _ hw (lv_sub hl [1, 2, 3, 4, 5, 0] rfl)
  have b34 : ∀ (n : Nat) (x1 : Int32) (x3 : Int32) (x4 : Int32) (x5 : Int32) (x6 : Int32) (σ : qS), fX8_changedAt_34 F n x1 x3 x4 x5 x6 σ = some r0 → qAt p l e (qRx 7 111 2 12) s m ([.ref (ad 0 0), .int p1, .int p2, .int p3] : List Value).toArray below meth c Q D (cL Y) (qT Y) A ad 7 2 12 34 [(0, .ref (ad 0 0)), (1, .int x1), (3, .int x3), (4, .int x4), (5, .int x5), (6, .int x6)] [] σ := by
    clear hf hw hl ls
    intro n
    induction n with
    | zero => intro x1 x3 x4 x5 x6 σ hf; exact absurd hf (by rw [fX8_changedAt_34]; exact nofun)
    | succ n hk34 =>
      intro x1 x3 x4 x5 x6 σ hf H locs ls hw hl
      rw [fX8_changedAt_34] at hf
      refine lv_iload S0.1 S0.2.1 dX8_changedAt_34 (lv_at hl 5 rfl) ?_
      refine lv_aload_n S0.1 S0.2.1 dX8_changedAt_36 rfl (lv_at hl 0 rfl) ?_
      refine gX8_log S0 hw kw_232 dX8_changedAt_37 ?_
      refine gX3_size S0 hw kw_130 dX8_changedAt_40 hf (fun v4 hf => ?_)
      refine lv_icmp_ge (tgt := 117) S0.1 S0.2.1 dX8_changedAt_43 (by decide) (fun c5 => ?_) (fun c5 => ?_)
      · replace hf := q_pos c5 hf
        refine lv_bipush (v := (-100)) S0.1 S0.2.1 dX8_changedAt_117 (by decide) ?_
        exact hret dX8_changedAt_119 hw hf
      · replace hf := q_neg c5 hf
        refine lv_aload_n S0.1 S0.2.1 dX8_changedAt_46 rfl (lv_at hl 0 rfl) ?_
        refine gX8_log S0 hw kw_232 dX8_changedAt_47 ?_
        refine gX3_node S0 hw kw_126 dX8_changedAt_50 ?_
        refine lv_iload S0.1 S0.2.1 dX8_changedAt_53 (lv_at hl 5 rfl) ?_
        refine q_iald S0 hw dC_12 (t0 := 0) rfl rfl dX8_changedAt_55 hf (fun v6 hf => ?_)
        refine lv_iload_n S0.1 S0.2.1 dX8_changedAt_56 rfl (lv_at hl 1 rfl) ?_
        refine lv_icmp_ne (tgt := 111) S0.1 S0.2.1 dX8_changedAt_57 (by decide) (fun c7 => ?_) (fun c7 => ?_)
        · replace hf := q_neg c7 hf
          exact b111 (fX8_changedAt_34 F n) hk34 x1 x3 x4 x5 x6 σ hf _ _ _ hw (lv_sub hl [0, 1, 2, 3, 4, 5] rfl)
        · replace hf := q_pos c7 hf
          refine lv_aload_n S0.1 S0.2.1 dX8_changedAt_60 rfl (lv_at hl 0 rfl) ?_
          refine gX8_log S0 hw kw_232 dX8_changedAt_61 ?_
          refine lv_iload S0.1 S0.2.1 dX8_changedAt_64 (lv_at hl 5 rfl) ?_
          refine q_calli S0 hw (As := [.int x6]) (rest := []) (wX3_tells l D Y ad F x6 σ) qyX3_tells kw_983 ⟨Nat.le_of_ble_eq_true rfl, Nat.le_of_ble_eq_true rfl⟩ dC_9 rfl rfl rfl rfl hl.1 (Nat.le_of_ble_eq_true rfl) dX8_changedAt_66 ⟨Nat.le_of_ble_eq_true rfl, Nat.le_of_ble_eq_true rfl⟩ rfl hf (fun v10 s9 H locs hw hf => ?_)
          refine lv_if_eq (tgt := 111) S0.1 S0.2.1 dX8_changedAt_69 (by decide) (fun c11 => ?_) (fun c11 => ?_)
          · replace hf := q_pos c11 hf
            exact b111 (fX8_changedAt_34 F n) hk34 x1 x3 x4 x5 x6 s9 hf _ _ _ hw (lv_sub hl [0, 1, 2, 3, 4, 5] rfl)
          · replace hf := q_neg c11 hf
            refine lv_aload_n S0.1 S0.2.1 dX8_changedAt_72 rfl (lv_at hl 0 rfl) ?_
            refine gX8_log S0 hw kw_232 dX8_changedAt_73 ?_
            refine gX3_change S0 hw kw_122 dX8_changedAt_76 ?_
            refine lv_iload S0.1 S0.2.1 dX8_changedAt_79 (lv_at hl 5 rfl) ?_
            refine q_iald S0 hw dC_10 (t0 := 0) rfl rfl dX8_changedAt_81 hf (fun v12 hf => ?_)
            refine lv_iload S0.1 S0.2.1 dX8_changedAt_82 (lv_at hl 4 rfl) ?_
            refine lv_icmp_le (tgt := 111) S0.1 S0.2.1 dX8_changedAt_84 (by decide) (fun c13 => ?_) (fun c13 => ?_)
            · replace hf := q_pos c13 hf
              exact b111 (fX8_changedAt_34 F n) hk34 x1 x3 x4 x5 x6 s9 hf _ _ _ hw (lv_sub hl [0, 1, 2, 3, 4, 5] rfl)
            · replace hf := q_neg c13 hf
              refine lv_aload_n S0.1 S0.2.1 dX8_changedAt_87 rfl (lv_at hl 0 rfl) ?_
              refine gX8_log S0 hw kw_232 dX8_changedAt_88 ?_
              refine gX3_change S0 hw kw_122 dX8_changedAt_91 ?_
              refine lv_iload S0.1 S0.2.1 dX8_changedAt_94 (lv_at hl 5 rfl) ?_
              refine q_iald S0 hw dC_10 (t0 := 0) rfl rfl dX8_changedAt_96 hf (fun v14 hf => ?_)
              refine lv_istore (lv' := [(5, .int v14), (0, .ref (ad 0 0)), (1, .int x1), (3, .int x3), (4, .int x4), (6, .int x6)]) S0.1 S0.2.1 dX8_changedAt_97 hl (by decide) rfl (fun ls hl => ?_)
              refine q_iinc S0 (v0 := 1) dX8_changedAt_99 hl (k := 4) rfl (by decide) (by decide) rfl hf (fun v15 ls hl hf => ?_)
              refine lv_iload S0.1 S0.2.1 dX8_changedAt_102 (lv_at hl 0 rfl) ?_
              refine lv_iload_n S0.1 S0.2.1 dX8_changedAt_104 rfl (lv_at hl 4 rfl) ?_
              refine lv_icmp_ne (tgt := 111) S0.1 S0.2.1 dX8_changedAt_105 (by decide) (fun c16 => ?_) (fun c16 => ?_)
              · replace hf := q_neg c16 hf
                exact b111 (fX8_changedAt_34 F n) hk34 x1 x3 v15 v14 x6 s9 hf _ _ _ hw (lv_sub hl [2, 3, 4, 0, 1, 5] rfl)
              · replace hf := q_pos c16 hf
                refine lv_iload S0.1 S0.2.1 dX8_changedAt_108 (lv_at hl 1 rfl) ?_
                exact hret dX8_changedAt_110 hw hf
  refine lv_iload_n S0.1 S0.2.1 dX8_changedAt_0 rfl (lv_at hl 3 rfl) ?_
  refine lv_if_ge (tgt := 15) S0.1 S0.2.1 dX8_changedAt_1 (by decide) (fun c1 => ?_) (fun c1 => ?_)
  · replace hf := q_pos c1 hf
    refine lv_aload_n S0.1 S0.2.1 dX8_changedAt_15 rfl (lv_at hl 0 rfl) ?_
    refine lv_iload_n S0.1 S0.2.1 dX8_changedAt_16 rfl (lv_at hl 2 rfl) ?_
    refine q_xcallv S0 hG hAB hw (As := [.int p2]) (rest := []) (wX8_mustBeChange l hst D Y ad B0 F p2 σ) qyX8_mustBeChange kw_1102 ⟨Nat.le_of_ble_eq_true rfl, Nat.le_of_ble_eq_true rfl⟩ dC_0 rfl rfl rfl rfl hl.1 (Nat.le_of_ble_eq_true rfl) dX8_changedAt_17 ⟨Nat.le_of_ble_eq_true rfl, Nat.le_of_ble_eq_true rfl⟩ rfl hf (fun ex ce q9 s9 H locs hw hf hne hce hcv hcl => hHx hw hf hne hce hcv hcl (Nat.le_of_ble_eq_true rfl) (Nat.le_of_ble_eq_true rfl)) (fun _ s2 H locs hw hf => ?_)
    refine lv_aload_n S0.1 S0.2.1 dX8_changedAt_20 rfl (lv_at hl 0 rfl) ?_
    refine lv_iload_n S0.1 S0.2.1 dX8_changedAt_21 rfl (lv_at hl 2 rfl) ?_
    refine q_xcallv S0 hG hAB hw (As := [.int p2]) (rest := []) (wX8_mustBeKept l hst D Y ad B0 F p2 s2) qyX8_mustBeKept kw_1107 ⟨Nat.le_of_ble_eq_true rfl, Nat.le_of_ble_eq_true rfl⟩ dC_0 rfl rfl rfl rfl hl.1 (Nat.le_of_ble_eq_true rfl) dX8_changedAt_22 ⟨Nat.le_of_ble_eq_true rfl, Nat.le_of_ble_eq_true rfl⟩ rfl hf (fun ex ce q9 s9 H locs hw hf hne hce hcv hcl => hHx hw hf hne hce hcv hcl (Nat.le_of_ble_eq_true rfl) (Nat.le_of_ble_eq_true rfl)) (fun _ s3 H locs hw hf => ?_)
    refine lv_iconst (v := (-1)) S0.1 S0.2.1 dX8_changedAt_25 (by decide) ?_
    refine lv_istore (lv' := [(4, .int ((-1))), (0, .ref (ad 0 0)), (1, .int p1), (2, .int p2), (3, .int p3)]) S0.1 S0.2.1 dX8_changedAt_26 hl (by decide) rfl (fun ls hl => ?_)
    refine lv_iload_n S0.1 S0.2.1 dX8_changedAt_28 rfl (lv_at hl 3 rfl) ?_
    refine lv_istore (lv' := [(5, .int p2), (4, .int ((-1))), (0, .ref (ad 0 0)), (1, .int p1), (2, .int p2), (3, .int p3)]) S0.1 S0.2.1 dX8_changedAt_29 hl (by decide) rfl (fun ls hl => ?_)
    refine lv_iconst (v := 0) S0.1 S0.2.1 dX8_changedAt_31 (by decide) ?_
    refine lv_istore (lv' := [(6, .int 0), (5, .int p2), (4, .int ((-1))), (0, .ref (ad 0 0)), (1, .int p1), (2, .int p2), (3, .int p3)]) S0.1 S0.2.1 dX8_changedAt_32 hl (by decide) rfl (fun ls hl => ?_)
    exact b34 F p1 p3 ((-1)) p2 0 s3 hf _ _ _ hw (lv_sub hl [3, 4, 6, 2, 1, 0] rfl)
  · replace hf := q_neg c1 hf
    exact hthr qt1_262 (by decide) hw hf ⟨dX8_changedAt_4, dX8_changedAt_7, Or.inr ⟨dX8_changedAt_8, dX8_changedAt_11, dX8_changedAt_14⟩⟩ hl.1 (Nat.le_of_ble_eq_true rfl) ⟨Nat.le_of_ble_eq_true rfl, Nat.le_of_ble_eq_true rfl⟩
theorem qyX8_compact : qY yX8_compact RX8 cX8_compact 2 (some .int) 1 := ⟨⟨kw_1123, kw_1124, kw_1, kw_1125⟩, rfl, by decide, by decide, by decide +kernel⟩
def fX8_compact (F : Nat) (p1 : Int32) (σ : qS) : Option (Int32 × Nat × qS) :=
  bnd3 (fX8_mustBeChange F p1 σ) (fun _ s1 => nm (s1.1 0 0 16) fun v2 => (nm (if v2 < p1 then p1 else v2) fun v3 => (nm (qI s1 0 0 16 v3) fun s4 => (nm (s4.1 0 0 16) fun v5 => (some (v5, 0, s4)))))) (fun e s => some (0, e, s))
set_option maxRecDepth 100000 in
set_option maxHeartbeats 4000000 in
theorem wX8_compact (l : Launch) (hst : l.stackTraces = false) (D : va_G) (Y : Nat → ClassId) (ad : qAd) (B0 F : Nat) (p1 : Int32) (σ : qS) : qXi l yX8_compact cX8_compact 2 (some .int) 7 111 1 6 B0 D (cL Y) (qT Y) ad [.ref (ad 0 0), .int p1] σ (fX8_compact F p1 σ) := by
  refine q_oxi hst (by decide) (Nat.le_of_ble_eq_true rfl) ⟨by decide, by decide⟩ "Leasehall" rfl (fun p e s m below meth c A Q r0 S0 hf hw hG hAB hret hHx hthr ls hl => ?_)
  replace hl : lv_has ls 2 [(0, .ref (ad 0 0)), (1, .int p1)] := hl
  unfold fX8_compact at hf
  refine lv_aload_n S0.1 S0.2.1 dX8_compact_0 rfl (lv_at hl 0 rfl) ?_
  refine lv_iload_n S0.1 S0.2.1 dX8_compact_1 rfl (lv_at hl 1 rfl) ?_
  refine q_xcallv S0 hG hAB hw (As := [.int p1]) (rest := []) (wX8_mustBeChange l hst D Y ad B0 F p1 σ) qyX8_mustBeChange kw_1102 ⟨Nat.le_of_ble_eq_true rfl, Nat.le_of_ble_eq_true rfl⟩ dC_0 rfl rfl rfl rfl hl.1 (Nat.le_of_ble_eq_true rfl) dX8_compact_2 ⟨Nat.le_of_ble_eq_true rfl, Nat.le_of_ble_eq_true rfl⟩ rfl hf (fun ex ce q9 s9 H locs hw hf hne hce hcv hcl => hHx hw hf hne hce hcv hcl (Nat.le_of_ble_eq_true rfl) (Nat.le_of_ble_eq_true rfl)) (fun _ s1 H locs hw hf => ?_)
  refine lv_aload_n S0.1 S0.2.1 dX8_compact_5 rfl (lv_at hl 0 rfl) ?_
  refine lv_aload_n S0.1 S0.2.1 dX8_compact_6 rfl (lv_at hl 0 rfl) ?_
  refine gX8_compacted S0 hw kw_243 dX8_compact_7 hf (fun v2 hf => ?_)
  refine lv_iload_n S0.1 S0.2.1 dX8_compact_10 rfl (lv_at hl 1 rfl) ?_
  refine q_mmax S0 kw_1126 hl.1 ⟨Nat.le_of_ble_eq_true rfl, Nat.le_of_ble_eq_true rfl⟩ (Nat.le_of_ble_eq_true rfl) ⟨Nat.le_of_ble_eq_true rfl, Nat.le_of_ble_eq_true rfl⟩ dX8_compact_11 hf (fun v3 hf => ?_)
  refine pX8_compacted S0 hw kw_243 dX8_compact_14 hf (fun s4 H locs hw hf => ?_)
  refine lv_aload_n S0.1 S0.2.1 dX8_compact_17 rfl (lv_at hl 0 rfl) ?_
  refine gX8_compacted S0 hw kw_243 dX8_compact_18 hf (fun v5 hf => ?_)
  exact hret dX8_compact_21 hw hf
theorem qyX8_restore : qY yX8_restore RX8 cX8_restore 2 (some .int) 0 := ⟨⟨kw_1131, kw_1132, kw_1, kw_1133⟩, rfl, by decide, by decide, by decide +kernel⟩
def fX8_restore_132 (F : Nat) : Nat → Int32 → qS → Option (Int32 × Nat × qS)
  | 0, _, _ => none
  | n + 1, x1, σ =>
  if 3 ≤ x1 then (nm (σ.1 0 0 15) fun v16 => (some (v16, 0, σ))) else (inx 3 x1 (nm x1.toNatClampNeg fun i17 => (gnl i17 3 (gnl i17 6 (bnd (fX7_copyFrom F i17 4 σ) fun s18 => (inx 3 x1 (nm x1.toNatClampNeg fun i19 => (nm (s18.1 0 0 15) fun v20 => (gnl i19 3 (nm (qI s18 8 i19 1 v20) fun s21 => (inx 3 x1 (nm x1.toNatClampNeg fun i22 => (gnl i22 3 (nm (qI s21 8 i22 2 0) fun s23 => (nm (x1 + 1) fun v24 => (fX8_restore_132 F n v24 s23))))))))))))))))
def fX8_restore_72 (F : Nat) : Nat → Int32 → qS → Option (Int32 × Nat × qS)
  | 0, _, _ => none
  | n + 1, x1, σ =>
  nm (nI (σ.2 1 0)) fun v10 => (if v10 ≤ x1 then (bnd (fX7_copyFrom F 4 5 σ) fun s12 => (bnd (fX7_dropHeld F 4 s12) fun s13 => (nm (qI s13 9 0 4 0) fun s14 => (fX8_restore_132 F F 0 s14)))) else (gnl (σ.2 1 0) 11 (inx (σ.2 1 0) x1 (nm x1.toNatClampNeg fun i25 => (gnl i25 (σ.2 1 0) (gnl i25 (σ.2 1 0) (gbl 1 (nm (qI σ 57 i25 2 1) fun s26 => (nm (x1 + 1) fun v27 => (fX8_restore_72 F n v27 s26))))))))))
def fX8_restore_38 (F : Nat) : Nat → Int32 → qS → Option (Int32 × Nat × qS)
  | 0, _, _ => none
  | n + 1, x1, σ =>
  nm (nI (σ.2 0 0)) fun v8 => (if v8 ≤ x1 then (fX8_restore_72 F F 0 σ) else (gnl (σ.2 0 0) 11 (inx (σ.2 0 0) x1 (nm x1.toNatClampNeg fun i28 => (gnl i28 (σ.2 0 0) (gnl i28 (σ.2 0 0) (gbl 1 (nm (qI σ 50 i28 15 1) fun s29 => (nm (x1 + 1) fun v30 => (fX8_restore_38 F n v30 s29))))))))))
def fX8_restore (F : Nat) (σ : qS) : Option (Int32 × Nat × qS) :=
  nm (σ.1 0 0 12) fun v1 => (if v1 = 0 then (some (0, 3, σ)) else (nm (σ.1 0 0 15) fun v3 => (nm (v3 + 1) fun v4 => (nm (qI σ 0 0 15 v4) fun s5 => (nm (s5.1 0 0 15) fun v6 => (nm (qI s5 0 0 16 v6) fun s7 => (fX8_restore_38 F F 0 s7)))))))
set_option maxRecDepth 100000 in
set_option maxHeartbeats 4000000 in
theorem wX8_restore (l : Launch) (hst : l.stackTraces = false) (D : va_G) (Y : Nat → ClassId) (ad : qAd) (B0 F : Nat) (σ : qS) : qXi l yX8_restore cX8_restore 2 (some .int) 6 90 1 6 B0 D (cL Y) (qT Y) ad [.ref (ad 0 0)] σ (fX8_restore F σ) := by
  refine q_oxi hst (by decide) (Nat.le_of_ble_eq_true rfl) ⟨by decide, by decide⟩ "Leasehall" rfl (fun p e s m below meth c A Q r0 S0 hf hw hG hAB hret hHx hthr ls hl => ?_)
  replace hl : lv_has ls 2 [(0, .ref (ad 0 0))] := hl
  unfold fX8_restore at hf
  have b132 : ∀ (n : Nat) (x1 : Int32) (σ : qS), fX8_restore_132 F n x1 σ = some r0 → qAt p l e (qRx 6 90 1 6) s m ([.ref (ad 0 0)] : List Value).toArray below meth c Q D (cL Y) (qT Y) A ad 2 0 0 132 [(0, .ref (ad 0 0)), (1, .int x1)] [] σ := by
    clear hf hw hl ls
    intro n
    induction n with
    | zero => intro x1 σ hf; exact absurd hf (by rw [fX8_restore_132]; exact nofun)
    | succ n hk132 =>
      intro x1 σ hf H locs ls hw hl
      rw [fX8_restore_132] at hf
      refine lv_iload_n S0.1 S0.2.1 dX8_restore_132 rfl (lv_at hl 1 rfl) ?_
      refine lv_iconst (v := 3) S0.1 S0.2.1 dX8_restore_133 (by decide) ?_
      refine lv_icmp_ge (tgt := 182) S0.1 S0.2.1 dX8_restore_134 (by decide) (fun c15 => ?_) (fun c15 => ?_)
      · replace hf := q_pos c15 hf
        refine lv_aload_n S0.1 S0.2.1 dX8_restore_182 rfl (lv_at hl 0 rfl) ?_
        refine gX8_lastChange S0 hw kw_242 dX8_restore_183 hf (fun v16 hf => ?_)
        refine W.widen (k := 1) (n := 6) (by decide) (by decide) ?_
        exact hret dX8_restore_186 hw hf
      · replace hf := q_neg c15 hf
        refine lv_aload_n S0.1 S0.2.1 dX8_restore_137 rfl (lv_at hl 0 rfl) ?_
        refine gX8_servers S0 hw kw_228 dX8_restore_138 ?_
        refine lv_iload_n S0.1 S0.2.1 dX8_restore_141 rfl (lv_at hl 1 rfl) ?_
        refine q_aldn S0 hw dC_7 (t0 := 3) rfl rfl (fun _ => rfl) dX8_restore_142 hf (fun i17 hf => ?_)
        obtain ⟨hd, hf⟩ := gnl_some hf
        refine gX5_tree S0 hw hd kw_211 dX8_restore_143 ?_
        refine lv_aload_n S0.1 S0.2.1 dX8_restore_146 rfl (lv_at hl 0 rfl) ?_
        refine gX8_oldest S0 hw kw_231 dX8_restore_147 ?_
        obtain ⟨hd, hf⟩ := gnl_some hf
        refine q_callv (k := 30) (i := i17) S0 hw (As := [.ref (ad 30 4)]) (rest := []) (wX7_copyFrom l D Y ad F i17 4 σ) qyX7_copyFrom kw_307 ⟨Nat.le_of_ble_eq_true rfl, Nat.le_of_ble_eq_true rfl⟩ hd rfl rfl rfl rfl hl.1 (Nat.le_of_ble_eq_true rfl) dX8_restore_150 ⟨Nat.le_of_ble_eq_true rfl, Nat.le_of_ble_eq_true rfl⟩ rfl hf (fun s18 H locs hw hf => ?_)
        refine lv_aload_n S0.1 S0.2.1 dX8_restore_153 rfl (lv_at hl 0 rfl) ?_
        refine gX8_servers S0 hw kw_228 dX8_restore_154 ?_
        refine lv_iload_n S0.1 S0.2.1 dX8_restore_157 rfl (lv_at hl 1 rfl) ?_
        refine q_aldn S0 hw dC_7 (t0 := 3) rfl rfl (fun _ => rfl) dX8_restore_158 hf (fun i19 hf => ?_)
        refine lv_aload_n S0.1 S0.2.1 dX8_restore_159 rfl (lv_at hl 0 rfl) ?_
        refine gX8_lastChange S0 hw kw_242 dX8_restore_160 hf (fun v20 hf => ?_)
        obtain ⟨hd, hf⟩ := gnl_some hf
        refine pX5_changes S0 hw hd kw_213 dX8_restore_163 hf (fun s21 H locs hw hf => ?_)
        refine lv_aload_n S0.1 S0.2.1 dX8_restore_166 rfl (lv_at hl 0 rfl) ?_
        refine gX8_servers S0 hw kw_228 dX8_restore_167 ?_
        refine lv_iload_n S0.1 S0.2.1 dX8_restore_170 rfl (lv_at hl 1 rfl) ?_
        refine q_aldn S0 hw dC_7 (t0 := 3) rfl rfl (fun _ => rfl) dX8_restore_171 hf (fun i22 hf => ?_)
        refine lv_iconst (v := 0) S0.1 S0.2.1 dX8_restore_172 (by decide) ?_
        obtain ⟨hd, hf⟩ := gnl_some hf
        refine pX5_steps S0 hw hd kw_216 dX8_restore_173 hf (fun s23 H locs hw hf => ?_)
        refine q_iinc S0 (v0 := 1) dX8_restore_176 hl (k := 1) rfl (by decide) (by decide) rfl hf (fun v24 ls hl hf => ?_)
        refine lv_goto (tgt := 132) S0.1 S0.2.1 dX8_restore_179 (by decide) ?_
        exact hk132 v24 s23 hf _ _ _ hw (lv_sub hl [1, 0] rfl)
  have b72 : ∀ (n : Nat) (x1 : Int32) (σ : qS), fX8_restore_72 F n x1 σ = some r0 → qAt p l e (qRx 6 90 1 6) s m ([.ref (ad 0 0)] : List Value).toArray below meth c Q D (cL Y) (qT Y) A ad 2 0 0 72 [(0, .ref (ad 0 0)), (1, .int x1)] [] σ := by
    clear hf hw hl ls
    intro n
    induction n with
    | zero => intro x1 σ hf; exact absurd hf (by rw [fX8_restore_72]; exact nofun)
    | succ n hk72 =>
      intro x1 σ hf H locs ls hw hl
      rw [fX8_restore_72] at hf
      refine lv_iload_n S0.1 S0.2.1 dX8_restore_72 rfl (lv_at hl 1 rfl) ?_
      refine lv_aload_n S0.1 S0.2.1 dX8_restore_73 rfl (lv_at hl 0 rfl) ?_
      refine gX8_leases S0 hw kw_235 dX8_restore_74 ?_
      refine q_lsize S0 hw (k := 18) dC_18 rfl kw_423 ⟨Nat.le_of_ble_eq_true rfl, Nat.le_of_ble_eq_true rfl⟩ hl.1 (Nat.le_of_ble_eq_true rfl) dX8_restore_77 ⟨Nat.le_of_ble_eq_true rfl, Nat.le_of_ble_eq_true rfl⟩ hf (fun v10 H locs hw hf => ?_)
      refine lv_icmp_ge (tgt := 104) S0.1 S0.2.1 dX8_restore_80 (by decide) (fun c11 => ?_) (fun c11 => ?_)
      · replace hf := q_pos c11 hf
        refine lv_aload_n S0.1 S0.2.1 dX8_restore_104 rfl (lv_at hl 0 rfl) ?_
        refine gX8_oldest S0 hw kw_231 dX8_restore_105 ?_
        refine lv_aload_n S0.1 S0.2.1 dX8_restore_108 rfl (lv_at hl 0 rfl) ?_
        refine gX8_kept S0 hw kw_233 dX8_restore_109 ?_
        refine q_callv (k := 30) (i := 4) S0 hw (As := [.ref (ad 30 5)]) (rest := []) (wX7_copyFrom l D Y ad F 4 5 σ) qyX7_copyFrom kw_307 ⟨Nat.le_of_ble_eq_true rfl, Nat.le_of_ble_eq_true rfl⟩ (show 4 < 6 by decide) rfl rfl rfl rfl hl.1 (Nat.le_of_ble_eq_true rfl) dX8_restore_112 ⟨Nat.le_of_ble_eq_true rfl, Nat.le_of_ble_eq_true rfl⟩ rfl hf (fun s12 H locs hw hf => ?_)
        refine lv_aload_n S0.1 S0.2.1 dX8_restore_115 rfl (lv_at hl 0 rfl) ?_
        refine gX8_oldest S0 hw kw_231 dX8_restore_116 ?_
        refine q_callv (k := 30) (i := 4) S0 hw (As := []) (rest := []) (wX7_dropHeld l D Y ad F 4 s12) qyX7_dropHeld kw_1135 ⟨Nat.le_of_ble_eq_true rfl, Nat.le_of_ble_eq_true rfl⟩ (show 4 < 6 by decide) rfl rfl rfl rfl hl.1 (Nat.le_of_ble_eq_true rfl) dX8_restore_119 ⟨Nat.le_of_ble_eq_true rfl, Nat.le_of_ble_eq_true rfl⟩ rfl hf (fun s13 H locs hw hf => ?_)
        refine lv_aload_n S0.1 S0.2.1 dX8_restore_122 rfl (lv_at hl 0 rfl) ?_
        refine gX8_log S0 hw kw_232 dX8_restore_123 ?_
        refine lv_iconst (v := 0) S0.1 S0.2.1 dX8_restore_126 (by decide) ?_
        refine pX3_size S0 hw kw_130 dX8_restore_127 hf (fun s14 H locs hw hf => ?_)
        refine lv_iconst (v := 0) S0.1 S0.2.1 dX8_restore_130 (by decide) ?_
        refine lv_istore_n (lv' := [(1, .int 0), (0, .ref (ad 0 0))]) S0.1 S0.2.1 dX8_restore_131 rfl hl (by decide) rfl (fun ls hl => ?_)
        exact b132 F 0 s14 hf _ _ _ hw (lv_sub hl [1, 0] rfl)
      · replace hf := q_neg c11 hf
        refine lv_aload_n S0.1 S0.2.1 dX8_restore_83 rfl (lv_at hl 0 rfl) ?_
        refine gX8_leases S0 hw kw_235 dX8_restore_84 ?_
        refine lv_iload_n S0.1 S0.2.1 dX8_restore_87 rfl (lv_at hl 1 rfl) ?_
        obtain ⟨hd, hf⟩ := gnl_some hf
        refine q_lget S0 hw (k := 18) (k2 := 19) (kr := 57) (t0 := 4) dC_18 rfl (by omega) (Nat.le_of_lt_succ hd) dC19 rfl rfl (fun _ h => if_pos h) kw_604 ⟨Nat.le_of_ble_eq_true rfl, Nat.le_of_ble_eq_true rfl⟩ hl.1 (Nat.le_of_ble_eq_true rfl) dX8_restore_88 ⟨Nat.le_of_ble_eq_true rfl, Nat.le_of_ble_eq_true rfl⟩ hf (fun i25 H locs hw hf => ?_)
        obtain ⟨hd, hf⟩ := gnl_some hf
        refine q_cast (k := 57) (i := i25) S0 hw hd rfl rfl kw_729 dX8_restore_91 ?_
        refine lv_iconst (v := 1) S0.1 S0.2.1 dX8_restore_94 (by decide) ?_
        obtain ⟨hd, hf⟩ := gnl_some hf
        refine pX2_ended S0 hw hd kw_748 dX8_restore_95 hf (fun s26 H locs hw hf => ?_)
        refine q_iinc S0 (v0 := 1) dX8_restore_98 hl (k := 1) rfl (by decide) (by decide) rfl hf (fun v27 ls hl hf => ?_)
        refine lv_goto (tgt := 72) S0.1 S0.2.1 dX8_restore_101 (by decide) ?_
        exact hk72 v27 s26 hf _ _ _ hw (lv_sub hl [1, 0] rfl)
  have b38 : ∀ (n : Nat) (x1 : Int32) (σ : qS), fX8_restore_38 F n x1 σ = some r0 → qAt p l e (qRx 6 90 1 6) s m ([.ref (ad 0 0)] : List Value).toArray below meth c Q D (cL Y) (qT Y) A ad 2 0 0 38 [(0, .ref (ad 0 0)), (1, .int x1)] [] σ := by
    clear hf hw hl ls
    intro n
    induction n with
    | zero => intro x1 σ hf; exact absurd hf (by rw [fX8_restore_38]; exact nofun)
    | succ n hk38 =>
      intro x1 σ hf H locs ls hw hl
      rw [fX8_restore_38] at hf
      refine lv_iload_n S0.1 S0.2.1 dX8_restore_38 rfl (lv_at hl 1 rfl) ?_
      refine lv_aload_n S0.1 S0.2.1 dX8_restore_39 rfl (lv_at hl 0 rfl) ?_
      refine gX8_sessions S0 hw kw_234 dX8_restore_40 ?_
      refine q_lsize S0 hw (k := 16) dC_16 rfl kw_423 ⟨Nat.le_of_ble_eq_true rfl, Nat.le_of_ble_eq_true rfl⟩ hl.1 (Nat.le_of_ble_eq_true rfl) dX8_restore_43 ⟨Nat.le_of_ble_eq_true rfl, Nat.le_of_ble_eq_true rfl⟩ hf (fun v8 H locs hw hf => ?_)
      refine lv_icmp_ge (tgt := 70) S0.1 S0.2.1 dX8_restore_46 (by decide) (fun c9 => ?_) (fun c9 => ?_)
      · replace hf := q_pos c9 hf
        refine lv_iconst (v := 0) S0.1 S0.2.1 dX8_restore_70 (by decide) ?_
        refine lv_istore_n (lv' := [(1, .int 0), (0, .ref (ad 0 0))]) S0.1 S0.2.1 dX8_restore_71 rfl hl (by decide) rfl (fun ls hl => ?_)
        exact b72 F 0 σ hf _ _ _ hw (lv_sub hl [1, 0] rfl)
      · replace hf := q_neg c9 hf
        refine lv_aload_n S0.1 S0.2.1 dX8_restore_49 rfl (lv_at hl 0 rfl) ?_
        refine gX8_sessions S0 hw kw_234 dX8_restore_50 ?_
        refine lv_iload_n S0.1 S0.2.1 dX8_restore_53 rfl (lv_at hl 1 rfl) ?_
        obtain ⟨hd, hf⟩ := gnl_some hf
        refine q_lget S0 hw (k := 16) (k2 := 17) (kr := 50) (t0 := 4) dC_16 rfl (by omega) (Nat.le_of_lt_succ hd) dC17 rfl rfl (fun _ h => if_pos h) kw_604 ⟨Nat.le_of_ble_eq_true rfl, Nat.le_of_ble_eq_true rfl⟩ hl.1 (Nat.le_of_ble_eq_true rfl) dX8_restore_54 ⟨Nat.le_of_ble_eq_true rfl, Nat.le_of_ble_eq_true rfl⟩ hf (fun i28 H locs hw hf => ?_)
        obtain ⟨hd, hf⟩ := gnl_some hf
        refine q_cast (k := 50) (i := i28) S0 hw hd rfl rfl kw_443 dX8_restore_57 ?_
        refine lv_iconst (v := 1) S0.1 S0.2.1 dX8_restore_60 (by decide) ?_
        obtain ⟨hd, hf⟩ := gnl_some hf
        refine pX6_ended S0 hw hd kw_497 dX8_restore_61 hf (fun s29 H locs hw hf => ?_)
        refine q_iinc S0 (v0 := 1) dX8_restore_64 hl (k := 1) rfl (by decide) (by decide) rfl hf (fun v30 ls hl hf => ?_)
        refine lv_goto (tgt := 38) S0.1 S0.2.1 dX8_restore_67 (by decide) ?_
        exact hk38 v30 s29 hf _ _ _ hw (lv_sub hl [1, 0] rfl)
  refine lv_aload_n S0.1 S0.2.1 dX8_restore_0 rfl (lv_at hl 0 rfl) ?_
  refine gX8_hasKept S0 hw kw_239 dX8_restore_1 hf (fun v1 hf => ?_)
  refine lv_if_ne (tgt := 18) S0.1 S0.2.1 dX8_restore_4 (by decide) (fun c2 => ?_) (fun c2 => ?_)
  · replace hf := q_neg c2 hf
    refine lv_aload_n S0.1 S0.2.1 dX8_restore_18 rfl (lv_at hl 0 rfl) ?_
    refine lv_dup S0.1 S0.2.1 dX8_restore_19 rfl ?_
    refine gX8_lastChange S0 hw kw_242 dX8_restore_20 hf (fun v3 hf => ?_)
    refine lv_iconst (v := 1) S0.1 S0.2.1 dX8_restore_23 (by decide) ?_
    refine lv_iadd S0.1 S0.2.1 dX8_restore_24 (q_top hf (fun v4 hf => ?_))
    refine pX8_lastChange S0 hw kw_242 dX8_restore_25 hf (fun s5 H locs hw hf => ?_)
    refine lv_aload_n S0.1 S0.2.1 dX8_restore_28 rfl (lv_at hl 0 rfl) ?_
    refine lv_aload_n S0.1 S0.2.1 dX8_restore_29 rfl (lv_at hl 0 rfl) ?_
    refine gX8_lastChange S0 hw kw_242 dX8_restore_30 hf (fun v6 hf => ?_)
    refine pX8_compacted S0 hw kw_243 dX8_restore_33 hf (fun s7 H locs hw hf => ?_)
    refine lv_iconst (v := 0) S0.1 S0.2.1 dX8_restore_36 (by decide) ?_
    refine lv_istore_n (lv' := [(1, .int 0), (0, .ref (ad 0 0))]) S0.1 S0.2.1 dX8_restore_37 rfl hl (by decide) rfl (fun ls hl => ?_)
    exact b38 F 0 s7 hf _ _ _ hw (lv_sub hl [1, 0] rfl)
  · replace hf := q_pos c2 hf
    exact hthr qt3_381 (by decide) hw hf ⟨dX8_restore_7, dX8_restore_10, Or.inr ⟨dX8_restore_11, dX8_restore_14, dX8_restore_17⟩⟩ hl.1 (Nat.le_of_ble_eq_true rfl) ⟨Nat.le_of_ble_eq_true rfl, Nat.le_of_ble_eq_true rfl⟩

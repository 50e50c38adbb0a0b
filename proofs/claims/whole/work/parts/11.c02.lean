theorem qyX8_begin : qY yX8_begin RX8 cX8_begin 1 none 0 := ⟨⟨kw_804, kp_23, kw_1, kw_805⟩, rfl, by decide, by decide, by decide +kernel⟩
def fX8_begin (F : Nat) (σ : qS) : Option qS :=
  bnd (fX7_copyFrom F 3 0 σ) fun s1 => (nm (s1.1 1 0 5) fun v2 => (nm (qI s1 0 0 13 v2) fun s3 => (some s3)))
set_option maxRecDepth 100000 in
set_option maxHeartbeats 4000000 in
theorem wX8_begin (l : Launch) (D : va_G) (Y : Nat → ClassId) (ad : qAd) (F : Nat) (σ : qS) : qCv l yX8_begin cX8_begin 1 none 1 22 D (cL Y) (qT Y) ad [.ref (ad 0 0)] σ (fX8_begin F σ) := by
  refine q_ofv (by decide) (Nat.le_of_ble_eq_true rfl) "Leasehall" rfl (fun p e s m below meth c A Q r0 S0 hf hw hret ls hl => ?_)
  replace hl : lv_has ls 1 [(0, .ref (ad 0 0))] := hl
  unfold fX8_begin at hf
  refine lv_aload_n S0.1 S0.2.1 dX8_begin_0 rfl (lv_at hl 0 rfl) ?_
  refine gX8_before S0 hw kw_230 dX8_begin_1 ?_
  refine lv_aload_n S0.1 S0.2.1 dX8_begin_4 rfl (lv_at hl 0 rfl) ?_
  refine gX8_truth S0 hw kw_229 dX8_begin_5 ?_
  refine q_callv (k := 30) (i := 3) S0 hw (As := [.ref (ad 30 0)]) (rest := []) (wX7_copyFrom l D Y ad F 3 0 σ) qyX7_copyFrom kw_307 ⟨Nat.le_of_ble_eq_true rfl, Nat.le_of_ble_eq_true rfl⟩ (show 3 < 6 by decide) rfl rfl rfl rfl hl.1 (Nat.le_of_ble_eq_true rfl) dX8_begin_8 ⟨Nat.le_refl _, Nat.le_refl _⟩ rfl hf (fun s1 H locs hw hf => ?_)
  refine lv_aload_n S0.1 S0.2.1 dX8_begin_11 rfl (lv_at hl 0 rfl) ?_
  refine lv_aload_n S0.1 S0.2.1 dX8_begin_12 rfl (lv_at hl 0 rfl) ?_
  refine gX8_births S0 hw kw_227 dX8_begin_13 ?_
  refine gX1_made S0 hw kw_55 dX8_begin_16 hf (fun v2 hf => ?_)
  refine pX8_madeBefore S0 hw kw_240 dX8_begin_19 hf (fun s3 H locs hw hf => ?_)
  exact hret dX8_begin_22 hw hf
theorem qyX8_tryCheck : qY yX8_tryCheck RX8 cX8_tryCheck 4 (some .int) 2 := ⟨⟨kw_853, kp_29, kw_1, kw_854⟩, rfl, by decide, by decide, by decide +kernel⟩
def fX8_tryCheck (F : Nat) (i1 : Nat) (i2 : Nat) (σ : qS) : Option (Int32 × qS) :=
  gnl i2 (1 + 6 * σ.2 0 0) (nm (σ.1 56 i2 1) fun v1 => (gnl i1 (σ.2 0 0) (nm (σ.1 50 i1 1) fun v2 => (bnd2 (fX7_readingRefused F 0 v1 v2 σ) fun v4 s3 => (if 0 ≤ v4 then (gnl i2 (1 + 6 * s3.2 0 0) (nm (s3.1 56 i2 1) fun v6 => (gnl i2 (1 + 6 * s3.2 0 0) (nm (s3.1 56 i2 4) fun v7 => (bnd2 (fX7_hasVersion F 0 v6 v7 s3) fun v9 s8 => (if v9 = 0 then (some ((-3), s8)) else (gnl i2 (1 + 6 * s8.2 0 0) (nm (s8.1 56 i2 1) fun v11 => (bnd2 (fX7_told F 0 v11 1 s8) fun v13 s12 => (some (v13, s12))))))))))) else (some (v4, s3)))))))
set_option maxRecDepth 100000 in
set_option maxHeartbeats 4000000 in
theorem wX8_tryCheck (l : Launch) (D : va_G) (Y : Nat → ClassId) (ad : qAd) (F : Nat) (i1 : Nat) (i2 : Nat) (σ : qS) : qCi l yX8_tryCheck cX8_tryCheck 4 (some .int) 3 67 D (cL Y) (qT Y) ad [.ref (ad 0 0), .ref (ad 50 i1), .ref (ad 56 i2)] σ (fX8_tryCheck F i1 i2 σ) := by
  refine q_ofi (by decide) (Nat.le_of_ble_eq_true rfl) "Leasehall" rfl (fun p e s m below meth c A Q r0 S0 hf hw hret ls hl => ?_)
  replace hl : lv_has ls 4 [(0, .ref (ad 0 0)), (1, .ref (ad 50 i1)), (2, .ref (ad 56 i2))] := hl
  unfold fX8_tryCheck at hf
  refine lv_aload_n S0.1 S0.2.1 dX8_tryCheck_0 rfl (lv_at hl 0 rfl) ?_
  refine gX8_truth S0 hw kw_229 dX8_tryCheck_1 ?_
  refine lv_aload_n S0.1 S0.2.1 dX8_tryCheck_4 rfl (lv_at hl 2 rfl) ?_
  obtain ⟨hd, hf⟩ := gnl_some hf
  refine gX0_node S0 hw hd kw_178 dX8_tryCheck_5 hf (fun v1 hf => ?_)
  refine lv_aload_n S0.1 S0.2.1 dX8_tryCheck_8 rfl (lv_at hl 1 rfl) ?_
  obtain ⟨hd, hf⟩ := gnl_some hf
  refine gX6_person S0 hw hd kw_471 dX8_tryCheck_9 hf (fun v2 hf => ?_)
  refine q_calli (k := 30) (i := 0) S0 hw (As := [.int v1, .int v2]) (rest := []) (wX7_readingRefused l D Y ad F 0 v1 v2 σ) qyX7_readingRefused kw_855 ⟨Nat.le_of_ble_eq_true rfl, Nat.le_of_ble_eq_true rfl⟩ (show 0 < 6 by decide) rfl rfl rfl rfl hl.1 (Nat.le_of_ble_eq_true rfl) dX8_tryCheck_12 ⟨Nat.le_refl _, Nat.le_refl _⟩ rfl hf (fun v4 s3 H locs hw hf => ?_)
  refine lv_istore_n (lv' := [(3, .int v4), (0, .ref (ad 0 0)), (1, .ref (ad 50 i1)), (2, .ref (ad 56 i2))]) S0.1 S0.2.1 dX8_tryCheck_15 rfl hl (by decide) rfl (fun ls hl => ?_)
  refine lv_iload_n S0.1 S0.2.1 dX8_tryCheck_16 rfl (lv_at hl 0 rfl) ?_
  refine lv_if_ge (tgt := 22) S0.1 S0.2.1 dX8_tryCheck_17 (by decide) (fun c5 => ?_) (fun c5 => ?_)
  · replace hf := q_pos c5 hf
    refine lv_aload_n S0.1 S0.2.1 dX8_tryCheck_22 rfl (lv_at hl 1 rfl) ?_
    refine gX8_truth S0 hw kw_229 dX8_tryCheck_23 ?_
    refine lv_aload_n S0.1 S0.2.1 dX8_tryCheck_26 rfl (lv_at hl 3 rfl) ?_
    obtain ⟨hd, hf⟩ := gnl_some hf
    refine gX0_node S0 hw hd kw_178 dX8_tryCheck_27 hf (fun v6 hf => ?_)
    refine lv_aload_n S0.1 S0.2.1 dX8_tryCheck_30 rfl (lv_at hl 3 rfl) ?_
    obtain ⟨hd, hf⟩ := gnl_some hf
    refine gX0_version S0 hw hd kw_184 dX8_tryCheck_31 hf (fun v7 hf => ?_)
    refine q_calli (k := 30) (i := 0) S0 hw (As := [.int v6, .int v7]) (rest := []) (wX7_hasVersion l D Y ad F 0 v6 v7 s3) qyX7_hasVersion kw_843 ⟨Nat.le_of_ble_eq_true rfl, Nat.le_of_ble_eq_true rfl⟩ (show 0 < 6 by decide) rfl rfl rfl rfl hl.1 (Nat.le_of_ble_eq_true rfl) dX8_tryCheck_34 ⟨Nat.le_refl _, Nat.le_refl _⟩ rfl hf (fun v9 s8 H locs hw hf => ?_)
    refine lv_if_ne (tgt := 43) S0.1 S0.2.1 dX8_tryCheck_37 (by decide) (fun c10 => ?_) (fun c10 => ?_)
    · replace hf := q_neg c10 hf
      refine lv_aload_n S0.1 S0.2.1 dX8_tryCheck_43 rfl (lv_at hl 1 rfl) ?_
      refine gX8_truth S0 hw kw_229 dX8_tryCheck_44 ?_
      refine lv_aload_n S0.1 S0.2.1 dX8_tryCheck_47 rfl (lv_at hl 3 rfl) ?_
      obtain ⟨hd, hf⟩ := gnl_some hf
      refine gX0_node S0 hw hd kw_178 dX8_tryCheck_48 hf (fun v11 hf => ?_)
      refine lv_iconst (v := 1) S0.1 S0.2.1 dX8_tryCheck_51 (by decide) ?_
      refine q_calli (k := 30) (i := 0) S0 hw (As := [.int v11, .int 1]) (rest := []) (wX7_told l D Y ad F 0 v11 1 s8) qyX7_told kw_860 ⟨Nat.le_of_ble_eq_true rfl, Nat.le_of_ble_eq_true rfl⟩ (show 0 < 6 by decide) rfl rfl rfl rfl hl.1 (Nat.le_of_ble_eq_true rfl) dX8_tryCheck_52 ⟨Nat.le_refl _, Nat.le_refl _⟩ rfl hf (fun v13 s12 H locs hw hf => ?_)
      exact hret dX8_tryCheck_55 hw hf
    · replace hf := q_pos c10 hf
      refine lv_bipush (v := (-3)) S0.1 S0.2.1 dX8_tryCheck_40 (by decide) ?_
      exact hret dX8_tryCheck_42 hw hf
  · replace hf := q_neg c5 hf
    refine lv_iload_n S0.1 S0.2.1 dX8_tryCheck_20 rfl (lv_at hl 0 rfl) ?_
    exact hret dX8_tryCheck_21 hw hf
theorem qyX8_tryDelete : qY yX8_tryDelete RX8 cX8_tryDelete 4 (some .int) 2 := ⟨⟨kw_849, kp_28, kw_1, kw_850⟩, rfl, by decide, by decide, by decide +kernel⟩
def fX8_tryDelete_81 (F : Nat) (i1 : Nat) (i2 : Nat) (σ : qS) : Option (Int32 × qS) :=
  some ((-6), σ)
def fX8_tryDelete_48 (F : Nat) (i1 : Nat) (i2 : Nat) (x3 : Int32) (σ : qS) : Option (Int32 × qS) :=
  gnl i2 (1 + 6 * σ.2 0 0) (nm (σ.1 56 i2 4) fun v6 => (bnd2 (fX7_hasVersion F 0 x3 v6 σ) fun v8 s7 => (if v8 = 0 then (some ((-3), s7)) else (if x3 = 0 then (fX8_tryDelete_81 F i1 i2 s7) else (bnd2 (fX7_childrenOf F 0 x3 s7) fun v12 s11 => (if v12 ≤ 0 then (bnd2 (fX8_letGo F x3 s11) fun v15 s14 => (some (v15, s14))) else (fX8_tryDelete_81 F i1 i2 s11)))))))
def fX8_tryDelete (F : Nat) (i1 : Nat) (i2 : Nat) (σ : qS) : Option (Int32 × qS) :=
  gnl i2 (1 + 6 * σ.2 0 0) (nm (σ.1 56 i2 1) fun v1 => (bnd2 (fX7_holds F 0 v1 σ) fun v3 s2 => (if v3 = 0 then (some ((-1), s2)) else (if v1 ≤ 0 then (fX8_tryDelete_48 F i1 i2 v1 s2) else (ldi 80 (s2.1 2 0) v1 fun v16 => (gnl i1 (s2.2 0 0) (nm (s2.1 50 i1 1) fun v17 => (bnd2 (fX7_mayWrite F 0 v16 v17 s2) fun v19 s18 => (if v19 = 0 then (some ((-2), s18)) else (fX8_tryDelete_48 F i1 i2 v1 s18))))))))))
set_option maxRecDepth 100000 in
set_option maxHeartbeats 4000000 in
theorem wX8_tryDelete (l : Launch) (D : va_G) (Y : Nat → ClassId) (ad : qAd) (F : Nat) (i1 : Nat) (i2 : Nat) (σ : qS) : qCi l yX8_tryDelete cX8_tryDelete 4 (some .int) 4 94 D (cL Y) (qT Y) ad [.ref (ad 0 0), .ref (ad 50 i1), .ref (ad 56 i2)] σ (fX8_tryDelete F i1 i2 σ) := by
  refine q_ofi (by decide) (Nat.le_of_ble_eq_true rfl) "Leasehall" rfl (fun p e s m below meth c A Q r0 S0 hf hw hret ls hl => ?_)
  replace hl : lv_has ls 4 [(0, .ref (ad 0 0)), (1, .ref (ad 50 i1)), (2, .ref (ad 56 i2))] := hl
  unfold fX8_tryDelete at hf
  have b81 : ∀ (σ : qS), fX8_tryDelete_81 F i1 i2 σ = some r0 → qAt p l e (qRm 4 94) s m ([.ref (ad 0 0), .ref (ad 50 i1), .ref (ad 56 i2)] : List Value).toArray below meth c Q D (cL Y) (qT Y) A ad 4 0 0 81 [] [] σ := by
    clear hf hw hl ls
    intro σ hf H locs ls hw hl
    unfold fX8_tryDelete_81 at hf
    refine lv_bipush (v := (-6)) S0.1 S0.2.1 dX8_tryDelete_81 (by decide) ?_
    exact hret dX8_tryDelete_83 hw hf
  have b48 : ∀ (x3 : Int32) (σ : qS), fX8_tryDelete_48 F i1 i2 x3 σ = some r0 → qAt p l e (qRm 4 94) s m ([.ref (ad 0 0), .ref (ad 50 i1), .ref (ad 56 i2)] : List Value).toArray below meth c Q D (cL Y) (qT Y) A ad 4 0 0 48 [(0, .ref (ad 0 0)), (2, .ref (ad 56 i2)), (3, .int x3)] [] σ := by
    clear hf hw hl ls
    intro x3 σ hf H locs ls hw hl
    unfold fX8_tryDelete_48 at hf
    refine lv_aload_n S0.1 S0.2.1 dX8_tryDelete_48 rfl (lv_at hl 0 rfl) ?_
    refine gX8_truth S0 hw kw_229 dX8_tryDelete_49 ?_
    refine lv_iload_n S0.1 S0.2.1 dX8_tryDelete_52 rfl (lv_at hl 2 rfl) ?_
    refine lv_aload_n S0.1 S0.2.1 dX8_tryDelete_53 rfl (lv_at hl 1 rfl) ?_
    obtain ⟨hd, hf⟩ := gnl_some hf
    refine gX0_version S0 hw hd kw_184 dX8_tryDelete_54 hf (fun v6 hf => ?_)
    refine q_calli (k := 30) (i := 0) S0 hw (As := [.int x3, .int v6]) (rest := []) (wX7_hasVersion l D Y ad F 0 x3 v6 σ) qyX7_hasVersion kw_843 ⟨Nat.le_of_ble_eq_true rfl, Nat.le_of_ble_eq_true rfl⟩ (show 0 < 6 by decide) rfl rfl rfl rfl hl.1 (Nat.le_of_ble_eq_true rfl) dX8_tryDelete_57 ⟨Nat.le_refl _, Nat.le_refl _⟩ rfl hf (fun v8 s7 H locs hw hf => ?_)
    refine lv_if_ne (tgt := 66) S0.1 S0.2.1 dX8_tryDelete_60 (by decide) (fun c9 => ?_) (fun c9 => ?_)
    · replace hf := q_neg c9 hf
      refine lv_iload_n S0.1 S0.2.1 dX8_tryDelete_66 rfl (lv_at hl 2 rfl) ?_
      refine lv_if_eq (tgt := 81) S0.1 S0.2.1 dX8_tryDelete_67 (by decide) (fun c10 => ?_) (fun c10 => ?_)
      · replace hf := q_pos c10 hf
        exact b81 s7 hf _ _ _ hw (lv_sub hl [] rfl)
      · replace hf := q_neg c10 hf
        refine lv_aload_n S0.1 S0.2.1 dX8_tryDelete_70 rfl (lv_at hl 0 rfl) ?_
        refine gX8_truth S0 hw kw_229 dX8_tryDelete_71 ?_
        refine lv_iload_n S0.1 S0.2.1 dX8_tryDelete_74 rfl (lv_at hl 2 rfl) ?_
        refine q_calli (k := 30) (i := 0) S0 hw (As := [.int x3]) (rest := []) (wX7_childrenOf l D Y ad F 0 x3 s7) qyX7_childrenOf kw_663 ⟨Nat.le_of_ble_eq_true rfl, Nat.le_of_ble_eq_true rfl⟩ (show 0 < 6 by decide) rfl rfl rfl rfl hl.1 (Nat.le_of_ble_eq_true rfl) dX8_tryDelete_75 ⟨Nat.le_refl _, Nat.le_refl _⟩ rfl hf (fun v12 s11 H locs hw hf => ?_)
        refine lv_if_le (tgt := 84) S0.1 S0.2.1 dX8_tryDelete_78 (by decide) (fun c13 => ?_) (fun c13 => ?_)
        · replace hf := q_pos c13 hf
          refine lv_aload_n S0.1 S0.2.1 dX8_tryDelete_84 rfl (lv_at hl 0 rfl) ?_
          refine lv_iload_n S0.1 S0.2.1 dX8_tryDelete_85 rfl (lv_at hl 2 rfl) ?_
          refine q_calli S0 hw (As := [.int x3]) (rest := []) (wX8_letGo l D Y ad F x3 s11) qyX8_letGo kw_639 ⟨Nat.le_of_ble_eq_true rfl, Nat.le_of_ble_eq_true rfl⟩ dC_0 rfl rfl rfl rfl hl.1 (Nat.le_of_ble_eq_true rfl) dX8_tryDelete_86 ⟨Nat.le_refl _, Nat.le_refl _⟩ rfl hf (fun v15 s14 H locs hw hf => ?_)
          exact hret dX8_tryDelete_89 hw hf
        · replace hf := q_neg c13 hf
          exact b81 s11 hf _ _ _ hw (lv_sub hl [] rfl)
    · replace hf := q_pos c9 hf
      refine lv_bipush (v := (-3)) S0.1 S0.2.1 dX8_tryDelete_63 (by decide) ?_
      exact hret dX8_tryDelete_65 hw hf
  refine lv_aload_n S0.1 S0.2.1 dX8_tryDelete_0 rfl (lv_at hl 2 rfl) ?_
  obtain ⟨hd, hf⟩ := gnl_some hf
  refine gX0_node S0 hw hd kw_178 dX8_tryDelete_1 hf (fun v1 hf => ?_)
  refine lv_istore_n (lv' := [(3, .int v1), (0, .ref (ad 0 0)), (1, .ref (ad 50 i1)), (2, .ref (ad 56 i2))]) S0.1 S0.2.1 dX8_tryDelete_4 rfl hl (by decide) rfl (fun ls hl => ?_)
  refine lv_aload_n S0.1 S0.2.1 dX8_tryDelete_5 rfl (lv_at hl 1 rfl) ?_
  refine gX8_truth S0 hw kw_229 dX8_tryDelete_6 ?_
  refine lv_iload_n S0.1 S0.2.1 dX8_tryDelete_9 rfl (lv_at hl 0 rfl) ?_
  refine q_calli (k := 30) (i := 0) S0 hw (As := [.int v1]) (rest := []) (wX7_holds l D Y ad F 0 v1 σ) qyX7_holds kw_814 ⟨Nat.le_of_ble_eq_true rfl, Nat.le_of_ble_eq_true rfl⟩ (show 0 < 6 by decide) rfl rfl rfl rfl hl.1 (Nat.le_of_ble_eq_true rfl) dX8_tryDelete_10 ⟨Nat.le_refl _, Nat.le_refl _⟩ rfl hf (fun v3 s2 H locs hw hf => ?_)
  refine lv_if_ne (tgt := 18) S0.1 S0.2.1 dX8_tryDelete_13 (by decide) (fun c4 => ?_) (fun c4 => ?_)
  · replace hf := q_neg c4 hf
    refine lv_iload_n S0.1 S0.2.1 dX8_tryDelete_18 rfl (lv_at hl 0 rfl) ?_
    refine lv_if_le (tgt := 48) S0.1 S0.2.1 dX8_tryDelete_19 (by decide) (fun c5 => ?_) (fun c5 => ?_)
    · replace hf := q_pos c5 hf
      exact b48 v1 s2 hf _ _ _ hw (lv_sub hl [1, 3, 0] rfl)
    · replace hf := q_neg c5 hf
      refine lv_aload_n S0.1 S0.2.1 dX8_tryDelete_22 rfl (lv_at hl 1 rfl) ?_
      refine gX8_truth S0 hw kw_229 dX8_tryDelete_23 ?_
      refine lv_aload_n S0.1 S0.2.1 dX8_tryDelete_26 rfl (lv_at hl 1 rfl) ?_
      refine gX8_births S0 hw kw_227 dX8_tryDelete_27 ?_
      refine gX1_parent S0 hw kw_43 dX8_tryDelete_30 ?_
      refine lv_iload_n S0.1 S0.2.1 dX8_tryDelete_33 rfl (lv_at hl 0 rfl) ?_
      refine q_iald S0 hw dC_2 (t0 := 0) rfl rfl dX8_tryDelete_34 hf (fun v16 hf => ?_)
      refine lv_aload_n S0.1 S0.2.1 dX8_tryDelete_35 rfl (lv_at hl 2 rfl) ?_
      obtain ⟨hd, hf⟩ := gnl_some hf
      refine gX6_person S0 hw hd kw_471 dX8_tryDelete_36 hf (fun v17 hf => ?_)
      refine q_calli (k := 30) (i := 0) S0 hw (As := [.int v16, .int v17]) (rest := []) (wX7_mayWrite l D Y ad F 0 v16 v17 s2) qyX7_mayWrite kw_818 ⟨Nat.le_of_ble_eq_true rfl, Nat.le_of_ble_eq_true rfl⟩ (show 0 < 6 by decide) rfl rfl rfl rfl hl.1 (Nat.le_of_ble_eq_true rfl) dX8_tryDelete_39 ⟨Nat.le_refl _, Nat.le_refl _⟩ rfl hf (fun v19 s18 H locs hw hf => ?_)
      refine lv_if_ne (tgt := 48) S0.1 S0.2.1 dX8_tryDelete_42 (by decide) (fun c20 => ?_) (fun c20 => ?_)
      · replace hf := q_neg c20 hf
        exact b48 v1 s18 hf _ _ _ hw (lv_sub hl [1, 3, 0] rfl)
      · replace hf := q_pos c20 hf
        refine lv_bipush (v := (-2)) S0.1 S0.2.1 dX8_tryDelete_45 (by decide) ?_
        exact hret dX8_tryDelete_47 hw hf
  · replace hf := q_pos c4 hf
    refine lv_iconst (v := (-1)) S0.1 S0.2.1 dX8_tryDelete_16 (by decide) ?_
    exact hret dX8_tryDelete_17 hw hf
theorem qyX8_isQuotaUsed : qY yX8_isQuotaUsed RX8 cX8_isQuotaUsed 4 (some .boolean) 1 := ⟨⟨kw_832, kp_26, kw_1, kw_833⟩, rfl, by decide, by decide, by decide +kernel⟩
def fX8_isQuotaUsed_57 (F : Nat) (σ : qS) : Option (Int32 × qS) :=
  gbl 0 (some (0, σ))
def fX8_isQuotaUsed_11 (F : Nat) : Nat → Int32 → Int32 → qS → Option (Int32 × qS)
  | 0, _, _, _ => none
  | n + 1, x2, x3, σ =>
  if 80 ≤ x3 then (fX8_isQuotaUsed_57 F σ) else (if x2 < 0 then (fX8_isQuotaUsed_57 F σ) else (ldi 80 (σ.1 38 0) x2 fun v4 => (ldi 80 (σ.1 14 0) x2 fun v5 => (if v4 < v5 then (ldi 80 (σ.1 2 0) x2 fun v7 => (nm (x3 + 1) fun v8 => (fX8_isQuotaUsed_11 F n v7 v8 σ))) else (gbl 1 (some (1, σ)))))))
def fX8_isQuotaUsed (F : Nat) (p1 : Int32) (σ : qS) : Option (Int32 × qS) :=
  bnd (fX7_countBelow F 0 σ) fun s1 => (fX8_isQuotaUsed_11 F F p1 0 s1)
set_option maxRecDepth 100000 in
set_option maxHeartbeats 4000000 in
theorem wX8_isQuotaUsed (l : Launch) (D : va_G) (Y : Nat → ClassId) (ad : qAd) (F : Nat) (p1 : Int32) (σ : qS) : qCi l yX8_isQuotaUsed cX8_isQuotaUsed 4 (some .boolean) 2 44 D (cL Y) (qT Y) ad [.ref (ad 0 0), .int p1] σ (fX8_isQuotaUsed F p1 σ) := by
  refine q_ofz (by decide) (Nat.le_of_ble_eq_true rfl) "Leasehall" rfl (fun p e s m below meth c A Q r0 S0 hf hw hret ls hl => ?_)
  replace hl : lv_has ls 4 [(0, .ref (ad 0 0)), (1, .int p1)] := hl
  unfold fX8_isQuotaUsed at hf
  have b57 : ∀ (σ : qS), fX8_isQuotaUsed_57 F σ = some r0 → qAt p l e (qRm 2 44) s m ([.ref (ad 0 0), .int p1] : List Value).toArray below meth c Q D (cL Y) (qT Y) A ad 4 0 0 57 [] [] σ := by
    clear hf hw hl ls
    intro σ hf H locs ls hw hl
    unfold fX8_isQuotaUsed_57 at hf
    refine lv_iconst (v := 0) S0.1 S0.2.1 dX8_isQuotaUsed_57 (by decide) ?_
    exact hret dX8_isQuotaUsed_58 hw hf
  have b11 : ∀ (n : Nat) (x2 : Int32) (x3 : Int32) (σ : qS), fX8_isQuotaUsed_11 F n x2 x3 σ = some r0 → qAt p l e (qRm 2 44) s m ([.ref (ad 0 0), .int p1] : List Value).toArray below meth c Q D (cL Y) (qT Y) A ad 4 0 0 11 [(0, .ref (ad 0 0)), (2, .int x2), (3, .int x3)] [] σ := by
    clear hf hw hl ls
    intro n
    induction n with
    | zero => intro x2 x3 σ hf; exact absurd hf (by rw [fX8_isQuotaUsed_11]; exact nofun)
    | succ n hk11 =>
      intro x2 x3 σ hf H locs ls hw hl
      rw [fX8_isQuotaUsed_11] at hf
      refine lv_iload_n S0.1 S0.2.1 dX8_isQuotaUsed_11 rfl (lv_at hl 2 rfl) ?_
      refine lv_bipush (v := 80) S0.1 S0.2.1 dX8_isQuotaUsed_12 (by decide) ?_
      refine lv_icmp_ge (tgt := 57) S0.1 S0.2.1 dX8_isQuotaUsed_14 (by decide) (fun c2 => ?_) (fun c2 => ?_)
      · replace hf := q_pos c2 hf
        exact b57 σ hf _ _ _ hw (lv_sub hl [] rfl)
      · replace hf := q_neg c2 hf
        refine lv_iload_n S0.1 S0.2.1 dX8_isQuotaUsed_17 rfl (lv_at hl 1 rfl) ?_
        refine lv_if_lt (tgt := 57) S0.1 S0.2.1 dX8_isQuotaUsed_18 (by decide) (fun c3 => ?_) (fun c3 => ?_)
        · replace hf := q_pos c3 hf
          exact b57 σ hf _ _ _ hw (lv_sub hl [] rfl)
        · replace hf := q_neg c3 hf
          refine lv_aload_n S0.1 S0.2.1 dX8_isQuotaUsed_21 rfl (lv_at hl 0 rfl) ?_
          refine gX8_truth S0 hw kw_229 dX8_isQuotaUsed_22 ?_
          refine gX7_below S0 hw (show 0 < 6 by decide) kw_91 dX8_isQuotaUsed_25 ?_
          refine lv_iload_n S0.1 S0.2.1 dX8_isQuotaUsed_28 rfl (lv_at hl 1 rfl) ?_
          refine q_iald (k := 38) (i := 0) S0 hw (show 0 < 6 by decide) (t0 := 0) rfl rfl dX8_isQuotaUsed_29 hf (fun v4 hf => ?_)
          refine lv_aload_n S0.1 S0.2.1 dX8_isQuotaUsed_30 rfl (lv_at hl 0 rfl) ?_
          refine gX8_quotas S0 hw kw_237 dX8_isQuotaUsed_31 ?_
          refine lv_iload_n S0.1 S0.2.1 dX8_isQuotaUsed_34 rfl (lv_at hl 1 rfl) ?_
          refine q_iald S0 hw dC_14 (t0 := 0) rfl rfl dX8_isQuotaUsed_35 hf (fun v5 hf => ?_)
          refine lv_icmp_lt (tgt := 41) S0.1 S0.2.1 dX8_isQuotaUsed_36 (by decide) (fun c6 => ?_) (fun c6 => ?_)
          · replace hf := q_pos c6 hf
            refine lv_aload_n S0.1 S0.2.1 dX8_isQuotaUsed_41 rfl (lv_at hl 0 rfl) ?_
            refine gX8_births S0 hw kw_227 dX8_isQuotaUsed_42 ?_
            refine gX1_parent S0 hw kw_43 dX8_isQuotaUsed_45 ?_
            refine lv_iload_n S0.1 S0.2.1 dX8_isQuotaUsed_48 rfl (lv_at hl 1 rfl) ?_
            refine q_iald S0 hw dC_2 (t0 := 0) rfl rfl dX8_isQuotaUsed_49 hf (fun v7 hf => ?_)
            refine lv_istore_n (lv' := [(2, .int v7), (0, .ref (ad 0 0)), (3, .int x3)]) S0.1 S0.2.1 dX8_isQuotaUsed_50 rfl hl (by decide) rfl (fun ls hl => ?_)
            refine q_iinc S0 (v0 := 1) dX8_isQuotaUsed_51 hl (k := 2) rfl (by decide) (by decide) rfl hf (fun v8 ls hl hf => ?_)
            refine lv_goto (tgt := 11) S0.1 S0.2.1 dX8_isQuotaUsed_54 (by decide) ?_
            exact hk11 v7 v8 σ hf _ _ _ hw (lv_sub hl [2, 1, 0] rfl)
          · replace hf := q_neg c6 hf
            refine lv_iconst (v := 1) S0.1 S0.2.1 dX8_isQuotaUsed_39 (by decide) ?_
            exact hret dX8_isQuotaUsed_40 hw hf
  refine lv_aload_n S0.1 S0.2.1 dX8_isQuotaUsed_0 rfl (lv_at hl 0 rfl) ?_
  refine gX8_truth S0 hw kw_229 dX8_isQuotaUsed_1 ?_
  refine q_callv (k := 30) (i := 0) S0 hw (As := []) (rest := []) (wX7_countBelow l D Y ad F 0 σ) qyX7_countBelow kw_834 ⟨Nat.le_of_ble_eq_true rfl, Nat.le_of_ble_eq_true rfl⟩ (show 0 < 6 by decide) rfl rfl rfl rfl hl.1 (Nat.le_of_ble_eq_true rfl) dX8_isQuotaUsed_4 ⟨Nat.le_refl _, Nat.le_refl _⟩ rfl hf (fun s1 H locs hw hf => ?_)
  refine lv_iload_n S0.1 S0.2.1 dX8_isQuotaUsed_7 rfl (lv_at hl 1 rfl) ?_
  refine lv_istore_n (lv' := [(2, .int p1), (0, .ref (ad 0 0)), (1, .int p1)]) S0.1 S0.2.1 dX8_isQuotaUsed_8 rfl hl (by decide) rfl (fun ls hl => ?_)
  refine lv_iconst (v := 0) S0.1 S0.2.1 dX8_isQuotaUsed_9 (by decide) ?_
  refine lv_istore_n (lv' := [(3, .int 0), (2, .int p1), (0, .ref (ad 0 0)), (1, .int p1)]) S0.1 S0.2.1 dX8_isQuotaUsed_10 rfl hl (by decide) rfl (fun ls hl => ?_)
  exact b11 F p1 0 s1 hf _ _ _ hw (lv_sub hl [2, 1, 0] rfl)
theorem qyX8_tryMake : qY yX8_tryMake RX8 cX8_tryMake 6 (some .int) 2 := ⟨⟨kw_812, kp_25, kw_1, kw_813⟩, rfl, by decide, by decide, by decide +kernel⟩
def fX8_tryMake_150 (F : Nat) (i1 : Nat) (i2 : Nat) (x5 : Int32) (t2 : Int32) (σ : qS) : Option (Int32 × qS) :=
  nm (σ.1 0 0 15) fun v22 => (nm (v22 + 1) fun v23 => (bnd (fX1_add F i2 t2 v23 σ) fun s24 => (gnl i2 (1 + 6 * s24.2 0 0) (nm (s24.1 56 i2 3) fun v25 => (bnd (fX8_record F 0 x5 v25 s24) fun s26 => (some (x5, s26)))))))
def fX8_tryMake_76 (F : Nat) (i1 : Nat) (i2 : Nat) (x3 : Int32) (x4 : Int32) (σ : qS) : Option (Int32 × qS) :=
  bnd2 (fX1_isHeld F x3 σ) fun v13 s12 => (if v13 = 0 then (bnd2 (fX8_isQuotaUsed F x3 s12) fun v16 s15 => (if v16 = 0 then (nm (s15.1 1 0 5) fun v18 => (if v18 < 80 then (if x4 = 0 then (gnl i2 (1 + 6 * s15.2 0 0) (nm (s15.1 56 i2 2) fun v21 => (fX8_tryMake_150 F i1 i2 v18 v21 s15))) else (ldi 80 (s15.1 37 0) x3 fun v27 => (nm (1000 + v27) fun v28 => (fX8_tryMake_150 F i1 i2 v18 v28 s15)))) else (some ((-8), s15)))) else (some ((-7), s15)))) else (some ((-5), s12)))
def fX8_tryMake_51 (F : Nat) (i1 : Nat) (i2 : Nat) (x3 : Int32) (t0 : Int32) (σ : qS) : Option (Int32 × qS) :=
  if t0 = 0 then (gnl i2 (1 + 6 * σ.2 0 0) (nm (σ.1 56 i2 2) fun v29 => (bnd2 (fX7_hasChildNamed F 0 x3 v29 σ) fun v31 s30 => (if v31 = 0 then (fX8_tryMake_76 F i1 i2 x3 t0 s30) else (some ((-4), s30)))))) else (fX8_tryMake_76 F i1 i2 x3 t0 σ)
def fX8_tryMake (F : Nat) (i1 : Nat) (i2 : Nat) (σ : qS) : Option (Int32 × qS) :=
  gnl i2 (1 + 6 * σ.2 0 0) (nm (σ.1 56 i2 1) fun v1 => (bnd2 (fX7_holds F 0 v1 σ) fun v3 s2 => (if v3 = 0 then (some ((-1), s2)) else (gnl i1 (s2.2 0 0) (nm (s2.1 50 i1 1) fun v5 => (bnd2 (fX7_mayWrite F 0 v1 v5 s2) fun v7 s6 => (if v7 = 0 then (some ((-2), s6)) else (gnl i2 (1 + 6 * s6.2 0 0) (nm (s6.1 56 i2 2) fun v9 => (if v9 = 1000 then (fX8_tryMake_51 F i1 i2 v1 1 s6) else (fX8_tryMake_51 F i1 i2 v1 0 s6)))))))))))
set_option maxRecDepth 100000 in
set_option maxHeartbeats 4000000 in
theorem wX8_tryMake (l : Launch) (D : va_G) (Y : Nat → ClassId) (ad : qAd) (F : Nat) (i1 : Nat) (i2 : Nat) (σ : qS) : qCi l yX8_tryMake cX8_tryMake 6 (some .int) 3 71 D (cL Y) (qT Y) ad [.ref (ad 0 0), .ref (ad 50 i1), .ref (ad 56 i2)] σ (fX8_tryMake F i1 i2 σ) := by
  refine q_ofi (by decide) (Nat.le_of_ble_eq_true rfl) "Leasehall" rfl (fun p e s m below meth c A Q r0 S0 hf hw hret ls hl => ?_)
  replace hl : lv_has ls 6 [(0, .ref (ad 0 0)), (1, .ref (ad 50 i1)), (2, .ref (ad 56 i2))] := hl
  unfold fX8_tryMake at hf
  have b150 : ∀ (x5 : Int32) (t2 : Int32) (σ : qS), fX8_tryMake_150 F i1 i2 x5 t2 σ = some r0 → qAt p l e (qRm 3 71) s m ([.ref (ad 0 0), .ref (ad 50 i1), .ref (ad 56 i2)] : List Value).toArray below meth c Q D (cL Y) (qT Y) A ad 6 0 0 150 [(0, .ref (ad 0 0)), (2, .ref (ad 56 i2)), (5, .int x5)] [.int t2, .ref (ad 56 i2), .ref (ad 1 0)] σ := by
    clear hf hw hl ls
    intro x5 t2 σ hf H locs ls hw hl
    unfold fX8_tryMake_150 at hf
    refine lv_aload_n S0.1 S0.2.1 dX8_tryMake_150 rfl (lv_at hl 0 rfl) ?_
    refine gX8_lastChange S0 hw kw_242 dX8_tryMake_151 hf (fun v22 hf => ?_)
    refine lv_iconst (v := 1) S0.1 S0.2.1 dX8_tryMake_154 (by decide) ?_
    refine lv_iadd S0.1 S0.2.1 dX8_tryMake_155 (q_top hf (fun v23 hf => ?_))
    refine q_callv S0 hw (As := [.ref (ad 56 i2), .int t2, .int v23]) (rest := []) (wX1_add l D Y ad F i2 t2 v23 σ) qyX1_add kw_835 ⟨Nat.le_of_ble_eq_true rfl, Nat.le_of_ble_eq_true rfl⟩ dC_1 rfl rfl rfl rfl hl.1 (Nat.le_of_ble_eq_true rfl) dX8_tryMake_156 ⟨Nat.le_refl _, Nat.le_refl _⟩ rfl hf (fun s24 H locs hw hf => ?_)
    refine lv_aload_n S0.1 S0.2.1 dX8_tryMake_159 rfl (lv_at hl 0 rfl) ?_
    refine lv_iconst (v := 0) S0.1 S0.2.1 dX8_tryMake_160 (by decide) ?_
    refine lv_iload S0.1 S0.2.1 dX8_tryMake_161 (lv_at hl 2 rfl) ?_
    refine lv_aload_n S0.1 S0.2.1 dX8_tryMake_163 rfl (lv_at hl 1 rfl) ?_
    obtain ⟨hd, hf⟩ := gnl_some hf
    refine gX0_number S0 hw hd kw_182 dX8_tryMake_164 hf (fun v25 hf => ?_)
    refine q_callv S0 hw (As := [.int 0, .int x5, .int v25]) (rest := []) (wX8_record l D Y ad F 0 x5 v25 s24) qyX8_record kw_643 ⟨Nat.le_of_ble_eq_true rfl, Nat.le_of_ble_eq_true rfl⟩ dC_0 rfl rfl rfl rfl hl.1 (Nat.le_of_ble_eq_true rfl) dX8_tryMake_167 ⟨Nat.le_refl _, Nat.le_refl _⟩ rfl hf (fun s26 H locs hw hf => ?_)
    refine lv_iload S0.1 S0.2.1 dX8_tryMake_170 (lv_at hl 2 rfl) ?_
    exact hret dX8_tryMake_172 hw hf
  have b76 : ∀ (x3 : Int32) (x4 : Int32) (σ : qS), fX8_tryMake_76 F i1 i2 x3 x4 σ = some r0 → qAt p l e (qRm 3 71) s m ([.ref (ad 0 0), .ref (ad 50 i1), .ref (ad 56 i2)] : List Value).toArray below meth c Q D (cL Y) (qT Y) A ad 6 0 0 76 [(0, .ref (ad 0 0)), (2, .ref (ad 56 i2)), (3, .int x3), (4, .int x4)] [] σ := by
    clear hf hw hl ls
    intro x3 x4 σ hf H locs ls hw hl
    unfold fX8_tryMake_76 at hf
    refine lv_aload_n S0.1 S0.2.1 dX8_tryMake_76 rfl (lv_at hl 0 rfl) ?_
    refine gX8_births S0 hw kw_227 dX8_tryMake_77 ?_
    refine lv_iload_n S0.1 S0.2.1 dX8_tryMake_80 rfl (lv_at hl 2 rfl) ?_
    refine q_calli S0 hw (As := [.int x3]) (rest := []) (wX1_isHeld l D Y ad F x3 σ) qyX1_isHeld kw_826 ⟨Nat.le_of_ble_eq_true rfl, Nat.le_of_ble_eq_true rfl⟩ dC_1 rfl rfl rfl rfl hl.1 (Nat.le_of_ble_eq_true rfl) dX8_tryMake_81 ⟨Nat.le_refl _, Nat.le_refl _⟩ rfl hf (fun v13 s12 H locs hw hf => ?_)
    refine lv_if_eq (tgt := 90) S0.1 S0.2.1 dX8_tryMake_84 (by decide) (fun c14 => ?_) (fun c14 => ?_)
    · replace hf := q_pos c14 hf
      refine lv_aload_n S0.1 S0.2.1 dX8_tryMake_90 rfl (lv_at hl 0 rfl) ?_
      refine lv_iload_n S0.1 S0.2.1 dX8_tryMake_91 rfl (lv_at hl 2 rfl) ?_
      refine q_calli S0 hw (As := [.int x3]) (rest := []) (wX8_isQuotaUsed l D Y ad F x3 s12) qyX8_isQuotaUsed kw_830 ⟨Nat.le_of_ble_eq_true rfl, Nat.le_of_ble_eq_true rfl⟩ dC_0 rfl rfl rfl rfl hl.1 (Nat.le_of_ble_eq_true rfl) dX8_tryMake_92 ⟨Nat.le_refl _, Nat.le_refl _⟩ rfl hf (fun v16 s15 H locs hw hf => ?_)
      refine lv_if_eq (tgt := 101) S0.1 S0.2.1 dX8_tryMake_95 (by decide) (fun c17 => ?_) (fun c17 => ?_)
      · replace hf := q_pos c17 hf
        refine lv_aload_n S0.1 S0.2.1 dX8_tryMake_101 rfl (lv_at hl 0 rfl) ?_
        refine gX8_births S0 hw kw_227 dX8_tryMake_102 ?_
        refine gX1_made S0 hw kw_55 dX8_tryMake_105 hf (fun v18 hf => ?_)
        refine lv_istore (lv' := [(5, .int v18), (0, .ref (ad 0 0)), (2, .ref (ad 56 i2)), (3, .int x3), (4, .int x4)]) S0.1 S0.2.1 dX8_tryMake_108 hl (by decide) rfl (fun ls hl => ?_)
        refine lv_iload S0.1 S0.2.1 dX8_tryMake_110 (lv_at hl 0 rfl) ?_
        refine lv_bipush (v := 80) S0.1 S0.2.1 dX8_tryMake_112 (by decide) ?_
        refine lv_icmp_lt (tgt := 120) S0.1 S0.2.1 dX8_tryMake_114 (by decide) (fun c19 => ?_) (fun c19 => ?_)
        · replace hf := q_pos c19 hf
          refine lv_aload_n S0.1 S0.2.1 dX8_tryMake_120 rfl (lv_at hl 1 rfl) ?_
          refine gX8_births S0 hw kw_227 dX8_tryMake_121 ?_
          refine lv_aload_n S0.1 S0.2.1 dX8_tryMake_124 rfl (lv_at hl 2 rfl) ?_
          refine lv_iload S0.1 S0.2.1 dX8_tryMake_125 (lv_at hl 4 rfl) ?_
          refine lv_if_eq (tgt := 146) S0.1 S0.2.1 dX8_tryMake_127 (by decide) (fun c20 => ?_) (fun c20 => ?_)
          · replace hf := q_pos c20 hf
            refine lv_aload_n S0.1 S0.2.1 dX8_tryMake_146 rfl (lv_at hl 2 rfl) ?_
            obtain ⟨hd, hf⟩ := gnl_some hf
            refine gX0_name S0 hw hd kw_180 dX8_tryMake_147 hf (fun v21 hf => ?_)
            exact b150 v18 v21 s15 hf _ _ _ hw (lv_sub hl [1, 2, 0] rfl)
          · replace hf := q_neg c20 hf
            refine lv_sipush (v := 1000) S0.1 S0.2.1 dX8_tryMake_130 (by decide) ?_
            refine lv_aload_n S0.1 S0.2.1 dX8_tryMake_133 rfl (lv_at hl 1 rfl) ?_
            refine gX8_truth S0 hw kw_229 dX8_tryMake_134 ?_
            refine gX7_numbered S0 hw (show 0 < 6 by decide) kw_89 dX8_tryMake_137 ?_
            refine lv_iload_n S0.1 S0.2.1 dX8_tryMake_140 rfl (lv_at hl 3 rfl) ?_
            refine q_iald (k := 37) (i := 0) S0 hw (show 0 < 6 by decide) (t0 := 0) rfl rfl dX8_tryMake_141 hf (fun v27 hf => ?_)
            refine lv_iadd S0.1 S0.2.1 dX8_tryMake_142 (q_top hf (fun v28 hf => ?_))
            refine lv_goto (tgt := 150) S0.1 S0.2.1 dX8_tryMake_143 (by decide) ?_
            exact b150 v18 v28 s15 hf _ _ _ hw (lv_sub hl [1, 2, 0] rfl)
        · replace hf := q_neg c19 hf
          refine lv_bipush (v := (-8)) S0.1 S0.2.1 dX8_tryMake_117 (by decide) ?_
          exact hret dX8_tryMake_119 hw hf
      · replace hf := q_neg c17 hf
        refine lv_bipush (v := (-7)) S0.1 S0.2.1 dX8_tryMake_98 (by decide) ?_
        exact hret dX8_tryMake_100 hw hf
    · replace hf := q_neg c14 hf
      refine lv_bipush (v := (-5)) S0.1 S0.2.1 dX8_tryMake_87 (by decide) ?_
      exact hret dX8_tryMake_89 hw hf
  have b51 : ∀ (x3 : Int32) (t0 : Int32) (σ : qS), fX8_tryMake_51 F i1 i2 x3 t0 σ = some r0 → qAt p l e (qRm 3 71) s m ([.ref (ad 0 0), .ref (ad 50 i1), .ref (ad 56 i2)] : List Value).toArray below meth c Q D (cL Y) (qT Y) A ad 6 0 0 51 [(0, .ref (ad 0 0)), (2, .ref (ad 56 i2)), (3, .int x3)] [.int t0] σ := by
    clear hf hw hl ls
    intro x3 t0 σ hf H locs ls hw hl
    unfold fX8_tryMake_51 at hf
    refine lv_istore (lv' := [(4, .int t0), (0, .ref (ad 0 0)), (2, .ref (ad 56 i2)), (3, .int x3)]) S0.1 S0.2.1 dX8_tryMake_51 hl (by decide) rfl (fun ls hl => ?_)
    refine lv_iload S0.1 S0.2.1 dX8_tryMake_53 (lv_at hl 0 rfl) ?_
    refine lv_if_ne (tgt := 76) S0.1 S0.2.1 dX8_tryMake_55 (by decide) (fun c11 => ?_) (fun c11 => ?_)
    · replace hf := q_neg c11 hf
      exact b76 x3 t0 σ hf _ _ _ hw (lv_sub hl [1, 2, 3, 0] rfl)
    · replace hf := q_pos c11 hf
      refine lv_aload_n S0.1 S0.2.1 dX8_tryMake_58 rfl (lv_at hl 1 rfl) ?_
      refine gX8_truth S0 hw kw_229 dX8_tryMake_59 ?_
      refine lv_iload_n S0.1 S0.2.1 dX8_tryMake_62 rfl (lv_at hl 3 rfl) ?_
      refine lv_aload_n S0.1 S0.2.1 dX8_tryMake_63 rfl (lv_at hl 2 rfl) ?_
      obtain ⟨hd, hf⟩ := gnl_some hf
      refine gX0_name S0 hw hd kw_180 dX8_tryMake_64 hf (fun v29 hf => ?_)
      refine q_calli (k := 30) (i := 0) S0 hw (As := [.int x3, .int v29]) (rest := []) (wX7_hasChildNamed l D Y ad F 0 x3 v29 σ) qyX7_hasChildNamed kw_822 ⟨Nat.le_of_ble_eq_true rfl, Nat.le_of_ble_eq_true rfl⟩ (show 0 < 6 by decide) rfl rfl rfl rfl hl.1 (Nat.le_of_ble_eq_true rfl) dX8_tryMake_67 ⟨Nat.le_refl _, Nat.le_refl _⟩ rfl hf (fun v31 s30 H locs hw hf => ?_)
      refine lv_if_eq (tgt := 76) S0.1 S0.2.1 dX8_tryMake_70 (by decide) (fun c32 => ?_) (fun c32 => ?_)
      · replace hf := q_pos c32 hf
        exact b76 x3 t0 s30 hf _ _ _ hw (lv_sub hl [1, 2, 3, 0] rfl)
      · replace hf := q_neg c32 hf
        refine lv_bipush (v := (-4)) S0.1 S0.2.1 dX8_tryMake_73 (by decide) ?_
        exact hret dX8_tryMake_75 hw hf
  refine lv_aload_n S0.1 S0.2.1 dX8_tryMake_0 rfl (lv_at hl 2 rfl) ?_
  obtain ⟨hd, hf⟩ := gnl_some hf
  refine gX0_node S0 hw hd kw_178 dX8_tryMake_1 hf (fun v1 hf => ?_)
  refine lv_istore_n (lv' := [(3, .int v1), (0, .ref (ad 0 0)), (1, .ref (ad 50 i1)), (2, .ref (ad 56 i2))]) S0.1 S0.2.1 dX8_tryMake_4 rfl hl (by decide) rfl (fun ls hl => ?_)
  refine lv_aload_n S0.1 S0.2.1 dX8_tryMake_5 rfl (lv_at hl 1 rfl) ?_
  refine gX8_truth S0 hw kw_229 dX8_tryMake_6 ?_
  refine lv_iload_n S0.1 S0.2.1 dX8_tryMake_9 rfl (lv_at hl 0 rfl) ?_
  refine q_calli (k := 30) (i := 0) S0 hw (As := [.int v1]) (rest := []) (wX7_holds l D Y ad F 0 v1 σ) qyX7_holds kw_814 ⟨Nat.le_of_ble_eq_true rfl, Nat.le_of_ble_eq_true rfl⟩ (show 0 < 6 by decide) rfl rfl rfl rfl hl.1 (Nat.le_of_ble_eq_true rfl) dX8_tryMake_10 ⟨Nat.le_refl _, Nat.le_refl _⟩ rfl hf (fun v3 s2 H locs hw hf => ?_)
  refine lv_if_ne (tgt := 18) S0.1 S0.2.1 dX8_tryMake_13 (by decide) (fun c4 => ?_) (fun c4 => ?_)
  · replace hf := q_neg c4 hf
    refine lv_aload_n S0.1 S0.2.1 dX8_tryMake_18 rfl (lv_at hl 1 rfl) ?_
    refine gX8_truth S0 hw kw_229 dX8_tryMake_19 ?_
    refine lv_iload_n S0.1 S0.2.1 dX8_tryMake_22 rfl (lv_at hl 0 rfl) ?_
    refine lv_aload_n S0.1 S0.2.1 dX8_tryMake_23 rfl (lv_at hl 2 rfl) ?_
    obtain ⟨hd, hf⟩ := gnl_some hf
    refine gX6_person S0 hw hd kw_471 dX8_tryMake_24 hf (fun v5 hf => ?_)
    refine q_calli (k := 30) (i := 0) S0 hw (As := [.int v1, .int v5]) (rest := []) (wX7_mayWrite l D Y ad F 0 v1 v5 s2) qyX7_mayWrite kw_818 ⟨Nat.le_of_ble_eq_true rfl, Nat.le_of_ble_eq_true rfl⟩ (show 0 < 6 by decide) rfl rfl rfl rfl hl.1 (Nat.le_of_ble_eq_true rfl) dX8_tryMake_27 ⟨Nat.le_refl _, Nat.le_refl _⟩ rfl hf (fun v7 s6 H locs hw hf => ?_)
    refine lv_if_ne (tgt := 36) S0.1 S0.2.1 dX8_tryMake_30 (by decide) (fun c8 => ?_) (fun c8 => ?_)
    · replace hf := q_neg c8 hf
      refine lv_aload_n S0.1 S0.2.1 dX8_tryMake_36 rfl (lv_at hl 3 rfl) ?_
      obtain ⟨hd, hf⟩ := gnl_some hf
      refine gX0_name S0 hw hd kw_180 dX8_tryMake_37 hf (fun v9 hf => ?_)
      refine lv_sipush (v := 1000) S0.1 S0.2.1 dX8_tryMake_40 (by decide) ?_
      refine lv_icmp_ne (tgt := 50) S0.1 S0.2.1 dX8_tryMake_43 (by decide) (fun c10 => ?_) (fun c10 => ?_)
      · replace hf := q_neg c10 hf
        refine lv_iconst (v := 0) S0.1 S0.2.1 dX8_tryMake_50 (by decide) ?_
        exact b51 v1 0 s6 hf _ _ _ hw (lv_sub hl [1, 3, 0] rfl)
      · replace hf := q_pos c10 hf
        refine lv_iconst (v := 1) S0.1 S0.2.1 dX8_tryMake_46 (by decide) ?_
        refine lv_goto (tgt := 51) S0.1 S0.2.1 dX8_tryMake_47 (by decide) ?_
        exact b51 v1 1 s6 hf _ _ _ hw (lv_sub hl [1, 3, 0] rfl)
    · replace hf := q_pos c8 hf
      refine lv_bipush (v := (-2)) S0.1 S0.2.1 dX8_tryMake_33 (by decide) ?_
      exact hret dX8_tryMake_35 hw hf
  · replace hf := q_pos c4 hf
    refine lv_iconst (v := (-1)) S0.1 S0.2.1 dX8_tryMake_16 (by decide) ?_
    exact hret dX8_tryMake_17 hw hf
theorem qyX8_tryRights : qY yX8_tryRights RX8 cX8_tryRights 4 (some .int) 2 := ⟨⟨kw_867, kp_30, kw_1, kw_868⟩, rfl, by decide, by decide, by decide +kernel⟩
def fX8_tryRights_71 (F : Nat) (i1 : Nat) (i2 : Nat) (t0 : Int32) (σ : qS) : Option (Int32 × qS) :=
  some (t0, σ)
def fX8_tryRights (F : Nat) (i1 : Nat) (i2 : Nat) (σ : qS) : Option (Int32 × qS) :=
  gnl i2 (1 + 6 * σ.2 0 0) (nm (σ.1 56 i2 1) fun v1 => (bnd2 (fX7_holds F 0 v1 σ) fun v3 s2 => (if v3 = 0 then (some ((-1), s2)) else (gnl i1 (s2.2 0 0) (nm (s2.1 50 i1 1) fun v5 => (bnd2 (fX7_mayWrite F 0 v1 v5 s2) fun v7 s6 => (if v7 = 0 then (some ((-2), s6)) else (gnl i2 (1 + 6 * s6.2 0 0) (nm (s6.1 56 i2 0) fun v9 => (gnl i2 (1 + 6 * s6.2 0 0) (nm (s6.1 56 i2 3) fun v10 => (bnd (fX8_record F v9 v1 v10 s6) fun s11 => (gnl i2 (1 + 6 * s11.2 0 0) (nm (s11.1 56 i2 0) fun v12 => (if v12 = 4 then (bnd2 (fX7_belowOf F 0 v1 s11) fun v15 s14 => (nm (1 + v15) fun v16 => (fX8_tryRights_71 F i1 i2 v16 s14))) else (fX8_tryRights_71 F i1 i2 1 s11))))))))))))))))
set_option maxRecDepth 100000 in
set_option maxHeartbeats 4000000 in
theorem wX8_tryRights (l : Launch) (D : va_G) (Y : Nat → ClassId) (ad : qAd) (F : Nat) (i1 : Nat) (i2 : Nat) (σ : qS) : qCi l yX8_tryRights cX8_tryRights 4 (some .int) 3 71 D (cL Y) (qT Y) ad [.ref (ad 0 0), .ref (ad 50 i1), .ref (ad 56 i2)] σ (fX8_tryRights F i1 i2 σ) := by
  refine q_ofi (by decide) (Nat.le_of_ble_eq_true rfl) "Leasehall" rfl (fun p e s m below meth c A Q r0 S0 hf hw hret ls hl => ?_)
  replace hl : lv_has ls 4 [(0, .ref (ad 0 0)), (1, .ref (ad 50 i1)), (2, .ref (ad 56 i2))] := hl
  unfold fX8_tryRights at hf
  have b71 : ∀ (t0 : Int32) (σ : qS), fX8_tryRights_71 F i1 i2 t0 σ = some r0 → qAt p l e (qRm 3 71) s m ([.ref (ad 0 0), .ref (ad 50 i1), .ref (ad 56 i2)] : List Value).toArray below meth c Q D (cL Y) (qT Y) A ad 4 0 0 71 [] [.int t0] σ := by
    clear hf hw hl ls
    intro t0 σ hf H locs ls hw hl
    unfold fX8_tryRights_71 at hf
    exact hret dX8_tryRights_71 hw hf
  refine lv_aload_n S0.1 S0.2.1 dX8_tryRights_0 rfl (lv_at hl 2 rfl) ?_
  obtain ⟨hd, hf⟩ := gnl_some hf
  refine gX0_node S0 hw hd kw_178 dX8_tryRights_1 hf (fun v1 hf => ?_)
  refine lv_istore_n (lv' := [(3, .int v1), (0, .ref (ad 0 0)), (1, .ref (ad 50 i1)), (2, .ref (ad 56 i2))]) S0.1 S0.2.1 dX8_tryRights_4 rfl hl (by decide) rfl (fun ls hl => ?_)
  refine lv_aload_n S0.1 S0.2.1 dX8_tryRights_5 rfl (lv_at hl 1 rfl) ?_
  refine gX8_truth S0 hw kw_229 dX8_tryRights_6 ?_
  refine lv_iload_n S0.1 S0.2.1 dX8_tryRights_9 rfl (lv_at hl 0 rfl) ?_
  refine q_calli (k := 30) (i := 0) S0 hw (As := [.int v1]) (rest := []) (wX7_holds l D Y ad F 0 v1 σ) qyX7_holds kw_814 ⟨Nat.le_of_ble_eq_true rfl, Nat.le_of_ble_eq_true rfl⟩ (show 0 < 6 by decide) rfl rfl rfl rfl hl.1 (Nat.le_of_ble_eq_true rfl) dX8_tryRights_10 ⟨Nat.le_refl _, Nat.le_refl _⟩ rfl hf (fun v3 s2 H locs hw hf => ?_)
  refine lv_if_ne (tgt := 18) S0.1 S0.2.1 dX8_tryRights_13 (by decide) (fun c4 => ?_) (fun c4 => ?_)
  · replace hf := q_neg c4 hf
    refine lv_aload_n S0.1 S0.2.1 dX8_tryRights_18 rfl (lv_at hl 1 rfl) ?_
    refine gX8_truth S0 hw kw_229 dX8_tryRights_19 ?_
    refine lv_iload_n S0.1 S0.2.1 dX8_tryRights_22 rfl (lv_at hl 0 rfl) ?_
    refine lv_aload_n S0.1 S0.2.1 dX8_tryRights_23 rfl (lv_at hl 2 rfl) ?_
    obtain ⟨hd, hf⟩ := gnl_some hf
    refine gX6_person S0 hw hd kw_471 dX8_tryRights_24 hf (fun v5 hf => ?_)
    refine q_calli (k := 30) (i := 0) S0 hw (As := [.int v1, .int v5]) (rest := []) (wX7_mayWrite l D Y ad F 0 v1 v5 s2) qyX7_mayWrite kw_818 ⟨Nat.le_of_ble_eq_true rfl, Nat.le_of_ble_eq_true rfl⟩ (show 0 < 6 by decide) rfl rfl rfl rfl hl.1 (Nat.le_of_ble_eq_true rfl) dX8_tryRights_27 ⟨Nat.le_refl _, Nat.le_refl _⟩ rfl hf (fun v7 s6 H locs hw hf => ?_)
    refine lv_if_ne (tgt := 36) S0.1 S0.2.1 dX8_tryRights_30 (by decide) (fun c8 => ?_) (fun c8 => ?_)
    · replace hf := q_neg c8 hf
      refine lv_aload_n S0.1 S0.2.1 dX8_tryRights_36 rfl (lv_at hl 1 rfl) ?_
      refine lv_aload_n S0.1 S0.2.1 dX8_tryRights_37 rfl (lv_at hl 3 rfl) ?_
      obtain ⟨hd, hf⟩ := gnl_some hf
      refine gX0_kind S0 hw hd kw_175 dX8_tryRights_38 hf (fun v9 hf => ?_)
      refine lv_iload_n S0.1 S0.2.1 dX8_tryRights_41 rfl (lv_at hl 0 rfl) ?_
      refine lv_aload_n S0.1 S0.2.1 dX8_tryRights_42 rfl (lv_at hl 3 rfl) ?_
      obtain ⟨hd, hf⟩ := gnl_some hf
      refine gX0_number S0 hw hd kw_182 dX8_tryRights_43 hf (fun v10 hf => ?_)
      refine q_callv S0 hw (As := [.int v9, .int v1, .int v10]) (rest := []) (wX8_record l D Y ad F v9 v1 v10 s6) qyX8_record kw_643 ⟨Nat.le_of_ble_eq_true rfl, Nat.le_of_ble_eq_true rfl⟩ dC_0 rfl rfl rfl rfl hl.1 (Nat.le_of_ble_eq_true rfl) dX8_tryRights_46 ⟨Nat.le_refl _, Nat.le_refl _⟩ rfl hf (fun s11 H locs hw hf => ?_)
      refine lv_aload_n S0.1 S0.2.1 dX8_tryRights_49 rfl (lv_at hl 3 rfl) ?_
      obtain ⟨hd, hf⟩ := gnl_some hf
      refine gX0_kind S0 hw hd kw_175 dX8_tryRights_50 hf (fun v12 hf => ?_)
      refine lv_iconst (v := 4) S0.1 S0.2.1 dX8_tryRights_53 (by decide) ?_
      refine lv_icmp_ne (tgt := 70) S0.1 S0.2.1 dX8_tryRights_54 (by decide) (fun c13 => ?_) (fun c13 => ?_)
      · replace hf := q_neg c13 hf
        refine lv_iconst (v := 1) S0.1 S0.2.1 dX8_tryRights_70 (by decide) ?_
        exact b71 1 s11 hf _ _ _ hw (lv_sub hl [] rfl)
      · replace hf := q_pos c13 hf
        refine lv_iconst (v := 1) S0.1 S0.2.1 dX8_tryRights_57 (by decide) ?_
        refine lv_aload_n S0.1 S0.2.1 dX8_tryRights_58 rfl (lv_at hl 1 rfl) ?_
        refine gX8_truth S0 hw kw_229 dX8_tryRights_59 ?_
        refine lv_iload_n S0.1 S0.2.1 dX8_tryRights_62 rfl (lv_at hl 0 rfl) ?_
        refine q_calli (k := 30) (i := 0) S0 hw (As := [.int v1]) (rest := [.int 1]) (wX7_belowOf l D Y ad F 0 v1 s11) qyX7_belowOf kw_311 ⟨Nat.le_of_ble_eq_true rfl, Nat.le_of_ble_eq_true rfl⟩ (show 0 < 6 by decide) rfl rfl rfl rfl hl.1 (Nat.le_of_ble_eq_true rfl) dX8_tryRights_63 ⟨Nat.le_refl _, Nat.le_refl _⟩ rfl hf (fun v15 s14 H locs hw hf => ?_)
        refine lv_iadd S0.1 S0.2.1 dX8_tryRights_66 (q_top hf (fun v16 hf => ?_))
        refine lv_goto (tgt := 71) S0.1 S0.2.1 dX8_tryRights_67 (by decide) ?_
        exact b71 v16 s14 hf _ _ _ hw (lv_sub hl [] rfl)
    · replace hf := q_pos c8 hf
      refine lv_bipush (v := (-2)) S0.1 S0.2.1 dX8_tryRights_33 (by decide) ?_
      exact hret dX8_tryRights_35 hw hf
  · replace hf := q_pos c4 hf
    refine lv_iconst (v := (-1)) S0.1 S0.2.1 dX8_tryRights_16 (by decide) ?_
    exact hret dX8_tryRights_17 hw hf
theorem qyX8_trySet : qY yX8_trySet RX8 cX8_trySet 4 (some .int) 2 := ⟨⟨kw_841, kp_27, kw_1, kw_842⟩, rfl, by decide, by decide, by decide +kernel⟩
def fX8_trySet (F : Nat) (i1 : Nat) (i2 : Nat) (σ : qS) : Option (Int32 × qS) :=
  gnl i2 (1 + 6 * σ.2 0 0) (nm (σ.1 56 i2 1) fun v1 => (bnd2 (fX7_holds F 0 v1 σ) fun v3 s2 => (if v3 = 0 then (some ((-1), s2)) else (gnl i1 (s2.2 0 0) (nm (s2.1 50 i1 1) fun v5 => (bnd2 (fX7_mayWrite F 0 v1 v5 s2) fun v7 s6 => (if v7 = 0 then (some ((-2), s6)) else (gnl i2 (1 + 6 * s6.2 0 0) (nm (s6.1 56 i2 4) fun v9 => (bnd2 (fX7_hasVersion F 0 v1 v9 s6) fun v11 s10 => (if v11 = 0 then (some ((-3), s10)) else (gnl i2 (1 + 6 * s10.2 0 0) (nm (s10.1 56 i2 3) fun v13 => (bnd (fX8_record F 1 v1 v13 s10) fun s14 => (ldi 80 (s14.1 33 0) v1 fun v15 => (some (v15, s14)))))))))))))))))
set_option maxRecDepth 100000 in
set_option maxHeartbeats 4000000 in
theorem wX8_trySet (l : Launch) (D : va_G) (Y : Nat → ClassId) (ad : qAd) (F : Nat) (i1 : Nat) (i2 : Nat) (σ : qS) : qCi l yX8_trySet cX8_trySet 4 (some .int) 3 71 D (cL Y) (qT Y) ad [.ref (ad 0 0), .ref (ad 50 i1), .ref (ad 56 i2)] σ (fX8_trySet F i1 i2 σ) := by
  refine q_ofi (by decide) (Nat.le_of_ble_eq_true rfl) "Leasehall" rfl (fun p e s m below meth c A Q r0 S0 hf hw hret ls hl => ?_)
  replace hl : lv_has ls 4 [(0, .ref (ad 0 0)), (1, .ref (ad 50 i1)), (2, .ref (ad 56 i2))] := hl
  unfold fX8_trySet at hf
  refine lv_aload_n S0.1 S0.2.1 dX8_trySet_0 rfl (lv_at hl 2 rfl) ?_
  obtain ⟨hd, hf⟩ := gnl_some hf
  refine gX0_node S0 hw hd kw_178 dX8_trySet_1 hf (fun v1 hf => ?_)
  refine lv_istore_n (lv' := [(3, .int v1), (0, .ref (ad 0 0)), (1, .ref (ad 50 i1)), (2, .ref (ad 56 i2))]) S0.1 S0.2.1 dX8_trySet_4 rfl hl (by decide) rfl (fun ls hl => ?_)
  refine lv_aload_n S0.1 S0.2.1 dX8_trySet_5 rfl (lv_at hl 1 rfl) ?_
  refine gX8_truth S0 hw kw_229 dX8_trySet_6 ?_
  refine lv_iload_n S0.1 S0.2.1 dX8_trySet_9 rfl (lv_at hl 0 rfl) ?_
  refine q_calli (k := 30) (i := 0) S0 hw (As := [.int v1]) (rest := []) (wX7_holds l D Y ad F 0 v1 σ) qyX7_holds kw_814 ⟨Nat.le_of_ble_eq_true rfl, Nat.le_of_ble_eq_true rfl⟩ (show 0 < 6 by decide) rfl rfl rfl rfl hl.1 (Nat.le_of_ble_eq_true rfl) dX8_trySet_10 ⟨Nat.le_refl _, Nat.le_refl _⟩ rfl hf (fun v3 s2 H locs hw hf => ?_)
  refine lv_if_ne (tgt := 18) S0.1 S0.2.1 dX8_trySet_13 (by decide) (fun c4 => ?_) (fun c4 => ?_)
  · replace hf := q_neg c4 hf
    refine lv_aload_n S0.1 S0.2.1 dX8_trySet_18 rfl (lv_at hl 1 rfl) ?_
    refine gX8_truth S0 hw kw_229 dX8_trySet_19 ?_
    refine lv_iload_n S0.1 S0.2.1 dX8_trySet_22 rfl (lv_at hl 0 rfl) ?_
    refine lv_aload_n S0.1 S0.2.1 dX8_trySet_23 rfl (lv_at hl 2 rfl) ?_
    obtain ⟨hd, hf⟩ := gnl_some hf
    refine gX6_person S0 hw hd kw_471 dX8_trySet_24 hf (fun v5 hf => ?_)
    refine q_calli (k := 30) (i := 0) S0 hw (As := [.int v1, .int v5]) (rest := []) (wX7_mayWrite l D Y ad F 0 v1 v5 s2) qyX7_mayWrite kw_818 ⟨Nat.le_of_ble_eq_true rfl, Nat.le_of_ble_eq_true rfl⟩ (show 0 < 6 by decide) rfl rfl rfl rfl hl.1 (Nat.le_of_ble_eq_true rfl) dX8_trySet_27 ⟨Nat.le_refl _, Nat.le_refl _⟩ rfl hf (fun v7 s6 H locs hw hf => ?_)
    refine lv_if_ne (tgt := 36) S0.1 S0.2.1 dX8_trySet_30 (by decide) (fun c8 => ?_) (fun c8 => ?_)
    · replace hf := q_neg c8 hf
      refine lv_aload_n S0.1 S0.2.1 dX8_trySet_36 rfl (lv_at hl 1 rfl) ?_
      refine gX8_truth S0 hw kw_229 dX8_trySet_37 ?_
      refine lv_iload_n S0.1 S0.2.1 dX8_trySet_40 rfl (lv_at hl 0 rfl) ?_
      refine lv_aload_n S0.1 S0.2.1 dX8_trySet_41 rfl (lv_at hl 3 rfl) ?_
      obtain ⟨hd, hf⟩ := gnl_some hf
      refine gX0_version S0 hw hd kw_184 dX8_trySet_42 hf (fun v9 hf => ?_)
      refine q_calli (k := 30) (i := 0) S0 hw (As := [.int v1, .int v9]) (rest := []) (wX7_hasVersion l D Y ad F 0 v1 v9 s6) qyX7_hasVersion kw_843 ⟨Nat.le_of_ble_eq_true rfl, Nat.le_of_ble_eq_true rfl⟩ (show 0 < 6 by decide) rfl rfl rfl rfl hl.1 (Nat.le_of_ble_eq_true rfl) dX8_trySet_45 ⟨Nat.le_refl _, Nat.le_refl _⟩ rfl hf (fun v11 s10 H locs hw hf => ?_)
      refine lv_if_ne (tgt := 54) S0.1 S0.2.1 dX8_trySet_48 (by decide) (fun c12 => ?_) (fun c12 => ?_)
      · replace hf := q_neg c12 hf
        refine lv_aload_n S0.1 S0.2.1 dX8_trySet_54 rfl (lv_at hl 1 rfl) ?_
        refine lv_iconst (v := 1) S0.1 S0.2.1 dX8_trySet_55 (by decide) ?_
        refine lv_iload_n S0.1 S0.2.1 dX8_trySet_56 rfl (lv_at hl 0 rfl) ?_
        refine lv_aload_n S0.1 S0.2.1 dX8_trySet_57 rfl (lv_at hl 3 rfl) ?_
        obtain ⟨hd, hf⟩ := gnl_some hf
        refine gX0_number S0 hw hd kw_182 dX8_trySet_58 hf (fun v13 hf => ?_)
        refine q_callv S0 hw (As := [.int 1, .int v1, .int v13]) (rest := []) (wX8_record l D Y ad F 1 v1 v13 s10) qyX8_record kw_643 ⟨Nat.le_of_ble_eq_true rfl, Nat.le_of_ble_eq_true rfl⟩ dC_0 rfl rfl rfl rfl hl.1 (Nat.le_of_ble_eq_true rfl) dX8_trySet_61 ⟨Nat.le_refl _, Nat.le_refl _⟩ rfl hf (fun s14 H locs hw hf => ?_)
        refine lv_aload_n S0.1 S0.2.1 dX8_trySet_64 rfl (lv_at hl 1 rfl) ?_
        refine gX8_truth S0 hw kw_229 dX8_trySet_65 ?_
        refine gX7_valueVersion S0 hw (show 0 < 6 by decide) kw_84 dX8_trySet_68 ?_
        refine lv_iload_n S0.1 S0.2.1 dX8_trySet_71 rfl (lv_at hl 0 rfl) ?_
        refine q_iald (k := 33) (i := 0) S0 hw (show 0 < 6 by decide) (t0 := 0) rfl rfl dX8_trySet_72 hf (fun v15 hf => ?_)
        exact hret dX8_trySet_73 hw hf
      · replace hf := q_pos c12 hf
        refine lv_bipush (v := (-3)) S0.1 S0.2.1 dX8_trySet_51 (by decide) ?_
        exact hret dX8_trySet_53 hw hf
    · replace hf := q_pos c8 hf
      refine lv_bipush (v := (-2)) S0.1 S0.2.1 dX8_trySet_33 (by decide) ?_
      exact hret dX8_trySet_35 hw hf
  · replace hf := q_pos c4 hf
    refine lv_iconst (v := (-1)) S0.1 S0.2.1 dX8_trySet_16 (by decide) ?_
    exact hret dX8_trySet_17 hw hf
theorem qyX8_perform : qY yX8_perform RX8 cX8_perform 3 (some .int) 2 := ⟨⟨kw_808, kp_24, kw_1, kw_809⟩, rfl, by decide, by decide, by decide +kernel⟩
def fX8_perform_72 (F : Nat) (i1 : Nat) (i2 : Nat) (σ : qS) : Option (Int32 × qS) :=
  bnd2 (fX8_tryRights F i1 i2 σ) fun v13 s12 => (some (v13, s12))
def fX8_perform (F : Nat) (i1 : Nat) (i2 : Nat) (σ : qS) : Option (Int32 × qS) :=
  gnl i2 (1 + 6 * σ.2 0 0) (nm (σ.1 56 i2 0) fun v1 => (if v1 = 0 then (bnd2 (fX8_tryMake F i1 i2 σ) fun v4 s3 => (some (v4, s3))) else (if v1 = 1 then (bnd2 (fX8_trySet F i1 i2 σ) fun v7 s6 => (some (v7, s6))) else (if v1 = 2 then (bnd2 (fX8_tryDelete F i1 i2 σ) fun v10 s9 => (some (v10, s9))) else (if v1 = 3 then (fX8_perform_72 F i1 i2 σ) else (if v1 = 4 then (fX8_perform_72 F i1 i2 σ) else (if v1 = 5 then (bnd2 (fX8_tryCheck F i1 i2 σ) fun v17 s16 => (some (v17, s16))) else (fX8_perform_72 F i1 i2 σ))))))))
set_option maxRecDepth 100000 in
set_option maxHeartbeats 4000000 in
theorem wX8_perform (l : Launch) (D : va_G) (Y : Nat → ClassId) (ad : qAd) (F : Nat) (i1 : Nat) (i2 : Nat) (σ : qS) : qCi l yX8_perform cX8_perform 3 (some .int) 5 117 D (cL Y) (qT Y) ad [.ref (ad 0 0), .ref (ad 50 i1), .ref (ad 56 i2)] σ (fX8_perform F i1 i2 σ) := by
  refine q_ofi (by decide) (Nat.le_of_ble_eq_true rfl) "Leasehall" rfl (fun p e s m below meth c A Q r0 S0 hf hw hret ls hl => ?_)
  replace hl : lv_has ls 3 [(0, .ref (ad 0 0)), (1, .ref (ad 50 i1)), (2, .ref (ad 56 i2))] := hl
  unfold fX8_perform at hf
  have b72 : ∀ (σ : qS), fX8_perform_72 F i1 i2 σ = some r0 → qAt p l e (qRm 5 117) s m ([.ref (ad 0 0), .ref (ad 50 i1), .ref (ad 56 i2)] : List Value).toArray below meth c Q D (cL Y) (qT Y) A ad 3 0 0 72 [(0, .ref (ad 0 0)), (1, .ref (ad 50 i1)), (2, .ref (ad 56 i2))] [] σ := by
    clear hf hw hl ls
    intro σ hf H locs ls hw hl
    unfold fX8_perform_72 at hf
    refine lv_aload_n S0.1 S0.2.1 dX8_perform_72 rfl (lv_at hl 0 rfl) ?_
    refine lv_aload_n S0.1 S0.2.1 dX8_perform_73 rfl (lv_at hl 1 rfl) ?_
    refine lv_aload_n S0.1 S0.2.1 dX8_perform_74 rfl (lv_at hl 2 rfl) ?_
    refine q_calli S0 hw (As := [.ref (ad 50 i1), .ref (ad 56 i2)]) (rest := []) (wX8_tryRights l D Y ad F i1 i2 σ) qyX8_tryRights kw_865 ⟨Nat.le_of_ble_eq_true rfl, Nat.le_of_ble_eq_true rfl⟩ dC_0 rfl rfl rfl rfl hl.1 (Nat.le_of_ble_eq_true rfl) dX8_perform_75 ⟨Nat.le_refl _, Nat.le_refl _⟩ rfl hf (fun v13 s12 H locs hw hf => ?_)
    exact hret dX8_perform_78 hw hf
  refine lv_aload_n S0.1 S0.2.1 dX8_perform_0 rfl (lv_at hl 2 rfl) ?_
  obtain ⟨hd, hf⟩ := gnl_some hf
  refine gX0_kind S0 hw hd kw_175 dX8_perform_1 hf (fun v1 hf => ?_)
  by_cases c2 : v1 = 0
  · replace hf := q_pos c2 hf
    refine lv_tableIn (tgt := 44) S0.1 S0.2.1 dX8_perform_4 (by rw [c2]; decide) (by rw [c2]; decide) (by rw [c2]; rfl) (by decide) ?_
    refine lv_aload_n S0.1 S0.2.1 dX8_perform_44 rfl (lv_at hl 0 rfl) ?_
    refine lv_aload_n S0.1 S0.2.1 dX8_perform_45 rfl (lv_at hl 1 rfl) ?_
    refine lv_aload_n S0.1 S0.2.1 dX8_perform_46 rfl (lv_at hl 2 rfl) ?_
    refine q_calli S0 hw (As := [.ref (ad 50 i1), .ref (ad 56 i2)]) (rest := []) (wX8_tryMake l D Y ad F i1 i2 σ) qyX8_tryMake kw_810 ⟨Nat.le_of_ble_eq_true rfl, Nat.le_of_ble_eq_true rfl⟩ dC_0 rfl rfl rfl rfl hl.1 (Nat.le_of_ble_eq_true rfl) dX8_perform_47 ⟨Nat.le_refl _, Nat.le_refl _⟩ rfl hf (fun v4 s3 H locs hw hf => ?_)
    exact hret dX8_perform_50 hw hf
  · replace hf := q_neg c2 hf
    by_cases c5 : v1 = 1
    · replace hf := q_pos c5 hf
      refine lv_tableIn (tgt := 51) S0.1 S0.2.1 dX8_perform_4 (by rw [c5]; decide) (by rw [c5]; decide) (by rw [c5]; rfl) (by decide) ?_
      refine lv_aload_n S0.1 S0.2.1 dX8_perform_51 rfl (lv_at hl 0 rfl) ?_
      refine lv_aload_n S0.1 S0.2.1 dX8_perform_52 rfl (lv_at hl 1 rfl) ?_
      refine lv_aload_n S0.1 S0.2.1 dX8_perform_53 rfl (lv_at hl 2 rfl) ?_
      refine q_calli S0 hw (As := [.ref (ad 50 i1), .ref (ad 56 i2)]) (rest := []) (wX8_trySet l D Y ad F i1 i2 σ) qyX8_trySet kw_839 ⟨Nat.le_of_ble_eq_true rfl, Nat.le_of_ble_eq_true rfl⟩ dC_0 rfl rfl rfl rfl hl.1 (Nat.le_of_ble_eq_true rfl) dX8_perform_54 ⟨Nat.le_refl _, Nat.le_refl _⟩ rfl hf (fun v7 s6 H locs hw hf => ?_)
      exact hret dX8_perform_57 hw hf
    · replace hf := q_neg c5 hf
      by_cases c8 : v1 = 2
      · replace hf := q_pos c8 hf
        refine lv_tableIn (tgt := 58) S0.1 S0.2.1 dX8_perform_4 (by rw [c8]; decide) (by rw [c8]; decide) (by rw [c8]; rfl) (by decide) ?_
        refine lv_aload_n S0.1 S0.2.1 dX8_perform_58 rfl (lv_at hl 0 rfl) ?_
        refine lv_aload_n S0.1 S0.2.1 dX8_perform_59 rfl (lv_at hl 1 rfl) ?_
        refine lv_aload_n S0.1 S0.2.1 dX8_perform_60 rfl (lv_at hl 2 rfl) ?_
        refine q_calli S0 hw (As := [.ref (ad 50 i1), .ref (ad 56 i2)]) (rest := []) (wX8_tryDelete l D Y ad F i1 i2 σ) qyX8_tryDelete kw_847 ⟨Nat.le_of_ble_eq_true rfl, Nat.le_of_ble_eq_true rfl⟩ dC_0 rfl rfl rfl rfl hl.1 (Nat.le_of_ble_eq_true rfl) dX8_perform_61 ⟨Nat.le_refl _, Nat.le_refl _⟩ rfl hf (fun v10 s9 H locs hw hf => ?_)
        exact hret dX8_perform_64 hw hf
      · replace hf := q_neg c8 hf
        by_cases c11 : v1 = 3
        · replace hf := q_pos c11 hf
          refine lv_tableIn (tgt := 72) S0.1 S0.2.1 dX8_perform_4 (by rw [c11]; decide) (by rw [c11]; decide) (by rw [c11]; rfl) (by decide) ?_
          exact b72 σ hf _ _ _ hw (lv_sub hl [0, 1, 2] rfl)
        · replace hf := q_neg c11 hf
          by_cases c14 : v1 = 4
          · replace hf := q_pos c14 hf
            refine lv_tableIn (tgt := 72) S0.1 S0.2.1 dX8_perform_4 (by rw [c14]; decide) (by rw [c14]; decide) (by rw [c14]; rfl) (by decide) ?_
            exact b72 σ hf _ _ _ hw (lv_sub hl [0, 1, 2] rfl)
          · replace hf := q_neg c14 hf
            by_cases c15 : v1 = 5
            · replace hf := q_pos c15 hf
              refine lv_tableIn (tgt := 65) S0.1 S0.2.1 dX8_perform_4 (by rw [c15]; decide) (by rw [c15]; decide) (by rw [c15]; rfl) (by decide) ?_
              refine lv_aload_n S0.1 S0.2.1 dX8_perform_65 rfl (lv_at hl 0 rfl) ?_
              refine lv_aload_n S0.1 S0.2.1 dX8_perform_66 rfl (lv_at hl 1 rfl) ?_
              refine lv_aload_n S0.1 S0.2.1 dX8_perform_67 rfl (lv_at hl 2 rfl) ?_
              refine q_calli S0 hw (As := [.ref (ad 50 i1), .ref (ad 56 i2)]) (rest := []) (wX8_tryCheck l D Y ad F i1 i2 σ) qyX8_tryCheck kw_851 ⟨Nat.le_of_ble_eq_true rfl, Nat.le_of_ble_eq_true rfl⟩ dC_0 rfl rfl rfl rfl hl.1 (Nat.le_of_ble_eq_true rfl) dX8_perform_68 ⟨Nat.le_refl _, Nat.le_refl _⟩ rfl hf (fun v17 s16 H locs hw hf => ?_)
              exact hret dX8_perform_71 hw hf
            · replace hf := q_neg c15 hf
              refine lv_tableOut (tgt := 72) S0.1 S0.2.1 dX8_perform_4 (by have hc2 := lv_neT c2 (a := 0) (by decide); have hc5 := lv_neT c5 (a := 1) (by decide); have hc8 := lv_neT c8 (a := 2) (by decide); have hc11 := lv_neT c11 (a := 3) (by decide); have hc14 := lv_neT c14 (a := 4) (by decide); have hc15 := lv_neT c15 (a := 5) (by decide); omega) (by decide) ?_
              exact b72 σ hf _ _ _ hw (lv_sub hl [0, 1, 2] rfl)
theorem qyX8_undo : qY yX8_undo RX8 cX8_undo 1 none 0 := ⟨⟨kw_875, kp_32, kw_1, kw_876⟩, rfl, by decide, by decide, by decide +kernel⟩
def fX8_undo (F : Nat) (σ : qS) : Option qS :=
  bnd (fX7_copyFrom F 0 3 σ) fun s1 => (nm (s1.1 0 0 13) fun v2 => (nm (qI s1 1 0 5 v2) fun s3 => (inx 3 0 (nm (0 : Int32).toNatClampNeg fun i4 => (gnl i4 3 (nm (s3.1 8 i4 2) fun v5 => (nm (qI s3 9 0 4 v5) fun s6 => (some s6))))))))
set_option maxRecDepth 100000 in
set_option maxHeartbeats 4000000 in
theorem wX8_undo (l : Launch) (D : va_G) (Y : Nat → ClassId) (ad : qAd) (F : Nat) (σ : qS) : qCv l yX8_undo cX8_undo 1 none 1 22 D (cL Y) (qT Y) ad [.ref (ad 0 0)] σ (fX8_undo F σ) := by
  refine q_ofv (by decide) (Nat.le_of_ble_eq_true rfl) "Leasehall" rfl (fun p e s m below meth c A Q r0 S0 hf hw hret ls hl => ?_)
  replace hl : lv_has ls 1 [(0, .ref (ad 0 0))] := hl
  unfold fX8_undo at hf
  refine lv_aload_n S0.1 S0.2.1 dX8_undo_0 rfl (lv_at hl 0 rfl) ?_
  refine gX8_truth S0 hw kw_229 dX8_undo_1 ?_
  refine lv_aload_n S0.1 S0.2.1 dX8_undo_4 rfl (lv_at hl 0 rfl) ?_
  refine gX8_before S0 hw kw_230 dX8_undo_5 ?_
  refine q_callv (k := 30) (i := 0) S0 hw (As := [.ref (ad 30 3)]) (rest := []) (wX7_copyFrom l D Y ad F 0 3 σ) qyX7_copyFrom kw_307 ⟨Nat.le_of_ble_eq_true rfl, Nat.le_of_ble_eq_true rfl⟩ (show 0 < 6 by decide) rfl rfl rfl rfl hl.1 (Nat.le_of_ble_eq_true rfl) dX8_undo_8 ⟨Nat.le_refl _, Nat.le_refl _⟩ rfl hf (fun s1 H locs hw hf => ?_)
  refine lv_aload_n S0.1 S0.2.1 dX8_undo_11 rfl (lv_at hl 0 rfl) ?_
  refine gX8_births S0 hw kw_227 dX8_undo_12 ?_
  refine lv_aload_n S0.1 S0.2.1 dX8_undo_15 rfl (lv_at hl 0 rfl) ?_
  refine gX8_madeBefore S0 hw kw_240 dX8_undo_16 hf (fun v2 hf => ?_)
  refine pX1_made S0 hw kw_55 dX8_undo_19 hf (fun s3 H locs hw hf => ?_)
  refine lv_aload_n S0.1 S0.2.1 dX8_undo_22 rfl (lv_at hl 0 rfl) ?_
  refine gX8_log S0 hw kw_232 dX8_undo_23 ?_
  refine lv_aload_n S0.1 S0.2.1 dX8_undo_26 rfl (lv_at hl 0 rfl) ?_
  refine gX8_servers S0 hw kw_228 dX8_undo_27 ?_
  refine lv_iconst (v := 0) S0.1 S0.2.1 dX8_undo_30 (by decide) ?_
  refine q_aldn S0 hw dC_7 (t0 := 3) rfl rfl (fun _ => rfl) dX8_undo_31 hf (fun i4 hf => ?_)
  obtain ⟨hd, hf⟩ := gnl_some hf
  refine gX5_steps S0 hw hd kw_216 dX8_undo_32 hf (fun v5 hf => ?_)
  refine pX3_size S0 hw kw_130 dX8_undo_35 hf (fun s6 H locs hw hf => ?_)
  exact hret dX8_undo_38 hw hf
theorem qyX8_settle : qY yX8_settle RX8 cX8_settle 3 (some .boolean) 1 := ⟨⟨kw_871, kp_31, kw_1, kw_872⟩, rfl, by decide, by decide, by decide +kernel⟩
def fX8_settle_47 (F : Nat) (i1 : Nat) (t0 : Int32) (σ : qS) : Option (Int32 × qS) :=
  gbl t0 (some (t0, σ))
def fX8_settle (F : Nat) (i1 : Nat) (σ : qS) : Option (Int32 × qS) :=
  nm (σ.1 0 0 17) fun v1 => (nm (qI σ 0 0 17 0) fun s2 => (if v1 = 2 then (bnd (fX8_undo F s2) fun s10 => (gbl 0 (some (0, s10)))) else (bnd (fX8_commit F s2) fun s4 => (gnl i1 (s4.2 0 0) (nm (s4.2 2 i1) fun i5 => (nm (s4.1 0 0 15) fun v6 => (bnd2 (fX8_catchUp F i5 v6 s4) fun v8 s7 => (if v1 = 0 then (fX8_settle_47 F i1 1 s7) else (fX8_settle_47 F i1 0 s7)))))))))
set_option maxRecDepth 100000 in
set_option maxHeartbeats 4000000 in
theorem wX8_settle (l : Launch) (D : va_G) (Y : Nat → ClassId) (ad : qAd) (F : Nat) (i1 : Nat) (σ : qS) : qCi l yX8_settle cX8_settle 3 (some .boolean) 3 72 D (cL Y) (qT Y) ad [.ref (ad 0 0), .ref (ad 50 i1)] σ (fX8_settle F i1 σ) := by
  refine q_ofz (by decide) (Nat.le_of_ble_eq_true rfl) "Leasehall" rfl (fun p e s m below meth c A Q r0 S0 hf hw hret ls hl => ?_)
  replace hl : lv_has ls 3 [(0, .ref (ad 0 0)), (1, .ref (ad 50 i1))] := hl
  unfold fX8_settle at hf
  have b47 : ∀ (t0 : Int32) (σ : qS), fX8_settle_47 F i1 t0 σ = some r0 → qAt p l e (qRm 3 72) s m ([.ref (ad 0 0), .ref (ad 50 i1)] : List Value).toArray below meth c Q D (cL Y) (qT Y) A ad 3 0 0 47 [] [.int t0] σ := by
    clear hf hw hl ls
    intro t0 σ hf H locs ls hw hl
    unfold fX8_settle_47 at hf
    exact hret dX8_settle_47 hw hf
  refine lv_aload_n S0.1 S0.2.1 dX8_settle_0 rfl (lv_at hl 0 rfl) ?_
  refine gX8_losing S0 hw kw_244 dX8_settle_1 hf (fun v1 hf => ?_)
  refine lv_istore_n (lv' := [(2, .int v1), (0, .ref (ad 0 0)), (1, .ref (ad 50 i1))]) S0.1 S0.2.1 dX8_settle_4 rfl hl (by decide) rfl (fun ls hl => ?_)
  refine lv_aload_n S0.1 S0.2.1 dX8_settle_5 rfl (lv_at hl 1 rfl) ?_
  refine lv_iconst (v := 0) S0.1 S0.2.1 dX8_settle_6 (by decide) ?_
  refine pX8_losing S0 hw kw_244 dX8_settle_7 hf (fun s2 H locs hw hf => ?_)
  refine lv_iload_n S0.1 S0.2.1 dX8_settle_10 rfl (lv_at hl 0 rfl) ?_
  refine lv_iconst (v := 2) S0.1 S0.2.1 dX8_settle_11 (by decide) ?_
  refine lv_icmp_ne (tgt := 21) S0.1 S0.2.1 dX8_settle_12 (by decide) (fun c3 => ?_) (fun c3 => ?_)
  · replace hf := q_neg c3 hf
    refine lv_aload_n S0.1 S0.2.1 dX8_settle_21 rfl (lv_at hl 1 rfl) ?_
    refine q_callv S0 hw (As := []) (rest := []) (wX8_commit l D Y ad F s2) qyX8_commit kw_671 ⟨Nat.le_of_ble_eq_true rfl, Nat.le_of_ble_eq_true rfl⟩ dC_0 rfl rfl rfl rfl hl.1 (Nat.le_of_ble_eq_true rfl) dX8_settle_22 ⟨Nat.le_refl _, Nat.le_refl _⟩ rfl hf (fun s4 H locs hw hf => ?_)
    refine lv_aload_n S0.1 S0.2.1 dX8_settle_25 rfl (lv_at hl 1 rfl) ?_
    refine lv_aload_n S0.1 S0.2.1 dX8_settle_26 rfl (lv_at hl 2 rfl) ?_
    obtain ⟨hd, hf⟩ := gnl_some hf
    refine gX6_server S0 hw hd kw_483 dX8_settle_27 hf (fun i5 hf => ?_)
    refine lv_aload_n S0.1 S0.2.1 dX8_settle_30 rfl (lv_at hl 1 rfl) ?_
    refine gX8_lastChange S0 hw kw_242 dX8_settle_31 hf (fun v6 hf => ?_)
    refine q_calli S0 hw (As := [.ref (ad 8 i5), .int v6]) (rest := []) (wX8_catchUp l D Y ad F i5 v6 s4) qyX8_catchUp kw_700 ⟨Nat.le_of_ble_eq_true rfl, Nat.le_of_ble_eq_true rfl⟩ dC_0 rfl rfl rfl rfl hl.1 (Nat.le_of_ble_eq_true rfl) dX8_settle_34 ⟨Nat.le_refl _, Nat.le_refl _⟩ rfl hf (fun v8 s7 H locs hw hf => ?_)
    refine lv_pop S0.1 S0.2.1 dX8_settle_37 rfl ?_
    refine lv_iload_n S0.1 S0.2.1 dX8_settle_38 rfl (lv_at hl 0 rfl) ?_
    refine lv_if_ne (tgt := 46) S0.1 S0.2.1 dX8_settle_39 (by decide) (fun c9 => ?_) (fun c9 => ?_)
    · replace hf := q_neg c9 hf
      refine lv_iconst (v := 0) S0.1 S0.2.1 dX8_settle_46 (by decide) ?_
      exact b47 0 s7 hf _ _ _ hw (lv_sub hl [] rfl)
    · replace hf := q_pos c9 hf
      refine lv_iconst (v := 1) S0.1 S0.2.1 dX8_settle_42 (by decide) ?_
      refine lv_goto (tgt := 47) S0.1 S0.2.1 dX8_settle_43 (by decide) ?_
      exact b47 1 s7 hf _ _ _ hw (lv_sub hl [] rfl)
  · replace hf := q_pos c3 hf
    refine lv_aload_n S0.1 S0.2.1 dX8_settle_15 rfl (lv_at hl 1 rfl) ?_
    refine q_callv S0 hw (As := []) (rest := []) (wX8_undo l D Y ad F s2) qyX8_undo kw_873 ⟨Nat.le_of_ble_eq_true rfl, Nat.le_of_ble_eq_true rfl⟩ dC_0 rfl rfl rfl rfl hl.1 (Nat.le_of_ble_eq_true rfl) dX8_settle_16 ⟨Nat.le_refl _, Nat.le_refl _⟩ rfl hf (fun s10 H locs hw hf => ?_)
    refine lv_iconst (v := 0) S0.1 S0.2.1 dX8_settle_19 (by decide) ?_
    exact hret dX8_settle_20 hw hf
theorem qyX8_submit : qY yX8_submit RX8 cX8_submit 4 (some .int) 2 := ⟨⟨kw_800, kp_22, kw_1, kw_801⟩, rfl, by decide, by decide, by decide +kernel⟩
def fX8_submit_51 (F : Nat) (i1 : Nat) (i2 : Nat) (t0 : Int32) (σ : qS) : Option (Int32 × qS) :=
  some (t0, σ)
def fX8_submit (F : Nat) (i1 : Nat) (i2 : Nat) (σ : qS) : Option (Int32 × qS) :=
  gnl i1 (σ.2 0 0) (nm (σ.1 50 i1 14) fun v1 => (if v1 = 0 then (bnd (fX8_begin F σ) fun s3 => (bnd2 (fX8_perform F i1 i2 s3) fun v5 s4 => (if 0 ≤ v5 then (bnd2 (fX8_settle F i1 s4) fun v8 s7 => (if v8 = 0 then (fX8_submit_51 F i1 i2 ((-9)) s7) else (fX8_submit_51 F i1 i2 v5 s7))) else (some (v5, s4))))) else (gnl i1 (σ.2 0 0) (nm (σ.1 50 i1 12) fun v10 => (nm (v10 + 1) fun v11 => (gnl i1 (σ.2 0 0) (nm (qI σ 50 i1 12 v11) fun s12 => (some ((-11), s12)))))))))
set_option maxRecDepth 100000 in
set_option maxHeartbeats 4000000 in
theorem wX8_submit (l : Launch) (D : va_G) (Y : Nat → ClassId) (ad : qAd) (F : Nat) (i1 : Nat) (i2 : Nat) (σ : qS) : qCi l yX8_submit cX8_submit 4 (some .int) 6 139 D (cL Y) (qT Y) ad [.ref (ad 0 0), .ref (ad 50 i1), .ref (ad 56 i2)] σ (fX8_submit F i1 i2 σ) := by
  refine q_ofi (by decide) (Nat.le_of_ble_eq_true rfl) "Leasehall" rfl (fun p e s m below meth c A Q r0 S0 hf hw hret ls hl => ?_)
  replace hl : lv_has ls 4 [(0, .ref (ad 0 0)), (1, .ref (ad 50 i1)), (2, .ref (ad 56 i2))] := hl
  unfold fX8_submit at hf
  have b51 : ∀ (t0 : Int32) (σ : qS), fX8_submit_51 F i1 i2 t0 σ = some r0 → qAt p l e (qRm 6 139) s m ([.ref (ad 0 0), .ref (ad 50 i1), .ref (ad 56 i2)] : List Value).toArray below meth c Q D (cL Y) (qT Y) A ad 4 0 0 51 [] [.int t0] σ := by
    clear hf hw hl ls
    intro t0 σ hf H locs ls hw hl
    unfold fX8_submit_51 at hf
    exact hret dX8_submit_51 hw hf
  refine lv_aload_n S0.1 S0.2.1 dX8_submit_0 rfl (lv_at hl 1 rfl) ?_
  obtain ⟨hd, hf⟩ := gnl_some hf
  refine gX6_gathers S0 hw hd kw_495 dX8_submit_1 hf (fun v1 hf => ?_)
  refine lv_if_eq (tgt := 20) S0.1 S0.2.1 dX8_submit_4 (by decide) (fun c2 => ?_) (fun c2 => ?_)
  · replace hf := q_pos c2 hf
    refine lv_aload_n S0.1 S0.2.1 dX8_submit_20 rfl (lv_at hl 0 rfl) ?_
    refine q_callv S0 hw (As := []) (rest := []) (wX8_begin l D Y ad F σ) qyX8_begin kw_802 ⟨Nat.le_of_ble_eq_true rfl, Nat.le_of_ble_eq_true rfl⟩ dC_0 rfl rfl rfl rfl hl.1 (Nat.le_of_ble_eq_true rfl) dX8_submit_21 ⟨Nat.le_refl _, Nat.le_refl _⟩ rfl hf (fun s3 H locs hw hf => ?_)
    refine lv_aload_n S0.1 S0.2.1 dX8_submit_24 rfl (lv_at hl 0 rfl) ?_
    refine lv_aload_n S0.1 S0.2.1 dX8_submit_25 rfl (lv_at hl 1 rfl) ?_
    refine lv_aload_n S0.1 S0.2.1 dX8_submit_26 rfl (lv_at hl 2 rfl) ?_
    refine q_calli S0 hw (As := [.ref (ad 50 i1), .ref (ad 56 i2)]) (rest := []) (wX8_perform l D Y ad F i1 i2 s3) qyX8_perform kw_806 ⟨Nat.le_of_ble_eq_true rfl, Nat.le_of_ble_eq_true rfl⟩ dC_0 rfl rfl rfl rfl hl.1 (Nat.le_of_ble_eq_true rfl) dX8_submit_27 ⟨Nat.le_refl _, Nat.le_refl _⟩ rfl hf (fun v5 s4 H locs hw hf => ?_)
    refine lv_istore_n (lv' := [(3, .int v5), (0, .ref (ad 0 0)), (1, .ref (ad 50 i1)), (2, .ref (ad 56 i2))]) S0.1 S0.2.1 dX8_submit_30 rfl hl (by decide) rfl (fun ls hl => ?_)
    refine lv_iload_n S0.1 S0.2.1 dX8_submit_31 rfl (lv_at hl 0 rfl) ?_
    refine lv_if_ge (tgt := 37) S0.1 S0.2.1 dX8_submit_32 (by decide) (fun c6 => ?_) (fun c6 => ?_)
    · replace hf := q_pos c6 hf
      refine lv_aload_n S0.1 S0.2.1 dX8_submit_37 rfl (lv_at hl 1 rfl) ?_
      refine lv_aload_n S0.1 S0.2.1 dX8_submit_38 rfl (lv_at hl 2 rfl) ?_
      refine q_calli S0 hw (As := [.ref (ad 50 i1)]) (rest := []) (wX8_settle l D Y ad F i1 s4) qyX8_settle kw_869 ⟨Nat.le_of_ble_eq_true rfl, Nat.le_of_ble_eq_true rfl⟩ dC_0 rfl rfl rfl rfl hl.1 (Nat.le_of_ble_eq_true rfl) dX8_submit_39 ⟨Nat.le_refl _, Nat.le_refl _⟩ rfl hf (fun v8 s7 H locs hw hf => ?_)
      refine lv_if_eq (tgt := 49) S0.1 S0.2.1 dX8_submit_42 (by decide) (fun c9 => ?_) (fun c9 => ?_)
      · replace hf := q_pos c9 hf
        refine lv_bipush (v := (-9)) S0.1 S0.2.1 dX8_submit_49 (by decide) ?_
        exact b51 ((-9)) s7 hf _ _ _ hw (lv_sub hl [] rfl)
      · replace hf := q_neg c9 hf
        refine lv_iload_n S0.1 S0.2.1 dX8_submit_45 rfl (lv_at hl 0 rfl) ?_
        refine lv_goto (tgt := 51) S0.1 S0.2.1 dX8_submit_46 (by decide) ?_
        exact b51 v5 s7 hf _ _ _ hw (lv_sub hl [] rfl)
    · replace hf := q_neg c6 hf
      refine lv_iload_n S0.1 S0.2.1 dX8_submit_35 rfl (lv_at hl 0 rfl) ?_
      exact hret dX8_submit_36 hw hf
  · replace hf := q_neg c2 hf
    refine lv_aload_n S0.1 S0.2.1 dX8_submit_7 rfl (lv_at hl 1 rfl) ?_
    refine lv_dup S0.1 S0.2.1 dX8_submit_8 rfl ?_
    obtain ⟨hd, hf⟩ := gnl_some hf
    refine gX6_gathered S0 hw hd kw_491 dX8_submit_9 hf (fun v10 hf => ?_)
    refine lv_iconst (v := 1) S0.1 S0.2.1 dX8_submit_12 (by decide) ?_
    refine lv_iadd S0.1 S0.2.1 dX8_submit_13 (q_top hf (fun v11 hf => ?_))
    obtain ⟨hd, hf⟩ := gnl_some hf
    refine pX6_gathered S0 hw hd kw_491 dX8_submit_14 hf (fun s12 H locs hw hf => ?_)
    refine lv_bipush (v := (-11)) S0.1 S0.2.1 dX8_submit_17 (by decide) ?_
    exact hret dX8_submit_19 hw hf
theorem qyX8_performAll : qY yX8_performAll RX8 cX8_performAll 4 (some .int) 1 := ⟨⟨kw_928, kp_33, kw_1, kw_929⟩, rfl, by decide, by decide, by decide +kernel⟩
def fX8_performAll_77 (F : Nat) (i1 : Nat) (x2 : Int32) (σ : qS) : Option (Int32 × qS) :=
  some (x2, σ)
def fX8_performAll_71 (F : Nat) (i1 : Nat) (k16 : Int32 → Int32 → qS → Option (Int32 × qS)) (x2 : Int32) (x3 : Int32) (σ : qS) : Option (Int32 × qS) :=
  nm (x3 + 1) fun v13 => (k16 x2 v13 σ)
def fX8_performAll_55 (F : Nat) (i1 : Nat) (k16 : Int32 → Int32 → qS → Option (Int32 × qS)) (x2 : Int32) (x3 : Int32) (t1 : Int32) (t2 : Int32) (σ : qS) : Option (Int32 × qS) :=
  gnl i1 (σ.2 0 0) (inx 6 t1 (nm (qI σ 52 i1 t1.toNatClampNeg t2) fun s11 => (if 0 ≤ x2 then (fX8_performAll_71 F i1 k16 x2 x3 s11) else (gnl i1 (s11.2 0 0) (gnl i1 (s11.2 0 0) (ldi 6 (s11.1 52 i1) x3 fun v14 => (if 0 ≤ v14 then (fX8_performAll_71 F i1 k16 x2 x3 s11) else (fX8_performAll_71 F i1 k16 x3 x3 s11))))))))
def fX8_performAll_16 (F : Nat) (i1 : Nat) : Nat → Int32 → Int32 → qS → Option (Int32 × qS)
  | 0, _, _, _ => none
  | n + 1, x2, x3, σ =>
  gnl i1 (σ.2 0 0) (nm (σ.1 50 i1 12) fun v4 => (if v4 ≤ x3 then (fX8_performAll_77 F i1 x2 σ) else (if 6 ≤ x3 then (fX8_performAll_77 F i1 x2 σ) else (gnl i1 (σ.2 0 0) (if x2 < 0 then (gnl i1 (σ.2 0 0) (gnl i1 (σ.2 0 0) (inx 6 x3 (nm x3.toNatClampNeg fun i8 => (bnd2 (fX8_perform F i1 (1 + 6 * i1 + i8) σ) fun v10 s9 => (fX8_performAll_55 F i1 (fX8_performAll_16 F i1 n) x2 x3 x3 v10 s9)))))) else (fX8_performAll_55 F i1 (fX8_performAll_16 F i1 n) x2 x3 x3 ((-10)) σ))))))
def fX8_performAll (F : Nat) (i1 : Nat) (σ : qS) : Option (Int32 × qS) :=
  bnd (fX8_begin F σ) fun s1 => (gnl i1 (s1.2 0 0) (nm (s1.1 50 i1 12) fun v2 => (gnl i1 (s1.2 0 0) (nm (qI s1 50 i1 13 v2) fun s3 => (fX8_performAll_16 F i1 F ((-1)) 0 s3)))))
set_option maxRecDepth 100000 in
set_option maxHeartbeats 4000000 in
theorem wX8_performAll (l : Launch) (D : va_G) (Y : Nat → ClassId) (ad : qAd) (F : Nat) (i1 : Nat) (σ : qS) : qCi l yX8_performAll cX8_performAll 4 (some .int) 6 139 D (cL Y) (qT Y) ad [.ref (ad 0 0), .ref (ad 50 i1)] σ (fX8_performAll F i1 σ) := by
  refine q_ofi (by decide) (Nat.le_of_ble_eq_true rfl) "Leasehall" rfl (fun p e s m below meth c A Q r0 S0 hf hw hret ls hl => ?_)
  replace hl : lv_has ls 4 [(0, .ref (ad 0 0)), (1, .ref (ad 50 i1))] := hl
  unfold fX8_performAll at hf
  have b77 : ∀ (x2 : Int32) (σ : qS), fX8_performAll_77 F i1 x2 σ = some r0 → qAt p l e (qRm 6 139) s m ([.ref (ad 0 0), .ref (ad 50 i1)] : List Value).toArray below meth c Q D (cL Y) (qT Y) A ad 4 0 0 77 [(2, .int x2)] [] σ := by
    clear hf hw hl ls
    intro x2 σ hf H locs ls hw hl
    unfold fX8_performAll_77 at hf
    refine lv_iload_n S0.1 S0.2.1 dX8_performAll_77 rfl (lv_at hl 0 rfl) ?_
    exact hret dX8_performAll_78 hw hf
  have b71 : ∀ (k16 : Int32 → Int32 → qS → Option (Int32 × qS)) (hk16 : ∀ (x2 : Int32) (x3 : Int32) (σ : qS), k16 x2 x3 σ = some r0 → qAt p l e (qRm 6 139) s m ([.ref (ad 0 0), .ref (ad 50 i1)] : List Value).toArray below meth c Q D (cL Y) (qT Y) A ad 4 0 0 16 [(0, .ref (ad 0 0)), (1, .ref (ad 50 i1)), (2, .int x2), (3, .int x3)] [] σ) (x2 : Int32) (x3 : Int32) (σ : qS), fX8_performAll_71 F i1 k16 x2 x3 σ = some r0 → qAt p l e (qRm 6 139) s m ([.ref (ad 0 0), .ref (ad 50 i1)] : List Value).toArray below meth c Q D (cL Y) (qT Y) A ad 4 0 0 71 [(0, .ref (ad 0 0)), (1, .ref (ad 50 i1)), (2, .int x2), (3, .int x3)] [] σ := by
    clear hf hw hl ls
    intro k16 hk16
    intro x2 x3 σ hf H locs ls hw hl
    unfold fX8_performAll_71 at hf
    refine q_iinc S0 (v0 := 1) dX8_performAll_71 hl (k := 3) rfl (by decide) (by decide) rfl hf (fun v13 ls hl hf => ?_)
    refine lv_goto (tgt := 16) S0.1 S0.2.1 dX8_performAll_74 (by decide) ?_
    exact hk16 x2 v13 σ hf _ _ _ hw (lv_sub hl [1, 2, 3, 0] rfl)
  have b55 : ∀ (k16 : Int32 → Int32 → qS → Option (Int32 × qS)) (hk16 : ∀ (x2 : Int32) (x3 : Int32) (σ : qS), k16 x2 x3 σ = some r0 → qAt p l e (qRm 6 139) s m ([.ref (ad 0 0), .ref (ad 50 i1)] : List Value).toArray below meth c Q D (cL Y) (qT Y) A ad 4 0 0 16 [(0, .ref (ad 0 0)), (1, .ref (ad 50 i1)), (2, .int x2), (3, .int x3)] [] σ) (x2 : Int32) (x3 : Int32) (t1 : Int32) (t2 : Int32) (σ : qS), fX8_performAll_55 F i1 k16 x2 x3 t1 t2 σ = some r0 → qAt p l e (qRm 6 139) s m ([.ref (ad 0 0), .ref (ad 50 i1)] : List Value).toArray below meth c Q D (cL Y) (qT Y) A ad 4 0 0 55 [(0, .ref (ad 0 0)), (1, .ref (ad 50 i1)), (2, .int x2), (3, .int x3)] [.int t2, .int t1, .ref (ad 52 i1)] σ := by
    clear hf hw hl ls
    intro k16 hk16
    intro x2 x3 t1 t2 σ hf H locs ls hw hl
    unfold fX8_performAll_55 at hf
    obtain ⟨hd, hf⟩ := gnl_some hf
    refine q_iast (k := 52) (i := i1) S0 hw hd (t0 := 0) (fun _ => rfl) rfl dX8_performAll_55 hf (fun s11 H locs hw hf => ?_)
    refine lv_iload_n S0.1 S0.2.1 dX8_performAll_56 rfl (lv_at hl 2 rfl) ?_
    refine lv_if_ge (tgt := 71) S0.1 S0.2.1 dX8_performAll_57 (by decide) (fun c12 => ?_) (fun c12 => ?_)
    · replace hf := q_pos c12 hf
      exact b71 k16 hk16 x2 x3 s11 hf _ _ _ hw (lv_sub hl [0, 1, 2, 3] rfl)
    · replace hf := q_neg c12 hf
      refine lv_aload_n S0.1 S0.2.1 dX8_performAll_60 rfl (lv_at hl 1 rfl) ?_
      obtain ⟨hd, hf⟩ := gnl_some hf
      refine gX6_answers S0 hw hd kw_477 dX8_performAll_61 ?_
      refine lv_iload_n S0.1 S0.2.1 dX8_performAll_64 rfl (lv_at hl 3 rfl) ?_
      obtain ⟨hd, hf⟩ := gnl_some hf
      refine q_iald (k := 52) (i := i1) S0 hw hd (t0 := 0) rfl rfl dX8_performAll_65 hf (fun v14 hf => ?_)
      refine lv_if_ge (tgt := 71) S0.1 S0.2.1 dX8_performAll_66 (by decide) (fun c15 => ?_) (fun c15 => ?_)
      · replace hf := q_pos c15 hf
        exact b71 k16 hk16 x2 x3 s11 hf _ _ _ hw (lv_sub hl [0, 1, 2, 3] rfl)
      · replace hf := q_neg c15 hf
        refine lv_iload_n S0.1 S0.2.1 dX8_performAll_69 rfl (lv_at hl 3 rfl) ?_
        refine lv_istore_n (lv' := [(2, .int x3), (0, .ref (ad 0 0)), (1, .ref (ad 50 i1)), (3, .int x3)]) S0.1 S0.2.1 dX8_performAll_70 rfl hl (by decide) rfl (fun ls hl => ?_)
        exact b71 k16 hk16 x3 x3 s11 hf _ _ _ hw (lv_sub hl [1, 2, 0, 3] rfl)
  have b16 : ∀ (n : Nat) (x2 : Int32) (x3 : Int32) (σ : qS), fX8_performAll_16 F i1 n x2 x3 σ = some r0 → qAt p l e (qRm 6 139) s m ([.ref (ad 0 0), .ref (ad 50 i1)] : List Value).toArray below meth c Q D (cL Y) (qT Y) A ad 4 0 0 16 [(0, .ref (ad 0 0)), (1, .ref (ad 50 i1)), (2, .int x2), (3, .int x3)] [] σ := by
    clear hf hw hl ls
    intro n
    induction n with
    | zero => intro x2 x3 σ hf; exact absurd hf (by rw [fX8_performAll_16]; exact nofun)
    | succ n hk16 =>
      intro x2 x3 σ hf H locs ls hw hl
      rw [fX8_performAll_16] at hf
      refine lv_iload_n S0.1 S0.2.1 dX8_performAll_16 rfl (lv_at hl 3 rfl) ?_
      refine lv_aload_n S0.1 S0.2.1 dX8_performAll_17 rfl (lv_at hl 1 rfl) ?_
      obtain ⟨hd, hf⟩ := gnl_some hf
      refine gX6_gathered S0 hw hd kw_491 dX8_performAll_18 hf (fun v4 hf => ?_)
      refine lv_icmp_ge (tgt := 77) S0.1 S0.2.1 dX8_performAll_21 (by decide) (fun c5 => ?_) (fun c5 => ?_)
      · replace hf := q_pos c5 hf
        exact b77 x2 σ hf _ _ _ hw (lv_sub hl [2] rfl)
      · replace hf := q_neg c5 hf
        refine lv_iload_n S0.1 S0.2.1 dX8_performAll_24 rfl (lv_at hl 3 rfl) ?_
        refine lv_bipush (v := 6) S0.1 S0.2.1 dX8_performAll_25 (by decide) ?_
        refine lv_icmp_ge (tgt := 77) S0.1 S0.2.1 dX8_performAll_27 (by decide) (fun c6 => ?_) (fun c6 => ?_)
        · replace hf := q_pos c6 hf
          exact b77 x2 σ hf _ _ _ hw (lv_sub hl [2] rfl)
        · replace hf := q_neg c6 hf
          refine lv_aload_n S0.1 S0.2.1 dX8_performAll_30 rfl (lv_at hl 1 rfl) ?_
          obtain ⟨hd, hf⟩ := gnl_some hf
          refine gX6_answers S0 hw hd kw_477 dX8_performAll_31 ?_
          refine lv_iload_n S0.1 S0.2.1 dX8_performAll_34 rfl (lv_at hl 3 rfl) ?_
          refine lv_iload_n S0.1 S0.2.1 dX8_performAll_35 rfl (lv_at hl 2 rfl) ?_
          refine lv_if_lt (tgt := 44) S0.1 S0.2.1 dX8_performAll_36 (by decide) (fun c7 => ?_) (fun c7 => ?_)
          · replace hf := q_pos c7 hf
            refine lv_aload_n S0.1 S0.2.1 dX8_performAll_44 rfl (lv_at hl 0 rfl) ?_
            refine lv_aload_n S0.1 S0.2.1 dX8_performAll_45 rfl (lv_at hl 1 rfl) ?_
            refine lv_aload_n S0.1 S0.2.1 dX8_performAll_46 rfl (lv_at hl 1 rfl) ?_
            obtain ⟨hd, hf⟩ := gnl_some hf
            refine gX6_acts S0 hw hd kw_475 dX8_performAll_47 ?_
            refine lv_iload_n S0.1 S0.2.1 dX8_performAll_50 rfl (lv_at hl 3 rfl) ?_
            obtain ⟨hd, hf⟩ := gnl_some hf
            refine q_aldn (k := 51) (i := i1) S0 hw hd (t0 := 2) rfl rfl (fun _ => rfl) dX8_performAll_51 hf (fun i8 hf => ?_)
            refine q_calli S0 hw (As := [.ref (ad 50 i1), .ref (ad 56 (1 + 6 * i1 + i8))]) (rest := [.int x3, .ref (ad 52 i1)]) (wX8_perform l D Y ad F i1 (1 + 6 * i1 + i8) σ) qyX8_perform kw_806 ⟨Nat.le_of_ble_eq_true rfl, Nat.le_of_ble_eq_true rfl⟩ dC_0 rfl rfl rfl rfl hl.1 (Nat.le_of_ble_eq_true rfl) dX8_performAll_52 ⟨Nat.le_refl _, Nat.le_refl _⟩ rfl hf (fun v10 s9 H locs hw hf => ?_)
            exact b55 (fX8_performAll_16 F i1 n) hk16 x2 x3 x3 v10 s9 hf _ _ _ hw (lv_sub hl [0, 1, 2, 3] rfl)
          · replace hf := q_neg c7 hf
            refine lv_bipush (v := (-10)) S0.1 S0.2.1 dX8_performAll_39 (by decide) ?_
            refine lv_goto (tgt := 55) S0.1 S0.2.1 dX8_performAll_41 (by decide) ?_
            exact b55 (fX8_performAll_16 F i1 n) hk16 x2 x3 x3 ((-10)) σ hf _ _ _ hw (lv_sub hl [0, 1, 2, 3] rfl)
  refine lv_aload_n S0.1 S0.2.1 dX8_performAll_0 rfl (lv_at hl 0 rfl) ?_
  refine q_callv S0 hw (As := []) (rest := []) (wX8_begin l D Y ad F σ) qyX8_begin kw_802 ⟨Nat.le_of_ble_eq_true rfl, Nat.le_of_ble_eq_true rfl⟩ dC_0 rfl rfl rfl rfl hl.1 (Nat.le_of_ble_eq_true rfl) dX8_performAll_1 ⟨Nat.le_refl _, Nat.le_refl _⟩ rfl hf (fun s1 H locs hw hf => ?_)
  refine lv_iconst (v := (-1)) S0.1 S0.2.1 dX8_performAll_4 (by decide) ?_
  refine lv_istore_n (lv' := [(2, .int ((-1))), (0, .ref (ad 0 0)), (1, .ref (ad 50 i1))]) S0.1 S0.2.1 dX8_performAll_5 rfl hl (by decide) rfl (fun ls hl => ?_)
  refine lv_aload_n S0.1 S0.2.1 dX8_performAll_6 rfl (lv_at hl 2 rfl) ?_
  refine lv_aload_n S0.1 S0.2.1 dX8_performAll_7 rfl (lv_at hl 2 rfl) ?_
  obtain ⟨hd, hf⟩ := gnl_some hf
  refine gX6_gathered S0 hw hd kw_491 dX8_performAll_8 hf (fun v2 hf => ?_)
  obtain ⟨hd, hf⟩ := gnl_some hf
  refine pX6_answered S0 hw hd kw_493 dX8_performAll_11 hf (fun s3 H locs hw hf => ?_)
  refine lv_iconst (v := 0) S0.1 S0.2.1 dX8_performAll_14 (by decide) ?_
  refine lv_istore_n (lv' := [(3, .int 0), (2, .int ((-1))), (0, .ref (ad 0 0)), (1, .ref (ad 50 i1))]) S0.1 S0.2.1 dX8_performAll_15 rfl hl (by decide) rfl (fun ls hl => ?_)
  exact b16 F ((-1)) 0 s3 hf _ _ _ hw (lv_sub hl [2, 3, 1, 0] rfl)
def fX8_lose_10 (F : Nat) (t1 : Int32) (σ : qS) : Option qS :=
  nm (qI σ 0 0 17 t1) fun s2 => (some s2)
def fX8_lose (F : Nat) (p1 : Int32) (σ : qS) : Option qS :=
  if p1 = 0 then (fX8_lose_10 F 2 σ) else (fX8_lose_10 F 1 σ)
set_option maxRecDepth 100000 in
set_option maxHeartbeats 4000000 in
theorem wX8_lose (l : Launch) (D : va_G) (Y : Nat → ClassId) (ad : qAd) (F : Nat) (p1 : Int32) (σ : qS) : qCv l yX8_lose cX8_lose 2 none 0 0 D (cL Y) (qT Y) ad [.ref (ad 0 0), .int p1] σ (fX8_lose F p1 σ) := by
  refine q_ofv (by decide) (Nat.le_of_ble_eq_true rfl) "Leasehall" rfl (fun p e s m below meth c A Q r0 S0 hf hw hret ls hl => ?_)
  replace hl : lv_has ls 2 [(0, .ref (ad 0 0)), (1, .int p1)] := hl
  unfold fX8_lose at hf
  have b10 : ∀ (t1 : Int32) (σ : qS), fX8_lose_10 F t1 σ = some r0 → qAt p l e (qRm 0 0) s m ([.ref (ad 0 0), .int p1] : List Value).toArray below meth c Q D (cL Y) (qT Y) A ad 2 0 0 10 [] [.int t1, .ref (ad 0 0)] σ := by
    clear hf hw hl ls
    intro t1 σ hf H locs ls hw hl
    unfold fX8_lose_10 at hf
    refine pX8_losing S0 hw kw_244 dX8_lose_10 hf (fun s2 H locs hw hf => ?_)
    exact hret dX8_lose_13 hw hf
  refine lv_aload_n S0.1 S0.2.1 dX8_lose_0 rfl (lv_at hl 0 rfl) ?_
  refine lv_iload_n S0.1 S0.2.1 dX8_lose_1 rfl (lv_at hl 1 rfl) ?_
  refine lv_if_eq (tgt := 9) S0.1 S0.2.1 dX8_lose_2 (by decide) (fun c1 => ?_) (fun c1 => ?_)
  · replace hf := q_pos c1 hf
    refine lv_iconst (v := 2) S0.1 S0.2.1 dX8_lose_9 (by decide) ?_
    exact b10 2 σ hf _ _ _ hw (lv_sub hl [] rfl)
  · replace hf := q_neg c1 hf
    refine lv_iconst (v := 1) S0.1 S0.2.1 dX8_lose_5 (by decide) ?_
    refine lv_goto (tgt := 10) S0.1 S0.2.1 dX8_lose_6 (by decide) ?_
    exact b10 1 σ hf _ _ _ hw (lv_sub hl [] rfl)
def fX8_believers_20 (F : Nat) (t0 : Int32) (σ : qS) : Option (Int32 × qS) :=
  some (t0, σ)
def fX8_believers (F : Nat) (p1 : Int32) (σ : qS) : Option (Int32 × qS) :=
  bnd2 (fX8_isWithin F p1 0 79 σ) fun v2 s1 => (if v2 = 0 then (fX8_believers_20 F 0 s1) else (ldi 80 (s1.1 15 0) p1 fun v4 => (fX8_believers_20 F v4 s1)))
set_option maxRecDepth 100000 in
set_option maxHeartbeats 4000000 in
theorem wX8_believers (l : Launch) (D : va_G) (Y : Nat → ClassId) (ad : qAd) (F : Nat) (p1 : Int32) (σ : qS) : qCi l yX8_believers cX8_believers 2 (some .int) 1 22 D (cL Y) (qT Y) ad [.ref (ad 0 0), .int p1] σ (fX8_believers F p1 σ) := by
  refine q_ofi (by decide) (Nat.le_of_ble_eq_true rfl) "Leasehall" rfl (fun p e s m below meth c A Q r0 S0 hf hw hret ls hl => ?_)
  replace hl : lv_has ls 2 [(0, .ref (ad 0 0)), (1, .int p1)] := hl
  unfold fX8_believers at hf
  have b20 : ∀ (t0 : Int32) (σ : qS), fX8_believers_20 F t0 σ = some r0 → qAt p l e (qRm 1 22) s m ([.ref (ad 0 0), .int p1] : List Value).toArray below meth c Q D (cL Y) (qT Y) A ad 2 0 0 20 [] [.int t0] σ := by
    clear hf hw hl ls
    intro t0 σ hf H locs ls hw hl
    unfold fX8_believers_20 at hf
    exact hret dX8_believers_20 hw hf
  refine lv_iload_n S0.1 S0.2.1 dX8_believers_0 rfl (lv_at hl 1 rfl) ?_
  refine lv_iconst (v := 0) S0.1 S0.2.1 dX8_believers_1 (by decide) ?_
  refine lv_bipush (v := 79) S0.1 S0.2.1 dX8_believers_2 (by decide) ?_
  refine q_scalli S0 hw (As := [.int p1, .int 0, .int 79]) (rest := []) (wX8_isWithin l D Y ad F p1 0 79 σ) qsX8_isWithin kw_296 ⟨Nat.le_of_ble_eq_true rfl, Nat.le_of_ble_eq_true rfl⟩ rfl hl.1 (Nat.le_of_ble_eq_true rfl) dX8_believers_4 ⟨Nat.le_refl _, Nat.le_refl _⟩ rfl hf (fun v2 s1 H locs hw hf => ?_)
  refine lv_if_eq (tgt := 19) S0.1 S0.2.1 dX8_believers_7 (by decide) (fun c3 => ?_) (fun c3 => ?_)
  · replace hf := q_pos c3 hf
    refine lv_iconst (v := 0) S0.1 S0.2.1 dX8_believers_19 (by decide) ?_
    exact b20 0 s1 hf _ _ _ hw (lv_sub hl [] rfl)
  · replace hf := q_neg c3 hf
    refine lv_aload_n S0.1 S0.2.1 dX8_believers_10 rfl (lv_at hl 0 rfl) ?_
    refine gX8_beliefs S0 hw kw_238 dX8_believers_11 ?_
    refine lv_iload_n S0.1 S0.2.1 dX8_believers_14 rfl (lv_at hl 1 rfl) ?_
    refine q_iald S0 hw dC_15 (t0 := 0) rfl rfl dX8_believers_15 hf (fun v4 hf => ?_)
    refine lv_goto (tgt := 20) S0.1 S0.2.1 dX8_believers_16 (by decide) ?_
    exact b20 v4 s1 hf _ _ _ hw (lv_sub hl [] rfl)
def fX8_stored (F : Nat) (σ : qS) : Option (Int32 × qS) :=
  nm (σ.1 0 0 19) fun v1 => (some (v1, σ))
set_option maxRecDepth 100000 in
set_option maxHeartbeats 4000000 in
theorem wX8_stored (l : Launch) (D : va_G) (Y : Nat → ClassId) (ad : qAd) (F : Nat) (σ : qS) : qCi l yX8_stored cX8_stored 1 (some .int) 0 0 D (cL Y) (qT Y) ad [.ref (ad 0 0)] σ (fX8_stored F σ) := by
  refine q_ofi (by decide) (Nat.le_of_ble_eq_true rfl) "Leasehall" rfl (fun p e s m below meth c A Q r0 S0 hf hw hret ls hl => ?_)
  replace hl : lv_has ls 1 [(0, .ref (ad 0 0))] := hl
  unfold fX8_stored at hf
  refine lv_aload_n S0.1 S0.2.1 dX8_stored_0 rfl (lv_at hl 0 rfl) ?_
  refine gX8_storedNumber S0 hw kw_246 dX8_stored_1 hf (fun v1 hf => ?_)
  exact hret dX8_stored_4 hw hf
def fX8_snapshot (F : Nat) (σ : qS) : Option (Int32 × qS) :=
  bnd (fX7_copyFrom F 5 0 σ) fun s1 => (gbl 1 (nm (qI s1 0 0 12 1) fun s2 => (bnd2 (fX7_belowOf F 0 0 s2) fun v4 s3 => (nm (1 + v4) fun v5 => (some (v5, s3))))))
set_option maxRecDepth 100000 in
set_option maxHeartbeats 4000000 in
theorem wX8_snapshot (l : Launch) (D : va_G) (Y : Nat → ClassId) (ad : qAd) (F : Nat) (σ : qS) : qCi l yX8_snapshot cX8_snapshot 1 (some .int) 3 65 D (cL Y) (qT Y) ad [.ref (ad 0 0)] σ (fX8_snapshot F σ) := by
  refine q_ofi (by decide) (Nat.le_of_ble_eq_true rfl) "Leasehall" rfl (fun p e s m below meth c A Q r0 S0 hf hw hret ls hl => ?_)
  replace hl : lv_has ls 1 [(0, .ref (ad 0 0))] := hl
  unfold fX8_snapshot at hf
  refine lv_aload_n S0.1 S0.2.1 dX8_snapshot_0 rfl (lv_at hl 0 rfl) ?_
  refine gX8_kept S0 hw kw_233 dX8_snapshot_1 ?_
  refine lv_aload_n S0.1 S0.2.1 dX8_snapshot_4 rfl (lv_at hl 0 rfl) ?_
  refine gX8_truth S0 hw kw_229 dX8_snapshot_5 ?_
  refine q_callv (k := 30) (i := 5) S0 hw (As := [.ref (ad 30 0)]) (rest := []) (wX7_copyFrom l D Y ad F 5 0 σ) qyX7_copyFrom kw_307 ⟨Nat.le_of_ble_eq_true rfl, Nat.le_of_ble_eq_true rfl⟩ (show 5 < 6 by decide) rfl rfl rfl rfl hl.1 (Nat.le_of_ble_eq_true rfl) dX8_snapshot_8 ⟨Nat.le_refl _, Nat.le_refl _⟩ rfl hf (fun s1 H locs hw hf => ?_)
  refine lv_aload_n S0.1 S0.2.1 dX8_snapshot_11 rfl (lv_at hl 0 rfl) ?_
  refine lv_iconst (v := 1) S0.1 S0.2.1 dX8_snapshot_12 (by decide) ?_
  refine pX8_hasKept S0 hw kw_239 dX8_snapshot_13 hf (fun s2 H locs hw hf => ?_)
  refine lv_iconst (v := 1) S0.1 S0.2.1 dX8_snapshot_16 (by decide) ?_
  refine lv_aload_n S0.1 S0.2.1 dX8_snapshot_17 rfl (lv_at hl 0 rfl) ?_
  refine gX8_truth S0 hw kw_229 dX8_snapshot_18 ?_
  refine lv_iconst (v := 0) S0.1 S0.2.1 dX8_snapshot_21 (by decide) ?_
  refine q_calli (k := 30) (i := 0) S0 hw (As := [.int 0]) (rest := [.int 1]) (wX7_belowOf l D Y ad F 0 0 s2) qyX7_belowOf kw_311 ⟨Nat.le_of_ble_eq_true rfl, Nat.le_of_ble_eq_true rfl⟩ (show 0 < 6 by decide) rfl rfl rfl rfl hl.1 (Nat.le_of_ble_eq_true rfl) dX8_snapshot_22 ⟨Nat.le_refl _, Nat.le_refl _⟩ rfl hf (fun v4 s3 H locs hw hf => ?_)
  refine lv_iadd S0.1 S0.2.1 dX8_snapshot_25 (q_top hf (fun v5 hf => ?_))
  exact hret dX8_snapshot_26 hw hf
def fX8_changes (F : Nat) (σ : qS) : Option (Int32 × qS) :=
  nm (σ.1 0 0 15) fun v1 => (some (v1, σ))
set_option maxRecDepth 100000 in
set_option maxHeartbeats 4000000 in
theorem wX8_changes (l : Launch) (D : va_G) (Y : Nat → ClassId) (ad : qAd) (F : Nat) (σ : qS) : qCi l yX8_changes cX8_changes 1 (some .int) 0 0 D (cL Y) (qT Y) ad [.ref (ad 0 0)] σ (fX8_changes F σ) := by
  refine q_ofi (by decide) (Nat.le_of_ble_eq_true rfl) "Leasehall" rfl (fun p e s m below meth c A Q r0 S0 hf hw hret ls hl => ?_)
  replace hl : lv_has ls 1 [(0, .ref (ad 0 0))] := hl
  unfold fX8_changes at hf
  refine lv_aload_n S0.1 S0.2.1 dX8_changes_0 rfl (lv_at hl 0 rfl) ?_
  refine gX8_lastChange S0 hw kw_242 dX8_changes_1 hf (fun v1 hf => ?_)
  exact hret dX8_changes_4 hw hf

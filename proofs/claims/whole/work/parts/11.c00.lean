theorem qyX0_toDo : qY yX0_toDo RX0 cX0_toDo 5 none 4 := ⟨⟨kw_795, kw_796, kw_8, kw_797⟩, rfl, by decide, by decide, by decide +kernel⟩
def fX0_toDo (F : Nat) (i0 : Nat) (p1 : Int32) (p2 : Int32) (p3 : Int32) (p4 : Int32) (σ : qS) : Option qS :=
  gnl i0 (1 + 6 * σ.2 0 0) (nm (qI σ 56 i0 0 p1) fun s1 => (gnl i0 (1 + 6 * s1.2 0 0) (nm (qI s1 56 i0 1 p2) fun s2 => (gnl i0 (1 + 6 * s2.2 0 0) (nm (qI s2 56 i0 3 p3) fun s3 => (gnl i0 (1 + 6 * s3.2 0 0) (nm (qI s3 56 i0 4 p4) fun s4 => (some s4))))))))
set_option maxRecDepth 100000 in
set_option maxHeartbeats 4000000 in
theorem wX0_toDo (l : Launch) (D : va_G) (Y : Nat → ClassId) (ad : qAd) (F : Nat) (i0 : Nat) (p1 : Int32) (p2 : Int32) (p3 : Int32) (p4 : Int32) (σ : qS) : qCv l yX0_toDo cX0_toDo 5 none 0 0 D (cL Y) (qT Y) ad [.ref (ad 56 i0), .int p1, .int p2, .int p3, .int p4] σ (fX0_toDo F i0 p1 p2 p3 p4 σ) := by
  refine q_ofv (by decide) (Nat.le_of_ble_eq_true rfl) "Leasehall$Act" rfl (fun p e s m below meth c A Q r0 S0 hf hw hret ls hl => ?_)
  replace hl : lv_has ls 5 [(0, .ref (ad 56 i0)), (1, .int p1), (2, .int p2), (3, .int p3), (4, .int p4)] := hl
  unfold fX0_toDo at hf
  refine lv_aload_n S0.1 S0.2.1 dX0_toDo_0 rfl (lv_at hl 0 rfl) ?_
  refine lv_iload_n S0.1 S0.2.1 dX0_toDo_1 rfl (lv_at hl 1 rfl) ?_
  obtain ⟨hd, hf⟩ := gnl_some hf
  refine pX0_kind S0 hw hd kw_174 dX0_toDo_2 hf (fun s1 H locs hw hf => ?_)
  refine lv_aload_n S0.1 S0.2.1 dX0_toDo_5 rfl (lv_at hl 0 rfl) ?_
  refine lv_iload_n S0.1 S0.2.1 dX0_toDo_6 rfl (lv_at hl 2 rfl) ?_
  obtain ⟨hd, hf⟩ := gnl_some hf
  refine pX0_node S0 hw hd kw_176 dX0_toDo_7 hf (fun s2 H locs hw hf => ?_)
  refine lv_aload_n S0.1 S0.2.1 dX0_toDo_10 rfl (lv_at hl 0 rfl) ?_
  refine lv_iload_n S0.1 S0.2.1 dX0_toDo_11 rfl (lv_at hl 3 rfl) ?_
  obtain ⟨hd, hf⟩ := gnl_some hf
  refine pX0_number S0 hw hd kw_181 dX0_toDo_12 hf (fun s3 H locs hw hf => ?_)
  refine lv_aload_n S0.1 S0.2.1 dX0_toDo_15 rfl (lv_at hl 0 rfl) ?_
  refine lv_iload S0.1 S0.2.1 dX0_toDo_16 (lv_at hl 4 rfl) ?_
  obtain ⟨hd, hf⟩ := gnl_some hf
  refine pX0_version S0 hw hd kw_183 dX0_toDo_18 hf (fun s4 H locs hw hf => ?_)
  exact hret dX0_toDo_21 hw hf
theorem qyX0_toMake : qY yX0_toMake RX0 cX0_toMake 5 none 4 := ⟨⟨kw_791, kw_792, kw_8, kw_793⟩, rfl, by decide, by decide, by decide +kernel⟩
def fX0_toMake (F : Nat) (i0 : Nat) (p1 : Int32) (p2 : Int32) (p3 : Int32) (p4 : Int32) (σ : qS) : Option qS :=
  gnl i0 (1 + 6 * σ.2 0 0) (bnd (fX0_toDo F i0 0 p1 p3 ((-1)) σ) fun s1 => (gnl i0 (1 + 6 * s1.2 0 0) (nm (qI s1 56 i0 2 p2) fun s2 => (gnl i0 (1 + 6 * s2.2 0 0) (nm (qI s2 56 i0 5 p4) fun s3 => (some s3))))))
set_option maxRecDepth 100000 in
set_option maxHeartbeats 4000000 in
theorem wX0_toMake (l : Launch) (D : va_G) (Y : Nat → ClassId) (ad : qAd) (F : Nat) (i0 : Nat) (p1 : Int32) (p2 : Int32) (p3 : Int32) (p4 : Int32) (σ : qS) : qCv l yX0_toMake cX0_toMake 5 none 1 24 D (cL Y) (qT Y) ad [.ref (ad 56 i0), .int p1, .int p2, .int p3, .int p4] σ (fX0_toMake F i0 p1 p2 p3 p4 σ) := by
  refine q_ofv (by decide) (Nat.le_of_ble_eq_true rfl) "Leasehall$Act" rfl (fun p e s m below meth c A Q r0 S0 hf hw hret ls hl => ?_)
  replace hl : lv_has ls 5 [(0, .ref (ad 56 i0)), (1, .int p1), (2, .int p2), (3, .int p3), (4, .int p4)] := hl
  unfold fX0_toMake at hf
  refine lv_aload_n S0.1 S0.2.1 dX0_toMake_0 rfl (lv_at hl 0 rfl) ?_
  refine lv_iconst (v := 0) S0.1 S0.2.1 dX0_toMake_1 (by decide) ?_
  refine lv_iload_n S0.1 S0.2.1 dX0_toMake_2 rfl (lv_at hl 1 rfl) ?_
  refine lv_iload_n S0.1 S0.2.1 dX0_toMake_3 rfl (lv_at hl 3 rfl) ?_
  refine lv_iconst (v := (-1)) S0.1 S0.2.1 dX0_toMake_4 (by decide) ?_
  obtain ⟨hd, hf⟩ := gnl_some hf
  refine q_callv (k := 56) (i := i0) S0 hw (As := [.int 0, .int p1, .int p3, .int ((-1))]) (rest := []) (wX0_toDo l D Y ad F i0 0 p1 p3 ((-1)) σ) qyX0_toDo kw_794 ⟨Nat.le_of_ble_eq_true rfl, Nat.le_of_ble_eq_true rfl⟩ hd rfl rfl rfl rfl hl.1 (Nat.le_of_ble_eq_true rfl) dX0_toMake_5 ⟨Nat.le_refl _, Nat.le_refl _⟩ rfl hf (fun s1 H locs hw hf => ?_)
  refine lv_aload_n S0.1 S0.2.1 dX0_toMake_8 rfl (lv_at hl 0 rfl) ?_
  refine lv_iload_n S0.1 S0.2.1 dX0_toMake_9 rfl (lv_at hl 2 rfl) ?_
  obtain ⟨hd, hf⟩ := gnl_some hf
  refine pX0_name S0 hw hd kw_179 dX0_toMake_10 hf (fun s2 H locs hw hf => ?_)
  refine lv_aload_n S0.1 S0.2.1 dX0_toMake_13 rfl (lv_at hl 0 rfl) ?_
  refine lv_iload S0.1 S0.2.1 dX0_toMake_14 (lv_at hl 4 rfl) ?_
  obtain ⟨hd, hf⟩ := gnl_some hf
  refine pX0_nodeKind S0 hw hd kw_185 dX0_toMake_16 hf (fun s3 H locs hw hf => ?_)
  exact hret dX0_toMake_19 hw hf
theorem qyX1_add : qY yX1_add RX1 cX1_add 4 none 3 := ⟨⟨kw_836, kw_837, kw_2, kw_838⟩, rfl, by decide, by decide, by decide +kernel⟩
def fX1_add_78 (F : Nat) (i1 : Nat) (σ : qS) : Option qS :=
  some σ
def fX1_add (F : Nat) (i1 : Nat) (p2 : Int32) (p3 : Int32) (σ : qS) : Option qS :=
  nm (σ.1 1 0 5) fun v1 => (if 80 ≤ v1 then (fX1_add_78 F i1 σ) else (nm (σ.1 1 0 5) fun v3 => (gnl i1 (1 + 6 * σ.2 0 0) (nm (σ.1 56 i1 1) fun v4 => (inx 80 v3 (nm (qI σ 2 0 v3.toNatClampNeg v4) fun s5 => (nm (s5.1 1 0 5) fun v6 => (inx 80 v6 (nm (qI s5 3 0 v6.toNatClampNeg p2) fun s7 => (nm (s7.1 1 0 5) fun v8 => (gnl i1 (1 + 6 * s7.2 0 0) (nm (s7.1 56 i1 5) fun v9 => (inx 80 v8 (nm (qI s7 4 0 v8.toNatClampNeg v9) fun s10 => (nm (s10.1 1 0 5) fun v11 => (gnl i1 (1 + 6 * s10.2 0 0) (nm (s10.1 56 i1 6) fun v12 => (inx 80 v11 (nm (qI s10 5 0 v11.toNatClampNeg v12) fun s13 => (nm (s13.1 1 0 5) fun v14 => (inx 80 v14 (nm (qI s13 6 0 v14.toNatClampNeg p3) fun s15 => (nm (s15.1 1 0 5) fun v16 => (nm (v16 + 1) fun v17 => (nm (qI s15 1 0 5 v17) fun s18 => (fX1_add_78 F i1 s18))))))))))))))))))))))))))
set_option maxRecDepth 100000 in
set_option maxHeartbeats 4000000 in
theorem wX1_add (l : Launch) (D : va_G) (Y : Nat → ClassId) (ad : qAd) (F : Nat) (i1 : Nat) (p2 : Int32) (p3 : Int32) (σ : qS) : qCv l yX1_add cX1_add 4 none 0 0 D (cL Y) (qT Y) ad [.ref (ad 1 0), .ref (ad 56 i1), .int p2, .int p3] σ (fX1_add F i1 p2 p3 σ) := by
  refine q_ofv (by decide) (Nat.le_of_ble_eq_true rfl) "Leasehall$Births" rfl (fun p e s m below meth c A Q r0 S0 hf hw hret ls hl => ?_)
  replace hl : lv_has ls 4 [(0, .ref (ad 1 0)), (1, .ref (ad 56 i1)), (2, .int p2), (3, .int p3)] := hl
  unfold fX1_add at hf
  have b78 : ∀ (σ : qS), fX1_add_78 F i1 σ = some r0 → qAt p l e (qRm 0 0) s m ([.ref (ad 1 0), .ref (ad 56 i1), .int p2, .int p3] : List Value).toArray below meth c Q D (cL Y) (qT Y) A ad 4 0 0 78 [] [] σ := by
    clear hf hw hl ls
    intro σ hf H locs ls hw hl
    unfold fX1_add_78 at hf
    exact hret dX1_add_78 hw hf
  refine lv_aload_n S0.1 S0.2.1 dX1_add_0 rfl (lv_at hl 0 rfl) ?_
  refine gX1_made S0 hw kw_54 dX1_add_1 hf (fun v1 hf => ?_)
  refine lv_bipush (v := 80) S0.1 S0.2.1 dX1_add_4 (by decide) ?_
  refine lv_icmp_ge (tgt := 78) S0.1 S0.2.1 dX1_add_6 (by decide) (fun c2 => ?_) (fun c2 => ?_)
  · replace hf := q_pos c2 hf
    exact b78 σ hf _ _ _ hw (lv_sub hl [] rfl)
  · replace hf := q_neg c2 hf
    refine lv_aload_n S0.1 S0.2.1 dX1_add_9 rfl (lv_at hl 0 rfl) ?_
    refine gX1_parent S0 hw kw_40 dX1_add_10 ?_
    refine lv_aload_n S0.1 S0.2.1 dX1_add_13 rfl (lv_at hl 0 rfl) ?_
    refine gX1_made S0 hw kw_54 dX1_add_14 hf (fun v3 hf => ?_)
    refine lv_aload_n S0.1 S0.2.1 dX1_add_17 rfl (lv_at hl 1 rfl) ?_
    obtain ⟨hd, hf⟩ := gnl_some hf
    refine gX0_node S0 hw hd kw_177 dX1_add_18 hf (fun v4 hf => ?_)
    refine q_iast S0 hw dC_2 (t0 := 0) (fun _ => rfl) rfl dX1_add_21 hf (fun s5 H locs hw hf => ?_)
    refine lv_aload_n S0.1 S0.2.1 dX1_add_22 rfl (lv_at hl 0 rfl) ?_
    refine gX1_name S0 hw kw_44 dX1_add_23 ?_
    refine lv_aload_n S0.1 S0.2.1 dX1_add_26 rfl (lv_at hl 0 rfl) ?_
    refine gX1_made S0 hw kw_54 dX1_add_27 hf (fun v6 hf => ?_)
    refine lv_iload_n S0.1 S0.2.1 dX1_add_30 rfl (lv_at hl 2 rfl) ?_
    refine q_iast S0 hw dC_3 (t0 := 0) (fun _ => rfl) rfl dX1_add_31 hf (fun s7 H locs hw hf => ?_)
    refine lv_aload_n S0.1 S0.2.1 dX1_add_32 rfl (lv_at hl 0 rfl) ?_
    refine gX1_kind S0 hw kw_46 dX1_add_33 ?_
    refine lv_aload_n S0.1 S0.2.1 dX1_add_36 rfl (lv_at hl 0 rfl) ?_
    refine gX1_made S0 hw kw_54 dX1_add_37 hf (fun v8 hf => ?_)
    refine lv_aload_n S0.1 S0.2.1 dX1_add_40 rfl (lv_at hl 1 rfl) ?_
    obtain ⟨hd, hf⟩ := gnl_some hf
    refine gX0_nodeKind S0 hw hd kw_186 dX1_add_41 hf (fun v9 hf => ?_)
    refine q_iast S0 hw dC_4 (t0 := 0) (fun _ => rfl) rfl dX1_add_44 hf (fun s10 H locs hw hf => ?_)
    refine lv_aload_n S0.1 S0.2.1 dX1_add_45 rfl (lv_at hl 0 rfl) ?_
    refine gX1_holder S0 hw kw_49 dX1_add_46 ?_
    refine lv_aload_n S0.1 S0.2.1 dX1_add_49 rfl (lv_at hl 0 rfl) ?_
    refine gX1_made S0 hw kw_54 dX1_add_50 hf (fun v11 hf => ?_)
    refine lv_aload_n S0.1 S0.2.1 dX1_add_53 rfl (lv_at hl 1 rfl) ?_
    obtain ⟨hd, hf⟩ := gnl_some hf
    refine gX0_holder S0 hw hd kw_188 dX1_add_54 hf (fun v12 hf => ?_)
    refine q_iast S0 hw dC_5 (t0 := 0) (fun _ => rfl) rfl dX1_add_57 hf (fun s13 H locs hw hf => ?_)
    refine lv_aload_n S0.1 S0.2.1 dX1_add_58 rfl (lv_at hl 0 rfl) ?_
    refine gX1_change S0 hw kw_52 dX1_add_59 ?_
    refine lv_aload_n S0.1 S0.2.1 dX1_add_62 rfl (lv_at hl 0 rfl) ?_
    refine gX1_made S0 hw kw_54 dX1_add_63 hf (fun v14 hf => ?_)
    refine lv_iload_n S0.1 S0.2.1 dX1_add_66 rfl (lv_at hl 3 rfl) ?_
    refine q_iast S0 hw dC_6 (t0 := 0) (fun _ => rfl) rfl dX1_add_67 hf (fun s15 H locs hw hf => ?_)
    refine lv_aload_n S0.1 S0.2.1 dX1_add_68 rfl (lv_at hl 0 rfl) ?_
    refine lv_dup S0.1 S0.2.1 dX1_add_69 rfl ?_
    refine gX1_made S0 hw kw_54 dX1_add_70 hf (fun v16 hf => ?_)
    refine lv_iconst (v := 1) S0.1 S0.2.1 dX1_add_73 (by decide) ?_
    refine lv_iadd S0.1 S0.2.1 dX1_add_74 (q_top hf (fun v17 hf => ?_))
    refine pX1_made S0 hw kw_54 dX1_add_75 hf (fun s18 H locs hw hf => ?_)
    exact b78 s18 hf _ _ _ hw (lv_sub hl [] rfl)
theorem qyX1_isHeld : qY yX1_isHeld RX1 cX1_isHeld 2 (some .boolean) 1 := ⟨⟨kw_827, kw_828, kw_2, kw_829⟩, rfl, by decide, by decide, by decide +kernel⟩
def fX1_isHeld_25 (F : Nat) (t0 : Int32) (σ : qS) : Option (Int32 × qS) :=
  gbl t0 (some (t0, σ))
def fX1_isHeld_20 (F : Nat) (σ : qS) : Option (Int32 × qS) :=
  fX1_isHeld_25 F 1 σ
def fX1_isHeld (F : Nat) (p1 : Int32) (σ : qS) : Option (Int32 × qS) :=
  ldi 80 (σ.1 4 0) p1 fun v1 => (if v1 = 1 then (fX1_isHeld_20 F σ) else (ldi 80 (σ.1 4 0) p1 fun v3 => (if v3 = 2 then (fX1_isHeld_20 F σ) else (fX1_isHeld_25 F 0 σ))))
set_option maxRecDepth 100000 in
set_option maxHeartbeats 4000000 in
theorem wX1_isHeld (l : Launch) (D : va_G) (Y : Nat → ClassId) (ad : qAd) (F : Nat) (p1 : Int32) (σ : qS) : qCi l yX1_isHeld cX1_isHeld 2 (some .boolean) 0 0 D (cL Y) (qT Y) ad [.ref (ad 1 0), .int p1] σ (fX1_isHeld F p1 σ) := by
  refine q_ofz (by decide) (Nat.le_of_ble_eq_true rfl) "Leasehall$Births" rfl (fun p e s m below meth c A Q r0 S0 hf hw hret ls hl => ?_)
  replace hl : lv_has ls 2 [(0, .ref (ad 1 0)), (1, .int p1)] := hl
  unfold fX1_isHeld at hf
  have b25 : ∀ (t0 : Int32) (σ : qS), fX1_isHeld_25 F t0 σ = some r0 → qAt p l e (qRm 0 0) s m ([.ref (ad 1 0), .int p1] : List Value).toArray below meth c Q D (cL Y) (qT Y) A ad 2 0 0 25 [] [.int t0] σ := by
    clear hf hw hl ls
    intro t0 σ hf H locs ls hw hl
    unfold fX1_isHeld_25 at hf
    exact hret dX1_isHeld_25 hw hf
  have b20 : ∀ (σ : qS), fX1_isHeld_20 F σ = some r0 → qAt p l e (qRm 0 0) s m ([.ref (ad 1 0), .int p1] : List Value).toArray below meth c Q D (cL Y) (qT Y) A ad 2 0 0 20 [] [] σ := by
    clear hf hw hl ls
    intro σ hf H locs ls hw hl
    unfold fX1_isHeld_20 at hf
    refine lv_iconst (v := 1) S0.1 S0.2.1 dX1_isHeld_20 (by decide) ?_
    refine lv_goto (tgt := 25) S0.1 S0.2.1 dX1_isHeld_21 (by decide) ?_
    exact b25 1 σ hf _ _ _ hw (lv_sub hl [] rfl)
  refine lv_aload_n S0.1 S0.2.1 dX1_isHeld_0 rfl (lv_at hl 0 rfl) ?_
  refine gX1_kind S0 hw kw_46 dX1_isHeld_1 ?_
  refine lv_iload_n S0.1 S0.2.1 dX1_isHeld_4 rfl (lv_at hl 1 rfl) ?_
  refine q_iald S0 hw dC_4 (t0 := 0) rfl rfl dX1_isHeld_5 hf (fun v1 hf => ?_)
  refine lv_iconst (v := 1) S0.1 S0.2.1 dX1_isHeld_6 (by decide) ?_
  refine lv_icmp_eq (tgt := 20) S0.1 S0.2.1 dX1_isHeld_7 (by decide) (fun c2 => ?_) (fun c2 => ?_)
  · replace hf := q_pos c2 hf
    exact b20 σ hf _ _ _ hw (lv_sub hl [] rfl)
  · replace hf := q_neg c2 hf
    refine lv_aload_n S0.1 S0.2.1 dX1_isHeld_10 rfl (lv_at hl 0 rfl) ?_
    refine gX1_kind S0 hw kw_46 dX1_isHeld_11 ?_
    refine lv_iload_n S0.1 S0.2.1 dX1_isHeld_14 rfl (lv_at hl 1 rfl) ?_
    refine q_iald S0 hw dC_4 (t0 := 0) rfl rfl dX1_isHeld_15 hf (fun v3 hf => ?_)
    refine lv_iconst (v := 2) S0.1 S0.2.1 dX1_isHeld_16 (by decide) ?_
    refine lv_icmp_ne (tgt := 24) S0.1 S0.2.1 dX1_isHeld_17 (by decide) (fun c4 => ?_) (fun c4 => ?_)
    · replace hf := q_neg c4 hf
      refine lv_iconst (v := 0) S0.1 S0.2.1 dX1_isHeld_24 (by decide) ?_
      exact b25 0 σ hf _ _ _ hw (lv_sub hl [] rfl)
    · replace hf := q_pos c4 hf
      exact b20 σ hf _ _ _ hw (lv_sub hl [] rfl)
theorem qyX1_isWithinBranch : qY yX1_isWithinBranch RX1 cX1_isWithinBranch 5 (some .boolean) 2 := ⟨⟨kw_996, kw_997, kw_2, kw_998⟩, rfl, by decide, by decide, by decide +kernel⟩
def fX1_isWithinBranch_40 (F : Nat) (t0 : Int32) (σ : qS) : Option (Int32 × qS) :=
  gbl t0 (some (t0, σ))
def fX1_isWithinBranch_30 (F : Nat) (x2 : Int32) (x3 : Int32) (σ : qS) : Option (Int32 × qS) :=
  if x3 = x2 then (fX1_isWithinBranch_40 F 1 σ) else (fX1_isWithinBranch_40 F 0 σ)
def fX1_isWithinBranch_5 (F : Nat) : Nat → Int32 → Int32 → Int32 → qS → Option (Int32 × qS)
  | 0, _, _, _, _ => none
  | n + 1, x2, x3, x4, σ =>
  if 80 ≤ x4 then (fX1_isWithinBranch_30 F x2 x3 σ) else (if x3 ≤ x2 then (fX1_isWithinBranch_30 F x2 x3 σ) else (ldi 80 (σ.1 2 0) x3 fun v4 => (nm (x4 + 1) fun v5 => (fX1_isWithinBranch_5 F n x2 v4 v5 σ))))
def fX1_isWithinBranch (F : Nat) (p1 : Int32) (p2 : Int32) (σ : qS) : Option (Int32 × qS) :=
  fX1_isWithinBranch_5 F F p2 p1 0 σ
set_option maxRecDepth 100000 in
set_option maxHeartbeats 4000000 in
theorem wX1_isWithinBranch (l : Launch) (D : va_G) (Y : Nat → ClassId) (ad : qAd) (F : Nat) (p1 : Int32) (p2 : Int32) (σ : qS) : qCi l yX1_isWithinBranch cX1_isWithinBranch 5 (some .boolean) 0 0 D (cL Y) (qT Y) ad [.ref (ad 1 0), .int p1, .int p2] σ (fX1_isWithinBranch F p1 p2 σ) := by
  refine q_ofz (by decide) (Nat.le_of_ble_eq_true rfl) "Leasehall$Births" rfl (fun p e s m below meth c A Q r0 S0 hf hw hret ls hl => ?_)
  replace hl : lv_has ls 5 [(0, .ref (ad 1 0)), (1, .int p1), (2, .int p2)] := hl
  unfold fX1_isWithinBranch at hf
  have b40 : ∀ (t0 : Int32) (σ : qS), fX1_isWithinBranch_40 F t0 σ = some r0 → qAt p l e (qRm 0 0) s m ([.ref (ad 1 0), .int p1, .int p2] : List Value).toArray below meth c Q D (cL Y) (qT Y) A ad 5 0 0 40 [] [.int t0] σ := by
    clear hf hw hl ls
    intro t0 σ hf H locs ls hw hl
    unfold fX1_isWithinBranch_40 at hf
    exact hret dX1_isWithinBranch_40 hw hf
  have b30 : ∀ (x2 : Int32) (x3 : Int32) (σ : qS), fX1_isWithinBranch_30 F x2 x3 σ = some r0 → qAt p l e (qRm 0 0) s m ([.ref (ad 1 0), .int p1, .int p2] : List Value).toArray below meth c Q D (cL Y) (qT Y) A ad 5 0 0 30 [(2, .int x2), (3, .int x3)] [] σ := by
    clear hf hw hl ls
    intro x2 x3 σ hf H locs ls hw hl
    unfold fX1_isWithinBranch_30 at hf
    refine lv_iload_n S0.1 S0.2.1 dX1_isWithinBranch_30 rfl (lv_at hl 1 rfl) ?_
    refine lv_iload_n S0.1 S0.2.1 dX1_isWithinBranch_31 rfl (lv_at hl 0 rfl) ?_
    refine lv_icmp_ne (tgt := 39) S0.1 S0.2.1 dX1_isWithinBranch_32 (by decide) (fun c2 => ?_) (fun c2 => ?_)
    · replace hf := q_neg c2 hf
      refine lv_iconst (v := 0) S0.1 S0.2.1 dX1_isWithinBranch_39 (by decide) ?_
      exact b40 0 σ hf _ _ _ hw (lv_sub hl [] rfl)
    · replace hf := q_pos c2 hf
      refine lv_iconst (v := 1) S0.1 S0.2.1 dX1_isWithinBranch_35 (by decide) ?_
      refine lv_goto (tgt := 40) S0.1 S0.2.1 dX1_isWithinBranch_36 (by decide) ?_
      exact b40 1 σ hf _ _ _ hw (lv_sub hl [] rfl)
  have b5 : ∀ (n : Nat) (x2 : Int32) (x3 : Int32) (x4 : Int32) (σ : qS), fX1_isWithinBranch_5 F n x2 x3 x4 σ = some r0 → qAt p l e (qRm 0 0) s m ([.ref (ad 1 0), .int p1, .int p2] : List Value).toArray below meth c Q D (cL Y) (qT Y) A ad 5 0 0 5 [(0, .ref (ad 1 0)), (2, .int x2), (3, .int x3), (4, .int x4)] [] σ := by
    clear hf hw hl ls
    intro n
    induction n with
    | zero => intro x2 x3 x4 σ hf; exact absurd hf (by rw [fX1_isWithinBranch_5]; exact nofun)
    | succ n hk5 =>
      intro x2 x3 x4 σ hf H locs ls hw hl
      rw [fX1_isWithinBranch_5] at hf
      refine lv_iload S0.1 S0.2.1 dX1_isWithinBranch_5 (lv_at hl 3 rfl) ?_
      refine lv_bipush (v := 80) S0.1 S0.2.1 dX1_isWithinBranch_7 (by decide) ?_
      refine lv_icmp_ge (tgt := 30) S0.1 S0.2.1 dX1_isWithinBranch_9 (by decide) (fun c1 => ?_) (fun c1 => ?_)
      · replace hf := q_pos c1 hf
        exact b30 x2 x3 σ hf _ _ _ hw (lv_sub hl [1, 2] rfl)
      · replace hf := q_neg c1 hf
        refine lv_iload_n S0.1 S0.2.1 dX1_isWithinBranch_12 rfl (lv_at hl 2 rfl) ?_
        refine lv_iload_n S0.1 S0.2.1 dX1_isWithinBranch_13 rfl (lv_at hl 1 rfl) ?_
        refine lv_icmp_le (tgt := 30) S0.1 S0.2.1 dX1_isWithinBranch_14 (by decide) (fun c3 => ?_) (fun c3 => ?_)
        · replace hf := q_pos c3 hf
          exact b30 x2 x3 σ hf _ _ _ hw (lv_sub hl [1, 2] rfl)
        · replace hf := q_neg c3 hf
          refine lv_aload_n S0.1 S0.2.1 dX1_isWithinBranch_17 rfl (lv_at hl 0 rfl) ?_
          refine gX1_parent S0 hw kw_40 dX1_isWithinBranch_18 ?_
          refine lv_iload_n S0.1 S0.2.1 dX1_isWithinBranch_21 rfl (lv_at hl 2 rfl) ?_
          refine q_iald S0 hw dC_2 (t0 := 0) rfl rfl dX1_isWithinBranch_22 hf (fun v4 hf => ?_)
          refine lv_istore_n (lv' := [(3, .int v4), (0, .ref (ad 1 0)), (2, .int x2), (4, .int x4)]) S0.1 S0.2.1 dX1_isWithinBranch_23 rfl hl (by decide) rfl (fun ls hl => ?_)
          refine q_iinc S0 (v0 := 1) dX1_isWithinBranch_24 hl (k := 3) rfl (by decide) (by decide) rfl hf (fun v5 ls hl hf => ?_)
          refine lv_goto (tgt := 5) S0.1 S0.2.1 dX1_isWithinBranch_27 (by decide) ?_
          exact hk5 x2 v4 v5 σ hf _ _ _ hw (lv_sub hl [2, 3, 1, 0] rfl)
  refine lv_iload_n S0.1 S0.2.1 dX1_isWithinBranch_0 rfl (lv_at hl 1 rfl) ?_
  refine lv_istore_n (lv' := [(3, .int p1), (0, .ref (ad 1 0)), (1, .int p1), (2, .int p2)]) S0.1 S0.2.1 dX1_isWithinBranch_1 rfl hl (by decide) rfl (fun ls hl => ?_)
  refine lv_iconst (v := 0) S0.1 S0.2.1 dX1_isWithinBranch_2 (by decide) ?_
  refine lv_istore (lv' := [(4, .int 0), (3, .int p1), (0, .ref (ad 1 0)), (1, .int p1), (2, .int p2)]) S0.1 S0.2.1 dX1_isWithinBranch_3 hl (by decide) rfl (fun ls hl => ?_)
  exact b5 F p2 p1 0 σ hf _ _ _ hw (lv_sub hl [2, 4, 1, 0] rfl)
theorem qyX3_add : qY yX3_add RX3 cX3_add 5 (some .boolean) 4 := ⟨⟨kw_648, kw_649, kw_4, kw_650⟩, rfl, by decide, by decide, by decide +kernel⟩
def fX3_add (F : Nat) (p1 : Int32) (p2 : Int32) (p3 : Int32) (p4 : Int32) (σ : qS) : Option (Int32 × qS) :=
  nm (σ.1 9 0 4) fun v1 => (if v1 < 1024 then (nm (σ.1 9 0 4) fun v3 => (inx 1024 v3 (nm (qI σ 10 0 v3.toNatClampNeg p1) fun s4 => (nm (s4.1 9 0 4) fun v5 => (inx 1024 v5 (nm (qI s4 11 0 v5.toNatClampNeg p2) fun s6 => (nm (s6.1 9 0 4) fun v7 => (inx 1024 v7 (nm (qI s6 12 0 v7.toNatClampNeg p3) fun s8 => (nm (s8.1 9 0 4) fun v9 => (inx 1024 v9 (nm (qI s8 13 0 v9.toNatClampNeg p4) fun s10 => (nm (s10.1 9 0 4) fun v11 => (nm (v11 + 1) fun v12 => (nm (qI s10 9 0 4 v12) fun s13 => (gbl 1 (some (1, s13)))))))))))))))))) else (gbl 0 (some (0, σ))))
set_option maxRecDepth 100000 in
set_option maxHeartbeats 4000000 in
theorem wX3_add (l : Launch) (D : va_G) (Y : Nat → ClassId) (ad : qAd) (F : Nat) (p1 : Int32) (p2 : Int32) (p3 : Int32) (p4 : Int32) (σ : qS) : qCi l yX3_add cX3_add 5 (some .boolean) 0 0 D (cL Y) (qT Y) ad [.ref (ad 9 0), .int p1, .int p2, .int p3, .int p4] σ (fX3_add F p1 p2 p3 p4 σ) := by
  refine q_ofz (by decide) (Nat.le_of_ble_eq_true rfl) "Leasehall$Log" rfl (fun p e s m below meth c A Q r0 S0 hf hw hret ls hl => ?_)
  replace hl : lv_has ls 5 [(0, .ref (ad 9 0)), (1, .int p1), (2, .int p2), (3, .int p3), (4, .int p4)] := hl
  unfold fX3_add at hf
  refine lv_aload_n S0.1 S0.2.1 dX3_add_0 rfl (lv_at hl 0 rfl) ?_
  refine gX3_size S0 hw kw_129 dX3_add_1 hf (fun v1 hf => ?_)
  refine lv_sipush (v := 1024) S0.1 S0.2.1 dX3_add_4 (by decide) ?_
  refine lv_icmp_lt (tgt := 12) S0.1 S0.2.1 dX3_add_7 (by decide) (fun c2 => ?_) (fun c2 => ?_)
  · replace hf := q_pos c2 hf
    refine lv_aload_n S0.1 S0.2.1 dX3_add_12 rfl (lv_at hl 0 rfl) ?_
    refine gX3_change S0 hw kw_121 dX3_add_13 ?_
    refine lv_aload_n S0.1 S0.2.1 dX3_add_16 rfl (lv_at hl 0 rfl) ?_
    refine gX3_size S0 hw kw_129 dX3_add_17 hf (fun v3 hf => ?_)
    refine lv_iload_n S0.1 S0.2.1 dX3_add_20 rfl (lv_at hl 1 rfl) ?_
    refine q_iast S0 hw dC_10 (t0 := 0) (fun _ => rfl) rfl dX3_add_21 hf (fun s4 H locs hw hf => ?_)
    refine lv_aload_n S0.1 S0.2.1 dX3_add_22 rfl (lv_at hl 0 rfl) ?_
    refine gX3_kind S0 hw kw_123 dX3_add_23 ?_
    refine lv_aload_n S0.1 S0.2.1 dX3_add_26 rfl (lv_at hl 0 rfl) ?_
    refine gX3_size S0 hw kw_129 dX3_add_27 hf (fun v5 hf => ?_)
    refine lv_iload_n S0.1 S0.2.1 dX3_add_30 rfl (lv_at hl 2 rfl) ?_
    refine q_iast S0 hw dC_11 (t0 := 0) (fun _ => rfl) rfl dX3_add_31 hf (fun s6 H locs hw hf => ?_)
    refine lv_aload_n S0.1 S0.2.1 dX3_add_32 rfl (lv_at hl 0 rfl) ?_
    refine gX3_node S0 hw kw_125 dX3_add_33 ?_
    refine lv_aload_n S0.1 S0.2.1 dX3_add_36 rfl (lv_at hl 0 rfl) ?_
    refine gX3_size S0 hw kw_129 dX3_add_37 hf (fun v7 hf => ?_)
    refine lv_iload_n S0.1 S0.2.1 dX3_add_40 rfl (lv_at hl 3 rfl) ?_
    refine q_iast S0 hw dC_12 (t0 := 0) (fun _ => rfl) rfl dX3_add_41 hf (fun s8 H locs hw hf => ?_)
    refine lv_aload_n S0.1 S0.2.1 dX3_add_42 rfl (lv_at hl 0 rfl) ?_
    refine gX3_number S0 hw kw_127 dX3_add_43 ?_
    refine lv_aload_n S0.1 S0.2.1 dX3_add_46 rfl (lv_at hl 0 rfl) ?_
    refine gX3_size S0 hw kw_129 dX3_add_47 hf (fun v9 hf => ?_)
    refine lv_iload S0.1 S0.2.1 dX3_add_50 (lv_at hl 4 rfl) ?_
    refine q_iast S0 hw dC_13 (t0 := 0) (fun _ => rfl) rfl dX3_add_52 hf (fun s10 H locs hw hf => ?_)
    refine lv_aload_n S0.1 S0.2.1 dX3_add_53 rfl (lv_at hl 0 rfl) ?_
    refine lv_dup S0.1 S0.2.1 dX3_add_54 rfl ?_
    refine gX3_size S0 hw kw_129 dX3_add_55 hf (fun v11 hf => ?_)
    refine lv_iconst (v := 1) S0.1 S0.2.1 dX3_add_58 (by decide) ?_
    refine lv_iadd S0.1 S0.2.1 dX3_add_59 (q_top hf (fun v12 hf => ?_))
    refine pX3_size S0 hw kw_129 dX3_add_60 hf (fun s13 H locs hw hf => ?_)
    refine lv_iconst (v := 1) S0.1 S0.2.1 dX3_add_63 (by decide) ?_
    exact hret dX3_add_64 hw hf
  · replace hf := q_neg c2 hf
    refine lv_iconst (v := 0) S0.1 S0.2.1 dX3_add_10 (by decide) ?_
    exact hret dX3_add_11 hw hf
theorem qyX3_tells : qY yX3_tells RX3 cX3_tells 2 (some .boolean) 1 := ⟨⟨kw_984, kw_985, kw_4, kw_986⟩, rfl, by decide, by decide, by decide +kernel⟩
def fX3_tells_34 (F : Nat) (t0 : Int32) (σ : qS) : Option (Int32 × qS) :=
  gbl t0 (some (t0, σ))
def fX3_tells_29 (F : Nat) (σ : qS) : Option (Int32 × qS) :=
  fX3_tells_34 F 1 σ
def fX3_tells (F : Nat) (p1 : Int32) (σ : qS) : Option (Int32 × qS) :=
  ldi 1024 (σ.1 11 0) p1 fun v1 => (if v1 = 0 then (fX3_tells_29 F σ) else (ldi 1024 (σ.1 11 0) p1 fun v3 => (if v3 = 1 then (fX3_tells_29 F σ) else (ldi 1024 (σ.1 11 0) p1 fun v5 => (if v5 = 2 then (fX3_tells_29 F σ) else (fX3_tells_34 F 0 σ))))))
set_option maxRecDepth 100000 in
set_option maxHeartbeats 4000000 in
theorem wX3_tells (l : Launch) (D : va_G) (Y : Nat → ClassId) (ad : qAd) (F : Nat) (p1 : Int32) (σ : qS) : qCi l yX3_tells cX3_tells 2 (some .boolean) 0 0 D (cL Y) (qT Y) ad [.ref (ad 9 0), .int p1] σ (fX3_tells F p1 σ) := by
  refine q_ofz (by decide) (Nat.le_of_ble_eq_true rfl) "Leasehall$Log" rfl (fun p e s m below meth c A Q r0 S0 hf hw hret ls hl => ?_)
  replace hl : lv_has ls 2 [(0, .ref (ad 9 0)), (1, .int p1)] := hl
  unfold fX3_tells at hf
  have b34 : ∀ (t0 : Int32) (σ : qS), fX3_tells_34 F t0 σ = some r0 → qAt p l e (qRm 0 0) s m ([.ref (ad 9 0), .int p1] : List Value).toArray below meth c Q D (cL Y) (qT Y) A ad 2 0 0 34 [] [.int t0] σ := by
    clear hf hw hl ls
    intro t0 σ hf H locs ls hw hl
    unfold fX3_tells_34 at hf
    exact hret dX3_tells_34 hw hf
  have b29 : ∀ (σ : qS), fX3_tells_29 F σ = some r0 → qAt p l e (qRm 0 0) s m ([.ref (ad 9 0), .int p1] : List Value).toArray below meth c Q D (cL Y) (qT Y) A ad 2 0 0 29 [] [] σ := by
    clear hf hw hl ls
    intro σ hf H locs ls hw hl
    unfold fX3_tells_29 at hf
    refine lv_iconst (v := 1) S0.1 S0.2.1 dX3_tells_29 (by decide) ?_
    refine lv_goto (tgt := 34) S0.1 S0.2.1 dX3_tells_30 (by decide) ?_
    exact b34 1 σ hf _ _ _ hw (lv_sub hl [] rfl)
  refine lv_aload_n S0.1 S0.2.1 dX3_tells_0 rfl (lv_at hl 0 rfl) ?_
  refine gX3_kind S0 hw kw_123 dX3_tells_1 ?_
  refine lv_iload_n S0.1 S0.2.1 dX3_tells_4 rfl (lv_at hl 1 rfl) ?_
  refine q_iald S0 hw dC_11 (t0 := 0) rfl rfl dX3_tells_5 hf (fun v1 hf => ?_)
  refine lv_if_eq (tgt := 29) S0.1 S0.2.1 dX3_tells_6 (by decide) (fun c2 => ?_) (fun c2 => ?_)
  · replace hf := q_pos c2 hf
    exact b29 σ hf _ _ _ hw (lv_sub hl [] rfl)
  · replace hf := q_neg c2 hf
    refine lv_aload_n S0.1 S0.2.1 dX3_tells_9 rfl (lv_at hl 0 rfl) ?_
    refine gX3_kind S0 hw kw_123 dX3_tells_10 ?_
    refine lv_iload_n S0.1 S0.2.1 dX3_tells_13 rfl (lv_at hl 1 rfl) ?_
    refine q_iald S0 hw dC_11 (t0 := 0) rfl rfl dX3_tells_14 hf (fun v3 hf => ?_)
    refine lv_iconst (v := 1) S0.1 S0.2.1 dX3_tells_15 (by decide) ?_
    refine lv_icmp_eq (tgt := 29) S0.1 S0.2.1 dX3_tells_16 (by decide) (fun c4 => ?_) (fun c4 => ?_)
    · replace hf := q_pos c4 hf
      exact b29 σ hf _ _ _ hw (lv_sub hl [] rfl)
    · replace hf := q_neg c4 hf
      refine lv_aload_n S0.1 S0.2.1 dX3_tells_19 rfl (lv_at hl 0 rfl) ?_
      refine gX3_kind S0 hw kw_123 dX3_tells_20 ?_
      refine lv_iload_n S0.1 S0.2.1 dX3_tells_23 rfl (lv_at hl 1 rfl) ?_
      refine q_iald S0 hw dC_11 (t0 := 0) rfl rfl dX3_tells_24 hf (fun v5 hf => ?_)
      refine lv_iconst (v := 2) S0.1 S0.2.1 dX3_tells_25 (by decide) ?_
      refine lv_icmp_ne (tgt := 33) S0.1 S0.2.1 dX3_tells_26 (by decide) (fun c6 => ?_) (fun c6 => ?_)
      · replace hf := q_neg c6 hf
        refine lv_iconst (v := 0) S0.1 S0.2.1 dX3_tells_33 (by decide) ?_
        exact b34 0 σ hf _ _ _ hw (lv_sub hl [] rfl)
      · replace hf := q_pos c6 hf
        exact b29 σ hf _ _ _ hw (lv_sub hl [] rfl)
theorem qyX4_takeOldest : qY yX4_takeOldest RX4 cX4_takeOldest 2 (some .int) 0 := ⟨⟨kw_1031, kw_1032, kw_19, kw_1033⟩, rfl, by decide, by decide, by decide +kernel⟩
def fX4_takeOldest (F : Nat) (i0 : Nat) (σ : qS) : Option (Int32 × qS) :=
  gnl i0 (σ.2 0 0) (nm (σ.1 55 i0 1) fun v1 => (gnl i0 (σ.2 0 0) (nm (σ.1 55 i0 2) fun v2 => (if v1 < v2 then (gnl i0 (σ.2 0 0) (gnl i0 (σ.2 0 0) (nm (σ.1 55 i0 1) fun v4 => (gnl i0 (σ.2 0 0) (ldi ((σ.2 3 i0)) (σ.1 58 i0) v4 fun v5 => (gnl i0 (σ.2 0 0) (nm (σ.1 55 i0 1) fun v6 => (nm (v6 + 1) fun v7 => (gnl i0 (σ.2 0 0) (nm (qI σ 55 i0 1 v7) fun s8 => (some (v5, s8)))))))))))) else (some ((-100), σ))))))
set_option maxRecDepth 100000 in
set_option maxHeartbeats 4000000 in
theorem wX4_takeOldest (l : Launch) (D : va_G) (Y : Nat → ClassId) (ad : qAd) (F : Nat) (i0 : Nat) (σ : qS) : qCi l yX4_takeOldest cX4_takeOldest 2 (some .int) 0 0 D (cL Y) (qT Y) ad [.ref (ad 55 i0)] σ (fX4_takeOldest F i0 σ) := by
  refine q_ofi (by decide) (Nat.le_of_ble_eq_true rfl) "Leasehall$Row" rfl (fun p e s m below meth c A Q r0 S0 hf hw hret ls hl => ?_)
  replace hl : lv_has ls 2 [(0, .ref (ad 55 i0))] := hl
  unfold fX4_takeOldest at hf
  refine lv_aload_n S0.1 S0.2.1 dX4_takeOldest_0 rfl (lv_at hl 0 rfl) ?_
  obtain ⟨hd, hf⟩ := gnl_some hf
  refine gX4_first S0 hw hd kw_458 dX4_takeOldest_1 hf (fun v1 hf => ?_)
  refine lv_aload_n S0.1 S0.2.1 dX4_takeOldest_4 rfl (lv_at hl 0 rfl) ?_
  obtain ⟨hd, hf⟩ := gnl_some hf
  refine gX4_end S0 hw hd kw_459 dX4_takeOldest_5 hf (fun v2 hf => ?_)
  refine lv_icmp_lt (tgt := 14) S0.1 S0.2.1 dX4_takeOldest_8 (by decide) (fun c3 => ?_) (fun c3 => ?_)
  · replace hf := q_pos c3 hf
    refine lv_aload_n S0.1 S0.2.1 dX4_takeOldest_14 rfl (lv_at hl 0 rfl) ?_
    obtain ⟨hd, hf⟩ := gnl_some hf
    refine gX4_told S0 hw hd kw_457 dX4_takeOldest_15 ?_
    refine lv_aload_n S0.1 S0.2.1 dX4_takeOldest_18 rfl (lv_at hl 0 rfl) ?_
    obtain ⟨hd, hf⟩ := gnl_some hf
    refine gX4_first S0 hw hd kw_458 dX4_takeOldest_19 hf (fun v4 hf => ?_)
    obtain ⟨hd, hf⟩ := gnl_some hf
    refine q_iald (k := 58) (i := i0) S0 hw hd (t0 := 0) rfl rfl dX4_takeOldest_22 hf (fun v5 hf => ?_)
    refine lv_istore_n (lv' := [(1, .int v5), (0, .ref (ad 55 i0))]) S0.1 S0.2.1 dX4_takeOldest_23 rfl hl (by decide) rfl (fun ls hl => ?_)
    refine lv_aload_n S0.1 S0.2.1 dX4_takeOldest_24 rfl (lv_at hl 1 rfl) ?_
    refine lv_dup S0.1 S0.2.1 dX4_takeOldest_25 rfl ?_
    obtain ⟨hd, hf⟩ := gnl_some hf
    refine gX4_first S0 hw hd kw_458 dX4_takeOldest_26 hf (fun v6 hf => ?_)
    refine lv_iconst (v := 1) S0.1 S0.2.1 dX4_takeOldest_29 (by decide) ?_
    refine lv_iadd S0.1 S0.2.1 dX4_takeOldest_30 (q_top hf (fun v7 hf => ?_))
    obtain ⟨hd, hf⟩ := gnl_some hf
    refine pX4_first S0 hw hd kw_458 dX4_takeOldest_31 hf (fun s8 H locs hw hf => ?_)
    refine lv_iload_n S0.1 S0.2.1 dX4_takeOldest_34 rfl (lv_at hl 0 rfl) ?_
    exact hret dX4_takeOldest_35 hw hf
  · replace hf := q_neg c3 hf
    refine lv_bipush (v := (-100)) S0.1 S0.2.1 dX4_takeOldest_11 (by decide) ?_
    exact hret dX4_takeOldest_13 hw hf
theorem qyX7_copyFrom : qY yX7_copyFrom RX7 cX7_copyFrom 3 none 1 := ⟨⟨kw_308, kw_309, kw_3, kw_310⟩, rfl, by decide, by decide, by decide +kernel⟩
def fX7_copyFrom_2 (F : Nat) (i0 : Nat) (i1 : Nat) : Nat → Int32 → qS → Option qS
  | 0, _, _ => none
  | n + 1, x2, σ =>
  if 80 ≤ x2 then (some σ) else (ldi 80 (σ.1 31 i1) x2 fun v2 => (inx 80 x2 (gbl v2 (nm (qI σ 31 i0 x2.toNatClampNeg v2) fun s3 => (ldi 80 (s3.1 32 i1) x2 fun v4 => (inx 80 x2 (nm (qI s3 32 i0 x2.toNatClampNeg v4) fun s5 => (ldi 80 (s5.1 33 i1) x2 fun v6 => (inx 80 x2 (nm (qI s5 33 i0 x2.toNatClampNeg v6) fun s7 => (ldi 80 (s7.1 34 i1) x2 fun v8 => (inx 80 x2 (nm (qI s7 34 i0 x2.toNatClampNeg v8) fun s9 => (ldi 80 (s9.1 35 i1) x2 fun v10 => (inx 80 x2 (nm (qI s9 35 i0 x2.toNatClampNeg v10) fun s11 => (ldi 80 (s11.1 36 i1) x2 fun v12 => (inx 80 x2 (nm (qI s11 36 i0 x2.toNatClampNeg v12) fun s13 => (ldi 80 (s13.1 37 i1) x2 fun v14 => (inx 80 x2 (nm (qI s13 37 i0 x2.toNatClampNeg v14) fun s15 => (nm (x2 + 1) fun v16 => (fX7_copyFrom_2 F i0 i1 n v16 s15))))))))))))))))))))))))
def fX7_copyFrom (F : Nat) (i0 : Nat) (i1 : Nat) (σ : qS) : Option qS :=
  gnl i0 6 (gnl i1 6 (fX7_copyFrom_2 F i0 i1 F 0 σ))
set_option maxRecDepth 100000 in
set_option maxHeartbeats 4000000 in
theorem wX7_copyFrom (l : Launch) (D : va_G) (Y : Nat → ClassId) (ad : qAd) (F : Nat) (i0 : Nat) (i1 : Nat) (σ : qS) : qCv l yX7_copyFrom cX7_copyFrom 3 none 0 0 D (cL Y) (qT Y) ad [.ref (ad 30 i0), .ref (ad 30 i1)] σ (fX7_copyFrom F i0 i1 σ) := by
  refine q_ofv (by decide) (Nat.le_of_ble_eq_true rfl) "Leasehall$Tree" rfl (fun p e s m below meth c A Q r0 S0 hf hw hret ls hl => ?_)
  replace hl : lv_has ls 3 [(0, .ref (ad 30 i0)), (1, .ref (ad 30 i1))] := hl
  unfold fX7_copyFrom at hf
  obtain ⟨hg0, hf⟩ := gnl_some hf
  obtain ⟨hg1, hf⟩ := gnl_some hf
  have b2 : ∀ (n : Nat) (x2 : Int32) (σ : qS), fX7_copyFrom_2 F i0 i1 n x2 σ = some r0 → qAt p l e (qRm 0 0) s m ([.ref (ad 30 i0), .ref (ad 30 i1)] : List Value).toArray below meth c Q D (cL Y) (qT Y) A ad 3 0 0 2 [(0, .ref (ad 30 i0)), (1, .ref (ad 30 i1)), (2, .int x2)] [] σ := by
    clear hf hw hl ls
    intro n
    induction n with
    | zero => intro x2 σ hf; exact absurd hf (by rw [fX7_copyFrom_2]; exact nofun)
    | succ n hk2 =>
      intro x2 σ hf H locs ls hw hl
      rw [fX7_copyFrom_2] at hf
      refine lv_iload_n S0.1 S0.2.1 dX7_copyFrom_2 rfl (lv_at hl 2 rfl) ?_
      refine lv_bipush (v := 80) S0.1 S0.2.1 dX7_copyFrom_3 (by decide) ?_
      refine lv_icmp_ge (tgt := 98) S0.1 S0.2.1 dX7_copyFrom_5 (by decide) (fun c1 => ?_) (fun c1 => ?_)
      · replace hf := q_pos c1 hf
        exact hret dX7_copyFrom_98 hw hf
      · replace hf := q_neg c1 hf
        refine lv_aload_n S0.1 S0.2.1 dX7_copyFrom_8 rfl (lv_at hl 0 rfl) ?_
        refine gX7_here S0 hw hg0 kw_79 dX7_copyFrom_9 ?_
        refine lv_iload_n S0.1 S0.2.1 dX7_copyFrom_12 rfl (lv_at hl 2 rfl) ?_
        refine lv_aload_n S0.1 S0.2.1 dX7_copyFrom_13 rfl (lv_at hl 1 rfl) ?_
        refine gX7_here S0 hw hg1 kw_79 dX7_copyFrom_14 ?_
        refine lv_iload_n S0.1 S0.2.1 dX7_copyFrom_17 rfl (lv_at hl 2 rfl) ?_
        refine q_zald (k := 31) (i := i1) S0 hw hg1 (t0 := 1) rfl rfl dX7_copyFrom_18 hf (fun v2 hf => ?_)
        refine q_zast (k := 31) (i := i0) S0 hw hg0 (t0 := 1) (fun _ => rfl) rfl dX7_copyFrom_19 hf (fun s3 H locs hw hf => ?_)
        refine lv_aload_n S0.1 S0.2.1 dX7_copyFrom_20 rfl (lv_at hl 0 rfl) ?_
        refine gX7_value S0 hw hg0 kw_81 dX7_copyFrom_21 ?_
        refine lv_iload_n S0.1 S0.2.1 dX7_copyFrom_24 rfl (lv_at hl 2 rfl) ?_
        refine lv_aload_n S0.1 S0.2.1 dX7_copyFrom_25 rfl (lv_at hl 1 rfl) ?_
        refine gX7_value S0 hw hg1 kw_81 dX7_copyFrom_26 ?_
        refine lv_iload_n S0.1 S0.2.1 dX7_copyFrom_29 rfl (lv_at hl 2 rfl) ?_
        refine q_iald (k := 32) (i := i1) S0 hw hg1 (t0 := 0) rfl rfl dX7_copyFrom_30 hf (fun v4 hf => ?_)
        refine q_iast (k := 32) (i := i0) S0 hw hg0 (t0 := 0) (fun _ => rfl) rfl dX7_copyFrom_31 hf (fun s5 H locs hw hf => ?_)
        refine lv_aload_n S0.1 S0.2.1 dX7_copyFrom_32 rfl (lv_at hl 0 rfl) ?_
        refine gX7_valueVersion S0 hw hg0 kw_83 dX7_copyFrom_33 ?_
        refine lv_iload_n S0.1 S0.2.1 dX7_copyFrom_36 rfl (lv_at hl 2 rfl) ?_
        refine lv_aload_n S0.1 S0.2.1 dX7_copyFrom_37 rfl (lv_at hl 1 rfl) ?_
        refine gX7_valueVersion S0 hw hg1 kw_83 dX7_copyFrom_38 ?_
        refine lv_iload_n S0.1 S0.2.1 dX7_copyFrom_41 rfl (lv_at hl 2 rfl) ?_
        refine q_iald (k := 33) (i := i1) S0 hw hg1 (t0 := 0) rfl rfl dX7_copyFrom_42 hf (fun v6 hf => ?_)
        refine q_iast (k := 33) (i := i0) S0 hw hg0 (t0 := 0) (fun _ => rfl) rfl dX7_copyFrom_43 hf (fun s7 H locs hw hf => ?_)
        refine lv_aload_n S0.1 S0.2.1 dX7_copyFrom_44 rfl (lv_at hl 0 rfl) ?_
        refine gX7_childVersion S0 hw hg0 kw_85 dX7_copyFrom_45 ?_
        refine lv_iload_n S0.1 S0.2.1 dX7_copyFrom_48 rfl (lv_at hl 2 rfl) ?_
        refine lv_aload_n S0.1 S0.2.1 dX7_copyFrom_49 rfl (lv_at hl 1 rfl) ?_
        refine gX7_childVersion S0 hw hg1 kw_85 dX7_copyFrom_50 ?_
        refine lv_iload_n S0.1 S0.2.1 dX7_copyFrom_53 rfl (lv_at hl 2 rfl) ?_
        refine q_iald (k := 34) (i := i1) S0 hw hg1 (t0 := 0) rfl rfl dX7_copyFrom_54 hf (fun v8 hf => ?_)
        refine q_iast (k := 34) (i := i0) S0 hw hg0 (t0 := 0) (fun _ => rfl) rfl dX7_copyFrom_55 hf (fun s9 H locs hw hf => ?_)
        refine lv_aload_n S0.1 S0.2.1 dX7_copyFrom_56 rfl (lv_at hl 0 rfl) ?_
        refine gX7_rightsVersion S0 hw hg0 kw_86 dX7_copyFrom_57 ?_
        refine lv_iload_n S0.1 S0.2.1 dX7_copyFrom_60 rfl (lv_at hl 2 rfl) ?_
        refine lv_aload_n S0.1 S0.2.1 dX7_copyFrom_61 rfl (lv_at hl 1 rfl) ?_
        refine gX7_rightsVersion S0 hw hg1 kw_86 dX7_copyFrom_62 ?_
        refine lv_iload_n S0.1 S0.2.1 dX7_copyFrom_65 rfl (lv_at hl 2 rfl) ?_
        refine q_iald (k := 35) (i := i1) S0 hw hg1 (t0 := 0) rfl rfl dX7_copyFrom_66 hf (fun v10 hf => ?_)
        refine q_iast (k := 35) (i := i0) S0 hw hg0 (t0 := 0) (fun _ => rfl) rfl dX7_copyFrom_67 hf (fun s11 H locs hw hf => ?_)
        refine lv_aload_n S0.1 S0.2.1 dX7_copyFrom_68 rfl (lv_at hl 0 rfl) ?_
        refine gX7_rights S0 hw hg0 kw_87 dX7_copyFrom_69 ?_
        refine lv_iload_n S0.1 S0.2.1 dX7_copyFrom_72 rfl (lv_at hl 2 rfl) ?_
        refine lv_aload_n S0.1 S0.2.1 dX7_copyFrom_73 rfl (lv_at hl 1 rfl) ?_
        refine gX7_rights S0 hw hg1 kw_87 dX7_copyFrom_74 ?_
        refine lv_iload_n S0.1 S0.2.1 dX7_copyFrom_77 rfl (lv_at hl 2 rfl) ?_
        refine q_iald (k := 36) (i := i1) S0 hw hg1 (t0 := 0) rfl rfl dX7_copyFrom_78 hf (fun v12 hf => ?_)
        refine q_iast (k := 36) (i := i0) S0 hw hg0 (t0 := 0) (fun _ => rfl) rfl dX7_copyFrom_79 hf (fun s13 H locs hw hf => ?_)
        refine lv_aload_n S0.1 S0.2.1 dX7_copyFrom_80 rfl (lv_at hl 0 rfl) ?_
        refine gX7_numbered S0 hw hg0 kw_88 dX7_copyFrom_81 ?_
        refine lv_iload_n S0.1 S0.2.1 dX7_copyFrom_84 rfl (lv_at hl 2 rfl) ?_
        refine lv_aload_n S0.1 S0.2.1 dX7_copyFrom_85 rfl (lv_at hl 1 rfl) ?_
        refine gX7_numbered S0 hw hg1 kw_88 dX7_copyFrom_86 ?_
        refine lv_iload_n S0.1 S0.2.1 dX7_copyFrom_89 rfl (lv_at hl 2 rfl) ?_
        refine q_iald (k := 37) (i := i1) S0 hw hg1 (t0 := 0) rfl rfl dX7_copyFrom_90 hf (fun v14 hf => ?_)
        refine q_iast (k := 37) (i := i0) S0 hw hg0 (t0 := 0) (fun _ => rfl) rfl dX7_copyFrom_91 hf (fun s15 H locs hw hf => ?_)
        refine q_iinc S0 (v0 := 1) dX7_copyFrom_92 hl (k := 2) rfl (by decide) (by decide) rfl hf (fun v16 ls hl hf => ?_)
        refine lv_goto (tgt := 2) S0.1 S0.2.1 dX7_copyFrom_95 (by decide) ?_
        exact hk2 v16 s15 hf _ _ _ hw (lv_sub hl [1, 2, 0] rfl)
  refine lv_iconst (v := 0) S0.1 S0.2.1 dX7_copyFrom_0 (by decide) ?_
  refine lv_istore_n (lv' := [(2, .int 0), (0, .ref (ad 30 i0)), (1, .ref (ad 30 i1))]) S0.1 S0.2.1 dX7_copyFrom_1 rfl hl (by decide) rfl (fun ls hl => ?_)
  exact b2 F 0 σ hf _ _ _ hw (lv_sub hl [1, 2, 0] rfl)
theorem qyX7_dropHeld : qY yX7_dropHeld RX7 cX7_dropHeld 2 none 0 := ⟨⟨kw_1136, kw_1137, kw_3, kw_1138⟩, rfl, by decide, by decide, by decide +kernel⟩
def fX7_dropHeld_26 (F : Nat) (i0 : Nat) (k2 : Int32 → qS → Option qS) (x1 : Int32) (σ : qS) : Option qS :=
  nm (x1 + 1) fun v5 => (k2 v5 σ)
def fX7_dropHeld_2 (F : Nat) (i0 : Nat) : Nat → Int32 → qS → Option qS
  | 0, _, _ => none
  | n + 1, x1, σ =>
  if 80 ≤ x1 then (some σ) else (bnd2 (fX1_isHeld F x1 σ) fun v3 s2 => (if v3 = 0 then (fX7_dropHeld_26 F i0 (fX7_dropHeld_2 F i0 n) x1 s2) else (inx 80 x1 (gbl 0 (nm (qI s2 31 i0 x1.toNatClampNeg 0) fun s6 => (fX7_dropHeld_26 F i0 (fX7_dropHeld_2 F i0 n) x1 s6))))))
def fX7_dropHeld (F : Nat) (i0 : Nat) (σ : qS) : Option qS :=
  gnl i0 6 (fX7_dropHeld_2 F i0 F 1 σ)
set_option maxRecDepth 100000 in
set_option maxHeartbeats 4000000 in
theorem wX7_dropHeld (l : Launch) (D : va_G) (Y : Nat → ClassId) (ad : qAd) (F : Nat) (i0 : Nat) (σ : qS) : qCv l yX7_dropHeld cX7_dropHeld 2 none 1 21 D (cL Y) (qT Y) ad [.ref (ad 30 i0)] σ (fX7_dropHeld F i0 σ) := by
  refine q_ofv (by decide) (Nat.le_of_ble_eq_true rfl) "Leasehall$Tree" rfl (fun p e s m below meth c A Q r0 S0 hf hw hret ls hl => ?_)
  replace hl : lv_has ls 2 [(0, .ref (ad 30 i0))] := hl
  unfold fX7_dropHeld at hf
  obtain ⟨hg0, hf⟩ := gnl_some hf
  have b26 : ∀ (k2 : Int32 → qS → Option qS) (hk2 : ∀ (x1 : Int32) (σ : qS), k2 x1 σ = some r0 → qAt p l e (qRm 1 21) s m ([.ref (ad 30 i0)] : List Value).toArray below meth c Q D (cL Y) (qT Y) A ad 2 0 0 2 [(0, .ref (ad 30 i0)), (1, .int x1)] [] σ) (x1 : Int32) (σ : qS), fX7_dropHeld_26 F i0 k2 x1 σ = some r0 → qAt p l e (qRm 1 21) s m ([.ref (ad 30 i0)] : List Value).toArray below meth c Q D (cL Y) (qT Y) A ad 2 0 0 26 [(0, .ref (ad 30 i0)), (1, .int x1)] [] σ := by
    clear hf hw hl ls
    intro k2 hk2
    intro x1 σ hf H locs ls hw hl
    unfold fX7_dropHeld_26 at hf
    refine q_iinc S0 (v0 := 1) dX7_dropHeld_26 hl (k := 1) rfl (by decide) (by decide) rfl hf (fun v5 ls hl hf => ?_)
    refine lv_goto (tgt := 2) S0.1 S0.2.1 dX7_dropHeld_29 (by decide) ?_
    exact hk2 v5 σ hf _ _ _ hw (lv_sub hl [1, 0] rfl)
  have b2 : ∀ (n : Nat) (x1 : Int32) (σ : qS), fX7_dropHeld_2 F i0 n x1 σ = some r0 → qAt p l e (qRm 1 21) s m ([.ref (ad 30 i0)] : List Value).toArray below meth c Q D (cL Y) (qT Y) A ad 2 0 0 2 [(0, .ref (ad 30 i0)), (1, .int x1)] [] σ := by
    clear hf hw hl ls
    intro n
    induction n with
    | zero => intro x1 σ hf; exact absurd hf (by rw [fX7_dropHeld_2]; exact nofun)
    | succ n hk2 =>
      intro x1 σ hf H locs ls hw hl
      rw [fX7_dropHeld_2] at hf
      refine lv_iload_n S0.1 S0.2.1 dX7_dropHeld_2 rfl (lv_at hl 1 rfl) ?_
      refine lv_bipush (v := 80) S0.1 S0.2.1 dX7_dropHeld_3 (by decide) ?_
      refine lv_icmp_ge (tgt := 32) S0.1 S0.2.1 dX7_dropHeld_5 (by decide) (fun c1 => ?_) (fun c1 => ?_)
      · replace hf := q_pos c1 hf
        exact hret dX7_dropHeld_32 hw hf
      · replace hf := q_neg c1 hf
        refine lv_aload_n S0.1 S0.2.1 dX7_dropHeld_8 rfl (lv_at hl 0 rfl) ?_
        refine gX7_births S0 hw hg0 kw_78 dX7_dropHeld_9 ?_
        refine lv_iload_n S0.1 S0.2.1 dX7_dropHeld_12 rfl (lv_at hl 1 rfl) ?_
        refine q_calli S0 hw (As := [.int x1]) (rest := []) (wX1_isHeld l D Y ad F x1 σ) qyX1_isHeld kw_1139 ⟨Nat.le_of_ble_eq_true rfl, Nat.le_of_ble_eq_true rfl⟩ dC_1 rfl rfl rfl rfl hl.1 (Nat.le_of_ble_eq_true rfl) dX7_dropHeld_13 ⟨Nat.le_refl _, Nat.le_refl _⟩ rfl hf (fun v3 s2 H locs hw hf => ?_)
        refine lv_if_eq (tgt := 26) S0.1 S0.2.1 dX7_dropHeld_16 (by decide) (fun c4 => ?_) (fun c4 => ?_)
        · replace hf := q_pos c4 hf
          exact b26 (fX7_dropHeld_2 F i0 n) hk2 x1 s2 hf _ _ _ hw (lv_sub hl [0, 1] rfl)
        · replace hf := q_neg c4 hf
          refine lv_aload_n S0.1 S0.2.1 dX7_dropHeld_19 rfl (lv_at hl 0 rfl) ?_
          refine gX7_here S0 hw hg0 kw_79 dX7_dropHeld_20 ?_
          refine lv_iload_n S0.1 S0.2.1 dX7_dropHeld_23 rfl (lv_at hl 1 rfl) ?_
          refine lv_iconst (v := 0) S0.1 S0.2.1 dX7_dropHeld_24 (by decide) ?_
          refine q_zast (k := 31) (i := i0) S0 hw hg0 (t0 := 1) (fun _ => rfl) rfl dX7_dropHeld_25 hf (fun s6 H locs hw hf => ?_)
          exact b26 (fX7_dropHeld_2 F i0 n) hk2 x1 s6 hf _ _ _ hw (lv_sub hl [0, 1] rfl)
  refine lv_iconst (v := 1) S0.1 S0.2.1 dX7_dropHeld_0 (by decide) ?_
  refine lv_istore_n (lv' := [(1, .int 1), (0, .ref (ad 30 i0))]) S0.1 S0.2.1 dX7_dropHeld_1 rfl hl (by decide) rfl (fun ls hl => ?_)
  exact b2 F 1 σ hf _ _ _ hw (lv_sub hl [1, 0] rfl)
theorem qyX7_appear : qY yX7_appear RX7 cX7_appear 4 none 3 := ⟨⟨kw_657, kp_13, kw_3, kw_658⟩, rfl, by decide, by decide, by decide +kernel⟩
def fX7_appear_61 (F : Nat) (i0 : Nat) (σ : qS) : Option qS :=
  some σ
def fX7_appear (F : Nat) (i0 : Nat) (p1 : Int32) (p2 : Int32) (p3 : Int32) (σ : qS) : Option qS :=
  gnl i0 6 (inx 80 p1 (gbl 1 (nm (qI σ 31 i0 p1.toNatClampNeg 1) fun s1 => (inx 80 p1 (nm (qI s1 32 i0 p1.toNatClampNeg p3) fun s2 => (ldi 80 (s2.1 36 i0) p2 fun v3 => (inx 80 p1 (nm (qI s2 36 i0 p1.toNatClampNeg v3) fun s4 => (ldi 80 (s4.1 34 i0) p2 fun v5 => (nm (v5 + 1) fun v6 => (inx 80 p2 (nm (qI s4 34 i0 p2.toNatClampNeg v6) fun s7 => (ldi 80 (s7.1 3 0) p1 fun v8 => (if v8 < 1000 then (fX7_appear_61 F i0 s7) else (ldi 80 (s7.1 37 i0) p2 fun v10 => (nm (v10 + 1) fun v11 => (inx 80 p2 (nm (qI s7 37 i0 p2.toNatClampNeg v11) fun s12 => (fX7_appear_61 F i0 s12)))))))))))))))))))
set_option maxRecDepth 100000 in
set_option maxHeartbeats 4000000 in
theorem wX7_appear (l : Launch) (D : va_G) (Y : Nat → ClassId) (ad : qAd) (F : Nat) (i0 : Nat) (p1 : Int32) (p2 : Int32) (p3 : Int32) (σ : qS) : qCv l yX7_appear cX7_appear 4 none 0 0 D (cL Y) (qT Y) ad [.ref (ad 30 i0), .int p1, .int p2, .int p3] σ (fX7_appear F i0 p1 p2 p3 σ) := by
  refine q_ofv (by decide) (Nat.le_of_ble_eq_true rfl) "Leasehall$Tree" rfl (fun p e s m below meth c A Q r0 S0 hf hw hret ls hl => ?_)
  replace hl : lv_has ls 4 [(0, .ref (ad 30 i0)), (1, .int p1), (2, .int p2), (3, .int p3)] := hl
  unfold fX7_appear at hf
  obtain ⟨hg0, hf⟩ := gnl_some hf
  have b61 : ∀ (σ : qS), fX7_appear_61 F i0 σ = some r0 → qAt p l e (qRm 0 0) s m ([.ref (ad 30 i0), .int p1, .int p2, .int p3] : List Value).toArray below meth c Q D (cL Y) (qT Y) A ad 4 0 0 61 [] [] σ := by
    clear hf hw hl ls
    intro σ hf H locs ls hw hl
    unfold fX7_appear_61 at hf
    exact hret dX7_appear_61 hw hf
  refine lv_aload_n S0.1 S0.2.1 dX7_appear_0 rfl (lv_at hl 0 rfl) ?_
  refine gX7_here S0 hw hg0 kw_79 dX7_appear_1 ?_
  refine lv_iload_n S0.1 S0.2.1 dX7_appear_4 rfl (lv_at hl 1 rfl) ?_
  refine lv_iconst (v := 1) S0.1 S0.2.1 dX7_appear_5 (by decide) ?_
  refine q_zast (k := 31) (i := i0) S0 hw hg0 (t0 := 1) (fun _ => rfl) rfl dX7_appear_6 hf (fun s1 H locs hw hf => ?_)
  refine lv_aload_n S0.1 S0.2.1 dX7_appear_7 rfl (lv_at hl 0 rfl) ?_
  refine gX7_value S0 hw hg0 kw_81 dX7_appear_8 ?_
  refine lv_iload_n S0.1 S0.2.1 dX7_appear_11 rfl (lv_at hl 1 rfl) ?_
  refine lv_iload_n S0.1 S0.2.1 dX7_appear_12 rfl (lv_at hl 3 rfl) ?_
  refine q_iast (k := 32) (i := i0) S0 hw hg0 (t0 := 0) (fun _ => rfl) rfl dX7_appear_13 hf (fun s2 H locs hw hf => ?_)
  refine lv_aload_n S0.1 S0.2.1 dX7_appear_14 rfl (lv_at hl 0 rfl) ?_
  refine gX7_rights S0 hw hg0 kw_87 dX7_appear_15 ?_
  refine lv_iload_n S0.1 S0.2.1 dX7_appear_18 rfl (lv_at hl 1 rfl) ?_
  refine lv_aload_n S0.1 S0.2.1 dX7_appear_19 rfl (lv_at hl 0 rfl) ?_
  refine gX7_rights S0 hw hg0 kw_87 dX7_appear_20 ?_
  refine lv_iload_n S0.1 S0.2.1 dX7_appear_23 rfl (lv_at hl 2 rfl) ?_
  refine q_iald (k := 36) (i := i0) S0 hw hg0 (t0 := 0) rfl rfl dX7_appear_24 hf (fun v3 hf => ?_)
  refine q_iast (k := 36) (i := i0) S0 hw hg0 (t0 := 0) (fun _ => rfl) rfl dX7_appear_25 hf (fun s4 H locs hw hf => ?_)
  refine lv_aload_n S0.1 S0.2.1 dX7_appear_26 rfl (lv_at hl 0 rfl) ?_
  refine gX7_childVersion S0 hw hg0 kw_85 dX7_appear_27 ?_
  refine lv_iload_n S0.1 S0.2.1 dX7_appear_30 rfl (lv_at hl 2 rfl) ?_
  refine lv_dup2_11 S0.1 S0.2.1 dX7_appear_31 rfl rfl ?_
  refine q_iald (k := 34) (i := i0) S0 hw hg0 (t0 := 0) rfl rfl dX7_appear_32 hf (fun v5 hf => ?_)
  refine lv_iconst (v := 1) S0.1 S0.2.1 dX7_appear_33 (by decide) ?_
  refine lv_iadd S0.1 S0.2.1 dX7_appear_34 (q_top hf (fun v6 hf => ?_))
  refine q_iast (k := 34) (i := i0) S0 hw hg0 (t0 := 0) (fun _ => rfl) rfl dX7_appear_35 hf (fun s7 H locs hw hf => ?_)
  refine lv_aload_n S0.1 S0.2.1 dX7_appear_36 rfl (lv_at hl 0 rfl) ?_
  refine gX7_births S0 hw hg0 kw_78 dX7_appear_37 ?_
  refine gX1_name S0 hw kw_45 dX7_appear_40 ?_
  refine lv_iload_n S0.1 S0.2.1 dX7_appear_43 rfl (lv_at hl 1 rfl) ?_
  refine q_iald S0 hw dC_3 (t0 := 0) rfl rfl dX7_appear_44 hf (fun v8 hf => ?_)
  refine lv_sipush (v := 1000) S0.1 S0.2.1 dX7_appear_45 (by decide) ?_
  refine lv_icmp_lt (tgt := 61) S0.1 S0.2.1 dX7_appear_48 (by decide) (fun c9 => ?_) (fun c9 => ?_)
  · replace hf := q_pos c9 hf
    exact b61 s7 hf _ _ _ hw (lv_sub hl [] rfl)
  · replace hf := q_neg c9 hf
    refine lv_aload_n S0.1 S0.2.1 dX7_appear_51 rfl (lv_at hl 0 rfl) ?_
    refine gX7_numbered S0 hw hg0 kw_88 dX7_appear_52 ?_
    refine lv_iload_n S0.1 S0.2.1 dX7_appear_55 rfl (lv_at hl 2 rfl) ?_
    refine lv_dup2_11 S0.1 S0.2.1 dX7_appear_56 rfl rfl ?_
    refine q_iald (k := 37) (i := i0) S0 hw hg0 (t0 := 0) rfl rfl dX7_appear_57 hf (fun v10 hf => ?_)
    refine lv_iconst (v := 1) S0.1 S0.2.1 dX7_appear_58 (by decide) ?_
    refine lv_iadd S0.1 S0.2.1 dX7_appear_59 (q_top hf (fun v11 hf => ?_))
    refine q_iast (k := 37) (i := i0) S0 hw hg0 (t0 := 0) (fun _ => rfl) rfl dX7_appear_60 hf (fun s12 H locs hw hf => ?_)
    exact b61 s12 hf _ _ _ hw (lv_sub hl [] rfl)
theorem qyX7_giveRights : qY yX7_giveRights RX7 cX7_giveRights 6 none 3 := ⟨⟨kw_661, kp_14, kw_3, kw_662⟩, rfl, by decide, by decide, by decide +kernel⟩
def fX7_giveRights_99 (F : Nat) (i0 : Nat) (k3 : Int32 → Int32 → Int32 → Int32 → qS → Option qS) (x1 : Int32) (x2 : Int32) (x3 : Int32) (x4 : Int32) (σ : qS) : Option qS :=
  nm (x4 + 1) fun v7 => (k3 x1 x2 x3 v7 σ)
def fX7_giveRights_69 (F : Nat) (i0 : Nat) (k3 : Int32 → Int32 → Int32 → Int32 → qS → Option qS) (x1 : Int32) (x2 : Int32) (x3 : Int32) (x4 : Int32) (t1 : Int32) (t2 : Int32) (σ : qS) : Option qS :=
  inx 80 t1 (gbl t2 (nm (qI σ 39 i0 t1.toNatClampNeg t2) fun s4 => (ldi 80 (s4.1 39 i0) x4 fun v5 => (if v5 = 0 then (fX7_giveRights_99 F i0 k3 x1 x2 x3 x4 s4) else (inx 80 x4 (nm (qI s4 36 i0 x4.toNatClampNeg x2) fun s8 => (ldi 80 (s8.1 35 i0) x4 fun v9 => (nm (v9 + 1) fun v10 => (inx 80 x4 (nm (qI s8 35 i0 x4.toNatClampNeg v10) fun s11 => (fX7_giveRights_99 F i0 k3 x1 x2 x3 x4 s11)))))))))))
def fX7_giveRights_64 (F : Nat) (i0 : Nat) (k3 : Int32 → Int32 → Int32 → Int32 → qS → Option qS) (x1 : Int32) (x2 : Int32) (x3 : Int32) (x4 : Int32) (t1 : Int32) (σ : qS) : Option qS :=
  fX7_giveRights_69 F i0 k3 x1 x2 x3 x4 t1 1 σ
def fX7_giveRights_68 (F : Nat) (i0 : Nat) (k3 : Int32 → Int32 → Int32 → Int32 → qS → Option qS) (x1 : Int32) (x2 : Int32) (x3 : Int32) (x4 : Int32) (t1 : Int32) (σ : qS) : Option qS :=
  fX7_giveRights_69 F i0 k3 x1 x2 x3 x4 t1 0 σ
def fX7_giveRights_3 (F : Nat) (i0 : Nat) : Nat → Int32 → Int32 → Int32 → Int32 → qS → Option qS
  | 0, _, _, _, _, _ => none
  | n + 1, x1, x2, x3, x4, σ =>
  if 80 ≤ x4 then (some σ) else (ldi 80 (σ.1 2 0) x4 fun v2 => (if x4 = x1 then (fX7_giveRights_64 F i0 (fX7_giveRights_3 F i0 n) x1 x2 x3 x4 x4 σ) else (if x3 = 0 then (fX7_giveRights_68 F i0 (fX7_giveRights_3 F i0 n) x1 x2 x3 x4 x4 σ) else (ldi 80 (σ.1 31 i0) x4 fun v13 => (if v13 = 0 then (fX7_giveRights_68 F i0 (fX7_giveRights_3 F i0 n) x1 x2 x3 x4 x4 σ) else (if v2 < x1 then (fX7_giveRights_68 F i0 (fX7_giveRights_3 F i0 n) x1 x2 x3 x4 x4 σ) else (ldi 80 (σ.1 39 i0) v2 fun v16 => (if v16 = 0 then (fX7_giveRights_68 F i0 (fX7_giveRights_3 F i0 n) x1 x2 x3 x4 x4 σ) else (fX7_giveRights_64 F i0 (fX7_giveRights_3 F i0 n) x1 x2 x3 x4 x4 σ)))))))))
def fX7_giveRights (F : Nat) (i0 : Nat) (p1 : Int32) (p2 : Int32) (p3 : Int32) (σ : qS) : Option qS :=
  gnl i0 6 (fX7_giveRights_3 F i0 F p1 p2 p3 p1 σ)
set_option maxRecDepth 100000 in
set_option maxHeartbeats 4000000 in
theorem wX7_giveRights (l : Launch) (D : va_G) (Y : Nat → ClassId) (ad : qAd) (F : Nat) (i0 : Nat) (p1 : Int32) (p2 : Int32) (p3 : Int32) (σ : qS) : qCv l yX7_giveRights cX7_giveRights 6 none 0 0 D (cL Y) (qT Y) ad [.ref (ad 30 i0), .int p1, .int p2, .int p3] σ (fX7_giveRights F i0 p1 p2 p3 σ) := by
  refine q_ofv (by decide) (Nat.le_of_ble_eq_true rfl) "Leasehall$Tree" rfl (fun p e s m below meth c A Q r0 S0 hf hw hret ls hl => ?_)
  replace hl : lv_has ls 6 [(0, .ref (ad 30 i0)), (1, .int p1), (2, .int p2), (3, .int p3)] := hl
  unfold fX7_giveRights at hf
  obtain ⟨hg0, hf⟩ := gnl_some hf
  have b99 : ∀ (k3 : Int32 → Int32 → Int32 → Int32 → qS → Option qS) (hk3 : ∀ (x1 : Int32) (x2 : Int32) (x3 : Int32) (x4 : Int32) (σ : qS), k3 x1 x2 x3 x4 σ = some r0 → qAt p l e (qRm 0 0) s m ([.ref (ad 30 i0), .int p1, .int p2, .int p3] : List Value).toArray below meth c Q D (cL Y) (qT Y) A ad 6 0 0 3 [(0, .ref (ad 30 i0)), (1, .int x1), (2, .int x2), (3, .int x3), (4, .int x4)] [] σ) (x1 : Int32) (x2 : Int32) (x3 : Int32) (x4 : Int32) (σ : qS), fX7_giveRights_99 F i0 k3 x1 x2 x3 x4 σ = some r0 → qAt p l e (qRm 0 0) s m ([.ref (ad 30 i0), .int p1, .int p2, .int p3] : List Value).toArray below meth c Q D (cL Y) (qT Y) A ad 6 0 0 99 [(0, .ref (ad 30 i0)), (1, .int x1), (2, .int x2), (3, .int x3), (4, .int x4)] [] σ := by
    clear hf hw hl ls
    intro k3 hk3
    intro x1 x2 x3 x4 σ hf H locs ls hw hl
    unfold fX7_giveRights_99 at hf
    refine q_iinc S0 (v0 := 1) dX7_giveRights_99 hl (k := 4) rfl (by decide) (by decide) rfl hf (fun v7 ls hl hf => ?_)
    refine lv_goto (tgt := 3) S0.1 S0.2.1 dX7_giveRights_102 (by decide) ?_
    exact hk3 x1 x2 x3 v7 σ hf _ _ _ hw (lv_sub hl [1, 2, 3, 4, 0] rfl)
  have b69 : ∀ (k3 : Int32 → Int32 → Int32 → Int32 → qS → Option qS) (hk3 : ∀ (x1 : Int32) (x2 : Int32) (x3 : Int32) (x4 : Int32) (σ : qS), k3 x1 x2 x3 x4 σ = some r0 → qAt p l e (qRm 0 0) s m ([.ref (ad 30 i0), .int p1, .int p2, .int p3] : List Value).toArray below meth c Q D (cL Y) (qT Y) A ad 6 0 0 3 [(0, .ref (ad 30 i0)), (1, .int x1), (2, .int x2), (3, .int x3), (4, .int x4)] [] σ) (x1 : Int32) (x2 : Int32) (x3 : Int32) (x4 : Int32) (t1 : Int32) (t2 : Int32) (σ : qS), fX7_giveRights_69 F i0 k3 x1 x2 x3 x4 t1 t2 σ = some r0 → qAt p l e (qRm 0 0) s m ([.ref (ad 30 i0), .int p1, .int p2, .int p3] : List Value).toArray below meth c Q D (cL Y) (qT Y) A ad 6 0 0 69 [(0, .ref (ad 30 i0)), (1, .int x1), (2, .int x2), (3, .int x3), (4, .int x4)] [.int t2, .int t1, .ref (ad 39 i0)] σ := by
    clear hf hw hl ls
    intro k3 hk3
    intro x1 x2 x3 x4 t1 t2 σ hf H locs ls hw hl
    unfold fX7_giveRights_69 at hf
    refine q_zast (k := 39) (i := i0) S0 hw hg0 (t0 := 1) (fun _ => rfl) rfl dX7_giveRights_69 hf (fun s4 H locs hw hf => ?_)
    refine lv_aload_n S0.1 S0.2.1 dX7_giveRights_70 rfl (lv_at hl 0 rfl) ?_
    refine gX7_given S0 hw hg0 kw_92 dX7_giveRights_71 ?_
    refine lv_iload S0.1 S0.2.1 dX7_giveRights_74 (lv_at hl 4 rfl) ?_
    refine q_zald (k := 39) (i := i0) S0 hw hg0 (t0 := 1) rfl rfl dX7_giveRights_76 hf (fun v5 hf => ?_)
    refine lv_if_eq (tgt := 99) S0.1 S0.2.1 dX7_giveRights_77 (by decide) (fun c6 => ?_) (fun c6 => ?_)
    · replace hf := q_pos c6 hf
      exact b99 k3 hk3 x1 x2 x3 x4 s4 hf _ _ _ hw (lv_sub hl [0, 1, 2, 3, 4] rfl)
    · replace hf := q_neg c6 hf
      refine lv_aload_n S0.1 S0.2.1 dX7_giveRights_80 rfl (lv_at hl 0 rfl) ?_
      refine gX7_rights S0 hw hg0 kw_87 dX7_giveRights_81 ?_
      refine lv_iload S0.1 S0.2.1 dX7_giveRights_84 (lv_at hl 4 rfl) ?_
      refine lv_iload_n S0.1 S0.2.1 dX7_giveRights_86 rfl (lv_at hl 2 rfl) ?_
      refine q_iast (k := 36) (i := i0) S0 hw hg0 (t0 := 0) (fun _ => rfl) rfl dX7_giveRights_87 hf (fun s8 H locs hw hf => ?_)
      refine lv_aload_n S0.1 S0.2.1 dX7_giveRights_88 rfl (lv_at hl 0 rfl) ?_
      refine gX7_rightsVersion S0 hw hg0 kw_86 dX7_giveRights_89 ?_
      refine lv_iload S0.1 S0.2.1 dX7_giveRights_92 (lv_at hl 4 rfl) ?_
      refine lv_dup2_11 S0.1 S0.2.1 dX7_giveRights_94 rfl rfl ?_
      refine q_iald (k := 35) (i := i0) S0 hw hg0 (t0 := 0) rfl rfl dX7_giveRights_95 hf (fun v9 hf => ?_)
      refine lv_iconst (v := 1) S0.1 S0.2.1 dX7_giveRights_96 (by decide) ?_
      refine lv_iadd S0.1 S0.2.1 dX7_giveRights_97 (q_top hf (fun v10 hf => ?_))
      refine q_iast (k := 35) (i := i0) S0 hw hg0 (t0 := 0) (fun _ => rfl) rfl dX7_giveRights_98 hf (fun s11 H locs hw hf => ?_)
      exact b99 k3 hk3 x1 x2 x3 x4 s11 hf _ _ _ hw (lv_sub hl [0, 1, 2, 3, 4] rfl)
  have b64 : ∀ (k3 : Int32 → Int32 → Int32 → Int32 → qS → Option qS) (hk3 : ∀ (x1 : Int32) (x2 : Int32) (x3 : Int32) (x4 : Int32) (σ : qS), k3 x1 x2 x3 x4 σ = some r0 → qAt p l e (qRm 0 0) s m ([.ref (ad 30 i0), .int p1, .int p2, .int p3] : List Value).toArray below meth c Q D (cL Y) (qT Y) A ad 6 0 0 3 [(0, .ref (ad 30 i0)), (1, .int x1), (2, .int x2), (3, .int x3), (4, .int x4)] [] σ) (x1 : Int32) (x2 : Int32) (x3 : Int32) (x4 : Int32) (t1 : Int32) (σ : qS), fX7_giveRights_64 F i0 k3 x1 x2 x3 x4 t1 σ = some r0 → qAt p l e (qRm 0 0) s m ([.ref (ad 30 i0), .int p1, .int p2, .int p3] : List Value).toArray below meth c Q D (cL Y) (qT Y) A ad 6 0 0 64 [(0, .ref (ad 30 i0)), (1, .int x1), (2, .int x2), (3, .int x3), (4, .int x4)] [.int t1, .ref (ad 39 i0)] σ := by
    clear hf hw hl ls
    intro k3 hk3
    intro x1 x2 x3 x4 t1 σ hf H locs ls hw hl
    unfold fX7_giveRights_64 at hf
    refine lv_iconst (v := 1) S0.1 S0.2.1 dX7_giveRights_64 (by decide) ?_
    refine lv_goto (tgt := 69) S0.1 S0.2.1 dX7_giveRights_65 (by decide) ?_
    exact b69 k3 hk3 x1 x2 x3 x4 t1 1 σ hf _ _ _ hw (lv_sub hl [0, 1, 2, 3, 4] rfl)
  have b68 : ∀ (k3 : Int32 → Int32 → Int32 → Int32 → qS → Option qS) (hk3 : ∀ (x1 : Int32) (x2 : Int32) (x3 : Int32) (x4 : Int32) (σ : qS), k3 x1 x2 x3 x4 σ = some r0 → qAt p l e (qRm 0 0) s m ([.ref (ad 30 i0), .int p1, .int p2, .int p3] : List Value).toArray below meth c Q D (cL Y) (qT Y) A ad 6 0 0 3 [(0, .ref (ad 30 i0)), (1, .int x1), (2, .int x2), (3, .int x3), (4, .int x4)] [] σ) (x1 : Int32) (x2 : Int32) (x3 : Int32) (x4 : Int32) (t1 : Int32) (σ : qS), fX7_giveRights_68 F i0 k3 x1 x2 x3 x4 t1 σ = some r0 → qAt p l e (qRm 0 0) s m ([.ref (ad 30 i0), .int p1, .int p2, .int p3] : List Value).toArray below meth c Q D (cL Y) (qT Y) A ad 6 0 0 68 [(0, .ref (ad 30 i0)), (1, .int x1), (2, .int x2), (3, .int x3), (4, .int x4)] [.int t1, .ref (ad 39 i0)] σ := by
    clear hf hw hl ls
    intro k3 hk3
    intro x1 x2 x3 x4 t1 σ hf H locs ls hw hl
    unfold fX7_giveRights_68 at hf
    refine lv_iconst (v := 0) S0.1 S0.2.1 dX7_giveRights_68 (by decide) ?_
    exact b69 k3 hk3 x1 x2 x3 x4 t1 0 σ hf _ _ _ hw (lv_sub hl [0, 1, 2, 3, 4] rfl)
  have b3 : ∀ (n : Nat) (x1 : Int32) (x2 : Int32) (x3 : Int32) (x4 : Int32) (σ : qS), fX7_giveRights_3 F i0 n x1 x2 x3 x4 σ = some r0 → qAt p l e (qRm 0 0) s m ([.ref (ad 30 i0), .int p1, .int p2, .int p3] : List Value).toArray below meth c Q D (cL Y) (qT Y) A ad 6 0 0 3 [(0, .ref (ad 30 i0)), (1, .int x1), (2, .int x2), (3, .int x3), (4, .int x4)] [] σ := by
    clear hf hw hl ls
    intro n
    induction n with
    | zero => intro x1 x2 x3 x4 σ hf; exact absurd hf (by rw [fX7_giveRights_3]; exact nofun)
    | succ n hk3 =>
      intro x1 x2 x3 x4 σ hf H locs ls hw hl
      rw [fX7_giveRights_3] at hf
      refine lv_iload S0.1 S0.2.1 dX7_giveRights_3 (lv_at hl 4 rfl) ?_
      refine lv_bipush (v := 80) S0.1 S0.2.1 dX7_giveRights_5 (by decide) ?_
      refine lv_icmp_ge (tgt := 105) S0.1 S0.2.1 dX7_giveRights_7 (by decide) (fun c1 => ?_) (fun c1 => ?_)
      · replace hf := q_pos c1 hf
        exact hret dX7_giveRights_105 hw hf
      · replace hf := q_neg c1 hf
        refine lv_aload_n S0.1 S0.2.1 dX7_giveRights_10 rfl (lv_at hl 0 rfl) ?_
        refine gX7_births S0 hw hg0 kw_78 dX7_giveRights_11 ?_
        refine gX1_parent S0 hw kw_41 dX7_giveRights_14 ?_
        refine lv_iload S0.1 S0.2.1 dX7_giveRights_17 (lv_at hl 4 rfl) ?_
        refine q_iald S0 hw dC_2 (t0 := 0) rfl rfl dX7_giveRights_19 hf (fun v2 hf => ?_)
        refine lv_istore (lv' := [(5, .int v2), (0, .ref (ad 30 i0)), (1, .int x1), (2, .int x2), (3, .int x3), (4, .int x4)]) S0.1 S0.2.1 dX7_giveRights_20 hl (by decide) rfl (fun ls hl => ?_)
        refine lv_aload_n S0.1 S0.2.1 dX7_giveRights_22 rfl (lv_at hl 1 rfl) ?_
        refine gX7_given S0 hw hg0 kw_92 dX7_giveRights_23 ?_
        refine lv_iload S0.1 S0.2.1 dX7_giveRights_26 (lv_at hl 5 rfl) ?_
        refine lv_iload S0.1 S0.2.1 dX7_giveRights_28 (lv_at hl 5 rfl) ?_
        refine lv_iload_n S0.1 S0.2.1 dX7_giveRights_30 rfl (lv_at hl 2 rfl) ?_
        refine lv_icmp_eq (tgt := 64) S0.1 S0.2.1 dX7_giveRights_31 (by decide) (fun c3 => ?_) (fun c3 => ?_)
        · replace hf := q_pos c3 hf
          exact b64 (fX7_giveRights_3 F i0 n) hk3 x1 x2 x3 x4 x4 σ hf _ _ _ hw (lv_sub hl [1, 2, 3, 4, 5] rfl)
        · replace hf := q_neg c3 hf
          refine lv_iload_n S0.1 S0.2.1 dX7_giveRights_34 rfl (lv_at hl 4 rfl) ?_
          refine lv_if_eq (tgt := 68) S0.1 S0.2.1 dX7_giveRights_35 (by decide) (fun c12 => ?_) (fun c12 => ?_)
          · replace hf := q_pos c12 hf
            exact b68 (fX7_giveRights_3 F i0 n) hk3 x1 x2 x3 x4 x4 σ hf _ _ _ hw (lv_sub hl [1, 2, 3, 4, 5] rfl)
          · replace hf := q_neg c12 hf
            refine lv_aload_n S0.1 S0.2.1 dX7_giveRights_38 rfl (lv_at hl 1 rfl) ?_
            refine gX7_here S0 hw hg0 kw_79 dX7_giveRights_39 ?_
            refine lv_iload S0.1 S0.2.1 dX7_giveRights_42 (lv_at hl 5 rfl) ?_
            refine q_zald (k := 31) (i := i0) S0 hw hg0 (t0 := 1) rfl rfl dX7_giveRights_44 hf (fun v13 hf => ?_)
            refine lv_if_eq (tgt := 68) S0.1 S0.2.1 dX7_giveRights_45 (by decide) (fun c14 => ?_) (fun c14 => ?_)
            · replace hf := q_pos c14 hf
              exact b68 (fX7_giveRights_3 F i0 n) hk3 x1 x2 x3 x4 x4 σ hf _ _ _ hw (lv_sub hl [1, 2, 3, 4, 5] rfl)
            · replace hf := q_neg c14 hf
              refine lv_iload S0.1 S0.2.1 dX7_giveRights_48 (lv_at hl 0 rfl) ?_
              refine lv_iload_n S0.1 S0.2.1 dX7_giveRights_50 rfl (lv_at hl 2 rfl) ?_
              refine lv_icmp_lt (tgt := 68) S0.1 S0.2.1 dX7_giveRights_51 (by decide) (fun c15 => ?_) (fun c15 => ?_)
              · replace hf := q_pos c15 hf
                exact b68 (fX7_giveRights_3 F i0 n) hk3 x1 x2 x3 x4 x4 σ hf _ _ _ hw (lv_sub hl [1, 2, 3, 4, 5] rfl)
              · replace hf := q_neg c15 hf
                refine lv_aload_n S0.1 S0.2.1 dX7_giveRights_54 rfl (lv_at hl 1 rfl) ?_
                refine gX7_given S0 hw hg0 kw_92 dX7_giveRights_55 ?_
                refine lv_iload S0.1 S0.2.1 dX7_giveRights_58 (lv_at hl 0 rfl) ?_
                refine q_zald (k := 39) (i := i0) S0 hw hg0 (t0 := 1) rfl rfl dX7_giveRights_60 hf (fun v16 hf => ?_)
                refine lv_if_eq (tgt := 68) S0.1 S0.2.1 dX7_giveRights_61 (by decide) (fun c17 => ?_) (fun c17 => ?_)
                · replace hf := q_pos c17 hf
                  exact b68 (fX7_giveRights_3 F i0 n) hk3 x1 x2 x3 x4 x4 σ hf _ _ _ hw (lv_sub hl [1, 2, 3, 4, 5] rfl)
                · replace hf := q_neg c17 hf
                  exact b64 (fX7_giveRights_3 F i0 n) hk3 x1 x2 x3 x4 x4 σ hf _ _ _ hw (lv_sub hl [1, 2, 3, 4, 5] rfl)
  refine lv_iload_n S0.1 S0.2.1 dX7_giveRights_0 rfl (lv_at hl 1 rfl) ?_
  refine lv_istore (lv' := [(4, .int p1), (0, .ref (ad 30 i0)), (1, .int p1), (2, .int p2), (3, .int p3)]) S0.1 S0.2.1 dX7_giveRights_1 hl (by decide) rfl (fun ls hl => ?_)
  exact b3 F p1 p2 p3 p1 σ hf _ _ _ hw (lv_sub hl [1, 2, 3, 4, 0] rfl)
theorem qyX7_apply : qY yX7_apply RX7 cX7_apply 4 none 3 := ⟨⟨kw_652, kw_653, kw_3, kw_654⟩, rfl, by decide, by decide, by decide +kernel⟩
def fX7_apply_110 (F : Nat) (i0 : Nat) (σ : qS) : Option qS :=
  some σ
def fX7_apply_107 (F : Nat) (i0 : Nat) (t1 : Int32) (t2 : Int32) (t3 : Int32) (σ : qS) : Option qS :=
  bnd (fX7_giveRights F i0 t1 t2 t3 σ) fun s16 => (fX7_apply_110 F i0 s16)
def fX7_apply (F : Nat) (i0 : Nat) (p1 : Int32) (p2 : Int32) (p3 : Int32) (σ : qS) : Option qS :=
  gnl i0 6 (if p1 = 0 then (ldi 80 (σ.1 2 0) p2 fun v2 => (bnd (fX7_appear F i0 p2 v2 p3 σ) fun s3 => (fX7_apply_110 F i0 s3))) else (if p1 = 1 then (inx 80 p2 (nm (qI σ 32 i0 p2.toNatClampNeg p3) fun s5 => (ldi 80 (s5.1 33 i0) p2 fun v6 => (nm (v6 + 1) fun v7 => (inx 80 p2 (nm (qI s5 33 i0 p2.toNatClampNeg v7) fun s8 => (fX7_apply_110 F i0 s8))))))) else (if p1 = 2 then (inx 80 p2 (gbl 0 (nm (qI σ 31 i0 p2.toNatClampNeg 0) fun s10 => (ldi 80 (s10.1 2 0) p2 fun v11 => (ldi 80 (s10.1 34 i0) v11 fun v12 => (nm (v12 + 1) fun v13 => (inx 80 v11 (nm (qI s10 34 i0 v11.toNatClampNeg v13) fun s14 => (fX7_apply_110 F i0 s14))))))))) else (if p1 = 4 then (fX7_apply_107 F i0 p2 p3 1 σ) else (fX7_apply_107 F i0 p2 p3 0 σ)))))
set_option maxRecDepth 100000 in
set_option maxHeartbeats 4000000 in
theorem wX7_apply (l : Launch) (D : va_G) (Y : Nat → ClassId) (ad : qAd) (F : Nat) (i0 : Nat) (p1 : Int32) (p2 : Int32) (p3 : Int32) (σ : qS) : qCv l yX7_apply cX7_apply 4 none 1 25 D (cL Y) (qT Y) ad [.ref (ad 30 i0), .int p1, .int p2, .int p3] σ (fX7_apply F i0 p1 p2 p3 σ) := by
  refine q_ofv (by decide) (Nat.le_of_ble_eq_true rfl) "Leasehall$Tree" rfl (fun p e s m below meth c A Q r0 S0 hf hw hret ls hl => ?_)
  replace hl : lv_has ls 4 [(0, .ref (ad 30 i0)), (1, .int p1), (2, .int p2), (3, .int p3)] := hl
  unfold fX7_apply at hf
  obtain ⟨hg0, hf⟩ := gnl_some hf
  have b110 : ∀ (σ : qS), fX7_apply_110 F i0 σ = some r0 → qAt p l e (qRm 1 25) s m ([.ref (ad 30 i0), .int p1, .int p2, .int p3] : List Value).toArray below meth c Q D (cL Y) (qT Y) A ad 4 0 0 110 [] [] σ := by
    clear hf hw hl ls
    intro σ hf H locs ls hw hl
    unfold fX7_apply_110 at hf
    exact hret dX7_apply_110 hw hf
  have b107 : ∀ (t1 : Int32) (t2 : Int32) (t3 : Int32) (σ : qS), fX7_apply_107 F i0 t1 t2 t3 σ = some r0 → qAt p l e (qRm 1 25) s m ([.ref (ad 30 i0), .int p1, .int p2, .int p3] : List Value).toArray below meth c Q D (cL Y) (qT Y) A ad 4 0 0 107 [] [.int t3, .int t2, .int t1, .ref (ad 30 i0)] σ := by
    clear hf hw hl ls
    intro t1 t2 t3 σ hf H locs ls hw hl
    unfold fX7_apply_107 at hf
    refine q_callv (k := 30) (i := i0) S0 hw (As := [.int t1, .int t2, .int t3]) (rest := []) (wX7_giveRights l D Y ad F i0 t1 t2 t3 σ) qyX7_giveRights kw_659 ⟨Nat.le_of_ble_eq_true rfl, Nat.le_of_ble_eq_true rfl⟩ hg0 rfl rfl rfl rfl hl.1 (Nat.le_of_ble_eq_true rfl) dX7_apply_107 ⟨Nat.le_refl _, Nat.le_refl _⟩ rfl hf (fun s16 H locs hw hf => ?_)
    exact b110 s16 hf _ _ _ hw (lv_sub hl [] rfl)
  refine lv_iload_n S0.1 S0.2.1 dX7_apply_0 rfl (lv_at hl 1 rfl) ?_
  by_cases c1 : p1 = 0
  · replace hf := q_pos c1 hf
    refine lv_tableIn (tgt := 28) S0.1 S0.2.1 dX7_apply_1 (by rw [c1]; decide) (by rw [c1]; decide) (by rw [c1]; rfl) (by decide) ?_
    refine lv_aload_n S0.1 S0.2.1 dX7_apply_28 rfl (lv_at hl 0 rfl) ?_
    refine lv_iload_n S0.1 S0.2.1 dX7_apply_29 rfl (lv_at hl 2 rfl) ?_
    refine lv_aload_n S0.1 S0.2.1 dX7_apply_30 rfl (lv_at hl 0 rfl) ?_
    refine gX7_births S0 hw hg0 kw_78 dX7_apply_31 ?_
    refine gX1_parent S0 hw kw_41 dX7_apply_34 ?_
    refine lv_iload_n S0.1 S0.2.1 dX7_apply_37 rfl (lv_at hl 2 rfl) ?_
    refine q_iald S0 hw dC_2 (t0 := 0) rfl rfl dX7_apply_38 hf (fun v2 hf => ?_)
    refine lv_iload_n S0.1 S0.2.1 dX7_apply_39 rfl (lv_at hl 3 rfl) ?_
    refine q_callv (k := 30) (i := i0) S0 hw (As := [.int p2, .int v2, .int p3]) (rest := []) (wX7_appear l D Y ad F i0 p2 v2 p3 σ) qyX7_appear kw_655 ⟨Nat.le_of_ble_eq_true rfl, Nat.le_of_ble_eq_true rfl⟩ hg0 rfl rfl rfl rfl hl.1 (Nat.le_of_ble_eq_true rfl) dX7_apply_40 ⟨Nat.le_refl _, Nat.le_refl _⟩ rfl hf (fun s3 H locs hw hf => ?_)
    refine lv_goto (tgt := 110) S0.1 S0.2.1 dX7_apply_43 (by decide) ?_
    exact b110 s3 hf _ _ _ hw (lv_sub hl [] rfl)
  · replace hf := q_neg c1 hf
    by_cases c4 : p1 = 1
    · replace hf := q_pos c4 hf
      refine lv_tableIn (tgt := 46) S0.1 S0.2.1 dX7_apply_1 (by rw [c4]; decide) (by rw [c4]; decide) (by rw [c4]; rfl) (by decide) ?_
      refine lv_aload_n S0.1 S0.2.1 dX7_apply_46 rfl (lv_at hl 0 rfl) ?_
      refine gX7_value S0 hw hg0 kw_81 dX7_apply_47 ?_
      refine lv_iload_n S0.1 S0.2.1 dX7_apply_50 rfl (lv_at hl 2 rfl) ?_
      refine lv_iload_n S0.1 S0.2.1 dX7_apply_51 rfl (lv_at hl 3 rfl) ?_
      refine q_iast (k := 32) (i := i0) S0 hw hg0 (t0 := 0) (fun _ => rfl) rfl dX7_apply_52 hf (fun s5 H locs hw hf => ?_)
      refine lv_aload_n S0.1 S0.2.1 dX7_apply_53 rfl (lv_at hl 0 rfl) ?_
      refine gX7_valueVersion S0 hw hg0 kw_83 dX7_apply_54 ?_
      refine lv_iload_n S0.1 S0.2.1 dX7_apply_57 rfl (lv_at hl 2 rfl) ?_
      refine lv_dup2_11 S0.1 S0.2.1 dX7_apply_58 rfl rfl ?_
      refine q_iald (k := 33) (i := i0) S0 hw hg0 (t0 := 0) rfl rfl dX7_apply_59 hf (fun v6 hf => ?_)
      refine lv_iconst (v := 1) S0.1 S0.2.1 dX7_apply_60 (by decide) ?_
      refine lv_iadd S0.1 S0.2.1 dX7_apply_61 (q_top hf (fun v7 hf => ?_))
      refine q_iast (k := 33) (i := i0) S0 hw hg0 (t0 := 0) (fun _ => rfl) rfl dX7_apply_62 hf (fun s8 H locs hw hf => ?_)
      refine lv_goto (tgt := 110) S0.1 S0.2.1 dX7_apply_63 (by decide) ?_
      exact b110 s8 hf _ _ _ hw (lv_sub hl [] rfl)
    · replace hf := q_neg c4 hf
      by_cases c9 : p1 = 2
      · replace hf := q_pos c9 hf
        refine lv_tableIn (tgt := 66) S0.1 S0.2.1 dX7_apply_1 (by rw [c9]; decide) (by rw [c9]; decide) (by rw [c9]; rfl) (by decide) ?_
        refine lv_aload_n S0.1 S0.2.1 dX7_apply_66 rfl (lv_at hl 0 rfl) ?_
        refine gX7_here S0 hw hg0 kw_79 dX7_apply_67 ?_
        refine lv_iload_n S0.1 S0.2.1 dX7_apply_70 rfl (lv_at hl 2 rfl) ?_
        refine lv_iconst (v := 0) S0.1 S0.2.1 dX7_apply_71 (by decide) ?_
        refine q_zast (k := 31) (i := i0) S0 hw hg0 (t0 := 1) (fun _ => rfl) rfl dX7_apply_72 hf (fun s10 H locs hw hf => ?_)
        refine lv_aload_n S0.1 S0.2.1 dX7_apply_73 rfl (lv_at hl 0 rfl) ?_
        refine gX7_childVersion S0 hw hg0 kw_85 dX7_apply_74 ?_
        refine lv_aload_n S0.1 S0.2.1 dX7_apply_77 rfl (lv_at hl 0 rfl) ?_
        refine gX7_births S0 hw hg0 kw_78 dX7_apply_78 ?_
        refine gX1_parent S0 hw kw_41 dX7_apply_81 ?_
        refine lv_iload_n S0.1 S0.2.1 dX7_apply_84 rfl (lv_at hl 2 rfl) ?_
        refine q_iald S0 hw dC_2 (t0 := 0) rfl rfl dX7_apply_85 hf (fun v11 hf => ?_)
        refine lv_dup2_11 S0.1 S0.2.1 dX7_apply_86 rfl rfl ?_
        refine q_iald (k := 34) (i := i0) S0 hw hg0 (t0 := 0) rfl rfl dX7_apply_87 hf (fun v12 hf => ?_)
        refine lv_iconst (v := 1) S0.1 S0.2.1 dX7_apply_88 (by decide) ?_
        refine lv_iadd S0.1 S0.2.1 dX7_apply_89 (q_top hf (fun v13 hf => ?_))
        refine q_iast (k := 34) (i := i0) S0 hw hg0 (t0 := 0) (fun _ => rfl) rfl dX7_apply_90 hf (fun s14 H locs hw hf => ?_)
        refine lv_goto (tgt := 110) S0.1 S0.2.1 dX7_apply_91 (by decide) ?_
        exact b110 s14 hf _ _ _ hw (lv_sub hl [] rfl)
      · replace hf := q_neg c9 hf
        refine lv_tableOut (tgt := 94) S0.1 S0.2.1 dX7_apply_1 (by have hc1 := lv_neT c1 (a := 0) (by decide); have hc4 := lv_neT c4 (a := 1) (by decide); have hc9 := lv_neT c9 (a := 2) (by decide); omega) (by decide) ?_
        refine lv_aload_n S0.1 S0.2.1 dX7_apply_94 rfl (lv_at hl 0 rfl) ?_
        refine lv_iload_n S0.1 S0.2.1 dX7_apply_95 rfl (lv_at hl 2 rfl) ?_
        refine lv_iload_n S0.1 S0.2.1 dX7_apply_96 rfl (lv_at hl 3 rfl) ?_
        refine lv_iload_n S0.1 S0.2.1 dX7_apply_97 rfl (lv_at hl 1 rfl) ?_
        refine lv_iconst (v := 4) S0.1 S0.2.1 dX7_apply_98 (by decide) ?_
        refine lv_icmp_ne (tgt := 106) S0.1 S0.2.1 dX7_apply_99 (by decide) (fun c15 => ?_) (fun c15 => ?_)
        · replace hf := q_neg c15 hf
          refine lv_iconst (v := 0) S0.1 S0.2.1 dX7_apply_106 (by decide) ?_
          exact b107 p2 p3 0 σ hf _ _ _ hw (lv_sub hl [] rfl)
        · replace hf := q_pos c15 hf
          refine lv_iconst (v := 1) S0.1 S0.2.1 dX7_apply_102 (by decide) ?_
          refine lv_goto (tgt := 107) S0.1 S0.2.1 dX7_apply_103 (by decide) ?_
          exact b107 p2 p3 1 σ hf _ _ _ hw (lv_sub hl [] rfl)
theorem qyX7_holds : qY yX7_holds RX7 cX7_holds 2 (some .boolean) 1 := ⟨⟨kw_815, kw_816, kw_3, kw_817⟩, rfl, by decide, by decide, by decide +kernel⟩
def fX7_holds_24 (F : Nat) (i0 : Nat) (t0 : Int32) (σ : qS) : Option (Int32 × qS) :=
  gbl t0 (some (t0, σ))
def fX7_holds_23 (F : Nat) (i0 : Nat) (σ : qS) : Option (Int32 × qS) :=
  fX7_holds_24 F i0 0 σ
def fX7_holds (F : Nat) (i0 : Nat) (p1 : Int32) (σ : qS) : Option (Int32 × qS) :=
  gnl i0 6 (if p1 < 0 then (fX7_holds_23 F i0 σ) else (if 80 ≤ p1 then (fX7_holds_23 F i0 σ) else (ldi 80 (σ.1 31 i0) p1 fun v3 => (if v3 = 0 then (fX7_holds_23 F i0 σ) else (fX7_holds_24 F i0 1 σ)))))
set_option maxRecDepth 100000 in
set_option maxHeartbeats 4000000 in
theorem wX7_holds (l : Launch) (D : va_G) (Y : Nat → ClassId) (ad : qAd) (F : Nat) (i0 : Nat) (p1 : Int32) (σ : qS) : qCi l yX7_holds cX7_holds 2 (some .boolean) 0 0 D (cL Y) (qT Y) ad [.ref (ad 30 i0), .int p1] σ (fX7_holds F i0 p1 σ) := by
  refine q_ofz (by decide) (Nat.le_of_ble_eq_true rfl) "Leasehall$Tree" rfl (fun p e s m below meth c A Q r0 S0 hf hw hret ls hl => ?_)
  replace hl : lv_has ls 2 [(0, .ref (ad 30 i0)), (1, .int p1)] := hl
  unfold fX7_holds at hf
  obtain ⟨hg0, hf⟩ := gnl_some hf
  have b24 : ∀ (t0 : Int32) (σ : qS), fX7_holds_24 F i0 t0 σ = some r0 → qAt p l e (qRm 0 0) s m ([.ref (ad 30 i0), .int p1] : List Value).toArray below meth c Q D (cL Y) (qT Y) A ad 2 0 0 24 [] [.int t0] σ := by
    clear hf hw hl ls
    intro t0 σ hf H locs ls hw hl
    unfold fX7_holds_24 at hf
    exact hret dX7_holds_24 hw hf
  have b23 : ∀ (σ : qS), fX7_holds_23 F i0 σ = some r0 → qAt p l e (qRm 0 0) s m ([.ref (ad 30 i0), .int p1] : List Value).toArray below meth c Q D (cL Y) (qT Y) A ad 2 0 0 23 [] [] σ := by
    clear hf hw hl ls
    intro σ hf H locs ls hw hl
    unfold fX7_holds_23 at hf
    refine lv_iconst (v := 0) S0.1 S0.2.1 dX7_holds_23 (by decide) ?_
    exact b24 0 σ hf _ _ _ hw (lv_sub hl [] rfl)
  refine lv_iload_n S0.1 S0.2.1 dX7_holds_0 rfl (lv_at hl 1 rfl) ?_
  refine lv_if_lt (tgt := 23) S0.1 S0.2.1 dX7_holds_1 (by decide) (fun c1 => ?_) (fun c1 => ?_)
  · replace hf := q_pos c1 hf
    exact b23 σ hf _ _ _ hw (lv_sub hl [] rfl)
  · replace hf := q_neg c1 hf
    refine lv_iload_n S0.1 S0.2.1 dX7_holds_4 rfl (lv_at hl 1 rfl) ?_
    refine lv_bipush (v := 80) S0.1 S0.2.1 dX7_holds_5 (by decide) ?_
    refine lv_icmp_ge (tgt := 23) S0.1 S0.2.1 dX7_holds_7 (by decide) (fun c2 => ?_) (fun c2 => ?_)
    · replace hf := q_pos c2 hf
      exact b23 σ hf _ _ _ hw (lv_sub hl [] rfl)
    · replace hf := q_neg c2 hf
      refine lv_aload_n S0.1 S0.2.1 dX7_holds_10 rfl (lv_at hl 0 rfl) ?_
      refine gX7_here S0 hw hg0 kw_79 dX7_holds_11 ?_
      refine lv_iload_n S0.1 S0.2.1 dX7_holds_14 rfl (lv_at hl 1 rfl) ?_
      refine q_zald (k := 31) (i := i0) S0 hw hg0 (t0 := 1) rfl rfl dX7_holds_15 hf (fun v3 hf => ?_)
      refine lv_if_eq (tgt := 23) S0.1 S0.2.1 dX7_holds_16 (by decide) (fun c4 => ?_) (fun c4 => ?_)
      · replace hf := q_pos c4 hf
        exact b23 σ hf _ _ _ hw (lv_sub hl [] rfl)
      · replace hf := q_neg c4 hf
        refine lv_iconst (v := 1) S0.1 S0.2.1 dX7_holds_19 (by decide) ?_
        refine lv_goto (tgt := 24) S0.1 S0.2.1 dX7_holds_20 (by decide) ?_
        exact b24 1 σ hf _ _ _ hw (lv_sub hl [] rfl)
theorem qyX7_mayWrite : qY yX7_mayWrite RX7 cX7_mayWrite 3 (some .boolean) 2 := ⟨⟨kw_819, kw_820, kw_3, kw_821⟩, rfl, by decide, by decide, by decide +kernel⟩
def fX7_mayWrite_21 (F : Nat) (i0 : Nat) (t0 : Int32) (σ : qS) : Option (Int32 × qS) :=
  gbl t0 (some (t0, σ))
def fX7_mayWrite (F : Nat) (i0 : Nat) (p1 : Int32) (p2 : Int32) (σ : qS) : Option (Int32 × qS) :=
  gnl i0 6 (ldi 80 (σ.1 36 i0) p1 fun v1 => (nm (4 + p2) fun v2 => (nm (v1 >>> (v2 &&& 31)) fun v3 => (nm (v3 &&& 1) fun v4 => (if v4 = 1 then (fX7_mayWrite_21 F i0 1 σ) else (fX7_mayWrite_21 F i0 0 σ))))))
set_option maxRecDepth 100000 in
set_option maxHeartbeats 4000000 in
theorem wX7_mayWrite (l : Launch) (D : va_G) (Y : Nat → ClassId) (ad : qAd) (F : Nat) (i0 : Nat) (p1 : Int32) (p2 : Int32) (σ : qS) : qCi l yX7_mayWrite cX7_mayWrite 3 (some .boolean) 0 0 D (cL Y) (qT Y) ad [.ref (ad 30 i0), .int p1, .int p2] σ (fX7_mayWrite F i0 p1 p2 σ) := by
  refine q_ofz (by decide) (Nat.le_of_ble_eq_true rfl) "Leasehall$Tree" rfl (fun p e s m below meth c A Q r0 S0 hf hw hret ls hl => ?_)
  replace hl : lv_has ls 3 [(0, .ref (ad 30 i0)), (1, .int p1), (2, .int p2)] := hl
  unfold fX7_mayWrite at hf
  obtain ⟨hg0, hf⟩ := gnl_some hf
  have b21 : ∀ (t0 : Int32) (σ : qS), fX7_mayWrite_21 F i0 t0 σ = some r0 → qAt p l e (qRm 0 0) s m ([.ref (ad 30 i0), .int p1, .int p2] : List Value).toArray below meth c Q D (cL Y) (qT Y) A ad 3 0 0 21 [] [.int t0] σ := by
    clear hf hw hl ls
    intro t0 σ hf H locs ls hw hl
    unfold fX7_mayWrite_21 at hf
    exact hret dX7_mayWrite_21 hw hf
  refine lv_aload_n S0.1 S0.2.1 dX7_mayWrite_0 rfl (lv_at hl 0 rfl) ?_
  refine gX7_rights S0 hw hg0 kw_87 dX7_mayWrite_1 ?_
  refine lv_iload_n S0.1 S0.2.1 dX7_mayWrite_4 rfl (lv_at hl 1 rfl) ?_
  refine q_iald (k := 36) (i := i0) S0 hw hg0 (t0 := 0) rfl rfl dX7_mayWrite_5 hf (fun v1 hf => ?_)
  refine lv_iconst (v := 4) S0.1 S0.2.1 dX7_mayWrite_6 (by decide) ?_
  refine lv_iload_n S0.1 S0.2.1 dX7_mayWrite_7 rfl (lv_at hl 2 rfl) ?_
  refine lv_iadd S0.1 S0.2.1 dX7_mayWrite_8 (q_top hf (fun v2 hf => ?_))
  refine lv_ishr S0.1 S0.2.1 dX7_mayWrite_9 (q_top hf (fun v3 hf => ?_))
  refine lv_iconst (v := 1) S0.1 S0.2.1 dX7_mayWrite_10 (by decide) ?_
  refine lv_iand S0.1 S0.2.1 dX7_mayWrite_11 (q_top hf (fun v4 hf => ?_))
  refine lv_iconst (v := 1) S0.1 S0.2.1 dX7_mayWrite_12 (by decide) ?_
  refine lv_icmp_ne (tgt := 20) S0.1 S0.2.1 dX7_mayWrite_13 (by decide) (fun c5 => ?_) (fun c5 => ?_)
  · replace hf := q_neg c5 hf
    refine lv_iconst (v := 0) S0.1 S0.2.1 dX7_mayWrite_20 (by decide) ?_
    exact b21 0 σ hf _ _ _ hw (lv_sub hl [] rfl)
  · replace hf := q_pos c5 hf
    refine lv_iconst (v := 1) S0.1 S0.2.1 dX7_mayWrite_16 (by decide) ?_
    refine lv_goto (tgt := 21) S0.1 S0.2.1 dX7_mayWrite_17 (by decide) ?_
    exact b21 1 σ hf _ _ _ hw (lv_sub hl [] rfl)
theorem qyX7_hasVersion : qY yX7_hasVersion RX7 cX7_hasVersion 3 (some .boolean) 2 := ⟨⟨kw_844, kw_845, kw_3, kw_846⟩, rfl, by decide, by decide, by decide +kernel⟩
def fX7_hasVersion_20 (F : Nat) (i0 : Nat) (t0 : Int32) (σ : qS) : Option (Int32 × qS) :=
  gbl t0 (some (t0, σ))
def fX7_hasVersion_15 (F : Nat) (i0 : Nat) (σ : qS) : Option (Int32 × qS) :=
  fX7_hasVersion_20 F i0 1 σ
def fX7_hasVersion (F : Nat) (i0 : Nat) (p1 : Int32) (p2 : Int32) (σ : qS) : Option (Int32 × qS) :=
  gnl i0 6 (if p2 = (-1) then (fX7_hasVersion_15 F i0 σ) else (ldi 80 (σ.1 33 i0) p1 fun v2 => (if p2 = v2 then (fX7_hasVersion_15 F i0 σ) else (fX7_hasVersion_20 F i0 0 σ))))
set_option maxRecDepth 100000 in
set_option maxHeartbeats 4000000 in
theorem wX7_hasVersion (l : Launch) (D : va_G) (Y : Nat → ClassId) (ad : qAd) (F : Nat) (i0 : Nat) (p1 : Int32) (p2 : Int32) (σ : qS) : qCi l yX7_hasVersion cX7_hasVersion 3 (some .boolean) 0 0 D (cL Y) (qT Y) ad [.ref (ad 30 i0), .int p1, .int p2] σ (fX7_hasVersion F i0 p1 p2 σ) := by
  refine q_ofz (by decide) (Nat.le_of_ble_eq_true rfl) "Leasehall$Tree" rfl (fun p e s m below meth c A Q r0 S0 hf hw hret ls hl => ?_)
  replace hl : lv_has ls 3 [(0, .ref (ad 30 i0)), (1, .int p1), (2, .int p2)] := hl
  unfold fX7_hasVersion at hf
  obtain ⟨hg0, hf⟩ := gnl_some hf
  have b20 : ∀ (t0 : Int32) (σ : qS), fX7_hasVersion_20 F i0 t0 σ = some r0 → qAt p l e (qRm 0 0) s m ([.ref (ad 30 i0), .int p1, .int p2] : List Value).toArray below meth c Q D (cL Y) (qT Y) A ad 3 0 0 20 [] [.int t0] σ := by
    clear hf hw hl ls
    intro t0 σ hf H locs ls hw hl
    unfold fX7_hasVersion_20 at hf
    exact hret dX7_hasVersion_20 hw hf
  have b15 : ∀ (σ : qS), fX7_hasVersion_15 F i0 σ = some r0 → qAt p l e (qRm 0 0) s m ([.ref (ad 30 i0), .int p1, .int p2] : List Value).toArray below meth c Q D (cL Y) (qT Y) A ad 3 0 0 15 [] [] σ := by
    clear hf hw hl ls
    intro σ hf H locs ls hw hl
    unfold fX7_hasVersion_15 at hf
    refine lv_iconst (v := 1) S0.1 S0.2.1 dX7_hasVersion_15 (by decide) ?_
    refine lv_goto (tgt := 20) S0.1 S0.2.1 dX7_hasVersion_16 (by decide) ?_
    exact b20 1 σ hf _ _ _ hw (lv_sub hl [] rfl)
  refine lv_iload_n S0.1 S0.2.1 dX7_hasVersion_0 rfl (lv_at hl 2 rfl) ?_
  refine lv_iconst (v := (-1)) S0.1 S0.2.1 dX7_hasVersion_1 (by decide) ?_
  refine lv_icmp_eq (tgt := 15) S0.1 S0.2.1 dX7_hasVersion_2 (by decide) (fun c1 => ?_) (fun c1 => ?_)
  · replace hf := q_pos c1 hf
    exact b15 σ hf _ _ _ hw (lv_sub hl [] rfl)
  · replace hf := q_neg c1 hf
    refine lv_iload_n S0.1 S0.2.1 dX7_hasVersion_5 rfl (lv_at hl 2 rfl) ?_
    refine lv_aload_n S0.1 S0.2.1 dX7_hasVersion_6 rfl (lv_at hl 0 rfl) ?_
    refine gX7_valueVersion S0 hw hg0 kw_83 dX7_hasVersion_7 ?_
    refine lv_iload_n S0.1 S0.2.1 dX7_hasVersion_10 rfl (lv_at hl 1 rfl) ?_
    refine q_iald (k := 33) (i := i0) S0 hw hg0 (t0 := 0) rfl rfl dX7_hasVersion_11 hf (fun v2 hf => ?_)
    refine lv_icmp_ne (tgt := 19) S0.1 S0.2.1 dX7_hasVersion_12 (by decide) (fun c3 => ?_) (fun c3 => ?_)
    · replace hf := q_neg c3 hf
      refine lv_iconst (v := 0) S0.1 S0.2.1 dX7_hasVersion_19 (by decide) ?_
      exact b20 0 σ hf _ _ _ hw (lv_sub hl [] rfl)
    · replace hf := q_pos c3 hf
      exact b15 σ hf _ _ _ hw (lv_sub hl [] rfl)
theorem qyX7_readingRefused : qY yX7_readingRefused RX7 cX7_readingRefused 3 (some .int) 2 := ⟨⟨kw_856, kw_857, kw_3, kw_858⟩, rfl, by decide, by decide, by decide +kernel⟩
def fX7_readingRefused_30 (F : Nat) (i0 : Nat) (t0 : Int32) (σ : qS) : Option (Int32 × qS) :=
  some (t0, σ)
def fX7_readingRefused (F : Nat) (i0 : Nat) (p1 : Int32) (p2 : Int32) (σ : qS) : Option (Int32 × qS) :=
  gnl i0 6 (bnd2 (fX7_holds F i0 p1 σ) fun v2 s1 => (if v2 = 0 then (some ((-1), s1)) else (ldi 80 (s1.1 36 i0) p1 fun v4 => (nm (v4 >>> (p2 &&& 31)) fun v5 => (nm (v5 &&& 1) fun v6 => (if v6 = 1 then (fX7_readingRefused_30 F i0 0 s1) else (fX7_readingRefused_30 F i0 ((-2)) s1)))))))
set_option maxRecDepth 100000 in
set_option maxHeartbeats 4000000 in
theorem wX7_readingRefused (l : Launch) (D : va_G) (Y : Nat → ClassId) (ad : qAd) (F : Nat) (i0 : Nat) (p1 : Int32) (p2 : Int32) (σ : qS) : qCi l yX7_readingRefused cX7_readingRefused 3 (some .int) 1 21 D (cL Y) (qT Y) ad [.ref (ad 30 i0), .int p1, .int p2] σ (fX7_readingRefused F i0 p1 p2 σ) := by
  refine q_ofi (by decide) (Nat.le_of_ble_eq_true rfl) "Leasehall$Tree" rfl (fun p e s m below meth c A Q r0 S0 hf hw hret ls hl => ?_)
  replace hl : lv_has ls 3 [(0, .ref (ad 30 i0)), (1, .int p1), (2, .int p2)] := hl
  unfold fX7_readingRefused at hf
  obtain ⟨hg0, hf⟩ := gnl_some hf
  have b30 : ∀ (t0 : Int32) (σ : qS), fX7_readingRefused_30 F i0 t0 σ = some r0 → qAt p l e (qRm 1 21) s m ([.ref (ad 30 i0), .int p1, .int p2] : List Value).toArray below meth c Q D (cL Y) (qT Y) A ad 3 0 0 30 [] [.int t0] σ := by
    clear hf hw hl ls
    intro t0 σ hf H locs ls hw hl
    unfold fX7_readingRefused_30 at hf
    exact hret dX7_readingRefused_30 hw hf
  refine lv_aload_n S0.1 S0.2.1 dX7_readingRefused_0 rfl (lv_at hl 0 rfl) ?_
  refine lv_iload_n S0.1 S0.2.1 dX7_readingRefused_1 rfl (lv_at hl 1 rfl) ?_
  refine q_calli (k := 30) (i := i0) S0 hw (As := [.int p1]) (rest := []) (wX7_holds l D Y ad F i0 p1 σ) qyX7_holds kw_859 ⟨Nat.le_of_ble_eq_true rfl, Nat.le_of_ble_eq_true rfl⟩ hg0 rfl rfl rfl rfl hl.1 (Nat.le_of_ble_eq_true rfl) dX7_readingRefused_2 ⟨Nat.le_refl _, Nat.le_refl _⟩ rfl hf (fun v2 s1 H locs hw hf => ?_)
  refine lv_if_ne (tgt := 10) S0.1 S0.2.1 dX7_readingRefused_5 (by decide) (fun c3 => ?_) (fun c3 => ?_)
  · replace hf := q_neg c3 hf
    refine lv_aload_n S0.1 S0.2.1 dX7_readingRefused_10 rfl (lv_at hl 0 rfl) ?_
    refine gX7_rights S0 hw hg0 kw_87 dX7_readingRefused_11 ?_
    refine lv_iload_n S0.1 S0.2.1 dX7_readingRefused_14 rfl (lv_at hl 1 rfl) ?_
    refine q_iald (k := 36) (i := i0) S0 hw hg0 (t0 := 0) rfl rfl dX7_readingRefused_15 hf (fun v4 hf => ?_)
    refine lv_iload_n S0.1 S0.2.1 dX7_readingRefused_16 rfl (lv_at hl 2 rfl) ?_
    refine lv_ishr S0.1 S0.2.1 dX7_readingRefused_17 (q_top hf (fun v5 hf => ?_))
    refine lv_iconst (v := 1) S0.1 S0.2.1 dX7_readingRefused_18 (by decide) ?_
    refine lv_iand S0.1 S0.2.1 dX7_readingRefused_19 (q_top hf (fun v6 hf => ?_))
    refine lv_iconst (v := 1) S0.1 S0.2.1 dX7_readingRefused_20 (by decide) ?_
    refine lv_icmp_ne (tgt := 28) S0.1 S0.2.1 dX7_readingRefused_21 (by decide) (fun c7 => ?_) (fun c7 => ?_)
    · replace hf := q_neg c7 hf
      refine lv_bipush (v := (-2)) S0.1 S0.2.1 dX7_readingRefused_28 (by decide) ?_
      exact b30 ((-2)) s1 hf _ _ _ hw (lv_sub hl [] rfl)
    · replace hf := q_pos c7 hf
      refine lv_iconst (v := 0) S0.1 S0.2.1 dX7_readingRefused_24 (by decide) ?_
      refine lv_goto (tgt := 30) S0.1 S0.2.1 dX7_readingRefused_25 (by decide) ?_
      exact b30 0 s1 hf _ _ _ hw (lv_sub hl [] rfl)
  · replace hf := q_pos c3 hf
    refine lv_iconst (v := (-1)) S0.1 S0.2.1 dX7_readingRefused_8 (by decide) ?_
    exact hret dX7_readingRefused_9 hw hf
theorem qyX7_isChild : qY yX7_isChild RX7 cX7_isChild 3 (some .boolean) 2 := ⟨⟨kw_668, kw_669, kw_3, kw_670⟩, rfl, by decide, by decide, by decide +kernel⟩
def fX7_isChild_27 (F : Nat) (i0 : Nat) (t0 : Int32) (σ : qS) : Option (Int32 × qS) :=
  gbl t0 (some (t0, σ))
def fX7_isChild_26 (F : Nat) (i0 : Nat) (σ : qS) : Option (Int32 × qS) :=
  fX7_isChild_27 F i0 0 σ
def fX7_isChild (F : Nat) (i0 : Nat) (p1 : Int32) (p2 : Int32) (σ : qS) : Option (Int32 × qS) :=
  gnl i0 6 (ldi 80 (σ.1 31 i0) p1 fun v1 => (if v1 = 0 then (fX7_isChild_26 F i0 σ) else (ldi 80 (σ.1 2 0) p1 fun v3 => (if v3 = p2 then (fX7_isChild_27 F i0 1 σ) else (fX7_isChild_26 F i0 σ)))))
set_option maxRecDepth 100000 in
set_option maxHeartbeats 4000000 in
theorem wX7_isChild (l : Launch) (D : va_G) (Y : Nat → ClassId) (ad : qAd) (F : Nat) (i0 : Nat) (p1 : Int32) (p2 : Int32) (σ : qS) : qCi l yX7_isChild cX7_isChild 3 (some .boolean) 0 0 D (cL Y) (qT Y) ad [.ref (ad 30 i0), .int p1, .int p2] σ (fX7_isChild F i0 p1 p2 σ) := by
  refine q_ofz (by decide) (Nat.le_of_ble_eq_true rfl) "Leasehall$Tree" rfl (fun p e s m below meth c A Q r0 S0 hf hw hret ls hl => ?_)
  replace hl : lv_has ls 3 [(0, .ref (ad 30 i0)), (1, .int p1), (2, .int p2)] := hl
  unfold fX7_isChild at hf
  obtain ⟨hg0, hf⟩ := gnl_some hf
  have b27 : ∀ (t0 : Int32) (σ : qS), fX7_isChild_27 F i0 t0 σ = some r0 → qAt p l e (qRm 0 0) s m ([.ref (ad 30 i0), .int p1, .int p2] : List Value).toArray below meth c Q D (cL Y) (qT Y) A ad 3 0 0 27 [] [.int t0] σ := by
    clear hf hw hl ls
    intro t0 σ hf H locs ls hw hl
    unfold fX7_isChild_27 at hf
    exact hret dX7_isChild_27 hw hf
  have b26 : ∀ (σ : qS), fX7_isChild_26 F i0 σ = some r0 → qAt p l e (qRm 0 0) s m ([.ref (ad 30 i0), .int p1, .int p2] : List Value).toArray below meth c Q D (cL Y) (qT Y) A ad 3 0 0 26 [] [] σ := by
    clear hf hw hl ls
    intro σ hf H locs ls hw hl
    unfold fX7_isChild_26 at hf
    refine lv_iconst (v := 0) S0.1 S0.2.1 dX7_isChild_26 (by decide) ?_
    exact b27 0 σ hf _ _ _ hw (lv_sub hl [] rfl)
  refine lv_aload_n S0.1 S0.2.1 dX7_isChild_0 rfl (lv_at hl 0 rfl) ?_
  refine gX7_here S0 hw hg0 kw_79 dX7_isChild_1 ?_
  refine lv_iload_n S0.1 S0.2.1 dX7_isChild_4 rfl (lv_at hl 1 rfl) ?_
  refine q_zald (k := 31) (i := i0) S0 hw hg0 (t0 := 1) rfl rfl dX7_isChild_5 hf (fun v1 hf => ?_)
  refine lv_if_eq (tgt := 26) S0.1 S0.2.1 dX7_isChild_6 (by decide) (fun c2 => ?_) (fun c2 => ?_)
  · replace hf := q_pos c2 hf
    exact b26 σ hf _ _ _ hw (lv_sub hl [] rfl)
  · replace hf := q_neg c2 hf
    refine lv_aload_n S0.1 S0.2.1 dX7_isChild_9 rfl (lv_at hl 0 rfl) ?_
    refine gX7_births S0 hw hg0 kw_78 dX7_isChild_10 ?_
    refine gX1_parent S0 hw kw_41 dX7_isChild_13 ?_
    refine lv_iload_n S0.1 S0.2.1 dX7_isChild_16 rfl (lv_at hl 1 rfl) ?_
    refine q_iald S0 hw dC_2 (t0 := 0) rfl rfl dX7_isChild_17 hf (fun v3 hf => ?_)
    refine lv_iload_n S0.1 S0.2.1 dX7_isChild_18 rfl (lv_at hl 2 rfl) ?_
    refine lv_icmp_ne (tgt := 26) S0.1 S0.2.1 dX7_isChild_19 (by decide) (fun c4 => ?_) (fun c4 => ?_)
    · replace hf := q_neg c4 hf
      exact b26 σ hf _ _ _ hw (lv_sub hl [] rfl)
    · replace hf := q_pos c4 hf
      refine lv_iconst (v := 1) S0.1 S0.2.1 dX7_isChild_22 (by decide) ?_
      refine lv_goto (tgt := 27) S0.1 S0.2.1 dX7_isChild_23 (by decide) ?_
      exact b27 1 σ hf _ _ _ hw (lv_sub hl [] rfl)
theorem qyX7_childrenOf : qY yX7_childrenOf RX7 cX7_childrenOf 4 (some .int) 1 := ⟨⟨kw_664, kw_665, kw_3, kw_666⟩, rfl, by decide, by decide, by decide +kernel⟩
def fX7_childrenOf_22 (F : Nat) (i0 : Nat) (k4 : Int32 → Int32 → Int32 → qS → Option (Int32 × qS)) (x1 : Int32) (x2 : Int32) (x3 : Int32) (σ : qS) : Option (Int32 × qS) :=
  nm (x3 + 1) fun v5 => (k4 x1 x2 v5 σ)
def fX7_childrenOf_4 (F : Nat) (i0 : Nat) : Nat → Int32 → Int32 → Int32 → qS → Option (Int32 × qS)
  | 0, _, _, _, _ => none
  | n + 1, x1, x2, x3, σ =>
  if 80 ≤ x3 then (some (x2, σ)) else (bnd2 (fX7_isChild F i0 x3 x1 σ) fun v3 s2 => (if v3 = 0 then (fX7_childrenOf_22 F i0 (fX7_childrenOf_4 F i0 n) x1 x2 x3 s2) else (nm (x2 + 1) fun v6 => (fX7_childrenOf_22 F i0 (fX7_childrenOf_4 F i0 n) x1 v6 x3 s2))))
def fX7_childrenOf (F : Nat) (i0 : Nat) (p1 : Int32) (σ : qS) : Option (Int32 × qS) :=
  gnl i0 6 (fX7_childrenOf_4 F i0 F p1 0 1 σ)
set_option maxRecDepth 100000 in
set_option maxHeartbeats 4000000 in
theorem wX7_childrenOf (l : Launch) (D : va_G) (Y : Nat → ClassId) (ad : qAd) (F : Nat) (i0 : Nat) (p1 : Int32) (σ : qS) : qCi l yX7_childrenOf cX7_childrenOf 4 (some .int) 1 22 D (cL Y) (qT Y) ad [.ref (ad 30 i0), .int p1] σ (fX7_childrenOf F i0 p1 σ) := by
  refine q_ofi (by decide) (Nat.le_of_ble_eq_true rfl) "Leasehall$Tree" rfl (fun p e s m below meth c A Q r0 S0 hf hw hret ls hl => ?_)
  replace hl : lv_has ls 4 [(0, .ref (ad 30 i0)), (1, .int p1)] := hl
  unfold fX7_childrenOf at hf
  obtain ⟨hg0, hf⟩ := gnl_some hf
  have b22 : ∀ (k4 : Int32 → Int32 → Int32 → qS → Option (Int32 × qS)) (hk4 : ∀ (x1 : Int32) (x2 : Int32) (x3 : Int32) (σ : qS), k4 x1 x2 x3 σ = some r0 → qAt p l e (qRm 1 22) s m ([.ref (ad 30 i0), .int p1] : List Value).toArray below meth c Q D (cL Y) (qT Y) A ad 4 0 0 4 [(0, .ref (ad 30 i0)), (1, .int x1), (2, .int x2), (3, .int x3)] [] σ) (x1 : Int32) (x2 : Int32) (x3 : Int32) (σ : qS), fX7_childrenOf_22 F i0 k4 x1 x2 x3 σ = some r0 → qAt p l e (qRm 1 22) s m ([.ref (ad 30 i0), .int p1] : List Value).toArray below meth c Q D (cL Y) (qT Y) A ad 4 0 0 22 [(0, .ref (ad 30 i0)), (1, .int x1), (2, .int x2), (3, .int x3)] [] σ := by
    clear hf hw hl ls
    intro k4 hk4
    intro x1 x2 x3 σ hf H locs ls hw hl
    unfold fX7_childrenOf_22 at hf
    refine q_iinc S0 (v0 := 1) dX7_childrenOf_22 hl (k := 3) rfl (by decide) (by decide) rfl hf (fun v5 ls hl hf => ?_)
    refine lv_goto (tgt := 4) S0.1 S0.2.1 dX7_childrenOf_25 (by decide) ?_
    exact hk4 x1 x2 v5 σ hf _ _ _ hw (lv_sub hl [1, 2, 3, 0] rfl)
  have b4 : ∀ (n : Nat) (x1 : Int32) (x2 : Int32) (x3 : Int32) (σ : qS), fX7_childrenOf_4 F i0 n x1 x2 x3 σ = some r0 → qAt p l e (qRm 1 22) s m ([.ref (ad 30 i0), .int p1] : List Value).toArray below meth c Q D (cL Y) (qT Y) A ad 4 0 0 4 [(0, .ref (ad 30 i0)), (1, .int x1), (2, .int x2), (3, .int x3)] [] σ := by
    clear hf hw hl ls
    intro n
    induction n with
    | zero => intro x1 x2 x3 σ hf; exact absurd hf (by rw [fX7_childrenOf_4]; exact nofun)
    | succ n hk4 =>
      intro x1 x2 x3 σ hf H locs ls hw hl
      rw [fX7_childrenOf_4] at hf
      refine lv_iload_n S0.1 S0.2.1 dX7_childrenOf_4 rfl (lv_at hl 3 rfl) ?_
      refine lv_bipush (v := 80) S0.1 S0.2.1 dX7_childrenOf_5 (by decide) ?_
      refine lv_icmp_ge (tgt := 28) S0.1 S0.2.1 dX7_childrenOf_7 (by decide) (fun c1 => ?_) (fun c1 => ?_)
      · replace hf := q_pos c1 hf
        refine lv_iload_n S0.1 S0.2.1 dX7_childrenOf_28 rfl (lv_at hl 2 rfl) ?_
        exact hret dX7_childrenOf_29 hw hf
      · replace hf := q_neg c1 hf
        refine lv_aload_n S0.1 S0.2.1 dX7_childrenOf_10 rfl (lv_at hl 0 rfl) ?_
        refine lv_iload_n S0.1 S0.2.1 dX7_childrenOf_11 rfl (lv_at hl 3 rfl) ?_
        refine lv_iload_n S0.1 S0.2.1 dX7_childrenOf_12 rfl (lv_at hl 1 rfl) ?_
        refine q_calli (k := 30) (i := i0) S0 hw (As := [.int x3, .int x1]) (rest := []) (wX7_isChild l D Y ad F i0 x3 x1 σ) qyX7_isChild kw_667 ⟨Nat.le_of_ble_eq_true rfl, Nat.le_of_ble_eq_true rfl⟩ hg0 rfl rfl rfl rfl hl.1 (Nat.le_of_ble_eq_true rfl) dX7_childrenOf_13 ⟨Nat.le_refl _, Nat.le_refl _⟩ rfl hf (fun v3 s2 H locs hw hf => ?_)
        refine lv_if_eq (tgt := 22) S0.1 S0.2.1 dX7_childrenOf_16 (by decide) (fun c4 => ?_) (fun c4 => ?_)
        · replace hf := q_pos c4 hf
          exact b22 (fX7_childrenOf_4 F i0 n) hk4 x1 x2 x3 s2 hf _ _ _ hw (lv_sub hl [0, 1, 2, 3] rfl)
        · replace hf := q_neg c4 hf
          refine q_iinc S0 (v0 := 1) dX7_childrenOf_19 hl (k := 2) rfl (by decide) (by decide) rfl hf (fun v6 ls hl hf => ?_)
          exact b22 (fX7_childrenOf_4 F i0 n) hk4 x1 v6 x3 s2 hf _ _ _ hw (lv_sub hl [1, 2, 0, 3] rfl)
  refine lv_iconst (v := 0) S0.1 S0.2.1 dX7_childrenOf_0 (by decide) ?_
  refine lv_istore_n (lv' := [(2, .int 0), (0, .ref (ad 30 i0)), (1, .int p1)]) S0.1 S0.2.1 dX7_childrenOf_1 rfl hl (by decide) rfl (fun ls hl => ?_)
  refine lv_iconst (v := 1) S0.1 S0.2.1 dX7_childrenOf_2 (by decide) ?_
  refine lv_istore_n (lv' := [(3, .int 1), (2, .int 0), (0, .ref (ad 30 i0)), (1, .int p1)]) S0.1 S0.2.1 dX7_childrenOf_3 rfl hl (by decide) rfl (fun ls hl => ?_)
  exact b4 F p1 0 1 σ hf _ _ _ hw (lv_sub hl [2, 3, 1, 0] rfl)
theorem qyX7_told : qY yX7_told RX7 cX7_told 3 (some .int) 2 := ⟨⟨kw_861, kw_862, kw_3, kw_863⟩, rfl, by decide, by decide, by decide +kernel⟩
def fX7_told (F : Nat) (i0 : Nat) (p1 : Int32) (p2 : Int32) (σ : qS) : Option (Int32 × qS) :=
  gnl i0 6 (if p2 = 0 then (ldi 80 (σ.1 32 i0) p1 fun v2 => (some (v2, σ))) else (if p2 = 1 then (ldi 80 (σ.1 33 i0) p1 fun v4 => (some (v4, σ))) else (if p2 = 2 then (ldi 80 (σ.1 34 i0) p1 fun v6 => (some (v6, σ))) else (if p2 = 3 then (ldi 80 (σ.1 35 i0) p1 fun v8 => (some (v8, σ))) else (if p2 = 4 then (ldi 80 (σ.1 2 0) p1 fun v10 => (some (v10, σ))) else (if p2 = 5 then (ldi 80 (σ.1 3 0) p1 fun v12 => (some (v12, σ))) else (if p2 = 6 then (bnd2 (fX7_childrenOf F i0 p1 σ) fun v15 s14 => (some (v15, s14))) else (if p2 = 7 then (ldi 80 (σ.1 4 0) p1 fun v17 => (some (v17, σ))) else (if p2 = 8 then (ldi 80 (σ.1 6 0) p1 fun v19 => (some (v19, σ))) else (ldi 80 (σ.1 36 i0) p1 fun v20 => (some (v20, σ))))))))))))
set_option maxRecDepth 100000 in
set_option maxHeartbeats 4000000 in
theorem wX7_told (l : Launch) (D : va_G) (Y : Nat → ClassId) (ad : qAd) (F : Nat) (i0 : Nat) (p1 : Int32) (p2 : Int32) (σ : qS) : qCi l yX7_told cX7_told 3 (some .int) 2 45 D (cL Y) (qT Y) ad [.ref (ad 30 i0), .int p1, .int p2] σ (fX7_told F i0 p1 p2 σ) := by
  refine q_ofi (by decide) (Nat.le_of_ble_eq_true rfl) "Leasehall$Tree" rfl (fun p e s m below meth c A Q r0 S0 hf hw hret ls hl => ?_)
  replace hl : lv_has ls 3 [(0, .ref (ad 30 i0)), (1, .int p1), (2, .int p2)] := hl
  unfold fX7_told at hf
  obtain ⟨hg0, hf⟩ := gnl_some hf
  refine lv_iload_n S0.1 S0.2.1 dX7_told_0 rfl (lv_at hl 2 rfl) ?_
  by_cases c1 : p2 = 0
  · replace hf := q_pos c1 hf
    refine lv_tableIn (tgt := 52) S0.1 S0.2.1 dX7_told_1 (by rw [c1]; decide) (by rw [c1]; decide) (by rw [c1]; rfl) (by decide) ?_
    refine lv_aload_n S0.1 S0.2.1 dX7_told_52 rfl (lv_at hl 0 rfl) ?_
    refine gX7_value S0 hw hg0 kw_81 dX7_told_53 ?_
    refine lv_iload_n S0.1 S0.2.1 dX7_told_56 rfl (lv_at hl 1 rfl) ?_
    refine q_iald (k := 32) (i := i0) S0 hw hg0 (t0 := 0) rfl rfl dX7_told_57 hf (fun v2 hf => ?_)
    exact hret dX7_told_58 hw hf
  · replace hf := q_neg c1 hf
    by_cases c3 : p2 = 1
    · replace hf := q_pos c3 hf
      refine lv_tableIn (tgt := 59) S0.1 S0.2.1 dX7_told_1 (by rw [c3]; decide) (by rw [c3]; decide) (by rw [c3]; rfl) (by decide) ?_
      refine lv_aload_n S0.1 S0.2.1 dX7_told_59 rfl (lv_at hl 0 rfl) ?_
      refine gX7_valueVersion S0 hw hg0 kw_83 dX7_told_60 ?_
      refine lv_iload_n S0.1 S0.2.1 dX7_told_63 rfl (lv_at hl 1 rfl) ?_
      refine q_iald (k := 33) (i := i0) S0 hw hg0 (t0 := 0) rfl rfl dX7_told_64 hf (fun v4 hf => ?_)
      exact hret dX7_told_65 hw hf
    · replace hf := q_neg c3 hf
      by_cases c5 : p2 = 2
      · replace hf := q_pos c5 hf
        refine lv_tableIn (tgt := 66) S0.1 S0.2.1 dX7_told_1 (by rw [c5]; decide) (by rw [c5]; decide) (by rw [c5]; rfl) (by decide) ?_
        refine lv_aload_n S0.1 S0.2.1 dX7_told_66 rfl (lv_at hl 0 rfl) ?_
        refine gX7_childVersion S0 hw hg0 kw_85 dX7_told_67 ?_
        refine lv_iload_n S0.1 S0.2.1 dX7_told_70 rfl (lv_at hl 1 rfl) ?_
        refine q_iald (k := 34) (i := i0) S0 hw hg0 (t0 := 0) rfl rfl dX7_told_71 hf (fun v6 hf => ?_)
        exact hret dX7_told_72 hw hf
      · replace hf := q_neg c5 hf
        by_cases c7 : p2 = 3
        · replace hf := q_pos c7 hf
          refine lv_tableIn (tgt := 73) S0.1 S0.2.1 dX7_told_1 (by rw [c7]; decide) (by rw [c7]; decide) (by rw [c7]; rfl) (by decide) ?_
          refine lv_aload_n S0.1 S0.2.1 dX7_told_73 rfl (lv_at hl 0 rfl) ?_
          refine gX7_rightsVersion S0 hw hg0 kw_86 dX7_told_74 ?_
          refine lv_iload_n S0.1 S0.2.1 dX7_told_77 rfl (lv_at hl 1 rfl) ?_
          refine q_iald (k := 35) (i := i0) S0 hw hg0 (t0 := 0) rfl rfl dX7_told_78 hf (fun v8 hf => ?_)
          exact hret dX7_told_79 hw hf
        · replace hf := q_neg c7 hf
          by_cases c9 : p2 = 4
          · replace hf := q_pos c9 hf
            refine lv_tableIn (tgt := 80) S0.1 S0.2.1 dX7_told_1 (by rw [c9]; decide) (by rw [c9]; decide) (by rw [c9]; rfl) (by decide) ?_
            refine lv_aload_n S0.1 S0.2.1 dX7_told_80 rfl (lv_at hl 0 rfl) ?_
            refine gX7_births S0 hw hg0 kw_78 dX7_told_81 ?_
            refine gX1_parent S0 hw kw_41 dX7_told_84 ?_
            refine lv_iload_n S0.1 S0.2.1 dX7_told_87 rfl (lv_at hl 1 rfl) ?_
            refine q_iald S0 hw dC_2 (t0 := 0) rfl rfl dX7_told_88 hf (fun v10 hf => ?_)
            exact hret dX7_told_89 hw hf
          · replace hf := q_neg c9 hf
            by_cases c11 : p2 = 5
            · replace hf := q_pos c11 hf
              refine lv_tableIn (tgt := 90) S0.1 S0.2.1 dX7_told_1 (by rw [c11]; decide) (by rw [c11]; decide) (by rw [c11]; rfl) (by decide) ?_
              refine lv_aload_n S0.1 S0.2.1 dX7_told_90 rfl (lv_at hl 0 rfl) ?_
              refine gX7_births S0 hw hg0 kw_78 dX7_told_91 ?_
              refine gX1_name S0 hw kw_45 dX7_told_94 ?_
              refine lv_iload_n S0.1 S0.2.1 dX7_told_97 rfl (lv_at hl 1 rfl) ?_
              refine q_iald S0 hw dC_3 (t0 := 0) rfl rfl dX7_told_98 hf (fun v12 hf => ?_)
              exact hret dX7_told_99 hw hf
            · replace hf := q_neg c11 hf
              by_cases c13 : p2 = 6
              · replace hf := q_pos c13 hf
                refine lv_tableIn (tgt := 100) S0.1 S0.2.1 dX7_told_1 (by rw [c13]; decide) (by rw [c13]; decide) (by rw [c13]; rfl) (by decide) ?_
                refine lv_aload_n S0.1 S0.2.1 dX7_told_100 rfl (lv_at hl 0 rfl) ?_
                refine lv_iload_n S0.1 S0.2.1 dX7_told_101 rfl (lv_at hl 1 rfl) ?_
                refine q_calli (k := 30) (i := i0) S0 hw (As := [.int p1]) (rest := []) (wX7_childrenOf l D Y ad F i0 p1 σ) qyX7_childrenOf kw_864 ⟨Nat.le_of_ble_eq_true rfl, Nat.le_of_ble_eq_true rfl⟩ hg0 rfl rfl rfl rfl hl.1 (Nat.le_of_ble_eq_true rfl) dX7_told_102 ⟨Nat.le_refl _, Nat.le_refl _⟩ rfl hf (fun v15 s14 H locs hw hf => ?_)
                exact hret dX7_told_105 hw hf
              · replace hf := q_neg c13 hf
                by_cases c16 : p2 = 7
                · replace hf := q_pos c16 hf
                  refine lv_tableIn (tgt := 106) S0.1 S0.2.1 dX7_told_1 (by rw [c16]; decide) (by rw [c16]; decide) (by rw [c16]; rfl) (by decide) ?_
                  refine lv_aload_n S0.1 S0.2.1 dX7_told_106 rfl (lv_at hl 0 rfl) ?_
                  refine gX7_births S0 hw hg0 kw_78 dX7_told_107 ?_
                  refine gX1_kind S0 hw kw_47 dX7_told_110 ?_
                  refine lv_iload_n S0.1 S0.2.1 dX7_told_113 rfl (lv_at hl 1 rfl) ?_
                  refine q_iald S0 hw dC_4 (t0 := 0) rfl rfl dX7_told_114 hf (fun v17 hf => ?_)
                  exact hret dX7_told_115 hw hf
                · replace hf := q_neg c16 hf
                  by_cases c18 : p2 = 8
                  · replace hf := q_pos c18 hf
                    refine lv_tableIn (tgt := 116) S0.1 S0.2.1 dX7_told_1 (by rw [c18]; decide) (by rw [c18]; decide) (by rw [c18]; rfl) (by decide) ?_
                    refine lv_aload_n S0.1 S0.2.1 dX7_told_116 rfl (lv_at hl 0 rfl) ?_
                    refine gX7_births S0 hw hg0 kw_78 dX7_told_117 ?_
                    refine gX1_change S0 hw kw_53 dX7_told_120 ?_
                    refine lv_iload_n S0.1 S0.2.1 dX7_told_123 rfl (lv_at hl 1 rfl) ?_
                    refine q_iald S0 hw dC_6 (t0 := 0) rfl rfl dX7_told_124 hf (fun v19 hf => ?_)
                    exact hret dX7_told_125 hw hf
                  · replace hf := q_neg c18 hf
                    refine lv_tableOut (tgt := 126) S0.1 S0.2.1 dX7_told_1 (by have hc1 := lv_neT c1 (a := 0) (by decide); have hc3 := lv_neT c3 (a := 1) (by decide); have hc5 := lv_neT c5 (a := 2) (by decide); have hc7 := lv_neT c7 (a := 3) (by decide); have hc9 := lv_neT c9 (a := 4) (by decide); have hc11 := lv_neT c11 (a := 5) (by decide); have hc13 := lv_neT c13 (a := 6) (by decide); have hc16 := lv_neT c16 (a := 7) (by decide); have hc18 := lv_neT c18 (a := 8) (by decide); omega) (by decide) ?_
                    refine lv_aload_n S0.1 S0.2.1 dX7_told_126 rfl (lv_at hl 0 rfl) ?_
                    refine gX7_rights S0 hw hg0 kw_87 dX7_told_127 ?_
                    refine lv_iload_n S0.1 S0.2.1 dX7_told_130 rfl (lv_at hl 1 rfl) ?_
                    refine q_iald (k := 36) (i := i0) S0 hw hg0 (t0 := 0) rfl rfl dX7_told_131 hf (fun v20 hf => ?_)
                    exact hret dX7_told_132 hw hf
theorem qyX7_hasChildNamed : qY yX7_hasChildNamed RX7 cX7_hasChildNamed 4 (some .boolean) 2 := ⟨⟨kw_823, kw_824, kw_3, kw_825⟩, rfl, by decide, by decide, by decide +kernel⟩
def fX7_hasChildNamed_32 (F : Nat) (i0 : Nat) (k2 : Int32 → Int32 → Int32 → qS → Option (Int32 × qS)) (x1 : Int32) (x2 : Int32) (x3 : Int32) (σ : qS) : Option (Int32 × qS) :=
  nm (x3 + 1) fun v5 => (k2 x1 x2 v5 σ)
def fX7_hasChildNamed_2 (F : Nat) (i0 : Nat) : Nat → Int32 → Int32 → Int32 → qS → Option (Int32 × qS)
  | 0, _, _, _, _ => none
  | n + 1, x1, x2, x3, σ =>
  if 80 ≤ x3 then (gbl 0 (some (0, σ))) else (bnd2 (fX7_isChild F i0 x3 x1 σ) fun v3 s2 => (if v3 = 0 then (fX7_hasChildNamed_32 F i0 (fX7_hasChildNamed_2 F i0 n) x1 x2 x3 s2) else (ldi 80 (s2.1 3 0) x3 fun v6 => (if v6 = x2 then (gbl 1 (some (1, s2))) else (fX7_hasChildNamed_32 F i0 (fX7_hasChildNamed_2 F i0 n) x1 x2 x3 s2)))))
def fX7_hasChildNamed (F : Nat) (i0 : Nat) (p1 : Int32) (p2 : Int32) (σ : qS) : Option (Int32 × qS) :=
  gnl i0 6 (fX7_hasChildNamed_2 F i0 F p1 p2 1 σ)
set_option maxRecDepth 100000 in
set_option maxHeartbeats 4000000 in
theorem wX7_hasChildNamed (l : Launch) (D : va_G) (Y : Nat → ClassId) (ad : qAd) (F : Nat) (i0 : Nat) (p1 : Int32) (p2 : Int32) (σ : qS) : qCi l yX7_hasChildNamed cX7_hasChildNamed 4 (some .boolean) 1 22 D (cL Y) (qT Y) ad [.ref (ad 30 i0), .int p1, .int p2] σ (fX7_hasChildNamed F i0 p1 p2 σ) := by
  refine q_ofz (by decide) (Nat.le_of_ble_eq_true rfl) "Leasehall$Tree" rfl (fun p e s m below meth c A Q r0 S0 hf hw hret ls hl => ?_)
  replace hl : lv_has ls 4 [(0, .ref (ad 30 i0)), (1, .int p1), (2, .int p2)] := hl
  unfold fX7_hasChildNamed at hf
  obtain ⟨hg0, hf⟩ := gnl_some hf
  have b32 : ∀ (k2 : Int32 → Int32 → Int32 → qS → Option (Int32 × qS)) (hk2 : ∀ (x1 : Int32) (x2 : Int32) (x3 : Int32) (σ : qS), k2 x1 x2 x3 σ = some r0 → qAt p l e (qRm 1 22) s m ([.ref (ad 30 i0), .int p1, .int p2] : List Value).toArray below meth c Q D (cL Y) (qT Y) A ad 4 0 0 2 [(0, .ref (ad 30 i0)), (1, .int x1), (2, .int x2), (3, .int x3)] [] σ) (x1 : Int32) (x2 : Int32) (x3 : Int32) (σ : qS), fX7_hasChildNamed_32 F i0 k2 x1 x2 x3 σ = some r0 → qAt p l e (qRm 1 22) s m ([.ref (ad 30 i0), .int p1, .int p2] : List Value).toArray below meth c Q D (cL Y) (qT Y) A ad 4 0 0 32 [(0, .ref (ad 30 i0)), (1, .int x1), (2, .int x2), (3, .int x3)] [] σ := by
    clear hf hw hl ls
    intro k2 hk2
    intro x1 x2 x3 σ hf H locs ls hw hl
    unfold fX7_hasChildNamed_32 at hf
    refine q_iinc S0 (v0 := 1) dX7_hasChildNamed_32 hl (k := 3) rfl (by decide) (by decide) rfl hf (fun v5 ls hl hf => ?_)
    refine lv_goto (tgt := 2) S0.1 S0.2.1 dX7_hasChildNamed_35 (by decide) ?_
    exact hk2 x1 x2 v5 σ hf _ _ _ hw (lv_sub hl [1, 2, 3, 0] rfl)
  have b2 : ∀ (n : Nat) (x1 : Int32) (x2 : Int32) (x3 : Int32) (σ : qS), fX7_hasChildNamed_2 F i0 n x1 x2 x3 σ = some r0 → qAt p l e (qRm 1 22) s m ([.ref (ad 30 i0), .int p1, .int p2] : List Value).toArray below meth c Q D (cL Y) (qT Y) A ad 4 0 0 2 [(0, .ref (ad 30 i0)), (1, .int x1), (2, .int x2), (3, .int x3)] [] σ := by
    clear hf hw hl ls
    intro n
    induction n with
    | zero => intro x1 x2 x3 σ hf; exact absurd hf (by rw [fX7_hasChildNamed_2]; exact nofun)
    | succ n hk2 =>
      intro x1 x2 x3 σ hf H locs ls hw hl
      rw [fX7_hasChildNamed_2] at hf
      refine lv_iload_n S0.1 S0.2.1 dX7_hasChildNamed_2 rfl (lv_at hl 3 rfl) ?_
      refine lv_bipush (v := 80) S0.1 S0.2.1 dX7_hasChildNamed_3 (by decide) ?_
      refine lv_icmp_ge (tgt := 38) S0.1 S0.2.1 dX7_hasChildNamed_5 (by decide) (fun c1 => ?_) (fun c1 => ?_)
      · replace hf := q_pos c1 hf
        refine lv_iconst (v := 0) S0.1 S0.2.1 dX7_hasChildNamed_38 (by decide) ?_
        exact hret dX7_hasChildNamed_39 hw hf
      · replace hf := q_neg c1 hf
        refine lv_aload_n S0.1 S0.2.1 dX7_hasChildNamed_8 rfl (lv_at hl 0 rfl) ?_
        refine lv_iload_n S0.1 S0.2.1 dX7_hasChildNamed_9 rfl (lv_at hl 3 rfl) ?_
        refine lv_iload_n S0.1 S0.2.1 dX7_hasChildNamed_10 rfl (lv_at hl 1 rfl) ?_
        refine q_calli (k := 30) (i := i0) S0 hw (As := [.int x3, .int x1]) (rest := []) (wX7_isChild l D Y ad F i0 x3 x1 σ) qyX7_isChild kw_667 ⟨Nat.le_of_ble_eq_true rfl, Nat.le_of_ble_eq_true rfl⟩ hg0 rfl rfl rfl rfl hl.1 (Nat.le_of_ble_eq_true rfl) dX7_hasChildNamed_11 ⟨Nat.le_refl _, Nat.le_refl _⟩ rfl hf (fun v3 s2 H locs hw hf => ?_)
        refine lv_if_eq (tgt := 32) S0.1 S0.2.1 dX7_hasChildNamed_14 (by decide) (fun c4 => ?_) (fun c4 => ?_)
        · replace hf := q_pos c4 hf
          exact b32 (fX7_hasChildNamed_2 F i0 n) hk2 x1 x2 x3 s2 hf _ _ _ hw (lv_sub hl [0, 1, 2, 3] rfl)
        · replace hf := q_neg c4 hf
          refine lv_aload_n S0.1 S0.2.1 dX7_hasChildNamed_17 rfl (lv_at hl 0 rfl) ?_
          refine gX7_births S0 hw hg0 kw_78 dX7_hasChildNamed_18 ?_
          refine gX1_name S0 hw kw_45 dX7_hasChildNamed_21 ?_
          refine lv_iload_n S0.1 S0.2.1 dX7_hasChildNamed_24 rfl (lv_at hl 3 rfl) ?_
          refine q_iald S0 hw dC_3 (t0 := 0) rfl rfl dX7_hasChildNamed_25 hf (fun v6 hf => ?_)
          refine lv_iload_n S0.1 S0.2.1 dX7_hasChildNamed_26 rfl (lv_at hl 2 rfl) ?_
          refine lv_icmp_ne (tgt := 32) S0.1 S0.2.1 dX7_hasChildNamed_27 (by decide) (fun c7 => ?_) (fun c7 => ?_)
          · replace hf := q_neg c7 hf
            exact b32 (fX7_hasChildNamed_2 F i0 n) hk2 x1 x2 x3 s2 hf _ _ _ hw (lv_sub hl [0, 1, 2, 3] rfl)
          · replace hf := q_pos c7 hf
            refine lv_iconst (v := 1) S0.1 S0.2.1 dX7_hasChildNamed_30 (by decide) ?_
            exact hret dX7_hasChildNamed_31 hw hf
  refine lv_iconst (v := 1) S0.1 S0.2.1 dX7_hasChildNamed_0 (by decide) ?_
  refine lv_istore_n (lv' := [(3, .int 1), (0, .ref (ad 30 i0)), (1, .int p1), (2, .int p2)]) S0.1 S0.2.1 dX7_hasChildNamed_1 rfl hl (by decide) rfl (fun ls hl => ?_)
  exact b2 F p1 p2 1 σ hf _ _ _ hw (lv_sub hl [1, 2, 3, 0] rfl)
theorem qyX7_nextChild : qY yX7_nextChild RX7 cX7_nextChild 5 (some .int) 2 := ⟨⟨kw_969, kw_970, kw_3, kw_971⟩, rfl, by decide, by decide, by decide +kernel⟩
def fX7_nextChild_66 (F : Nat) (i0 : Nat) (k6 : Int32 → Int32 → Int32 → Int32 → qS → Option (Int32 × qS)) (x1 : Int32) (x2 : Int32) (x3 : Int32) (x4 : Int32) (σ : qS) : Option (Int32 × qS) :=
  nm (x4 + 1) fun v5 => (k6 x1 x2 x3 v5 σ)
def fX7_nextChild_63 (F : Nat) (i0 : Nat) (k6 : Int32 → Int32 → Int32 → Int32 → qS → Option (Int32 × qS)) (x1 : Int32) (x2 : Int32) (x4 : Int32) (σ : qS) : Option (Int32 × qS) :=
  fX7_nextChild_66 F i0 k6 x1 x2 x4 x4 σ
def fX7_nextChild_6 (F : Nat) (i0 : Nat) : Nat → Int32 → Int32 → Int32 → Int32 → qS → Option (Int32 × qS)
  | 0, _, _, _, _, _ => none
  | n + 1, x1, x2, x3, x4, σ =>
  if 80 ≤ x4 then (some (x3, σ)) else (bnd2 (fX7_isChild F i0 x4 x1 σ) fun v3 s2 => (if v3 = 0 then (fX7_nextChild_66 F i0 (fX7_nextChild_6 F i0 n) x1 x2 x3 x4 s2) else (ldi 80 (s2.1 3 0) x4 fun v6 => (if v6 ≤ x2 then (fX7_nextChild_66 F i0 (fX7_nextChild_6 F i0 n) x1 x2 x3 x4 s2) else (if x3 < 0 then (fX7_nextChild_63 F i0 (fX7_nextChild_6 F i0 n) x1 x2 x4 s2) else (ldi 80 (s2.1 3 0) x4 fun v9 => (ldi 80 (s2.1 3 0) x3 fun v10 => (if v10 ≤ v9 then (fX7_nextChild_66 F i0 (fX7_nextChild_6 F i0 n) x1 x2 x3 x4 s2) else (fX7_nextChild_63 F i0 (fX7_nextChild_6 F i0 n) x1 x2 x4 s2)))))))))
def fX7_nextChild (F : Nat) (i0 : Nat) (p1 : Int32) (p2 : Int32) (σ : qS) : Option (Int32 × qS) :=
  gnl i0 6 (fX7_nextChild_6 F i0 F p1 p2 ((-100)) 1 σ)
set_option maxRecDepth 100000 in
set_option maxHeartbeats 4000000 in
theorem wX7_nextChild (l : Launch) (D : va_G) (Y : Nat → ClassId) (ad : qAd) (F : Nat) (i0 : Nat) (p1 : Int32) (p2 : Int32) (σ : qS) : qCi l yX7_nextChild cX7_nextChild 5 (some .int) 1 22 D (cL Y) (qT Y) ad [.ref (ad 30 i0), .int p1, .int p2] σ (fX7_nextChild F i0 p1 p2 σ) := by
  refine q_ofi (by decide) (Nat.le_of_ble_eq_true rfl) "Leasehall$Tree" rfl (fun p e s m below meth c A Q r0 S0 hf hw hret ls hl => ?_)
  replace hl : lv_has ls 5 [(0, .ref (ad 30 i0)), (1, .int p1), (2, .int p2)] := hl
  unfold fX7_nextChild at hf
  obtain ⟨hg0, hf⟩ := gnl_some hf
  have b66 : ∀ (k6 : Int32 → Int32 → Int32 → Int32 → qS → Option (Int32 × qS)) (hk6 : ∀ (x1 : Int32) (x2 : Int32) (x3 : Int32) (x4 : Int32) (σ : qS), k6 x1 x2 x3 x4 σ = some r0 → qAt p l e (qRm 1 22) s m ([.ref (ad 30 i0), .int p1, .int p2] : List Value).toArray below meth c Q D (cL Y) (qT Y) A ad 5 0 0 6 [(0, .ref (ad 30 i0)), (1, .int x1), (2, .int x2), (3, .int x3), (4, .int x4)] [] σ) (x1 : Int32) (x2 : Int32) (x3 : Int32) (x4 : Int32) (σ : qS), fX7_nextChild_66 F i0 k6 x1 x2 x3 x4 σ = some r0 → qAt p l e (qRm 1 22) s m ([.ref (ad 30 i0), .int p1, .int p2] : List Value).toArray below meth c Q D (cL Y) (qT Y) A ad 5 0 0 66 [(0, .ref (ad 30 i0)), (1, .int x1), (2, .int x2), (3, .int x3), (4, .int x4)] [] σ := by
    clear hf hw hl ls
    intro k6 hk6
    intro x1 x2 x3 x4 σ hf H locs ls hw hl
    unfold fX7_nextChild_66 at hf
    refine q_iinc S0 (v0 := 1) dX7_nextChild_66 hl (k := 4) rfl (by decide) (by decide) rfl hf (fun v5 ls hl hf => ?_)
    refine lv_goto (tgt := 6) S0.1 S0.2.1 dX7_nextChild_69 (by decide) ?_
    exact hk6 x1 x2 x3 v5 σ hf _ _ _ hw (lv_sub hl [1, 2, 3, 4, 0] rfl)
  have b63 : ∀ (k6 : Int32 → Int32 → Int32 → Int32 → qS → Option (Int32 × qS)) (hk6 : ∀ (x1 : Int32) (x2 : Int32) (x3 : Int32) (x4 : Int32) (σ : qS), k6 x1 x2 x3 x4 σ = some r0 → qAt p l e (qRm 1 22) s m ([.ref (ad 30 i0), .int p1, .int p2] : List Value).toArray below meth c Q D (cL Y) (qT Y) A ad 5 0 0 6 [(0, .ref (ad 30 i0)), (1, .int x1), (2, .int x2), (3, .int x3), (4, .int x4)] [] σ) (x1 : Int32) (x2 : Int32) (x4 : Int32) (σ : qS), fX7_nextChild_63 F i0 k6 x1 x2 x4 σ = some r0 → qAt p l e (qRm 1 22) s m ([.ref (ad 30 i0), .int p1, .int p2] : List Value).toArray below meth c Q D (cL Y) (qT Y) A ad 5 0 0 63 [(0, .ref (ad 30 i0)), (1, .int x1), (2, .int x2), (4, .int x4)] [] σ := by
    clear hf hw hl ls
    intro k6 hk6
    intro x1 x2 x4 σ hf H locs ls hw hl
    unfold fX7_nextChild_63 at hf
    refine lv_iload S0.1 S0.2.1 dX7_nextChild_63 (lv_at hl 3 rfl) ?_
    refine lv_istore_n (lv' := [(3, .int x4), (0, .ref (ad 30 i0)), (1, .int x1), (2, .int x2), (4, .int x4)]) S0.1 S0.2.1 dX7_nextChild_65 rfl hl (by decide) rfl (fun ls hl => ?_)
    exact b66 k6 hk6 x1 x2 x4 x4 σ hf _ _ _ hw (lv_sub hl [1, 2, 3, 0, 4] rfl)
  have b6 : ∀ (n : Nat) (x1 : Int32) (x2 : Int32) (x3 : Int32) (x4 : Int32) (σ : qS), fX7_nextChild_6 F i0 n x1 x2 x3 x4 σ = some r0 → qAt p l e (qRm 1 22) s m ([.ref (ad 30 i0), .int p1, .int p2] : List Value).toArray below meth c Q D (cL Y) (qT Y) A ad 5 0 0 6 [(0, .ref (ad 30 i0)), (1, .int x1), (2, .int x2), (3, .int x3), (4, .int x4)] [] σ := by
    clear hf hw hl ls
    intro n
    induction n with
    | zero => intro x1 x2 x3 x4 σ hf; exact absurd hf (by rw [fX7_nextChild_6]; exact nofun)
    | succ n hk6 =>
      intro x1 x2 x3 x4 σ hf H locs ls hw hl
      rw [fX7_nextChild_6] at hf
      refine lv_iload S0.1 S0.2.1 dX7_nextChild_6 (lv_at hl 4 rfl) ?_
      refine lv_bipush (v := 80) S0.1 S0.2.1 dX7_nextChild_8 (by decide) ?_
      refine lv_icmp_ge (tgt := 72) S0.1 S0.2.1 dX7_nextChild_10 (by decide) (fun c1 => ?_) (fun c1 => ?_)
      · replace hf := q_pos c1 hf
        refine lv_iload_n S0.1 S0.2.1 dX7_nextChild_72 rfl (lv_at hl 3 rfl) ?_
        exact hret dX7_nextChild_73 hw hf
      · replace hf := q_neg c1 hf
        refine lv_aload_n S0.1 S0.2.1 dX7_nextChild_13 rfl (lv_at hl 0 rfl) ?_
        refine lv_iload S0.1 S0.2.1 dX7_nextChild_14 (lv_at hl 4 rfl) ?_
        refine lv_iload_n S0.1 S0.2.1 dX7_nextChild_16 rfl (lv_at hl 1 rfl) ?_
        refine q_calli (k := 30) (i := i0) S0 hw (As := [.int x4, .int x1]) (rest := []) (wX7_isChild l D Y ad F i0 x4 x1 σ) qyX7_isChild kw_667 ⟨Nat.le_of_ble_eq_true rfl, Nat.le_of_ble_eq_true rfl⟩ hg0 rfl rfl rfl rfl hl.1 (Nat.le_of_ble_eq_true rfl) dX7_nextChild_17 ⟨Nat.le_refl _, Nat.le_refl _⟩ rfl hf (fun v3 s2 H locs hw hf => ?_)
        refine lv_if_eq (tgt := 66) S0.1 S0.2.1 dX7_nextChild_20 (by decide) (fun c4 => ?_) (fun c4 => ?_)
        · replace hf := q_pos c4 hf
          exact b66 (fX7_nextChild_6 F i0 n) hk6 x1 x2 x3 x4 s2 hf _ _ _ hw (lv_sub hl [0, 1, 2, 3, 4] rfl)
        · replace hf := q_neg c4 hf
          refine lv_aload_n S0.1 S0.2.1 dX7_nextChild_23 rfl (lv_at hl 0 rfl) ?_
          refine gX7_births S0 hw hg0 kw_78 dX7_nextChild_24 ?_
          refine gX1_name S0 hw kw_45 dX7_nextChild_27 ?_
          refine lv_iload S0.1 S0.2.1 dX7_nextChild_30 (lv_at hl 4 rfl) ?_
          refine q_iald S0 hw dC_3 (t0 := 0) rfl rfl dX7_nextChild_32 hf (fun v6 hf => ?_)
          refine lv_iload_n S0.1 S0.2.1 dX7_nextChild_33 rfl (lv_at hl 2 rfl) ?_
          refine lv_icmp_le (tgt := 66) S0.1 S0.2.1 dX7_nextChild_34 (by decide) (fun c7 => ?_) (fun c7 => ?_)
          · replace hf := q_pos c7 hf
            exact b66 (fX7_nextChild_6 F i0 n) hk6 x1 x2 x3 x4 s2 hf _ _ _ hw (lv_sub hl [0, 1, 2, 3, 4] rfl)
          · replace hf := q_neg c7 hf
            refine lv_iload_n S0.1 S0.2.1 dX7_nextChild_37 rfl (lv_at hl 3 rfl) ?_
            refine lv_if_lt (tgt := 63) S0.1 S0.2.1 dX7_nextChild_38 (by decide) (fun c8 => ?_) (fun c8 => ?_)
            · replace hf := q_pos c8 hf
              exact b63 (fX7_nextChild_6 F i0 n) hk6 x1 x2 x4 s2 hf _ _ _ hw (lv_sub hl [0, 1, 2, 4] rfl)
            · replace hf := q_neg c8 hf
              refine lv_aload_n S0.1 S0.2.1 dX7_nextChild_41 rfl (lv_at hl 0 rfl) ?_
              refine gX7_births S0 hw hg0 kw_78 dX7_nextChild_42 ?_
              refine gX1_name S0 hw kw_45 dX7_nextChild_45 ?_
              refine lv_iload S0.1 S0.2.1 dX7_nextChild_48 (lv_at hl 4 rfl) ?_
              refine q_iald S0 hw dC_3 (t0 := 0) rfl rfl dX7_nextChild_50 hf (fun v9 hf => ?_)
              refine lv_aload_n S0.1 S0.2.1 dX7_nextChild_51 rfl (lv_at hl 0 rfl) ?_
              refine gX7_births S0 hw hg0 kw_78 dX7_nextChild_52 ?_
              refine gX1_name S0 hw kw_45 dX7_nextChild_55 ?_
              refine lv_iload_n S0.1 S0.2.1 dX7_nextChild_58 rfl (lv_at hl 3 rfl) ?_
              refine q_iald S0 hw dC_3 (t0 := 0) rfl rfl dX7_nextChild_59 hf (fun v10 hf => ?_)
              refine lv_icmp_ge (tgt := 66) S0.1 S0.2.1 dX7_nextChild_60 (by decide) (fun c11 => ?_) (fun c11 => ?_)
              · replace hf := q_pos c11 hf
                exact b66 (fX7_nextChild_6 F i0 n) hk6 x1 x2 x3 x4 s2 hf _ _ _ hw (lv_sub hl [0, 1, 2, 3, 4] rfl)
              · replace hf := q_neg c11 hf
                exact b63 (fX7_nextChild_6 F i0 n) hk6 x1 x2 x4 s2 hf _ _ _ hw (lv_sub hl [0, 1, 2, 4] rfl)
  refine lv_bipush (v := (-100)) S0.1 S0.2.1 dX7_nextChild_0 (by decide) ?_
  refine lv_istore_n (lv' := [(3, .int ((-100))), (0, .ref (ad 30 i0)), (1, .int p1), (2, .int p2)]) S0.1 S0.2.1 dX7_nextChild_2 rfl hl (by decide) rfl (fun ls hl => ?_)
  refine lv_iconst (v := 1) S0.1 S0.2.1 dX7_nextChild_3 (by decide) ?_
  refine lv_istore (lv' := [(4, .int 1), (3, .int ((-100))), (0, .ref (ad 30 i0)), (1, .int p1), (2, .int p2)]) S0.1 S0.2.1 dX7_nextChild_4 hl (by decide) rfl (fun ls hl => ?_)
  exact b6 F p1 p2 ((-100)) 1 σ hf _ _ _ hw (lv_sub hl [2, 3, 4, 1, 0] rfl)

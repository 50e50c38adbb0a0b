def fX9_thrown (F : Nat) (σ : qS) : Option (Int32 × qS) :=
  nm (σ.1 0 0 57) fun v1 => (some (v1, σ))
set_option maxRecDepth 100000 in
set_option maxHeartbeats 4000000 in
theorem wX9_thrown (l : Launch) (D : va_G) (Y : Nat → ClassId) (ad : qAd) (F : Nat) (σ : qS) : qCi l yX9_thrown cX9_thrown 1 (some .int) 0 0 D (mL Y) (qT Y) ad [.ref (ad 0 0)] σ (fX9_thrown F σ) := by
  refine q_ofi (by decide) (Nat.le_of_ble_eq_true rfl) "LeasehallModel" rfl (fun p e s m below meth c A Q r0 S0 hf hw hret ls hl => ?_)
  replace hl : lv_has ls 1 [(0, .ref (ad 0 0))] := hl
  unfold fX9_thrown at hf
  refine lv_aload_n S0.1 S0.2.1 dX9_thrown_0 rfl (lv_at hl 0 rfl) ?_
  refine gX9_thrown S0 hw kw_1205 dX9_thrown_1 hf (fun v1 hf => ?_)
  exact hret dX9_thrown_4 hw hf
theorem qyX9_holds : qY yX9_holds RX9 cX9_holds 2 (some .boolean) 1 := ⟨⟨kw_1337, kp_40, kw_11, kw_1338⟩, rfl, by decide, by decide, by decide +kernel⟩
def fX9_holds_14 (F : Nat) (t0 : Int32) (σ : qS) : Option (Int32 × qS) :=
  gbl t0 (some (t0, σ))
def fX9_holds (F : Nat) (p1 : Int32) (σ : qS) : Option (Int32 × qS) :=
  nm (qI σ 0 0 57 p1) fun s1 => (if p1 ≤ 0 then (fX9_holds_14 F 0 s1) else (fX9_holds_14 F 1 s1))
set_option maxRecDepth 100000 in
set_option maxHeartbeats 4000000 in
theorem wX9_holds (l : Launch) (D : va_G) (Y : Nat → ClassId) (ad : qAd) (F : Nat) (p1 : Int32) (σ : qS) : qCi l yX9_holds cX9_holds 2 (some .boolean) 0 0 D (mL Y) (qT Y) ad [.ref (ad 0 0), .int p1] σ (fX9_holds F p1 σ) := by
  refine q_ofz (by decide) (Nat.le_of_ble_eq_true rfl) "LeasehallModel" rfl (fun p e s m below meth c A Q r0 S0 hf hw hret ls hl => ?_)
  replace hl : lv_has ls 2 [(0, .ref (ad 0 0)), (1, .int p1)] := hl
  unfold fX9_holds at hf
  have b14 : ∀ (t0 : Int32) (σ : qS), fX9_holds_14 F t0 σ = some r0 → qAt p l e (qRm 0 0) s m ([.ref (ad 0 0), .int p1] : List Value).toArray below meth c Q D (mL Y) (qT Y) A ad 2 0 0 14 [] [.int t0] σ := by
    clear hf hw hl ls
    intro t0 σ hf H locs ls hw hl
    unfold fX9_holds_14 at hf
    exact hret dX9_holds_14 hw hf
  refine lv_aload_n S0.1 S0.2.1 dX9_holds_0 rfl (lv_at hl 0 rfl) ?_
  refine lv_iload_n S0.1 S0.2.1 dX9_holds_1 rfl (lv_at hl 1 rfl) ?_
  refine pX9_thrown S0 hw kw_1205 dX9_holds_2 hf (fun s1 H locs hw hf => ?_)
  refine lv_iload_n S0.1 S0.2.1 dX9_holds_5 rfl (lv_at hl 1 rfl) ?_
  refine lv_if_le (tgt := 13) S0.1 S0.2.1 dX9_holds_6 (by decide) (fun c2 => ?_) (fun c2 => ?_)
  · replace hf := q_pos c2 hf
    refine lv_iconst (v := 0) S0.1 S0.2.1 dX9_holds_13 (by decide) ?_
    exact b14 0 s1 hf _ _ _ hw (lv_sub hl [] rfl)
  · replace hf := q_neg c2 hf
    refine lv_iconst (v := 1) S0.1 S0.2.1 dX9_holds_9 (by decide) ?_
    refine lv_goto (tgt := 14) S0.1 S0.2.1 dX9_holds_10 (by decide) ?_
    exact b14 1 s1 hf _ _ _ hw (lv_sub hl [] rfl)
theorem qyX9_in : qY yX9_in RX9 cX9_in 4 (some .boolean) 3 := ⟨⟨kw_1333, kp_39, kw_11, kw_1334⟩, rfl, by decide, by decide, by decide +kernel⟩
def fX9_in_15 (F : Nat) (t0 : Int32) (σ : qS) : Option (Int32 × qS) :=
  gbl t0 (some (t0, σ))
def fX9_in_14 (F : Nat) (σ : qS) : Option (Int32 × qS) :=
  fX9_in_15 F 0 σ
def fX9_in (F : Nat) (p1 : Int32) (p2 : Int32) (p3 : Int32) (σ : qS) : Option (Int32 × qS) :=
  if p1 < p2 then (fX9_in_14 F σ) else (if p3 < p1 then (fX9_in_14 F σ) else (fX9_in_15 F 1 σ))
set_option maxRecDepth 100000 in
set_option maxHeartbeats 4000000 in
theorem wX9_in (l : Launch) (D : va_G) (Y : Nat → ClassId) (ad : qAd) (F : Nat) (p1 : Int32) (p2 : Int32) (p3 : Int32) (σ : qS) : qCi l yX9_in cX9_in 4 (some .boolean) 0 0 D (mL Y) (qT Y) ad [.ref (ad 0 0), .int p1, .int p2, .int p3] σ (fX9_in F p1 p2 p3 σ) := by
  refine q_ofz (by decide) (Nat.le_of_ble_eq_true rfl) "LeasehallModel" rfl (fun p e s m below meth c A Q r0 S0 hf hw hret ls hl => ?_)
  replace hl : lv_has ls 4 [(0, .ref (ad 0 0)), (1, .int p1), (2, .int p2), (3, .int p3)] := hl
  unfold fX9_in at hf
  have b15 : ∀ (t0 : Int32) (σ : qS), fX9_in_15 F t0 σ = some r0 → qAt p l e (qRm 0 0) s m ([.ref (ad 0 0), .int p1, .int p2, .int p3] : List Value).toArray below meth c Q D (mL Y) (qT Y) A ad 4 0 0 15 [] [.int t0] σ := by
    clear hf hw hl ls
    intro t0 σ hf H locs ls hw hl
    unfold fX9_in_15 at hf
    exact hret dX9_in_15 hw hf
  have b14 : ∀ (σ : qS), fX9_in_14 F σ = some r0 → qAt p l e (qRm 0 0) s m ([.ref (ad 0 0), .int p1, .int p2, .int p3] : List Value).toArray below meth c Q D (mL Y) (qT Y) A ad 4 0 0 14 [] [] σ := by
    clear hf hw hl ls
    intro σ hf H locs ls hw hl
    unfold fX9_in_14 at hf
    refine lv_iconst (v := 0) S0.1 S0.2.1 dX9_in_14 (by decide) ?_
    exact b15 0 σ hf _ _ _ hw (lv_sub hl [] rfl)
  refine lv_iload_n S0.1 S0.2.1 dX9_in_0 rfl (lv_at hl 1 rfl) ?_
  refine lv_iload_n S0.1 S0.2.1 dX9_in_1 rfl (lv_at hl 2 rfl) ?_
  refine lv_icmp_lt (tgt := 14) S0.1 S0.2.1 dX9_in_2 (by decide) (fun c1 => ?_) (fun c1 => ?_)
  · replace hf := q_pos c1 hf
    exact b14 σ hf _ _ _ hw (lv_sub hl [] rfl)
  · replace hf := q_neg c1 hf
    refine lv_iload_n S0.1 S0.2.1 dX9_in_5 rfl (lv_at hl 1 rfl) ?_
    refine lv_iload_n S0.1 S0.2.1 dX9_in_6 rfl (lv_at hl 3 rfl) ?_
    refine lv_icmp_gt (tgt := 14) S0.1 S0.2.1 dX9_in_7 (by decide) (fun c2 => ?_) (fun c2 => ?_)
    · replace hf := q_pos c2 hf
      exact b14 σ hf _ _ _ hw (lv_sub hl [] rfl)
    · replace hf := q_neg c2 hf
      refine lv_iconst (v := 1) S0.1 S0.2.1 dX9_in_10 (by decide) ?_
      refine lv_goto (tgt := 15) S0.1 S0.2.1 dX9_in_11 (by decide) ?_
      exact b15 1 σ hf _ _ _ hw (lv_sub hl [] rfl)
theorem qyX9_isSession : qY yX9_isSession RX9 cX9_isSession 2 (some .boolean) 1 := ⟨⟨kw_1345, kp_41, kw_11, kw_1346⟩, rfl, by decide, by decide, by decide +kernel⟩
def fX9_isSession (F : Nat) (p1 : Int32) (σ : qS) : Option (Int32 × qS) :=
  nm (σ.1 0 0 48) fun v1 => (nm (v1 - 1) fun v2 => (bnd2 (fX9_in F p1 0 v2 σ) fun v4 s3 => (gbl v4 (some (v4, s3)))))
set_option maxRecDepth 100000 in
set_option maxHeartbeats 4000000 in
theorem wX9_isSession (l : Launch) (D : va_G) (Y : Nat → ClassId) (ad : qAd) (F : Nat) (p1 : Int32) (σ : qS) : qCi l yX9_isSession cX9_isSession 2 (some .boolean) 1 23 D (mL Y) (qT Y) ad [.ref (ad 0 0), .int p1] σ (fX9_isSession F p1 σ) := by
  refine q_ofz (by decide) (Nat.le_of_ble_eq_true rfl) "LeasehallModel" rfl (fun p e s m below meth c A Q r0 S0 hf hw hret ls hl => ?_)
  replace hl : lv_has ls 2 [(0, .ref (ad 0 0)), (1, .int p1)] := hl
  unfold fX9_isSession at hf
  refine lv_aload_n S0.1 S0.2.1 dX9_isSession_0 rfl (lv_at hl 0 rfl) ?_
  refine lv_iload_n S0.1 S0.2.1 dX9_isSession_1 rfl (lv_at hl 1 rfl) ?_
  refine lv_iconst (v := 0) S0.1 S0.2.1 dX9_isSession_2 (by decide) ?_
  refine lv_aload_n S0.1 S0.2.1 dX9_isSession_3 rfl (lv_at hl 0 rfl) ?_
  refine gX9_sessions S0 hw kw_1196 dX9_isSession_4 hf (fun v1 hf => ?_)
  refine lv_iconst (v := 1) S0.1 S0.2.1 dX9_isSession_7 (by decide) ?_
  refine lv_isub S0.1 S0.2.1 dX9_isSession_8 (q_top hf (fun v2 hf => ?_))
  refine q_calli S0 hw (As := [.int p1, .int 0, .int v2]) (rest := []) (wX9_in l D Y ad F p1 0 v2 σ) qyX9_in kw_1331 ⟨Nat.le_of_ble_eq_true rfl, Nat.le_of_ble_eq_true rfl⟩ dM_0 rfl rfl rfl rfl hl.1 (Nat.le_of_ble_eq_true rfl) dX9_isSession_9 ⟨Nat.le_refl _, Nat.le_refl _⟩ rfl hf (fun v4 s3 H locs hw hf => ?_)
  exact hret dX9_isSession_12 hw hf
theorem qyX9_isThere : qY yX9_isThere RX9 cX9_isThere 3 (some .boolean) 2 := ⟨⟨kw_1465, kp_63, kw_11, kw_1466⟩, rfl, by decide, by decide, by decide +kernel⟩
def fX9_isThere_35 (F : Nat) (t0 : Int32) (σ : qS) : Option (Int32 × qS) :=
  gbl t0 (some (t0, σ))
def fX9_isThere_34 (F : Nat) (σ : qS) : Option (Int32 × qS) :=
  fX9_isThere_35 F 0 σ
def fX9_isThere (F : Nat) (p1 : Int32) (p2 : Int32) (σ : qS) : Option (Int32 × qS) :=
  nm (σ.1 0 0 7) fun v1 => (nm (v1 - 1) fun v2 => (bnd2 (fX9_in F p2 0 v2 σ) fun v4 s3 => (if v4 = 0 then (fX9_isThere_34 F s3) else (nm (80 * p1) fun v6 => (nm (v6 + p2) fun v7 => (ldi 400 (s3.1 108 0) v7 fun v8 => (if v8 = 1 then (fX9_isThere_35 F 1 s3) else (fX9_isThere_34 F s3))))))))
set_option maxRecDepth 100000 in
set_option maxHeartbeats 4000000 in
theorem wX9_isThere (l : Launch) (D : va_G) (Y : Nat → ClassId) (ad : qAd) (F : Nat) (p1 : Int32) (p2 : Int32) (σ : qS) : qCi l yX9_isThere cX9_isThere 3 (some .boolean) 1 23 D (mL Y) (qT Y) ad [.ref (ad 0 0), .int p1, .int p2] σ (fX9_isThere F p1 p2 σ) := by
  refine q_ofz (by decide) (Nat.le_of_ble_eq_true rfl) "LeasehallModel" rfl (fun p e s m below meth c A Q r0 S0 hf hw hret ls hl => ?_)
  replace hl : lv_has ls 3 [(0, .ref (ad 0 0)), (1, .int p1), (2, .int p2)] := hl
  unfold fX9_isThere at hf
  have b35 : ∀ (t0 : Int32) (σ : qS), fX9_isThere_35 F t0 σ = some r0 → qAt p l e (qRm 1 23) s m ([.ref (ad 0 0), .int p1, .int p2] : List Value).toArray below meth c Q D (mL Y) (qT Y) A ad 3 0 0 35 [] [.int t0] σ := by
    clear hf hw hl ls
    intro t0 σ hf H locs ls hw hl
    unfold fX9_isThere_35 at hf
    exact hret dX9_isThere_35 hw hf
  have b34 : ∀ (σ : qS), fX9_isThere_34 F σ = some r0 → qAt p l e (qRm 1 23) s m ([.ref (ad 0 0), .int p1, .int p2] : List Value).toArray below meth c Q D (mL Y) (qT Y) A ad 3 0 0 34 [] [] σ := by
    clear hf hw hl ls
    intro σ hf H locs ls hw hl
    unfold fX9_isThere_34 at hf
    refine lv_iconst (v := 0) S0.1 S0.2.1 dX9_isThere_34 (by decide) ?_
    exact b35 0 σ hf _ _ _ hw (lv_sub hl [] rfl)
  refine lv_aload_n S0.1 S0.2.1 dX9_isThere_0 rfl (lv_at hl 0 rfl) ?_
  refine lv_iload_n S0.1 S0.2.1 dX9_isThere_1 rfl (lv_at hl 2 rfl) ?_
  refine lv_iconst (v := 0) S0.1 S0.2.1 dX9_isThere_2 (by decide) ?_
  refine lv_aload_n S0.1 S0.2.1 dX9_isThere_3 rfl (lv_at hl 0 rfl) ?_
  refine gX9_nodes S0 hw kw_1155 dX9_isThere_4 hf (fun v1 hf => ?_)
  refine lv_iconst (v := 1) S0.1 S0.2.1 dX9_isThere_7 (by decide) ?_
  refine lv_isub S0.1 S0.2.1 dX9_isThere_8 (q_top hf (fun v2 hf => ?_))
  refine q_calli S0 hw (As := [.int p2, .int 0, .int v2]) (rest := []) (wX9_in l D Y ad F p2 0 v2 σ) qyX9_in kw_1331 ⟨Nat.le_of_ble_eq_true rfl, Nat.le_of_ble_eq_true rfl⟩ dM_0 rfl rfl rfl rfl hl.1 (Nat.le_of_ble_eq_true rfl) dX9_isThere_9 ⟨Nat.le_refl _, Nat.le_refl _⟩ rfl hf (fun v4 s3 H locs hw hf => ?_)
  refine lv_if_eq (tgt := 34) S0.1 S0.2.1 dX9_isThere_12 (by decide) (fun c5 => ?_) (fun c5 => ?_)
  · replace hf := q_pos c5 hf
    exact b34 s3 hf _ _ _ hw (lv_sub hl [] rfl)
  · replace hf := q_neg c5 hf
    refine lv_aload_n S0.1 S0.2.1 dX9_isThere_15 rfl (lv_at hl 0 rfl) ?_
    refine gX9_is S0 hw kw_1156 dX9_isThere_16 ?_
    refine lv_bipush (v := 80) S0.1 S0.2.1 dX9_isThere_19 (by decide) ?_
    refine lv_iload_n S0.1 S0.2.1 dX9_isThere_21 rfl (lv_at hl 1 rfl) ?_
    refine lv_imul S0.1 S0.2.1 dX9_isThere_22 (q_top hf (fun v6 hf => ?_))
    refine lv_iload_n S0.1 S0.2.1 dX9_isThere_23 rfl (lv_at hl 2 rfl) ?_
    refine lv_iadd S0.1 S0.2.1 dX9_isThere_24 (q_top hf (fun v7 hf => ?_))
    refine q_iald S0 hw dM_108 (t0 := 0) rfl rfl dX9_isThere_25 hf (fun v8 hf => ?_)
    refine lv_iconst (v := 1) S0.1 S0.2.1 dX9_isThere_26 (by decide) ?_
    refine lv_icmp_ne (tgt := 34) S0.1 S0.2.1 dX9_isThere_27 (by decide) (fun c9 => ?_) (fun c9 => ?_)
    · replace hf := q_neg c9 hf
      exact b34 s3 hf _ _ _ hw (lv_sub hl [] rfl)
    · replace hf := q_pos c9 hf
      refine lv_iconst (v := 1) S0.1 S0.2.1 dX9_isThere_30 (by decide) ?_
      refine lv_goto (tgt := 35) S0.1 S0.2.1 dX9_isThere_31 (by decide) ?_
      exact b35 1 s3 hf _ _ _ hw (lv_sub hl [] rfl)
theorem qyX9_does : qY yX9_does RX9 cX9_does 2 none 1 := ⟨⟨kw_1417, kp_58, kw_11, kw_1418⟩, rfl, by decide, by decide, by decide +kernel⟩
def fX9_does (F : Nat) (p1 : Int32) (σ : qS) : Option qS :=
  nm (σ.1 0 0 53) fun v1 => (inx 10 p1 (nm (qI σ 134 0 p1.toNatClampNeg v1) fun s2 => (some s2)))
set_option maxRecDepth 100000 in
set_option maxHeartbeats 4000000 in
theorem wX9_does (l : Launch) (D : va_G) (Y : Nat → ClassId) (ad : qAd) (F : Nat) (p1 : Int32) (σ : qS) : qCv l yX9_does cX9_does 2 none 0 0 D (mL Y) (qT Y) ad [.ref (ad 0 0), .int p1] σ (fX9_does F p1 σ) := by
  refine q_ofv (by decide) (Nat.le_of_ble_eq_true rfl) "LeasehallModel" rfl (fun p e s m below meth c A Q r0 S0 hf hw hret ls hl => ?_)
  replace hl : lv_has ls 2 [(0, .ref (ad 0 0)), (1, .int p1)] := hl
  unfold fX9_does at hf
  refine lv_aload_n S0.1 S0.2.1 dX9_does_0 rfl (lv_at hl 0 rfl) ?_
  refine gX9_zl S0 hw kw_1182 dX9_does_1 ?_
  refine lv_iload_n S0.1 S0.2.1 dX9_does_4 rfl (lv_at hl 1 rfl) ?_
  refine lv_aload_n S0.1 S0.2.1 dX9_does_5 rfl (lv_at hl 0 rfl) ?_
  refine gX9_time S0 hw kw_1201 dX9_does_6 hf (fun v1 hf => ?_)
  refine q_iast S0 hw dM_134 (t0 := 0) (fun _ => rfl) rfl dX9_does_9 hf (fun s2 H locs hw hf => ?_)
  exact hret dX9_does_10 hw hf
theorem qyX9_log : qY yX9_log RX9 cX9_log 5 none 4 := ⟨⟨kw_1377, kp_49, kw_11, kw_1378⟩, rfl, by decide, by decide, by decide +kernel⟩
def fX9_log (F : Nat) (p1 : Int32) (p2 : Int32) (p3 : Int32) (p4 : Int32) (σ : qS) : Option qS :=
  nm (σ.1 0 0 25) fun v1 => (nm (σ.1 0 0 27) fun v2 => (inx 90000 v1 (nm (qI σ 120 0 v1.toNatClampNeg v2) fun s3 => (nm (s3.1 0 0 25) fun v4 => (inx 90000 v4 (nm (qI s3 121 0 v4.toNatClampNeg p1) fun s5 => (nm (s5.1 0 0 25) fun v6 => (inx 90000 v6 (nm (qI s5 122 0 v6.toNatClampNeg p2) fun s7 => (nm (s7.1 0 0 25) fun v8 => (inx 90000 v8 (nm (qI s7 123 0 v8.toNatClampNeg p3) fun s9 => (nm (s9.1 0 0 25) fun v10 => (inx 90000 v10 (nm (qI s9 124 0 v10.toNatClampNeg p4) fun s11 => (nm (s11.1 0 0 25) fun v12 => (nm (v12 + 1) fun v13 => (nm (qI s11 0 0 25 v13) fun s14 => (some s14)))))))))))))))))))
set_option maxRecDepth 100000 in
set_option maxHeartbeats 4000000 in
theorem wX9_log (l : Launch) (D : va_G) (Y : Nat → ClassId) (ad : qAd) (F : Nat) (p1 : Int32) (p2 : Int32) (p3 : Int32) (p4 : Int32) (σ : qS) : qCv l yX9_log cX9_log 5 none 0 0 D (mL Y) (qT Y) ad [.ref (ad 0 0), .int p1, .int p2, .int p3, .int p4] σ (fX9_log F p1 p2 p3 p4 σ) := by
  refine q_ofv (by decide) (Nat.le_of_ble_eq_true rfl) "LeasehallModel" rfl (fun p e s m below meth c A Q r0 S0 hf hw hret ls hl => ?_)
  replace hl : lv_has ls 5 [(0, .ref (ad 0 0)), (1, .int p1), (2, .int p2), (3, .int p3), (4, .int p4)] := hl
  unfold fX9_log at hf
  refine lv_aload_n S0.1 S0.2.1 dX9_log_0 rfl (lv_at hl 0 rfl) ?_
  refine gX9_sc S0 hw kw_1168 dX9_log_1 ?_
  refine lv_aload_n S0.1 S0.2.1 dX9_log_4 rfl (lv_at hl 0 rfl) ?_
  refine gX9_steps S0 hw kw_1173 dX9_log_5 hf (fun v1 hf => ?_)
  refine lv_aload_n S0.1 S0.2.1 dX9_log_8 rfl (lv_at hl 0 rfl) ?_
  refine gX9_now S0 hw kw_1175 dX9_log_9 hf (fun v2 hf => ?_)
  refine q_iast S0 hw dM_120 (t0 := 0) (fun _ => rfl) rfl dX9_log_12 hf (fun s3 H locs hw hf => ?_)
  refine lv_aload_n S0.1 S0.2.1 dX9_log_13 rfl (lv_at hl 0 rfl) ?_
  refine gX9_sk S0 hw kw_1169 dX9_log_14 ?_
  refine lv_aload_n S0.1 S0.2.1 dX9_log_17 rfl (lv_at hl 0 rfl) ?_
  refine gX9_steps S0 hw kw_1173 dX9_log_18 hf (fun v4 hf => ?_)
  refine lv_iload_n S0.1 S0.2.1 dX9_log_21 rfl (lv_at hl 1 rfl) ?_
  refine q_iast S0 hw dM_121 (t0 := 0) (fun _ => rfl) rfl dX9_log_22 hf (fun s5 H locs hw hf => ?_)
  refine lv_aload_n S0.1 S0.2.1 dX9_log_23 rfl (lv_at hl 0 rfl) ?_
  refine gX9_sn S0 hw kw_1170 dX9_log_24 ?_
  refine lv_aload_n S0.1 S0.2.1 dX9_log_27 rfl (lv_at hl 0 rfl) ?_
  refine gX9_steps S0 hw kw_1173 dX9_log_28 hf (fun v6 hf => ?_)
  refine lv_iload_n S0.1 S0.2.1 dX9_log_31 rfl (lv_at hl 2 rfl) ?_
  refine q_iast S0 hw dM_122 (t0 := 0) (fun _ => rfl) rfl dX9_log_32 hf (fun s7 H locs hw hf => ?_)
  refine lv_aload_n S0.1 S0.2.1 dX9_log_33 rfl (lv_at hl 0 rfl) ?_
  refine gX9_sv S0 hw kw_1171 dX9_log_34 ?_
  refine lv_aload_n S0.1 S0.2.1 dX9_log_37 rfl (lv_at hl 0 rfl) ?_
  refine gX9_steps S0 hw kw_1173 dX9_log_38 hf (fun v8 hf => ?_)
  refine lv_iload_n S0.1 S0.2.1 dX9_log_41 rfl (lv_at hl 3 rfl) ?_
  refine q_iast S0 hw dM_123 (t0 := 0) (fun _ => rfl) rfl dX9_log_42 hf (fun s9 H locs hw hf => ?_)
  refine lv_aload_n S0.1 S0.2.1 dX9_log_43 rfl (lv_at hl 0 rfl) ?_
  refine gX9_sw S0 hw kw_1172 dX9_log_44 ?_
  refine lv_aload_n S0.1 S0.2.1 dX9_log_47 rfl (lv_at hl 0 rfl) ?_
  refine gX9_steps S0 hw kw_1173 dX9_log_48 hf (fun v10 hf => ?_)
  refine lv_iload S0.1 S0.2.1 dX9_log_51 (lv_at hl 4 rfl) ?_
  refine q_iast S0 hw dM_124 (t0 := 0) (fun _ => rfl) rfl dX9_log_53 hf (fun s11 H locs hw hf => ?_)
  refine lv_aload_n S0.1 S0.2.1 dX9_log_54 rfl (lv_at hl 0 rfl) ?_
  refine lv_dup S0.1 S0.2.1 dX9_log_55 rfl ?_
  refine gX9_steps S0 hw kw_1173 dX9_log_56 hf (fun v12 hf => ?_)
  refine lv_iconst (v := 1) S0.1 S0.2.1 dX9_log_59 (by decide) ?_
  refine lv_iadd S0.1 S0.2.1 dX9_log_60 (q_top hf (fun v13 hf => ?_))
  refine pX9_steps S0 hw kw_1173 dX9_log_61 hf (fun s14 H locs hw hf => ?_)
  exact hret dX9_log_64 hw hf
theorem qyX9_isBelow : qY yX9_isBelow RX9 cX9_isBelow 4 (some .boolean) 2 := ⟨⟨kw_1405, kp_56, kw_11, kw_1406⟩, rfl, by decide, by decide, by decide +kernel⟩
def fX9_isBelow_31 (F : Nat) (t0 : Int32) (σ : qS) : Option (Int32 × qS) :=
  gbl t0 (some (t0, σ))
def fX9_isBelow_21 (F : Nat) (x2 : Int32) (x3 : Int32) (σ : qS) : Option (Int32 × qS) :=
  if x3 = x2 then (fX9_isBelow_31 F 1 σ) else (fX9_isBelow_31 F 0 σ)
def fX9_isBelow_2 (F : Nat) : Nat → Int32 → Int32 → qS → Option (Int32 × qS)
  | 0, _, _, _ => none
  | n + 1, x2, x3, σ =>
  if x3 ≤ 0 then (fX9_isBelow_21 F x2 x3 σ) else (if x3 = x2 then (fX9_isBelow_21 F x2 x3 σ) else (ldi 80 (σ.1 100 0) x3 fun v4 => (fX9_isBelow_2 F n x2 v4 σ)))
def fX9_isBelow (F : Nat) (p1 : Int32) (p2 : Int32) (σ : qS) : Option (Int32 × qS) :=
  fX9_isBelow_2 F F p2 p1 σ
set_option maxRecDepth 100000 in
set_option maxHeartbeats 4000000 in
theorem wX9_isBelow (l : Launch) (D : va_G) (Y : Nat → ClassId) (ad : qAd) (F : Nat) (p1 : Int32) (p2 : Int32) (σ : qS) : qCi l yX9_isBelow cX9_isBelow 4 (some .boolean) 0 0 D (mL Y) (qT Y) ad [.ref (ad 0 0), .int p1, .int p2] σ (fX9_isBelow F p1 p2 σ) := by
  refine q_ofz (by decide) (Nat.le_of_ble_eq_true rfl) "LeasehallModel" rfl (fun p e s m below meth c A Q r0 S0 hf hw hret ls hl => ?_)
  replace hl : lv_has ls 4 [(0, .ref (ad 0 0)), (1, .int p1), (2, .int p2)] := hl
  unfold fX9_isBelow at hf
  have b31 : ∀ (t0 : Int32) (σ : qS), fX9_isBelow_31 F t0 σ = some r0 → qAt p l e (qRm 0 0) s m ([.ref (ad 0 0), .int p1, .int p2] : List Value).toArray below meth c Q D (mL Y) (qT Y) A ad 4 0 0 31 [] [.int t0] σ := by
    clear hf hw hl ls
    intro t0 σ hf H locs ls hw hl
    unfold fX9_isBelow_31 at hf
    exact hret dX9_isBelow_31 hw hf
  have b21 : ∀ (x2 : Int32) (x3 : Int32) (σ : qS), fX9_isBelow_21 F x2 x3 σ = some r0 → qAt p l e (qRm 0 0) s m ([.ref (ad 0 0), .int p1, .int p2] : List Value).toArray below meth c Q D (mL Y) (qT Y) A ad 4 0 0 21 [(2, .int x2), (3, .int x3)] [] σ := by
    clear hf hw hl ls
    intro x2 x3 σ hf H locs ls hw hl
    unfold fX9_isBelow_21 at hf
    refine lv_iload_n S0.1 S0.2.1 dX9_isBelow_21 rfl (lv_at hl 1 rfl) ?_
    refine lv_iload_n S0.1 S0.2.1 dX9_isBelow_22 rfl (lv_at hl 0 rfl) ?_
    refine lv_icmp_ne (tgt := 30) S0.1 S0.2.1 dX9_isBelow_23 (by decide) (fun c2 => ?_) (fun c2 => ?_)
    · replace hf := q_neg c2 hf
      refine lv_iconst (v := 0) S0.1 S0.2.1 dX9_isBelow_30 (by decide) ?_
      exact b31 0 σ hf _ _ _ hw (lv_sub hl [] rfl)
    · replace hf := q_pos c2 hf
      refine lv_iconst (v := 1) S0.1 S0.2.1 dX9_isBelow_26 (by decide) ?_
      refine lv_goto (tgt := 31) S0.1 S0.2.1 dX9_isBelow_27 (by decide) ?_
      exact b31 1 σ hf _ _ _ hw (lv_sub hl [] rfl)
  have b2 : ∀ (n : Nat) (x2 : Int32) (x3 : Int32) (σ : qS), fX9_isBelow_2 F n x2 x3 σ = some r0 → qAt p l e (qRm 0 0) s m ([.ref (ad 0 0), .int p1, .int p2] : List Value).toArray below meth c Q D (mL Y) (qT Y) A ad 4 0 0 2 [(0, .ref (ad 0 0)), (2, .int x2), (3, .int x3)] [] σ := by
    clear hf hw hl ls
    intro n
    induction n with
    | zero => intro x2 x3 σ hf; exact absurd hf (by rw [fX9_isBelow_2]; exact nofun)
    | succ n hk2 =>
      intro x2 x3 σ hf H locs ls hw hl
      rw [fX9_isBelow_2] at hf
      refine lv_iload_n S0.1 S0.2.1 dX9_isBelow_2 rfl (lv_at hl 2 rfl) ?_
      refine lv_if_le (tgt := 21) S0.1 S0.2.1 dX9_isBelow_3 (by decide) (fun c1 => ?_) (fun c1 => ?_)
      · replace hf := q_pos c1 hf
        exact b21 x2 x3 σ hf _ _ _ hw (lv_sub hl [1, 2] rfl)
      · replace hf := q_neg c1 hf
        refine lv_iload_n S0.1 S0.2.1 dX9_isBelow_6 rfl (lv_at hl 2 rfl) ?_
        refine lv_iload_n S0.1 S0.2.1 dX9_isBelow_7 rfl (lv_at hl 1 rfl) ?_
        refine lv_icmp_eq (tgt := 21) S0.1 S0.2.1 dX9_isBelow_8 (by decide) (fun c3 => ?_) (fun c3 => ?_)
        · replace hf := q_pos c3 hf
          exact b21 x2 x3 σ hf _ _ _ hw (lv_sub hl [1, 2] rfl)
        · replace hf := q_neg c3 hf
          refine lv_aload_n S0.1 S0.2.1 dX9_isBelow_11 rfl (lv_at hl 0 rfl) ?_
          refine gX9_parent S0 hw kw_1148 dX9_isBelow_12 ?_
          refine lv_iload_n S0.1 S0.2.1 dX9_isBelow_15 rfl (lv_at hl 2 rfl) ?_
          refine q_iald S0 hw dM_100 (t0 := 0) rfl rfl dX9_isBelow_16 hf (fun v4 hf => ?_)
          refine lv_istore_n (lv' := [(3, .int v4), (0, .ref (ad 0 0)), (2, .int x2)]) S0.1 S0.2.1 dX9_isBelow_17 rfl hl (by decide) rfl (fun ls hl => ?_)
          refine lv_goto (tgt := 2) S0.1 S0.2.1 dX9_isBelow_18 (by decide) ?_
          exact hk2 x2 v4 σ hf _ _ _ hw (lv_sub hl [1, 2, 0] rfl)
  refine lv_iload_n S0.1 S0.2.1 dX9_isBelow_0 rfl (lv_at hl 1 rfl) ?_
  refine lv_istore_n (lv' := [(3, .int p1), (0, .ref (ad 0 0)), (1, .int p1), (2, .int p2)]) S0.1 S0.2.1 dX9_isBelow_1 rfl hl (by decide) rfl (fun ls hl => ?_)
  exact b2 F p2 p1 σ hf _ _ _ hw (lv_sub hl [1, 3, 0] rfl)
theorem qyX9_children : qY yX9_children RX9 cX9_children 5 (some .int) 2 := ⟨⟨kw_1385, kp_51, kw_11, kw_1386⟩, rfl, by decide, by decide, by decide +kernel⟩
def fX9_children_47 (F : Nat) (k5 : Int32 → Int32 → Int32 → Int32 → qS → Option (Int32 × qS)) (x1 : Int32) (x2 : Int32) (x4 : Int32) (t0 : Int32) (t1 : Int32) (σ : qS) : Option (Int32 × qS) :=
  nm (t0 + t1) fun v7 => (nm (x4 + 1) fun v8 => (k5 x1 x2 v7 v8 σ))
def fX9_children_46 (F : Nat) (k5 : Int32 → Int32 → Int32 → Int32 → qS → Option (Int32 × qS)) (x1 : Int32) (x2 : Int32) (x4 : Int32) (t0 : Int32) (σ : qS) : Option (Int32 × qS) :=
  fX9_children_47 F k5 x1 x2 x4 t0 0 σ
def fX9_children_5 (F : Nat) : Nat → Int32 → Int32 → Int32 → Int32 → qS → Option (Int32 × qS)
  | 0, _, _, _, _, _ => none
  | n + 1, x1, x2, x3, x4, σ =>
  nm (σ.1 0 0 7) fun v1 => (if v1 ≤ x4 then (some (x3, σ)) else (nm (80 * x1) fun v3 => (nm (v3 + x4) fun v4 => (ldi 400 (σ.1 108 0) v4 fun v5 => (if v5 = 1 then (ldi 80 (σ.1 100 0) x4 fun v9 => (if v9 = x2 then (fX9_children_47 F (fX9_children_5 F n) x1 x2 x4 x3 1 σ) else (fX9_children_46 F (fX9_children_5 F n) x1 x2 x4 x3 σ))) else (fX9_children_46 F (fX9_children_5 F n) x1 x2 x4 x3 σ))))))
def fX9_children (F : Nat) (p1 : Int32) (p2 : Int32) (σ : qS) : Option (Int32 × qS) :=
  fX9_children_5 F F p1 p2 0 1 σ
set_option maxRecDepth 100000 in
set_option maxHeartbeats 4000000 in
theorem wX9_children (l : Launch) (D : va_G) (Y : Nat → ClassId) (ad : qAd) (F : Nat) (p1 : Int32) (p2 : Int32) (σ : qS) : qCi l yX9_children cX9_children 5 (some .int) 0 0 D (mL Y) (qT Y) ad [.ref (ad 0 0), .int p1, .int p2] σ (fX9_children F p1 p2 σ) := by
  refine q_ofi (by decide) (Nat.le_of_ble_eq_true rfl) "LeasehallModel" rfl (fun p e s m below meth c A Q r0 S0 hf hw hret ls hl => ?_)
  replace hl : lv_has ls 5 [(0, .ref (ad 0 0)), (1, .int p1), (2, .int p2)] := hl
  unfold fX9_children at hf
  have b47 : ∀ (k5 : Int32 → Int32 → Int32 → Int32 → qS → Option (Int32 × qS)) (hk5 : ∀ (x1 : Int32) (x2 : Int32) (x3 : Int32) (x4 : Int32) (σ : qS), k5 x1 x2 x3 x4 σ = some r0 → qAt p l e (qRm 0 0) s m ([.ref (ad 0 0), .int p1, .int p2] : List Value).toArray below meth c Q D (mL Y) (qT Y) A ad 5 0 0 5 [(0, .ref (ad 0 0)), (1, .int x1), (2, .int x2), (3, .int x3), (4, .int x4)] [] σ) (x1 : Int32) (x2 : Int32) (x4 : Int32) (t0 : Int32) (t1 : Int32) (σ : qS), fX9_children_47 F k5 x1 x2 x4 t0 t1 σ = some r0 → qAt p l e (qRm 0 0) s m ([.ref (ad 0 0), .int p1, .int p2] : List Value).toArray below meth c Q D (mL Y) (qT Y) A ad 5 0 0 47 [(0, .ref (ad 0 0)), (1, .int x1), (2, .int x2), (4, .int x4)] [.int t1, .int t0] σ := by
    clear hf hw hl ls
    intro k5 hk5
    intro x1 x2 x4 t0 t1 σ hf H locs ls hw hl
    unfold fX9_children_47 at hf
    refine lv_iadd S0.1 S0.2.1 dX9_children_47 (q_top hf (fun v7 hf => ?_))
    refine lv_istore_n (lv' := [(3, .int v7), (0, .ref (ad 0 0)), (1, .int x1), (2, .int x2), (4, .int x4)]) S0.1 S0.2.1 dX9_children_48 rfl hl (by decide) rfl (fun ls hl => ?_)
    refine q_iinc S0 (v0 := 1) dX9_children_49 hl (k := 4) rfl (by decide) (by decide) rfl hf (fun v8 ls hl hf => ?_)
    refine lv_goto (tgt := 5) S0.1 S0.2.1 dX9_children_52 (by decide) ?_
    exact hk5 x1 x2 v7 v8 σ hf _ _ _ hw (lv_sub hl [2, 3, 4, 1, 0] rfl)
  have b46 : ∀ (k5 : Int32 → Int32 → Int32 → Int32 → qS → Option (Int32 × qS)) (hk5 : ∀ (x1 : Int32) (x2 : Int32) (x3 : Int32) (x4 : Int32) (σ : qS), k5 x1 x2 x3 x4 σ = some r0 → qAt p l e (qRm 0 0) s m ([.ref (ad 0 0), .int p1, .int p2] : List Value).toArray below meth c Q D (mL Y) (qT Y) A ad 5 0 0 5 [(0, .ref (ad 0 0)), (1, .int x1), (2, .int x2), (3, .int x3), (4, .int x4)] [] σ) (x1 : Int32) (x2 : Int32) (x4 : Int32) (t0 : Int32) (σ : qS), fX9_children_46 F k5 x1 x2 x4 t0 σ = some r0 → qAt p l e (qRm 0 0) s m ([.ref (ad 0 0), .int p1, .int p2] : List Value).toArray below meth c Q D (mL Y) (qT Y) A ad 5 0 0 46 [(0, .ref (ad 0 0)), (1, .int x1), (2, .int x2), (4, .int x4)] [.int t0] σ := by
    clear hf hw hl ls
    intro k5 hk5
    intro x1 x2 x4 t0 σ hf H locs ls hw hl
    unfold fX9_children_46 at hf
    refine lv_iconst (v := 0) S0.1 S0.2.1 dX9_children_46 (by decide) ?_
    exact b47 k5 hk5 x1 x2 x4 t0 0 σ hf _ _ _ hw (lv_sub hl [0, 1, 2, 3] rfl)
  have b5 : ∀ (n : Nat) (x1 : Int32) (x2 : Int32) (x3 : Int32) (x4 : Int32) (σ : qS), fX9_children_5 F n x1 x2 x3 x4 σ = some r0 → qAt p l e (qRm 0 0) s m ([.ref (ad 0 0), .int p1, .int p2] : List Value).toArray below meth c Q D (mL Y) (qT Y) A ad 5 0 0 5 [(0, .ref (ad 0 0)), (1, .int x1), (2, .int x2), (3, .int x3), (4, .int x4)] [] σ := by
    clear hf hw hl ls
    intro n
    induction n with
    | zero => intro x1 x2 x3 x4 σ hf; exact absurd hf (by rw [fX9_children_5]; exact nofun)
    | succ n hk5 =>
      intro x1 x2 x3 x4 σ hf H locs ls hw hl
      rw [fX9_children_5] at hf
      refine lv_iload S0.1 S0.2.1 dX9_children_5 (lv_at hl 4 rfl) ?_
      refine lv_aload_n S0.1 S0.2.1 dX9_children_7 rfl (lv_at hl 0 rfl) ?_
      refine gX9_nodes S0 hw kw_1155 dX9_children_8 hf (fun v1 hf => ?_)
      refine lv_icmp_ge (tgt := 55) S0.1 S0.2.1 dX9_children_11 (by decide) (fun c2 => ?_) (fun c2 => ?_)
      · replace hf := q_pos c2 hf
        refine lv_iload_n S0.1 S0.2.1 dX9_children_55 rfl (lv_at hl 3 rfl) ?_
        exact hret dX9_children_56 hw hf
      · replace hf := q_neg c2 hf
        refine lv_iload_n S0.1 S0.2.1 dX9_children_14 rfl (lv_at hl 3 rfl) ?_
        refine lv_aload_n S0.1 S0.2.1 dX9_children_15 rfl (lv_at hl 0 rfl) ?_
        refine gX9_is S0 hw kw_1156 dX9_children_16 ?_
        refine lv_bipush (v := 80) S0.1 S0.2.1 dX9_children_19 (by decide) ?_
        refine lv_iload_n S0.1 S0.2.1 dX9_children_21 rfl (lv_at hl 1 rfl) ?_
        refine lv_imul S0.1 S0.2.1 dX9_children_22 (q_top hf (fun v3 hf => ?_))
        refine lv_iload S0.1 S0.2.1 dX9_children_23 (lv_at hl 4 rfl) ?_
        refine lv_iadd S0.1 S0.2.1 dX9_children_25 (q_top hf (fun v4 hf => ?_))
        refine q_iald S0 hw dM_108 (t0 := 0) rfl rfl dX9_children_26 hf (fun v5 hf => ?_)
        refine lv_iconst (v := 1) S0.1 S0.2.1 dX9_children_27 (by decide) ?_
        refine lv_icmp_ne (tgt := 46) S0.1 S0.2.1 dX9_children_28 (by decide) (fun c6 => ?_) (fun c6 => ?_)
        · replace hf := q_neg c6 hf
          exact b46 (fX9_children_5 F n) hk5 x1 x2 x4 x3 σ hf _ _ _ hw (lv_sub hl [0, 1, 2, 4] rfl)
        · replace hf := q_pos c6 hf
          refine lv_aload_n S0.1 S0.2.1 dX9_children_31 rfl (lv_at hl 0 rfl) ?_
          refine gX9_parent S0 hw kw_1148 dX9_children_32 ?_
          refine lv_iload S0.1 S0.2.1 dX9_children_35 (lv_at hl 4 rfl) ?_
          refine q_iald S0 hw dM_100 (t0 := 0) rfl rfl dX9_children_37 hf (fun v9 hf => ?_)
          refine lv_iload_n S0.1 S0.2.1 dX9_children_38 rfl (lv_at hl 2 rfl) ?_
          refine lv_icmp_ne (tgt := 46) S0.1 S0.2.1 dX9_children_39 (by decide) (fun c10 => ?_) (fun c10 => ?_)
          · replace hf := q_neg c10 hf
            exact b46 (fX9_children_5 F n) hk5 x1 x2 x4 x3 σ hf _ _ _ hw (lv_sub hl [0, 1, 2, 4] rfl)
          · replace hf := q_pos c10 hf
            refine lv_iconst (v := 1) S0.1 S0.2.1 dX9_children_42 (by decide) ?_
            refine lv_goto (tgt := 47) S0.1 S0.2.1 dX9_children_43 (by decide) ?_
            exact b47 (fX9_children_5 F n) hk5 x1 x2 x4 x3 1 σ hf _ _ _ hw (lv_sub hl [0, 1, 2, 4] rfl)
  refine lv_iconst (v := 0) S0.1 S0.2.1 dX9_children_0 (by decide) ?_
  refine lv_istore_n (lv' := [(3, .int 0), (0, .ref (ad 0 0)), (1, .int p1), (2, .int p2)]) S0.1 S0.2.1 dX9_children_1 rfl hl (by decide) rfl (fun ls hl => ?_)
  refine lv_iconst (v := 1) S0.1 S0.2.1 dX9_children_2 (by decide) ?_
  refine lv_istore (lv' := [(4, .int 1), (3, .int 0), (0, .ref (ad 0 0)), (1, .int p1), (2, .int p2)]) S0.1 S0.2.1 dX9_children_3 hl (by decide) rfl (fun ls hl => ?_)
  exact b5 F p1 p2 0 1 σ hf _ _ _ hw (lv_sub hl [2, 3, 4, 1, 0] rfl)

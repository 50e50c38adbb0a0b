def fX9_thrown (F : Nat) (σ : qS) : Option (Int32 × qS) :=
  nm (σ.1 0 0 57) fun v1 => (some (v1, σ))
set_option maxRecDepth 100000 in
set_option maxHeartbeats 4000000 in
theorem wX9_thrown (l : Launch) (D : va_G) (Y : Nat → ClassId) (ad : qAd) (F : Nat) (σ : qS) : qCi l yX9_thrown cX9_thrown 1 (some .int) 0 0 D (mL Y) (qT Y) ad [.ref (ad 0 0)] σ (fX9_thrown F σ) := by
  refine q_ofi (by decide) (Nat.le_of_ble_eq_true rfl) "LeasehallModel" rfl (fun p e s m below meth c A Q r0 S0 hf hw hret ls hl => ?_)
  replace hl : lv_has ls 1 [(0, .ref (ad 0 0))] := hl
  unfold fX9_thrown at hf
  refine lv_aload_n S0.1 S0.2.1 dX9_thrown_0 rfl (lv_at hl 0 rfl) ?_
  refine gX9_thrown S0 hw kw_1205 dX9_thrown_1 hf (fun v1 hf => ?_)
  exact hret dX9_thrown_4 hw hf
theorem qyX9_holds : qY yX9_holds RX9 cX9_holds 2 (some .boolean) 1 := ⟨⟨kw_1337, kp_40, kw_11, kw_1338⟩, rfl, by decide, by decide, by decide +kernel⟩
def fX9_holds_14 (F : Nat) (t0 : Int32) (σ : qS) : Option (Int32 × qS) :=
  gbl t0 (some (t0, σ))
def fX9_holds (F : Nat) (p1 : Int32) (σ : qS) : Option (Int32 × qS) :=
  nm (qI σ 0 0 57 p1) fun s1 => (if p1 ≤ 0 then (fX9_holds_14 F 0 s1) else (fX9_holds_14 F 1 s1))
set_option maxRecDepth 100000 in
set_option maxHeartbeats 4000000 in
theorem wX9_holds (l : Launch) (D : va_G) (Y : Nat → ClassId) (ad : qAd) (F : Nat) (p1 : Int32) (σ : qS) : qCi l yX9_holds cX9_holds 2 (some .boolean) 0 0 D (mL Y) (qT Y) ad [.ref (ad 0 0), .int p1] σ (fX9_holds F p1 σ) := by
  refine q_ofz (by decide) (Nat.le_of_ble_eq_true rfl) "LeasehallModel" rfl (fun p e s m below meth c A Q r0 S0 hf hw hret ls hl => ?_)
  replace hl : lv_has ls 2 [(0, .ref (ad 0 0)), (1, .int p1)] := hl
  unfold fX9_holds at hf
  have b14 : ∀ (t0 : Int32) (σ : qS), fX9_holds_14 F t0 σ = some r0 → qAt p l e (qRm 0 0) s m ([.ref (ad 0 0), .int p1] : List Value).toArray below meth c Q D (mL Y) (qT Y) A ad 2 0 0 14 [] [.int t0] σ := by
    clear hf hw hl ls
    intro t0 σ hf H locs ls hw hl
    unfold fX9_holds_14 at hf
    exact hret dX9_holds_14 hw hf
  refine lv_aload_n S0.1 S0.2.1 dX9_holds_0 rfl (lv_at hl 0 rfl) ?_
  refine lv_iload_n S0.1 S0.2.1 dX9_holds_1 rfl (lv_at hl 1 rfl) ?_
  refine pX9_thrown S0 hw kw_1205 dX9_holds_2 hf (fun s1 H locs hw hf => ?_)
  refine lv_iload_n S0.1 S0.2.1 dX9_holds_5 rfl (lv_at hl 1 rfl) ?_
  refine lv_if_le (tgt := 13) S0.1 S0.2.1 dX9_holds_6 (by decide) (fun c2 => ?_) (fun c2 => ?_)
  · replace hf := q_pos c2 hf
    refine lv_iconst (v := 0) S0.1 S0.2.1 dX9_holds_13 (by decide) ?_
    exact b14 0 s1 hf _ _ _ hw (lv_sub hl [] rfl)
  · replace hf := q_neg c2 hf
    refine lv_iconst (v := 1) S0.1 S0.2.1 dX9_holds_9 (by decide) ?_
    refine lv_goto (tgt := 14) S0.1 S0.2.1 dX9_holds_10 (by decide) ?_
    exact b14 1 s1 hf _ _ _ hw (lv_sub hl [] rfl)
theorem qyX9_in : qY yX9_in RX9 cX9_in 4 (some .boolean) 3 := ⟨⟨kw_1333, kp_39, kw_11, kw_1334⟩, rfl, by decide, by decide, by decide +kernel⟩
def fX9_in_15 (F : Nat) (t0 : Int32) (σ : qS) : Option (Int32 × qS) :=
  gbl t0 (some (t0, σ))
def fX9_in_14 (F : Nat) (σ : qS) : Option (Int32 × qS) :=
  fX9_in_15 F 0 σ
def fX9_in (F : Nat) (p1 : Int32) (p2 : Int32) (p3 : Int32) (σ : qS) : Option (Int32 × qS) :=
  if p1 < p2 then (fX9_in_14 F σ) else (if p3 < p1 then (fX9_in_14 F σ) else (fX9_in_15 F 1 σ))
set_option maxRecDepth 100000 in
set_option maxHeartbeats 4000000 in
theorem wX9_in (l : Launch) (D : va_G) (Y : Nat → ClassId) (ad : qAd) (F : Nat) (p1 : Int32) (p2 : Int32) (p3 : Int32) (σ : qS) : qCi l yX9_in cX9_in 4 (some .boolean) 0 0 D (mL Y) (qT Y) ad [.ref (ad 0 0), .int p1, .int p2, .int p3] σ (fX9_in F p1 p2 p3 σ) := by
  refine q_ofz (by decide) (Nat.le_of_ble_eq_true rfl) "LeasehallModel" rfl (fun p e s m below meth c A Q r0 S0 hf hw hret ls hl => ?_)
  replace hl : lv_has ls 4 [(0, .ref (ad 0 0)), (1, .int p1), (2, .int p2), (3, .int p3)] := hl
  unfold fX9_in at hf
  have b15 : ∀ (t0 : Int32) (σ : qS), fX9_in_15 F t0 σ = some r0 → qAt p l e (qRm 0 0) s m ([.ref (ad 0 0), .int p1, .int p2, .int p3] : List Value).toArray below meth c Q D (mL Y) (qT Y) A ad 4 0 0 15 [] [.int t0] σ := by
    clear hf hw hl ls
    intro t0 σ hf H locs ls hw hl
    unfold fX9_in_15 at hf
    exact hret dX9_in_15 hw hf
  have b14 : ∀ (σ : qS), fX9_in_14 F σ = some r0 → qAt p l e (qRm 0 0) s m ([.ref (ad 0 0), .int p1, .int p2, .int p3] : List Value).toArray below meth c Q D (mL Y) (qT Y) A ad 4 0 0 14 [] [] σ := by
    clear hf hw hl ls
    intro σ hf H locs ls hw hl
    unfold fX9_in_14 at hf
    refine lv_iconst (v := 0) S0.1 S0.2.1 dX9_in_14 (by decide) ?_
    exact b15 0 σ hf _ _ _ hw (lv_sub hl [] rfl)
  refine lv_iload_n S0.1 S0.2.1 dX9_in_0 rfl (lv_at hl 1 rfl) ?_
  refine lv_iload_n S0.1 S0.2.1 dX9_in_1 rfl (lv_at hl 2 rfl) ?_
  refine lv_icmp_lt (tgt := 14) S0.1 S0.2.1 dX9_in_2 (by decide) (fun c1 => ?_) (fun c1 => ?_)
  · replace hf := q_pos c1 hf
    exact b14 σ hf _ _ _ hw (lv_sub hl [] rfl)
  · replace hf := q_neg c1 hf
    refine lv_iload_n S0.1 S0.2.1 dX9_in_5 rfl (lv_at hl 1 rfl) ?_
    refine lv_iload_n S0.1 S0.2.1 dX9_in_6 rfl (lv_at hl 3 rfl) ?_
    refine lv_icmp_gt (tgt := 14) S0.1 S0.2.1 dX9_in_7 (by decide) (fun c2 => ?_) (fun c2 => ?_)
    · replace hf := q_pos c2 hf
      exact b14 σ hf _ _ _ hw (lv_sub hl [] rfl)
    · replace hf := q_neg c2 hf
      refine lv_iconst (v := 1) S0.1 S0.2.1 dX9_in_10 (by decide) ?_
      refine lv_goto (tgt := 15) S0.1 S0.2.1 dX9_in_11 (by decide) ?_
      exact b15 1 σ hf _ _ _ hw (lv_sub hl [] rfl)
theorem qyX9_isSession : qY yX9_isSession RX9 cX9_isSession 2 (some .boolean) 1 := ⟨⟨kw_1345, kp_41, kw_11, kw_1346⟩, rfl, by decide, by decide, by decide +kernel⟩
def fX9_isSession (F : Nat) (p1 : Int32) (σ : qS) : Option (Int32 × qS) :=
  nm (σ.1 0 0 48) fun v1 => (nm (v1 - 1) fun v2 => (bnd2 (fX9_in F p1 0 v2 σ) fun v4 s3 => (gbl v4 (some (v4, s3)))))
set_option maxRecDepth 100000 in
set_option maxHeartbeats 4000000 in
theorem wX9_isSession (l : Launch) (D : va_G) (Y : Nat → ClassId) (ad : qAd) (F : Nat) (p1 : Int32) (σ : qS) : qCi l yX9_isSession cX9_isSession 2 (some .boolean) 1 23 D (mL Y) (qT Y) ad [.ref (ad 0 0), .int p1] σ (fX9_isSession F p1 σ) := by
  refine q_ofz (by decide) (Nat.le_of_ble_eq_true rfl) "LeasehallModel" rfl (fun p e s m below meth c A Q r0 S0 hf hw hret ls hl => ?_)
  replace hl : lv_has ls 2 [(0, .ref (ad 0 0)), (1, .int p1)] := hl
  unfold fX9_isSession at hf
  refine lv_aload_n S0.1 S0.2.1 dX9_isSession_0 rfl (lv_at hl 0 rfl) ?_
  refine lv_iload_n S0.1 S0.2.1 dX9_isSession_1 rfl (lv_at hl 1 rfl) ?_
  refine lv_iconst (v := 0) S0.1 S0.2.1 dX9_isSession_2 (by decide) ?_
  refine lv_aload_n S0.1 S0.2.1 dX9_isSession_3 rfl (lv_at hl 0 rfl) ?_
  refine gX9_sessions S0 hw kw_1196 dX9_isSession_4 hf (fun v1 hf => ?_)
  refine lv_iconst (v := 1) S0.1 S0.2.1 dX9_isSession_7 (by decide) ?_
  refine lv_isub S0.1 S0.2.1 dX9_isSession_8 (q_top hf (fun v2 hf => ?_))
  refine q_calli S0 hw (As := [.int p1, .int 0, .int v2]) (rest := []) (wX9_in l D Y ad F p1 0 v2 σ) qyX9_in kw_1331 ⟨Nat.le_of_ble_eq_true rfl, Nat.le_of_ble_eq_true rfl⟩ dM_0 rfl rfl rfl rfl hl.1 (Nat.le_of_ble_eq_true rfl) dX9_isSession_9 ⟨Nat.le_refl _, Nat.le_refl _⟩ rfl hf (fun v4 s3 H locs hw hf => ?_)
  exact hret dX9_isSession_12 hw hf
theorem qyX9_isThere : qY yX9_isThere RX9 cX9_isThere 3 (some .boolean) 2 := ⟨⟨kw_1465, kp_63, kw_11, kw_1466⟩, rfl, by decide, by decide, by decide +kernel⟩
def fX9_isThere_35 (F : Nat) (t0 : Int32) (σ : qS) : Option (Int32 × qS) :=
  gbl t0 (some (t0, σ))
def fX9_isThere_34 (F : Nat) (σ : qS) : Option (Int32 × qS) :=
  fX9_isThere_35 F 0 σ
def fX9_isThere (F : Nat) (p1 : Int32) (p2 : Int32) (σ : qS) : Option (Int32 × qS) :=
  nm (σ.1 0 0 7) fun v1 => (nm (v1 - 1) fun v2 => (bnd2 (fX9_in F p2 0 v2 σ) fun v4 s3 => (if v4 = 0 then (fX9_isThere_34 F s3) else (nm (80 * p1) fun v6 => (nm (v6 + p2) fun v7 => (ldi 400 (s3.1 108 0) v7 fun v8 => (if v8 = 1 then (fX9_isThere_35 F 1 s3) else (fX9_isThere_34 F s3))))))))
set_option maxRecDepth 100000 in
set_option maxHeartbeats 4000000 in
theorem wX9_isThere (l : Launch) (D : va_G) (Y : Nat → ClassId) (ad : qAd) (F : Nat) (p1 : Int32) (p2 : Int32) (σ : qS) : qCi l yX9_isThere cX9_isThere 3 (some .boolean) 1 23 D (mL Y) (qT Y) ad [.ref (ad 0 0), .int p1, .int p2] σ (fX9_isThere F p1 p2 σ) := by
  refine q_ofz (by decide) (Nat.le_of_ble_eq_true rfl) "LeasehallModel" rfl (fun p e s m below meth c A Q r0 S0 hf hw hret ls hl => ?_)
  replace hl : lv_has ls 3 [(0, .ref (ad 0 0)), (1, .int p1), (2, .int p2)] := hl
  unfold fX9_isThere at hf
  have b35 : ∀ (t0 : Int32) (σ : qS), fX9_isThere_35 F t0 σ = some r0 → qAt p l e (qRm 1 23) s m ([.ref (ad 0 0), .int p1, .int p2] : List Value).toArray below meth c Q D (mL Y) (qT Y) A ad 3 0 0 35 [] [.int t0] σ := by
    clear hf hw hl ls
    intro t0 σ hf H locs ls hw hl
    unfold fX9_isThere_35 at hf
    exact hret dX9_isThere_35 hw hf
  have b34 : ∀ (σ : qS), fX9_isThere_34 F σ = some r0 → qAt p l e (qRm 1 23) s m ([.ref (ad 0 0), .int p1, .int p2] : List Value).toArray below meth c Q D (mL Y) (qT Y) A ad 3 0 0 34 [] [] σ := by
    clear hf hw hl ls
    intro σ hf H locs ls hw hl
    unfold fX9_isThere_34 at hf
    refine lv_iconst (v := 0) S0.1 S0.2.1 dX9_isThere_34 (by decide) ?_
    exact b35 0 σ hf _ _ _ hw (lv_sub hl [] rfl)
  refine lv_aload_n S0.1 S0.2.1 dX9_isThere_0 rfl (lv_at hl 0 rfl) ?_
  refine lv_iload_n S0.1 S0.2.1 dX9_isThere_1 rfl (lv_at hl 2 rfl) ?_
  refine lv_iconst (v := 0) S0.1 S0.2.1 dX9_isThere_2 (by decide) ?_
  refine lv_aload_n S0.1 S0.2.1 dX9_isThere_3 rfl (lv_at hl 0 rfl) ?_
  refine gX9_nodes S0 hw kw_1155 dX9_isThere_4 hf (fun v1 hf => ?_)
  refine lv_iconst (v := 1) S0.1 S0.2.1 dX9_isThere_7 (by decide) ?_
  refine lv_isub S0.1 S0.2.1 dX9_isThere_8 (q_top hf (fun v2 hf => ?_))
  refine q_calli S0 hw (As := [.int p2, .int 0, .int v2]) (rest := []) (wX9_in l D Y ad F p2 0 v2 σ) qyX9_in kw_1331 ⟨Nat.le_of_ble_eq_true rfl, Nat.le_of_ble_eq_true rfl⟩ dM_0 rfl rfl rfl rfl hl.1 (Nat.le_of_ble_eq_true rfl) dX9_isThere_9 ⟨Nat.le_refl _, Nat.le_refl _⟩ rfl hf (fun v4 s3 H locs hw hf => ?_)
  refine lv_if_eq (tgt := 34) S0.1 S0.2.1 dX9_isThere_12 (by decide) (fun c5 => ?_) (fun c5 => ?_)
  · replace hf := q_pos c5 hf
    exact b34 s3 hf _ _ _ hw (lv_sub hl [] rfl)
  · replace hf := q_neg c5 hf
    refine lv_aload_n S0.1 S0.2.1 dX9_isThere_15 rfl (lv_at hl 0 rfl) ?_
    refine gX9_is S0 hw kw_1156 dX9_isThere_16 ?_
    refine lv_bipush (v := 80) S0.1 S0.2.1 dX9_isThere_19 (by decide) ?_
    refine lv_iload_n S0.1 S0.2.1 dX9_isThere_21 rfl (lv_at hl 1 rfl) ?_
    refine lv_imul S0.1 S0.2.1 dX9_isThere_22 (q_top hf (fun v6 hf => ?_))
    refine lv_iload_n S0.1 S0.2.1 dX9_isThere_23 rfl (lv_at hl 2 rfl) ?_
    refine lv_iadd S0.1 S0.2.1 dX9_isThere_24 (q_top hf (fun v7 hf => ?_))
    refine q_iald S0 hw dM_108 (t0 := 0) rfl rfl dX9_isThere_25 hf (fun v8 hf => ?_)
    refine lv_iconst (v := 1) S0.1 S0.2.1 dX9_isThere_26 (by decide) ?_
    refine lv_icmp_ne (tgt := 34) S0.1 S0.2.1 dX9_isThere_27 (by decide) (fun c9 => ?_) (fun c9 => ?_)
    · replace hf := q_neg c9 hf
      exact b34 s3 hf _ _ _ hw (lv_sub hl [] rfl)
    · replace hf := q_pos c9 hf
      refine lv_iconst (v := 1) S0.1 S0.2.1 dX9_isThere_30 (by decide) ?_
      refine lv_goto (tgt := 35) S0.1 S0.2.1 dX9_isThere_31 (by decide) ?_
      exact b35 1 s3 hf _ _ _ hw (lv_sub hl [] rfl)
theorem qyX9_ended : qY yX9_ended RX9 cX9_ended 3 (some .boolean) 1 := ⟨⟨kw_1349, kp_42, kw_11, kw_1350⟩, rfl, by decide, by decide, by decide +kernel⟩
def fX9_ended_51 (F : Nat) (t0 : Int32) (σ : qS) : Option (Int32 × qS) :=
  gbl t0 (some (t0, σ))
def fX9_ended_36 (F : Nat) (x1 : Int32) (σ : qS) : Option (Int32 × qS) :=
  ldi 10 (σ.1 135 0) x1 fun v2 => (if v2 = 1 then (fX9_ended_51 F 1 σ) else (fX9_ended_51 F 0 σ))
def fX9_ended_2 (F : Nat) : Nat → Int32 → Int32 → qS → Option (Int32 × qS)
  | 0, _, _, _ => none
  | n + 1, x1, x2, σ =>
  if 80 ≤ x2 then (fX9_ended_36 F x1 σ) else (ldi 10 (σ.1 135 0) x1 fun v4 => (if v4 = 1 then (nm (80 * x1) fun v6 => (nm (v6 + x2) fun v7 => (inx 800 v7 (nm (qI σ 147 0 v7.toNatClampNeg 0) fun s8 => (nm (x2 + 1) fun v9 => (fX9_ended_2 F n x1 v9 s8)))))) else (fX9_ended_36 F x1 σ)))
def fX9_ended (F : Nat) (p1 : Int32) (σ : qS) : Option (Int32 × qS) :=
  fX9_ended_2 F F p1 0 σ
set_option maxRecDepth 100000 in
set_option maxHeartbeats 4000000 in
theorem wX9_ended (l : Launch) (D : va_G) (Y : Nat → ClassId) (ad : qAd) (F : Nat) (p1 : Int32) (σ : qS) : qCi l yX9_ended cX9_ended 3 (some .boolean) 0 0 D (mL Y) (qT Y) ad [.ref (ad 0 0), .int p1] σ (fX9_ended F p1 σ) := by
  refine q_ofz (by decide) (Nat.le_of_ble_eq_true rfl) "LeasehallModel" rfl (fun p e s m below meth c A Q r0 S0 hf hw hret ls hl => ?_)
  replace hl : lv_has ls 3 [(0, .ref (ad 0 0)), (1, .int p1)] := hl
  unfold fX9_ended at hf
  have b51 : ∀ (t0 : Int32) (σ : qS), fX9_ended_51 F t0 σ = some r0 → qAt p l e (qRm 0 0) s m ([.ref (ad 0 0), .int p1] : List Value).toArray below meth c Q D (mL Y) (qT Y) A ad 3 0 0 51 [] [.int t0] σ := by
    clear hf hw hl ls
    intro t0 σ hf H locs ls hw hl
    unfold fX9_ended_51 at hf
    exact hret dX9_ended_51 hw hf
  have b36 : ∀ (x1 : Int32) (σ : qS), fX9_ended_36 F x1 σ = some r0 → qAt p l e (qRm 0 0) s m ([.ref (ad 0 0), .int p1] : List Value).toArray below meth c Q D (mL Y) (qT Y) A ad 3 0 0 36 [(0, .ref (ad 0 0)), (1, .int x1)] [] σ := by
    clear hf hw hl ls
    intro x1 σ hf H locs ls hw hl
    unfold fX9_ended_36 at hf
    refine lv_aload_n S0.1 S0.2.1 dX9_ended_36 rfl (lv_at hl 0 rfl) ?_
    refine gX9_ze S0 hw kw_1183 dX9_ended_37 ?_
    refine lv_iload_n S0.1 S0.2.1 dX9_ended_40 rfl (lv_at hl 1 rfl) ?_
    refine q_iald S0 hw dM_135 (t0 := 0) rfl rfl dX9_ended_41 hf (fun v2 hf => ?_)
    refine lv_iconst (v := 1) S0.1 S0.2.1 dX9_ended_42 (by decide) ?_
    refine lv_icmp_ne (tgt := 50) S0.1 S0.2.1 dX9_ended_43 (by decide) (fun c3 => ?_) (fun c3 => ?_)
    · replace hf := q_neg c3 hf
      refine lv_iconst (v := 0) S0.1 S0.2.1 dX9_ended_50 (by decide) ?_
      exact b51 0 σ hf _ _ _ hw (lv_sub hl [] rfl)
    · replace hf := q_pos c3 hf
      refine lv_iconst (v := 1) S0.1 S0.2.1 dX9_ended_46 (by decide) ?_
      refine lv_goto (tgt := 51) S0.1 S0.2.1 dX9_ended_47 (by decide) ?_
      exact b51 1 σ hf _ _ _ hw (lv_sub hl [] rfl)
  have b2 : ∀ (n : Nat) (x1 : Int32) (x2 : Int32) (σ : qS), fX9_ended_2 F n x1 x2 σ = some r0 → qAt p l e (qRm 0 0) s m ([.ref (ad 0 0), .int p1] : List Value).toArray below meth c Q D (mL Y) (qT Y) A ad 3 0 0 2 [(0, .ref (ad 0 0)), (1, .int x1), (2, .int x2)] [] σ := by
    clear hf hw hl ls
    intro n
    induction n with
    | zero => intro x1 x2 σ hf; exact absurd hf (by rw [fX9_ended_2]; exact nofun)
    | succ n hk2 =>
      intro x1 x2 σ hf H locs ls hw hl
      rw [fX9_ended_2] at hf
      refine lv_iload_n S0.1 S0.2.1 dX9_ended_2 rfl (lv_at hl 2 rfl) ?_
      refine lv_bipush (v := 80) S0.1 S0.2.1 dX9_ended_3 (by decide) ?_
      refine lv_icmp_ge (tgt := 36) S0.1 S0.2.1 dX9_ended_5 (by decide) (fun c1 => ?_) (fun c1 => ?_)
      · replace hf := q_pos c1 hf
        exact b36 x1 σ hf _ _ _ hw (lv_sub hl [0, 1] rfl)
      · replace hf := q_neg c1 hf
        refine lv_aload_n S0.1 S0.2.1 dX9_ended_8 rfl (lv_at hl 0 rfl) ?_
        refine gX9_ze S0 hw kw_1183 dX9_ended_9 ?_
        refine lv_iload_n S0.1 S0.2.1 dX9_ended_12 rfl (lv_at hl 1 rfl) ?_
        refine q_iald S0 hw dM_135 (t0 := 0) rfl rfl dX9_ended_13 hf (fun v4 hf => ?_)
        refine lv_iconst (v := 1) S0.1 S0.2.1 dX9_ended_14 (by decide) ?_
        refine lv_icmp_ne (tgt := 36) S0.1 S0.2.1 dX9_ended_15 (by decide) (fun c5 => ?_) (fun c5 => ?_)
        · replace hf := q_neg c5 hf
          exact b36 x1 σ hf _ _ _ hw (lv_sub hl [0, 1] rfl)
        · replace hf := q_pos c5 hf
          refine lv_aload_n S0.1 S0.2.1 dX9_ended_18 rfl (lv_at hl 0 rfl) ?_
          refine gX9_believes S0 hw kw_1195 dX9_ended_19 ?_
          refine lv_bipush (v := 80) S0.1 S0.2.1 dX9_ended_22 (by decide) ?_
          refine lv_iload_n S0.1 S0.2.1 dX9_ended_24 rfl (lv_at hl 1 rfl) ?_
          refine lv_imul S0.1 S0.2.1 dX9_ended_25 (q_top hf (fun v6 hf => ?_))
          refine lv_iload_n S0.1 S0.2.1 dX9_ended_26 rfl (lv_at hl 2 rfl) ?_
          refine lv_iadd S0.1 S0.2.1 dX9_ended_27 (q_top hf (fun v7 hf => ?_))
          refine lv_iconst (v := 0) S0.1 S0.2.1 dX9_ended_28 (by decide) ?_
          refine q_iast S0 hw dM_147 (t0 := 0) (fun _ => rfl) rfl dX9_ended_29 hf (fun s8 H locs hw hf => ?_)
          refine q_iinc S0 (v0 := 1) dX9_ended_30 hl (k := 2) rfl (by decide) (by decide) rfl hf (fun v9 ls hl hf => ?_)
          refine lv_goto (tgt := 2) S0.1 S0.2.1 dX9_ended_33 (by decide) ?_
          exact hk2 x1 v9 s8 hf _ _ _ hw (lv_sub hl [1, 2, 0] rfl)
  refine lv_iconst (v := 0) S0.1 S0.2.1 dX9_ended_0 (by decide) ?_
  refine lv_istore_n (lv' := [(2, .int 0), (0, .ref (ad 0 0)), (1, .int p1)]) S0.1 S0.2.1 dX9_ended_1 rfl hl (by decide) rfl (fun ls hl => ?_)
  exact b2 F p1 0 σ hf _ _ _ hw (lv_sub hl [1, 2, 0] rfl)
theorem qyX9_does : qY yX9_does RX9 cX9_does 2 none 1 := ⟨⟨kw_1417, kp_58, kw_11, kw_1418⟩, rfl, by decide, by decide, by decide +kernel⟩
def fX9_does (F : Nat) (p1 : Int32) (σ : qS) : Option qS :=
  nm (σ.1 0 0 53) fun v1 => (inx 10 p1 (nm (qI σ 134 0 p1.toNatClampNeg v1) fun s2 => (some s2)))
set_option maxRecDepth 100000 in
set_option maxHeartbeats 4000000 in
theorem wX9_does (l : Launch) (D : va_G) (Y : Nat → ClassId) (ad : qAd) (F : Nat) (p1 : Int32) (σ : qS) : qCv l yX9_does cX9_does 2 none 0 0 D (mL Y) (qT Y) ad [.ref (ad 0 0), .int p1] σ (fX9_does F p1 σ) := by
  refine q_ofv (by decide) (Nat.le_of_ble_eq_true rfl) "LeasehallModel" rfl (fun p e s m below meth c A Q r0 S0 hf hw hret ls hl => ?_)
  replace hl : lv_has ls 2 [(0, .ref (ad 0 0)), (1, .int p1)] := hl
  unfold fX9_does at hf
  refine lv_aload_n S0.1 S0.2.1 dX9_does_0 rfl (lv_at hl 0 rfl) ?_
  refine gX9_zl S0 hw kw_1182 dX9_does_1 ?_
  refine lv_iload_n S0.1 S0.2.1 dX9_does_4 rfl (lv_at hl 1 rfl) ?_
  refine lv_aload_n S0.1 S0.2.1 dX9_does_5 rfl (lv_at hl 0 rfl) ?_
  refine gX9_time S0 hw kw_1201 dX9_does_6 hf (fun v1 hf => ?_)
  refine q_iast S0 hw dM_134 (t0 := 0) (fun _ => rfl) rfl dX9_does_9 hf (fun s2 H locs hw hf => ?_)
  exact hret dX9_does_10 hw hf
theorem qyX9_copy : qY yX9_copy RX9 cX9_copy 6 none 2 := ⟨⟨kw_1365, kp_46, kw_11, kw_1366⟩, rfl, by decide, by decide, by decide +kernel⟩
def fX9_copy_2 (F : Nat) : Nat → Int32 → Int32 → Int32 → qS → Option qS
  | 0, _, _, _, _ => none
  | n + 1, x1, x2, x3, σ =>
  if 80 ≤ x3 then (some σ) else (nm (80 * x1) fun v2 => (nm (v2 + x3) fun v3 => (nm (80 * x2) fun v4 => (nm (v4 + x3) fun v5 => (ldi 400 (σ.1 108 0) v3 fun v6 => (inx 400 v5 (nm (qI σ 108 0 v5.toNatClampNeg v6) fun s7 => (ldi 400 (s7.1 109 0) v3 fun v8 => (inx 400 v5 (nm (qI s7 109 0 v5.toNatClampNeg v8) fun s9 => (ldi 400 (s9.1 110 0) v3 fun v10 => (inx 400 v5 (nm (qI s9 110 0 v5.toNatClampNeg v10) fun s11 => (ldi 400 (s11.1 111 0) v3 fun v12 => (inx 400 v5 (nm (qI s11 111 0 v5.toNatClampNeg v12) fun s13 => (ldi 400 (s13.1 112 0) v3 fun v14 => (inx 400 v5 (nm (qI s13 112 0 v5.toNatClampNeg v14) fun s15 => (ldi 400 (s15.1 113 0) v3 fun v16 => (inx 400 v5 (nm (qI s15 113 0 v5.toNatClampNeg v16) fun s17 => (ldi 400 (s17.1 114 0) v3 fun v18 => (inx 400 v5 (nm (qI s17 114 0 v5.toNatClampNeg v18) fun s19 => (nm (x3 + 1) fun v20 => (fX9_copy_2 F n x1 x2 v20 s19)))))))))))))))))))))))))))
def fX9_copy (F : Nat) (p1 : Int32) (p2 : Int32) (σ : qS) : Option qS :=
  fX9_copy_2 F F p1 p2 0 σ
set_option maxRecDepth 100000 in
set_option maxHeartbeats 4000000 in
theorem wX9_copy (l : Launch) (D : va_G) (Y : Nat → ClassId) (ad : qAd) (F : Nat) (p1 : Int32) (p2 : Int32) (σ : qS) : qCv l yX9_copy cX9_copy 6 none 0 0 D (mL Y) (qT Y) ad [.ref (ad 0 0), .int p1, .int p2] σ (fX9_copy F p1 p2 σ) := by
  refine q_ofv (by decide) (Nat.le_of_ble_eq_true rfl) "LeasehallModel" rfl (fun p e s m below meth c A Q r0 S0 hf hw hret ls hl => ?_)
  replace hl : lv_has ls 6 [(0, .ref (ad 0 0)), (1, .int p1), (2, .int p2)] := hl
  unfold fX9_copy at hf
  have b2 : ∀ (n : Nat) (x1 : Int32) (x2 : Int32) (x3 : Int32) (σ : qS), fX9_copy_2 F n x1 x2 x3 σ = some r0 → qAt p l e (qRm 0 0) s m ([.ref (ad 0 0), .int p1, .int p2] : List Value).toArray below meth c Q D (mL Y) (qT Y) A ad 6 0 0 2 [(0, .ref (ad 0 0)), (1, .int x1), (2, .int x2), (3, .int x3)] [] σ := by
    clear hf hw hl ls
    intro n
    induction n with
    | zero => intro x1 x2 x3 σ hf; exact absurd hf (by rw [fX9_copy_2]; exact nofun)
    | succ n hk2 =>
      intro x1 x2 x3 σ hf H locs ls hw hl
      rw [fX9_copy_2] at hf
      refine lv_iload_n S0.1 S0.2.1 dX9_copy_2 rfl (lv_at hl 3 rfl) ?_
      refine lv_bipush (v := 80) S0.1 S0.2.1 dX9_copy_3 (by decide) ?_
      refine lv_icmp_ge (tgt := 128) S0.1 S0.2.1 dX9_copy_5 (by decide) (fun c1 => ?_) (fun c1 => ?_)
      · replace hf := q_pos c1 hf
        exact hret dX9_copy_128 hw hf
      · replace hf := q_neg c1 hf
        refine lv_bipush (v := 80) S0.1 S0.2.1 dX9_copy_8 (by decide) ?_
        refine lv_iload_n S0.1 S0.2.1 dX9_copy_10 rfl (lv_at hl 1 rfl) ?_
        refine lv_imul S0.1 S0.2.1 dX9_copy_11 (q_top hf (fun v2 hf => ?_))
        refine lv_iload_n S0.1 S0.2.1 dX9_copy_12 rfl (lv_at hl 3 rfl) ?_
        refine lv_iadd S0.1 S0.2.1 dX9_copy_13 (q_top hf (fun v3 hf => ?_))
        refine lv_istore (lv' := [(4, .int v3), (0, .ref (ad 0 0)), (1, .int x1), (2, .int x2), (3, .int x3)]) S0.1 S0.2.1 dX9_copy_14 hl (by decide) rfl (fun ls hl => ?_)
        refine lv_bipush (v := 80) S0.1 S0.2.1 dX9_copy_16 (by decide) ?_
        refine lv_iload_n S0.1 S0.2.1 dX9_copy_18 rfl (lv_at hl 3 rfl) ?_
        refine lv_imul S0.1 S0.2.1 dX9_copy_19 (q_top hf (fun v4 hf => ?_))
        refine lv_iload_n S0.1 S0.2.1 dX9_copy_20 rfl (lv_at hl 4 rfl) ?_
        refine lv_iadd S0.1 S0.2.1 dX9_copy_21 (q_top hf (fun v5 hf => ?_))
        refine lv_istore (lv' := [(5, .int v5), (4, .int v3), (0, .ref (ad 0 0)), (1, .int x1), (2, .int x2), (3, .int x3)]) S0.1 S0.2.1 dX9_copy_22 hl (by decide) rfl (fun ls hl => ?_)
        refine lv_aload_n S0.1 S0.2.1 dX9_copy_24 rfl (lv_at hl 2 rfl) ?_
        refine gX9_is S0 hw kw_1156 dX9_copy_25 ?_
        refine lv_iload S0.1 S0.2.1 dX9_copy_28 (lv_at hl 0 rfl) ?_
        refine lv_aload_n S0.1 S0.2.1 dX9_copy_30 rfl (lv_at hl 2 rfl) ?_
        refine gX9_is S0 hw kw_1156 dX9_copy_31 ?_
        refine lv_iload S0.1 S0.2.1 dX9_copy_34 (lv_at hl 1 rfl) ?_
        refine q_iald S0 hw dM_108 (t0 := 0) rfl rfl dX9_copy_36 hf (fun v6 hf => ?_)
        refine q_iast S0 hw dM_108 (t0 := 0) (fun _ => rfl) rfl dX9_copy_37 hf (fun s7 H locs hw hf => ?_)
        refine lv_aload_n S0.1 S0.2.1 dX9_copy_38 rfl (lv_at hl 2 rfl) ?_
        refine gX9_val S0 hw kw_1157 dX9_copy_39 ?_
        refine lv_iload S0.1 S0.2.1 dX9_copy_42 (lv_at hl 0 rfl) ?_
        refine lv_aload_n S0.1 S0.2.1 dX9_copy_44 rfl (lv_at hl 2 rfl) ?_
        refine gX9_val S0 hw kw_1157 dX9_copy_45 ?_
        refine lv_iload S0.1 S0.2.1 dX9_copy_48 (lv_at hl 1 rfl) ?_
        refine q_iald S0 hw dM_109 (t0 := 0) rfl rfl dX9_copy_50 hf (fun v8 hf => ?_)
        refine q_iast S0 hw dM_109 (t0 := 0) (fun _ => rfl) rfl dX9_copy_51 hf (fun s9 H locs hw hf => ?_)
        refine lv_aload_n S0.1 S0.2.1 dX9_copy_52 rfl (lv_at hl 2 rfl) ?_
        refine gX9_vv S0 hw kw_1158 dX9_copy_53 ?_
        refine lv_iload S0.1 S0.2.1 dX9_copy_56 (lv_at hl 0 rfl) ?_
        refine lv_aload_n S0.1 S0.2.1 dX9_copy_58 rfl (lv_at hl 2 rfl) ?_
        refine gX9_vv S0 hw kw_1158 dX9_copy_59 ?_
        refine lv_iload S0.1 S0.2.1 dX9_copy_62 (lv_at hl 1 rfl) ?_
        refine q_iald S0 hw dM_110 (t0 := 0) rfl rfl dX9_copy_64 hf (fun v10 hf => ?_)
        refine q_iast S0 hw dM_110 (t0 := 0) (fun _ => rfl) rfl dX9_copy_65 hf (fun s11 H locs hw hf => ?_)
        refine lv_aload_n S0.1 S0.2.1 dX9_copy_66 rfl (lv_at hl 2 rfl) ?_
        refine gX9_cv S0 hw kw_1159 dX9_copy_67 ?_
        refine lv_iload S0.1 S0.2.1 dX9_copy_70 (lv_at hl 0 rfl) ?_
        refine lv_aload_n S0.1 S0.2.1 dX9_copy_72 rfl (lv_at hl 2 rfl) ?_
        refine gX9_cv S0 hw kw_1159 dX9_copy_73 ?_
        refine lv_iload S0.1 S0.2.1 dX9_copy_76 (lv_at hl 1 rfl) ?_
        refine q_iald S0 hw dM_111 (t0 := 0) rfl rfl dX9_copy_78 hf (fun v12 hf => ?_)
        refine q_iast S0 hw dM_111 (t0 := 0) (fun _ => rfl) rfl dX9_copy_79 hf (fun s13 H locs hw hf => ?_)
        refine lv_aload_n S0.1 S0.2.1 dX9_copy_80 rfl (lv_at hl 2 rfl) ?_
        refine gX9_rv S0 hw kw_1160 dX9_copy_81 ?_
        refine lv_iload S0.1 S0.2.1 dX9_copy_84 (lv_at hl 0 rfl) ?_
        refine lv_aload_n S0.1 S0.2.1 dX9_copy_86 rfl (lv_at hl 2 rfl) ?_
        refine gX9_rv S0 hw kw_1160 dX9_copy_87 ?_
        refine lv_iload S0.1 S0.2.1 dX9_copy_90 (lv_at hl 1 rfl) ?_
        refine q_iald S0 hw dM_112 (t0 := 0) rfl rfl dX9_copy_92 hf (fun v14 hf => ?_)
        refine q_iast S0 hw dM_112 (t0 := 0) (fun _ => rfl) rfl dX9_copy_93 hf (fun s15 H locs hw hf => ?_)
        refine lv_aload_n S0.1 S0.2.1 dX9_copy_94 rfl (lv_at hl 2 rfl) ?_
        refine gX9_rr S0 hw kw_1161 dX9_copy_95 ?_
        refine lv_iload S0.1 S0.2.1 dX9_copy_98 (lv_at hl 0 rfl) ?_
        refine lv_aload_n S0.1 S0.2.1 dX9_copy_100 rfl (lv_at hl 2 rfl) ?_
        refine gX9_rr S0 hw kw_1161 dX9_copy_101 ?_
        refine lv_iload S0.1 S0.2.1 dX9_copy_104 (lv_at hl 1 rfl) ?_
        refine q_iald S0 hw dM_113 (t0 := 0) rfl rfl dX9_copy_106 hf (fun v16 hf => ?_)
        refine q_iast S0 hw dM_113 (t0 := 0) (fun _ => rfl) rfl dX9_copy_107 hf (fun s17 H locs hw hf => ?_)
        refine lv_aload_n S0.1 S0.2.1 dX9_copy_108 rfl (lv_at hl 2 rfl) ?_
        refine gX9_rw S0 hw kw_1162 dX9_copy_109 ?_
        refine lv_iload S0.1 S0.2.1 dX9_copy_112 (lv_at hl 0 rfl) ?_
        refine lv_aload_n S0.1 S0.2.1 dX9_copy_114 rfl (lv_at hl 2 rfl) ?_
        refine gX9_rw S0 hw kw_1162 dX9_copy_115 ?_
        refine lv_iload S0.1 S0.2.1 dX9_copy_118 (lv_at hl 1 rfl) ?_
        refine q_iald S0 hw dM_114 (t0 := 0) rfl rfl dX9_copy_120 hf (fun v18 hf => ?_)
        refine q_iast S0 hw dM_114 (t0 := 0) (fun _ => rfl) rfl dX9_copy_121 hf (fun s19 H locs hw hf => ?_)
        refine q_iinc S0 (v0 := 1) dX9_copy_122 hl (k := 5) rfl (by decide) (by decide) rfl hf (fun v20 ls hl hf => ?_)
        refine lv_goto (tgt := 2) S0.1 S0.2.1 dX9_copy_125 (by decide) ?_
        exact hk2 x1 x2 v20 s19 hf _ _ _ hw (lv_sub hl [3, 4, 5, 0] rfl)
  refine lv_iconst (v := 0) S0.1 S0.2.1 dX9_copy_0 (by decide) ?_
  refine lv_istore_n (lv' := [(3, .int 0), (0, .ref (ad 0 0)), (1, .int p1), (2, .int p2)]) S0.1 S0.2.1 dX9_copy_1 rfl hl (by decide) rfl (fun ls hl => ?_)
  exact b2 F p1 p2 0 σ hf _ _ _ hw (lv_sub hl [1, 2, 3, 0] rfl)
theorem qyX9_apply : qY yX9_apply RX9 cX9_apply 5 none 2 := ⟨⟨kw_1381, kp_50, kw_11, kw_1382⟩, rfl, by decide, by decide, by decide +kernel⟩
def fX9_apply_251 (F : Nat) (σ : qS) : Option qS :=
  some σ
def fX9_apply_51 (F : Nat) (x2 : Int32) (x3 : Int32) (t0 : Int32) (σ : qS) : Option qS :=
  ldi 90000 (σ.1 121 0) x2 fun v6 => (if v6 = 0 then (inx 400 x3 (nm (qI σ 108 0 x3.toNatClampNeg 1) fun s8 => (ldi 90000 (s8.1 123 0) x2 fun v9 => (inx 400 x3 (nm (qI s8 109 0 x3.toNatClampNeg v9) fun s10 => (inx 400 x3 (nm (qI s10 110 0 x3.toNatClampNeg 0) fun s11 => (inx 400 x3 (nm (qI s11 111 0 x3.toNatClampNeg 0) fun s12 => (inx 400 x3 (nm (qI s12 112 0 x3.toNatClampNeg 0) fun s13 => (ldi 400 (s13.1 113 0) t0 fun v14 => (inx 400 x3 (nm (qI s13 113 0 x3.toNatClampNeg v14) fun s15 => (ldi 400 (s15.1 114 0) t0 fun v16 => (inx 400 x3 (nm (qI s15 114 0 x3.toNatClampNeg v16) fun s17 => (ldi 400 (s17.1 111 0) t0 fun v18 => (nm (v18 + 1) fun v19 => (inx 400 t0 (nm (qI s17 111 0 t0.toNatClampNeg v19) fun s20 => (fX9_apply_251 F s20)))))))))))))))))))))) else (if v6 = 1 then (ldi 90000 (σ.1 123 0) x2 fun v22 => (inx 400 x3 (nm (qI σ 109 0 x3.toNatClampNeg v22) fun s23 => (ldi 400 (s23.1 110 0) x3 fun v24 => (nm (v24 + 1) fun v25 => (inx 400 x3 (nm (qI s23 110 0 x3.toNatClampNeg v25) fun s26 => (fX9_apply_251 F s26)))))))) else (if v6 = 2 then (inx 400 x3 (nm (qI σ 108 0 x3.toNatClampNeg 0) fun s28 => (ldi 400 (s28.1 111 0) t0 fun v29 => (nm (v29 + 1) fun v30 => (inx 400 t0 (nm (qI s28 111 0 t0.toNatClampNeg v30) fun s31 => (fX9_apply_251 F s31))))))) else (if v6 = 3 then (ldi 90000 (σ.1 123 0) x2 fun v33 => (inx 400 x3 (nm (qI σ 113 0 x3.toNatClampNeg v33) fun s34 => (ldi 90000 (s34.1 124 0) x2 fun v35 => (inx 400 x3 (nm (qI s34 114 0 x3.toNatClampNeg v35) fun s36 => (ldi 400 (s36.1 112 0) x3 fun v37 => (nm (v37 + 1) fun v38 => (inx 400 x3 (nm (qI s36 112 0 x3.toNatClampNeg v38) fun s39 => (fX9_apply_251 F s39))))))))))) else (fX9_apply_251 F σ)))))
def fX9_apply_31 (F : Nat) (x2 : Int32) (x3 : Int32) (σ : qS) : Option qS :=
  fX9_apply_51 F x2 x3 ((-1)) σ
def fX9_apply (F : Nat) (p1 : Int32) (p2 : Int32) (σ : qS) : Option qS :=
  nm (80 * p1) fun v1 => (ldi 90000 (σ.1 122 0) p2 fun v2 => (nm (v1 + v2) fun v3 => (ldi 90000 (σ.1 122 0) p2 fun v4 => (if v4 = 0 then (fX9_apply_31 F p2 v3 σ) else (ldi 90000 (σ.1 121 0) p2 fun v40 => (if v40 ≤ 3 then (nm (80 * p1) fun v42 => (ldi 90000 (σ.1 122 0) p2 fun v43 => (ldi 80 (σ.1 100 0) v43 fun v44 => (nm (v42 + v44) fun v45 => (fX9_apply_51 F p2 v3 v45 σ))))) else (fX9_apply_31 F p2 v3 σ)))))))
set_option maxRecDepth 100000 in
set_option maxHeartbeats 4000000 in
theorem wX9_apply (l : Launch) (D : va_G) (Y : Nat → ClassId) (ad : qAd) (F : Nat) (p1 : Int32) (p2 : Int32) (σ : qS) : qCv l yX9_apply cX9_apply 5 none 0 0 D (mL Y) (qT Y) ad [.ref (ad 0 0), .int p1, .int p2] σ (fX9_apply F p1 p2 σ) := by
  refine q_ofv (by decide) (Nat.le_of_ble_eq_true rfl) "LeasehallModel" rfl (fun p e s m below meth c A Q r0 S0 hf hw hret ls hl => ?_)
  replace hl : lv_has ls 5 [(0, .ref (ad 0 0)), (1, .int p1), (2, .int p2)] := hl
  unfold fX9_apply at hf
  have b251 : ∀ (σ : qS), fX9_apply_251 F σ = some r0 → qAt p l e (qRm 0 0) s m ([.ref (ad 0 0), .int p1, .int p2] : List Value).toArray below meth c Q D (mL Y) (qT Y) A ad 5 0 0 251 [] [] σ := by
    clear hf hw hl ls
    intro σ hf H locs ls hw hl
    unfold fX9_apply_251 at hf
    exact hret dX9_apply_251 hw hf
  have b51 : ∀ (x2 : Int32) (x3 : Int32) (t0 : Int32) (σ : qS), fX9_apply_51 F x2 x3 t0 σ = some r0 → qAt p l e (qRm 0 0) s m ([.ref (ad 0 0), .int p1, .int p2] : List Value).toArray below meth c Q D (mL Y) (qT Y) A ad 5 0 0 51 [(0, .ref (ad 0 0)), (2, .int x2), (3, .int x3)] [.int t0] σ := by
    clear hf hw hl ls
    intro x2 x3 t0 σ hf H locs ls hw hl
    unfold fX9_apply_51 at hf
    refine lv_istore (lv' := [(4, .int t0), (0, .ref (ad 0 0)), (2, .int x2), (3, .int x3)]) S0.1 S0.2.1 dX9_apply_51 hl (by decide) rfl (fun ls hl => ?_)
    refine lv_aload_n S0.1 S0.2.1 dX9_apply_53 rfl (lv_at hl 1 rfl) ?_
    refine gX9_sk S0 hw kw_1169 dX9_apply_54 ?_
    refine lv_iload_n S0.1 S0.2.1 dX9_apply_57 rfl (lv_at hl 2 rfl) ?_
    refine q_iald S0 hw dM_121 (t0 := 0) rfl rfl dX9_apply_58 hf (fun v6 hf => ?_)
    by_cases c7 : v6 = 0
    · replace hf := q_pos c7 hf
      refine lv_tableIn (tgt := 88) S0.1 S0.2.1 dX9_apply_59 (by rw [c7]; decide) (by rw [c7]; decide) (by rw [c7]; rfl) (by decide) ?_
      refine lv_aload_n S0.1 S0.2.1 dX9_apply_88 rfl (lv_at hl 1 rfl) ?_
      refine gX9_is S0 hw kw_1156 dX9_apply_89 ?_
      refine lv_iload_n S0.1 S0.2.1 dX9_apply_92 rfl (lv_at hl 3 rfl) ?_
      refine lv_iconst (v := 1) S0.1 S0.2.1 dX9_apply_93 (by decide) ?_
      refine q_iast S0 hw dM_108 (t0 := 0) (fun _ => rfl) rfl dX9_apply_94 hf (fun s8 H locs hw hf => ?_)
      refine lv_aload_n S0.1 S0.2.1 dX9_apply_95 rfl (lv_at hl 1 rfl) ?_
      refine gX9_val S0 hw kw_1157 dX9_apply_96 ?_
      refine lv_iload_n S0.1 S0.2.1 dX9_apply_99 rfl (lv_at hl 3 rfl) ?_
      refine lv_aload_n S0.1 S0.2.1 dX9_apply_100 rfl (lv_at hl 1 rfl) ?_
      refine gX9_sv S0 hw kw_1171 dX9_apply_101 ?_
      refine lv_iload_n S0.1 S0.2.1 dX9_apply_104 rfl (lv_at hl 2 rfl) ?_
      refine q_iald S0 hw dM_123 (t0 := 0) rfl rfl dX9_apply_105 hf (fun v9 hf => ?_)
      refine q_iast S0 hw dM_109 (t0 := 0) (fun _ => rfl) rfl dX9_apply_106 hf (fun s10 H locs hw hf => ?_)
      refine lv_aload_n S0.1 S0.2.1 dX9_apply_107 rfl (lv_at hl 1 rfl) ?_
      refine gX9_vv S0 hw kw_1158 dX9_apply_108 ?_
      refine lv_iload_n S0.1 S0.2.1 dX9_apply_111 rfl (lv_at hl 3 rfl) ?_
      refine lv_iconst (v := 0) S0.1 S0.2.1 dX9_apply_112 (by decide) ?_
      refine q_iast S0 hw dM_110 (t0 := 0) (fun _ => rfl) rfl dX9_apply_113 hf (fun s11 H locs hw hf => ?_)
      refine lv_aload_n S0.1 S0.2.1 dX9_apply_114 rfl (lv_at hl 1 rfl) ?_
      refine gX9_cv S0 hw kw_1159 dX9_apply_115 ?_
      refine lv_iload_n S0.1 S0.2.1 dX9_apply_118 rfl (lv_at hl 3 rfl) ?_
      refine lv_iconst (v := 0) S0.1 S0.2.1 dX9_apply_119 (by decide) ?_
      refine q_iast S0 hw dM_111 (t0 := 0) (fun _ => rfl) rfl dX9_apply_120 hf (fun s12 H locs hw hf => ?_)
      refine lv_aload_n S0.1 S0.2.1 dX9_apply_121 rfl (lv_at hl 1 rfl) ?_
      refine gX9_rv S0 hw kw_1160 dX9_apply_122 ?_
      refine lv_iload_n S0.1 S0.2.1 dX9_apply_125 rfl (lv_at hl 3 rfl) ?_
      refine lv_iconst (v := 0) S0.1 S0.2.1 dX9_apply_126 (by decide) ?_
      refine q_iast S0 hw dM_112 (t0 := 0) (fun _ => rfl) rfl dX9_apply_127 hf (fun s13 H locs hw hf => ?_)
      refine lv_aload_n S0.1 S0.2.1 dX9_apply_128 rfl (lv_at hl 1 rfl) ?_
      refine gX9_rr S0 hw kw_1161 dX9_apply_129 ?_
      refine lv_iload_n S0.1 S0.2.1 dX9_apply_132 rfl (lv_at hl 3 rfl) ?_
      refine lv_aload_n S0.1 S0.2.1 dX9_apply_133 rfl (lv_at hl 1 rfl) ?_
      refine gX9_rr S0 hw kw_1161 dX9_apply_134 ?_
      refine lv_iload S0.1 S0.2.1 dX9_apply_137 (lv_at hl 0 rfl) ?_
      refine q_iald S0 hw dM_113 (t0 := 0) rfl rfl dX9_apply_139 hf (fun v14 hf => ?_)
      refine q_iast S0 hw dM_113 (t0 := 0) (fun _ => rfl) rfl dX9_apply_140 hf (fun s15 H locs hw hf => ?_)
      refine lv_aload_n S0.1 S0.2.1 dX9_apply_141 rfl (lv_at hl 1 rfl) ?_
      refine gX9_rw S0 hw kw_1162 dX9_apply_142 ?_
      refine lv_iload_n S0.1 S0.2.1 dX9_apply_145 rfl (lv_at hl 3 rfl) ?_
      refine lv_aload_n S0.1 S0.2.1 dX9_apply_146 rfl (lv_at hl 1 rfl) ?_
      refine gX9_rw S0 hw kw_1162 dX9_apply_147 ?_
      refine lv_iload S0.1 S0.2.1 dX9_apply_150 (lv_at hl 0 rfl) ?_
      refine q_iald S0 hw dM_114 (t0 := 0) rfl rfl dX9_apply_152 hf (fun v16 hf => ?_)
      refine q_iast S0 hw dM_114 (t0 := 0) (fun _ => rfl) rfl dX9_apply_153 hf (fun s17 H locs hw hf => ?_)
      refine lv_aload_n S0.1 S0.2.1 dX9_apply_154 rfl (lv_at hl 1 rfl) ?_
      refine gX9_cv S0 hw kw_1159 dX9_apply_155 ?_
      refine lv_iload S0.1 S0.2.1 dX9_apply_158 (lv_at hl 0 rfl) ?_
      refine lv_dup2_11 S0.1 S0.2.1 dX9_apply_160 rfl rfl ?_
      refine q_iald S0 hw dM_111 (t0 := 0) rfl rfl dX9_apply_161 hf (fun v18 hf => ?_)
      refine lv_iconst (v := 1) S0.1 S0.2.1 dX9_apply_162 (by decide) ?_
      refine lv_iadd S0.1 S0.2.1 dX9_apply_163 (q_top hf (fun v19 hf => ?_))
      refine q_iast S0 hw dM_111 (t0 := 0) (fun _ => rfl) rfl dX9_apply_164 hf (fun s20 H locs hw hf => ?_)
      refine lv_goto (tgt := 251) S0.1 S0.2.1 dX9_apply_165 (by decide) ?_
      exact b251 s20 hf _ _ _ hw (lv_sub hl [] rfl)
    · replace hf := q_neg c7 hf
      by_cases c21 : v6 = 1
      · replace hf := q_pos c21 hf
        refine lv_tableIn (tgt := 168) S0.1 S0.2.1 dX9_apply_59 (by rw [c21]; decide) (by rw [c21]; decide) (by rw [c21]; rfl) (by decide) ?_
        refine lv_aload_n S0.1 S0.2.1 dX9_apply_168 rfl (lv_at hl 1 rfl) ?_
        refine gX9_val S0 hw kw_1157 dX9_apply_169 ?_
        refine lv_iload_n S0.1 S0.2.1 dX9_apply_172 rfl (lv_at hl 3 rfl) ?_
        refine lv_aload_n S0.1 S0.2.1 dX9_apply_173 rfl (lv_at hl 1 rfl) ?_
        refine gX9_sv S0 hw kw_1171 dX9_apply_174 ?_
        refine lv_iload_n S0.1 S0.2.1 dX9_apply_177 rfl (lv_at hl 2 rfl) ?_
        refine q_iald S0 hw dM_123 (t0 := 0) rfl rfl dX9_apply_178 hf (fun v22 hf => ?_)
        refine q_iast S0 hw dM_109 (t0 := 0) (fun _ => rfl) rfl dX9_apply_179 hf (fun s23 H locs hw hf => ?_)
        refine lv_aload_n S0.1 S0.2.1 dX9_apply_180 rfl (lv_at hl 1 rfl) ?_
        refine gX9_vv S0 hw kw_1158 dX9_apply_181 ?_
        refine lv_iload_n S0.1 S0.2.1 dX9_apply_184 rfl (lv_at hl 3 rfl) ?_
        refine lv_dup2_11 S0.1 S0.2.1 dX9_apply_185 rfl rfl ?_
        refine q_iald S0 hw dM_110 (t0 := 0) rfl rfl dX9_apply_186 hf (fun v24 hf => ?_)
        refine lv_iconst (v := 1) S0.1 S0.2.1 dX9_apply_187 (by decide) ?_
        refine lv_iadd S0.1 S0.2.1 dX9_apply_188 (q_top hf (fun v25 hf => ?_))
        refine q_iast S0 hw dM_110 (t0 := 0) (fun _ => rfl) rfl dX9_apply_189 hf (fun s26 H locs hw hf => ?_)
        refine lv_goto (tgt := 251) S0.1 S0.2.1 dX9_apply_190 (by decide) ?_
        exact b251 s26 hf _ _ _ hw (lv_sub hl [] rfl)
      · replace hf := q_neg c21 hf
        by_cases c27 : v6 = 2
        · replace hf := q_pos c27 hf
          refine lv_tableIn (tgt := 193) S0.1 S0.2.1 dX9_apply_59 (by rw [c27]; decide) (by rw [c27]; decide) (by rw [c27]; rfl) (by decide) ?_
          refine lv_aload_n S0.1 S0.2.1 dX9_apply_193 rfl (lv_at hl 1 rfl) ?_
          refine gX9_is S0 hw kw_1156 dX9_apply_194 ?_
          refine lv_iload_n S0.1 S0.2.1 dX9_apply_197 rfl (lv_at hl 3 rfl) ?_
          refine lv_iconst (v := 0) S0.1 S0.2.1 dX9_apply_198 (by decide) ?_
          refine q_iast S0 hw dM_108 (t0 := 0) (fun _ => rfl) rfl dX9_apply_199 hf (fun s28 H locs hw hf => ?_)
          refine lv_aload_n S0.1 S0.2.1 dX9_apply_200 rfl (lv_at hl 1 rfl) ?_
          refine gX9_cv S0 hw kw_1159 dX9_apply_201 ?_
          refine lv_iload S0.1 S0.2.1 dX9_apply_204 (lv_at hl 0 rfl) ?_
          refine lv_dup2_11 S0.1 S0.2.1 dX9_apply_206 rfl rfl ?_
          refine q_iald S0 hw dM_111 (t0 := 0) rfl rfl dX9_apply_207 hf (fun v29 hf => ?_)
          refine lv_iconst (v := 1) S0.1 S0.2.1 dX9_apply_208 (by decide) ?_
          refine lv_iadd S0.1 S0.2.1 dX9_apply_209 (q_top hf (fun v30 hf => ?_))
          refine q_iast S0 hw dM_111 (t0 := 0) (fun _ => rfl) rfl dX9_apply_210 hf (fun s31 H locs hw hf => ?_)
          refine lv_goto (tgt := 251) S0.1 S0.2.1 dX9_apply_211 (by decide) ?_
          exact b251 s31 hf _ _ _ hw (lv_sub hl [] rfl)
        · replace hf := q_neg c27 hf
          by_cases c32 : v6 = 3
          · replace hf := q_pos c32 hf
            refine lv_tableIn (tgt := 214) S0.1 S0.2.1 dX9_apply_59 (by rw [c32]; decide) (by rw [c32]; decide) (by rw [c32]; rfl) (by decide) ?_
            refine lv_aload_n S0.1 S0.2.1 dX9_apply_214 rfl (lv_at hl 1 rfl) ?_
            refine gX9_rr S0 hw kw_1161 dX9_apply_215 ?_
            refine lv_iload_n S0.1 S0.2.1 dX9_apply_218 rfl (lv_at hl 3 rfl) ?_
            refine lv_aload_n S0.1 S0.2.1 dX9_apply_219 rfl (lv_at hl 1 rfl) ?_
            refine gX9_sv S0 hw kw_1171 dX9_apply_220 ?_
            refine lv_iload_n S0.1 S0.2.1 dX9_apply_223 rfl (lv_at hl 2 rfl) ?_
            refine q_iald S0 hw dM_123 (t0 := 0) rfl rfl dX9_apply_224 hf (fun v33 hf => ?_)
            refine q_iast S0 hw dM_113 (t0 := 0) (fun _ => rfl) rfl dX9_apply_225 hf (fun s34 H locs hw hf => ?_)
            refine lv_aload_n S0.1 S0.2.1 dX9_apply_226 rfl (lv_at hl 1 rfl) ?_
            refine gX9_rw S0 hw kw_1162 dX9_apply_227 ?_
            refine lv_iload_n S0.1 S0.2.1 dX9_apply_230 rfl (lv_at hl 3 rfl) ?_
            refine lv_aload_n S0.1 S0.2.1 dX9_apply_231 rfl (lv_at hl 1 rfl) ?_
            refine gX9_sw S0 hw kw_1172 dX9_apply_232 ?_
            refine lv_iload_n S0.1 S0.2.1 dX9_apply_235 rfl (lv_at hl 2 rfl) ?_
            refine q_iald S0 hw dM_124 (t0 := 0) rfl rfl dX9_apply_236 hf (fun v35 hf => ?_)
            refine q_iast S0 hw dM_114 (t0 := 0) (fun _ => rfl) rfl dX9_apply_237 hf (fun s36 H locs hw hf => ?_)
            refine lv_aload_n S0.1 S0.2.1 dX9_apply_238 rfl (lv_at hl 1 rfl) ?_
            refine gX9_rv S0 hw kw_1160 dX9_apply_239 ?_
            refine lv_iload_n S0.1 S0.2.1 dX9_apply_242 rfl (lv_at hl 3 rfl) ?_
            refine lv_dup2_11 S0.1 S0.2.1 dX9_apply_243 rfl rfl ?_
            refine q_iald S0 hw dM_112 (t0 := 0) rfl rfl dX9_apply_244 hf (fun v37 hf => ?_)
            refine lv_iconst (v := 1) S0.1 S0.2.1 dX9_apply_245 (by decide) ?_
            refine lv_iadd S0.1 S0.2.1 dX9_apply_246 (q_top hf (fun v38 hf => ?_))
            refine q_iast S0 hw dM_112 (t0 := 0) (fun _ => rfl) rfl dX9_apply_247 hf (fun s39 H locs hw hf => ?_)
            refine lv_goto (tgt := 251) S0.1 S0.2.1 dX9_apply_248 (by decide) ?_
            exact b251 s39 hf _ _ _ hw (lv_sub hl [] rfl)
          · replace hf := q_neg c32 hf
            refine lv_tableOut (tgt := 251) S0.1 S0.2.1 dX9_apply_59 (by have hc7 := lv_neT c7 (a := 0) (by decide); have hc21 := lv_neT c21 (a := 1) (by decide); have hc27 := lv_neT c27 (a := 2) (by decide); have hc32 := lv_neT c32 (a := 3) (by decide); omega) (by decide) ?_
            exact b251 σ hf _ _ _ hw (lv_sub hl [] rfl)
  have b31 : ∀ (x2 : Int32) (x3 : Int32) (σ : qS), fX9_apply_31 F x2 x3 σ = some r0 → qAt p l e (qRm 0 0) s m ([.ref (ad 0 0), .int p1, .int p2] : List Value).toArray below meth c Q D (mL Y) (qT Y) A ad 5 0 0 31 [(0, .ref (ad 0 0)), (2, .int x2), (3, .int x3)] [] σ := by
    clear hf hw hl ls
    intro x2 x3 σ hf H locs ls hw hl
    unfold fX9_apply_31 at hf
    refine lv_iconst (v := (-1)) S0.1 S0.2.1 dX9_apply_31 (by decide) ?_
    refine lv_goto (tgt := 51) S0.1 S0.2.1 dX9_apply_32 (by decide) ?_
    exact b51 x2 x3 ((-1)) σ hf _ _ _ hw (lv_sub hl [0, 1, 2] rfl)
  refine lv_bipush (v := 80) S0.1 S0.2.1 dX9_apply_0 (by decide) ?_
  refine lv_iload_n S0.1 S0.2.1 dX9_apply_2 rfl (lv_at hl 1 rfl) ?_
  refine lv_imul S0.1 S0.2.1 dX9_apply_3 (q_top hf (fun v1 hf => ?_))
  refine lv_aload_n S0.1 S0.2.1 dX9_apply_4 rfl (lv_at hl 0 rfl) ?_
  refine gX9_sn S0 hw kw_1170 dX9_apply_5 ?_
  refine lv_iload_n S0.1 S0.2.1 dX9_apply_8 rfl (lv_at hl 2 rfl) ?_
  refine q_iald S0 hw dM_122 (t0 := 0) rfl rfl dX9_apply_9 hf (fun v2 hf => ?_)
  refine lv_iadd S0.1 S0.2.1 dX9_apply_10 (q_top hf (fun v3 hf => ?_))
  refine lv_istore_n (lv' := [(3, .int v3), (0, .ref (ad 0 0)), (1, .int p1), (2, .int p2)]) S0.1 S0.2.1 dX9_apply_11 rfl hl (by decide) rfl (fun ls hl => ?_)
  refine lv_aload_n S0.1 S0.2.1 dX9_apply_12 rfl (lv_at hl 1 rfl) ?_
  refine gX9_sn S0 hw kw_1170 dX9_apply_13 ?_
  refine lv_iload_n S0.1 S0.2.1 dX9_apply_16 rfl (lv_at hl 3 rfl) ?_
  refine q_iald S0 hw dM_122 (t0 := 0) rfl rfl dX9_apply_17 hf (fun v4 hf => ?_)
  refine lv_if_eq (tgt := 31) S0.1 S0.2.1 dX9_apply_18 (by decide) (fun c5 => ?_) (fun c5 => ?_)
  · replace hf := q_pos c5 hf
    exact b31 p2 v3 σ hf _ _ _ hw (lv_sub hl [1, 3, 0] rfl)
  · replace hf := q_neg c5 hf
    refine lv_aload_n S0.1 S0.2.1 dX9_apply_21 rfl (lv_at hl 1 rfl) ?_
    refine gX9_sk S0 hw kw_1169 dX9_apply_22 ?_
    refine lv_iload_n S0.1 S0.2.1 dX9_apply_25 rfl (lv_at hl 3 rfl) ?_
    refine q_iald S0 hw dM_121 (t0 := 0) rfl rfl dX9_apply_26 hf (fun v40 hf => ?_)
    refine lv_iconst (v := 3) S0.1 S0.2.1 dX9_apply_27 (by decide) ?_
    refine lv_icmp_le (tgt := 35) S0.1 S0.2.1 dX9_apply_28 (by decide) (fun c41 => ?_) (fun c41 => ?_)
    · replace hf := q_pos c41 hf
      refine lv_bipush (v := 80) S0.1 S0.2.1 dX9_apply_35 (by decide) ?_
      refine lv_iload_n S0.1 S0.2.1 dX9_apply_37 rfl (lv_at hl 2 rfl) ?_
      refine lv_imul S0.1 S0.2.1 dX9_apply_38 (q_top hf (fun v42 hf => ?_))
      refine lv_aload_n S0.1 S0.2.1 dX9_apply_39 rfl (lv_at hl 1 rfl) ?_
      refine gX9_parent S0 hw kw_1148 dX9_apply_40 ?_
      refine lv_aload_n S0.1 S0.2.1 dX9_apply_43 rfl (lv_at hl 1 rfl) ?_
      refine gX9_sn S0 hw kw_1170 dX9_apply_44 ?_
      refine lv_iload_n S0.1 S0.2.1 dX9_apply_47 rfl (lv_at hl 3 rfl) ?_
      refine q_iald S0 hw dM_122 (t0 := 0) rfl rfl dX9_apply_48 hf (fun v43 hf => ?_)
      refine q_iald S0 hw dM_100 (t0 := 0) rfl rfl dX9_apply_49 hf (fun v44 hf => ?_)
      refine lv_iadd S0.1 S0.2.1 dX9_apply_50 (q_top hf (fun v45 hf => ?_))
      exact b51 p2 v3 v45 σ hf _ _ _ hw (lv_sub hl [1, 3, 0] rfl)
    · replace hf := q_neg c41 hf
      exact b31 p2 v3 σ hf _ _ _ hw (lv_sub hl [1, 3, 0] rfl)
theorem qyX9_log : qY yX9_log RX9 cX9_log 5 none 4 := ⟨⟨kw_1377, kp_49, kw_11, kw_1378⟩, rfl, by decide, by decide, by decide +kernel⟩
def fX9_log (F : Nat) (p1 : Int32) (p2 : Int32) (p3 : Int32) (p4 : Int32) (σ : qS) : Option qS :=
  nm (σ.1 0 0 25) fun v1 => (nm (σ.1 0 0 27) fun v2 => (inx 90000 v1 (nm (qI σ 120 0 v1.toNatClampNeg v2) fun s3 => (nm (s3.1 0 0 25) fun v4 => (inx 90000 v4 (nm (qI s3 121 0 v4.toNatClampNeg p1) fun s5 => (nm (s5.1 0 0 25) fun v6 => (inx 90000 v6 (nm (qI s5 122 0 v6.toNatClampNeg p2) fun s7 => (nm (s7.1 0 0 25) fun v8 => (inx 90000 v8 (nm (qI s7 123 0 v8.toNatClampNeg p3) fun s9 => (nm (s9.1 0 0 25) fun v10 => (inx 90000 v10 (nm (qI s9 124 0 v10.toNatClampNeg p4) fun s11 => (nm (s11.1 0 0 25) fun v12 => (nm (v12 + 1) fun v13 => (nm (qI s11 0 0 25 v13) fun s14 => (some s14)))))))))))))))))))
set_option maxRecDepth 100000 in
set_option maxHeartbeats 4000000 in
theorem wX9_log (l : Launch) (D : va_G) (Y : Nat → ClassId) (ad : qAd) (F : Nat) (p1 : Int32) (p2 : Int32) (p3 : Int32) (p4 : Int32) (σ : qS) : qCv l yX9_log cX9_log 5 none 0 0 D (mL Y) (qT Y) ad [.ref (ad 0 0), .int p1, .int p2, .int p3, .int p4] σ (fX9_log F p1 p2 p3 p4 σ) := by
  refine q_ofv (by decide) (Nat.le_of_ble_eq_true rfl) "LeasehallModel" rfl (fun p e s m below meth c A Q r0 S0 hf hw hret ls hl => ?_)
  replace hl : lv_has ls 5 [(0, .ref (ad 0 0)), (1, .int p1), (2, .int p2), (3, .int p3), (4, .int p4)] := hl
  unfold fX9_log at hf
  refine lv_aload_n S0.1 S0.2.1 dX9_log_0 rfl (lv_at hl 0 rfl) ?_
  refine gX9_sc S0 hw kw_1168 dX9_log_1 ?_
  refine lv_aload_n S0.1 S0.2.1 dX9_log_4 rfl (lv_at hl 0 rfl) ?_
  refine gX9_steps S0 hw kw_1173 dX9_log_5 hf (fun v1 hf => ?_)
  refine lv_aload_n S0.1 S0.2.1 dX9_log_8 rfl (lv_at hl 0 rfl) ?_
  refine gX9_now S0 hw kw_1175 dX9_log_9 hf (fun v2 hf => ?_)
  refine q_iast S0 hw dM_120 (t0 := 0) (fun _ => rfl) rfl dX9_log_12 hf (fun s3 H locs hw hf => ?_)
  refine lv_aload_n S0.1 S0.2.1 dX9_log_13 rfl (lv_at hl 0 rfl) ?_
  refine gX9_sk S0 hw kw_1169 dX9_log_14 ?_
  refine lv_aload_n S0.1 S0.2.1 dX9_log_17 rfl (lv_at hl 0 rfl) ?_
  refine gX9_steps S0 hw kw_1173 dX9_log_18 hf (fun v4 hf => ?_)
  refine lv_iload_n S0.1 S0.2.1 dX9_log_21 rfl (lv_at hl 1 rfl) ?_
  refine q_iast S0 hw dM_121 (t0 := 0) (fun _ => rfl) rfl dX9_log_22 hf (fun s5 H locs hw hf => ?_)
  refine lv_aload_n S0.1 S0.2.1 dX9_log_23 rfl (lv_at hl 0 rfl) ?_
  refine gX9_sn S0 hw kw_1170 dX9_log_24 ?_
  refine lv_aload_n S0.1 S0.2.1 dX9_log_27 rfl (lv_at hl 0 rfl) ?_
  refine gX9_steps S0 hw kw_1173 dX9_log_28 hf (fun v6 hf => ?_)
  refine lv_iload_n S0.1 S0.2.1 dX9_log_31 rfl (lv_at hl 2 rfl) ?_
  refine q_iast S0 hw dM_122 (t0 := 0) (fun _ => rfl) rfl dX9_log_32 hf (fun s7 H locs hw hf => ?_)
  refine lv_aload_n S0.1 S0.2.1 dX9_log_33 rfl (lv_at hl 0 rfl) ?_
  refine gX9_sv S0 hw kw_1171 dX9_log_34 ?_
  refine lv_aload_n S0.1 S0.2.1 dX9_log_37 rfl (lv_at hl 0 rfl) ?_
  refine gX9_steps S0 hw kw_1173 dX9_log_38 hf (fun v8 hf => ?_)
  refine lv_iload_n S0.1 S0.2.1 dX9_log_41 rfl (lv_at hl 3 rfl) ?_
  refine q_iast S0 hw dM_123 (t0 := 0) (fun _ => rfl) rfl dX9_log_42 hf (fun s9 H locs hw hf => ?_)
  refine lv_aload_n S0.1 S0.2.1 dX9_log_43 rfl (lv_at hl 0 rfl) ?_
  refine gX9_sw S0 hw kw_1172 dX9_log_44 ?_
  refine lv_aload_n S0.1 S0.2.1 dX9_log_47 rfl (lv_at hl 0 rfl) ?_
  refine gX9_steps S0 hw kw_1173 dX9_log_48 hf (fun v10 hf => ?_)
  refine lv_iload S0.1 S0.2.1 dX9_log_51 (lv_at hl 4 rfl) ?_
  refine q_iast S0 hw dM_124 (t0 := 0) (fun _ => rfl) rfl dX9_log_53 hf (fun s11 H locs hw hf => ?_)
  refine lv_aload_n S0.1 S0.2.1 dX9_log_54 rfl (lv_at hl 0 rfl) ?_
  refine lv_dup S0.1 S0.2.1 dX9_log_55 rfl ?_
  refine gX9_steps S0 hw kw_1173 dX9_log_56 hf (fun v12 hf => ?_)
  refine lv_iconst (v := 1) S0.1 S0.2.1 dX9_log_59 (by decide) ?_
  refine lv_iadd S0.1 S0.2.1 dX9_log_60 (q_top hf (fun v13 hf => ?_))
  refine pX9_steps S0 hw kw_1173 dX9_log_61 hf (fun s14 H locs hw hf => ?_)
  exact hret dX9_log_64 hw hf
theorem qyX9_step : qY yX9_step RX9 cX9_step 5 none 4 := ⟨⟨kw_1373, kp_48, kw_11, kw_1374⟩, rfl, by decide, by decide, by decide +kernel⟩
def fX9_step (F : Nat) (p1 : Int32) (p2 : Int32) (p3 : Int32) (p4 : Int32) (σ : qS) : Option qS :=
  bnd (fX9_log F p1 p2 p3 p4 σ) fun s1 => (nm (s1.1 0 0 25) fun v2 => (nm (v2 - 1) fun v3 => (bnd (fX9_apply F 0 v3 s1) fun s4 => (some s4))))
set_option maxRecDepth 100000 in
set_option maxHeartbeats 4000000 in
theorem wX9_step (l : Launch) (D : va_G) (Y : Nat → ClassId) (ad : qAd) (F : Nat) (p1 : Int32) (p2 : Int32) (p3 : Int32) (p4 : Int32) (σ : qS) : qCv l yX9_step cX9_step 5 none 1 24 D (mL Y) (qT Y) ad [.ref (ad 0 0), .int p1, .int p2, .int p3, .int p4] σ (fX9_step F p1 p2 p3 p4 σ) := by
  refine q_ofv (by decide) (Nat.le_of_ble_eq_true rfl) "LeasehallModel" rfl (fun p e s m below meth c A Q r0 S0 hf hw hret ls hl => ?_)
  replace hl : lv_has ls 5 [(0, .ref (ad 0 0)), (1, .int p1), (2, .int p2), (3, .int p3), (4, .int p4)] := hl
  unfold fX9_step at hf
  refine lv_aload_n S0.1 S0.2.1 dX9_step_0 rfl (lv_at hl 0 rfl) ?_
  refine lv_iload_n S0.1 S0.2.1 dX9_step_1 rfl (lv_at hl 1 rfl) ?_
  refine lv_iload_n S0.1 S0.2.1 dX9_step_2 rfl (lv_at hl 2 rfl) ?_
  refine lv_iload_n S0.1 S0.2.1 dX9_step_3 rfl (lv_at hl 3 rfl) ?_
  refine lv_iload S0.1 S0.2.1 dX9_step_4 (lv_at hl 4 rfl) ?_
  refine q_callv S0 hw (As := [.int p1, .int p2, .int p3, .int p4]) (rest := []) (wX9_log l D Y ad F p1 p2 p3 p4 σ) qyX9_log kw_1375 ⟨Nat.le_of_ble_eq_true rfl, Nat.le_of_ble_eq_true rfl⟩ dM_0 rfl rfl rfl rfl hl.1 (Nat.le_of_ble_eq_true rfl) dX9_step_6 ⟨Nat.le_refl _, Nat.le_refl _⟩ rfl hf (fun s1 H locs hw hf => ?_)
  refine lv_aload_n S0.1 S0.2.1 dX9_step_9 rfl (lv_at hl 0 rfl) ?_
  refine lv_iconst (v := 0) S0.1 S0.2.1 dX9_step_10 (by decide) ?_
  refine lv_aload_n S0.1 S0.2.1 dX9_step_11 rfl (lv_at hl 0 rfl) ?_
  refine gX9_steps S0 hw kw_1173 dX9_step_12 hf (fun v2 hf => ?_)
  refine lv_iconst (v := 1) S0.1 S0.2.1 dX9_step_15 (by decide) ?_
  refine lv_isub S0.1 S0.2.1 dX9_step_16 (q_top hf (fun v3 hf => ?_))
  refine q_callv S0 hw (As := [.int 0, .int v3]) (rest := []) (wX9_apply l D Y ad F 0 v3 s1) qyX9_apply kw_1379 ⟨Nat.le_of_ble_eq_true rfl, Nat.le_of_ble_eq_true rfl⟩ dM_0 rfl rfl rfl rfl hl.1 (Nat.le_of_ble_eq_true rfl) dX9_step_17 ⟨Nat.le_refl _, Nat.le_refl _⟩ rfl hf (fun s4 H locs hw hf => ?_)
  exact hret dX9_step_20 hw hf
theorem qyX9_begin : qY yX9_begin RX9 cX9_begin 2 none 0 := ⟨⟨kw_1361, kp_45, kw_11, kw_1362⟩, rfl, by decide, by decide, by decide +kernel⟩
def fX9_begin_8 (F : Nat) : Nat → Int32 → qS → Option qS
  | 0, _, _ => none
  | n + 1, x1, σ =>
  if 80 ≤ x1 then (nm (σ.1 0 0 7) fun v3 => (nm (qI σ 0 0 18 v3) fun s4 => (nm (s4.1 0 0 25) fun v5 => (nm (qI s4 0 0 19 v5) fun s6 => (nm (s6.1 0 0 26) fun v7 => (nm (v7 + 1) fun v8 => (nm (qI s6 0 0 27 v8) fun s9 => (some s9)))))))) else (ldi 80 (σ.1 105 0) x1 fun v10 => (inx 80 x1 (nm (qI σ 116 0 x1.toNatClampNeg v10) fun s11 => (nm (x1 + 1) fun v12 => (fX9_begin_8 F n v12 s11)))))
def fX9_begin (F : Nat) (σ : qS) : Option qS :=
  bnd (fX9_copy F 0 4 σ) fun s1 => (fX9_begin_8 F F 0 s1)
set_option maxRecDepth 100000 in
set_option maxHeartbeats 4000000 in
theorem wX9_begin (l : Launch) (D : va_G) (Y : Nat → ClassId) (ad : qAd) (F : Nat) (σ : qS) : qCv l yX9_begin cX9_begin 2 none 1 25 D (mL Y) (qT Y) ad [.ref (ad 0 0)] σ (fX9_begin F σ) := by
  refine q_ofv (by decide) (Nat.le_of_ble_eq_true rfl) "LeasehallModel" rfl (fun p e s m below meth c A Q r0 S0 hf hw hret ls hl => ?_)
  replace hl : lv_has ls 2 [(0, .ref (ad 0 0))] := hl
  unfold fX9_begin at hf
  have b8 : ∀ (n : Nat) (x1 : Int32) (σ : qS), fX9_begin_8 F n x1 σ = some r0 → qAt p l e (qRm 1 25) s m ([.ref (ad 0 0)] : List Value).toArray below meth c Q D (mL Y) (qT Y) A ad 2 0 0 8 [(0, .ref (ad 0 0)), (1, .int x1)] [] σ := by
    clear hf hw hl ls
    intro n
    induction n with
    | zero => intro x1 σ hf; exact absurd hf (by rw [fX9_begin_8]; exact nofun)
    | succ n hk8 =>
      intro x1 σ hf H locs ls hw hl
      rw [fX9_begin_8] at hf
      refine lv_iload_n S0.1 S0.2.1 dX9_begin_8 rfl (lv_at hl 1 rfl) ?_
      refine lv_bipush (v := 80) S0.1 S0.2.1 dX9_begin_9 (by decide) ?_
      refine lv_icmp_ge (tgt := 32) S0.1 S0.2.1 dX9_begin_11 (by decide) (fun c2 => ?_) (fun c2 => ?_)
      · replace hf := q_pos c2 hf
        refine lv_aload_n S0.1 S0.2.1 dX9_begin_32 rfl (lv_at hl 0 rfl) ?_
        refine lv_aload_n S0.1 S0.2.1 dX9_begin_33 rfl (lv_at hl 0 rfl) ?_
        refine gX9_nodes S0 hw kw_1155 dX9_begin_34 hf (fun v3 hf => ?_)
        refine pX9_wasNodes S0 hw kw_1166 dX9_begin_37 hf (fun s4 H locs hw hf => ?_)
        refine lv_aload_n S0.1 S0.2.1 dX9_begin_40 rfl (lv_at hl 0 rfl) ?_
        refine lv_aload_n S0.1 S0.2.1 dX9_begin_41 rfl (lv_at hl 0 rfl) ?_
        refine gX9_steps S0 hw kw_1173 dX9_begin_42 hf (fun v5 hf => ?_)
        refine pX9_wasSteps S0 hw kw_1167 dX9_begin_45 hf (fun s6 H locs hw hf => ?_)
        refine lv_aload_n S0.1 S0.2.1 dX9_begin_48 rfl (lv_at hl 0 rfl) ?_
        refine lv_aload_n S0.1 S0.2.1 dX9_begin_49 rfl (lv_at hl 0 rfl) ?_
        refine gX9_last S0 hw kw_1174 dX9_begin_50 hf (fun v7 hf => ?_)
        refine lv_iconst (v := 1) S0.1 S0.2.1 dX9_begin_53 (by decide) ?_
        refine lv_iadd S0.1 S0.2.1 dX9_begin_54 (q_top hf (fun v8 hf => ?_))
        refine pX9_now S0 hw kw_1175 dX9_begin_55 hf (fun s9 H locs hw hf => ?_)
        exact hret dX9_begin_58 hw hf
      · replace hf := q_neg c2 hf
        refine lv_aload_n S0.1 S0.2.1 dX9_begin_14 rfl (lv_at hl 0 rfl) ?_
        refine gX9_wasCount S0 hw kw_1164 dX9_begin_15 ?_
        refine lv_iload_n S0.1 S0.2.1 dX9_begin_18 rfl (lv_at hl 1 rfl) ?_
        refine lv_aload_n S0.1 S0.2.1 dX9_begin_19 rfl (lv_at hl 0 rfl) ?_
        refine gX9_counted S0 hw kw_1153 dX9_begin_20 ?_
        refine lv_iload_n S0.1 S0.2.1 dX9_begin_23 rfl (lv_at hl 1 rfl) ?_
        refine q_iald S0 hw dM_105 (t0 := 0) rfl rfl dX9_begin_24 hf (fun v10 hf => ?_)
        refine q_iast S0 hw dM_116 (t0 := 0) (fun _ => rfl) rfl dX9_begin_25 hf (fun s11 H locs hw hf => ?_)
        refine q_iinc S0 (v0 := 1) dX9_begin_26 hl (k := 1) rfl (by decide) (by decide) rfl hf (fun v12 ls hl hf => ?_)
        refine lv_goto (tgt := 8) S0.1 S0.2.1 dX9_begin_29 (by decide) ?_
        exact hk8 v12 s11 hf _ _ _ hw (lv_sub hl [1, 0] rfl)
  refine lv_aload_n S0.1 S0.2.1 dX9_begin_0 rfl (lv_at hl 0 rfl) ?_
  refine lv_iconst (v := 0) S0.1 S0.2.1 dX9_begin_1 (by decide) ?_
  refine lv_iconst (v := 4) S0.1 S0.2.1 dX9_begin_2 (by decide) ?_
  refine q_callv S0 hw (As := [.int 0, .int 4]) (rest := []) (wX9_copy l D Y ad F 0 4 σ) qyX9_copy kw_1363 ⟨Nat.le_of_ble_eq_true rfl, Nat.le_of_ble_eq_true rfl⟩ dM_0 rfl rfl rfl rfl hl.1 (Nat.le_of_ble_eq_true rfl) dX9_begin_3 ⟨Nat.le_refl _, Nat.le_refl _⟩ rfl hf (fun s1 H locs hw hf => ?_)
  refine lv_iconst (v := 0) S0.1 S0.2.1 dX9_begin_6 (by decide) ?_
  refine lv_istore_n (lv' := [(1, .int 0), (0, .ref (ad 0 0))]) S0.1 S0.2.1 dX9_begin_7 rfl hl (by decide) rfl (fun ls hl => ?_)
  exact b8 F 0 s1 hf _ _ _ hw (lv_sub hl [1, 0] rfl)
theorem qyX9_undo : qY yX9_undo RX9 cX9_undo 2 none 0 := ⟨⟨kw_1505, kp_73, kw_11, kw_1506⟩, rfl, by decide, by decide, by decide +kernel⟩
def fX9_undo_8 (F : Nat) : Nat → Int32 → qS → Option qS
  | 0, _, _ => none
  | n + 1, x1, σ =>
  if 80 ≤ x1 then (nm (σ.1 0 0 18) fun v3 => (nm (qI σ 0 0 7 v3) fun s4 => (nm (s4.1 0 0 19) fun v5 => (nm (qI s4 0 0 25 v5) fun s6 => (some s6))))) else (ldi 80 (σ.1 116 0) x1 fun v7 => (inx 80 x1 (nm (qI σ 105 0 x1.toNatClampNeg v7) fun s8 => (nm (x1 + 1) fun v9 => (fX9_undo_8 F n v9 s8)))))
def fX9_undo (F : Nat) (σ : qS) : Option qS :=
  bnd (fX9_copy F 4 0 σ) fun s1 => (fX9_undo_8 F F 0 s1)
set_option maxRecDepth 100000 in
set_option maxHeartbeats 4000000 in
theorem wX9_undo (l : Launch) (D : va_G) (Y : Nat → ClassId) (ad : qAd) (F : Nat) (σ : qS) : qCv l yX9_undo cX9_undo 2 none 1 25 D (mL Y) (qT Y) ad [.ref (ad 0 0)] σ (fX9_undo F σ) := by
  refine q_ofv (by decide) (Nat.le_of_ble_eq_true rfl) "LeasehallModel" rfl (fun p e s m below meth c A Q r0 S0 hf hw hret ls hl => ?_)
  replace hl : lv_has ls 2 [(0, .ref (ad 0 0))] := hl
  unfold fX9_undo at hf
  have b8 : ∀ (n : Nat) (x1 : Int32) (σ : qS), fX9_undo_8 F n x1 σ = some r0 → qAt p l e (qRm 1 25) s m ([.ref (ad 0 0)] : List Value).toArray below meth c Q D (mL Y) (qT Y) A ad 2 0 0 8 [(0, .ref (ad 0 0)), (1, .int x1)] [] σ := by
    clear hf hw hl ls
    intro n
    induction n with
    | zero => intro x1 σ hf; exact absurd hf (by rw [fX9_undo_8]; exact nofun)
    | succ n hk8 =>
      intro x1 σ hf H locs ls hw hl
      rw [fX9_undo_8] at hf
      refine lv_iload_n S0.1 S0.2.1 dX9_undo_8 rfl (lv_at hl 1 rfl) ?_
      refine lv_bipush (v := 80) S0.1 S0.2.1 dX9_undo_9 (by decide) ?_
      refine lv_icmp_ge (tgt := 32) S0.1 S0.2.1 dX9_undo_11 (by decide) (fun c2 => ?_) (fun c2 => ?_)
      · replace hf := q_pos c2 hf
        refine lv_aload_n S0.1 S0.2.1 dX9_undo_32 rfl (lv_at hl 0 rfl) ?_
        refine lv_aload_n S0.1 S0.2.1 dX9_undo_33 rfl (lv_at hl 0 rfl) ?_
        refine gX9_wasNodes S0 hw kw_1166 dX9_undo_34 hf (fun v3 hf => ?_)
        refine pX9_nodes S0 hw kw_1155 dX9_undo_37 hf (fun s4 H locs hw hf => ?_)
        refine lv_aload_n S0.1 S0.2.1 dX9_undo_40 rfl (lv_at hl 0 rfl) ?_
        refine lv_aload_n S0.1 S0.2.1 dX9_undo_41 rfl (lv_at hl 0 rfl) ?_
        refine gX9_wasSteps S0 hw kw_1167 dX9_undo_42 hf (fun v5 hf => ?_)
        refine pX9_steps S0 hw kw_1173 dX9_undo_45 hf (fun s6 H locs hw hf => ?_)
        exact hret dX9_undo_48 hw hf
      · replace hf := q_neg c2 hf
        refine lv_aload_n S0.1 S0.2.1 dX9_undo_14 rfl (lv_at hl 0 rfl) ?_
        refine gX9_counted S0 hw kw_1153 dX9_undo_15 ?_
        refine lv_iload_n S0.1 S0.2.1 dX9_undo_18 rfl (lv_at hl 1 rfl) ?_
        refine lv_aload_n S0.1 S0.2.1 dX9_undo_19 rfl (lv_at hl 0 rfl) ?_
        refine gX9_wasCount S0 hw kw_1164 dX9_undo_20 ?_
        refine lv_iload_n S0.1 S0.2.1 dX9_undo_23 rfl (lv_at hl 1 rfl) ?_
        refine q_iald S0 hw dM_116 (t0 := 0) rfl rfl dX9_undo_24 hf (fun v7 hf => ?_)
        refine q_iast S0 hw dM_105 (t0 := 0) (fun _ => rfl) rfl dX9_undo_25 hf (fun s8 H locs hw hf => ?_)
        refine q_iinc S0 (v0 := 1) dX9_undo_26 hl (k := 1) rfl (by decide) (by decide) rfl hf (fun v9 ls hl hf => ?_)
        refine lv_goto (tgt := 8) S0.1 S0.2.1 dX9_undo_29 (by decide) ?_
        exact hk8 v9 s8 hf _ _ _ hw (lv_sub hl [1, 0] rfl)
  refine lv_aload_n S0.1 S0.2.1 dX9_undo_0 rfl (lv_at hl 0 rfl) ?_
  refine lv_iconst (v := 4) S0.1 S0.2.1 dX9_undo_1 (by decide) ?_
  refine lv_iconst (v := 0) S0.1 S0.2.1 dX9_undo_2 (by decide) ?_
  refine q_callv S0 hw (As := [.int 4, .int 0]) (rest := []) (wX9_copy l D Y ad F 4 0 σ) qyX9_copy kw_1363 ⟨Nat.le_of_ble_eq_true rfl, Nat.le_of_ble_eq_true rfl⟩ dM_0 rfl rfl rfl rfl hl.1 (Nat.le_of_ble_eq_true rfl) dX9_undo_3 ⟨Nat.le_refl _, Nat.le_refl _⟩ rfl hf (fun s1 H locs hw hf => ?_)
  refine lv_iconst (v := 0) S0.1 S0.2.1 dX9_undo_6 (by decide) ?_
  refine lv_istore_n (lv' := [(1, .int 0), (0, .ref (ad 0 0))]) S0.1 S0.2.1 dX9_undo_7 rfl hl (by decide) rfl (fun ls hl => ?_)
  exact b8 F 0 s1 hf _ _ _ hw (lv_sub hl [1, 0] rfl)
theorem qyX9_isBelow : qY yX9_isBelow RX9 cX9_isBelow 4 (some .boolean) 2 := ⟨⟨kw_1405, kp_56, kw_11, kw_1406⟩, rfl, by decide, by decide, by decide +kernel⟩
def fX9_isBelow_31 (F : Nat) (t0 : Int32) (σ : qS) : Option (Int32 × qS) :=
  gbl t0 (some (t0, σ))
def fX9_isBelow_21 (F : Nat) (x2 : Int32) (x3 : Int32) (σ : qS) : Option (Int32 × qS) :=
  if x3 = x2 then (fX9_isBelow_31 F 1 σ) else (fX9_isBelow_31 F 0 σ)
def fX9_isBelow_2 (F : Nat) : Nat → Int32 → Int32 → qS → Option (Int32 × qS)
  | 0, _, _, _ => none
  | n + 1, x2, x3, σ =>
  if x3 ≤ 0 then (fX9_isBelow_21 F x2 x3 σ) else (if x3 = x2 then (fX9_isBelow_21 F x2 x3 σ) else (ldi 80 (σ.1 100 0) x3 fun v4 => (fX9_isBelow_2 F n x2 v4 σ)))
def fX9_isBelow (F : Nat) (p1 : Int32) (p2 : Int32) (σ : qS) : Option (Int32 × qS) :=
  fX9_isBelow_2 F F p2 p1 σ
set_option maxRecDepth 100000 in
set_option maxHeartbeats 4000000 in
theorem wX9_isBelow (l : Launch) (D : va_G) (Y : Nat → ClassId) (ad : qAd) (F : Nat) (p1 : Int32) (p2 : Int32) (σ : qS) : qCi l yX9_isBelow cX9_isBelow 4 (some .boolean) 0 0 D (mL Y) (qT Y) ad [.ref (ad 0 0), .int p1, .int p2] σ (fX9_isBelow F p1 p2 σ) := by
  refine q_ofz (by decide) (Nat.le_of_ble_eq_true rfl) "LeasehallModel" rfl (fun p e s m below meth c A Q r0 S0 hf hw hret ls hl => ?_)
  replace hl : lv_has ls 4 [(0, .ref (ad 0 0)), (1, .int p1), (2, .int p2)] := hl
  unfold fX9_isBelow at hf
  have b31 : ∀ (t0 : Int32) (σ : qS), fX9_isBelow_31 F t0 σ = some r0 → qAt p l e (qRm 0 0) s m ([.ref (ad 0 0), .int p1, .int p2] : List Value).toArray below meth c Q D (mL Y) (qT Y) A ad 4 0 0 31 [] [.int t0] σ := by
    clear hf hw hl ls
    intro t0 σ hf H locs ls hw hl
    unfold fX9_isBelow_31 at hf
    exact hret dX9_isBelow_31 hw hf
  have b21 : ∀ (x2 : Int32) (x3 : Int32) (σ : qS), fX9_isBelow_21 F x2 x3 σ = some r0 → qAt p l e (qRm 0 0) s m ([.ref (ad 0 0), .int p1, .int p2] : List Value).toArray below meth c Q D (mL Y) (qT Y) A ad 4 0 0 21 [(2, .int x2), (3, .int x3)] [] σ := by
    clear hf hw hl ls
    intro x2 x3 σ hf H locs ls hw hl
    unfold fX9_isBelow_21 at hf
    refine lv_iload_n S0.1 S0.2.1 dX9_isBelow_21 rfl (lv_at hl 1 rfl) ?_
    refine lv_iload_n S0.1 S0.2.1 dX9_isBelow_22 rfl (lv_at hl 0 rfl) ?_
    refine lv_icmp_ne (tgt := 30) S0.1 S0.2.1 dX9_isBelow_23 (by decide) (fun c2 => ?_) (fun c2 => ?_)
    · replace hf := q_neg c2 hf
      refine lv_iconst (v := 0) S0.1 S0.2.1 dX9_isBelow_30 (by decide) ?_
      exact b31 0 σ hf _ _ _ hw (lv_sub hl [] rfl)
    · replace hf := q_pos c2 hf
      refine lv_iconst (v := 1) S0.1 S0.2.1 dX9_isBelow_26 (by decide) ?_
      refine lv_goto (tgt := 31) S0.1 S0.2.1 dX9_isBelow_27 (by decide) ?_
      exact b31 1 σ hf _ _ _ hw (lv_sub hl [] rfl)
  have b2 : ∀ (n : Nat) (x2 : Int32) (x3 : Int32) (σ : qS), fX9_isBelow_2 F n x2 x3 σ = some r0 → qAt p l e (qRm 0 0) s m ([.ref (ad 0 0), .int p1, .int p2] : List Value).toArray below meth c Q D (mL Y) (qT Y) A ad 4 0 0 2 [(0, .ref (ad 0 0)), (2, .int x2), (3, .int x3)] [] σ := by
    clear hf hw hl ls
    intro n
    induction n with
    | zero => intro x2 x3 σ hf; exact absurd hf (by rw [fX9_isBelow_2]; exact nofun)
    | succ n hk2 =>
      intro x2 x3 σ hf H locs ls hw hl
      rw [fX9_isBelow_2] at hf
      refine lv_iload_n S0.1 S0.2.1 dX9_isBelow_2 rfl (lv_at hl 2 rfl) ?_
      refine lv_if_le (tgt := 21) S0.1 S0.2.1 dX9_isBelow_3 (by decide) (fun c1 => ?_) (fun c1 => ?_)
      · replace hf := q_pos c1 hf
        exact b21 x2 x3 σ hf _ _ _ hw (lv_sub hl [1, 2] rfl)
      · replace hf := q_neg c1 hf
        refine lv_iload_n S0.1 S0.2.1 dX9_isBelow_6 rfl (lv_at hl 2 rfl) ?_
        refine lv_iload_n S0.1 S0.2.1 dX9_isBelow_7 rfl (lv_at hl 1 rfl) ?_
        refine lv_icmp_eq (tgt := 21) S0.1 S0.2.1 dX9_isBelow_8 (by decide) (fun c3 => ?_) (fun c3 => ?_)
        · replace hf := q_pos c3 hf
          exact b21 x2 x3 σ hf _ _ _ hw (lv_sub hl [1, 2] rfl)
        · replace hf := q_neg c3 hf
          refine lv_aload_n S0.1 S0.2.1 dX9_isBelow_11 rfl (lv_at hl 0 rfl) ?_
          refine gX9_parent S0 hw kw_1148 dX9_isBelow_12 ?_
          refine lv_iload_n S0.1 S0.2.1 dX9_isBelow_15 rfl (lv_at hl 2 rfl) ?_
          refine q_iald S0 hw dM_100 (t0 := 0) rfl rfl dX9_isBelow_16 hf (fun v4 hf => ?_)
          refine lv_istore_n (lv' := [(3, .int v4), (0, .ref (ad 0 0)), (2, .int x2)]) S0.1 S0.2.1 dX9_isBelow_17 rfl hl (by decide) rfl (fun ls hl => ?_)
          refine lv_goto (tgt := 2) S0.1 S0.2.1 dX9_isBelow_18 (by decide) ?_
          exact hk2 x2 v4 σ hf _ _ _ hw (lv_sub hl [1, 2, 0] rfl)
  refine lv_iload_n S0.1 S0.2.1 dX9_isBelow_0 rfl (lv_at hl 1 rfl) ?_
  refine lv_istore_n (lv' := [(3, .int p1), (0, .ref (ad 0 0)), (1, .int p1), (2, .int p2)]) S0.1 S0.2.1 dX9_isBelow_1 rfl hl (by decide) rfl (fun ls hl => ?_)
  exact b2 F p2 p1 σ hf _ _ _ hw (lv_sub hl [1, 3, 0] rfl)
theorem qyX9_tell : qY yX9_tell RX9 cX9_tell 3 none 2 := ⟨⟨kw_1409, kp_57, kw_11, kw_1410⟩, rfl, by decide, by decide, by decide +kernel⟩
def fX9_tell (F : Nat) (p1 : Int32) (p2 : Int32) (σ : qS) : Option qS :=
  nm (8000 * p1) fun v1 => (ldi 10 (σ.1 146 0) p1 fun v2 => (nm (v1 + v2) fun v3 => (inx 80000 v3 (nm (qI σ 144 0 v3.toNatClampNeg p2) fun s4 => (ldi 10 (s4.1 146 0) p1 fun v5 => (nm (v5 + 1) fun v6 => (inx 10 p1 (nm (qI s4 146 0 p1.toNatClampNeg v6) fun s7 => (some s7)))))))))
set_option maxRecDepth 100000 in
set_option maxHeartbeats 4000000 in
theorem wX9_tell (l : Launch) (D : va_G) (Y : Nat → ClassId) (ad : qAd) (F : Nat) (p1 : Int32) (p2 : Int32) (σ : qS) : qCv l yX9_tell cX9_tell 3 none 0 0 D (mL Y) (qT Y) ad [.ref (ad 0 0), .int p1, .int p2] σ (fX9_tell F p1 p2 σ) := by
  refine q_ofv (by decide) (Nat.le_of_ble_eq_true rfl) "LeasehallModel" rfl (fun p e s m below meth c A Q r0 S0 hf hw hret ls hl => ?_)
  replace hl : lv_has ls 3 [(0, .ref (ad 0 0)), (1, .int p1), (2, .int p2)] := hl
  unfold fX9_tell at hf
  refine lv_aload_n S0.1 S0.2.1 dX9_tell_0 rfl (lv_at hl 0 rfl) ?_
  refine gX9_told S0 hw kw_1192 dX9_tell_1 ?_
  refine lv_sipush (v := 8000) S0.1 S0.2.1 dX9_tell_4 (by decide) ?_
  refine lv_iload_n S0.1 S0.2.1 dX9_tell_7 rfl (lv_at hl 1 rfl) ?_
  refine lv_imul S0.1 S0.2.1 dX9_tell_8 (q_top hf (fun v1 hf => ?_))
  refine lv_aload_n S0.1 S0.2.1 dX9_tell_9 rfl (lv_at hl 0 rfl) ?_
  refine gX9_tells S0 hw kw_1194 dX9_tell_10 ?_
  refine lv_iload_n S0.1 S0.2.1 dX9_tell_13 rfl (lv_at hl 1 rfl) ?_
  refine q_iald S0 hw dM_146 (t0 := 0) rfl rfl dX9_tell_14 hf (fun v2 hf => ?_)
  refine lv_iadd S0.1 S0.2.1 dX9_tell_15 (q_top hf (fun v3 hf => ?_))
  refine lv_iload_n S0.1 S0.2.1 dX9_tell_16 rfl (lv_at hl 2 rfl) ?_
  refine q_iast S0 hw dM_144 (t0 := 0) (fun _ => rfl) rfl dX9_tell_17 hf (fun s4 H locs hw hf => ?_)
  refine lv_aload_n S0.1 S0.2.1 dX9_tell_18 rfl (lv_at hl 0 rfl) ?_
  refine gX9_tells S0 hw kw_1194 dX9_tell_19 ?_
  refine lv_iload_n S0.1 S0.2.1 dX9_tell_22 rfl (lv_at hl 1 rfl) ?_
  refine lv_dup2_11 S0.1 S0.2.1 dX9_tell_23 rfl rfl ?_
  refine q_iald S0 hw dM_146 (t0 := 0) rfl rfl dX9_tell_24 hf (fun v5 hf => ?_)
  refine lv_iconst (v := 1) S0.1 S0.2.1 dX9_tell_25 (by decide) ?_
  refine lv_iadd S0.1 S0.2.1 dX9_tell_26 (q_top hf (fun v6 hf => ?_))
  refine q_iast S0 hw dM_146 (t0 := 0) (fun _ => rfl) rfl dX9_tell_27 hf (fun s7 H locs hw hf => ?_)
  exact hret dX9_tell_28 hw hf
theorem qyX9_watched : qY yX9_watched RX9 cX9_watched 10 none 2 := ⟨⟨kw_1401, kp_55, kw_11, kw_1402⟩, rfl, by decide, by decide, by decide +kernel⟩
def fX9_watched_247 (F : Nat) (k29 : Int32 → Int32 → Int32 → Int32 → Int32 → Int32 → qS → Option qS) (x1 : Int32) (x3 : Int32) (x4 : Int32) (x5 : Int32) (x6 : Int32) (x7 : Int32) (σ : qS) : Option qS :=
  nm (x7 + 1) fun v27 => (k29 x1 x3 x4 x5 x6 v27 σ)
def fX9_watched_206 (F : Nat) (k29 : Int32 → Int32 → Int32 → Int32 → Int32 → Int32 → qS → Option qS) (x1 : Int32) (x3 : Int32) (x4 : Int32) (x5 : Int32) (x6 : Int32) (x7 : Int32) (x8 : Int32) (σ : qS) : Option qS :=
  nm (8 * x1) fun v18 => (nm (v18 + x5) fun v19 => (ldi 80 (σ.1 141 0) x8 fun v20 => (inx 80 v19 (nm (qI σ 141 0 v19.toNatClampNeg v20) fun s21 => (nm (8 * x1) fun v22 => (nm (v22 + x5) fun v23 => (ldi 80 (s21.1 142 0) x8 fun v24 => (inx 80 v23 (nm (qI s21 142 0 v23.toNatClampNeg v24) fun s25 => (nm (x5 + 1) fun v26 => (fX9_watched_247 F k29 x1 x3 x4 v26 x6 x7 s25)))))))))))
def fX9_watched_190 (F : Nat) (k29 : Int32 → Int32 → Int32 → Int32 → Int32 → Int32 → qS → Option qS) (x1 : Int32) (x3 : Int32) (x4 : Int32) (x5 : Int32) (x6 : Int32) (x7 : Int32) (x8 : Int32) (x9 : Int32) (σ : qS) : Option qS :=
  if x9 = 0 then (fX9_watched_206 F k29 x1 x3 x4 x5 x6 x7 x8 σ) else (ldi 80 (σ.1 142 0) x8 fun v28 => (if v28 = 2 then (fX9_watched_206 F k29 x1 x3 x4 x5 x6 x7 x8 σ) else (fX9_watched_247 F k29 x1 x3 x4 x5 x6 x7 σ)))
def fX9_watched_171 (F : Nat) (k29 : Int32 → Int32 → Int32 → Int32 → Int32 → Int32 → qS → Option qS) (x1 : Int32) (x3 : Int32) (x4 : Int32) (x5 : Int32) (x6 : Int32) (x7 : Int32) (x8 : Int32) (t0 : Int32) (σ : qS) : Option qS :=
  if t0 = 0 then (fX9_watched_190 F k29 x1 x3 x4 x5 x6 x7 x8 t0 σ) else (nm (10 * x3) fun v30 => (nm (v30 + x4) fun v31 => (bnd (fX9_tell F x1 v31 σ) fun s32 => (fX9_watched_190 F k29 x1 x3 x4 x5 x6 x7 x8 t0 s32))))
def fX9_watched_170 (F : Nat) (k29 : Int32 → Int32 → Int32 → Int32 → Int32 → Int32 → qS → Option qS) (x1 : Int32) (x3 : Int32) (x4 : Int32) (x5 : Int32) (x6 : Int32) (x7 : Int32) (x8 : Int32) (σ : qS) : Option qS :=
  fX9_watched_171 F k29 x1 x3 x4 x5 x6 x7 x8 0 σ
def fX9_watched_153 (F : Nat) (k29 : Int32 → Int32 → Int32 → Int32 → Int32 → Int32 → qS → Option qS) (x1 : Int32) (x3 : Int32) (x4 : Int32) (x5 : Int32) (x6 : Int32) (x7 : Int32) (x8 : Int32) (t0 : Int32) (σ : qS) : Option qS :=
  if t0 = 0 then (fX9_watched_170 F k29 x1 x3 x4 x5 x6 x7 x8 σ) else (if 3 ≤ x4 then (fX9_watched_170 F k29 x1 x3 x4 x5 x6 x7 x8 σ) else (fX9_watched_171 F k29 x1 x3 x4 x5 x6 x7 x8 1 σ))
def fX9_watched_137 (F : Nat) (k29 : Int32 → Int32 → Int32 → Int32 → Int32 → Int32 → qS → Option qS) (x1 : Int32) (x3 : Int32) (x4 : Int32) (x5 : Int32) (x6 : Int32) (x7 : Int32) (x8 : Int32) (σ : qS) : Option qS :=
  fX9_watched_153 F k29 x1 x3 x4 x5 x6 x7 x8 0 σ
def fX9_watched_133 (F : Nat) (k29 : Int32 → Int32 → Int32 → Int32 → Int32 → Int32 → qS → Option qS) (x1 : Int32) (x3 : Int32) (x4 : Int32) (x5 : Int32) (x6 : Int32) (x7 : Int32) (x8 : Int32) (σ : qS) : Option qS :=
  fX9_watched_153 F k29 x1 x3 x4 x5 x6 x7 x8 1 σ
def fX9_watched_107 (F : Nat) (k29 : Int32 → Int32 → Int32 → Int32 → Int32 → Int32 → qS → Option qS) (x1 : Int32) (x3 : Int32) (x4 : Int32) (x5 : Int32) (x6 : Int32) (x7 : Int32) (x8 : Int32) (σ : qS) : Option qS :=
  if x4 = 1 then (fX9_watched_137 F k29 x1 x3 x4 x5 x6 x7 x8 σ) else (if x3 ≤ 0 then (fX9_watched_137 F k29 x1 x3 x4 x5 x6 x7 x8 σ) else (ldi 80 (σ.1 141 0) x8 fun v37 => (ldi 80 (σ.1 100 0) x3 fun v38 => (if v37 = v38 then (fX9_watched_133 F k29 x1 x3 x4 x5 x6 x7 x8 σ) else (fX9_watched_137 F k29 x1 x3 x4 x5 x6 x7 x8 σ)))))
def fX9_watched_75 (F : Nat) (k29 : Int32 → Int32 → Int32 → Int32 → Int32 → Int32 → qS → Option qS) (x1 : Int32) (x3 : Int32) (x4 : Int32) (x5 : Int32) (x6 : Int32) (x7 : Int32) (x8 : Int32) (σ : qS) : Option qS :=
  fX9_watched_153 F k29 x1 x3 x4 x5 x6 x7 x8 0 σ
def fX9_watched_29 (F : Nat) : Nat → Int32 → Int32 → Int32 → Int32 → Int32 → Int32 → qS → Option qS
  | 0, _, _, _, _, _, _, _ => none
  | n + 1, x1, x3, x4, x5, x6, x7, σ =>
  if x6 ≤ x7 then (inx 10 x1 (nm (qI σ 143 0 x1.toNatClampNeg x5) fun s5 => (some s5))) else (nm (8 * x1) fun v6 => (nm (v6 + x7) fun v7 => (ldi 80 (σ.1 142 0) v7 fun v8 => (if v8 = 0 then (ldi 80 (σ.1 141 0) v7 fun v42 => (if v42 = x3 then (if x4 ≤ 0 then (fX9_watched_75 F (fX9_watched_29 F n) x1 x3 x4 x5 x6 x7 v7 σ) else (fX9_watched_153 F (fX9_watched_29 F n) x1 x3 x4 x5 x6 x7 v7 1 σ)) else (fX9_watched_75 F (fX9_watched_29 F n) x1 x3 x4 x5 x6 x7 v7 σ))) else (ldi 80 (σ.1 142 0) v7 fun v10 => (if v10 = 1 then (if x4 = 2 then (ldi 80 (σ.1 141 0) v7 fun v40 => (if v40 = x3 then (fX9_watched_133 F (fX9_watched_29 F n) x1 x3 x4 x5 x6 x7 v7 σ) else (fX9_watched_107 F (fX9_watched_29 F n) x1 x3 x4 x5 x6 x7 v7 σ))) else (fX9_watched_107 F (fX9_watched_29 F n) x1 x3 x4 x5 x6 x7 v7 σ)) else (ldi 80 (σ.1 141 0) v7 fun v12 => (bnd2 (fX9_isBelow F x3 v12 σ) fun v14 s13 => (fX9_watched_153 F (fX9_watched_29 F n) x1 x3 x4 x5 x6 x7 v7 v14 s13)))))))))
def fX9_watched (F : Nat) (p1 : Int32) (p2 : Int32) (σ : qS) : Option qS :=
  ldi 90000 (σ.1 122 0) p2 fun v1 => (ldi 90000 (σ.1 121 0) p2 fun v2 => (ldi 10 (σ.1 143 0) p1 fun v3 => (fX9_watched_29 F F p1 v1 v2 0 v3 0 σ)))
set_option maxRecDepth 100000 in
set_option maxHeartbeats 4000000 in
theorem wX9_watched (l : Launch) (D : va_G) (Y : Nat → ClassId) (ad : qAd) (F : Nat) (p1 : Int32) (p2 : Int32) (σ : qS) : qCv l yX9_watched cX9_watched 10 none 1 23 D (mL Y) (qT Y) ad [.ref (ad 0 0), .int p1, .int p2] σ (fX9_watched F p1 p2 σ) := by
  refine q_ofv (by decide) (Nat.le_of_ble_eq_true rfl) "LeasehallModel" rfl (fun p e s m below meth c A Q r0 S0 hf hw hret ls hl => ?_)
  replace hl : lv_has ls 10 [(0, .ref (ad 0 0)), (1, .int p1), (2, .int p2)] := hl
  unfold fX9_watched at hf
  have b247 : ∀ (k29 : Int32 → Int32 → Int32 → Int32 → Int32 → Int32 → qS → Option qS) (hk29 : ∀ (x1 : Int32) (x3 : Int32) (x4 : Int32) (x5 : Int32) (x6 : Int32) (x7 : Int32) (σ : qS), k29 x1 x3 x4 x5 x6 x7 σ = some r0 → qAt p l e (qRm 1 23) s m ([.ref (ad 0 0), .int p1, .int p2] : List Value).toArray below meth c Q D (mL Y) (qT Y) A ad 10 0 0 29 [(0, .ref (ad 0 0)), (1, .int x1), (3, .int x3), (4, .int x4), (5, .int x5), (6, .int x6), (7, .int x7)] [] σ) (x1 : Int32) (x3 : Int32) (x4 : Int32) (x5 : Int32) (x6 : Int32) (x7 : Int32) (σ : qS), fX9_watched_247 F k29 x1 x3 x4 x5 x6 x7 σ = some r0 → qAt p l e (qRm 1 23) s m ([.ref (ad 0 0), .int p1, .int p2] : List Value).toArray below meth c Q D (mL Y) (qT Y) A ad 10 0 0 247 [(0, .ref (ad 0 0)), (1, .int x1), (3, .int x3), (4, .int x4), (5, .int x5), (6, .int x6), (7, .int x7)] [] σ := by
    clear hf hw hl ls
    intro k29 hk29
    intro x1 x3 x4 x5 x6 x7 σ hf H locs ls hw hl
    unfold fX9_watched_247 at hf
    refine q_iinc S0 (v0 := 1) dX9_watched_247 hl (k := 6) rfl (by decide) (by decide) rfl hf (fun v27 ls hl hf => ?_)
    refine lv_goto (tgt := 29) S0.1 S0.2.1 dX9_watched_250 (by decide) ?_
    exact hk29 x1 x3 x4 x5 x6 v27 σ hf _ _ _ hw (lv_sub hl [1, 2, 3, 4, 5, 6, 0] rfl)
  have b206 : ∀ (k29 : Int32 → Int32 → Int32 → Int32 → Int32 → Int32 → qS → Option qS) (hk29 : ∀ (x1 : Int32) (x3 : Int32) (x4 : Int32) (x5 : Int32) (x6 : Int32) (x7 : Int32) (σ : qS), k29 x1 x3 x4 x5 x6 x7 σ = some r0 → qAt p l e (qRm 1 23) s m ([.ref (ad 0 0), .int p1, .int p2] : List Value).toArray below meth c Q D (mL Y) (qT Y) A ad 10 0 0 29 [(0, .ref (ad 0 0)), (1, .int x1), (3, .int x3), (4, .int x4), (5, .int x5), (6, .int x6), (7, .int x7)] [] σ) (x1 : Int32) (x3 : Int32) (x4 : Int32) (x5 : Int32) (x6 : Int32) (x7 : Int32) (x8 : Int32) (σ : qS), fX9_watched_206 F k29 x1 x3 x4 x5 x6 x7 x8 σ = some r0 → qAt p l e (qRm 1 23) s m ([.ref (ad 0 0), .int p1, .int p2] : List Value).toArray below meth c Q D (mL Y) (qT Y) A ad 10 0 0 206 [(0, .ref (ad 0 0)), (1, .int x1), (3, .int x3), (4, .int x4), (5, .int x5), (6, .int x6), (7, .int x7), (8, .int x8)] [] σ := by
    clear hf hw hl ls
    intro k29 hk29
    intro x1 x3 x4 x5 x6 x7 x8 σ hf H locs ls hw hl
    unfold fX9_watched_206 at hf
    refine lv_aload_n S0.1 S0.2.1 dX9_watched_206 rfl (lv_at hl 0 rfl) ?_
    refine gX9_wn S0 hw kw_1189 dX9_watched_207 ?_
    refine lv_bipush (v := 8) S0.1 S0.2.1 dX9_watched_210 (by decide) ?_
    refine lv_iload_n S0.1 S0.2.1 dX9_watched_212 rfl (lv_at hl 1 rfl) ?_
    refine lv_imul S0.1 S0.2.1 dX9_watched_213 (q_top hf (fun v18 hf => ?_))
    refine lv_iload S0.1 S0.2.1 dX9_watched_214 (lv_at hl 4 rfl) ?_
    refine lv_iadd S0.1 S0.2.1 dX9_watched_216 (q_top hf (fun v19 hf => ?_))
    refine lv_aload_n S0.1 S0.2.1 dX9_watched_217 rfl (lv_at hl 0 rfl) ?_
    refine gX9_wn S0 hw kw_1189 dX9_watched_218 ?_
    refine lv_iload S0.1 S0.2.1 dX9_watched_221 (lv_at hl 7 rfl) ?_
    refine q_iald S0 hw dM_141 (t0 := 0) rfl rfl dX9_watched_223 hf (fun v20 hf => ?_)
    refine q_iast S0 hw dM_141 (t0 := 0) (fun _ => rfl) rfl dX9_watched_224 hf (fun s21 H locs hw hf => ?_)
    refine lv_aload_n S0.1 S0.2.1 dX9_watched_225 rfl (lv_at hl 0 rfl) ?_
    refine gX9_wk S0 hw kw_1190 dX9_watched_226 ?_
    refine lv_bipush (v := 8) S0.1 S0.2.1 dX9_watched_229 (by decide) ?_
    refine lv_iload_n S0.1 S0.2.1 dX9_watched_231 rfl (lv_at hl 1 rfl) ?_
    refine lv_imul S0.1 S0.2.1 dX9_watched_232 (q_top hf (fun v22 hf => ?_))
    refine lv_iload S0.1 S0.2.1 dX9_watched_233 (lv_at hl 4 rfl) ?_
    refine lv_iadd S0.1 S0.2.1 dX9_watched_235 (q_top hf (fun v23 hf => ?_))
    refine lv_aload_n S0.1 S0.2.1 dX9_watched_236 rfl (lv_at hl 0 rfl) ?_
    refine gX9_wk S0 hw kw_1190 dX9_watched_237 ?_
    refine lv_iload S0.1 S0.2.1 dX9_watched_240 (lv_at hl 7 rfl) ?_
    refine q_iald S0 hw dM_142 (t0 := 0) rfl rfl dX9_watched_242 hf (fun v24 hf => ?_)
    refine q_iast S0 hw dM_142 (t0 := 0) (fun _ => rfl) rfl dX9_watched_243 hf (fun s25 H locs hw hf => ?_)
    refine q_iinc S0 (v0 := 1) dX9_watched_244 hl (k := 4) rfl (by decide) (by decide) rfl hf (fun v26 ls hl hf => ?_)
    exact b247 k29 hk29 x1 x3 x4 v26 x6 x7 s25 hf _ _ _ hw (lv_sub hl [1, 2, 3, 4, 0, 5, 6] rfl)
  have b190 : ∀ (k29 : Int32 → Int32 → Int32 → Int32 → Int32 → Int32 → qS → Option qS) (hk29 : ∀ (x1 : Int32) (x3 : Int32) (x4 : Int32) (x5 : Int32) (x6 : Int32) (x7 : Int32) (σ : qS), k29 x1 x3 x4 x5 x6 x7 σ = some r0 → qAt p l e (qRm 1 23) s m ([.ref (ad 0 0), .int p1, .int p2] : List Value).toArray below meth c Q D (mL Y) (qT Y) A ad 10 0 0 29 [(0, .ref (ad 0 0)), (1, .int x1), (3, .int x3), (4, .int x4), (5, .int x5), (6, .int x6), (7, .int x7)] [] σ) (x1 : Int32) (x3 : Int32) (x4 : Int32) (x5 : Int32) (x6 : Int32) (x7 : Int32) (x8 : Int32) (x9 : Int32) (σ : qS), fX9_watched_190 F k29 x1 x3 x4 x5 x6 x7 x8 x9 σ = some r0 → qAt p l e (qRm 1 23) s m ([.ref (ad 0 0), .int p1, .int p2] : List Value).toArray below meth c Q D (mL Y) (qT Y) A ad 10 0 0 190 [(0, .ref (ad 0 0)), (1, .int x1), (3, .int x3), (4, .int x4), (5, .int x5), (6, .int x6), (7, .int x7), (8, .int x8), (9, .int x9)] [] σ := by
    clear hf hw hl ls
    intro k29 hk29
    intro x1 x3 x4 x5 x6 x7 x8 x9 σ hf H locs ls hw hl
    unfold fX9_watched_190 at hf
    refine lv_iload S0.1 S0.2.1 dX9_watched_190 (lv_at hl 8 rfl) ?_
    refine lv_if_eq (tgt := 206) S0.1 S0.2.1 dX9_watched_192 (by decide) (fun c17 => ?_) (fun c17 => ?_)
    · replace hf := q_pos c17 hf
      exact b206 k29 hk29 x1 x3 x4 x5 x6 x7 x8 σ hf _ _ _ hw (lv_sub hl [0, 1, 2, 3, 4, 5, 6, 7] rfl)
    · replace hf := q_neg c17 hf
      refine lv_aload_n S0.1 S0.2.1 dX9_watched_195 rfl (lv_at hl 0 rfl) ?_
      refine gX9_wk S0 hw kw_1190 dX9_watched_196 ?_
      refine lv_iload S0.1 S0.2.1 dX9_watched_199 (lv_at hl 7 rfl) ?_
      refine q_iald S0 hw dM_142 (t0 := 0) rfl rfl dX9_watched_201 hf (fun v28 hf => ?_)
      refine lv_iconst (v := 2) S0.1 S0.2.1 dX9_watched_202 (by decide) ?_
      refine lv_icmp_ne (tgt := 247) S0.1 S0.2.1 dX9_watched_203 (by decide) (fun c29 => ?_) (fun c29 => ?_)
      · replace hf := q_neg c29 hf
        exact b247 k29 hk29 x1 x3 x4 x5 x6 x7 σ hf _ _ _ hw (lv_sub hl [0, 1, 2, 3, 4, 5, 6] rfl)
      · replace hf := q_pos c29 hf
        exact b206 k29 hk29 x1 x3 x4 x5 x6 x7 x8 σ hf _ _ _ hw (lv_sub hl [0, 1, 2, 3, 4, 5, 6, 7] rfl)
  have b171 : ∀ (k29 : Int32 → Int32 → Int32 → Int32 → Int32 → Int32 → qS → Option qS) (hk29 : ∀ (x1 : Int32) (x3 : Int32) (x4 : Int32) (x5 : Int32) (x6 : Int32) (x7 : Int32) (σ : qS), k29 x1 x3 x4 x5 x6 x7 σ = some r0 → qAt p l e (qRm 1 23) s m ([.ref (ad 0 0), .int p1, .int p2] : List Value).toArray below meth c Q D (mL Y) (qT Y) A ad 10 0 0 29 [(0, .ref (ad 0 0)), (1, .int x1), (3, .int x3), (4, .int x4), (5, .int x5), (6, .int x6), (7, .int x7)] [] σ) (x1 : Int32) (x3 : Int32) (x4 : Int32) (x5 : Int32) (x6 : Int32) (x7 : Int32) (x8 : Int32) (t0 : Int32) (σ : qS), fX9_watched_171 F k29 x1 x3 x4 x5 x6 x7 x8 t0 σ = some r0 → qAt p l e (qRm 1 23) s m ([.ref (ad 0 0), .int p1, .int p2] : List Value).toArray below meth c Q D (mL Y) (qT Y) A ad 10 0 0 171 [(0, .ref (ad 0 0)), (1, .int x1), (3, .int x3), (4, .int x4), (5, .int x5), (6, .int x6), (7, .int x7), (8, .int x8)] [.int t0] σ := by
    clear hf hw hl ls
    intro k29 hk29
    intro x1 x3 x4 x5 x6 x7 x8 t0 σ hf H locs ls hw hl
    unfold fX9_watched_171 at hf
    refine lv_istore (lv' := [(9, .int t0), (0, .ref (ad 0 0)), (1, .int x1), (3, .int x3), (4, .int x4), (5, .int x5), (6, .int x6), (7, .int x7), (8, .int x8)]) S0.1 S0.2.1 dX9_watched_171 hl (by decide) rfl (fun ls hl => ?_)
    refine lv_iload S0.1 S0.2.1 dX9_watched_173 (lv_at hl 0 rfl) ?_
    refine lv_if_eq (tgt := 190) S0.1 S0.2.1 dX9_watched_175 (by decide) (fun c16 => ?_) (fun c16 => ?_)
    · replace hf := q_pos c16 hf
      exact b190 k29 hk29 x1 x3 x4 x5 x6 x7 x8 t0 σ hf _ _ _ hw (lv_sub hl [1, 2, 3, 4, 5, 6, 7, 8, 0] rfl)
    · replace hf := q_neg c16 hf
      refine lv_aload_n S0.1 S0.2.1 dX9_watched_178 rfl (lv_at hl 1 rfl) ?_
      refine lv_iload_n S0.1 S0.2.1 dX9_watched_179 rfl (lv_at hl 2 rfl) ?_
      refine lv_bipush (v := 10) S0.1 S0.2.1 dX9_watched_180 (by decide) ?_
      refine lv_iload_n S0.1 S0.2.1 dX9_watched_182 rfl (lv_at hl 3 rfl) ?_
      refine lv_imul S0.1 S0.2.1 dX9_watched_183 (q_top hf (fun v30 hf => ?_))
      refine lv_iload S0.1 S0.2.1 dX9_watched_184 (lv_at hl 4 rfl) ?_
      refine lv_iadd S0.1 S0.2.1 dX9_watched_186 (q_top hf (fun v31 hf => ?_))
      refine q_callv S0 hw (As := [.int x1, .int v31]) (rest := []) (wX9_tell l D Y ad F x1 v31 σ) qyX9_tell kw_1407 ⟨Nat.le_of_ble_eq_true rfl, Nat.le_of_ble_eq_true rfl⟩ dM_0 rfl rfl rfl rfl hl.1 (Nat.le_of_ble_eq_true rfl) dX9_watched_187 ⟨Nat.le_refl _, Nat.le_refl _⟩ rfl hf (fun s32 H locs hw hf => ?_)
      exact b190 k29 hk29 x1 x3 x4 x5 x6 x7 x8 t0 s32 hf _ _ _ hw (lv_sub hl [1, 2, 3, 4, 5, 6, 7, 8, 0] rfl)
  have b170 : ∀ (k29 : Int32 → Int32 → Int32 → Int32 → Int32 → Int32 → qS → Option qS) (hk29 : ∀ (x1 : Int32) (x3 : Int32) (x4 : Int32) (x5 : Int32) (x6 : Int32) (x7 : Int32) (σ : qS), k29 x1 x3 x4 x5 x6 x7 σ = some r0 → qAt p l e (qRm 1 23) s m ([.ref (ad 0 0), .int p1, .int p2] : List Value).toArray below meth c Q D (mL Y) (qT Y) A ad 10 0 0 29 [(0, .ref (ad 0 0)), (1, .int x1), (3, .int x3), (4, .int x4), (5, .int x5), (6, .int x6), (7, .int x7)] [] σ) (x1 : Int32) (x3 : Int32) (x4 : Int32) (x5 : Int32) (x6 : Int32) (x7 : Int32) (x8 : Int32) (σ : qS), fX9_watched_170 F k29 x1 x3 x4 x5 x6 x7 x8 σ = some r0 → qAt p l e (qRm 1 23) s m ([.ref (ad 0 0), .int p1, .int p2] : List Value).toArray below meth c Q D (mL Y) (qT Y) A ad 10 0 0 170 [(0, .ref (ad 0 0)), (1, .int x1), (3, .int x3), (4, .int x4), (5, .int x5), (6, .int x6), (7, .int x7), (8, .int x8)] [] σ := by
    clear hf hw hl ls
    intro k29 hk29
    intro x1 x3 x4 x5 x6 x7 x8 σ hf H locs ls hw hl
    unfold fX9_watched_170 at hf
    refine lv_iconst (v := 0) S0.1 S0.2.1 dX9_watched_170 (by decide) ?_
    exact b171 k29 hk29 x1 x3 x4 x5 x6 x7 x8 0 σ hf _ _ _ hw (lv_sub hl [0, 1, 2, 3, 4, 5, 6, 7] rfl)
  have b153 : ∀ (k29 : Int32 → Int32 → Int32 → Int32 → Int32 → Int32 → qS → Option qS) (hk29 : ∀ (x1 : Int32) (x3 : Int32) (x4 : Int32) (x5 : Int32) (x6 : Int32) (x7 : Int32) (σ : qS), k29 x1 x3 x4 x5 x6 x7 σ = some r0 → qAt p l e (qRm 1 23) s m ([.ref (ad 0 0), .int p1, .int p2] : List Value).toArray below meth c Q D (mL Y) (qT Y) A ad 10 0 0 29 [(0, .ref (ad 0 0)), (1, .int x1), (3, .int x3), (4, .int x4), (5, .int x5), (6, .int x6), (7, .int x7)] [] σ) (x1 : Int32) (x3 : Int32) (x4 : Int32) (x5 : Int32) (x6 : Int32) (x7 : Int32) (x8 : Int32) (t0 : Int32) (σ : qS), fX9_watched_153 F k29 x1 x3 x4 x5 x6 x7 x8 t0 σ = some r0 → qAt p l e (qRm 1 23) s m ([.ref (ad 0 0), .int p1, .int p2] : List Value).toArray below meth c Q D (mL Y) (qT Y) A ad 10 0 0 153 [(0, .ref (ad 0 0)), (1, .int x1), (3, .int x3), (4, .int x4), (5, .int x5), (6, .int x6), (7, .int x7), (8, .int x8)] [.int t0] σ := by
    clear hf hw hl ls
    intro k29 hk29
    intro x1 x3 x4 x5 x6 x7 x8 t0 σ hf H locs ls hw hl
    unfold fX9_watched_153 at hf
    refine lv_istore (lv' := [(9, .int t0), (0, .ref (ad 0 0)), (1, .int x1), (3, .int x3), (4, .int x4), (5, .int x5), (6, .int x6), (7, .int x7), (8, .int x8)]) S0.1 S0.2.1 dX9_watched_153 hl (by decide) rfl (fun ls hl => ?_)
    refine lv_iload S0.1 S0.2.1 dX9_watched_155 (lv_at hl 0 rfl) ?_
    refine lv_if_eq (tgt := 170) S0.1 S0.2.1 dX9_watched_157 (by decide) (fun c15 => ?_) (fun c15 => ?_)
    · replace hf := q_pos c15 hf
      exact b170 k29 hk29 x1 x3 x4 x5 x6 x7 x8 σ hf _ _ _ hw (lv_sub hl [1, 2, 3, 4, 5, 6, 7, 8] rfl)
    · replace hf := q_neg c15 hf
      refine lv_iload S0.1 S0.2.1 dX9_watched_160 (lv_at hl 4 rfl) ?_
      refine lv_iconst (v := 3) S0.1 S0.2.1 dX9_watched_162 (by decide) ?_
      refine lv_icmp_ge (tgt := 170) S0.1 S0.2.1 dX9_watched_163 (by decide) (fun c33 => ?_) (fun c33 => ?_)
      · replace hf := q_pos c33 hf
        exact b170 k29 hk29 x1 x3 x4 x5 x6 x7 x8 σ hf _ _ _ hw (lv_sub hl [1, 2, 3, 4, 5, 6, 7, 8] rfl)
      · replace hf := q_neg c33 hf
        refine lv_iconst (v := 1) S0.1 S0.2.1 dX9_watched_166 (by decide) ?_
        refine lv_goto (tgt := 171) S0.1 S0.2.1 dX9_watched_167 (by decide) ?_
        exact b171 k29 hk29 x1 x3 x4 x5 x6 x7 x8 1 σ hf _ _ _ hw (lv_sub hl [1, 2, 3, 4, 5, 6, 7, 8] rfl)
  have b137 : ∀ (k29 : Int32 → Int32 → Int32 → Int32 → Int32 → Int32 → qS → Option qS) (hk29 : ∀ (x1 : Int32) (x3 : Int32) (x4 : Int32) (x5 : Int32) (x6 : Int32) (x7 : Int32) (σ : qS), k29 x1 x3 x4 x5 x6 x7 σ = some r0 → qAt p l e (qRm 1 23) s m ([.ref (ad 0 0), .int p1, .int p2] : List Value).toArray below meth c Q D (mL Y) (qT Y) A ad 10 0 0 29 [(0, .ref (ad 0 0)), (1, .int x1), (3, .int x3), (4, .int x4), (5, .int x5), (6, .int x6), (7, .int x7)] [] σ) (x1 : Int32) (x3 : Int32) (x4 : Int32) (x5 : Int32) (x6 : Int32) (x7 : Int32) (x8 : Int32) (σ : qS), fX9_watched_137 F k29 x1 x3 x4 x5 x6 x7 x8 σ = some r0 → qAt p l e (qRm 1 23) s m ([.ref (ad 0 0), .int p1, .int p2] : List Value).toArray below meth c Q D (mL Y) (qT Y) A ad 10 0 0 137 [(0, .ref (ad 0 0)), (1, .int x1), (3, .int x3), (4, .int x4), (5, .int x5), (6, .int x6), (7, .int x7), (8, .int x8)] [] σ := by
    clear hf hw hl ls
    intro k29 hk29
    intro x1 x3 x4 x5 x6 x7 x8 σ hf H locs ls hw hl
    unfold fX9_watched_137 at hf
    refine lv_iconst (v := 0) S0.1 S0.2.1 dX9_watched_137 (by decide) ?_
    refine lv_goto (tgt := 153) S0.1 S0.2.1 dX9_watched_138 (by decide) ?_
    exact b153 k29 hk29 x1 x3 x4 x5 x6 x7 x8 0 σ hf _ _ _ hw (lv_sub hl [0, 1, 2, 3, 4, 5, 6, 7] rfl)
  have b133 : ∀ (k29 : Int32 → Int32 → Int32 → Int32 → Int32 → Int32 → qS → Option qS) (hk29 : ∀ (x1 : Int32) (x3 : Int32) (x4 : Int32) (x5 : Int32) (x6 : Int32) (x7 : Int32) (σ : qS), k29 x1 x3 x4 x5 x6 x7 σ = some r0 → qAt p l e (qRm 1 23) s m ([.ref (ad 0 0), .int p1, .int p2] : List Value).toArray below meth c Q D (mL Y) (qT Y) A ad 10 0 0 29 [(0, .ref (ad 0 0)), (1, .int x1), (3, .int x3), (4, .int x4), (5, .int x5), (6, .int x6), (7, .int x7)] [] σ) (x1 : Int32) (x3 : Int32) (x4 : Int32) (x5 : Int32) (x6 : Int32) (x7 : Int32) (x8 : Int32) (σ : qS), fX9_watched_133 F k29 x1 x3 x4 x5 x6 x7 x8 σ = some r0 → qAt p l e (qRm 1 23) s m ([.ref (ad 0 0), .int p1, .int p2] : List Value).toArray below meth c Q D (mL Y) (qT Y) A ad 10 0 0 133 [(0, .ref (ad 0 0)), (1, .int x1), (3, .int x3), (4, .int x4), (5, .int x5), (6, .int x6), (7, .int x7), (8, .int x8)] [] σ := by
    clear hf hw hl ls
    intro k29 hk29
    intro x1 x3 x4 x5 x6 x7 x8 σ hf H locs ls hw hl
    unfold fX9_watched_133 at hf
    refine lv_iconst (v := 1) S0.1 S0.2.1 dX9_watched_133 (by decide) ?_
    refine lv_goto (tgt := 153) S0.1 S0.2.1 dX9_watched_134 (by decide) ?_
    exact b153 k29 hk29 x1 x3 x4 x5 x6 x7 x8 1 σ hf _ _ _ hw (lv_sub hl [0, 1, 2, 3, 4, 5, 6, 7] rfl)
  have b107 : ∀ (k29 : Int32 → Int32 → Int32 → Int32 → Int32 → Int32 → qS → Option qS) (hk29 : ∀ (x1 : Int32) (x3 : Int32) (x4 : Int32) (x5 : Int32) (x6 : Int32) (x7 : Int32) (σ : qS), k29 x1 x3 x4 x5 x6 x7 σ = some r0 → qAt p l e (qRm 1 23) s m ([.ref (ad 0 0), .int p1, .int p2] : List Value).toArray below meth c Q D (mL Y) (qT Y) A ad 10 0 0 29 [(0, .ref (ad 0 0)), (1, .int x1), (3, .int x3), (4, .int x4), (5, .int x5), (6, .int x6), (7, .int x7)] [] σ) (x1 : Int32) (x3 : Int32) (x4 : Int32) (x5 : Int32) (x6 : Int32) (x7 : Int32) (x8 : Int32) (σ : qS), fX9_watched_107 F k29 x1 x3 x4 x5 x6 x7 x8 σ = some r0 → qAt p l e (qRm 1 23) s m ([.ref (ad 0 0), .int p1, .int p2] : List Value).toArray below meth c Q D (mL Y) (qT Y) A ad 10 0 0 107 [(0, .ref (ad 0 0)), (1, .int x1), (3, .int x3), (4, .int x4), (5, .int x5), (6, .int x6), (7, .int x7), (8, .int x8)] [] σ := by
    clear hf hw hl ls
    intro k29 hk29
    intro x1 x3 x4 x5 x6 x7 x8 σ hf H locs ls hw hl
    unfold fX9_watched_107 at hf
    refine lv_iload S0.1 S0.2.1 dX9_watched_107 (lv_at hl 3 rfl) ?_
    refine lv_iconst (v := 1) S0.1 S0.2.1 dX9_watched_109 (by decide) ?_
    refine lv_icmp_eq (tgt := 137) S0.1 S0.2.1 dX9_watched_110 (by decide) (fun c35 => ?_) (fun c35 => ?_)
    · replace hf := q_pos c35 hf
      exact b137 k29 hk29 x1 x3 x4 x5 x6 x7 x8 σ hf _ _ _ hw (lv_sub hl [0, 1, 2, 3, 4, 5, 6, 7] rfl)
    · replace hf := q_neg c35 hf
      refine lv_iload_n S0.1 S0.2.1 dX9_watched_113 rfl (lv_at hl 2 rfl) ?_
      refine lv_if_le (tgt := 137) S0.1 S0.2.1 dX9_watched_114 (by decide) (fun c36 => ?_) (fun c36 => ?_)
      · replace hf := q_pos c36 hf
        exact b137 k29 hk29 x1 x3 x4 x5 x6 x7 x8 σ hf _ _ _ hw (lv_sub hl [0, 1, 2, 3, 4, 5, 6, 7] rfl)
      · replace hf := q_neg c36 hf
        refine lv_aload_n S0.1 S0.2.1 dX9_watched_117 rfl (lv_at hl 0 rfl) ?_
        refine gX9_wn S0 hw kw_1189 dX9_watched_118 ?_
        refine lv_iload S0.1 S0.2.1 dX9_watched_121 (lv_at hl 7 rfl) ?_
        refine q_iald S0 hw dM_141 (t0 := 0) rfl rfl dX9_watched_123 hf (fun v37 hf => ?_)
        refine lv_aload_n S0.1 S0.2.1 dX9_watched_124 rfl (lv_at hl 0 rfl) ?_
        refine gX9_parent S0 hw kw_1148 dX9_watched_125 ?_
        refine lv_iload_n S0.1 S0.2.1 dX9_watched_128 rfl (lv_at hl 2 rfl) ?_
        refine q_iald S0 hw dM_100 (t0 := 0) rfl rfl dX9_watched_129 hf (fun v38 hf => ?_)
        refine lv_icmp_ne (tgt := 137) S0.1 S0.2.1 dX9_watched_130 (by decide) (fun c39 => ?_) (fun c39 => ?_)
        · replace hf := q_neg c39 hf
          exact b137 k29 hk29 x1 x3 x4 x5 x6 x7 x8 σ hf _ _ _ hw (lv_sub hl [0, 1, 2, 3, 4, 5, 6, 7] rfl)
        · replace hf := q_pos c39 hf
          exact b133 k29 hk29 x1 x3 x4 x5 x6 x7 x8 σ hf _ _ _ hw (lv_sub hl [0, 1, 2, 3, 4, 5, 6, 7] rfl)
  have b75 : ∀ (k29 : Int32 → Int32 → Int32 → Int32 → Int32 → Int32 → qS → Option qS) (hk29 : ∀ (x1 : Int32) (x3 : Int32) (x4 : Int32) (x5 : Int32) (x6 : Int32) (x7 : Int32) (σ : qS), k29 x1 x3 x4 x5 x6 x7 σ = some r0 → qAt p l e (qRm 1 23) s m ([.ref (ad 0 0), .int p1, .int p2] : List Value).toArray below meth c Q D (mL Y) (qT Y) A ad 10 0 0 29 [(0, .ref (ad 0 0)), (1, .int x1), (3, .int x3), (4, .int x4), (5, .int x5), (6, .int x6), (7, .int x7)] [] σ) (x1 : Int32) (x3 : Int32) (x4 : Int32) (x5 : Int32) (x6 : Int32) (x7 : Int32) (x8 : Int32) (σ : qS), fX9_watched_75 F k29 x1 x3 x4 x5 x6 x7 x8 σ = some r0 → qAt p l e (qRm 1 23) s m ([.ref (ad 0 0), .int p1, .int p2] : List Value).toArray below meth c Q D (mL Y) (qT Y) A ad 10 0 0 75 [(0, .ref (ad 0 0)), (1, .int x1), (3, .int x3), (4, .int x4), (5, .int x5), (6, .int x6), (7, .int x7), (8, .int x8)] [] σ := by
    clear hf hw hl ls
    intro k29 hk29
    intro x1 x3 x4 x5 x6 x7 x8 σ hf H locs ls hw hl
    unfold fX9_watched_75 at hf
    refine lv_iconst (v := 0) S0.1 S0.2.1 dX9_watched_75 (by decide) ?_
    refine lv_goto (tgt := 153) S0.1 S0.2.1 dX9_watched_76 (by decide) ?_
    exact b153 k29 hk29 x1 x3 x4 x5 x6 x7 x8 0 σ hf _ _ _ hw (lv_sub hl [0, 1, 2, 3, 4, 5, 6, 7] rfl)
  have b29 : ∀ (n : Nat) (x1 : Int32) (x3 : Int32) (x4 : Int32) (x5 : Int32) (x6 : Int32) (x7 : Int32) (σ : qS), fX9_watched_29 F n x1 x3 x4 x5 x6 x7 σ = some r0 → qAt p l e (qRm 1 23) s m ([.ref (ad 0 0), .int p1, .int p2] : List Value).toArray below meth c Q D (mL Y) (qT Y) A ad 10 0 0 29 [(0, .ref (ad 0 0)), (1, .int x1), (3, .int x3), (4, .int x4), (5, .int x5), (6, .int x6), (7, .int x7)] [] σ := by
    clear hf hw hl ls
    intro n
    induction n with
    | zero => intro x1 x3 x4 x5 x6 x7 σ hf; exact absurd hf (by rw [fX9_watched_29]; exact nofun)
    | succ n hk29 =>
      intro x1 x3 x4 x5 x6 x7 σ hf H locs ls hw hl
      rw [fX9_watched_29] at hf
      refine lv_iload S0.1 S0.2.1 dX9_watched_29 (lv_at hl 6 rfl) ?_
      refine lv_iload S0.1 S0.2.1 dX9_watched_31 (lv_at hl 5 rfl) ?_
      refine lv_icmp_ge (tgt := 253) S0.1 S0.2.1 dX9_watched_33 (by decide) (fun c4 => ?_) (fun c4 => ?_)
      · replace hf := q_pos c4 hf
        refine lv_aload_n S0.1 S0.2.1 dX9_watched_253 rfl (lv_at hl 0 rfl) ?_
        refine gX9_watches S0 hw kw_1191 dX9_watched_254 ?_
        refine lv_iload_n S0.1 S0.2.1 dX9_watched_257 rfl (lv_at hl 1 rfl) ?_
        refine lv_iload S0.1 S0.2.1 dX9_watched_258 (lv_at hl 4 rfl) ?_
        refine q_iast S0 hw dM_143 (t0 := 0) (fun _ => rfl) rfl dX9_watched_260 hf (fun s5 H locs hw hf => ?_)
        exact hret dX9_watched_261 hw hf
      · replace hf := q_neg c4 hf
        refine lv_bipush (v := 8) S0.1 S0.2.1 dX9_watched_36 (by decide) ?_
        refine lv_iload_n S0.1 S0.2.1 dX9_watched_38 rfl (lv_at hl 1 rfl) ?_
        refine lv_imul S0.1 S0.2.1 dX9_watched_39 (q_top hf (fun v6 hf => ?_))
        refine lv_iload S0.1 S0.2.1 dX9_watched_40 (lv_at hl 6 rfl) ?_
        refine lv_iadd S0.1 S0.2.1 dX9_watched_42 (q_top hf (fun v7 hf => ?_))
        refine lv_istore (lv' := [(8, .int v7), (0, .ref (ad 0 0)), (1, .int x1), (3, .int x3), (4, .int x4), (5, .int x5), (6, .int x6), (7, .int x7)]) S0.1 S0.2.1 dX9_watched_43 hl (by decide) rfl (fun ls hl => ?_)
        refine lv_aload_n S0.1 S0.2.1 dX9_watched_45 rfl (lv_at hl 1 rfl) ?_
        refine gX9_wk S0 hw kw_1190 dX9_watched_46 ?_
        refine lv_iload S0.1 S0.2.1 dX9_watched_49 (lv_at hl 0 rfl) ?_
        refine q_iald S0 hw dM_142 (t0 := 0) rfl rfl dX9_watched_51 hf (fun v8 hf => ?_)
        refine lv_if_ne (tgt := 79) S0.1 S0.2.1 dX9_watched_52 (by decide) (fun c9 => ?_) (fun c9 => ?_)
        · replace hf := q_neg c9 hf
          refine lv_aload_n S0.1 S0.2.1 dX9_watched_79 rfl (lv_at hl 1 rfl) ?_
          refine gX9_wk S0 hw kw_1190 dX9_watched_80 ?_
          refine lv_iload S0.1 S0.2.1 dX9_watched_83 (lv_at hl 0 rfl) ?_
          refine q_iald S0 hw dM_142 (t0 := 0) rfl rfl dX9_watched_85 hf (fun v10 hf => ?_)
          refine lv_iconst (v := 1) S0.1 S0.2.1 dX9_watched_86 (by decide) ?_
          refine lv_icmp_ne (tgt := 141) S0.1 S0.2.1 dX9_watched_87 (by decide) (fun c11 => ?_) (fun c11 => ?_)
          · replace hf := q_neg c11 hf
            refine lv_aload_n S0.1 S0.2.1 dX9_watched_141 rfl (lv_at hl 1 rfl) ?_
            refine lv_iload_n S0.1 S0.2.1 dX9_watched_142 rfl (lv_at hl 3 rfl) ?_
            refine lv_aload_n S0.1 S0.2.1 dX9_watched_143 rfl (lv_at hl 1 rfl) ?_
            refine gX9_wn S0 hw kw_1189 dX9_watched_144 ?_
            refine lv_iload S0.1 S0.2.1 dX9_watched_147 (lv_at hl 0 rfl) ?_
            refine q_iald S0 hw dM_141 (t0 := 0) rfl rfl dX9_watched_149 hf (fun v12 hf => ?_)
            refine q_calli S0 hw (As := [.int x3, .int v12]) (rest := []) (wX9_isBelow l D Y ad F x3 v12 σ) qyX9_isBelow kw_1403 ⟨Nat.le_of_ble_eq_true rfl, Nat.le_of_ble_eq_true rfl⟩ dM_0 rfl rfl rfl rfl hl.1 (Nat.le_of_ble_eq_true rfl) dX9_watched_150 ⟨Nat.le_refl _, Nat.le_refl _⟩ rfl hf (fun v14 s13 H locs hw hf => ?_)
            exact b153 (fX9_watched_29 F n) hk29 x1 x3 x4 x5 x6 x7 v7 v14 s13 hf _ _ _ hw (lv_sub hl [1, 2, 3, 4, 5, 6, 7, 0] rfl)
          · replace hf := q_pos c11 hf
            refine lv_iload S0.1 S0.2.1 dX9_watched_90 (lv_at hl 4 rfl) ?_
            refine lv_iconst (v := 2) S0.1 S0.2.1 dX9_watched_92 (by decide) ?_
            refine lv_icmp_ne (tgt := 107) S0.1 S0.2.1 dX9_watched_93 (by decide) (fun c34 => ?_) (fun c34 => ?_)
            · replace hf := q_neg c34 hf
              exact b107 (fX9_watched_29 F n) hk29 x1 x3 x4 x5 x6 x7 v7 σ hf _ _ _ hw (lv_sub hl [1, 2, 3, 4, 5, 6, 7, 0] rfl)
            · replace hf := q_pos c34 hf
              refine lv_aload_n S0.1 S0.2.1 dX9_watched_96 rfl (lv_at hl 1 rfl) ?_
              refine gX9_wn S0 hw kw_1189 dX9_watched_97 ?_
              refine lv_iload S0.1 S0.2.1 dX9_watched_100 (lv_at hl 0 rfl) ?_
              refine q_iald S0 hw dM_141 (t0 := 0) rfl rfl dX9_watched_102 hf (fun v40 hf => ?_)
              refine lv_iload_n S0.1 S0.2.1 dX9_watched_103 rfl (lv_at hl 3 rfl) ?_
              refine lv_icmp_eq (tgt := 133) S0.1 S0.2.1 dX9_watched_104 (by decide) (fun c41 => ?_) (fun c41 => ?_)
              · replace hf := q_pos c41 hf
                exact b133 (fX9_watched_29 F n) hk29 x1 x3 x4 x5 x6 x7 v7 σ hf _ _ _ hw (lv_sub hl [1, 2, 3, 4, 5, 6, 7, 0] rfl)
              · replace hf := q_neg c41 hf
                exact b107 (fX9_watched_29 F n) hk29 x1 x3 x4 x5 x6 x7 v7 σ hf _ _ _ hw (lv_sub hl [1, 2, 3, 4, 5, 6, 7, 0] rfl)
        · replace hf := q_pos c9 hf
          refine lv_aload_n S0.1 S0.2.1 dX9_watched_55 rfl (lv_at hl 1 rfl) ?_
          refine gX9_wn S0 hw kw_1189 dX9_watched_56 ?_
          refine lv_iload S0.1 S0.2.1 dX9_watched_59 (lv_at hl 0 rfl) ?_
          refine q_iald S0 hw dM_141 (t0 := 0) rfl rfl dX9_watched_61 hf (fun v42 hf => ?_)
          refine lv_iload_n S0.1 S0.2.1 dX9_watched_62 rfl (lv_at hl 3 rfl) ?_
          refine lv_icmp_ne (tgt := 75) S0.1 S0.2.1 dX9_watched_63 (by decide) (fun c43 => ?_) (fun c43 => ?_)
          · replace hf := q_neg c43 hf
            exact b75 (fX9_watched_29 F n) hk29 x1 x3 x4 x5 x6 x7 v7 σ hf _ _ _ hw (lv_sub hl [1, 2, 3, 4, 5, 6, 7, 0] rfl)
          · replace hf := q_pos c43 hf
            refine lv_iload S0.1 S0.2.1 dX9_watched_66 (lv_at hl 4 rfl) ?_
            refine lv_if_le (tgt := 75) S0.1 S0.2.1 dX9_watched_68 (by decide) (fun c44 => ?_) (fun c44 => ?_)
            · replace hf := q_pos c44 hf
              exact b75 (fX9_watched_29 F n) hk29 x1 x3 x4 x5 x6 x7 v7 σ hf _ _ _ hw (lv_sub hl [1, 2, 3, 4, 5, 6, 7, 0] rfl)
            · replace hf := q_neg c44 hf
              refine lv_iconst (v := 1) S0.1 S0.2.1 dX9_watched_71 (by decide) ?_
              refine lv_goto (tgt := 153) S0.1 S0.2.1 dX9_watched_72 (by decide) ?_
              exact b153 (fX9_watched_29 F n) hk29 x1 x3 x4 x5 x6 x7 v7 1 σ hf _ _ _ hw (lv_sub hl [1, 2, 3, 4, 5, 6, 7, 0] rfl)
  refine lv_aload_n S0.1 S0.2.1 dX9_watched_0 rfl (lv_at hl 0 rfl) ?_
  refine gX9_sn S0 hw kw_1170 dX9_watched_1 ?_
  refine lv_iload_n S0.1 S0.2.1 dX9_watched_4 rfl (lv_at hl 2 rfl) ?_
  refine q_iald S0 hw dM_122 (t0 := 0) rfl rfl dX9_watched_5 hf (fun v1 hf => ?_)
  refine lv_istore_n (lv' := [(3, .int v1), (0, .ref (ad 0 0)), (1, .int p1), (2, .int p2)]) S0.1 S0.2.1 dX9_watched_6 rfl hl (by decide) rfl (fun ls hl => ?_)
  refine lv_aload_n S0.1 S0.2.1 dX9_watched_7 rfl (lv_at hl 1 rfl) ?_
  refine gX9_sk S0 hw kw_1169 dX9_watched_8 ?_
  refine lv_iload_n S0.1 S0.2.1 dX9_watched_11 rfl (lv_at hl 3 rfl) ?_
  refine q_iald S0 hw dM_121 (t0 := 0) rfl rfl dX9_watched_12 hf (fun v2 hf => ?_)
  refine lv_istore (lv' := [(4, .int v2), (3, .int v1), (0, .ref (ad 0 0)), (1, .int p1), (2, .int p2)]) S0.1 S0.2.1 dX9_watched_13 hl (by decide) rfl (fun ls hl => ?_)
  refine lv_iconst (v := 0) S0.1 S0.2.1 dX9_watched_15 (by decide) ?_
  refine lv_istore (lv' := [(5, .int 0), (4, .int v2), (3, .int v1), (0, .ref (ad 0 0)), (1, .int p1), (2, .int p2)]) S0.1 S0.2.1 dX9_watched_16 hl (by decide) rfl (fun ls hl => ?_)
  refine lv_aload_n S0.1 S0.2.1 dX9_watched_18 rfl (lv_at hl 3 rfl) ?_
  refine gX9_watches S0 hw kw_1191 dX9_watched_19 ?_
  refine lv_iload_n S0.1 S0.2.1 dX9_watched_22 rfl (lv_at hl 4 rfl) ?_
  refine q_iald S0 hw dM_143 (t0 := 0) rfl rfl dX9_watched_23 hf (fun v3 hf => ?_)
  refine lv_istore (lv' := [(6, .int v3), (5, .int 0), (4, .int v2), (3, .int v1), (0, .ref (ad 0 0)), (1, .int p1), (2, .int p2)]) S0.1 S0.2.1 dX9_watched_24 hl (by decide) rfl (fun ls hl => ?_)
  refine lv_iconst (v := 0) S0.1 S0.2.1 dX9_watched_26 (by decide) ?_
  refine lv_istore (lv' := [(7, .int 0), (6, .int v3), (5, .int 0), (4, .int v2), (3, .int v1), (0, .ref (ad 0 0)), (1, .int p1), (2, .int p2)]) S0.1 S0.2.1 dX9_watched_27 hl (by decide) rfl (fun ls hl => ?_)
  exact b29 F p1 v1 v2 0 v3 0 σ hf _ _ _ hw (lv_sub hl [5, 6, 4, 3, 2, 1, 0] rfl)
theorem qyX9_notice : qY yX9_notice RX9 cX9_notice 4 none 2 := ⟨⟨kw_1397, kp_54, kw_11, kw_1398⟩, rfl, by decide, by decide, by decide +kernel⟩
def fX9_notice_35 (F : Nat) (k2 : Int32 → Int32 → Int32 → qS → Option qS) (x1 : Int32) (x2 : Int32) (x3 : Int32) (σ : qS) : Option qS :=
  nm (x3 + 1) fun v5 => (k2 x1 x2 v5 σ)
def fX9_notice_2 (F : Nat) : Nat → Int32 → Int32 → Int32 → qS → Option qS
  | 0, _, _, _, _ => none
  | n + 1, x1, x2, x3, σ =>
  nm (σ.1 0 0 48) fun v1 => (if v1 ≤ x3 then (some σ) else (ldi 10 (σ.1 135 0) x3 fun v3 => (if v3 = 0 then (ldi 10 (σ.1 132 0) x3 fun v6 => (if v6 = x1 then (bnd (fX9_watched F x3 x2 σ) fun s8 => (fX9_notice_35 F (fX9_notice_2 F n) x1 x2 x3 s8)) else (fX9_notice_35 F (fX9_notice_2 F n) x1 x2 x3 σ))) else (fX9_notice_35 F (fX9_notice_2 F n) x1 x2 x3 σ))))
def fX9_notice (F : Nat) (p1 : Int32) (p2 : Int32) (σ : qS) : Option qS :=
  fX9_notice_2 F F p1 p2 0 σ
set_option maxRecDepth 100000 in
set_option maxHeartbeats 4000000 in
theorem wX9_notice (l : Launch) (D : va_G) (Y : Nat → ClassId) (ad : qAd) (F : Nat) (p1 : Int32) (p2 : Int32) (σ : qS) : qCv l yX9_notice cX9_notice 4 none 2 52 D (mL Y) (qT Y) ad [.ref (ad 0 0), .int p1, .int p2] σ (fX9_notice F p1 p2 σ) := by
  refine q_ofv (by decide) (Nat.le_of_ble_eq_true rfl) "LeasehallModel" rfl (fun p e s m below meth c A Q r0 S0 hf hw hret ls hl => ?_)
  replace hl : lv_has ls 4 [(0, .ref (ad 0 0)), (1, .int p1), (2, .int p2)] := hl
  unfold fX9_notice at hf
  have b35 : ∀ (k2 : Int32 → Int32 → Int32 → qS → Option qS) (hk2 : ∀ (x1 : Int32) (x2 : Int32) (x3 : Int32) (σ : qS), k2 x1 x2 x3 σ = some r0 → qAt p l e (qRm 2 52) s m ([.ref (ad 0 0), .int p1, .int p2] : List Value).toArray below meth c Q D (mL Y) (qT Y) A ad 4 0 0 2 [(0, .ref (ad 0 0)), (1, .int x1), (2, .int x2), (3, .int x3)] [] σ) (x1 : Int32) (x2 : Int32) (x3 : Int32) (σ : qS), fX9_notice_35 F k2 x1 x2 x3 σ = some r0 → qAt p l e (qRm 2 52) s m ([.ref (ad 0 0), .int p1, .int p2] : List Value).toArray below meth c Q D (mL Y) (qT Y) A ad 4 0 0 35 [(0, .ref (ad 0 0)), (1, .int x1), (2, .int x2), (3, .int x3)] [] σ := by
    clear hf hw hl ls
    intro k2 hk2
    intro x1 x2 x3 σ hf H locs ls hw hl
    unfold fX9_notice_35 at hf
    refine q_iinc S0 (v0 := 1) dX9_notice_35 hl (k := 3) rfl (by decide) (by decide) rfl hf (fun v5 ls hl hf => ?_)
    refine lv_goto (tgt := 2) S0.1 S0.2.1 dX9_notice_38 (by decide) ?_
    exact hk2 x1 x2 v5 σ hf _ _ _ hw (lv_sub hl [1, 2, 3, 0] rfl)
  have b2 : ∀ (n : Nat) (x1 : Int32) (x2 : Int32) (x3 : Int32) (σ : qS), fX9_notice_2 F n x1 x2 x3 σ = some r0 → qAt p l e (qRm 2 52) s m ([.ref (ad 0 0), .int p1, .int p2] : List Value).toArray below meth c Q D (mL Y) (qT Y) A ad 4 0 0 2 [(0, .ref (ad 0 0)), (1, .int x1), (2, .int x2), (3, .int x3)] [] σ := by
    clear hf hw hl ls
    intro n
    induction n with
    | zero => intro x1 x2 x3 σ hf; exact absurd hf (by rw [fX9_notice_2]; exact nofun)
    | succ n hk2 =>
      intro x1 x2 x3 σ hf H locs ls hw hl
      rw [fX9_notice_2] at hf
      refine lv_iload_n S0.1 S0.2.1 dX9_notice_2 rfl (lv_at hl 3 rfl) ?_
      refine lv_aload_n S0.1 S0.2.1 dX9_notice_3 rfl (lv_at hl 0 rfl) ?_
      refine gX9_sessions S0 hw kw_1196 dX9_notice_4 hf (fun v1 hf => ?_)
      refine lv_icmp_ge (tgt := 41) S0.1 S0.2.1 dX9_notice_7 (by decide) (fun c2 => ?_) (fun c2 => ?_)
      · replace hf := q_pos c2 hf
        exact hret dX9_notice_41 hw hf
      · replace hf := q_neg c2 hf
        refine lv_aload_n S0.1 S0.2.1 dX9_notice_10 rfl (lv_at hl 0 rfl) ?_
        refine gX9_ze S0 hw kw_1183 dX9_notice_11 ?_
        refine lv_iload_n S0.1 S0.2.1 dX9_notice_14 rfl (lv_at hl 3 rfl) ?_
        refine q_iald S0 hw dM_135 (t0 := 0) rfl rfl dX9_notice_15 hf (fun v3 hf => ?_)
        refine lv_if_ne (tgt := 35) S0.1 S0.2.1 dX9_notice_16 (by decide) (fun c4 => ?_) (fun c4 => ?_)
        · replace hf := q_neg c4 hf
          exact b35 (fX9_notice_2 F n) hk2 x1 x2 x3 σ hf _ _ _ hw (lv_sub hl [0, 1, 2, 3] rfl)
        · replace hf := q_pos c4 hf
          refine lv_aload_n S0.1 S0.2.1 dX9_notice_19 rfl (lv_at hl 0 rfl) ?_
          refine gX9_zs S0 hw kw_1180 dX9_notice_20 ?_
          refine lv_iload_n S0.1 S0.2.1 dX9_notice_23 rfl (lv_at hl 3 rfl) ?_
          refine q_iald S0 hw dM_132 (t0 := 0) rfl rfl dX9_notice_24 hf (fun v6 hf => ?_)
          refine lv_iload_n S0.1 S0.2.1 dX9_notice_25 rfl (lv_at hl 1 rfl) ?_
          refine lv_icmp_ne (tgt := 35) S0.1 S0.2.1 dX9_notice_26 (by decide) (fun c7 => ?_) (fun c7 => ?_)
          · replace hf := q_neg c7 hf
            exact b35 (fX9_notice_2 F n) hk2 x1 x2 x3 σ hf _ _ _ hw (lv_sub hl [0, 1, 2, 3] rfl)
          · replace hf := q_pos c7 hf
            refine lv_aload_n S0.1 S0.2.1 dX9_notice_29 rfl (lv_at hl 0 rfl) ?_
            refine lv_iload_n S0.1 S0.2.1 dX9_notice_30 rfl (lv_at hl 3 rfl) ?_
            refine lv_iload_n S0.1 S0.2.1 dX9_notice_31 rfl (lv_at hl 2 rfl) ?_
            refine q_callv S0 hw (As := [.int x3, .int x2]) (rest := []) (wX9_watched l D Y ad F x3 x2 σ) qyX9_watched kw_1399 ⟨Nat.le_of_ble_eq_true rfl, Nat.le_of_ble_eq_true rfl⟩ dM_0 rfl rfl rfl rfl hl.1 (Nat.le_of_ble_eq_true rfl) dX9_notice_32 ⟨Nat.le_refl _, Nat.le_refl _⟩ rfl hf (fun s8 H locs hw hf => ?_)
            exact b35 (fX9_notice_2 F n) hk2 x1 x2 x3 s8 hf _ _ _ hw (lv_sub hl [0, 1, 2, 3] rfl)
  refine lv_iconst (v := 0) S0.1 S0.2.1 dX9_notice_0 (by decide) ?_
  refine lv_istore_n (lv' := [(3, .int 0), (0, .ref (ad 0 0)), (1, .int p1), (2, .int p2)]) S0.1 S0.2.1 dX9_notice_1 rfl hl (by decide) rfl (fun ls hl => ?_)
  exact b2 F p1 p2 0 σ hf _ _ _ hw (lv_sub hl [1, 2, 3, 0] rfl)
theorem qyX9_follows : qY yX9_follows RX9 cX9_follows 3 none 2 := ⟨⟨kw_1393, kp_53, kw_11, kw_1394⟩, rfl, by decide, by decide, by decide +kernel⟩
def fX9_follows_92 (F : Nat) (t1 : Int32) (t2 : Int32) (σ : qS) : Option qS :=
  inx 3 t1 (nm (qI σ 130 0 t1.toNatClampNeg t2) fun s6 => (some s6))
def fX9_follows_67 (F : Nat) (x1 : Int32) (x2 : Int32) (σ : qS) : Option qS :=
  ldi 3 (σ.1 130 0) x1 fun v4 => (if v4 ≤ x2 then (fX9_follows_92 F x1 x2 σ) else (ldi 3 (σ.1 130 0) x1 fun v7 => (fX9_follows_92 F x1 v7 σ)))
def fX9_follows_43 (F : Nat) (k0 : Int32 → Int32 → qS → Option qS) (x1 : Int32) (x2 : Int32) (σ : qS) : Option qS :=
  ldi 3 (σ.1 129 0) x1 fun v12 => (bnd (fX9_notice F x1 v12 σ) fun s13 => (ldi 3 (s13.1 129 0) x1 fun v14 => (nm (v14 + 1) fun v15 => (inx 3 x1 (nm (qI s13 129 0 x1.toNatClampNeg v15) fun s16 => (k0 x1 x2 s16))))))
def fX9_follows_0 (F : Nat) : Nat → Int32 → Int32 → qS → Option qS
  | 0, _, _, _ => none
  | n + 1, x1, x2, σ =>
  ldi 3 (σ.1 129 0) x1 fun v1 => (nm (σ.1 0 0 25) fun v2 => (if v2 ≤ v1 then (fX9_follows_67 F x1 x2 σ) else (ldi 3 (σ.1 129 0) x1 fun v8 => (ldi 90000 (σ.1 120 0) v8 fun v9 => (if x2 < v9 then (fX9_follows_67 F x1 x2 σ) else (if x1 ≤ 0 then (fX9_follows_43 F (fX9_follows_0 F n) x1 x2 σ) else (ldi 3 (σ.1 129 0) x1 fun v17 => (bnd (fX9_apply F x1 v17 σ) fun s18 => (fX9_follows_43 F (fX9_follows_0 F n) x1 x2 s18)))))))))
def fX9_follows (F : Nat) (p1 : Int32) (p2 : Int32) (σ : qS) : Option qS :=
  fX9_follows_0 F F p1 p2 σ
set_option maxRecDepth 100000 in
set_option maxHeartbeats 4000000 in
theorem wX9_follows (l : Launch) (D : va_G) (Y : Nat → ClassId) (ad : qAd) (F : Nat) (p1 : Int32) (p2 : Int32) (σ : qS) : qCv l yX9_follows cX9_follows 3 none 3 75 D (mL Y) (qT Y) ad [.ref (ad 0 0), .int p1, .int p2] σ (fX9_follows F p1 p2 σ) := by
  refine q_ofv (by decide) (Nat.le_of_ble_eq_true rfl) "LeasehallModel" rfl (fun p e s m below meth c A Q r0 S0 hf hw hret ls hl => ?_)
  replace hl : lv_has ls 3 [(0, .ref (ad 0 0)), (1, .int p1), (2, .int p2)] := hl
  unfold fX9_follows at hf
  have b92 : ∀ (t1 : Int32) (t2 : Int32) (σ : qS), fX9_follows_92 F t1 t2 σ = some r0 → qAt p l e (qRm 3 75) s m ([.ref (ad 0 0), .int p1, .int p2] : List Value).toArray below meth c Q D (mL Y) (qT Y) A ad 3 0 0 92 [] [.int t2, .int t1, .ref (ad 130 0)] σ := by
    clear hf hw hl ls
    intro t1 t2 σ hf H locs ls hw hl
    unfold fX9_follows_92 at hf
    refine q_iast S0 hw dM_130 (t0 := 0) (fun _ => rfl) rfl dX9_follows_92 hf (fun s6 H locs hw hf => ?_)
    exact hret dX9_follows_93 hw hf
  have b67 : ∀ (x1 : Int32) (x2 : Int32) (σ : qS), fX9_follows_67 F x1 x2 σ = some r0 → qAt p l e (qRm 3 75) s m ([.ref (ad 0 0), .int p1, .int p2] : List Value).toArray below meth c Q D (mL Y) (qT Y) A ad 3 0 0 67 [(0, .ref (ad 0 0)), (1, .int x1), (2, .int x2)] [] σ := by
    clear hf hw hl ls
    intro x1 x2 σ hf H locs ls hw hl
    unfold fX9_follows_67 at hf
    refine lv_aload_n S0.1 S0.2.1 dX9_follows_67 rfl (lv_at hl 0 rfl) ?_
    refine gX9_got S0 hw kw_1178 dX9_follows_68 ?_
    refine lv_iload_n S0.1 S0.2.1 dX9_follows_71 rfl (lv_at hl 1 rfl) ?_
    refine lv_aload_n S0.1 S0.2.1 dX9_follows_72 rfl (lv_at hl 0 rfl) ?_
    refine gX9_got S0 hw kw_1178 dX9_follows_73 ?_
    refine lv_iload_n S0.1 S0.2.1 dX9_follows_76 rfl (lv_at hl 1 rfl) ?_
    refine q_iald S0 hw dM_130 (t0 := 0) rfl rfl dX9_follows_77 hf (fun v4 hf => ?_)
    refine lv_iload_n S0.1 S0.2.1 dX9_follows_78 rfl (lv_at hl 2 rfl) ?_
    refine lv_icmp_le (tgt := 91) S0.1 S0.2.1 dX9_follows_79 (by decide) (fun c5 => ?_) (fun c5 => ?_)
    · replace hf := q_pos c5 hf
      refine lv_iload_n S0.1 S0.2.1 dX9_follows_91 rfl (lv_at hl 2 rfl) ?_
      exact b92 x1 x2 σ hf _ _ _ hw (lv_sub hl [] rfl)
    · replace hf := q_neg c5 hf
      refine lv_aload_n S0.1 S0.2.1 dX9_follows_82 rfl (lv_at hl 0 rfl) ?_
      refine gX9_got S0 hw kw_1178 dX9_follows_83 ?_
      refine lv_iload_n S0.1 S0.2.1 dX9_follows_86 rfl (lv_at hl 1 rfl) ?_
      refine q_iald S0 hw dM_130 (t0 := 0) rfl rfl dX9_follows_87 hf (fun v7 hf => ?_)
      refine lv_goto (tgt := 92) S0.1 S0.2.1 dX9_follows_88 (by decide) ?_
      exact b92 x1 v7 σ hf _ _ _ hw (lv_sub hl [] rfl)
  have b43 : ∀ (k0 : Int32 → Int32 → qS → Option qS) (hk0 : ∀ (x1 : Int32) (x2 : Int32) (σ : qS), k0 x1 x2 σ = some r0 → qAt p l e (qRm 3 75) s m ([.ref (ad 0 0), .int p1, .int p2] : List Value).toArray below meth c Q D (mL Y) (qT Y) A ad 3 0 0 0 [(0, .ref (ad 0 0)), (1, .int x1), (2, .int x2)] [] σ) (x1 : Int32) (x2 : Int32) (σ : qS), fX9_follows_43 F k0 x1 x2 σ = some r0 → qAt p l e (qRm 3 75) s m ([.ref (ad 0 0), .int p1, .int p2] : List Value).toArray below meth c Q D (mL Y) (qT Y) A ad 3 0 0 43 [(0, .ref (ad 0 0)), (1, .int x1), (2, .int x2)] [] σ := by
    clear hf hw hl ls
    intro k0 hk0
    intro x1 x2 σ hf H locs ls hw hl
    unfold fX9_follows_43 at hf
    refine lv_aload_n S0.1 S0.2.1 dX9_follows_43 rfl (lv_at hl 0 rfl) ?_
    refine lv_iload_n S0.1 S0.2.1 dX9_follows_44 rfl (lv_at hl 1 rfl) ?_
    refine lv_aload_n S0.1 S0.2.1 dX9_follows_45 rfl (lv_at hl 0 rfl) ?_
    refine gX9_pos S0 hw kw_1177 dX9_follows_46 ?_
    refine lv_iload_n S0.1 S0.2.1 dX9_follows_49 rfl (lv_at hl 1 rfl) ?_
    refine q_iald S0 hw dM_129 (t0 := 0) rfl rfl dX9_follows_50 hf (fun v12 hf => ?_)
    refine q_callv S0 hw (As := [.int x1, .int v12]) (rest := []) (wX9_notice l D Y ad F x1 v12 σ) qyX9_notice kw_1395 ⟨Nat.le_of_ble_eq_true rfl, Nat.le_of_ble_eq_true rfl⟩ dM_0 rfl rfl rfl rfl hl.1 (Nat.le_of_ble_eq_true rfl) dX9_follows_51 ⟨Nat.le_refl _, Nat.le_refl _⟩ rfl hf (fun s13 H locs hw hf => ?_)
    refine lv_aload_n S0.1 S0.2.1 dX9_follows_54 rfl (lv_at hl 0 rfl) ?_
    refine gX9_pos S0 hw kw_1177 dX9_follows_55 ?_
    refine lv_iload_n S0.1 S0.2.1 dX9_follows_58 rfl (lv_at hl 1 rfl) ?_
    refine lv_dup2_11 S0.1 S0.2.1 dX9_follows_59 rfl rfl ?_
    refine q_iald S0 hw dM_129 (t0 := 0) rfl rfl dX9_follows_60 hf (fun v14 hf => ?_)
    refine lv_iconst (v := 1) S0.1 S0.2.1 dX9_follows_61 (by decide) ?_
    refine lv_iadd S0.1 S0.2.1 dX9_follows_62 (q_top hf (fun v15 hf => ?_))
    refine q_iast S0 hw dM_129 (t0 := 0) (fun _ => rfl) rfl dX9_follows_63 hf (fun s16 H locs hw hf => ?_)
    refine lv_goto (tgt := 0) S0.1 S0.2.1 dX9_follows_64 (by decide) ?_
    exact hk0 x1 x2 s16 hf _ _ _ hw (lv_sub hl [0, 1, 2] rfl)
  have b0 : ∀ (n : Nat) (x1 : Int32) (x2 : Int32) (σ : qS), fX9_follows_0 F n x1 x2 σ = some r0 → qAt p l e (qRm 3 75) s m ([.ref (ad 0 0), .int p1, .int p2] : List Value).toArray below meth c Q D (mL Y) (qT Y) A ad 3 0 0 0 [(0, .ref (ad 0 0)), (1, .int x1), (2, .int x2)] [] σ := by
    clear hf hw hl ls
    intro n
    induction n with
    | zero => intro x1 x2 σ hf; exact absurd hf (by rw [fX9_follows_0]; exact nofun)
    | succ n hk0 =>
      intro x1 x2 σ hf H locs ls hw hl
      rw [fX9_follows_0] at hf
      refine lv_aload_n S0.1 S0.2.1 dX9_follows_0 rfl (lv_at hl 0 rfl) ?_
      refine gX9_pos S0 hw kw_1177 dX9_follows_1 ?_
      refine lv_iload_n S0.1 S0.2.1 dX9_follows_4 rfl (lv_at hl 1 rfl) ?_
      refine q_iald S0 hw dM_129 (t0 := 0) rfl rfl dX9_follows_5 hf (fun v1 hf => ?_)
      refine lv_aload_n S0.1 S0.2.1 dX9_follows_6 rfl (lv_at hl 0 rfl) ?_
      refine gX9_steps S0 hw kw_1173 dX9_follows_7 hf (fun v2 hf => ?_)
      refine lv_icmp_ge (tgt := 67) S0.1 S0.2.1 dX9_follows_10 (by decide) (fun c3 => ?_) (fun c3 => ?_)
      · replace hf := q_pos c3 hf
        exact b67 x1 x2 σ hf _ _ _ hw (lv_sub hl [0, 1, 2] rfl)
      · replace hf := q_neg c3 hf
        refine lv_aload_n S0.1 S0.2.1 dX9_follows_13 rfl (lv_at hl 0 rfl) ?_
        refine gX9_sc S0 hw kw_1168 dX9_follows_14 ?_
        refine lv_aload_n S0.1 S0.2.1 dX9_follows_17 rfl (lv_at hl 0 rfl) ?_
        refine gX9_pos S0 hw kw_1177 dX9_follows_18 ?_
        refine lv_iload_n S0.1 S0.2.1 dX9_follows_21 rfl (lv_at hl 1 rfl) ?_
        refine q_iald S0 hw dM_129 (t0 := 0) rfl rfl dX9_follows_22 hf (fun v8 hf => ?_)
        refine q_iald S0 hw dM_120 (t0 := 0) rfl rfl dX9_follows_23 hf (fun v9 hf => ?_)
        refine lv_iload_n S0.1 S0.2.1 dX9_follows_24 rfl (lv_at hl 2 rfl) ?_
        refine lv_icmp_gt (tgt := 67) S0.1 S0.2.1 dX9_follows_25 (by decide) (fun c10 => ?_) (fun c10 => ?_)
        · replace hf := q_pos c10 hf
          exact b67 x1 x2 σ hf _ _ _ hw (lv_sub hl [0, 1, 2] rfl)
        · replace hf := q_neg c10 hf
          refine lv_iload_n S0.1 S0.2.1 dX9_follows_28 rfl (lv_at hl 1 rfl) ?_
          refine lv_if_le (tgt := 43) S0.1 S0.2.1 dX9_follows_29 (by decide) (fun c11 => ?_) (fun c11 => ?_)
          · replace hf := q_pos c11 hf
            exact b43 (fX9_follows_0 F n) hk0 x1 x2 σ hf _ _ _ hw (lv_sub hl [0, 1, 2] rfl)
          · replace hf := q_neg c11 hf
            refine lv_aload_n S0.1 S0.2.1 dX9_follows_32 rfl (lv_at hl 0 rfl) ?_
            refine lv_iload_n S0.1 S0.2.1 dX9_follows_33 rfl (lv_at hl 1 rfl) ?_
            refine lv_aload_n S0.1 S0.2.1 dX9_follows_34 rfl (lv_at hl 0 rfl) ?_
            refine gX9_pos S0 hw kw_1177 dX9_follows_35 ?_
            refine lv_iload_n S0.1 S0.2.1 dX9_follows_38 rfl (lv_at hl 1 rfl) ?_
            refine q_iald S0 hw dM_129 (t0 := 0) rfl rfl dX9_follows_39 hf (fun v17 hf => ?_)
            refine q_callv S0 hw (As := [.int x1, .int v17]) (rest := []) (wX9_apply l D Y ad F x1 v17 σ) qyX9_apply kw_1379 ⟨Nat.le_of_ble_eq_true rfl, Nat.le_of_ble_eq_true rfl⟩ dM_0 rfl rfl rfl rfl hl.1 (Nat.le_of_ble_eq_true rfl) dX9_follows_40 ⟨Nat.le_refl _, Nat.le_refl _⟩ rfl hf (fun s18 H locs hw hf => ?_)
            exact b43 (fX9_follows_0 F n) hk0 x1 x2 s18 hf _ _ _ hw (lv_sub hl [0, 1, 2] rfl)
  exact b0 F p1 p2 σ hf _ _ _ hw (lv_sub hl [0, 1, 2] rfl)
theorem qyX9_commit : qY yX9_commit RX9 cX9_commit 1 none 0 := ⟨⟨kw_1389, kp_52, kw_11, kw_1390⟩, rfl, by decide, by decide, by decide +kernel⟩
def fX9_commit_19 (F : Nat) (σ : qS) : Option qS :=
  nm (σ.1 0 0 26) fun v4 => (bnd (fX9_follows F 0 v4 σ) fun s5 => (some s5))
def fX9_commit (F : Nat) (σ : qS) : Option qS :=
  nm (σ.1 0 0 25) fun v1 => (nm (σ.1 0 0 19) fun v2 => (if v1 ≤ v2 then (fX9_commit_19 F σ) else (nm (σ.1 0 0 27) fun v6 => (nm (qI σ 0 0 26 v6) fun s7 => (fX9_commit_19 F s7)))))
set_option maxRecDepth 100000 in
set_option maxHeartbeats 4000000 in
theorem wX9_commit (l : Launch) (D : va_G) (Y : Nat → ClassId) (ad : qAd) (F : Nat) (σ : qS) : qCv l yX9_commit cX9_commit 1 none 4 97 D (mL Y) (qT Y) ad [.ref (ad 0 0)] σ (fX9_commit F σ) := by
  refine q_ofv (by decide) (Nat.le_of_ble_eq_true rfl) "LeasehallModel" rfl (fun p e s m below meth c A Q r0 S0 hf hw hret ls hl => ?_)
  replace hl : lv_has ls 1 [(0, .ref (ad 0 0))] := hl
  unfold fX9_commit at hf
  have b19 : ∀ (σ : qS), fX9_commit_19 F σ = some r0 → qAt p l e (qRm 4 97) s m ([.ref (ad 0 0)] : List Value).toArray below meth c Q D (mL Y) (qT Y) A ad 1 0 0 19 [(0, .ref (ad 0 0))] [] σ := by
    clear hf hw hl ls
    intro σ hf H locs ls hw hl
    unfold fX9_commit_19 at hf
    refine lv_aload_n S0.1 S0.2.1 dX9_commit_19 rfl (lv_at hl 0 rfl) ?_
    refine lv_iconst (v := 0) S0.1 S0.2.1 dX9_commit_20 (by decide) ?_
    refine lv_aload_n S0.1 S0.2.1 dX9_commit_21 rfl (lv_at hl 0 rfl) ?_
    refine gX9_last S0 hw kw_1174 dX9_commit_22 hf (fun v4 hf => ?_)
    refine q_callv S0 hw (As := [.int 0, .int v4]) (rest := []) (wX9_follows l D Y ad F 0 v4 σ) qyX9_follows kw_1391 ⟨Nat.le_of_ble_eq_true rfl, Nat.le_of_ble_eq_true rfl⟩ dM_0 rfl rfl rfl rfl hl.1 (Nat.le_of_ble_eq_true rfl) dX9_commit_25 ⟨Nat.le_refl _, Nat.le_refl _⟩ rfl hf (fun s5 H locs hw hf => ?_)
    exact hret dX9_commit_28 hw hf
  refine lv_aload_n S0.1 S0.2.1 dX9_commit_0 rfl (lv_at hl 0 rfl) ?_
  refine gX9_steps S0 hw kw_1173 dX9_commit_1 hf (fun v1 hf => ?_)
  refine lv_aload_n S0.1 S0.2.1 dX9_commit_4 rfl (lv_at hl 0 rfl) ?_
  refine gX9_wasSteps S0 hw kw_1167 dX9_commit_5 hf (fun v2 hf => ?_)
  refine lv_icmp_le (tgt := 19) S0.1 S0.2.1 dX9_commit_8 (by decide) (fun c3 => ?_) (fun c3 => ?_)
  · replace hf := q_pos c3 hf
    exact b19 σ hf _ _ _ hw (lv_sub hl [0] rfl)
  · replace hf := q_neg c3 hf
    refine lv_aload_n S0.1 S0.2.1 dX9_commit_11 rfl (lv_at hl 0 rfl) ?_
    refine lv_aload_n S0.1 S0.2.1 dX9_commit_12 rfl (lv_at hl 0 rfl) ?_
    refine gX9_now S0 hw kw_1175 dX9_commit_13 hf (fun v6 hf => ?_)
    refine pX9_last S0 hw kw_1174 dX9_commit_16 hf (fun s7 H locs hw hf => ?_)
    exact b19 s7 hf _ _ _ hw (lv_sub hl [0] rfl)
theorem qyX9_children : qY yX9_children RX9 cX9_children 5 (some .int) 2 := ⟨⟨kw_1385, kp_51, kw_11, kw_1386⟩, rfl, by decide, by decide, by decide +kernel⟩
def fX9_children_47 (F : Nat) (k5 : Int32 → Int32 → Int32 → Int32 → qS → Option (Int32 × qS)) (x1 : Int32) (x2 : Int32) (x4 : Int32) (t0 : Int32) (t1 : Int32) (σ : qS) : Option (Int32 × qS) :=
  nm (t0 + t1) fun v7 => (nm (x4 + 1) fun v8 => (k5 x1 x2 v7 v8 σ))
def fX9_children_46 (F : Nat) (k5 : Int32 → Int32 → Int32 → Int32 → qS → Option (Int32 × qS)) (x1 : Int32) (x2 : Int32) (x4 : Int32) (t0 : Int32) (σ : qS) : Option (Int32 × qS) :=
  fX9_children_47 F k5 x1 x2 x4 t0 0 σ
def fX9_children_5 (F : Nat) : Nat → Int32 → Int32 → Int32 → Int32 → qS → Option (Int32 × qS)
  | 0, _, _, _, _, _ => none
  | n + 1, x1, x2, x3, x4, σ =>
  nm (σ.1 0 0 7) fun v1 => (if v1 ≤ x4 then (some (x3, σ)) else (nm (80 * x1) fun v3 => (nm (v3 + x4) fun v4 => (ldi 400 (σ.1 108 0) v4 fun v5 => (if v5 = 1 then (ldi 80 (σ.1 100 0) x4 fun v9 => (if v9 = x2 then (fX9_children_47 F (fX9_children_5 F n) x1 x2 x4 x3 1 σ) else (fX9_children_46 F (fX9_children_5 F n) x1 x2 x4 x3 σ))) else (fX9_children_46 F (fX9_children_5 F n) x1 x2 x4 x3 σ))))))
def fX9_children (F : Nat) (p1 : Int32) (p2 : Int32) (σ : qS) : Option (Int32 × qS) :=
  fX9_children_5 F F p1 p2 0 1 σ
set_option maxRecDepth 100000 in
set_option maxHeartbeats 4000000 in
theorem wX9_children (l : Launch) (D : va_G) (Y : Nat → ClassId) (ad : qAd) (F : Nat) (p1 : Int32) (p2 : Int32) (σ : qS) : qCi l yX9_children cX9_children 5 (some .int) 0 0 D (mL Y) (qT Y) ad [.ref (ad 0 0), .int p1, .int p2] σ (fX9_children F p1 p2 σ) := by
  refine q_ofi (by decide) (Nat.le_of_ble_eq_true rfl) "LeasehallModel" rfl (fun p e s m below meth c A Q r0 S0 hf hw hret ls hl => ?_)
  replace hl : lv_has ls 5 [(0, .ref (ad 0 0)), (1, .int p1), (2, .int p2)] := hl
  unfold fX9_children at hf
  have b47 : ∀ (k5 : Int32 → Int32 → Int32 → Int32 → qS → Option (Int32 × qS)) (hk5 : ∀ (x1 : Int32) (x2 : Int32) (x3 : Int32) (x4 : Int32) (σ : qS), k5 x1 x2 x3 x4 σ = some r0 → qAt p l e (qRm 0 0) s m ([.ref (ad 0 0), .int p1, .int p2] : List Value).toArray below meth c Q D (mL Y) (qT Y) A ad 5 0 0 5 [(0, .ref (ad 0 0)), (1, .int x1), (2, .int x2), (3, .int x3), (4, .int x4)] [] σ) (x1 : Int32) (x2 : Int32) (x4 : Int32) (t0 : Int32) (t1 : Int32) (σ : qS), fX9_children_47 F k5 x1 x2 x4 t0 t1 σ = some r0 → qAt p l e (qRm 0 0) s m ([.ref (ad 0 0), .int p1, .int p2] : List Value).toArray below meth c Q D (mL Y) (qT Y) A ad 5 0 0 47 [(0, .ref (ad 0 0)), (1, .int x1), (2, .int x2), (4, .int x4)] [.int t1, .int t0] σ := by
    clear hf hw hl ls
    intro k5 hk5
    intro x1 x2 x4 t0 t1 σ hf H locs ls hw hl
    unfold fX9_children_47 at hf
    refine lv_iadd S0.1 S0.2.1 dX9_children_47 (q_top hf (fun v7 hf => ?_))
    refine lv_istore_n (lv' := [(3, .int v7), (0, .ref (ad 0 0)), (1, .int x1), (2, .int x2), (4, .int x4)]) S0.1 S0.2.1 dX9_children_48 rfl hl (by decide) rfl (fun ls hl => ?_)
    refine q_iinc S0 (v0 := 1) dX9_children_49 hl (k := 4) rfl (by decide) (by decide) rfl hf (fun v8 ls hl hf => ?_)
    refine lv_goto (tgt := 5) S0.1 S0.2.1 dX9_children_52 (by decide) ?_
    exact hk5 x1 x2 v7 v8 σ hf _ _ _ hw (lv_sub hl [2, 3, 4, 1, 0] rfl)
  have b46 : ∀ (k5 : Int32 → Int32 → Int32 → Int32 → qS → Option (Int32 × qS)) (hk5 : ∀ (x1 : Int32) (x2 : Int32) (x3 : Int32) (x4 : Int32) (σ : qS), k5 x1 x2 x3 x4 σ = some r0 → qAt p l e (qRm 0 0) s m ([.ref (ad 0 0), .int p1, .int p2] : List Value).toArray below meth c Q D (mL Y) (qT Y) A ad 5 0 0 5 [(0, .ref (ad 0 0)), (1, .int x1), (2, .int x2), (3, .int x3), (4, .int x4)] [] σ) (x1 : Int32) (x2 : Int32) (x4 : Int32) (t0 : Int32) (σ : qS), fX9_children_46 F k5 x1 x2 x4 t0 σ = some r0 → qAt p l e (qRm 0 0) s m ([.ref (ad 0 0), .int p1, .int p2] : List Value).toArray below meth c Q D (mL Y) (qT Y) A ad 5 0 0 46 [(0, .ref (ad 0 0)), (1, .int x1), (2, .int x2), (4, .int x4)] [.int t0] σ := by
    clear hf hw hl ls
    intro k5 hk5
    intro x1 x2 x4 t0 σ hf H locs ls hw hl
    unfold fX9_children_46 at hf
    refine lv_iconst (v := 0) S0.1 S0.2.1 dX9_children_46 (by decide) ?_
    exact b47 k5 hk5 x1 x2 x4 t0 0 σ hf _ _ _ hw (lv_sub hl [0, 1, 2, 3] rfl)
  have b5 : ∀ (n : Nat) (x1 : Int32) (x2 : Int32) (x3 : Int32) (x4 : Int32) (σ : qS), fX9_children_5 F n x1 x2 x3 x4 σ = some r0 → qAt p l e (qRm 0 0) s m ([.ref (ad 0 0), .int p1, .int p2] : List Value).toArray below meth c Q D (mL Y) (qT Y) A ad 5 0 0 5 [(0, .ref (ad 0 0)), (1, .int x1), (2, .int x2), (3, .int x3), (4, .int x4)] [] σ := by
    clear hf hw hl ls
    intro n
    induction n with
    | zero => intro x1 x2 x3 x4 σ hf; exact absurd hf (by rw [fX9_children_5]; exact nofun)
    | succ n hk5 =>
      intro x1 x2 x3 x4 σ hf H locs ls hw hl
      rw [fX9_children_5] at hf
      refine lv_iload S0.1 S0.2.1 dX9_children_5 (lv_at hl 4 rfl) ?_
      refine lv_aload_n S0.1 S0.2.1 dX9_children_7 rfl (lv_at hl 0 rfl) ?_
      refine gX9_nodes S0 hw kw_1155 dX9_children_8 hf (fun v1 hf => ?_)
      refine lv_icmp_ge (tgt := 55) S0.1 S0.2.1 dX9_children_11 (by decide) (fun c2 => ?_) (fun c2 => ?_)
      · replace hf := q_pos c2 hf
        refine lv_iload_n S0.1 S0.2.1 dX9_children_55 rfl (lv_at hl 3 rfl) ?_
        exact hret dX9_children_56 hw hf
      · replace hf := q_neg c2 hf
        refine lv_iload_n S0.1 S0.2.1 dX9_children_14 rfl (lv_at hl 3 rfl) ?_
        refine lv_aload_n S0.1 S0.2.1 dX9_children_15 rfl (lv_at hl 0 rfl) ?_
        refine gX9_is S0 hw kw_1156 dX9_children_16 ?_
        refine lv_bipush (v := 80) S0.1 S0.2.1 dX9_children_19 (by decide) ?_
        refine lv_iload_n S0.1 S0.2.1 dX9_children_21 rfl (lv_at hl 1 rfl) ?_
        refine lv_imul S0.1 S0.2.1 dX9_children_22 (q_top hf (fun v3 hf => ?_))
        refine lv_iload S0.1 S0.2.1 dX9_children_23 (lv_at hl 4 rfl) ?_
        refine lv_iadd S0.1 S0.2.1 dX9_children_25 (q_top hf (fun v4 hf => ?_))
        refine q_iald S0 hw dM_108 (t0 := 0) rfl rfl dX9_children_26 hf (fun v5 hf => ?_)
        refine lv_iconst (v := 1) S0.1 S0.2.1 dX9_children_27 (by decide) ?_
        refine lv_icmp_ne (tgt := 46) S0.1 S0.2.1 dX9_children_28 (by decide) (fun c6 => ?_) (fun c6 => ?_)
        · replace hf := q_neg c6 hf
          exact b46 (fX9_children_5 F n) hk5 x1 x2 x4 x3 σ hf _ _ _ hw (lv_sub hl [0, 1, 2, 4] rfl)
        · replace hf := q_pos c6 hf
          refine lv_aload_n S0.1 S0.2.1 dX9_children_31 rfl (lv_at hl 0 rfl) ?_
          refine gX9_parent S0 hw kw_1148 dX9_children_32 ?_
          refine lv_iload S0.1 S0.2.1 dX9_children_35 (lv_at hl 4 rfl) ?_
          refine q_iald S0 hw dM_100 (t0 := 0) rfl rfl dX9_children_37 hf (fun v9 hf => ?_)
          refine lv_iload_n S0.1 S0.2.1 dX9_children_38 rfl (lv_at hl 2 rfl) ?_
          refine lv_icmp_ne (tgt := 46) S0.1 S0.2.1 dX9_children_39 (by decide) (fun c10 => ?_) (fun c10 => ?_)
          · replace hf := q_neg c10 hf
            exact b46 (fX9_children_5 F n) hk5 x1 x2 x4 x3 σ hf _ _ _ hw (lv_sub hl [0, 1, 2, 4] rfl)
          · replace hf := q_pos c10 hf
            refine lv_iconst (v := 1) S0.1 S0.2.1 dX9_children_42 (by decide) ?_
            refine lv_goto (tgt := 47) S0.1 S0.2.1 dX9_children_43 (by decide) ?_
            exact b47 (fX9_children_5 F n) hk5 x1 x2 x4 x3 1 σ hf _ _ _ hw (lv_sub hl [0, 1, 2, 4] rfl)
  refine lv_iconst (v := 0) S0.1 S0.2.1 dX9_children_0 (by decide) ?_
  refine lv_istore_n (lv' := [(3, .int 0), (0, .ref (ad 0 0)), (1, .int p1), (2, .int p2)]) S0.1 S0.2.1 dX9_children_1 rfl hl (by decide) rfl (fun ls hl => ?_)
  refine lv_iconst (v := 1) S0.1 S0.2.1 dX9_children_2 (by decide) ?_
  refine lv_istore (lv' := [(4, .int 1), (3, .int 0), (0, .ref (ad 0 0)), (1, .int p1), (2, .int p2)]) S0.1 S0.2.1 dX9_children_3 hl (by decide) rfl (fun ls hl => ?_)
  exact b5 F p1 p2 0 1 σ hf _ _ _ hw (lv_sub hl [2, 3, 4, 1, 0] rfl)
